def shB (bw : Bool) (gt : Nat → Int32) (nt pp : Nat) (lim : Int32) : Bool := decide (pp < nt) && decide (twF bw gt nt pp < lim)
theorem shB_out (bw : Bool) (gt : Nat → Int32) {nt pp : Nat} (lim : Int32) (h : nt ≤ pp) : shB bw gt nt pp lim = false := by unfold shB; rw [decide_eq_false (by omega)]; rfl
theorem shB_no {bw : Bool} {gt : Nat → Int32} {nt pp : Nat} {lim : Int32} (_ : pp < nt) (h : lim ≤ twF bw gt nt pp) : shB bw gt nt pp lim = false := by unfold shB; rw [decide_eq_false (Int32.not_lt.mpr h), Bool.and_false]
theorem shB_yes {bw : Bool} {gt : Nat → Int32} {nt pp : Nat} {lim : Int32} (h1 : pp < nt) (h : ¬ lim ≤ twF bw gt nt pp) : shB bw gt nt pp lim = true := by unfold shB; rw [decide_eq_true h1, decide_eq_true (Int32.not_le.mp h)]; rfl
theorem shB_t {bw : Bool} {gt : Nat → Int32} {nt pp : Nat} {lim : Int32} (h : shB bw gt nt pp lim = true) : pp < nt ∧ twF bw gt nt pp < lim := by
  unfold shB at h; simp only [Bool.and_eq_true, decide_eq_true_eq] at h; exact h
theorem shB_f {bw : Bool} {gt : Nat → Int32} {nt pp : Nat} {lim : Int32} (h : shB bw gt nt pp lim = false) (h1 : pp < nt) : ¬ twF bw gt nt pp < lim := fun q => by
  unfold shB at h; rw [decide_eq_true h1, decide_eq_true q] at h; exact absurd h (by decide)
theorem fclk_m (F : Nat → Int32) {n i k : Nat} {acc : Int32} (hk : k = min 4 n) (h2 : 0 < n) (h1 : i = min 4 n) (ha : acc = sumL (lst F i)) : acc / nI k = fclk (lst F n) := by
  rw [hk]; exact (fclk_n F h1 h2 ha).symm
def bN (b : Bool) : Nat := if b then 0 else 1
def lbI (bb : Bool) (full : IL × Int32 × Bool) (B : IL) (c : Int32) (cont : IL × Int32 × Bool) : Prop := match bb with
  | false => full = preB B cont
  | true => full = (B, c, false)
theorem lb_long {bw : Bool} {gt : Nat → Int32} {nt i : Nat} {r f c : Int32} {B : IL} {full : IL × Int32 × Bool} (hR : lbI false full B c (rdB r f c ((lst (twF bw gt nt) nt).drop i))) (h : shB bw gt nt i (c * r / nI 100) = false) (hi : i < nt) :
    lbI false full (B ++ [nI 0]) ((c * (nI 100 - f) + (twF bw gt nt i + nI 0) * f) / nI 100) (rdB r f ((c * (nI 100 - f) + (twF bw gt nt i + nI 0) * f) / nI 100) ((lst (twF bw gt nt) nt).drop (i + (1 + 0)))) := by
  have e : full = preB B (rdB r f c ((lst (twF bw gt nt) nt).drop i)) := hR
  show full = _
  rw [e, drop_lst _ hi, rdB_long _ (shB_f h hi), preB_app, show twF bw gt nt i + nI 0 = twF bw gt nt i from Int32.add_zero _]
  rfl
theorem lb_two {bw : Bool} {gt : Nat → Int32} {nt i : Nat} {r f c : Int32} {B : IL} {full : IL × Int32 × Bool} (hR : lbI false full B c (rdB r f c ((lst (twF bw gt nt) nt).drop i))) (h : shB bw gt nt i (c * r / nI 100) = true) (h2 : shB bw gt nt (i + 1) (c * r / nI 100) = true) :
    lbI false full (B ++ [nI 1]) ((c * (nI 100 - f) + (twF bw gt nt i + twF bw gt nt (i + 1)) * f) / nI 100) (rdB r f ((c * (nI 100 - f) + (twF bw gt nt i + twF bw gt nt (i + 1)) * f) / nI 100) ((lst (twF bw gt nt) nt).drop (i + (1 + 1)))) := by
  have e : full = preB B (rdB r f c ((lst (twF bw gt nt) nt).drop i)) := hR
  show full = _
  rw [e, drop_lst _ (shB_t h).1, drop_lst _ (shB_t h2).1, rdB_two _ (shB_t h).2 (shB_t h2).2, preB_app]
  rfl
theorem lb_brk {bw : Bool} {gt : Nat → Int32} {nt i : Nat} {r f c : Int32} {B : IL} {full : IL × Int32 × Bool} (hR : lbI false full B c (rdB r f c ((lst (twF bw gt nt) nt).drop i))) (h : shB bw gt nt i (c * r / nI 100) = true) (h2 : shB bw gt nt (i + 1) (c * r / nI 100) = false) :
    lbI true full B c (rdB r f c ((lst (twF bw gt nt) nt).drop i)) := by
  have e : full = preB B (rdB r f c ((lst (twF bw gt nt) nt).drop i)) := hR
  show full = _
  have h1 := (shB_t h).1
  rcases Nat.lt_or_ge (i + 1) nt with q | q
  · rw [e, drop_lst _ h1, drop_lst _ q, rdB_br1 _ (shB_t h).2 (shB_f h2 q)]; simp [preB]
  · rw [e, drop_lst _ h1, drop_end _ q, rdB_br0 (shB_t h).2]; simp [preB]
theorem lb_fin {bw bb : Bool} {gt : Nat → Int32} {nt i : Nat} {r f c : Int32} {B : IL} {full : IL × Int32 × Bool} (hR : lbI bb full B c (rdB r f c ((lst (twF bw gt nt) nt).drop i))) (h : nt ≤ i) : full = (B, c, !bb) := by
  cases bb with
  | false =>
    have e : full = preB B (rdB r f c ((lst (twF bw gt nt) nt).drop i)) := hR
    rw [e, drop_end _ h]; simp [rdB, preB]
  | true => exact hR
theorem lb_finb {full : IL × Int32 × Bool} {B : IL} {c : Int32} {cont : IL × Int32 × Bool} (hR : lbI true full B c cont) : full = (B, c, false) := hR
def okS (f : Nat → Int32) (n pp : Nat) : Nat → Bool
  | 0 => decide (pp + 5 ≤ n)
  | k + 1 => okS f n pp k && decide (f (pp + k) = (grp (nI 11)).getD k 0)
theorem okS_0t (f : Nat → Int32) {n pp : Nat} (h : pp + 5 ≤ n) : okS f n pp 0 = true := decide_eq_true h
theorem okS_0f (f : Nat → Int32) {n pp : Nat} (h : n < pp + 5) : okS f n pp 0 = false := decide_eq_false (by omega)
theorem okS_len {f : Nat → Int32} {n pp : Nat} : ∀ {k : Nat}, okS f n pp k = true → pp + 5 ≤ n
  | 0, h => of_decide_eq_true h
  | k + 1, h => by simp only [okS, Bool.and_eq_true] at h; exact okS_len h.1
theorem okS_t {f : Nat → Int32} {n pp k : Nat} {bb : Bool} (hb : bb = okS f n pp k) (hbt : bb = true) (h : f (pp + k) = (grp (nI 11)).getD k 0) : true = okS f n pp (k + 1) := by
  simp only [okS]; rw [← hb, hbt, decide_eq_true h]; rfl
theorem okS_f {f : Nat → Int32} {n pp k : Nat} (h : ¬ f (pp + k) = (grp (nI 11)).getD k 0) : false = okS f n pp (k + 1) := by
  simp only [okS]; rw [decide_eq_false h, Bool.and_false]
theorem okS_mono {f : Nat → Int32} {n pp : Nat} : ∀ {k q : Nat}, okS f n pp k = false → k ≤ q → okS f n pp q = false
  | k, 0, h, hq => by obtain rfl : k = 0 := by omega
                      exact h
  | k, q + 1, h, hq => by
    rcases Nat.eq_or_lt_of_le hq with e | e
    · rw [← e]; exact h
    · simp only [okS]; rw [okS_mono h (by omega)]; rfl
theorem okS_5 (f : Nat → Int32) (n pp : Nat) : okS f n pp 5 = okSt f n pp := by
  simp only [okS, okSt]
  rw [show (grp (nI 11)).getD 0 0 = nI 1 from by decide, show (grp (nI 11)).getD 1 0 = nI 1 from by decide, show (grp (nI 11)).getD 2 0 = nI 0 from by decide, show (grp (nI 11)).getD 3 0 = nI 1 from by decide, show (grp (nI 11)).getD 4 0 = nI 0 from by decide]
  simp only [Bool.decide_and, Bool.and_assoc, Nat.add_zero]
theorem okS_end {f : Nat → Int32} {n pp k : Nat} {bb : Bool} (hb : bb = okS f n pp k) (h1 : k ≤ 5) (h2 : 5 ≤ k) : bb = okSt f n pp := by
  obtain rfl : k = 5 := by omega
  rw [hb, okS_5]
theorem okS_stop {f : Nat → Int32} {n pp k : Nat} {bb : Bool} (hb : bb = okS f n pp k) (h1 : k ≤ 5) (h : bb = false) : bb = okSt f n pp := by
  rw [← okS_5, okS_mono (hb.symm.trans h) h1, h]
def fsI (f : Nat → Int32) (n q : Nat) (sw : Int32) : Prop := (sw = -1 ∧ ∀ x, q ≤ x → okSt f n x = false) ∨ ∃ x, sw = nI x ∧ q ≤ x ∧ okSt f n x = true ∧ ∀ y, q ≤ y → y < x → okSt f n y = false
theorem okSt_hi {f : Nat → Int32} {n x : Nat} (h : n < x + 5) : okSt f n x = false := by
  cases hb : okSt f n x
  · rfl
  · have := okSt_len hb; omega
theorem fsI_0 {f : Nat → Int32} {n : Nat} (h : 5 ≤ n) : fsI f n (n - 5 + 1) (-1) := Or.inl ⟨rfl, fun x hx => okSt_hi (by omega)⟩
theorem fsI_yes {f : Nat → Int32} {n q : Nat} (_ : 1 ≤ q) (h : okSt f n (q - 1) = true) : fsI f n (q - 1) (nI (q - 1)) := Or.inr ⟨q - 1, rfl, Nat.le_refl _, h, fun y h1 h2 => absurd h2 (by omega)⟩
theorem fsI_no {f : Nat → Int32} {n q : Nat} {sw : Int32} (hq : 1 ≤ q) (hs : fsI f n q sw) (h : okSt f n (q - 1) = false) : fsI f n (q - 1) sw := by
  have key : ∀ y, q - 1 ≤ y → ¬ q ≤ y → okSt f n y = false := fun y h1 h2 => by
    obtain rfl : y = q - 1 := by omega
    exact h
  rcases hs with ⟨h1, h2⟩ | ⟨x, h1, h2, h3, h4⟩
  · refine Or.inl ⟨h1, fun x hx => ?_⟩
    by_cases hq2 : q ≤ x
    · exact h2 x hq2
    · exact key x hx hq2
  · refine Or.inr ⟨x, h1, by omega, h3, fun y hy hyx => ?_⟩
    by_cases hq2 : q ≤ y
    · exact h4 y hq2 hyx
    · exact key y hy hq2
theorem fsI_end {f : Nat → Int32} {n q : Nat} {sw : Int32} (hs : fsI f n q sw) (h : q = 0) : sw = stI f n := by
  subst h
  rcases hs with ⟨h1, h2⟩ | ⟨x, h1, h2, h3, h4⟩
  · rw [h1, stI_none (fun y => h2 y (Nat.zero_le _))]
  · rw [h1, stI_yes h3 (fun y hy => h4 y (Nat.zero_le _) hy)]
theorem fsI_lo {f : Nat → Int32} {n : Nat} (h : n < 5) : stI f n = -1 := stI_none fun y => okSt_hi (by omega)
theorem ni_pm (x : Int32) : x + (-1) = x - nI 1 := by rw [Int32.sub_eq_add_neg]; rfl
theorem fs_pl {pl : Int32} {q : Nat} (hq : pl = nI q - nI 1) (h : ¬ pl < 0) (h2 : q ≤ 200) : 1 ≤ q ∧ pl = nI (q - 1) := by
  rcases Nat.eq_zero_or_pos q with h0 | h0
  · subst h0; exact absurd (by rw [hq]; decide) h
  · exact ⟨h0, by rw [hq, pk_sub h0]⟩
theorem fs_q0 {pl : Int32} {q : Nat} (hq : pl = nI q - nI 1) (h : pl < 0) (h2 : q ≤ 200) : q = 0 := by
  rcases Nat.eq_zero_or_pos q with h0 | h0
  · exact h0
  · rw [hq, pk_sub h0] at h; exact absurd h (nI_pos (by omega))
theorem num_4 {b0 b1 b2 b3 : Int32} (h0 : b0 = nI 0 ∨ b0 = nI 1) (h1 : b1 = nI 0 ∨ b1 = nI 1) (h2 : b2 = nI 0 ∨ b2 = nI 1) (h3 : b3 = nI 0 ∨ b3 = nI 1) :
    b0 + nI 2 * b1 + nI 4 * b2 + nI 8 * b3 = nI 0 + b0 <<< (nI 0 &&& 31) + b1 <<< (nI 1 &&& 31) + b2 <<< (nI 2 &&& 31) + b3 <<< (nI 3 &&& 31) := by
  rcases h0 with rfl | rfl <;> rcases h1 with rfl | rfl <;> rcases h2 with rfl | rfl <;> rcases h3 with rfl | rfl <;> decide
theorem odd_5 {b0 b1 b2 b3 b4 : Int32} (h0 : b0 = nI 0 ∨ b0 = nI 1) (h1 : b1 = nI 0 ∨ b1 = nI 1) (h2 : b2 = nI 0 ∨ b2 = nI 1) (h3 : b3 = nI 0 ∨ b3 = nI 1) (h4 : b4 = nI 0 ∨ b4 = nI 1) :
    (onesI (nI 0 + b0 <<< (nI 0 &&& 31) + b1 <<< (nI 1 &&& 31) + b2 <<< (nI 2 &&& 31) + b3 <<< (nI 3 &&& 31)) + b4 - (onesI (nI 0 + b0 <<< (nI 0 &&& 31) + b1 <<< (nI 1 &&& 31) + b2 <<< (nI 2 &&& 31) + b3 <<< (nI 3 &&& 31)) + b4) / nI 2 * nI 2 = nI 1) ↔ (nI 0 + b0 + b1 + b2 + b3 + b4) &&& nI 1 = nI 1 := by
  rcases h0 with rfl | rfl <;> rcases h1 with rfl | rfl <;> rcases h2 with rfl | rfl <;> rcases h3 with rfl | rfl <;> rcases h4 with rfl | rfl <;> decide
theorem num_m {f : Nat → Int32} {n st g : Nat} (h01 : ∀ k, k < n → f k = nI 0 ∨ f k = nI 1) (hg : gp st g + 5 ≤ n) : f (gp st g) + nI 2 * f (gp st g + 1) + nI 4 * f (gp st g + 2) + nI 8 * f (gp st g + 3) = numG f (gp st g) :=
  num_4 (h01 _ (by omega)) (h01 _ (by omega)) (h01 _ (by omega)) (h01 _ (by omega))
theorem odd_m {f : Nat → Int32} {n st g : Nat} (h01 : ∀ k, k < n → f k = nI 0 ∨ f k = nI 1) (hg : gp st g + 5 ≤ n) : (onesI (numG f (gp st g)) + f (st + 9 + 5 * g) - (onesI (numG f (gp st g)) + f (st + 9 + 5 * g)) / nI 2 * nI 2 = nI 1) ↔ oddG f (gp st g) = true := by
  rw [show st + 9 + 5 * g = gp st g + 4 from by unfold gp; omega]
  refine (odd_5 (b0 := f (gp st g)) (b1 := f (gp st g + 1)) (b2 := f (gp st g + 2)) (b3 := f (gp st g + 3)) (b4 := f (gp st g + 4)) (h01 _ (by omega)) (h01 _ (by omega)) (h01 _ (by omega)) (h01 _ (by omega)) (h01 _ (by omega))).trans ?_
  exact (decide_eq_true_iff (p := oneS f (gp st g) 5 &&& nI 1 = nI 1)).symm
theorem odd_mt {f : Nat → Int32} {n st g : Nat} (h01 : ∀ k, k < n → f k = nI 0 ∨ f k = nI 1) (hg : gp st g + 5 ≤ n) (h : onesI (numG f (gp st g)) + f (st + 9 + 5 * g) - (onesI (numG f (gp st g)) + f (st + 9 + 5 * g)) / nI 2 * nI 2 = nI 1) : oddG f (gp st g) = true := (odd_m h01 hg).mp h
theorem odd_mf {f : Nat → Int32} {n st g : Nat} (h01 : ∀ k, k < n → f k = nI 0 ∨ f k = nI 1) (hg : gp st g + 5 ≤ n) (h : ¬ onesI (numG f (gp st g)) + f (st + 9 + 5 * g) - (onesI (numG f (gp st g)) + f (st + 9 + 5 * g)) / nI 2 * nI 2 = nI 1) : oddG f (gp st g) = false := Bool.eq_false_iff.mpr (mt (odd_m h01 hg).mpr h)
def xorL (x : Int32) (l : IL) : Int32 := l.foldl (fun a b => a ^^^ b) x
theorem xorL_app (x : Int32) (l : IL) (y : Int32) : xorL x (l ++ [y]) = xorL x l ^^^ y := by simp [xorL]
theorem xor_0 {x y : Int32} : x ^^^ y = 0 ↔ x = y := Int32.xor_eq_zero_iff
theorem xorL_x (x : Int32) : ∀ (l : IL) (a : Int32), xorL (a ^^^ x) l = x ^^^ xorL a l
  | [], a => Int32.xor_comm a x
  | b :: l, a => by
    show xorL (a ^^^ x ^^^ b) l = x ^^^ xorL (a ^^^ b) l
    rw [← xorL_x x l (a ^^^ b), Int32.xor_assoc, Int32.xor_comm x b, ← Int32.xor_assoc]
theorem xorL_0 (x : Int32) (l : IL) : xorL (nI 4 ^^^ x) l = 0 ↔ x = chkL l := by
  rw [xorL_x]; exact xor_0
theorem rsn_a {f : Nat → Int32} {n st nl : Nat} {l : IL} (h : decide (gp st nl + 5 ≤ n) = false) : rsn f n st nl l = nI 3 := if_pos (of_decide_eq_false h)
theorem rsn_b {f : Nat → Int32} {n st nl : Nat} {l : IL} (h : decide (gp st nl + 5 ≤ n) = true) (h2 : oddG f (gp st nl) = false) : rsn f n st nl l = nI 2 := by
  unfold rsn; rw [if_neg (fun q => q (of_decide_eq_true h)), if_pos h2]
theorem rsn_c {f : Nat → Int32} {n st nl : Nat} {l : IL} (h : decide (gp st nl + 5 ≤ n) = true) (h2 : oddG f (gp st nl) = true) (h3 : decide (gp st (nl + 1) + 5 ≤ n) = false) : rsn f n st nl l = nI 3 := by
  unfold rsn; rw [if_neg (fun q => q (of_decide_eq_true h)), if_neg (by rw [h2]; decide), if_pos (of_decide_eq_false h3)]
theorem rsn_d {f : Nat → Int32} {n st nl : Nat} {l : IL} (h : decide (gp st nl + 5 ≤ n) = true) (h2 : oddG f (gp st nl) = true) (h3 : decide (gp st (nl + 1) + 5 ≤ n) = true) (h4 : oddG f (gp st (nl + 1)) = false) : rsn f n st nl l = nI 2 := by
  unfold rsn; rw [if_neg (fun q => q (of_decide_eq_true h)), if_neg (by rw [h2]; decide), if_neg (fun q => q (of_decide_eq_true h3)), if_pos h4]
theorem rsn_o {f : Nat → Int32} {n st nl : Nat} {l : IL} (h : decide (gp st nl + 5 ≤ n) = true) (h2 : oddG f (gp st nl) = true) (h3 : decide (gp st (nl + 1) + 5 ≤ n) = true) (h4 : oddG f (gp st (nl + 1)) = true) : rsn f n st nl l = if ¬ numG f (gp st (nl + 1)) = chkL l then nI 4 else if nl = 0 then nI 6 else nI 0 := by
  unfold rsn; rw [if_neg (fun q => q (of_decide_eq_true h)), if_neg (by rw [h2]; decide), if_neg (fun q => q (of_decide_eq_true h3)), if_neg (by rw [h4]; decide)]
theorem rsn_e {f fe : Nat → Int32} {n st nl i : Nat} {acc : Int32} (h : decide (gp st nl + 5 ≤ n) = true) (h2 : oddG f (gp st nl) = true) (h3 : decide (gp st (nl + 1) + 5 ≤ n) = true) (h4 : oddG f (gp st (nl + 1)) = true) (ha : acc = xorL (nI 4 ^^^ numG f (gp st (nl + 1))) (lst fe i)) (hi : i = nl) (h5 : ¬ acc = 0) : rsn f n st nl (lst fe nl) = nI 4 := by
  subst hi; rw [rsn_o h h2 h3 h4, if_pos (fun q => h5 (by rw [ha]; exact (xorL_0 _ _).mpr q))]
theorem rsn_f {f fe : Nat → Int32} {n st nl i : Nat} {acc : Int32} (h : decide (gp st nl + 5 ≤ n) = true) (h2 : oddG f (gp st nl) = true) (h3 : decide (gp st (nl + 1) + 5 ≤ n) = true) (h4 : oddG f (gp st (nl + 1)) = true) (ha : acc = xorL (nI 4 ^^^ numG f (gp st (nl + 1))) (lst fe i)) (hi : i = nl) (h5 : acc = 0) (h0 : nl = 0) : rsn f n st nl (lst fe nl) = nI 6 := by
  subst hi; rw [rsn_o h h2 h3 h4, if_neg (fun q => q ((xorL_0 _ _).mp (ha.symm.trans h5))), if_pos h0]
theorem rsn_g {f fe : Nat → Int32} {n st nl i : Nat} {acc : Int32} (h : decide (gp st nl + 5 ≤ n) = true) (h2 : oddG f (gp st nl) = true) (h3 : decide (gp st (nl + 1) + 5 ≤ n) = true) (h4 : oddG f (gp st (nl + 1)) = true) (ha : acc = xorL (nI 4 ^^^ numG f (gp st (nl + 1))) (lst fe i)) (hi : i = nl) (h5 : acc = 0) (h0 : 0 < nl) : rsn f n st nl (lst fe nl) = nI 0 := by
  subst hi; rw [rsn_o h h2 h3 h4, if_neg (fun q => q ((xorL_0 _ _).mp (ha.symm.trans h5))), if_neg (by omega)]
abbrev rm_kX6_timeAt : Room := { frames := 0, cells := 0, slots := 0, locals := 0 }
set_option maxHeartbeats 4000000 in
set_option maxRecDepth 100000 in
theorem kX6_timeAt (l : Launch) (D : va_G) (ca : Nat → ClassId) (om a1 a2 a3 a4 a5 a6 a7 a8 a9 : Nat) (thr sv ln bm br ck sa lm rs at_ tm : Int32) (hs : Int64) (z : Nat) (r f j : Int32) (nt nl : Nat) (gl gt : Nat → Int32) (pp : Nat) (bw : Bool) (hnt : nt ≤ 200) (hnl : nl ≤ 20) (hz : z ≤ 30) (hp : pp < nt) : Met l yX6_timeAt wsX6_timeAt rm_kX6_timeAt (pcR D ca [.ref om, .int (nI pp), .int (bI bw)] [(om, .inr (6, [.int thr, .ref a1, .ref a2, .ref a3, .int sv, .ref a4, .ref a5, .ref a6, .int ln, .ref a7, .int bm, .int br, .int ck, .int sa, .ref a8, .int lm, .int rs, .int at_, .ref a9, .int tm, .long hs])), (a1, .inl (ca 0, 226, .inl (sF z r f j nt nl gl gt)))]) (vp_Si (fun zr : Int32 => zr = twF bw gt nt pp)) 0 0 (fun _ => False) := by
  refine Met.ofW (cc := cX6_timeAt) (maxL := 3) (ret := (some .int)) (by decide) rfl ?_
  intro p e s m args below meth c s₁ B hml hv
  obtain ⟨rfl, hP, hK⟩ := hv
  have hx := B.exec
  have hb := B.bytes
  have hr := B.returns
  have hts := atoms_spec (ws := wsX6_timeAt) B.pre
  have hown : s.vm.findClass RX6 = some m.cls := findClass_of_methodNamed B.named
  have hlocks := B.notSynchronized
  have hKv := hK.1
  have hl := lv_entry ([.ref om, .int (nI pp), .int (bI bw)]) (n := 3) (kk_le rfl)
  rw [lg_entry_eq]
  generalize (lg_sl ([.ref om, .int (nI pp), .int (bI bw)]) ++ List.replicate (3 - (lg_sl ([.ref om, .int (nI pp), .int (bI bw)])).length) Slot.unset).toArray = ls at hl ⊢
  have hl : lv_has ls 3 [(0, .ref om), (1, .int (nI pp)), (2, .int (bI bw))] := hl
  have hiX6 : ∀ w ∈ u_ws RX6 TX6 21, w ∈ wsX6_timeAt := fun w h => by first | exact List.mem_cons_of_mem _ (List.mem_append_right _ h) | exact List.mem_cons_of_mem _ (List.mem_append_left _ (List.mem_append_right _ h)) | exact List.mem_cons_of_mem _ (List.mem_append_left _ (List.mem_append_left _ (List.mem_append_right _ h))) | exact List.mem_cons_of_mem _ (List.mem_append_left _ (List.mem_append_left _ (List.mem_append_left _ (List.mem_append_right _ h)))) | (revert w h; decide +kernel)
  have lk7 : (Cond.fieldLink RX6 7 "StripeSwipesModel" "s" "[I").before _ s = true := hts _ (by decide +kernel)
  refine lv_aload_n hx hb dX6_timeAt_0 rfl (lv_at hl 0 rfl) ?_
  refine va_get (D := D) (ci := 6) (C := RX6) (T := TX6) (N := 21) hx hb hts hiX6 hown hKv hP 0 rfl rfl 1 (by decide) lk7 (fun _ h9 => h9) rfl dX6_timeAt_1 ?_
  refine lv_bipush (v := nI 26) hx hb dX6_timeAt_4 (by decide) ?_
  refine lv_iload_n hx hb dX6_timeAt_6 rfl (lv_at hl 2 rfl) ?_
  refine bi_if_eq (tgt := 23) hx hb dX6_timeAt_7 (by decide) (fun c1 => ?_) (fun c1 => ?_)
  · refine lv_iload_n hx hb dX6_timeAt_23 rfl (lv_at hl 1 rfl) ?_
    refine ni_iadd hx hb dX6_timeAt_24 ?_
    refine my_iald hx hb hK hP 1 rfl (by omega) (by omega) dX6_timeAt_25 ?_
    rw [show sF z r f j nt nl gl gt (26 + pp) = gt pp from sF_gt _ _ _ _ _ _ _ _ (by omega)]
    exact W.iret (v := gt pp) hx hb hr (fun t ht _ => ⟨_, rfl, by first | exact (twF_t gt nt pp (by assumption)).symm | exact (twF_f gt nt pp (by assumption)).symm, ht⟩) (fun _ h => nomatch h) dX6_timeAt_26
  · refine lv_aload_n hx hb dX6_timeAt_10 rfl (lv_at hl 0 rfl) ?_
    refine va_get (D := D) (ci := 6) (C := RX6) (T := TX6) (N := 21) hx hb hts hiX6 hown hKv hP 0 rfl rfl 1 (by decide) lk7 (fun _ h9 => h9) rfl dX6_timeAt_11 ?_
    refine lv_iconst (v := nI 4) hx hb dX6_timeAt_14 (by decide) ?_
    refine my_iald hx hb hK hP 1 rfl (by omega) (by omega) dX6_timeAt_15 ?_
    rw [show sF z r f j nt nl gl gt 4 = nI nt from rfl]
    refine lv_iconst (v := nI 1) hx hb dX6_timeAt_16 (by decide) ?_
    refine ni_isub (by omega) hx hb dX6_timeAt_17 ?_
    refine lv_iload_n hx hb dX6_timeAt_18 rfl (lv_at hl 1 rfl) ?_
    refine ni_isub (by omega) hx hb dX6_timeAt_19 ?_
    refine lv_goto (tgt := 24) hx hb dX6_timeAt_20 (by decide) ?_
    refine ni_iadd hx hb dX6_timeAt_24 ?_
    refine my_iald hx hb hK hP 1 rfl (by omega) (by omega) dX6_timeAt_25 ?_
    rw [show sF z r f j nt nl gl gt (26 + ((nt - 1) - pp)) = gt ((nt - 1) - pp) from sF_gt _ _ _ _ _ _ _ _ (by omega)]
    exact W.iret (v := gt ((nt - 1) - pp)) hx hb hr (fun t ht _ => ⟨_, rfl, by first | exact (twF_t gt nt pp (by assumption)).symm | exact (twF_f gt nt pp (by assumption)).symm, ht⟩) (fun _ h => nomatch h) dX6_timeAt_26
abbrev rm_kX6_isShort : Room := { frames := 1, cells := 0, slots := 0, locals := 22 }
set_option maxHeartbeats 4000000 in
set_option maxRecDepth 100000 in
theorem kX6_isShort (l : Launch) (D : va_G) (ca : Nat → ClassId) (om a1 a2 a3 a4 a5 a6 a7 a8 a9 : Nat) (thr sv ln bm br ck sa lm rs at_ tm : Int32) (hs : Int64) (z : Nat) (r f j : Int32) (nt nl : Nat) (gl gt : Nat → Int32) (pp : Nat) (bw : Bool) (hnt : nt ≤ 200) (hnl : nl ≤ 20) (hz : z ≤ 30) (hpp : pp ≤ 1000) : Met l yX6_isShort wsX6_isShort rm_kX6_isShort (pcR D ca [.ref om, .int (nI pp), .int (bI bw)] [(om, .inr (6, [.int thr, .ref a1, .ref a2, .ref a3, .int sv, .ref a4, .ref a5, .ref a6, .int ln, .ref a7, .int bm, .int br, .int ck, .int sa, .ref a8, .int lm, .int rs, .int at_, .ref a9, .int tm, .long hs])), (a1, .inl (ca 0, 226, .inl (sF z r f j nt nl gl gt)))]) (vp_Si (fun zr : Int32 => zr = bI (shB bw gt nt pp (ck * r / nI 100)))) 0 0 (fun _ => False) := by
  refine Met.ofW (cc := cX6_isShort) (maxL := 3) (ret := (some .boolean)) (by decide) rfl ?_
  intro p e s m args below meth c s₁ B hml hv
  obtain ⟨rfl, hP, hK⟩ := hv
  have hx := B.exec
  have hb := B.bytes
  have hr := B.returns
  have hts := atoms_spec (ws := wsX6_isShort) B.pre
  have hown : s.vm.findClass RX6 = some m.cls := findClass_of_methodNamed B.named
  have hlocks := B.notSynchronized
  have hKv := hK.1
  have hl := lv_entry ([.ref om, .int (nI pp), .int (bI bw)]) (n := 3) (kk_le rfl)
  rw [lg_entry_eq]
  generalize (lg_sl ([.ref om, .int (nI pp), .int (bI bw)]) ++ List.replicate (3 - (lg_sl ([.ref om, .int (nI pp), .int (bI bw)])).length) Slot.unset).toArray = ls at hl ⊢
  have hl : lv_has ls 3 [(0, .ref om), (1, .int (nI pp)), (2, .int (bI bw))] := hl
  have hiX6 : ∀ w ∈ u_ws RX6 TX6 21, w ∈ wsX6_isShort := fun w h => by first | exact List.mem_cons_of_mem _ (List.mem_append_right _ h) | exact List.mem_cons_of_mem _ (List.mem_append_left _ (List.mem_append_right _ h)) | exact List.mem_cons_of_mem _ (List.mem_append_left _ (List.mem_append_left _ (List.mem_append_right _ h))) | exact List.mem_cons_of_mem _ (List.mem_append_left _ (List.mem_append_left _ (List.mem_append_left _ (List.mem_append_right _ h)))) | (revert w h; decide +kernel)
  have lk7 : (Cond.fieldLink RX6 7 "StripeSwipesModel" "s" "[I").before _ s = true := hts _ (by decide +kernel)
  have lk74 : (Cond.fieldLink RX6 74 "StripeSwipesModel" "clock" "I").before _ s = true := hts _ (by decide +kernel)
  refine lv_iload_n hx hb dX6_isShort_0 rfl (lv_at hl 1 rfl) ?_
  refine lv_aload_n hx hb dX6_isShort_1 rfl (lv_at hl 0 rfl) ?_
  refine va_get (D := D) (ci := 6) (C := RX6) (T := TX6) (N := 21) hx hb hts hiX6 hown hKv hP 0 rfl rfl 1 (by decide) lk7 (fun _ h9 => h9) rfl dX6_isShort_2 ?_
  refine lv_iconst (v := nI 4) hx hb dX6_isShort_5 (by decide) ?_
  refine my_iald hx hb hK hP 1 rfl (by omega) (by omega) dX6_isShort_6 ?_
  rw [show sF z r f j nt nl gl gt 4 = nI nt from rfl]
  refine ni_icmp_ge (tgt := 37) (by omega) (by omega) hx hb dX6_isShort_7 (by decide) (fun c1 => ?_) (fun c1 => ?_)
  · refine lv_iconst (v := nI 0) hx hb dX6_isShort_37 (by decide) ?_
    exact W.zret (v := nI 0) hx hb hr (by first | rfl | exact bI_nar _ | exact bI_fit _ | (first | exact Or.inl rfl | exact Or.inr rfl)) (fun t ht _ => ⟨_, rfl, by first | exact (congrArg bI (shB_out bw gt _ (by omega))).symm | exact (congrArg bI (shB_no (by assumption) (by assumption))).symm | exact (congrArg bI (shB_yes (by assumption) (by assumption))).symm, ht⟩) (fun _ h => nomatch h) dX6_isShort_38
  · refine lv_aload_n hx hb dX6_isShort_10 rfl (lv_at hl 0 rfl) ?_
    refine lv_iload_n hx hb dX6_isShort_11 rfl (lv_at hl 1 rfl) ?_
    refine lv_iload_n hx hb dX6_isShort_12 rfl (lv_at hl 2 rfl) ?_
    refine vp_callSi (va_Run.run (va_runV (As := [.int (nI pp), .int (bI bw)]) (rest := []) ⟨hx, hb, hml, hown, hts⟩ (kX6_timeAt l D ca om a1 a2 a3 a4 a5 a6 a7 a8 a9 thr sv ln bm br ck sa lm rs at_ tm hs z r f j nt nl gl gt pp bw (by first | rfl | assumption | omega | trivial | (exfalso; omega)) (by first | rfl | assumption | omega | trivial | (exfalso; omega)) (by first | rfl | assumption | omega | trivial | (exfalso; omega)) (by first | rfl | assumption | omega | trivial | (exfalso; omega))) (cwV 2 hts gX6_isShort_X6_timeAt rfl rfl rfl (by decide +kernel) ⟨kk_le rfl, kk_le rfl⟩) (pvR hK hP (va_recv hKv hP (ci := 6) (q0 := 0) rfl rfl)) rfl rfl hl.1 rfl (lv_room (kk_le rfl)) dX6_isShort_13 ⟨kk_le rfl, kk_le rfl⟩)) (fun r2 hr2 => ?_)
    subst hr2
    refine lv_aload_n hx hb dX6_isShort_16 rfl (lv_at hl 0 rfl) ?_
    refine va_get (D := D) (ci := 6) (C := RX6) (T := TX6) (N := 21) hx hb hts hiX6 hown hKv hP 0 rfl rfl 12 (by decide) lk74 (fun _ h9 => h9) rfl dX6_isShort_17 ?_
    refine lv_aload_n hx hb dX6_isShort_20 rfl (lv_at hl 0 rfl) ?_
    refine va_get (D := D) (ci := 6) (C := RX6) (T := TX6) (N := 21) hx hb hts hiX6 hown hKv hP 0 rfl rfl 1 (by decide) lk7 (fun _ h9 => h9) rfl dX6_isShort_21 ?_
    refine lv_iconst (v := nI 1) hx hb dX6_isShort_24 (by decide) ?_
    refine my_iald hx hb hK hP 1 rfl (by omega) (by omega) dX6_isShort_25 ?_
    rw [show sF z r f j nt nl gl gt 1 = r from rfl]
    refine lv_imul hx hb dX6_isShort_26 ?_
    refine lv_bipush (v := nI 100) hx hb dX6_isShort_27 (by decide) ?_
    refine lv_idiv hx hb dX6_isShort_29 (by first | decide | assumption | exact nI_ne0 (by omega) (by omega)) ?_
    refine lv_icmp_ge (tgt := 37) hx hb dX6_isShort_30 (by decide) (fun c3 => ?_) (fun c3 => ?_)
    · refine lv_iconst (v := nI 0) hx hb dX6_isShort_37 (by decide) ?_
      exact W.zret (v := nI 0) hx hb hr (by first | rfl | exact bI_nar _ | exact bI_fit _ | (first | exact Or.inl rfl | exact Or.inr rfl)) (fun t ht _ => ⟨_, rfl, by first | exact (congrArg bI (shB_out bw gt _ (by omega))).symm | exact (congrArg bI (shB_no (by assumption) (by assumption))).symm | exact (congrArg bI (shB_yes (by assumption) (by assumption))).symm, ht⟩) (fun _ h => nomatch h) dX6_isShort_38
    · refine lv_iconst (v := nI 1) hx hb dX6_isShort_33 (by decide) ?_
      refine lv_goto (tgt := 38) hx hb dX6_isShort_34 (by decide) ?_
      exact W.zret (v := nI 1) hx hb hr (by first | rfl | exact bI_nar _ | exact bI_fit _ | (first | exact Or.inl rfl | exact Or.inr rfl)) (fun t ht _ => ⟨_, rfl, by first | exact (congrArg bI (shB_out bw gt _ (by omega))).symm | exact (congrArg bI (shB_no (by assumption) (by assumption))).symm | exact (congrArg bI (shB_yes (by assumption) (by assumption))).symm, ht⟩) (fun _ h => nomatch h) dX6_isShort_38
abbrev rm_kX6_firstClock : Room := { frames := 1, cells := 0, slots := 0, locals := 22 }
set_option maxHeartbeats 4000000 in
set_option maxRecDepth 100000 in
theorem kX6_firstClock (l : Launch) (D : va_G) (ca : Nat → ClassId) (sz : Nat) (om a1 a2 a3 a4 a5 a6 a7 a8 a9 : Nat) (thr sv ln bm br ck sa lm rs at_ tm : Int32) (hs : Int64) (z : Nat) (r f j : Int32) (nt nl : Nat) (gl gt : Nat → Int32) (bw : Bool) (hnt : nt ≤ 200) (hnl : nl ≤ 20) (hz : z ≤ 30) : Met l yX6_firstClock wsX6_firstClock rm_kX6_firstClock (pcM D ca [.ref om, .int (bI bw)] [(om, .inr (6, [.int thr, .ref a1, .ref a2, .ref a3, .int sv, .ref a4, .ref a5, .ref a6, .int ln, .ref a7, .int bm, .int br, .int ck, .int sa, .ref a8, .int lm, .int rs, .int at_, .ref a9, .int tm, .long hs])), (a1, .inl (ca 0, 226, .inl (sF z r f j nt nl gl gt)))] sz) (va_Qv (fun (u : Unit) => True) (qB D (va_A [(om, .inr (6, [.int thr, .ref a1, .ref a2, .ref a3, .int sv, .ref a4, .ref a5, .ref a6, .int ln, .ref a7, .int bm, .int br, .int ck, .int sa, .ref a8, .int lm, .int rs, .int at_, .ref a9, .int tm, .long hs])), (a1, .inl (ca 0, 226, .inl (sF z r f j nt nl gl gt)))] sz) (fun u : Unit => [(om, .inr (6, [.int thr, .ref a1, .ref a2, .ref a3, .int sv, .ref a4, .ref a5, .ref a6, .int ln, .ref a7, .int bm, .int br, .int (fclk (lst (twF bw gt nt) nt)), .int sa, .ref a8, .int lm, .int rs, .int at_, .ref a9, .int tm, .long hs])), (a1, .inl (ca 0, 226, .inl (sF z r f j nt nl gl gt)))])) (va_A [(om, .inr (6, [.int thr, .ref a1, .ref a2, .ref a3, .int sv, .ref a4, .ref a5, .ref a6, .int ln, .ref a7, .int bm, .int br, .int ck, .int sa, .ref a8, .int lm, .int rs, .int at_, .ref a9, .int tm, .long hs])), (a1, .inl (ca 0, 226, .inl (sF z r f j nt nl gl gt)))] sz)) 0 0 (va_A [(om, .inr (6, [.int thr, .ref a1, .ref a2, .ref a3, .int sv, .ref a4, .ref a5, .ref a6, .int ln, .ref a7, .int bm, .int br, .int ck, .int sa, .ref a8, .int lm, .int rs, .int at_, .ref a9, .int tm, .long hs])), (a1, .inl (ca 0, 226, .inl (sF z r f j nt nl gl gt)))] sz) := by
  refine Met.ofW (cc := cX6_firstClock) (maxL := 5) (ret := none) (by decide) rfl ?_
  intro p e s m args below meth c s₁ B hml hv
  obtain ⟨rfl, hsz, hP, hK, hD0⟩ := hv
  have hx := B.exec
  have hb := B.bytes
  have hr := B.returns
  have hts := atoms_spec (ws := wsX6_firstClock) B.pre
  have hown : s.vm.findClass RX6 = some m.cls := findClass_of_methodNamed B.named
  have hlocks := B.notSynchronized
  subst hsz
  have hD := hD0.self (sz := s.heap.size)
  generalize hAe : va_A [(om, .inr (6, [.int thr, .ref a1, .ref a2, .ref a3, .int sv, .ref a4, .ref a5, .ref a6, .int ln, .ref a7, .int bm, .int br, .int ck, .int sa, .ref a8, .int lm, .int rs, .int at_, .ref a9, .int tm, .long hs])), (a1, .inl (ca 0, 226, .inl (sF z r f j nt nl gl gt)))] s.heap.size = A at hD ⊢
  have hA : ∀ q : Nat, s.heap.size ≤ q → A q := fun q h => by rw [← hAe]; exact Or.inr h
  have hS : va_S A s.heap s.heap [] := va_S.rf
  have hP : va_P D vwCl [(om, .inr (6, [.int thr, .ref a1, .ref a2, .ref a3, .int sv, .ref a4, .ref a5, .ref a6, .int ln, .ref a7, .int bm, .int br, .int ck, .int sa, .ref a8, .int lm, .int rs, .int at_, .ref a9, .int tm, .long hs])), (a1, .inl (ca 0, 226, .inl (sF z r f j nt nl gl gt)))] s.heap := hP
  have hKv := hK.1
  have hl := lv_entry ([.ref om, .int (bI bw)]) (n := 5) (kk_le rfl)
  rw [lg_entry_eq]
  generalize (lg_sl ([.ref om, .int (bI bw)]) ++ List.replicate (5 - (lg_sl ([.ref om, .int (bI bw)])).length) Slot.unset).toArray = ls at hl ⊢
  have hl : lv_has ls 5 [(0, .ref om), (1, .int (bI bw))] := hl
  generalize hQz : MQ below _ _ _ _ _ _ = Qz
  have hiX6 : ∀ w ∈ u_ws RX6 TX6 21, w ∈ wsX6_firstClock := fun w h => by first | exact List.mem_cons_of_mem _ (List.mem_append_right _ h) | exact List.mem_cons_of_mem _ (List.mem_append_left _ (List.mem_append_right _ h)) | exact List.mem_cons_of_mem _ (List.mem_append_left _ (List.mem_append_left _ (List.mem_append_right _ h))) | exact List.mem_cons_of_mem _ (List.mem_append_left _ (List.mem_append_left _ (List.mem_append_left _ (List.mem_append_right _ h)))) | (revert w h; decide +kernel)
  have lk7 : (Cond.fieldLink RX6 7 "StripeSwipesModel" "s" "[I").before _ s = true := hts _ (by decide +kernel)
  have lk74 : (Cond.fieldLink RX6 74 "StripeSwipesModel" "clock" "I").before _ s = true := hts _ (by decide +kernel)
  refine lv_aload_n hx hb dX6_firstClock_0 rfl (lv_at hl 0 rfl) ?_
  refine va_get (D := D) (ci := 6) (C := RX6) (T := TX6) (N := 21) hx hb hts hiX6 hown hKv hP 0 rfl rfl 1 (by decide) lk7 (fun _ h9 => h9) rfl dX6_firstClock_1 ?_
  refine lv_iconst (v := nI 4) hx hb dX6_firstClock_4 (by decide) ?_
  refine my_iald hx hb hK hP 1 rfl (by omega) (by omega) dX6_firstClock_5 ?_
  rw [show sF z r f j nt nl gl gt 4 = nI nt from rfl]
  refine lv_iconst (v := nI 4) hx hb dX6_firstClock_6 (by decide) ?_
  refine ni_icmp_ge (tgt := 19) (by omega) (by omega) hx hb dX6_firstClock_7 (by decide) (fun c1 => ?_) (fun c1 => ?_)
  · refine lv_iconst (v := nI 4) hx hb dX6_firstClock_19 (by decide) ?_
    refine lv_istore_n (lv' := [(2, .int (nI 4)), (0, .ref om), (1, .int (bI bw))]) hx hb dX6_firstClock_20 rfl hl (by decide) rfl (fun ls hl => ?_)
    refine lv_iconst (v := nI 0) hx hb dX6_firstClock_21 (by decide) ?_
    refine lv_istore_n (lv' := [(3, .int (nI 0)), (2, .int (nI 4)), (0, .ref om), (1, .int (bI bw))]) hx hb dX6_firstClock_22 rfl hl (by decide) rfl (fun ls hl => ?_)
    refine lv_iconst (v := nI 0) hx hb dX6_firstClock_23 (by decide) ?_
    refine lv_istore (lv' := [(4, .int (nI 0)), (3, .int (nI 0)), (2, .int (nI 4)), (0, .ref om), (1, .int (bI bw))]) hx hb dX6_firstClock_24 hl (by decide) rfl (fun ls hl => ?_)
    have lp26_1 : ∀ (k1 : Nat) (i : Nat) (acc : Int32), min 4 nt - i < k1 → (i ≤ min 4 nt) → (acc = sumL (lst (twF bw gt nt) i)) → ∀ (H : Heap) (locs : List Loc), va_P D vwCl [(om, .inr (6, [.int thr, .ref a1, .ref a2, .ref a3, .int sv, .ref a4, .ref a5, .ref a6, .int ln, .ref a7, .int bm, .int br, .int ck, .int sa, .ref a8, .int lm, .int rs, .int at_, .ref a9, .int tm, .long hs])), (a1, .inl (ca 0, 226, .inl (sF z r f j nt nl gl gt)))] H → va_D A [(om, .inr (6, [.int thr, .ref a1, .ref a2, .ref a3, .int sv, .ref a4, .ref a5, .ref a6, .int ln, .ref a7, .int bm, .int br, .int ck, .int sa, .ref a8, .int lm, .int rs, .int at_, .ref a9, .int tm, .long hs])), (a1, .inl (ca 0, 226, .inl (sF z r f j nt nl gl gt)))] → va_S A s.heap H locs → ∀ (ls : Array Slot), lv_has ls 5 [(4, .int (nI i)), (3, .int acc), (2, .int (nI 4)), (0, .ref om), (1, .int (bI bw))] → W p l e rm_kX6_firstClock s m ([.ref om, .int (bI bw)] : List Value).toArray below meth c H locs 0 0 Qz (F0 m 26 ls []) := by
      intro k1
      induction k1 with
      | zero => intro i acc hm1; exact absurd hm1 (Nat.not_lt_zero _)
      | succ k1 ih1 =>
        intro i acc hm1 hi ha H locs hP hD hS ls hl
        refine lv_iload hx hb dX6_firstClock_26 (lv_at hl 0 rfl) ?_
        refine lv_iload_n hx hb dX6_firstClock_28 rfl (lv_at hl 2 rfl) ?_
        refine ni_icmp_ge (tgt := 48) (by omega) (by omega) hx hb dX6_firstClock_29 (by decide) (fun c3 => ?_) (fun c3 => ?_)
        · refine lv_aload_n hx hb dX6_firstClock_48 rfl (lv_at hl 3 rfl) ?_
          refine lv_iload_n hx hb dX6_firstClock_49 rfl (lv_at hl 2 rfl) ?_
          refine ni_if_ne (tgt := 57) (by omega) hx hb dX6_firstClock_50 (by decide) (fun c4 => ?_) (fun c4 => ?_)
          · refine lv_iload_n hx hb dX6_firstClock_57 rfl (lv_at hl 1 rfl) ?_
            refine lv_iload_n hx hb dX6_firstClock_58 rfl (lv_at hl 2 rfl) ?_
            refine lv_idiv hx hb dX6_firstClock_59 (by first | decide | assumption | exact nI_ne0 (by omega) (by omega)) ?_
            refine va_put (D := D) (ci := 6) (v := .int (acc / (nI 4))) (ty := .int) (C := RX6) (T := TX6) (N := 21) hx hb hts hiX6 tyX6 tyX6_ok nmX6 hown hKv hP hD hS 0 rfl rfl 12 (by decide) lk74 (fun _ h9 => h9) rfl (by decide +kernel) rfl rfl (kk_le rfl) dX6_firstClock_60 (fun H locs hP hD hS => ?_)
            have hP : va_P D vwCl [(om, .inr (6, [.int thr, .ref a1, .ref a2, .ref a3, .int sv, .ref a4, .ref a5, .ref a6, .int ln, .ref a7, .int bm, .int br, .int (acc / (nI 4)), .int sa, .ref a8, .int lm, .int rs, .int at_, .ref a9, .int tm, .long hs])), (a1, .inl (ca 0, 226, .inl (sF z r f j nt nl gl gt)))] H := hP
            have hD : va_D A [(om, .inr (6, [.int thr, .ref a1, .ref a2, .ref a3, .int sv, .ref a4, .ref a5, .ref a6, .int ln, .ref a7, .int bm, .int br, .int (acc / (nI 4)), .int sa, .ref a8, .int lm, .int rs, .int at_, .ref a9, .int tm, .long hs])), (a1, .inl (ca 0, 226, .inl (sF z r f j nt nl gl gt)))] := hD
            subst hQz
            have e5 : (acc / (nI 4) : Int32) = fclk (lst (twF bw gt nt) nt) := by first | exact (fclk_0 _ (by omega)).symm | exact fclk_m _ (by omega) (by omega) (by omega) ha
            have hP : va_P D vwCl [(om, .inr (6, [.int thr, .ref a1, .ref a2, .ref a3, .int sv, .ref a4, .ref a5, .ref a6, .int ln, .ref a7, .int bm, .int br, .int (fclk (lst (twF bw gt nt) nt)), .int sa, .ref a8, .int lm, .int rs, .int at_, .ref a9, .int tm, .long hs])), (a1, .inl (ca 0, 226, .inl (sF z r f j nt nl gl gt)))] H := Eq.mp (congrArg (fun z9 : Int32 => va_P D vwCl [(om, .inr (6, [.int thr, .ref a1, .ref a2, .ref a3, .int sv, .ref a4, .ref a5, .ref a6, .int ln, .ref a7, .int bm, .int br, .int z9, .int sa, .ref a8, .int lm, .int rs, .int at_, .ref a9, .int tm, .long hs])), (a1, .inl (ca 0, 226, .inl (sF z r f j nt nl gl gt)))] H) e5) hP
            have hD : va_D A [(om, .inr (6, [.int thr, .ref a1, .ref a2, .ref a3, .int sv, .ref a4, .ref a5, .ref a6, .int ln, .ref a7, .int bm, .int br, .int (fclk (lst (twF bw gt nt) nt)), .int sa, .ref a8, .int lm, .int rs, .int at_, .ref a9, .int tm, .long hs])), (a1, .inl (ca 0, 226, .inl (sF z r f j nt nl gl gt)))] := Eq.mp (congrArg (fun z9 : Int32 => va_D A [(om, .inr (6, [.int thr, .ref a1, .ref a2, .ref a3, .int sv, .ref a4, .ref a5, .ref a6, .int ln, .ref a7, .int bm, .int br, .int z9, .int sa, .ref a8, .int lm, .int rs, .int at_, .ref a9, .int tm, .long hs])), (a1, .inl (ca 0, 226, .inl (sF z r f j nt nl gl gt)))]) e5) hD
            exact W.vret hx hb hr (fun t ht hW => ⟨⟨(), rfl, by trivial, by rw [ht]; exact hP, hD⟩, hS.F ht⟩) hS.2.2 dX6_firstClock_63
          · first | exact False.elim c4 | exact absurd c4 (by decide) | (exfalso; omega)
        · refine lv_iload_n hx hb dX6_firstClock_32 rfl (lv_at hl 1 rfl) ?_
          refine lv_aload_n hx hb dX6_firstClock_33 rfl (lv_at hl 3 rfl) ?_
          refine lv_iload hx hb dX6_firstClock_34 (lv_at hl 0 rfl) ?_
          refine lv_iload_n hx hb dX6_firstClock_36 rfl (lv_at hl 4 rfl) ?_
          refine vp_callSi (va_Run.run (va_runV (As := [.int (nI i), .int (bI bw)]) (rest := [.int acc]) ⟨hx, hb, hml, hown, hts⟩ (kX6_timeAt l D ca om a1 a2 a3 a4 a5 a6 a7 a8 a9 thr sv ln bm br ck sa lm rs at_ tm hs z r f j nt nl gl gt i bw (by first | rfl | assumption | omega | trivial | (exfalso; omega)) (by first | rfl | assumption | omega | trivial | (exfalso; omega)) (by first | rfl | assumption | omega | trivial | (exfalso; omega)) (by first | rfl | assumption | omega | trivial | (exfalso; omega))) (cwV 2 hts gX6_firstClock_X6_timeAt rfl rfl rfl (by decide +kernel) ⟨kk_le rfl, kk_le rfl⟩) (pvR hK hP (va_recv hKv hP (ci := 6) (q0 := 0) rfl rfl)) rfl rfl hl.1 rfl (lv_room (kk_le rfl)) dX6_firstClock_37 ⟨kk_le rfl, kk_le rfl⟩)) (fun r6 hr6 => ?_)
          subst hr6
          refine lv_iadd hx hb dX6_firstClock_40 ?_
          refine lv_istore_n (lv' := [(3, .int (acc + (twF bw gt nt i))), (4, .int (nI i)), (2, .int (nI 4)), (0, .ref om), (1, .int (bI bw))]) hx hb dX6_firstClock_41 rfl hl (by decide) rfl (fun ls hl => ?_)
          refine lv_iinc (v := nI (i + 1)) (lv' := [(4, .int (nI (i + 1))), (3, .int (acc + (twF bw gt nt i))), (2, .int (nI 4)), (0, .ref om), (1, .int (bI bw))]) hx hb dX6_firstClock_42 hl (k := 1) rfl (ni_inc _ _ (by decide)) (by decide) rfl (fun ls hl => ?_)
          refine lv_goto (tgt := 26) hx hb dX6_firstClock_45 (by decide) ?_
          exact ih1 (i + 1) (acc + (twF bw gt nt i)) (by omega) (by omega) (by rw [ha, lst_succ, sumL_app]) _ _ hP hD hS ls (lv_sub hl [0, 1, 2, 3, 4] rfl)
    exact lp26_1 ((min 4 nt - 0) + 1) 0 (nI 0) (by omega) (by omega) (by rfl) _ _ hP hD hS ls (lv_sub hl [0, 1, 2, 3, 4] rfl)
  · refine lv_aload_n hx hb dX6_firstClock_10 rfl (lv_at hl 0 rfl) ?_
    refine va_get (D := D) (ci := 6) (C := RX6) (T := TX6) (N := 21) hx hb hts hiX6 hown hKv hP 0 rfl rfl 1 (by decide) lk7 (fun _ h9 => h9) rfl dX6_firstClock_11 ?_
    refine lv_iconst (v := nI 4) hx hb dX6_firstClock_14 (by decide) ?_
    refine my_iald hx hb hK hP 1 rfl (by omega) (by omega) dX6_firstClock_15 ?_
    rw [show sF z r f j nt nl gl gt 4 = nI nt from rfl]
    refine lv_goto (tgt := 20) hx hb dX6_firstClock_16 (by decide) ?_
    refine lv_istore_n (lv' := [(2, .int (nI nt)), (0, .ref om), (1, .int (bI bw))]) hx hb dX6_firstClock_20 rfl hl (by decide) rfl (fun ls hl => ?_)
    refine lv_iconst (v := nI 0) hx hb dX6_firstClock_21 (by decide) ?_
    refine lv_istore_n (lv' := [(3, .int (nI 0)), (2, .int (nI nt)), (0, .ref om), (1, .int (bI bw))]) hx hb dX6_firstClock_22 rfl hl (by decide) rfl (fun ls hl => ?_)
    refine lv_iconst (v := nI 0) hx hb dX6_firstClock_23 (by decide) ?_
    refine lv_istore (lv' := [(4, .int (nI 0)), (3, .int (nI 0)), (2, .int (nI nt)), (0, .ref om), (1, .int (bI bw))]) hx hb dX6_firstClock_24 hl (by decide) rfl (fun ls hl => ?_)
    have lp26_6 : ∀ (k2 : Nat) (i : Nat) (acc : Int32), min 4 nt - i < k2 → (i ≤ min 4 nt) → (acc = sumL (lst (twF bw gt nt) i)) → ∀ (H : Heap) (locs : List Loc), va_P D vwCl [(om, .inr (6, [.int thr, .ref a1, .ref a2, .ref a3, .int sv, .ref a4, .ref a5, .ref a6, .int ln, .ref a7, .int bm, .int br, .int ck, .int sa, .ref a8, .int lm, .int rs, .int at_, .ref a9, .int tm, .long hs])), (a1, .inl (ca 0, 226, .inl (sF z r f j nt nl gl gt)))] H → va_D A [(om, .inr (6, [.int thr, .ref a1, .ref a2, .ref a3, .int sv, .ref a4, .ref a5, .ref a6, .int ln, .ref a7, .int bm, .int br, .int ck, .int sa, .ref a8, .int lm, .int rs, .int at_, .ref a9, .int tm, .long hs])), (a1, .inl (ca 0, 226, .inl (sF z r f j nt nl gl gt)))] → va_S A s.heap H locs → ∀ (ls : Array Slot), lv_has ls 5 [(4, .int (nI i)), (3, .int acc), (2, .int (nI nt)), (0, .ref om), (1, .int (bI bw))] → W p l e rm_kX6_firstClock s m ([.ref om, .int (bI bw)] : List Value).toArray below meth c H locs 0 0 Qz (F0 m 26 ls []) := by
      intro k2
      induction k2 with
      | zero => intro i acc hm2; exact absurd hm2 (Nat.not_lt_zero _)
      | succ k2 ih2 =>
        intro i acc hm2 hi ha H locs hP hD hS ls hl
        refine lv_iload hx hb dX6_firstClock_26 (lv_at hl 0 rfl) ?_
        refine lv_iload_n hx hb dX6_firstClock_28 rfl (lv_at hl 2 rfl) ?_
        refine ni_icmp_ge (tgt := 48) (by omega) (by omega) hx hb dX6_firstClock_29 (by decide) (fun c8 => ?_) (fun c8 => ?_)
        · refine lv_aload_n hx hb dX6_firstClock_48 rfl (lv_at hl 3 rfl) ?_
          refine lv_iload_n hx hb dX6_firstClock_49 rfl (lv_at hl 2 rfl) ?_
          refine ni_if_ne (tgt := 57) (by omega) hx hb dX6_firstClock_50 (by decide) (fun c9 => ?_) (fun c9 => ?_)
          · refine lv_iload_n hx hb dX6_firstClock_57 rfl (lv_at hl 1 rfl) ?_
            refine lv_iload_n hx hb dX6_firstClock_58 rfl (lv_at hl 2 rfl) ?_
            refine lv_idiv hx hb dX6_firstClock_59 (by first | decide | assumption | exact nI_ne0 (by omega) (by omega)) ?_
            refine va_put (D := D) (ci := 6) (v := .int (acc / (nI nt))) (ty := .int) (C := RX6) (T := TX6) (N := 21) hx hb hts hiX6 tyX6 tyX6_ok nmX6 hown hKv hP hD hS 0 rfl rfl 12 (by decide) lk74 (fun _ h9 => h9) rfl (by decide +kernel) rfl rfl (kk_le rfl) dX6_firstClock_60 (fun H locs hP hD hS => ?_)
            have hP : va_P D vwCl [(om, .inr (6, [.int thr, .ref a1, .ref a2, .ref a3, .int sv, .ref a4, .ref a5, .ref a6, .int ln, .ref a7, .int bm, .int br, .int (acc / (nI nt)), .int sa, .ref a8, .int lm, .int rs, .int at_, .ref a9, .int tm, .long hs])), (a1, .inl (ca 0, 226, .inl (sF z r f j nt nl gl gt)))] H := hP
            have hD : va_D A [(om, .inr (6, [.int thr, .ref a1, .ref a2, .ref a3, .int sv, .ref a4, .ref a5, .ref a6, .int ln, .ref a7, .int bm, .int br, .int (acc / (nI nt)), .int sa, .ref a8, .int lm, .int rs, .int at_, .ref a9, .int tm, .long hs])), (a1, .inl (ca 0, 226, .inl (sF z r f j nt nl gl gt)))] := hD
            subst hQz
            have e10 : (acc / (nI nt) : Int32) = fclk (lst (twF bw gt nt) nt) := by first | exact (fclk_0 _ (by omega)).symm | exact fclk_m _ (by omega) (by omega) (by omega) ha
            have hP : va_P D vwCl [(om, .inr (6, [.int thr, .ref a1, .ref a2, .ref a3, .int sv, .ref a4, .ref a5, .ref a6, .int ln, .ref a7, .int bm, .int br, .int (fclk (lst (twF bw gt nt) nt)), .int sa, .ref a8, .int lm, .int rs, .int at_, .ref a9, .int tm, .long hs])), (a1, .inl (ca 0, 226, .inl (sF z r f j nt nl gl gt)))] H := Eq.mp (congrArg (fun z9 : Int32 => va_P D vwCl [(om, .inr (6, [.int thr, .ref a1, .ref a2, .ref a3, .int sv, .ref a4, .ref a5, .ref a6, .int ln, .ref a7, .int bm, .int br, .int z9, .int sa, .ref a8, .int lm, .int rs, .int at_, .ref a9, .int tm, .long hs])), (a1, .inl (ca 0, 226, .inl (sF z r f j nt nl gl gt)))] H) e10) hP
            have hD : va_D A [(om, .inr (6, [.int thr, .ref a1, .ref a2, .ref a3, .int sv, .ref a4, .ref a5, .ref a6, .int ln, .ref a7, .int bm, .int br, .int (fclk (lst (twF bw gt nt) nt)), .int sa, .ref a8, .int lm, .int rs, .int at_, .ref a9, .int tm, .long hs])), (a1, .inl (ca 0, 226, .inl (sF z r f j nt nl gl gt)))] := Eq.mp (congrArg (fun z9 : Int32 => va_D A [(om, .inr (6, [.int thr, .ref a1, .ref a2, .ref a3, .int sv, .ref a4, .ref a5, .ref a6, .int ln, .ref a7, .int bm, .int br, .int z9, .int sa, .ref a8, .int lm, .int rs, .int at_, .ref a9, .int tm, .long hs])), (a1, .inl (ca 0, 226, .inl (sF z r f j nt nl gl gt)))]) e10) hD
            exact W.vret hx hb hr (fun t ht hW => ⟨⟨(), rfl, by trivial, by rw [ht]; exact hP, hD⟩, hS.F ht⟩) hS.2.2 dX6_firstClock_63
          · refine lv_iconst (v := nI 0) hx hb dX6_firstClock_53 (by decide) ?_
            refine lv_goto (tgt := 60) hx hb dX6_firstClock_54 (by decide) ?_
            refine va_put (D := D) (ci := 6) (v := .int (nI 0)) (ty := .int) (C := RX6) (T := TX6) (N := 21) hx hb hts hiX6 tyX6 tyX6_ok nmX6 hown hKv hP hD hS 0 rfl rfl 12 (by decide) lk74 (fun _ h9 => h9) rfl (by decide +kernel) rfl rfl (kk_le rfl) dX6_firstClock_60 (fun H locs hP hD hS => ?_)
            have hP : va_P D vwCl [(om, .inr (6, [.int thr, .ref a1, .ref a2, .ref a3, .int sv, .ref a4, .ref a5, .ref a6, .int ln, .ref a7, .int bm, .int br, .int (nI 0), .int sa, .ref a8, .int lm, .int rs, .int at_, .ref a9, .int tm, .long hs])), (a1, .inl (ca 0, 226, .inl (sF z r f j nt nl gl gt)))] H := hP
            have hD : va_D A [(om, .inr (6, [.int thr, .ref a1, .ref a2, .ref a3, .int sv, .ref a4, .ref a5, .ref a6, .int ln, .ref a7, .int bm, .int br, .int (nI 0), .int sa, .ref a8, .int lm, .int rs, .int at_, .ref a9, .int tm, .long hs])), (a1, .inl (ca 0, 226, .inl (sF z r f j nt nl gl gt)))] := hD
            subst hQz
            have e11 : (nI 0 : Int32) = fclk (lst (twF bw gt nt) nt) := by first | exact (fclk_0 _ (by omega)).symm | exact fclk_m _ (by omega) (by omega) (by omega) ha
            have hP : va_P D vwCl [(om, .inr (6, [.int thr, .ref a1, .ref a2, .ref a3, .int sv, .ref a4, .ref a5, .ref a6, .int ln, .ref a7, .int bm, .int br, .int (fclk (lst (twF bw gt nt) nt)), .int sa, .ref a8, .int lm, .int rs, .int at_, .ref a9, .int tm, .long hs])), (a1, .inl (ca 0, 226, .inl (sF z r f j nt nl gl gt)))] H := Eq.mp (congrArg (fun z9 : Int32 => va_P D vwCl [(om, .inr (6, [.int thr, .ref a1, .ref a2, .ref a3, .int sv, .ref a4, .ref a5, .ref a6, .int ln, .ref a7, .int bm, .int br, .int z9, .int sa, .ref a8, .int lm, .int rs, .int at_, .ref a9, .int tm, .long hs])), (a1, .inl (ca 0, 226, .inl (sF z r f j nt nl gl gt)))] H) e11) hP
            have hD : va_D A [(om, .inr (6, [.int thr, .ref a1, .ref a2, .ref a3, .int sv, .ref a4, .ref a5, .ref a6, .int ln, .ref a7, .int bm, .int br, .int (fclk (lst (twF bw gt nt) nt)), .int sa, .ref a8, .int lm, .int rs, .int at_, .ref a9, .int tm, .long hs])), (a1, .inl (ca 0, 226, .inl (sF z r f j nt nl gl gt)))] := Eq.mp (congrArg (fun z9 : Int32 => va_D A [(om, .inr (6, [.int thr, .ref a1, .ref a2, .ref a3, .int sv, .ref a4, .ref a5, .ref a6, .int ln, .ref a7, .int bm, .int br, .int z9, .int sa, .ref a8, .int lm, .int rs, .int at_, .ref a9, .int tm, .long hs])), (a1, .inl (ca 0, 226, .inl (sF z r f j nt nl gl gt)))]) e11) hD
            exact W.vret hx hb hr (fun t ht hW => ⟨⟨(), rfl, by trivial, by rw [ht]; exact hP, hD⟩, hS.F ht⟩) hS.2.2 dX6_firstClock_63
        · refine lv_iload_n hx hb dX6_firstClock_32 rfl (lv_at hl 1 rfl) ?_
          refine lv_aload_n hx hb dX6_firstClock_33 rfl (lv_at hl 3 rfl) ?_
          refine lv_iload hx hb dX6_firstClock_34 (lv_at hl 0 rfl) ?_
          refine lv_iload_n hx hb dX6_firstClock_36 rfl (lv_at hl 4 rfl) ?_
          refine vp_callSi (va_Run.run (va_runV (As := [.int (nI i), .int (bI bw)]) (rest := [.int acc]) ⟨hx, hb, hml, hown, hts⟩ (kX6_timeAt l D ca om a1 a2 a3 a4 a5 a6 a7 a8 a9 thr sv ln bm br ck sa lm rs at_ tm hs z r f j nt nl gl gt i bw (by first | rfl | assumption | omega | trivial | (exfalso; omega)) (by first | rfl | assumption | omega | trivial | (exfalso; omega)) (by first | rfl | assumption | omega | trivial | (exfalso; omega)) (by first | rfl | assumption | omega | trivial | (exfalso; omega))) (cwV 2 hts gX6_firstClock_X6_timeAt rfl rfl rfl (by decide +kernel) ⟨kk_le rfl, kk_le rfl⟩) (pvR hK hP (va_recv hKv hP (ci := 6) (q0 := 0) rfl rfl)) rfl rfl hl.1 rfl (lv_room (kk_le rfl)) dX6_firstClock_37 ⟨kk_le rfl, kk_le rfl⟩)) (fun r12 hr12 => ?_)
          subst hr12
          refine lv_iadd hx hb dX6_firstClock_40 ?_
          refine lv_istore_n (lv' := [(3, .int (acc + (twF bw gt nt i))), (4, .int (nI i)), (2, .int (nI nt)), (0, .ref om), (1, .int (bI bw))]) hx hb dX6_firstClock_41 rfl hl (by decide) rfl (fun ls hl => ?_)
          refine lv_iinc (v := nI (i + 1)) (lv' := [(4, .int (nI (i + 1))), (3, .int (acc + (twF bw gt nt i))), (2, .int (nI nt)), (0, .ref om), (1, .int (bI bw))]) hx hb dX6_firstClock_42 hl (k := 1) rfl (ni_inc _ _ (by decide)) (by decide) rfl (fun ls hl => ?_)
          refine lv_goto (tgt := 26) hx hb dX6_firstClock_45 (by decide) ?_
          exact ih2 (i + 1) (acc + (twF bw gt nt i)) (by omega) (by omega) (by rw [ha, lst_succ, sumL_app]) _ _ hP hD hS ls (lv_sub hl [0, 1, 2, 3, 4] rfl)
    exact lp26_6 ((min 4 nt - 0) + 1) 0 (nI 0) (by omega) (by omega) (by rfl) _ _ hP hD hS ls (lv_sub hl [0, 1, 2, 3, 4] rfl)
abbrev rm_kX6_laysBits : Room := { frames := 2, cells := 0, slots := 0, locals := 46 }
set_option maxHeartbeats 4000000 in
set_option maxRecDepth 100000 in
theorem kX6_laysBits (l : Launch) (D : va_G) (ca : Nat → ClassId) (sz : Nat) (om a1 a2 a3 a4 a5 a6 a7 a8 a9 : Nat) (thr sv ln bm br ck sa lm rs at_ tm : Int32) (hs : Int64) (z : Nat) (r f j : Int32) (nt nl : Nat) (gl gt : Nat → Int32) (fi : Nat → Int32) (bw : Bool) (hnt : nt ≤ 200) (hnl : nl ≤ 20) (hz : z ≤ 30) : Met l yX6_laysBits wsX6_laysBits rm_kX6_laysBits (pcM D ca [.ref om, .int (bI bw)] [(om, .inr (6, [.int thr, .ref a1, .ref a2, .ref a3, .int sv, .ref a4, .ref a5, .ref a6, .int ln, .ref a7, .int bm, .int br, .int ck, .int sa, .ref a8, .int lm, .int rs, .int at_, .ref a9, .int tm, .long hs])), (a1, .inl (ca 0, 226, .inl (sF z r f j nt nl gl gt))), (a7, .inl (ca 0, 200, .inl fi))] sz) (va_Qv (fun (u : Unit) => True) (qB D (va_A [(om, .inr (6, [.int thr, .ref a1, .ref a2, .ref a3, .int sv, .ref a4, .ref a5, .ref a6, .int ln, .ref a7, .int bm, .int br, .int ck, .int sa, .ref a8, .int lm, .int rs, .int at_, .ref a9, .int tm, .long hs])), (a1, .inl (ca 0, 226, .inl (sF z r f j nt nl gl gt))), (a7, .inl (ca 0, 200, .inl fi))] sz) (fun u : Unit => [(om, .inr (6, [.int thr, .ref a1, .ref a2, .ref a3, .int sv, .ref a4, .ref a5, .ref a6, .int ln, .ref a7, .int (nI ((rdT r f (lst (twF bw gt nt) nt)).1.length)), .int (bI (!(rdT r f (lst (twF bw gt nt) nt)).2.2)), .int ((rdT r f (lst (twF bw gt nt) nt)).2.1), .int sa, .ref a8, .int lm, .int rs, .int at_, .ref a9, .int tm, .long hs])), (a1, .inl (ca 0, 226, .inl (sF z r f j nt nl gl gt))), (a7, .inl (ca 0, 200, .inl (apF fi 0 (rdT r f (lst (twF bw gt nt) nt)).1)))])) (va_A [(om, .inr (6, [.int thr, .ref a1, .ref a2, .ref a3, .int sv, .ref a4, .ref a5, .ref a6, .int ln, .ref a7, .int bm, .int br, .int ck, .int sa, .ref a8, .int lm, .int rs, .int at_, .ref a9, .int tm, .long hs])), (a1, .inl (ca 0, 226, .inl (sF z r f j nt nl gl gt))), (a7, .inl (ca 0, 200, .inl fi))] sz)) 0 0 (va_A [(om, .inr (6, [.int thr, .ref a1, .ref a2, .ref a3, .int sv, .ref a4, .ref a5, .ref a6, .int ln, .ref a7, .int bm, .int br, .int ck, .int sa, .ref a8, .int lm, .int rs, .int at_, .ref a9, .int tm, .long hs])), (a1, .inl (ca 0, 226, .inl (sF z r f j nt nl gl gt))), (a7, .inl (ca 0, 200, .inl fi))] sz) := by
  refine Met.ofW (cc := cX6_laysBits) (maxL := 5) (ret := none) (by decide) rfl ?_
  intro p e s m args below meth c s₁ B hml hv
  obtain ⟨rfl, hsz, hP, hK, hD0⟩ := hv
  have hx := B.exec
  have hb := B.bytes
  have hr := B.returns
  have hts := atoms_spec (ws := wsX6_laysBits) B.pre
  have hown : s.vm.findClass RX6 = some m.cls := findClass_of_methodNamed B.named
  have hlocks := B.notSynchronized
  subst hsz
  have hD := hD0.self (sz := s.heap.size)
  generalize hAe : va_A [(om, .inr (6, [.int thr, .ref a1, .ref a2, .ref a3, .int sv, .ref a4, .ref a5, .ref a6, .int ln, .ref a7, .int bm, .int br, .int ck, .int sa, .ref a8, .int lm, .int rs, .int at_, .ref a9, .int tm, .long hs])), (a1, .inl (ca 0, 226, .inl (sF z r f j nt nl gl gt))), (a7, .inl (ca 0, 200, .inl fi))] s.heap.size = A at hD ⊢
  have hA : ∀ q : Nat, s.heap.size ≤ q → A q := fun q h => by rw [← hAe]; exact Or.inr h
  have hS : va_S A s.heap s.heap [] := va_S.rf
  have hP : va_P D vwCl [(om, .inr (6, [.int thr, .ref a1, .ref a2, .ref a3, .int sv, .ref a4, .ref a5, .ref a6, .int ln, .ref a7, .int bm, .int br, .int ck, .int sa, .ref a8, .int lm, .int rs, .int at_, .ref a9, .int tm, .long hs])), (a1, .inl (ca 0, 226, .inl (sF z r f j nt nl gl gt))), (a7, .inl (ca 0, 200, .inl fi))] s.heap := hP
  have hKv := hK.1
  have hl := lv_entry ([.ref om, .int (bI bw)]) (n := 5) (kk_le rfl)
  rw [lg_entry_eq]
  generalize (lg_sl ([.ref om, .int (bI bw)]) ++ List.replicate (5 - (lg_sl ([.ref om, .int (bI bw)])).length) Slot.unset).toArray = ls at hl ⊢
  have hl : lv_has ls 5 [(0, .ref om), (1, .int (bI bw))] := hl
  generalize hQz : MQ below _ _ _ _ _ _ = Qz
  have hiX6 : ∀ w ∈ u_ws RX6 TX6 21, w ∈ wsX6_laysBits := fun w h => by first | exact List.mem_cons_of_mem _ (List.mem_append_right _ h) | exact List.mem_cons_of_mem _ (List.mem_append_left _ (List.mem_append_right _ h)) | exact List.mem_cons_of_mem _ (List.mem_append_left _ (List.mem_append_left _ (List.mem_append_right _ h))) | exact List.mem_cons_of_mem _ (List.mem_append_left _ (List.mem_append_left _ (List.mem_append_left _ (List.mem_append_right _ h)))) | (revert w h; decide +kernel)
  have lk81 : (Cond.fieldLink RX6 81 "StripeSwipesModel" "bitMany" "I").before _ s = true := hts _ (by decide +kernel)
  have lk84 : (Cond.fieldLink RX6 84 "StripeSwipesModel" "isBroken" "Z").before _ s = true := hts _ (by decide +kernel)
  have lk7 : (Cond.fieldLink RX6 7 "StripeSwipesModel" "s" "[I").before _ s = true := hts _ (by decide +kernel)
  have lk29 : (Cond.fieldLink RX6 29 "StripeSwipesModel" "bits" "[I").before _ s = true := hts _ (by decide +kernel)
  have lk74 : (Cond.fieldLink RX6 74 "StripeSwipesModel" "clock" "I").before _ s = true := hts _ (by decide +kernel)
  refine lv_aload_n hx hb dX6_laysBits_0 rfl (lv_at hl 0 rfl) ?_
  refine lv_iload_n hx hb dX6_laysBits_1 rfl (lv_at hl 1 rfl) ?_
  have hPc := hP.sub (ws' := [(om, .inr (6, [.int thr, .ref a1, .ref a2, .ref a3, .int sv, .ref a4, .ref a5, .ref a6, .int ln, .ref a7, .int bm, .int br, .int ck, .int sa, .ref a8, .int lm, .int rs, .int at_, .ref a9, .int tm, .long hs])), (a1, .inl (ca 0, 226, .inl (sF z r f j nt nl gl gt)))]) [0, 1] rfl
  have hDc := hD.sub (ws' := [(om, .inr (6, [.int thr, .ref a1, .ref a2, .ref a3, .int sv, .ref a4, .ref a5, .ref a6, .int ln, .ref a7, .int bm, .int br, .int ck, .int sa, .ref a8, .int lm, .int rs, .int at_, .ref a9, .int tm, .long hs])), (a1, .inl (ca 0, 226, .inl (sF z r f j nt nl gl gt)))]) [0, 1] (by decide) rfl
  have hFc := va_free (wc := [(om, .inr (6, [.int thr, .ref a1, .ref a2, .ref a3, .int sv, .ref a4, .ref a5, .ref a6, .int ln, .ref a7, .int bm, .int br, .int ck, .int sa, .ref a8, .int lm, .int rs, .int at_, .ref a9, .int tm, .long hs])), (a1, .inl (ca 0, 226, .inl (sF z r f j nt nl gl gt)))]) hD hS hA [0, 1] rfl
  refine va_callv (va_runV (As := [.int (bI bw)]) (rest := []) ⟨hx, hb, hml, hown, hts⟩ (kX6_firstClock l D ca s.heap.size om a1 a2 a3 a4 a5 a6 a7 a8 a9 thr sv ln bm br ck sa lm rs at_ tm hs z r f j nt nl gl gt bw (by first | rfl | assumption | omega | trivial | (exfalso; omega)) (by first | rfl | assumption | omega | trivial | (exfalso; omega)) (by first | rfl | assumption | omega | trivial | (exfalso; omega))) (cwV 1 hts gX6_laysBits_X6_firstClock rfl rfl rfl (by decide +kernel) ⟨kk_le rfl, kk_le rfl⟩) (pvM hK hPc (my_D_true hDc) (va_recv hKv hP (ci := 6) (q0 := 0) rfl rfl)) rfl rfl hl.1 rfl (lv_room (kk_le rfl)) dX6_laysBits_2 ⟨kk_le rfl, kk_le rfl⟩) hS (fun q _ h => hFc q h) hFc (fun u t H1 locs ht hvm hwv hBv hz1 hk1 hS => ?_)
  obtain ⟨hP1, hD1⟩ := hBv
  rw [ht] at hP1
  have hP1 : va_P D vwCl [(om, .inr (6, [.int thr, .ref a1, .ref a2, .ref a3, .int sv, .ref a4, .ref a5, .ref a6, .int ln, .ref a7, .int bm, .int br, .int (fclk (lst (twF bw gt nt) nt)), .int sa, .ref a8, .int lm, .int rs, .int at_, .ref a9, .int tm, .long hs])), (a1, .inl (ca 0, 226, .inl (sF z r f j nt nl gl gt)))] H1 := hP1
  have hD1 : va_D _ [(om, .inr (6, [.int thr, .ref a1, .ref a2, .ref a3, .int sv, .ref a4, .ref a5, .ref a6, .int ln, .ref a7, .int bm, .int br, .int (fclk (lst (twF bw gt nt) nt)), .int sa, .ref a8, .int lm, .int rs, .int at_, .ref a9, .int tm, .long hs])), (a1, .inl (ca 0, 226, .inl (sF z r f j nt nl gl gt)))] := hD1
  have hw1 := hwv
  obtain ⟨hP, hD⟩ := va_join (wr := [(a7, .inl (ca 0, 200, .inl fi))]) (w1 := [(om, .inr (6, [.int thr, .ref a1, .ref a2, .ref a3, .int sv, .ref a4, .ref a5, .ref a6, .int ln, .ref a7, .int bm, .int br, .int (fclk (lst (twF bw gt nt) nt)), .int sa, .ref a8, .int lm, .int rs, .int at_, .ref a9, .int tm, .long hs])), (a1, .inl (ca 0, 226, .inl (sF z r f j nt nl gl gt)))]) hP hD [0, 1] [2] rfl rfl (by decide) (by decide) hk1 hFc hP1 hD1
  generalize H1 = H at hP hS ⊢
  have hP := hP.sub (ws' := [(om, .inr (6, [.int thr, .ref a1, .ref a2, .ref a3, .int sv, .ref a4, .ref a5, .ref a6, .int ln, .ref a7, .int bm, .int br, .int (fclk (lst (twF bw gt nt) nt)), .int sa, .ref a8, .int lm, .int rs, .int at_, .ref a9, .int tm, .long hs])), (a1, .inl (ca 0, 226, .inl (sF z r f j nt nl gl gt))), (a7, .inl (ca 0, 200, .inl fi))]) [1, 2, 0] rfl
  have hD := hD.sub (ws' := [(om, .inr (6, [.int thr, .ref a1, .ref a2, .ref a3, .int sv, .ref a4, .ref a5, .ref a6, .int ln, .ref a7, .int bm, .int br, .int (fclk (lst (twF bw gt nt) nt)), .int sa, .ref a8, .int lm, .int rs, .int at_, .ref a9, .int tm, .long hs])), (a1, .inl (ca 0, 226, .inl (sF z r f j nt nl gl gt))), (a7, .inl (ca 0, 200, .inl fi))]) [1, 2, 0] (by decide) rfl
  refine lv_aload_n hx hb dX6_laysBits_5 rfl (lv_at hl 0 rfl) ?_
  refine lv_iconst (v := nI 0) hx hb dX6_laysBits_6 (by decide) ?_
  refine va_put (D := D) (ci := 6) (v := .int (nI 0)) (ty := .int) (C := RX6) (T := TX6) (N := 21) hx hb hts hiX6 tyX6 tyX6_ok nmX6 hown hKv hP hD hS 0 rfl rfl 10 (by decide) lk81 (fun _ h9 => h9) rfl (by decide +kernel) rfl rfl (kk_le rfl) dX6_laysBits_7 (fun H locs hP hD hS => ?_)
  have hP : va_P D vwCl [(om, .inr (6, [.int thr, .ref a1, .ref a2, .ref a3, .int sv, .ref a4, .ref a5, .ref a6, .int ln, .ref a7, .int (nI 0), .int br, .int (fclk (lst (twF bw gt nt) nt)), .int sa, .ref a8, .int lm, .int rs, .int at_, .ref a9, .int tm, .long hs])), (a1, .inl (ca 0, 226, .inl (sF z r f j nt nl gl gt))), (a7, .inl (ca 0, 200, .inl fi))] H := hP
  have hD : va_D A [(om, .inr (6, [.int thr, .ref a1, .ref a2, .ref a3, .int sv, .ref a4, .ref a5, .ref a6, .int ln, .ref a7, .int (nI 0), .int br, .int (fclk (lst (twF bw gt nt) nt)), .int sa, .ref a8, .int lm, .int rs, .int at_, .ref a9, .int tm, .long hs])), (a1, .inl (ca 0, 226, .inl (sF z r f j nt nl gl gt))), (a7, .inl (ca 0, 200, .inl fi))] := hD
  refine lv_aload_n hx hb dX6_laysBits_10 rfl (lv_at hl 0 rfl) ?_
  refine lv_iconst (v := nI 0) hx hb dX6_laysBits_11 (by decide) ?_
  refine va_put (D := D) (ci := 6) (v := .int (nI 0)) (ty := .boolean) (C := RX6) (T := TX6) (N := 21) hx hb hts hiX6 tyX6 tyX6_ok nmX6 hown hKv hP hD hS 0 rfl rfl 11 (by decide) lk84 (fun _ h9 => h9) rfl (by decide +kernel) (by first | rfl | exact bI_nar _ | exact bI_fit _ | (first | exact Or.inl rfl | exact Or.inr rfl)) (by first | rfl | exact bI_nar _ | exact bI_fit _ | (first | exact Or.inl rfl | exact Or.inr rfl)) (kk_le rfl) dX6_laysBits_12 (fun H locs hP hD hS => ?_)
  have hP : va_P D vwCl [(om, .inr (6, [.int thr, .ref a1, .ref a2, .ref a3, .int sv, .ref a4, .ref a5, .ref a6, .int ln, .ref a7, .int (nI 0), .int (nI 0), .int (fclk (lst (twF bw gt nt) nt)), .int sa, .ref a8, .int lm, .int rs, .int at_, .ref a9, .int tm, .long hs])), (a1, .inl (ca 0, 226, .inl (sF z r f j nt nl gl gt))), (a7, .inl (ca 0, 200, .inl fi))] H := hP
  have hD : va_D A [(om, .inr (6, [.int thr, .ref a1, .ref a2, .ref a3, .int sv, .ref a4, .ref a5, .ref a6, .int ln, .ref a7, .int (nI 0), .int (nI 0), .int (fclk (lst (twF bw gt nt) nt)), .int sa, .ref a8, .int lm, .int rs, .int at_, .ref a9, .int tm, .long hs])), (a1, .inl (ca 0, 226, .inl (sF z r f j nt nl gl gt))), (a7, .inl (ca 0, 200, .inl fi))] := hD
  refine lv_iconst (v := nI 0) hx hb dX6_laysBits_15 (by decide) ?_
  refine lv_istore_n (lv' := [(2, .int (nI 0)), (0, .ref om), (1, .int (bI bw))]) hx hb dX6_laysBits_16 rfl hl (by decide) rfl (fun ls hl => ?_)
  have lp17_2 : ∀ (k1 : Nat) (i : Nat) (bb : Bool) (B : IL) (cl9 : Int32), nt - i + bN bb < k1 → (i ≤ nt) → (B.length ≤ i) → (lbI bb (rdT r f (lst (twF bw gt nt) nt)) B cl9 (rdB r f cl9 ((lst (twF bw gt nt) nt).drop i))) → ∀ (H : Heap) (locs : List Loc), va_P D vwCl [(om, .inr (6, [.int thr, .ref a1, .ref a2, .ref a3, .int sv, .ref a4, .ref a5, .ref a6, .int ln, .ref a7, .int (nI B.length), .int (bI bb), .int cl9, .int sa, .ref a8, .int lm, .int rs, .int at_, .ref a9, .int tm, .long hs])), (a1, .inl (ca 0, 226, .inl (sF z r f j nt nl gl gt))), (a7, .inl (ca 0, 200, .inl (apF fi 0 B)))] H → va_D A [(om, .inr (6, [.int thr, .ref a1, .ref a2, .ref a3, .int sv, .ref a4, .ref a5, .ref a6, .int ln, .ref a7, .int (nI B.length), .int (bI bb), .int cl9, .int sa, .ref a8, .int lm, .int rs, .int at_, .ref a9, .int tm, .long hs])), (a1, .inl (ca 0, 226, .inl (sF z r f j nt nl gl gt))), (a7, .inl (ca 0, 200, .inl (apF fi 0 B)))] → va_S A s.heap H locs → ∀ (ls : Array Slot), lv_has ls 5 [(2, .int (nI i)), (0, .ref om), (1, .int (bI bw))] → W p l e rm_kX6_laysBits s m ([.ref om, .int (bI bw)] : List Value).toArray below meth c H locs 0 0 Qz (F0 m 17 ls []) := by
    intro k1
    induction k1 with
    | zero => intro i bb B cl9 hm1; exact absurd hm1 (Nat.not_lt_zero _)
    | succ k1 ih1 =>
      intro i bb B cl9 hm1 hi hB hR H locs hP hD hS ls hl
      refine lv_iload_n hx hb dX6_laysBits_17 rfl (lv_at hl 0 rfl) ?_
      refine lv_aload_n hx hb dX6_laysBits_18 rfl (lv_at hl 1 rfl) ?_
      refine va_get (D := D) (ci := 6) (C := RX6) (T := TX6) (N := 21) hx hb hts hiX6 hown hKv hP 0 rfl rfl 1 (by decide) lk7 (fun _ h9 => h9) rfl dX6_laysBits_19 ?_
      refine lv_iconst (v := nI 4) hx hb dX6_laysBits_22 (by decide) ?_
      refine my_iald hx hb hK hP 1 rfl (by omega) (by omega) dX6_laysBits_23 ?_
      rw [show sF z r f j nt nl gl gt 4 = nI nt from rfl]
      refine ni_icmp_ge (tgt := 172) (by omega) (by omega) hx hb dX6_laysBits_24 (by decide) (fun c4 => ?_) (fun c4 => ?_)
      · subst hQz
        have e5 : (nI B.length : Int32) = nI ((rdT r f (lst (twF bw gt nt) nt)).1.length) := by first | simp only [lb_fin hR (by omega), Bool.not_not] | simp only [lb_finb hR, Bool.not_false]
        have hP : va_P D vwCl [(om, .inr (6, [.int thr, .ref a1, .ref a2, .ref a3, .int sv, .ref a4, .ref a5, .ref a6, .int ln, .ref a7, .int (nI ((rdT r f (lst (twF bw gt nt) nt)).1.length)), .int (bI bb), .int cl9, .int sa, .ref a8, .int lm, .int rs, .int at_, .ref a9, .int tm, .long hs])), (a1, .inl (ca 0, 226, .inl (sF z r f j nt nl gl gt))), (a7, .inl (ca 0, 200, .inl (apF fi 0 B)))] H := Eq.mp (congrArg (fun z9 : Int32 => va_P D vwCl [(om, .inr (6, [.int thr, .ref a1, .ref a2, .ref a3, .int sv, .ref a4, .ref a5, .ref a6, .int ln, .ref a7, .int z9, .int (bI bb), .int cl9, .int sa, .ref a8, .int lm, .int rs, .int at_, .ref a9, .int tm, .long hs])), (a1, .inl (ca 0, 226, .inl (sF z r f j nt nl gl gt))), (a7, .inl (ca 0, 200, .inl (apF fi 0 B)))] H) e5) hP
        have hD : va_D A [(om, .inr (6, [.int thr, .ref a1, .ref a2, .ref a3, .int sv, .ref a4, .ref a5, .ref a6, .int ln, .ref a7, .int (nI ((rdT r f (lst (twF bw gt nt) nt)).1.length)), .int (bI bb), .int cl9, .int sa, .ref a8, .int lm, .int rs, .int at_, .ref a9, .int tm, .long hs])), (a1, .inl (ca 0, 226, .inl (sF z r f j nt nl gl gt))), (a7, .inl (ca 0, 200, .inl (apF fi 0 B)))] := Eq.mp (congrArg (fun z9 : Int32 => va_D A [(om, .inr (6, [.int thr, .ref a1, .ref a2, .ref a3, .int sv, .ref a4, .ref a5, .ref a6, .int ln, .ref a7, .int z9, .int (bI bb), .int cl9, .int sa, .ref a8, .int lm, .int rs, .int at_, .ref a9, .int tm, .long hs])), (a1, .inl (ca 0, 226, .inl (sF z r f j nt nl gl gt))), (a7, .inl (ca 0, 200, .inl (apF fi 0 B)))]) e5) hD
        have e6 : (bI bb : Int32) = bI (!(rdT r f (lst (twF bw gt nt) nt)).2.2) := by first | simp only [lb_fin hR (by omega), Bool.not_not] | simp only [lb_finb hR, Bool.not_false]
        have hP : va_P D vwCl [(om, .inr (6, [.int thr, .ref a1, .ref a2, .ref a3, .int sv, .ref a4, .ref a5, .ref a6, .int ln, .ref a7, .int (nI ((rdT r f (lst (twF bw gt nt) nt)).1.length)), .int (bI (!(rdT r f (lst (twF bw gt nt) nt)).2.2)), .int cl9, .int sa, .ref a8, .int lm, .int rs, .int at_, .ref a9, .int tm, .long hs])), (a1, .inl (ca 0, 226, .inl (sF z r f j nt nl gl gt))), (a7, .inl (ca 0, 200, .inl (apF fi 0 B)))] H := Eq.mp (congrArg (fun z9 : Int32 => va_P D vwCl [(om, .inr (6, [.int thr, .ref a1, .ref a2, .ref a3, .int sv, .ref a4, .ref a5, .ref a6, .int ln, .ref a7, .int (nI ((rdT r f (lst (twF bw gt nt) nt)).1.length)), .int z9, .int cl9, .int sa, .ref a8, .int lm, .int rs, .int at_, .ref a9, .int tm, .long hs])), (a1, .inl (ca 0, 226, .inl (sF z r f j nt nl gl gt))), (a7, .inl (ca 0, 200, .inl (apF fi 0 B)))] H) e6) hP
        have hD : va_D A [(om, .inr (6, [.int thr, .ref a1, .ref a2, .ref a3, .int sv, .ref a4, .ref a5, .ref a6, .int ln, .ref a7, .int (nI ((rdT r f (lst (twF bw gt nt) nt)).1.length)), .int (bI (!(rdT r f (lst (twF bw gt nt) nt)).2.2)), .int cl9, .int sa, .ref a8, .int lm, .int rs, .int at_, .ref a9, .int tm, .long hs])), (a1, .inl (ca 0, 226, .inl (sF z r f j nt nl gl gt))), (a7, .inl (ca 0, 200, .inl (apF fi 0 B)))] := Eq.mp (congrArg (fun z9 : Int32 => va_D A [(om, .inr (6, [.int thr, .ref a1, .ref a2, .ref a3, .int sv, .ref a4, .ref a5, .ref a6, .int ln, .ref a7, .int (nI ((rdT r f (lst (twF bw gt nt) nt)).1.length)), .int z9, .int cl9, .int sa, .ref a8, .int lm, .int rs, .int at_, .ref a9, .int tm, .long hs])), (a1, .inl (ca 0, 226, .inl (sF z r f j nt nl gl gt))), (a7, .inl (ca 0, 200, .inl (apF fi 0 B)))]) e6) hD
        have e7 : (cl9 : Int32) = (rdT r f (lst (twF bw gt nt) nt)).2.1 := by first | simp only [lb_fin hR (by omega), Bool.not_not] | simp only [lb_finb hR, Bool.not_false]
        have hP : va_P D vwCl [(om, .inr (6, [.int thr, .ref a1, .ref a2, .ref a3, .int sv, .ref a4, .ref a5, .ref a6, .int ln, .ref a7, .int (nI ((rdT r f (lst (twF bw gt nt) nt)).1.length)), .int (bI (!(rdT r f (lst (twF bw gt nt) nt)).2.2)), .int ((rdT r f (lst (twF bw gt nt) nt)).2.1), .int sa, .ref a8, .int lm, .int rs, .int at_, .ref a9, .int tm, .long hs])), (a1, .inl (ca 0, 226, .inl (sF z r f j nt nl gl gt))), (a7, .inl (ca 0, 200, .inl (apF fi 0 B)))] H := Eq.mp (congrArg (fun z9 : Int32 => va_P D vwCl [(om, .inr (6, [.int thr, .ref a1, .ref a2, .ref a3, .int sv, .ref a4, .ref a5, .ref a6, .int ln, .ref a7, .int (nI ((rdT r f (lst (twF bw gt nt) nt)).1.length)), .int (bI (!(rdT r f (lst (twF bw gt nt) nt)).2.2)), .int z9, .int sa, .ref a8, .int lm, .int rs, .int at_, .ref a9, .int tm, .long hs])), (a1, .inl (ca 0, 226, .inl (sF z r f j nt nl gl gt))), (a7, .inl (ca 0, 200, .inl (apF fi 0 B)))] H) e7) hP
        have hD : va_D A [(om, .inr (6, [.int thr, .ref a1, .ref a2, .ref a3, .int sv, .ref a4, .ref a5, .ref a6, .int ln, .ref a7, .int (nI ((rdT r f (lst (twF bw gt nt) nt)).1.length)), .int (bI (!(rdT r f (lst (twF bw gt nt) nt)).2.2)), .int ((rdT r f (lst (twF bw gt nt) nt)).2.1), .int sa, .ref a8, .int lm, .int rs, .int at_, .ref a9, .int tm, .long hs])), (a1, .inl (ca 0, 226, .inl (sF z r f j nt nl gl gt))), (a7, .inl (ca 0, 200, .inl (apF fi 0 B)))] := Eq.mp (congrArg (fun z9 : Int32 => va_D A [(om, .inr (6, [.int thr, .ref a1, .ref a2, .ref a3, .int sv, .ref a4, .ref a5, .ref a6, .int ln, .ref a7, .int (nI ((rdT r f (lst (twF bw gt nt) nt)).1.length)), .int (bI (!(rdT r f (lst (twF bw gt nt) nt)).2.2)), .int z9, .int sa, .ref a8, .int lm, .int rs, .int at_, .ref a9, .int tm, .long hs])), (a1, .inl (ca 0, 226, .inl (sF z r f j nt nl gl gt))), (a7, .inl (ca 0, 200, .inl (apF fi 0 B)))]) e7) hD
        have e8 : (apF fi 0 B : Nat → Int32) = apF fi 0 (rdT r f (lst (twF bw gt nt) nt)).1 := by first | simp only [lb_fin hR (by omega), Bool.not_not] | simp only [lb_finb hR, Bool.not_false]
        have hP : va_P D vwCl [(om, .inr (6, [.int thr, .ref a1, .ref a2, .ref a3, .int sv, .ref a4, .ref a5, .ref a6, .int ln, .ref a7, .int (nI ((rdT r f (lst (twF bw gt nt) nt)).1.length)), .int (bI (!(rdT r f (lst (twF bw gt nt) nt)).2.2)), .int ((rdT r f (lst (twF bw gt nt) nt)).2.1), .int sa, .ref a8, .int lm, .int rs, .int at_, .ref a9, .int tm, .long hs])), (a1, .inl (ca 0, 226, .inl (sF z r f j nt nl gl gt))), (a7, .inl (ca 0, 200, .inl (apF fi 0 (rdT r f (lst (twF bw gt nt) nt)).1)))] H := Eq.mp (congrArg (fun z9 : Nat → Int32 => va_P D vwCl [(om, .inr (6, [.int thr, .ref a1, .ref a2, .ref a3, .int sv, .ref a4, .ref a5, .ref a6, .int ln, .ref a7, .int (nI ((rdT r f (lst (twF bw gt nt) nt)).1.length)), .int (bI (!(rdT r f (lst (twF bw gt nt) nt)).2.2)), .int ((rdT r f (lst (twF bw gt nt) nt)).2.1), .int sa, .ref a8, .int lm, .int rs, .int at_, .ref a9, .int tm, .long hs])), (a1, .inl (ca 0, 226, .inl (sF z r f j nt nl gl gt))), (a7, .inl (ca 0, 200, .inl z9))] H) e8) hP
        have hD : va_D A [(om, .inr (6, [.int thr, .ref a1, .ref a2, .ref a3, .int sv, .ref a4, .ref a5, .ref a6, .int ln, .ref a7, .int (nI ((rdT r f (lst (twF bw gt nt) nt)).1.length)), .int (bI (!(rdT r f (lst (twF bw gt nt) nt)).2.2)), .int ((rdT r f (lst (twF bw gt nt) nt)).2.1), .int sa, .ref a8, .int lm, .int rs, .int at_, .ref a9, .int tm, .long hs])), (a1, .inl (ca 0, 226, .inl (sF z r f j nt nl gl gt))), (a7, .inl (ca 0, 200, .inl (apF fi 0 (rdT r f (lst (twF bw gt nt) nt)).1)))] := Eq.mp (congrArg (fun z9 : Nat → Int32 => va_D A [(om, .inr (6, [.int thr, .ref a1, .ref a2, .ref a3, .int sv, .ref a4, .ref a5, .ref a6, .int ln, .ref a7, .int (nI ((rdT r f (lst (twF bw gt nt) nt)).1.length)), .int (bI (!(rdT r f (lst (twF bw gt nt) nt)).2.2)), .int ((rdT r f (lst (twF bw gt nt) nt)).2.1), .int sa, .ref a8, .int lm, .int rs, .int at_, .ref a9, .int tm, .long hs])), (a1, .inl (ca 0, 226, .inl (sF z r f j nt nl gl gt))), (a7, .inl (ca 0, 200, .inl z9))]) e8) hD
        exact W.vret hx hb hr (fun t ht hW => ⟨⟨(), rfl, by trivial, by rw [ht]; exact hP, hD⟩, hS.F ht⟩) hS.2.2 dX6_laysBits_172
      · refine lv_aload_n hx hb dX6_laysBits_27 rfl (lv_at hl 1 rfl) ?_
        refine va_get (D := D) (ci := 6) (C := RX6) (T := TX6) (N := 21) hx hb hts hiX6 hown hKv hP 0 rfl rfl 11 (by decide) lk84 (fun _ h9 => h9) rfl dX6_laysBits_28 ?_
        refine bi_if_ne (tgt := 172) hx hb dX6_laysBits_31 (by decide) (fun c9 => ?_) (fun c9 => ?_)
        · subst c9
          subst hQz
          have e10 : (nI B.length : Int32) = nI ((rdT r f (lst (twF bw gt nt) nt)).1.length) := by first | simp only [lb_fin hR (by omega), Bool.not_not] | simp only [lb_finb hR, Bool.not_false]
          have hP : va_P D vwCl [(om, .inr (6, [.int thr, .ref a1, .ref a2, .ref a3, .int sv, .ref a4, .ref a5, .ref a6, .int ln, .ref a7, .int (nI ((rdT r f (lst (twF bw gt nt) nt)).1.length)), .int (bI true), .int cl9, .int sa, .ref a8, .int lm, .int rs, .int at_, .ref a9, .int tm, .long hs])), (a1, .inl (ca 0, 226, .inl (sF z r f j nt nl gl gt))), (a7, .inl (ca 0, 200, .inl (apF fi 0 B)))] H := Eq.mp (congrArg (fun z9 : Int32 => va_P D vwCl [(om, .inr (6, [.int thr, .ref a1, .ref a2, .ref a3, .int sv, .ref a4, .ref a5, .ref a6, .int ln, .ref a7, .int z9, .int (bI true), .int cl9, .int sa, .ref a8, .int lm, .int rs, .int at_, .ref a9, .int tm, .long hs])), (a1, .inl (ca 0, 226, .inl (sF z r f j nt nl gl gt))), (a7, .inl (ca 0, 200, .inl (apF fi 0 B)))] H) e10) hP
          have hD : va_D A [(om, .inr (6, [.int thr, .ref a1, .ref a2, .ref a3, .int sv, .ref a4, .ref a5, .ref a6, .int ln, .ref a7, .int (nI ((rdT r f (lst (twF bw gt nt) nt)).1.length)), .int (bI true), .int cl9, .int sa, .ref a8, .int lm, .int rs, .int at_, .ref a9, .int tm, .long hs])), (a1, .inl (ca 0, 226, .inl (sF z r f j nt nl gl gt))), (a7, .inl (ca 0, 200, .inl (apF fi 0 B)))] := Eq.mp (congrArg (fun z9 : Int32 => va_D A [(om, .inr (6, [.int thr, .ref a1, .ref a2, .ref a3, .int sv, .ref a4, .ref a5, .ref a6, .int ln, .ref a7, .int z9, .int (bI true), .int cl9, .int sa, .ref a8, .int lm, .int rs, .int at_, .ref a9, .int tm, .long hs])), (a1, .inl (ca 0, 226, .inl (sF z r f j nt nl gl gt))), (a7, .inl (ca 0, 200, .inl (apF fi 0 B)))]) e10) hD
          have e11 : (bI true : Int32) = bI (!(rdT r f (lst (twF bw gt nt) nt)).2.2) := by first | simp only [lb_fin hR (by omega), Bool.not_not] | simp only [lb_finb hR, Bool.not_false]
          have hP : va_P D vwCl [(om, .inr (6, [.int thr, .ref a1, .ref a2, .ref a3, .int sv, .ref a4, .ref a5, .ref a6, .int ln, .ref a7, .int (nI ((rdT r f (lst (twF bw gt nt) nt)).1.length)), .int (bI (!(rdT r f (lst (twF bw gt nt) nt)).2.2)), .int cl9, .int sa, .ref a8, .int lm, .int rs, .int at_, .ref a9, .int tm, .long hs])), (a1, .inl (ca 0, 226, .inl (sF z r f j nt nl gl gt))), (a7, .inl (ca 0, 200, .inl (apF fi 0 B)))] H := Eq.mp (congrArg (fun z9 : Int32 => va_P D vwCl [(om, .inr (6, [.int thr, .ref a1, .ref a2, .ref a3, .int sv, .ref a4, .ref a5, .ref a6, .int ln, .ref a7, .int (nI ((rdT r f (lst (twF bw gt nt) nt)).1.length)), .int z9, .int cl9, .int sa, .ref a8, .int lm, .int rs, .int at_, .ref a9, .int tm, .long hs])), (a1, .inl (ca 0, 226, .inl (sF z r f j nt nl gl gt))), (a7, .inl (ca 0, 200, .inl (apF fi 0 B)))] H) e11) hP
          have hD : va_D A [(om, .inr (6, [.int thr, .ref a1, .ref a2, .ref a3, .int sv, .ref a4, .ref a5, .ref a6, .int ln, .ref a7, .int (nI ((rdT r f (lst (twF bw gt nt) nt)).1.length)), .int (bI (!(rdT r f (lst (twF bw gt nt) nt)).2.2)), .int cl9, .int sa, .ref a8, .int lm, .int rs, .int at_, .ref a9, .int tm, .long hs])), (a1, .inl (ca 0, 226, .inl (sF z r f j nt nl gl gt))), (a7, .inl (ca 0, 200, .inl (apF fi 0 B)))] := Eq.mp (congrArg (fun z9 : Int32 => va_D A [(om, .inr (6, [.int thr, .ref a1, .ref a2, .ref a3, .int sv, .ref a4, .ref a5, .ref a6, .int ln, .ref a7, .int (nI ((rdT r f (lst (twF bw gt nt) nt)).1.length)), .int z9, .int cl9, .int sa, .ref a8, .int lm, .int rs, .int at_, .ref a9, .int tm, .long hs])), (a1, .inl (ca 0, 226, .inl (sF z r f j nt nl gl gt))), (a7, .inl (ca 0, 200, .inl (apF fi 0 B)))]) e11) hD
          have e12 : (cl9 : Int32) = (rdT r f (lst (twF bw gt nt) nt)).2.1 := by first | simp only [lb_fin hR (by omega), Bool.not_not] | simp only [lb_finb hR, Bool.not_false]
          have hP : va_P D vwCl [(om, .inr (6, [.int thr, .ref a1, .ref a2, .ref a3, .int sv, .ref a4, .ref a5, .ref a6, .int ln, .ref a7, .int (nI ((rdT r f (lst (twF bw gt nt) nt)).1.length)), .int (bI (!(rdT r f (lst (twF bw gt nt) nt)).2.2)), .int ((rdT r f (lst (twF bw gt nt) nt)).2.1), .int sa, .ref a8, .int lm, .int rs, .int at_, .ref a9, .int tm, .long hs])), (a1, .inl (ca 0, 226, .inl (sF z r f j nt nl gl gt))), (a7, .inl (ca 0, 200, .inl (apF fi 0 B)))] H := Eq.mp (congrArg (fun z9 : Int32 => va_P D vwCl [(om, .inr (6, [.int thr, .ref a1, .ref a2, .ref a3, .int sv, .ref a4, .ref a5, .ref a6, .int ln, .ref a7, .int (nI ((rdT r f (lst (twF bw gt nt) nt)).1.length)), .int (bI (!(rdT r f (lst (twF bw gt nt) nt)).2.2)), .int z9, .int sa, .ref a8, .int lm, .int rs, .int at_, .ref a9, .int tm, .long hs])), (a1, .inl (ca 0, 226, .inl (sF z r f j nt nl gl gt))), (a7, .inl (ca 0, 200, .inl (apF fi 0 B)))] H) e12) hP
          have hD : va_D A [(om, .inr (6, [.int thr, .ref a1, .ref a2, .ref a3, .int sv, .ref a4, .ref a5, .ref a6, .int ln, .ref a7, .int (nI ((rdT r f (lst (twF bw gt nt) nt)).1.length)), .int (bI (!(rdT r f (lst (twF bw gt nt) nt)).2.2)), .int ((rdT r f (lst (twF bw gt nt) nt)).2.1), .int sa, .ref a8, .int lm, .int rs, .int at_, .ref a9, .int tm, .long hs])), (a1, .inl (ca 0, 226, .inl (sF z r f j nt nl gl gt))), (a7, .inl (ca 0, 200, .inl (apF fi 0 B)))] := Eq.mp (congrArg (fun z9 : Int32 => va_D A [(om, .inr (6, [.int thr, .ref a1, .ref a2, .ref a3, .int sv, .ref a4, .ref a5, .ref a6, .int ln, .ref a7, .int (nI ((rdT r f (lst (twF bw gt nt) nt)).1.length)), .int (bI (!(rdT r f (lst (twF bw gt nt) nt)).2.2)), .int z9, .int sa, .ref a8, .int lm, .int rs, .int at_, .ref a9, .int tm, .long hs])), (a1, .inl (ca 0, 226, .inl (sF z r f j nt nl gl gt))), (a7, .inl (ca 0, 200, .inl (apF fi 0 B)))]) e12) hD
          have e13 : (apF fi 0 B : Nat → Int32) = apF fi 0 (rdT r f (lst (twF bw gt nt) nt)).1 := by first | simp only [lb_fin hR (by omega), Bool.not_not] | simp only [lb_finb hR, Bool.not_false]
          have hP : va_P D vwCl [(om, .inr (6, [.int thr, .ref a1, .ref a2, .ref a3, .int sv, .ref a4, .ref a5, .ref a6, .int ln, .ref a7, .int (nI ((rdT r f (lst (twF bw gt nt) nt)).1.length)), .int (bI (!(rdT r f (lst (twF bw gt nt) nt)).2.2)), .int ((rdT r f (lst (twF bw gt nt) nt)).2.1), .int sa, .ref a8, .int lm, .int rs, .int at_, .ref a9, .int tm, .long hs])), (a1, .inl (ca 0, 226, .inl (sF z r f j nt nl gl gt))), (a7, .inl (ca 0, 200, .inl (apF fi 0 (rdT r f (lst (twF bw gt nt) nt)).1)))] H := Eq.mp (congrArg (fun z9 : Nat → Int32 => va_P D vwCl [(om, .inr (6, [.int thr, .ref a1, .ref a2, .ref a3, .int sv, .ref a4, .ref a5, .ref a6, .int ln, .ref a7, .int (nI ((rdT r f (lst (twF bw gt nt) nt)).1.length)), .int (bI (!(rdT r f (lst (twF bw gt nt) nt)).2.2)), .int ((rdT r f (lst (twF bw gt nt) nt)).2.1), .int sa, .ref a8, .int lm, .int rs, .int at_, .ref a9, .int tm, .long hs])), (a1, .inl (ca 0, 226, .inl (sF z r f j nt nl gl gt))), (a7, .inl (ca 0, 200, .inl z9))] H) e13) hP
          have hD : va_D A [(om, .inr (6, [.int thr, .ref a1, .ref a2, .ref a3, .int sv, .ref a4, .ref a5, .ref a6, .int ln, .ref a7, .int (nI ((rdT r f (lst (twF bw gt nt) nt)).1.length)), .int (bI (!(rdT r f (lst (twF bw gt nt) nt)).2.2)), .int ((rdT r f (lst (twF bw gt nt) nt)).2.1), .int sa, .ref a8, .int lm, .int rs, .int at_, .ref a9, .int tm, .long hs])), (a1, .inl (ca 0, 226, .inl (sF z r f j nt nl gl gt))), (a7, .inl (ca 0, 200, .inl (apF fi 0 (rdT r f (lst (twF bw gt nt) nt)).1)))] := Eq.mp (congrArg (fun z9 : Nat → Int32 => va_D A [(om, .inr (6, [.int thr, .ref a1, .ref a2, .ref a3, .int sv, .ref a4, .ref a5, .ref a6, .int ln, .ref a7, .int (nI ((rdT r f (lst (twF bw gt nt) nt)).1.length)), .int (bI (!(rdT r f (lst (twF bw gt nt) nt)).2.2)), .int ((rdT r f (lst (twF bw gt nt) nt)).2.1), .int sa, .ref a8, .int lm, .int rs, .int at_, .ref a9, .int tm, .long hs])), (a1, .inl (ca 0, 226, .inl (sF z r f j nt nl gl gt))), (a7, .inl (ca 0, 200, .inl z9))]) e13) hD
          exact W.vret hx hb hr (fun t ht hW => ⟨⟨(), rfl, by trivial, by rw [ht]; exact hP, hD⟩, hS.F ht⟩) hS.2.2 dX6_laysBits_172
        · subst c9
          have hbf : bN false = 1 := rfl
          have hbt : bN true = 0 := rfl
          refine lv_aload_n hx hb dX6_laysBits_34 rfl (lv_at hl 1 rfl) ?_
          refine lv_iload_n hx hb dX6_laysBits_35 rfl (lv_at hl 0 rfl) ?_
          refine lv_iload_n hx hb dX6_laysBits_36 rfl (lv_at hl 2 rfl) ?_
          refine vp_callSi (va_Run.run (va_runV (As := [.int (nI i), .int (bI bw)]) (rest := []) ⟨hx, hb, hml, hown, hts⟩ (kX6_timeAt l D ca om a1 a2 a3 a4 a5 a6 a7 a8 a9 thr sv ln (nI B.length) (bI false) cl9 sa lm rs at_ tm hs z r f j nt nl gl gt i bw (by first | rfl | assumption | omega | trivial | (exfalso; omega)) (by first | rfl | assumption | omega | trivial | (exfalso; omega)) (by first | rfl | assumption | omega | trivial | (exfalso; omega)) (by first | rfl | assumption | omega | trivial | (exfalso; omega))) (cwV 2 hts gX6_laysBits_X6_timeAt rfl rfl rfl (by decide +kernel) ⟨kk_le rfl, kk_le rfl⟩) (pvR hK (hP.sub (ws' := [(om, .inr (6, [.int thr, .ref a1, .ref a2, .ref a3, .int sv, .ref a4, .ref a5, .ref a6, .int ln, .ref a7, .int (nI B.length), .int (bI false), .int cl9, .int sa, .ref a8, .int lm, .int rs, .int at_, .ref a9, .int tm, .long hs])), (a1, .inl (ca 0, 226, .inl (sF z r f j nt nl gl gt)))]) [0, 1] rfl) (va_recv hKv hP (ci := 6) (q0 := 0) rfl rfl)) rfl rfl hl.1 rfl (lv_room (kk_le rfl)) dX6_laysBits_37 ⟨kk_le rfl, kk_le rfl⟩)) (fun r14 hr14 => ?_)
          subst hr14
          refine lv_istore_n (lv' := [(3, .int (twF bw gt nt i)), (2, .int (nI i)), (0, .ref om), (1, .int (bI bw))]) hx hb dX6_laysBits_40 rfl hl (by decide) rfl (fun ls hl => ?_)
          refine lv_aload_n hx hb dX6_laysBits_41 rfl (lv_at hl 2 rfl) ?_
          refine lv_iload_n hx hb dX6_laysBits_42 rfl (lv_at hl 1 rfl) ?_
          refine lv_iload_n hx hb dX6_laysBits_43 rfl (lv_at hl 3 rfl) ?_
          refine vp_callSi (va_Run.run (va_runV (As := [.int (nI i), .int (bI bw)]) (rest := []) ⟨hx, hb, hml, hown, hts⟩ (kX6_isShort l D ca om a1 a2 a3 a4 a5 a6 a7 a8 a9 thr sv ln (nI B.length) (bI false) cl9 sa lm rs at_ tm hs z r f j nt nl gl gt i bw (by first | rfl | assumption | omega | trivial | (exfalso; omega)) (by first | rfl | assumption | omega | trivial | (exfalso; omega)) (by first | rfl | assumption | omega | trivial | (exfalso; omega)) (by first | rfl | assumption | omega | trivial | (exfalso; omega))) (cwV 2 hts gX6_laysBits_X6_isShort rfl rfl rfl (by decide +kernel) ⟨kk_le rfl, kk_le rfl⟩) (pvR hK (hP.sub (ws' := [(om, .inr (6, [.int thr, .ref a1, .ref a2, .ref a3, .int sv, .ref a4, .ref a5, .ref a6, .int ln, .ref a7, .int (nI B.length), .int (bI false), .int cl9, .int sa, .ref a8, .int lm, .int rs, .int at_, .ref a9, .int tm, .long hs])), (a1, .inl (ca 0, 226, .inl (sF z r f j nt nl gl gt)))]) [0, 1] rfl) (va_recv hKv hP (ci := 6) (q0 := 0) rfl rfl)) rfl rfl hl.1 rfl (lv_room (kk_le rfl)) dX6_laysBits_44 ⟨kk_le rfl, kk_le rfl⟩)) (fun r15 hr15 => ?_)
          subst hr15
          refine bi_if_eq (tgt := 54) hx hb dX6_laysBits_47 (by decide) (fun c16 => ?_) (fun c16 => ?_)
          · have hsh1 := c16
            refine lv_iconst (v := nI 0) hx hb dX6_laysBits_54 (by decide) ?_
            refine lv_istore (lv' := [(4, .int (nI 0)), (3, .int (twF bw gt nt i)), (2, .int (nI i)), (0, .ref om), (1, .int (bI bw))]) hx hb dX6_laysBits_55 hl (by decide) rfl (fun ls hl => ?_)
            refine lv_aload_n hx hb dX6_laysBits_57 rfl (lv_at hl 3 rfl) ?_
            refine lv_iload hx hb dX6_laysBits_58 (lv_at hl 0 rfl) ?_
            refine lv_iconst (v := nI 1) hx hb dX6_laysBits_60 (by decide) ?_
            refine ni_icmp_ne (tgt := 79) (by omega) (by omega) hx hb dX6_laysBits_61 (by decide) (fun c17 => ?_) (fun c17 => ?_)
            · refine lv_iconst (v := nI 0) hx hb dX6_laysBits_79 (by decide) ?_
              refine va_put (D := D) (ci := 6) (v := .int (nI 0)) (ty := .boolean) (C := RX6) (T := TX6) (N := 21) hx hb hts hiX6 tyX6 tyX6_ok nmX6 hown hKv hP hD hS 0 rfl rfl 11 (by decide) lk84 (fun _ h9 => h9) rfl (by decide +kernel) (by first | rfl | exact bI_nar _ | exact bI_fit _ | (first | exact Or.inl rfl | exact Or.inr rfl)) (by first | rfl | exact bI_nar _ | exact bI_fit _ | (first | exact Or.inl rfl | exact Or.inr rfl)) (kk_le rfl) dX6_laysBits_80 (fun H locs hP hD hS => ?_)
              have hP : va_P D vwCl [(om, .inr (6, [.int thr, .ref a1, .ref a2, .ref a3, .int sv, .ref a4, .ref a5, .ref a6, .int ln, .ref a7, .int (nI B.length), .int (nI 0), .int cl9, .int sa, .ref a8, .int lm, .int rs, .int at_, .ref a9, .int tm, .long hs])), (a1, .inl (ca 0, 226, .inl (sF z r f j nt nl gl gt))), (a7, .inl (ca 0, 200, .inl (apF fi 0 B)))] H := hP
              have hD : va_D A [(om, .inr (6, [.int thr, .ref a1, .ref a2, .ref a3, .int sv, .ref a4, .ref a5, .ref a6, .int ln, .ref a7, .int (nI B.length), .int (nI 0), .int cl9, .int sa, .ref a8, .int lm, .int rs, .int at_, .ref a9, .int tm, .long hs])), (a1, .inl (ca 0, 226, .inl (sF z r f j nt nl gl gt))), (a7, .inl (ca 0, 200, .inl (apF fi 0 B)))] := hD
              refine lv_aload_n hx hb dX6_laysBits_83 rfl (lv_at hl 3 rfl) ?_
              refine va_get (D := D) (ci := 6) (C := RX6) (T := TX6) (N := 21) hx hb hts hiX6 hown hKv hP 0 rfl rfl 11 (by decide) lk84 (fun _ h9 => h9) rfl dX6_laysBits_84 ?_
              refine ni_if_ne (tgt := 169) (by omega) hx hb dX6_laysBits_87 (by decide) (fun c18 => ?_) (fun c18 => ?_)
              · first | exact False.elim c18 | exact absurd c18 (by decide) | (exfalso; omega)
              · refine lv_iload_n hx hb dX6_laysBits_90 rfl (lv_at hl 1 rfl) ?_
                refine lv_iload hx hb dX6_laysBits_91 (lv_at hl 0 rfl) ?_
                refine lv_iconst (v := nI 1) hx hb dX6_laysBits_93 (by decide) ?_
                refine ni_icmp_ne (tgt := 108) (by omega) (by omega) hx hb dX6_laysBits_94 (by decide) (fun c19 => ?_) (fun c19 => ?_)
                · refine lv_iconst (v := nI 0) hx hb dX6_laysBits_108 (by decide) ?_
                  refine lv_iadd hx hb dX6_laysBits_109 ?_
                  refine lv_istore_n (lv' := [(3, .int ((twF bw gt nt i) + (nI 0))), (4, .int (nI 0)), (2, .int (nI i)), (0, .ref om), (1, .int (bI bw))]) hx hb dX6_laysBits_110 rfl hl (by decide) rfl (fun ls hl => ?_)
                  refine lv_iload_n hx hb dX6_laysBits_111 rfl (lv_at hl 2 rfl) ?_
                  refine lv_iconst (v := nI 1) hx hb dX6_laysBits_112 (by decide) ?_
                  refine lv_iload hx hb dX6_laysBits_113 (lv_at hl 1 rfl) ?_
                  refine ni_iadd hx hb dX6_laysBits_115 ?_
                  refine ni_iadd hx hb dX6_laysBits_116 ?_
                  refine lv_istore_n (lv' := [(2, .int (nI (i + (1 + 0)))), (3, .int ((twF bw gt nt i) + (nI 0))), (4, .int (nI 0)), (0, .ref om), (1, .int (bI bw))]) hx hb dX6_laysBits_117 rfl hl (by decide) rfl (fun ls hl => ?_)
                  refine lv_aload_n hx hb dX6_laysBits_118 rfl (lv_at hl 3 rfl) ?_
                  refine va_get (D := D) (ci := 6) (C := RX6) (T := TX6) (N := 21) hx hb hts hiX6 hown hKv hP 0 rfl rfl 9 (by decide) lk29 (fun _ h9 => h9) rfl dX6_laysBits_119 ?_
                  refine lv_aload_n hx hb dX6_laysBits_122 rfl (lv_at hl 3 rfl) ?_
                  refine va_get (D := D) (ci := 6) (C := RX6) (T := TX6) (N := 21) hx hb hts hiX6 hown hKv hP 0 rfl rfl 10 (by decide) lk81 (fun _ h9 => h9) rfl dX6_laysBits_123 ?_
                  refine lv_iload hx hb dX6_laysBits_126 (lv_at hl 2 rfl) ?_
                  refine my_iast hx hb hK hP hD hS 2 rfl (by omega) (by omega) dX6_laysBits_128 (fun H locs hP hD hS => ?_)
                  have hP : va_P D vwCl [(om, .inr (6, [.int thr, .ref a1, .ref a2, .ref a3, .int sv, .ref a4, .ref a5, .ref a6, .int ln, .ref a7, .int (nI B.length), .int (nI 0), .int cl9, .int sa, .ref a8, .int lm, .int rs, .int at_, .ref a9, .int tm, .long hs])), (a1, .inl (ca 0, 226, .inl (sF z r f j nt nl gl gt))), (a7, .inl (ca 0, 200, .inl (upd (apF fi 0 B) B.length (nI 0))))] H := hP
                  have hD : va_D A [(om, .inr (6, [.int thr, .ref a1, .ref a2, .ref a3, .int sv, .ref a4, .ref a5, .ref a6, .int ln, .ref a7, .int (nI B.length), .int (nI 0), .int cl9, .int sa, .ref a8, .int lm, .int rs, .int at_, .ref a9, .int tm, .long hs])), (a1, .inl (ca 0, 226, .inl (sF z r f j nt nl gl gt))), (a7, .inl (ca 0, 200, .inl (upd (apF fi 0 B) B.length (nI 0))))] := hD
                  refine lv_aload_n hx hb dX6_laysBits_129 rfl (lv_at hl 3 rfl) ?_
                  refine lv_dup hx hb dX6_laysBits_130 rfl ?_
                  refine va_get (D := D) (ci := 6) (C := RX6) (T := TX6) (N := 21) hx hb hts hiX6 hown hKv hP 0 rfl rfl 10 (by decide) lk81 (fun _ h9 => h9) rfl dX6_laysBits_131 ?_
                  refine lv_iconst (v := nI 1) hx hb dX6_laysBits_134 (by decide) ?_
                  refine ni_iadd hx hb dX6_laysBits_135 ?_
                  refine va_put (D := D) (ci := 6) (v := .int (nI (B.length + 1))) (ty := .int) (C := RX6) (T := TX6) (N := 21) hx hb hts hiX6 tyX6 tyX6_ok nmX6 hown hKv hP hD hS 0 rfl rfl 10 (by decide) lk81 (fun _ h9 => h9) rfl (by decide +kernel) rfl rfl (kk_le rfl) dX6_laysBits_136 (fun H locs hP hD hS => ?_)
                  have hP : va_P D vwCl [(om, .inr (6, [.int thr, .ref a1, .ref a2, .ref a3, .int sv, .ref a4, .ref a5, .ref a6, .int ln, .ref a7, .int (nI (B.length + 1)), .int (nI 0), .int cl9, .int sa, .ref a8, .int lm, .int rs, .int at_, .ref a9, .int tm, .long hs])), (a1, .inl (ca 0, 226, .inl (sF z r f j nt nl gl gt))), (a7, .inl (ca 0, 200, .inl (upd (apF fi 0 B) B.length (nI 0))))] H := hP
                  have hD : va_D A [(om, .inr (6, [.int thr, .ref a1, .ref a2, .ref a3, .int sv, .ref a4, .ref a5, .ref a6, .int ln, .ref a7, .int (nI (B.length + 1)), .int (nI 0), .int cl9, .int sa, .ref a8, .int lm, .int rs, .int at_, .ref a9, .int tm, .long hs])), (a1, .inl (ca 0, 226, .inl (sF z r f j nt nl gl gt))), (a7, .inl (ca 0, 200, .inl (upd (apF fi 0 B) B.length (nI 0))))] := hD
                  refine lv_aload_n hx hb dX6_laysBits_139 rfl (lv_at hl 3 rfl) ?_
                  refine lv_aload_n hx hb dX6_laysBits_140 rfl (lv_at hl 3 rfl) ?_
                  refine va_get (D := D) (ci := 6) (C := RX6) (T := TX6) (N := 21) hx hb hts hiX6 hown hKv hP 0 rfl rfl 12 (by decide) lk74 (fun _ h9 => h9) rfl dX6_laysBits_141 ?_
                  refine lv_bipush (v := nI 100) hx hb dX6_laysBits_144 (by decide) ?_
                  refine lv_aload_n hx hb dX6_laysBits_146 rfl (lv_at hl 3 rfl) ?_
                  refine va_get (D := D) (ci := 6) (C := RX6) (T := TX6) (N := 21) hx hb hts hiX6 hown hKv hP 0 rfl rfl 1 (by decide) lk7 (fun _ h9 => h9) rfl dX6_laysBits_147 ?_
                  refine lv_iconst (v := nI 2) hx hb dX6_laysBits_150 (by decide) ?_
                  refine my_iald hx hb hK hP 1 rfl (by omega) (by omega) dX6_laysBits_151 ?_
                  rw [show sF z r f j nt nl gl gt 2 = f from rfl]
                  refine lv_isub hx hb dX6_laysBits_152 ?_
                  refine lv_imul hx hb dX6_laysBits_153 ?_
                  refine lv_iload_n hx hb dX6_laysBits_154 rfl (lv_at hl 1 rfl) ?_
                  refine lv_aload_n hx hb dX6_laysBits_155 rfl (lv_at hl 3 rfl) ?_
                  refine va_get (D := D) (ci := 6) (C := RX6) (T := TX6) (N := 21) hx hb hts hiX6 hown hKv hP 0 rfl rfl 1 (by decide) lk7 (fun _ h9 => h9) rfl dX6_laysBits_156 ?_
                  refine lv_iconst (v := nI 2) hx hb dX6_laysBits_159 (by decide) ?_
                  refine my_iald hx hb hK hP 1 rfl (by omega) (by omega) dX6_laysBits_160 ?_
                  rw [show sF z r f j nt nl gl gt 2 = f from rfl]
                  refine lv_imul hx hb dX6_laysBits_161 ?_
                  refine lv_iadd hx hb dX6_laysBits_162 ?_
                  refine lv_bipush (v := nI 100) hx hb dX6_laysBits_163 (by decide) ?_
                  refine lv_idiv hx hb dX6_laysBits_165 (by first | decide | assumption | exact nI_ne0 (by omega) (by omega)) ?_
                  refine va_put (D := D) (ci := 6) (v := .int (((cl9 * ((nI 100) - f)) + (((twF bw gt nt i) + (nI 0)) * f)) / (nI 100))) (ty := .int) (C := RX6) (T := TX6) (N := 21) hx hb hts hiX6 tyX6 tyX6_ok nmX6 hown hKv hP hD hS 0 rfl rfl 12 (by decide) lk74 (fun _ h9 => h9) rfl (by decide +kernel) rfl rfl (kk_le rfl) dX6_laysBits_166 (fun H locs hP hD hS => ?_)
                  have hP : va_P D vwCl [(om, .inr (6, [.int thr, .ref a1, .ref a2, .ref a3, .int sv, .ref a4, .ref a5, .ref a6, .int ln, .ref a7, .int (nI (B.length + 1)), .int (nI 0), .int (((cl9 * ((nI 100) - f)) + (((twF bw gt nt i) + (nI 0)) * f)) / (nI 100)), .int sa, .ref a8, .int lm, .int rs, .int at_, .ref a9, .int tm, .long hs])), (a1, .inl (ca 0, 226, .inl (sF z r f j nt nl gl gt))), (a7, .inl (ca 0, 200, .inl (upd (apF fi 0 B) B.length (nI 0))))] H := hP
                  have hD : va_D A [(om, .inr (6, [.int thr, .ref a1, .ref a2, .ref a3, .int sv, .ref a4, .ref a5, .ref a6, .int ln, .ref a7, .int (nI (B.length + 1)), .int (nI 0), .int (((cl9 * ((nI 100) - f)) + (((twF bw gt nt i) + (nI 0)) * f)) / (nI 100)), .int sa, .ref a8, .int lm, .int rs, .int at_, .ref a9, .int tm, .long hs])), (a1, .inl (ca 0, 226, .inl (sF z r f j nt nl gl gt))), (a7, .inl (ca 0, 200, .inl (upd (apF fi 0 B) B.length (nI 0))))] := hD
                  refine lv_goto (tgt := 17) hx hb dX6_laysBits_169 (by decide) ?_
                  have e20 : (nI (B.length + 1) : Int32) = nI ((B ++ [nI 0]).length) := by first | exact apB fi B _ | exact apBn B _ | rfl
                  have hP : va_P D vwCl [(om, .inr (6, [.int thr, .ref a1, .ref a2, .ref a3, .int sv, .ref a4, .ref a5, .ref a6, .int ln, .ref a7, .int (nI ((B ++ [nI 0]).length)), .int (nI 0), .int (((cl9 * ((nI 100) - f)) + (((twF bw gt nt i) + (nI 0)) * f)) / (nI 100)), .int sa, .ref a8, .int lm, .int rs, .int at_, .ref a9, .int tm, .long hs])), (a1, .inl (ca 0, 226, .inl (sF z r f j nt nl gl gt))), (a7, .inl (ca 0, 200, .inl (upd (apF fi 0 B) B.length (nI 0))))] H := Eq.mp (congrArg (fun z9 : Int32 => va_P D vwCl [(om, .inr (6, [.int thr, .ref a1, .ref a2, .ref a3, .int sv, .ref a4, .ref a5, .ref a6, .int ln, .ref a7, .int z9, .int (nI 0), .int (((cl9 * ((nI 100) - f)) + (((twF bw gt nt i) + (nI 0)) * f)) / (nI 100)), .int sa, .ref a8, .int lm, .int rs, .int at_, .ref a9, .int tm, .long hs])), (a1, .inl (ca 0, 226, .inl (sF z r f j nt nl gl gt))), (a7, .inl (ca 0, 200, .inl (upd (apF fi 0 B) B.length (nI 0))))] H) e20) hP
                  have hD : va_D A [(om, .inr (6, [.int thr, .ref a1, .ref a2, .ref a3, .int sv, .ref a4, .ref a5, .ref a6, .int ln, .ref a7, .int (nI ((B ++ [nI 0]).length)), .int (nI 0), .int (((cl9 * ((nI 100) - f)) + (((twF bw gt nt i) + (nI 0)) * f)) / (nI 100)), .int sa, .ref a8, .int lm, .int rs, .int at_, .ref a9, .int tm, .long hs])), (a1, .inl (ca 0, 226, .inl (sF z r f j nt nl gl gt))), (a7, .inl (ca 0, 200, .inl (upd (apF fi 0 B) B.length (nI 0))))] := Eq.mp (congrArg (fun z9 : Int32 => va_D A [(om, .inr (6, [.int thr, .ref a1, .ref a2, .ref a3, .int sv, .ref a4, .ref a5, .ref a6, .int ln, .ref a7, .int z9, .int (nI 0), .int (((cl9 * ((nI 100) - f)) + (((twF bw gt nt i) + (nI 0)) * f)) / (nI 100)), .int sa, .ref a8, .int lm, .int rs, .int at_, .ref a9, .int tm, .long hs])), (a1, .inl (ca 0, 226, .inl (sF z r f j nt nl gl gt))), (a7, .inl (ca 0, 200, .inl (upd (apF fi 0 B) B.length (nI 0))))]) e20) hD
                  have e21 : (nI 0 : Int32) = bI false := by first | exact apB fi B _ | exact apBn B _ | rfl
                  have hP : va_P D vwCl [(om, .inr (6, [.int thr, .ref a1, .ref a2, .ref a3, .int sv, .ref a4, .ref a5, .ref a6, .int ln, .ref a7, .int (nI ((B ++ [nI 0]).length)), .int (bI false), .int (((cl9 * ((nI 100) - f)) + (((twF bw gt nt i) + (nI 0)) * f)) / (nI 100)), .int sa, .ref a8, .int lm, .int rs, .int at_, .ref a9, .int tm, .long hs])), (a1, .inl (ca 0, 226, .inl (sF z r f j nt nl gl gt))), (a7, .inl (ca 0, 200, .inl (upd (apF fi 0 B) B.length (nI 0))))] H := Eq.mp (congrArg (fun z9 : Int32 => va_P D vwCl [(om, .inr (6, [.int thr, .ref a1, .ref a2, .ref a3, .int sv, .ref a4, .ref a5, .ref a6, .int ln, .ref a7, .int (nI ((B ++ [nI 0]).length)), .int z9, .int (((cl9 * ((nI 100) - f)) + (((twF bw gt nt i) + (nI 0)) * f)) / (nI 100)), .int sa, .ref a8, .int lm, .int rs, .int at_, .ref a9, .int tm, .long hs])), (a1, .inl (ca 0, 226, .inl (sF z r f j nt nl gl gt))), (a7, .inl (ca 0, 200, .inl (upd (apF fi 0 B) B.length (nI 0))))] H) e21) hP
                  have hD : va_D A [(om, .inr (6, [.int thr, .ref a1, .ref a2, .ref a3, .int sv, .ref a4, .ref a5, .ref a6, .int ln, .ref a7, .int (nI ((B ++ [nI 0]).length)), .int (bI false), .int (((cl9 * ((nI 100) - f)) + (((twF bw gt nt i) + (nI 0)) * f)) / (nI 100)), .int sa, .ref a8, .int lm, .int rs, .int at_, .ref a9, .int tm, .long hs])), (a1, .inl (ca 0, 226, .inl (sF z r f j nt nl gl gt))), (a7, .inl (ca 0, 200, .inl (upd (apF fi 0 B) B.length (nI 0))))] := Eq.mp (congrArg (fun z9 : Int32 => va_D A [(om, .inr (6, [.int thr, .ref a1, .ref a2, .ref a3, .int sv, .ref a4, .ref a5, .ref a6, .int ln, .ref a7, .int (nI ((B ++ [nI 0]).length)), .int z9, .int (((cl9 * ((nI 100) - f)) + (((twF bw gt nt i) + (nI 0)) * f)) / (nI 100)), .int sa, .ref a8, .int lm, .int rs, .int at_, .ref a9, .int tm, .long hs])), (a1, .inl (ca 0, 226, .inl (sF z r f j nt nl gl gt))), (a7, .inl (ca 0, 200, .inl (upd (apF fi 0 B) B.length (nI 0))))]) e21) hD
                  have e22 : (upd (apF fi 0 B) B.length (nI 0) : Nat → Int32) = apF fi 0 (B ++ [nI 0]) := by first | exact apB fi B _ | exact apBn B _ | rfl
                  have hP : va_P D vwCl [(om, .inr (6, [.int thr, .ref a1, .ref a2, .ref a3, .int sv, .ref a4, .ref a5, .ref a6, .int ln, .ref a7, .int (nI ((B ++ [nI 0]).length)), .int (bI false), .int (((cl9 * ((nI 100) - f)) + (((twF bw gt nt i) + (nI 0)) * f)) / (nI 100)), .int sa, .ref a8, .int lm, .int rs, .int at_, .ref a9, .int tm, .long hs])), (a1, .inl (ca 0, 226, .inl (sF z r f j nt nl gl gt))), (a7, .inl (ca 0, 200, .inl (apF fi 0 (B ++ [nI 0]))))] H := Eq.mp (congrArg (fun z9 : Nat → Int32 => va_P D vwCl [(om, .inr (6, [.int thr, .ref a1, .ref a2, .ref a3, .int sv, .ref a4, .ref a5, .ref a6, .int ln, .ref a7, .int (nI ((B ++ [nI 0]).length)), .int (bI false), .int (((cl9 * ((nI 100) - f)) + (((twF bw gt nt i) + (nI 0)) * f)) / (nI 100)), .int sa, .ref a8, .int lm, .int rs, .int at_, .ref a9, .int tm, .long hs])), (a1, .inl (ca 0, 226, .inl (sF z r f j nt nl gl gt))), (a7, .inl (ca 0, 200, .inl z9))] H) e22) hP
                  have hD : va_D A [(om, .inr (6, [.int thr, .ref a1, .ref a2, .ref a3, .int sv, .ref a4, .ref a5, .ref a6, .int ln, .ref a7, .int (nI ((B ++ [nI 0]).length)), .int (bI false), .int (((cl9 * ((nI 100) - f)) + (((twF bw gt nt i) + (nI 0)) * f)) / (nI 100)), .int sa, .ref a8, .int lm, .int rs, .int at_, .ref a9, .int tm, .long hs])), (a1, .inl (ca 0, 226, .inl (sF z r f j nt nl gl gt))), (a7, .inl (ca 0, 200, .inl (apF fi 0 (B ++ [nI 0]))))] := Eq.mp (congrArg (fun z9 : Nat → Int32 => va_D A [(om, .inr (6, [.int thr, .ref a1, .ref a2, .ref a3, .int sv, .ref a4, .ref a5, .ref a6, .int ln, .ref a7, .int (nI ((B ++ [nI 0]).length)), .int (bI false), .int (((cl9 * ((nI 100) - f)) + (((twF bw gt nt i) + (nI 0)) * f)) / (nI 100)), .int sa, .ref a8, .int lm, .int rs, .int at_, .ref a9, .int tm, .long hs])), (a1, .inl (ca 0, 226, .inl (sF z r f j nt nl gl gt))), (a7, .inl (ca 0, 200, .inl z9))]) e22) hD
                  exact ih1 (i + (1 + 0)) false (B ++ [nI 0]) (((cl9 * ((nI 100) - f)) + (((twF bw gt nt i) + (nI 0)) * f)) / (nI 100)) (by (show _ < _; omega)) (by omega) (by first | (rw [List.length_append]; simp only [List.length_cons, List.length_nil]; omega) | exact hB) (by first | exact lb_long hR hsh1 (by omega) | exact lb_two hR hsh1 hsh2 | exact lb_brk hR hsh1 hsh2) _ _ hP hD hS ls (lv_sub hl [0, 3, 4] rfl)
                · first | exact False.elim c19 | exact absurd c19 (by decide) | (exfalso; omega)
            · first | exact False.elim c17 | exact absurd c17 (by decide) | (exfalso; omega)
          · have hsh1 := c16
            refine lv_iconst (v := nI 1) hx hb dX6_laysBits_50 (by decide) ?_
            refine lv_goto (tgt := 55) hx hb dX6_laysBits_51 (by decide) ?_
            refine lv_istore (lv' := [(4, .int (nI 1)), (3, .int (twF bw gt nt i)), (2, .int (nI i)), (0, .ref om), (1, .int (bI bw))]) hx hb dX6_laysBits_55 hl (by decide) rfl (fun ls hl => ?_)
            refine lv_aload_n hx hb dX6_laysBits_57 rfl (lv_at hl 3 rfl) ?_
            refine lv_iload hx hb dX6_laysBits_58 (lv_at hl 0 rfl) ?_
            refine lv_iconst (v := nI 1) hx hb dX6_laysBits_60 (by decide) ?_
            refine ni_icmp_ne (tgt := 79) (by omega) (by omega) hx hb dX6_laysBits_61 (by decide) (fun c23 => ?_) (fun c23 => ?_)
            · first | exact False.elim c23 | exact absurd c23 (by decide) | (exfalso; omega)
            · refine lv_aload_n hx hb dX6_laysBits_64 rfl (lv_at hl 3 rfl) ?_
              refine lv_iload_n hx hb dX6_laysBits_65 rfl (lv_at hl 2 rfl) ?_
              refine lv_iconst (v := nI 1) hx hb dX6_laysBits_66 (by decide) ?_
              refine ni_iadd hx hb dX6_laysBits_67 ?_
              refine lv_iload_n hx hb dX6_laysBits_68 rfl (lv_at hl 4 rfl) ?_
              refine vp_callSi (va_Run.run (va_runV (As := [.int (nI (i + 1)), .int (bI bw)]) (rest := [.ref om]) ⟨hx, hb, hml, hown, hts⟩ (kX6_isShort l D ca om a1 a2 a3 a4 a5 a6 a7 a8 a9 thr sv ln (nI B.length) (bI false) cl9 sa lm rs at_ tm hs z r f j nt nl gl gt (i + 1) bw (by first | rfl | assumption | omega | trivial | (exfalso; omega)) (by first | rfl | assumption | omega | trivial | (exfalso; omega)) (by first | rfl | assumption | omega | trivial | (exfalso; omega)) (by first | rfl | assumption | omega | trivial | (exfalso; omega))) (cwV 2 hts gX6_laysBits_X6_isShort rfl rfl rfl (by decide +kernel) ⟨kk_le rfl, kk_le rfl⟩) (pvR hK (hP.sub (ws' := [(om, .inr (6, [.int thr, .ref a1, .ref a2, .ref a3, .int sv, .ref a4, .ref a5, .ref a6, .int ln, .ref a7, .int (nI B.length), .int (bI false), .int cl9, .int sa, .ref a8, .int lm, .int rs, .int at_, .ref a9, .int tm, .long hs])), (a1, .inl (ca 0, 226, .inl (sF z r f j nt nl gl gt)))]) [0, 1] rfl) (va_recv hKv hP (ci := 6) (q0 := 0) rfl rfl)) rfl rfl hl.1 rfl (lv_room (kk_le rfl)) dX6_laysBits_69 ⟨kk_le rfl, kk_le rfl⟩)) (fun r24 hr24 => ?_)
              subst hr24
              refine bi_if_ne (tgt := 79) hx hb dX6_laysBits_72 (by decide) (fun c25 => ?_) (fun c25 => ?_)
              · have hsh2 := c25
                have hlt := (shB_t hsh2).1
                refine lv_iconst (v := nI 0) hx hb dX6_laysBits_79 (by decide) ?_
                refine va_put (D := D) (ci := 6) (v := .int (nI 0)) (ty := .boolean) (C := RX6) (T := TX6) (N := 21) hx hb hts hiX6 tyX6 tyX6_ok nmX6 hown hKv hP hD hS 0 rfl rfl 11 (by decide) lk84 (fun _ h9 => h9) rfl (by decide +kernel) (by first | rfl | exact bI_nar _ | exact bI_fit _ | (first | exact Or.inl rfl | exact Or.inr rfl)) (by first | rfl | exact bI_nar _ | exact bI_fit _ | (first | exact Or.inl rfl | exact Or.inr rfl)) (kk_le rfl) dX6_laysBits_80 (fun H locs hP hD hS => ?_)
                have hP : va_P D vwCl [(om, .inr (6, [.int thr, .ref a1, .ref a2, .ref a3, .int sv, .ref a4, .ref a5, .ref a6, .int ln, .ref a7, .int (nI B.length), .int (nI 0), .int cl9, .int sa, .ref a8, .int lm, .int rs, .int at_, .ref a9, .int tm, .long hs])), (a1, .inl (ca 0, 226, .inl (sF z r f j nt nl gl gt))), (a7, .inl (ca 0, 200, .inl (apF fi 0 B)))] H := hP
                have hD : va_D A [(om, .inr (6, [.int thr, .ref a1, .ref a2, .ref a3, .int sv, .ref a4, .ref a5, .ref a6, .int ln, .ref a7, .int (nI B.length), .int (nI 0), .int cl9, .int sa, .ref a8, .int lm, .int rs, .int at_, .ref a9, .int tm, .long hs])), (a1, .inl (ca 0, 226, .inl (sF z r f j nt nl gl gt))), (a7, .inl (ca 0, 200, .inl (apF fi 0 B)))] := hD
                refine lv_aload_n hx hb dX6_laysBits_83 rfl (lv_at hl 3 rfl) ?_
                refine va_get (D := D) (ci := 6) (C := RX6) (T := TX6) (N := 21) hx hb hts hiX6 hown hKv hP 0 rfl rfl 11 (by decide) lk84 (fun _ h9 => h9) rfl dX6_laysBits_84 ?_
                refine ni_if_ne (tgt := 169) (by omega) hx hb dX6_laysBits_87 (by decide) (fun c26 => ?_) (fun c26 => ?_)
                · first | exact False.elim c26 | exact absurd c26 (by decide) | (exfalso; omega)
                · refine lv_iload_n hx hb dX6_laysBits_90 rfl (lv_at hl 1 rfl) ?_
                  refine lv_iload hx hb dX6_laysBits_91 (lv_at hl 0 rfl) ?_
                  refine lv_iconst (v := nI 1) hx hb dX6_laysBits_93 (by decide) ?_
                  refine ni_icmp_ne (tgt := 108) (by omega) (by omega) hx hb dX6_laysBits_94 (by decide) (fun c27 => ?_) (fun c27 => ?_)
                  · first | exact False.elim c27 | exact absurd c27 (by decide) | (exfalso; omega)
                  · refine lv_aload_n hx hb dX6_laysBits_97 rfl (lv_at hl 3 rfl) ?_
                    refine lv_iload_n hx hb dX6_laysBits_98 rfl (lv_at hl 2 rfl) ?_
                    refine lv_iconst (v := nI 1) hx hb dX6_laysBits_99 (by decide) ?_
                    refine ni_iadd hx hb dX6_laysBits_100 ?_
                    refine lv_iload_n hx hb dX6_laysBits_101 rfl (lv_at hl 4 rfl) ?_
                    refine vp_callSi (va_Run.run (va_runV (As := [.int (nI (i + 1)), .int (bI bw)]) (rest := [.int (twF bw gt nt i)]) ⟨hx, hb, hml, hown, hts⟩ (kX6_timeAt l D ca om a1 a2 a3 a4 a5 a6 a7 a8 a9 thr sv ln (nI B.length) (nI 0) cl9 sa lm rs at_ tm hs z r f j nt nl gl gt (i + 1) bw (by omega) (by omega) (by omega) (by exact hlt)) (cwV 2 hts gX6_laysBits_X6_timeAt rfl rfl rfl (by decide +kernel) ⟨kk_le rfl, kk_le rfl⟩) (pvR hK (hP.sub (ws' := [(om, .inr (6, [.int thr, .ref a1, .ref a2, .ref a3, .int sv, .ref a4, .ref a5, .ref a6, .int ln, .ref a7, .int (nI B.length), .int (nI 0), .int cl9, .int sa, .ref a8, .int lm, .int rs, .int at_, .ref a9, .int tm, .long hs])), (a1, .inl (ca 0, 226, .inl (sF z r f j nt nl gl gt)))]) [0, 1] rfl) (va_recv hKv hP (ci := 6) (q0 := 0) rfl rfl)) rfl rfl hl.1 rfl (lv_room (kk_le rfl)) dX6_laysBits_102 ⟨kk_le rfl, kk_le rfl⟩)) (fun r28 hr28 => ?_)
                    subst hr28
                    refine lv_goto (tgt := 109) hx hb dX6_laysBits_105 (by decide) ?_
                    refine lv_iadd hx hb dX6_laysBits_109 ?_
                    refine lv_istore_n (lv' := [(3, .int ((twF bw gt nt i) + (twF bw gt nt (i + 1)))), (4, .int (nI 1)), (2, .int (nI i)), (0, .ref om), (1, .int (bI bw))]) hx hb dX6_laysBits_110 rfl hl (by decide) rfl (fun ls hl => ?_)
                    refine lv_iload_n hx hb dX6_laysBits_111 rfl (lv_at hl 2 rfl) ?_
                    refine lv_iconst (v := nI 1) hx hb dX6_laysBits_112 (by decide) ?_
                    refine lv_iload hx hb dX6_laysBits_113 (lv_at hl 1 rfl) ?_
                    refine ni_iadd hx hb dX6_laysBits_115 ?_
                    refine ni_iadd hx hb dX6_laysBits_116 ?_
                    refine lv_istore_n (lv' := [(2, .int (nI (i + (1 + 1)))), (3, .int ((twF bw gt nt i) + (twF bw gt nt (i + 1)))), (4, .int (nI 1)), (0, .ref om), (1, .int (bI bw))]) hx hb dX6_laysBits_117 rfl hl (by decide) rfl (fun ls hl => ?_)
                    refine lv_aload_n hx hb dX6_laysBits_118 rfl (lv_at hl 3 rfl) ?_
                    refine va_get (D := D) (ci := 6) (C := RX6) (T := TX6) (N := 21) hx hb hts hiX6 hown hKv hP 0 rfl rfl 9 (by decide) lk29 (fun _ h9 => h9) rfl dX6_laysBits_119 ?_
                    refine lv_aload_n hx hb dX6_laysBits_122 rfl (lv_at hl 3 rfl) ?_
                    refine va_get (D := D) (ci := 6) (C := RX6) (T := TX6) (N := 21) hx hb hts hiX6 hown hKv hP 0 rfl rfl 10 (by decide) lk81 (fun _ h9 => h9) rfl dX6_laysBits_123 ?_
                    refine lv_iload hx hb dX6_laysBits_126 (lv_at hl 2 rfl) ?_
                    refine my_iast hx hb hK hP hD hS 2 rfl (by omega) (by omega) dX6_laysBits_128 (fun H locs hP hD hS => ?_)
                    have hP : va_P D vwCl [(om, .inr (6, [.int thr, .ref a1, .ref a2, .ref a3, .int sv, .ref a4, .ref a5, .ref a6, .int ln, .ref a7, .int (nI B.length), .int (nI 0), .int cl9, .int sa, .ref a8, .int lm, .int rs, .int at_, .ref a9, .int tm, .long hs])), (a1, .inl (ca 0, 226, .inl (sF z r f j nt nl gl gt))), (a7, .inl (ca 0, 200, .inl (upd (apF fi 0 B) B.length (nI 1))))] H := hP
                    have hD : va_D A [(om, .inr (6, [.int thr, .ref a1, .ref a2, .ref a3, .int sv, .ref a4, .ref a5, .ref a6, .int ln, .ref a7, .int (nI B.length), .int (nI 0), .int cl9, .int sa, .ref a8, .int lm, .int rs, .int at_, .ref a9, .int tm, .long hs])), (a1, .inl (ca 0, 226, .inl (sF z r f j nt nl gl gt))), (a7, .inl (ca 0, 200, .inl (upd (apF fi 0 B) B.length (nI 1))))] := hD
                    refine lv_aload_n hx hb dX6_laysBits_129 rfl (lv_at hl 3 rfl) ?_
                    refine lv_dup hx hb dX6_laysBits_130 rfl ?_
                    refine va_get (D := D) (ci := 6) (C := RX6) (T := TX6) (N := 21) hx hb hts hiX6 hown hKv hP 0 rfl rfl 10 (by decide) lk81 (fun _ h9 => h9) rfl dX6_laysBits_131 ?_
                    refine lv_iconst (v := nI 1) hx hb dX6_laysBits_134 (by decide) ?_
                    refine ni_iadd hx hb dX6_laysBits_135 ?_
                    refine va_put (D := D) (ci := 6) (v := .int (nI (B.length + 1))) (ty := .int) (C := RX6) (T := TX6) (N := 21) hx hb hts hiX6 tyX6 tyX6_ok nmX6 hown hKv hP hD hS 0 rfl rfl 10 (by decide) lk81 (fun _ h9 => h9) rfl (by decide +kernel) rfl rfl (kk_le rfl) dX6_laysBits_136 (fun H locs hP hD hS => ?_)
                    have hP : va_P D vwCl [(om, .inr (6, [.int thr, .ref a1, .ref a2, .ref a3, .int sv, .ref a4, .ref a5, .ref a6, .int ln, .ref a7, .int (nI (B.length + 1)), .int (nI 0), .int cl9, .int sa, .ref a8, .int lm, .int rs, .int at_, .ref a9, .int tm, .long hs])), (a1, .inl (ca 0, 226, .inl (sF z r f j nt nl gl gt))), (a7, .inl (ca 0, 200, .inl (upd (apF fi 0 B) B.length (nI 1))))] H := hP
                    have hD : va_D A [(om, .inr (6, [.int thr, .ref a1, .ref a2, .ref a3, .int sv, .ref a4, .ref a5, .ref a6, .int ln, .ref a7, .int (nI (B.length + 1)), .int (nI 0), .int cl9, .int sa, .ref a8, .int lm, .int rs, .int at_, .ref a9, .int tm, .long hs])), (a1, .inl (ca 0, 226, .inl (sF z r f j nt nl gl gt))), (a7, .inl (ca 0, 200, .inl (upd (apF fi 0 B) B.length (nI 1))))] := hD
                    refine lv_aload_n hx hb dX6_laysBits_139 rfl (lv_at hl 3 rfl) ?_
                    refine lv_aload_n hx hb dX6_laysBits_140 rfl (lv_at hl 3 rfl) ?_
                    refine va_get (D := D) (ci := 6) (C := RX6) (T := TX6) (N := 21) hx hb hts hiX6 hown hKv hP 0 rfl rfl 12 (by decide) lk74 (fun _ h9 => h9) rfl dX6_laysBits_141 ?_
                    refine lv_bipush (v := nI 100) hx hb dX6_laysBits_144 (by decide) ?_
                    refine lv_aload_n hx hb dX6_laysBits_146 rfl (lv_at hl 3 rfl) ?_
                    refine va_get (D := D) (ci := 6) (C := RX6) (T := TX6) (N := 21) hx hb hts hiX6 hown hKv hP 0 rfl rfl 1 (by decide) lk7 (fun _ h9 => h9) rfl dX6_laysBits_147 ?_
                    refine lv_iconst (v := nI 2) hx hb dX6_laysBits_150 (by decide) ?_
                    refine my_iald hx hb hK hP 1 rfl (by omega) (by omega) dX6_laysBits_151 ?_
                    rw [show sF z r f j nt nl gl gt 2 = f from rfl]
                    refine lv_isub hx hb dX6_laysBits_152 ?_
                    refine lv_imul hx hb dX6_laysBits_153 ?_
                    refine lv_iload_n hx hb dX6_laysBits_154 rfl (lv_at hl 1 rfl) ?_
                    refine lv_aload_n hx hb dX6_laysBits_155 rfl (lv_at hl 3 rfl) ?_
                    refine va_get (D := D) (ci := 6) (C := RX6) (T := TX6) (N := 21) hx hb hts hiX6 hown hKv hP 0 rfl rfl 1 (by decide) lk7 (fun _ h9 => h9) rfl dX6_laysBits_156 ?_
                    refine lv_iconst (v := nI 2) hx hb dX6_laysBits_159 (by decide) ?_
                    refine my_iald hx hb hK hP 1 rfl (by omega) (by omega) dX6_laysBits_160 ?_
                    rw [show sF z r f j nt nl gl gt 2 = f from rfl]
                    refine lv_imul hx hb dX6_laysBits_161 ?_
                    refine lv_iadd hx hb dX6_laysBits_162 ?_
                    refine lv_bipush (v := nI 100) hx hb dX6_laysBits_163 (by decide) ?_
                    refine lv_idiv hx hb dX6_laysBits_165 (by first | decide | assumption | exact nI_ne0 (by omega) (by omega)) ?_
                    refine va_put (D := D) (ci := 6) (v := .int (((cl9 * ((nI 100) - f)) + (((twF bw gt nt i) + (twF bw gt nt (i + 1))) * f)) / (nI 100))) (ty := .int) (C := RX6) (T := TX6) (N := 21) hx hb hts hiX6 tyX6 tyX6_ok nmX6 hown hKv hP hD hS 0 rfl rfl 12 (by decide) lk74 (fun _ h9 => h9) rfl (by decide +kernel) rfl rfl (kk_le rfl) dX6_laysBits_166 (fun H locs hP hD hS => ?_)
                    have hP : va_P D vwCl [(om, .inr (6, [.int thr, .ref a1, .ref a2, .ref a3, .int sv, .ref a4, .ref a5, .ref a6, .int ln, .ref a7, .int (nI (B.length + 1)), .int (nI 0), .int (((cl9 * ((nI 100) - f)) + (((twF bw gt nt i) + (twF bw gt nt (i + 1))) * f)) / (nI 100)), .int sa, .ref a8, .int lm, .int rs, .int at_, .ref a9, .int tm, .long hs])), (a1, .inl (ca 0, 226, .inl (sF z r f j nt nl gl gt))), (a7, .inl (ca 0, 200, .inl (upd (apF fi 0 B) B.length (nI 1))))] H := hP
                    have hD : va_D A [(om, .inr (6, [.int thr, .ref a1, .ref a2, .ref a3, .int sv, .ref a4, .ref a5, .ref a6, .int ln, .ref a7, .int (nI (B.length + 1)), .int (nI 0), .int (((cl9 * ((nI 100) - f)) + (((twF bw gt nt i) + (twF bw gt nt (i + 1))) * f)) / (nI 100)), .int sa, .ref a8, .int lm, .int rs, .int at_, .ref a9, .int tm, .long hs])), (a1, .inl (ca 0, 226, .inl (sF z r f j nt nl gl gt))), (a7, .inl (ca 0, 200, .inl (upd (apF fi 0 B) B.length (nI 1))))] := hD
                    refine lv_goto (tgt := 17) hx hb dX6_laysBits_169 (by decide) ?_
                    have e29 : (nI (B.length + 1) : Int32) = nI ((B ++ [nI 1]).length) := by first | exact apB fi B _ | exact apBn B _ | rfl
                    have hP : va_P D vwCl [(om, .inr (6, [.int thr, .ref a1, .ref a2, .ref a3, .int sv, .ref a4, .ref a5, .ref a6, .int ln, .ref a7, .int (nI ((B ++ [nI 1]).length)), .int (nI 0), .int (((cl9 * ((nI 100) - f)) + (((twF bw gt nt i) + (twF bw gt nt (i + 1))) * f)) / (nI 100)), .int sa, .ref a8, .int lm, .int rs, .int at_, .ref a9, .int tm, .long hs])), (a1, .inl (ca 0, 226, .inl (sF z r f j nt nl gl gt))), (a7, .inl (ca 0, 200, .inl (upd (apF fi 0 B) B.length (nI 1))))] H := Eq.mp (congrArg (fun z9 : Int32 => va_P D vwCl [(om, .inr (6, [.int thr, .ref a1, .ref a2, .ref a3, .int sv, .ref a4, .ref a5, .ref a6, .int ln, .ref a7, .int z9, .int (nI 0), .int (((cl9 * ((nI 100) - f)) + (((twF bw gt nt i) + (twF bw gt nt (i + 1))) * f)) / (nI 100)), .int sa, .ref a8, .int lm, .int rs, .int at_, .ref a9, .int tm, .long hs])), (a1, .inl (ca 0, 226, .inl (sF z r f j nt nl gl gt))), (a7, .inl (ca 0, 200, .inl (upd (apF fi 0 B) B.length (nI 1))))] H) e29) hP
                    have hD : va_D A [(om, .inr (6, [.int thr, .ref a1, .ref a2, .ref a3, .int sv, .ref a4, .ref a5, .ref a6, .int ln, .ref a7, .int (nI ((B ++ [nI 1]).length)), .int (nI 0), .int (((cl9 * ((nI 100) - f)) + (((twF bw gt nt i) + (twF bw gt nt (i + 1))) * f)) / (nI 100)), .int sa, .ref a8, .int lm, .int rs, .int at_, .ref a9, .int tm, .long hs])), (a1, .inl (ca 0, 226, .inl (sF z r f j nt nl gl gt))), (a7, .inl (ca 0, 200, .inl (upd (apF fi 0 B) B.length (nI 1))))] := Eq.mp (congrArg (fun z9 : Int32 => va_D A [(om, .inr (6, [.int thr, .ref a1, .ref a2, .ref a3, .int sv, .ref a4, .ref a5, .ref a6, .int ln, .ref a7, .int z9, .int (nI 0), .int (((cl9 * ((nI 100) - f)) + (((twF bw gt nt i) + (twF bw gt nt (i + 1))) * f)) / (nI 100)), .int sa, .ref a8, .int lm, .int rs, .int at_, .ref a9, .int tm, .long hs])), (a1, .inl (ca 0, 226, .inl (sF z r f j nt nl gl gt))), (a7, .inl (ca 0, 200, .inl (upd (apF fi 0 B) B.length (nI 1))))]) e29) hD
                    have e30 : (nI 0 : Int32) = bI false := by first | exact apB fi B _ | exact apBn B _ | rfl
                    have hP : va_P D vwCl [(om, .inr (6, [.int thr, .ref a1, .ref a2, .ref a3, .int sv, .ref a4, .ref a5, .ref a6, .int ln, .ref a7, .int (nI ((B ++ [nI 1]).length)), .int (bI false), .int (((cl9 * ((nI 100) - f)) + (((twF bw gt nt i) + (twF bw gt nt (i + 1))) * f)) / (nI 100)), .int sa, .ref a8, .int lm, .int rs, .int at_, .ref a9, .int tm, .long hs])), (a1, .inl (ca 0, 226, .inl (sF z r f j nt nl gl gt))), (a7, .inl (ca 0, 200, .inl (upd (apF fi 0 B) B.length (nI 1))))] H := Eq.mp (congrArg (fun z9 : Int32 => va_P D vwCl [(om, .inr (6, [.int thr, .ref a1, .ref a2, .ref a3, .int sv, .ref a4, .ref a5, .ref a6, .int ln, .ref a7, .int (nI ((B ++ [nI 1]).length)), .int z9, .int (((cl9 * ((nI 100) - f)) + (((twF bw gt nt i) + (twF bw gt nt (i + 1))) * f)) / (nI 100)), .int sa, .ref a8, .int lm, .int rs, .int at_, .ref a9, .int tm, .long hs])), (a1, .inl (ca 0, 226, .inl (sF z r f j nt nl gl gt))), (a7, .inl (ca 0, 200, .inl (upd (apF fi 0 B) B.length (nI 1))))] H) e30) hP
                    have hD : va_D A [(om, .inr (6, [.int thr, .ref a1, .ref a2, .ref a3, .int sv, .ref a4, .ref a5, .ref a6, .int ln, .ref a7, .int (nI ((B ++ [nI 1]).length)), .int (bI false), .int (((cl9 * ((nI 100) - f)) + (((twF bw gt nt i) + (twF bw gt nt (i + 1))) * f)) / (nI 100)), .int sa, .ref a8, .int lm, .int rs, .int at_, .ref a9, .int tm, .long hs])), (a1, .inl (ca 0, 226, .inl (sF z r f j nt nl gl gt))), (a7, .inl (ca 0, 200, .inl (upd (apF fi 0 B) B.length (nI 1))))] := Eq.mp (congrArg (fun z9 : Int32 => va_D A [(om, .inr (6, [.int thr, .ref a1, .ref a2, .ref a3, .int sv, .ref a4, .ref a5, .ref a6, .int ln, .ref a7, .int (nI ((B ++ [nI 1]).length)), .int z9, .int (((cl9 * ((nI 100) - f)) + (((twF bw gt nt i) + (twF bw gt nt (i + 1))) * f)) / (nI 100)), .int sa, .ref a8, .int lm, .int rs, .int at_, .ref a9, .int tm, .long hs])), (a1, .inl (ca 0, 226, .inl (sF z r f j nt nl gl gt))), (a7, .inl (ca 0, 200, .inl (upd (apF fi 0 B) B.length (nI 1))))]) e30) hD
                    have e31 : (upd (apF fi 0 B) B.length (nI 1) : Nat → Int32) = apF fi 0 (B ++ [nI 1]) := by first | exact apB fi B _ | exact apBn B _ | rfl
                    have hP : va_P D vwCl [(om, .inr (6, [.int thr, .ref a1, .ref a2, .ref a3, .int sv, .ref a4, .ref a5, .ref a6, .int ln, .ref a7, .int (nI ((B ++ [nI 1]).length)), .int (bI false), .int (((cl9 * ((nI 100) - f)) + (((twF bw gt nt i) + (twF bw gt nt (i + 1))) * f)) / (nI 100)), .int sa, .ref a8, .int lm, .int rs, .int at_, .ref a9, .int tm, .long hs])), (a1, .inl (ca 0, 226, .inl (sF z r f j nt nl gl gt))), (a7, .inl (ca 0, 200, .inl (apF fi 0 (B ++ [nI 1]))))] H := Eq.mp (congrArg (fun z9 : Nat → Int32 => va_P D vwCl [(om, .inr (6, [.int thr, .ref a1, .ref a2, .ref a3, .int sv, .ref a4, .ref a5, .ref a6, .int ln, .ref a7, .int (nI ((B ++ [nI 1]).length)), .int (bI false), .int (((cl9 * ((nI 100) - f)) + (((twF bw gt nt i) + (twF bw gt nt (i + 1))) * f)) / (nI 100)), .int sa, .ref a8, .int lm, .int rs, .int at_, .ref a9, .int tm, .long hs])), (a1, .inl (ca 0, 226, .inl (sF z r f j nt nl gl gt))), (a7, .inl (ca 0, 200, .inl z9))] H) e31) hP
                    have hD : va_D A [(om, .inr (6, [.int thr, .ref a1, .ref a2, .ref a3, .int sv, .ref a4, .ref a5, .ref a6, .int ln, .ref a7, .int (nI ((B ++ [nI 1]).length)), .int (bI false), .int (((cl9 * ((nI 100) - f)) + (((twF bw gt nt i) + (twF bw gt nt (i + 1))) * f)) / (nI 100)), .int sa, .ref a8, .int lm, .int rs, .int at_, .ref a9, .int tm, .long hs])), (a1, .inl (ca 0, 226, .inl (sF z r f j nt nl gl gt))), (a7, .inl (ca 0, 200, .inl (apF fi 0 (B ++ [nI 1]))))] := Eq.mp (congrArg (fun z9 : Nat → Int32 => va_D A [(om, .inr (6, [.int thr, .ref a1, .ref a2, .ref a3, .int sv, .ref a4, .ref a5, .ref a6, .int ln, .ref a7, .int (nI ((B ++ [nI 1]).length)), .int (bI false), .int (((cl9 * ((nI 100) - f)) + (((twF bw gt nt i) + (twF bw gt nt (i + 1))) * f)) / (nI 100)), .int sa, .ref a8, .int lm, .int rs, .int at_, .ref a9, .int tm, .long hs])), (a1, .inl (ca 0, 226, .inl (sF z r f j nt nl gl gt))), (a7, .inl (ca 0, 200, .inl z9))]) e31) hD
                    exact ih1 (i + (1 + 1)) false (B ++ [nI 1]) (((cl9 * ((nI 100) - f)) + (((twF bw gt nt i) + (twF bw gt nt (i + 1))) * f)) / (nI 100)) (by (show _ < _; omega)) (by omega) (by first | (rw [List.length_append]; simp only [List.length_cons, List.length_nil]; omega) | exact hB) (by first | exact lb_long hR hsh1 (by omega) | exact lb_two hR hsh1 hsh2 | exact lb_brk hR hsh1 hsh2) _ _ hP hD hS ls (lv_sub hl [0, 3, 4] rfl)
              · have hsh2 := c25
                refine lv_iconst (v := nI 1) hx hb dX6_laysBits_75 (by decide) ?_
                refine lv_goto (tgt := 80) hx hb dX6_laysBits_76 (by decide) ?_
                refine va_put (D := D) (ci := 6) (v := .int (nI 1)) (ty := .boolean) (C := RX6) (T := TX6) (N := 21) hx hb hts hiX6 tyX6 tyX6_ok nmX6 hown hKv hP hD hS 0 rfl rfl 11 (by decide) lk84 (fun _ h9 => h9) rfl (by decide +kernel) (by first | rfl | exact bI_nar _ | exact bI_fit _ | (first | exact Or.inl rfl | exact Or.inr rfl)) (by first | rfl | exact bI_nar _ | exact bI_fit _ | (first | exact Or.inl rfl | exact Or.inr rfl)) (kk_le rfl) dX6_laysBits_80 (fun H locs hP hD hS => ?_)
                have hP : va_P D vwCl [(om, .inr (6, [.int thr, .ref a1, .ref a2, .ref a3, .int sv, .ref a4, .ref a5, .ref a6, .int ln, .ref a7, .int (nI B.length), .int (nI 1), .int cl9, .int sa, .ref a8, .int lm, .int rs, .int at_, .ref a9, .int tm, .long hs])), (a1, .inl (ca 0, 226, .inl (sF z r f j nt nl gl gt))), (a7, .inl (ca 0, 200, .inl (apF fi 0 B)))] H := hP
                have hD : va_D A [(om, .inr (6, [.int thr, .ref a1, .ref a2, .ref a3, .int sv, .ref a4, .ref a5, .ref a6, .int ln, .ref a7, .int (nI B.length), .int (nI 1), .int cl9, .int sa, .ref a8, .int lm, .int rs, .int at_, .ref a9, .int tm, .long hs])), (a1, .inl (ca 0, 226, .inl (sF z r f j nt nl gl gt))), (a7, .inl (ca 0, 200, .inl (apF fi 0 B)))] := hD
                refine lv_aload_n hx hb dX6_laysBits_83 rfl (lv_at hl 3 rfl) ?_
                refine va_get (D := D) (ci := 6) (C := RX6) (T := TX6) (N := 21) hx hb hts hiX6 hown hKv hP 0 rfl rfl 11 (by decide) lk84 (fun _ h9 => h9) rfl dX6_laysBits_84 ?_
                refine ni_if_ne (tgt := 169) (by omega) hx hb dX6_laysBits_87 (by decide) (fun c32 => ?_) (fun c32 => ?_)
                · refine lv_goto (tgt := 17) hx hb dX6_laysBits_169 (by decide) ?_
                  have e33 : (nI 1 : Int32) = bI true := by first | exact apB fi B _ | exact apBn B _ | rfl
                  have hP : va_P D vwCl [(om, .inr (6, [.int thr, .ref a1, .ref a2, .ref a3, .int sv, .ref a4, .ref a5, .ref a6, .int ln, .ref a7, .int (nI B.length), .int (bI true), .int cl9, .int sa, .ref a8, .int lm, .int rs, .int at_, .ref a9, .int tm, .long hs])), (a1, .inl (ca 0, 226, .inl (sF z r f j nt nl gl gt))), (a7, .inl (ca 0, 200, .inl (apF fi 0 B)))] H := Eq.mp (congrArg (fun z9 : Int32 => va_P D vwCl [(om, .inr (6, [.int thr, .ref a1, .ref a2, .ref a3, .int sv, .ref a4, .ref a5, .ref a6, .int ln, .ref a7, .int (nI B.length), .int z9, .int cl9, .int sa, .ref a8, .int lm, .int rs, .int at_, .ref a9, .int tm, .long hs])), (a1, .inl (ca 0, 226, .inl (sF z r f j nt nl gl gt))), (a7, .inl (ca 0, 200, .inl (apF fi 0 B)))] H) e33) hP
                  have hD : va_D A [(om, .inr (6, [.int thr, .ref a1, .ref a2, .ref a3, .int sv, .ref a4, .ref a5, .ref a6, .int ln, .ref a7, .int (nI B.length), .int (bI true), .int cl9, .int sa, .ref a8, .int lm, .int rs, .int at_, .ref a9, .int tm, .long hs])), (a1, .inl (ca 0, 226, .inl (sF z r f j nt nl gl gt))), (a7, .inl (ca 0, 200, .inl (apF fi 0 B)))] := Eq.mp (congrArg (fun z9 : Int32 => va_D A [(om, .inr (6, [.int thr, .ref a1, .ref a2, .ref a3, .int sv, .ref a4, .ref a5, .ref a6, .int ln, .ref a7, .int (nI B.length), .int z9, .int cl9, .int sa, .ref a8, .int lm, .int rs, .int at_, .ref a9, .int tm, .long hs])), (a1, .inl (ca 0, 226, .inl (sF z r f j nt nl gl gt))), (a7, .inl (ca 0, 200, .inl (apF fi 0 B)))]) e33) hD
                  exact ih1 i true B cl9 (by (show _ < _; omega)) (by omega) (by first | (rw [List.length_append]; simp only [List.length_cons, List.length_nil]; omega) | exact hB) (by first | exact lb_long hR hsh1 (by omega) | exact lb_two hR hsh1 hsh2 | exact lb_brk hR hsh1 hsh2) _ _ hP hD hS ls (lv_sub hl [2, 3, 4] rfl)
                · first | exact False.elim c32 | exact absurd c32 (by decide) | (exfalso; omega)
  have e34 : (nI 0 : Int32) = nI (([] : IL).length) := by first | rfl | exact (apF_0 fi 0).symm
  have hP : va_P D vwCl [(om, .inr (6, [.int thr, .ref a1, .ref a2, .ref a3, .int sv, .ref a4, .ref a5, .ref a6, .int ln, .ref a7, .int (nI (([] : IL).length)), .int (nI 0), .int (fclk (lst (twF bw gt nt) nt)), .int sa, .ref a8, .int lm, .int rs, .int at_, .ref a9, .int tm, .long hs])), (a1, .inl (ca 0, 226, .inl (sF z r f j nt nl gl gt))), (a7, .inl (ca 0, 200, .inl fi))] H := Eq.mp (congrArg (fun z9 : Int32 => va_P D vwCl [(om, .inr (6, [.int thr, .ref a1, .ref a2, .ref a3, .int sv, .ref a4, .ref a5, .ref a6, .int ln, .ref a7, .int z9, .int (nI 0), .int (fclk (lst (twF bw gt nt) nt)), .int sa, .ref a8, .int lm, .int rs, .int at_, .ref a9, .int tm, .long hs])), (a1, .inl (ca 0, 226, .inl (sF z r f j nt nl gl gt))), (a7, .inl (ca 0, 200, .inl fi))] H) e34) hP
  have hD : va_D A [(om, .inr (6, [.int thr, .ref a1, .ref a2, .ref a3, .int sv, .ref a4, .ref a5, .ref a6, .int ln, .ref a7, .int (nI (([] : IL).length)), .int (nI 0), .int (fclk (lst (twF bw gt nt) nt)), .int sa, .ref a8, .int lm, .int rs, .int at_, .ref a9, .int tm, .long hs])), (a1, .inl (ca 0, 226, .inl (sF z r f j nt nl gl gt))), (a7, .inl (ca 0, 200, .inl fi))] := Eq.mp (congrArg (fun z9 : Int32 => va_D A [(om, .inr (6, [.int thr, .ref a1, .ref a2, .ref a3, .int sv, .ref a4, .ref a5, .ref a6, .int ln, .ref a7, .int z9, .int (nI 0), .int (fclk (lst (twF bw gt nt) nt)), .int sa, .ref a8, .int lm, .int rs, .int at_, .ref a9, .int tm, .long hs])), (a1, .inl (ca 0, 226, .inl (sF z r f j nt nl gl gt))), (a7, .inl (ca 0, 200, .inl fi))]) e34) hD
  have e35 : (nI 0 : Int32) = bI false := by first | rfl | exact (apF_0 fi 0).symm
  have hP : va_P D vwCl [(om, .inr (6, [.int thr, .ref a1, .ref a2, .ref a3, .int sv, .ref a4, .ref a5, .ref a6, .int ln, .ref a7, .int (nI (([] : IL).length)), .int (bI false), .int (fclk (lst (twF bw gt nt) nt)), .int sa, .ref a8, .int lm, .int rs, .int at_, .ref a9, .int tm, .long hs])), (a1, .inl (ca 0, 226, .inl (sF z r f j nt nl gl gt))), (a7, .inl (ca 0, 200, .inl fi))] H := Eq.mp (congrArg (fun z9 : Int32 => va_P D vwCl [(om, .inr (6, [.int thr, .ref a1, .ref a2, .ref a3, .int sv, .ref a4, .ref a5, .ref a6, .int ln, .ref a7, .int (nI (([] : IL).length)), .int z9, .int (fclk (lst (twF bw gt nt) nt)), .int sa, .ref a8, .int lm, .int rs, .int at_, .ref a9, .int tm, .long hs])), (a1, .inl (ca 0, 226, .inl (sF z r f j nt nl gl gt))), (a7, .inl (ca 0, 200, .inl fi))] H) e35) hP
  have hD : va_D A [(om, .inr (6, [.int thr, .ref a1, .ref a2, .ref a3, .int sv, .ref a4, .ref a5, .ref a6, .int ln, .ref a7, .int (nI (([] : IL).length)), .int (bI false), .int (fclk (lst (twF bw gt nt) nt)), .int sa, .ref a8, .int lm, .int rs, .int at_, .ref a9, .int tm, .long hs])), (a1, .inl (ca 0, 226, .inl (sF z r f j nt nl gl gt))), (a7, .inl (ca 0, 200, .inl fi))] := Eq.mp (congrArg (fun z9 : Int32 => va_D A [(om, .inr (6, [.int thr, .ref a1, .ref a2, .ref a3, .int sv, .ref a4, .ref a5, .ref a6, .int ln, .ref a7, .int (nI (([] : IL).length)), .int z9, .int (fclk (lst (twF bw gt nt) nt)), .int sa, .ref a8, .int lm, .int rs, .int at_, .ref a9, .int tm, .long hs])), (a1, .inl (ca 0, 226, .inl (sF z r f j nt nl gl gt))), (a7, .inl (ca 0, 200, .inl fi))]) e35) hD
  have e36 : (fi : Nat → Int32) = apF fi 0 ([] : IL) := by first | rfl | exact (apF_0 fi 0).symm
  have hP : va_P D vwCl [(om, .inr (6, [.int thr, .ref a1, .ref a2, .ref a3, .int sv, .ref a4, .ref a5, .ref a6, .int ln, .ref a7, .int (nI (([] : IL).length)), .int (bI false), .int (fclk (lst (twF bw gt nt) nt)), .int sa, .ref a8, .int lm, .int rs, .int at_, .ref a9, .int tm, .long hs])), (a1, .inl (ca 0, 226, .inl (sF z r f j nt nl gl gt))), (a7, .inl (ca 0, 200, .inl (apF fi 0 ([] : IL))))] H := Eq.mp (congrArg (fun z9 : Nat → Int32 => va_P D vwCl [(om, .inr (6, [.int thr, .ref a1, .ref a2, .ref a3, .int sv, .ref a4, .ref a5, .ref a6, .int ln, .ref a7, .int (nI (([] : IL).length)), .int (bI false), .int (fclk (lst (twF bw gt nt) nt)), .int sa, .ref a8, .int lm, .int rs, .int at_, .ref a9, .int tm, .long hs])), (a1, .inl (ca 0, 226, .inl (sF z r f j nt nl gl gt))), (a7, .inl (ca 0, 200, .inl z9))] H) e36) hP
  have hD : va_D A [(om, .inr (6, [.int thr, .ref a1, .ref a2, .ref a3, .int sv, .ref a4, .ref a5, .ref a6, .int ln, .ref a7, .int (nI (([] : IL).length)), .int (bI false), .int (fclk (lst (twF bw gt nt) nt)), .int sa, .ref a8, .int lm, .int rs, .int at_, .ref a9, .int tm, .long hs])), (a1, .inl (ca 0, 226, .inl (sF z r f j nt nl gl gt))), (a7, .inl (ca 0, 200, .inl (apF fi 0 ([] : IL))))] := Eq.mp (congrArg (fun z9 : Nat → Int32 => va_D A [(om, .inr (6, [.int thr, .ref a1, .ref a2, .ref a3, .int sv, .ref a4, .ref a5, .ref a6, .int ln, .ref a7, .int (nI (([] : IL).length)), .int (bI false), .int (fclk (lst (twF bw gt nt) nt)), .int sa, .ref a8, .int lm, .int rs, .int at_, .ref a9, .int tm, .long hs])), (a1, .inl (ca 0, 226, .inl (sF z r f j nt nl gl gt))), (a7, .inl (ca 0, 200, .inl z9))]) e36) hD
  exact lp17_2 ((nt - 0 + bN false) + 1) 0 false ([] : IL) (fclk (lst (twF bw gt nt) nt)) (by (show _ < _; omega)) (by omega) (by exact Nat.zero_le _) (by rfl) _ _ hP hD hS ls (lv_sub hl [0, 1, 2] rfl)
abbrev rm_kX6_isStart : Room := { frames := 2, cells := 0, slots := 0, locals := 41 }
set_option maxHeartbeats 4000000 in
set_option maxRecDepth 100000 in
theorem kX6_isStart (l : Launch) (D : va_G) (ca : Nat → ClassId) (om a1 a2 a3 a4 a5 a6 a7 a8 a9 : Nat) (thr sv ln br ck sa lm rs at_ tm : Int32) (hs : Int64) (n : Nat) (fi : Nat → Int32) (pp : Nat) (hn2 : n ≤ 200) (hpp : pp ≤ 1000) : Met l yX6_isStart wsX6_isStart rm_kX6_isStart (pcR D ca [.ref om, .int (nI pp)] [(om, .inr (6, [.int thr, .ref a1, .ref a2, .ref a3, .int sv, .ref a4, .ref a5, .ref a6, .int ln, .ref a7, .int (nI n), .int br, .int ck, .int sa, .ref a8, .int lm, .int rs, .int at_, .ref a9, .int tm, .long hs])), (a7, .inl (ca 0, 200, .inl fi))]) (vp_Si (fun zr : Int32 => zr = bI (okSt fi n pp))) 0 0 (fun _ => False) := by
  refine Met.ofW (cc := cX6_isStart) (maxL := 4) (ret := (some .boolean)) (by decide) rfl ?_
  intro p e s m args below meth c s₁ B hml hv
  obtain ⟨rfl, hP, hK⟩ := hv
  have hx := B.exec
  have hb := B.bytes
  have hr := B.returns
  have hts := atoms_spec (ws := wsX6_isStart) B.pre
  have hown : s.vm.findClass RX6 = some m.cls := findClass_of_methodNamed B.named
  have hlocks := B.notSynchronized
  have hKv := hK.1
  have hl := lv_entry ([.ref om, .int (nI pp)]) (n := 4) (kk_le rfl)
  rw [lg_entry_eq]
  generalize (lg_sl ([.ref om, .int (nI pp)]) ++ List.replicate (4 - (lg_sl ([.ref om, .int (nI pp)])).length) Slot.unset).toArray = ls at hl ⊢
  have hl : lv_has ls 4 [(0, .ref om), (1, .int (nI pp))] := hl
  generalize hQz : MQ below _ _ _ _ _ _ = Qz
  have hiX6 : ∀ w ∈ u_ws RX6 TX6 21, w ∈ wsX6_isStart := fun w h => by first | exact List.mem_cons_of_mem _ (List.mem_append_right _ h) | exact List.mem_cons_of_mem _ (List.mem_append_left _ (List.mem_append_right _ h)) | exact List.mem_cons_of_mem _ (List.mem_append_left _ (List.mem_append_left _ (List.mem_append_right _ h))) | exact List.mem_cons_of_mem _ (List.mem_append_left _ (List.mem_append_left _ (List.mem_append_left _ (List.mem_append_right _ h)))) | (revert w h; decide +kernel)
  have lk81 : (Cond.fieldLink RX6 81 "StripeSwipesModel" "bitMany" "I").before _ s = true := hts _ (by decide +kernel)
  have lk29 : (Cond.fieldLink RX6 29 "StripeSwipesModel" "bits" "[I").before _ s = true := hts _ (by decide +kernel)
  refine lv_iload_n hx hb dX6_isStart_0 rfl (lv_at hl 1 rfl) ?_
  refine lv_iconst (v := nI 5) hx hb dX6_isStart_1 (by decide) ?_
  refine ni_iadd hx hb dX6_isStart_2 ?_
  refine lv_aload_n hx hb dX6_isStart_3 rfl (lv_at hl 0 rfl) ?_
  refine va_get (D := D) (ci := 6) (C := RX6) (T := TX6) (N := 21) hx hb hts hiX6 hown hKv hP 0 rfl rfl 10 (by decide) lk81 (fun _ h9 => h9) rfl dX6_isStart_4 ?_
  refine ni_icmp_gt (tgt := 14) (by omega) (by omega) hx hb dX6_isStart_7 (by decide) (fun c1 => ?_) (fun c1 => ?_)
  · refine lv_iconst (v := nI 0) hx hb dX6_isStart_14 (by decide) ?_
    refine lv_istore_n (lv' := [(2, .int (nI 0)), (0, .ref om), (1, .int (nI pp))]) hx hb dX6_isStart_15 rfl hl (by decide) rfl (fun ls hl => ?_)
    refine lv_iconst (v := nI 0) hx hb dX6_isStart_16 (by decide) ?_
    refine lv_istore_n (lv' := [(3, .int (nI 0)), (2, .int (nI 0)), (0, .ref om), (1, .int (nI pp))]) hx hb dX6_isStart_17 rfl hl (by decide) rfl (fun ls hl => ?_)
    have lp18_1 : ∀ (k1 : Nat) (k : Nat) (bb : Bool), 5 - k < k1 → (k ≤ 5) → (bb = okS fi n pp k) → ∀ (ls : Array Slot), lv_has ls 4 [(3, .int (nI k)), (2, .int (bI bb)), (0, .ref om), (1, .int (nI pp))] → W p l e rm_kX6_isStart s m ([.ref om, .int (nI pp)] : List Value).toArray below meth c s.heap [] 0 0 Qz (F0 m 18 ls []) := by
      intro k1
      induction k1 with
      | zero => intro k bb hm1; exact absurd hm1 (Nat.not_lt_zero _)
      | succ k1 ih1 =>
        intro k bb hm1 hk hb9 ls hl
        refine lv_iload_n hx hb dX6_isStart_18 rfl (lv_at hl 0 rfl) ?_
        refine lv_iconst (v := nI 5) hx hb dX6_isStart_19 (by decide) ?_
        refine ni_icmp_ge (tgt := 56) (by omega) (by omega) hx hb dX6_isStart_20 (by decide) (fun c3 => ?_) (fun c3 => ?_)
        · refine lv_iload_n hx hb dX6_isStart_56 rfl (lv_at hl 1 rfl) ?_
          subst hQz
          exact W.zret (v := bI bb) hx hb hr (by first | rfl | exact bI_nar _ | exact bI_fit _ | (first | exact Or.inl rfl | exact Or.inr rfl)) (fun t ht _ => ⟨_, rfl, by first | exact congrArg bI (okS_end hb9 (by omega) (by omega)) | exact congrArg bI (okS_stop hb9 (by omega) (by assumption)), ht⟩) (fun _ h => nomatch h) dX6_isStart_57
        · refine lv_iload_n hx hb dX6_isStart_23 rfl (lv_at hl 1 rfl) ?_
          refine bi_if_eq (tgt := 56) hx hb dX6_isStart_24 (by decide) (fun c4 => ?_) (fun c4 => ?_)
          · refine lv_iload_n hx hb dX6_isStart_56 rfl (lv_at hl 1 rfl) ?_
            subst hQz
            exact W.zret (v := bI bb) hx hb hr (by first | rfl | exact bI_nar _ | exact bI_fit _ | (first | exact Or.inl rfl | exact Or.inr rfl)) (fun t ht _ => ⟨_, rfl, by first | exact congrArg bI (okS_end hb9 (by omega) (by omega)) | exact congrArg bI (okS_stop hb9 (by omega) (by assumption)), ht⟩) (fun _ h => nomatch h) dX6_isStart_57
          · have hbt : bb = true := c4
            have hlen := okS_len (hb9.symm.trans hbt)
            refine lv_aload_n hx hb dX6_isStart_27 rfl (lv_at hl 2 rfl) ?_
            refine va_get (D := D) (ci := 6) (C := RX6) (T := TX6) (N := 21) hx hb hts hiX6 hown hKv hP 0 rfl rfl 9 (by decide) lk29 (fun _ h9 => h9) rfl dX6_isStart_28 ?_
            refine lv_iload_n hx hb dX6_isStart_31 rfl (lv_at hl 3 rfl) ?_
            refine lv_iload_n hx hb dX6_isStart_32 rfl (lv_at hl 0 rfl) ?_
            refine ni_iadd hx hb dX6_isStart_33 ?_
            refine my_iald hx hb hK hP 1 rfl (by omega) (by omega) dX6_isStart_34 ?_
            refine lv_bipush (v := nI 11) hx hb dX6_isStart_35 (by decide) ?_
            refine lv_iload_n hx hb dX6_isStart_37 rfl (lv_at hl 0 rfl) ?_
            refine vp_callSi (va_Run.run (va_runS (As := [.int (nI 11), .int (nI k)]) (rest := [.int (fi (pp + k))]) ⟨hx, hb, hml, hown, hts⟩ (kX6_bitOf l (nI 11) k (by first | rfl | assumption | omega | trivial | (exfalso; omega))) (va_cwS 2 hts gX6_isStart_X6_bitOf rfl rfl rfl (by decide +kernel) ⟨kk_le rfl, kk_le rfl⟩) psN rfl rfl hl.1 rfl (lv_room (kk_le rfl)) dX6_isStart_38 ⟨kk_le rfl, kk_le rfl⟩)) (fun r5 hr5 => ?_)
            subst hr5
            refine lv_icmp_ne (tgt := 48) hx hb dX6_isStart_41 (by decide) (fun c6 => ?_) (fun c6 => ?_)
            · refine lv_iconst (v := nI 0) hx hb dX6_isStart_48 (by decide) ?_
              refine lv_istore_n (lv' := [(2, .int (nI 0)), (3, .int (nI k)), (0, .ref om), (1, .int (nI pp))]) hx hb dX6_isStart_49 rfl hl (by decide) rfl (fun ls hl => ?_)
              refine lv_iinc (v := nI (k + 1)) (lv' := [(3, .int (nI (k + 1))), (2, .int (nI 0)), (0, .ref om), (1, .int (nI pp))]) hx hb dX6_isStart_50 hl (k := 1) rfl (ni_inc _ _ (by decide)) (by decide) rfl (fun ls hl => ?_)
              refine lv_goto (tgt := 18) hx hb dX6_isStart_53 (by decide) ?_
              exact ih1 (k + 1) false (by omega) (by omega) (by first | exact okS_t hb9 hbt (by assumption) | exact okS_f (by assumption)) ls (lv_sub hl [0, 1, 2, 3] rfl)
            · refine lv_iconst (v := nI 1) hx hb dX6_isStart_44 (by decide) ?_
              refine lv_goto (tgt := 49) hx hb dX6_isStart_45 (by decide) ?_
              refine lv_istore_n (lv' := [(2, .int (nI 1)), (3, .int (nI k)), (0, .ref om), (1, .int (nI pp))]) hx hb dX6_isStart_49 rfl hl (by decide) rfl (fun ls hl => ?_)
              refine lv_iinc (v := nI (k + 1)) (lv' := [(3, .int (nI (k + 1))), (2, .int (nI 1)), (0, .ref om), (1, .int (nI pp))]) hx hb dX6_isStart_50 hl (k := 1) rfl (ni_inc _ _ (by decide)) (by decide) rfl (fun ls hl => ?_)
              refine lv_goto (tgt := 18) hx hb dX6_isStart_53 (by decide) ?_
              exact ih1 (k + 1) true (by omega) (by omega) (by first | exact okS_t hb9 hbt (by assumption) | exact okS_f (by assumption)) ls (lv_sub hl [0, 1, 2, 3] rfl)
    exact lp18_1 ((5 - 0) + 1) 0 false (by omega) (by omega) (by first | exact (okS_0t _ (by omega)).symm | exact (okS_0f _ (by omega)).symm) ls (lv_sub hl [0, 1, 2, 3] rfl)
  · refine lv_iconst (v := nI 1) hx hb dX6_isStart_10 (by decide) ?_
    refine lv_goto (tgt := 15) hx hb dX6_isStart_11 (by decide) ?_
    refine lv_istore_n (lv' := [(2, .int (nI 1)), (0, .ref om), (1, .int (nI pp))]) hx hb dX6_isStart_15 rfl hl (by decide) rfl (fun ls hl => ?_)
    refine lv_iconst (v := nI 0) hx hb dX6_isStart_16 (by decide) ?_
    refine lv_istore_n (lv' := [(3, .int (nI 0)), (2, .int (nI 1)), (0, .ref om), (1, .int (nI pp))]) hx hb dX6_isStart_17 rfl hl (by decide) rfl (fun ls hl => ?_)
    have lp18_6 : ∀ (k2 : Nat) (k : Nat) (bb : Bool), 5 - k < k2 → (k ≤ 5) → (bb = okS fi n pp k) → ∀ (ls : Array Slot), lv_has ls 4 [(3, .int (nI k)), (2, .int (bI bb)), (0, .ref om), (1, .int (nI pp))] → W p l e rm_kX6_isStart s m ([.ref om, .int (nI pp)] : List Value).toArray below meth c s.heap [] 0 0 Qz (F0 m 18 ls []) := by
      intro k2
      induction k2 with
      | zero => intro k bb hm2; exact absurd hm2 (Nat.not_lt_zero _)
      | succ k2 ih2 =>
        intro k bb hm2 hk hb9 ls hl
        refine lv_iload_n hx hb dX6_isStart_18 rfl (lv_at hl 0 rfl) ?_
        refine lv_iconst (v := nI 5) hx hb dX6_isStart_19 (by decide) ?_
        refine ni_icmp_ge (tgt := 56) (by omega) (by omega) hx hb dX6_isStart_20 (by decide) (fun c8 => ?_) (fun c8 => ?_)
        · refine lv_iload_n hx hb dX6_isStart_56 rfl (lv_at hl 1 rfl) ?_
          subst hQz
          exact W.zret (v := bI bb) hx hb hr (by first | rfl | exact bI_nar _ | exact bI_fit _ | (first | exact Or.inl rfl | exact Or.inr rfl)) (fun t ht _ => ⟨_, rfl, by first | exact congrArg bI (okS_end hb9 (by omega) (by omega)) | exact congrArg bI (okS_stop hb9 (by omega) (by assumption)), ht⟩) (fun _ h => nomatch h) dX6_isStart_57
        · refine lv_iload_n hx hb dX6_isStart_23 rfl (lv_at hl 1 rfl) ?_
          refine bi_if_eq (tgt := 56) hx hb dX6_isStart_24 (by decide) (fun c9 => ?_) (fun c9 => ?_)
          · refine lv_iload_n hx hb dX6_isStart_56 rfl (lv_at hl 1 rfl) ?_
            subst hQz
            exact W.zret (v := bI bb) hx hb hr (by first | rfl | exact bI_nar _ | exact bI_fit _ | (first | exact Or.inl rfl | exact Or.inr rfl)) (fun t ht _ => ⟨_, rfl, by first | exact congrArg bI (okS_end hb9 (by omega) (by omega)) | exact congrArg bI (okS_stop hb9 (by omega) (by assumption)), ht⟩) (fun _ h => nomatch h) dX6_isStart_57
          · have hbt : bb = true := c9
            have hlen := okS_len (hb9.symm.trans hbt)
            refine lv_aload_n hx hb dX6_isStart_27 rfl (lv_at hl 2 rfl) ?_
            refine va_get (D := D) (ci := 6) (C := RX6) (T := TX6) (N := 21) hx hb hts hiX6 hown hKv hP 0 rfl rfl 9 (by decide) lk29 (fun _ h9 => h9) rfl dX6_isStart_28 ?_
            refine lv_iload_n hx hb dX6_isStart_31 rfl (lv_at hl 3 rfl) ?_
            refine lv_iload_n hx hb dX6_isStart_32 rfl (lv_at hl 0 rfl) ?_
            refine ni_iadd hx hb dX6_isStart_33 ?_
            refine my_iald hx hb hK hP 1 rfl (by omega) (by omega) dX6_isStart_34 ?_
            refine lv_bipush (v := nI 11) hx hb dX6_isStart_35 (by decide) ?_
            refine lv_iload_n hx hb dX6_isStart_37 rfl (lv_at hl 0 rfl) ?_
            refine vp_callSi (va_Run.run (va_runS (As := [.int (nI 11), .int (nI k)]) (rest := [.int (fi (pp + k))]) ⟨hx, hb, hml, hown, hts⟩ (kX6_bitOf l (nI 11) k (by first | rfl | assumption | omega | trivial | (exfalso; omega))) (va_cwS 2 hts gX6_isStart_X6_bitOf rfl rfl rfl (by decide +kernel) ⟨kk_le rfl, kk_le rfl⟩) psN rfl rfl hl.1 rfl (lv_room (kk_le rfl)) dX6_isStart_38 ⟨kk_le rfl, kk_le rfl⟩)) (fun r10 hr10 => ?_)
            subst hr10
            refine lv_icmp_ne (tgt := 48) hx hb dX6_isStart_41 (by decide) (fun c11 => ?_) (fun c11 => ?_)
            · refine lv_iconst (v := nI 0) hx hb dX6_isStart_48 (by decide) ?_
              refine lv_istore_n (lv' := [(2, .int (nI 0)), (3, .int (nI k)), (0, .ref om), (1, .int (nI pp))]) hx hb dX6_isStart_49 rfl hl (by decide) rfl (fun ls hl => ?_)
              refine lv_iinc (v := nI (k + 1)) (lv' := [(3, .int (nI (k + 1))), (2, .int (nI 0)), (0, .ref om), (1, .int (nI pp))]) hx hb dX6_isStart_50 hl (k := 1) rfl (ni_inc _ _ (by decide)) (by decide) rfl (fun ls hl => ?_)
              refine lv_goto (tgt := 18) hx hb dX6_isStart_53 (by decide) ?_
              exact ih2 (k + 1) false (by omega) (by omega) (by first | exact okS_t hb9 hbt (by assumption) | exact okS_f (by assumption)) ls (lv_sub hl [0, 1, 2, 3] rfl)
            · refine lv_iconst (v := nI 1) hx hb dX6_isStart_44 (by decide) ?_
              refine lv_goto (tgt := 49) hx hb dX6_isStart_45 (by decide) ?_
              refine lv_istore_n (lv' := [(2, .int (nI 1)), (3, .int (nI k)), (0, .ref om), (1, .int (nI pp))]) hx hb dX6_isStart_49 rfl hl (by decide) rfl (fun ls hl => ?_)
              refine lv_iinc (v := nI (k + 1)) (lv' := [(3, .int (nI (k + 1))), (2, .int (nI 1)), (0, .ref om), (1, .int (nI pp))]) hx hb dX6_isStart_50 hl (k := 1) rfl (ni_inc _ _ (by decide)) (by decide) rfl (fun ls hl => ?_)
              refine lv_goto (tgt := 18) hx hb dX6_isStart_53 (by decide) ?_
              exact ih2 (k + 1) true (by omega) (by omega) (by first | exact okS_t hb9 hbt (by assumption) | exact okS_f (by assumption)) ls (lv_sub hl [0, 1, 2, 3] rfl)
    exact lp18_6 ((5 - 0) + 1) 0 true (by omega) (by omega) (by first | exact (okS_0t _ (by omega)).symm | exact (okS_0f _ (by omega)).symm) ls (lv_sub hl [0, 1, 2, 3] rfl)
abbrev rm_kX6_findsStart : Room := { frames := 3, cells := 0, slots := 0, locals := 64 }
set_option maxHeartbeats 4000000 in
set_option maxRecDepth 100000 in
theorem kX6_findsStart (l : Launch) (D : va_G) (ca : Nat → ClassId) (sz : Nat) (om a1 a2 a3 a4 a5 a6 a7 a8 a9 : Nat) (thr sv ln br ck sa lm rs at_ tm : Int32) (hs : Int64) (n : Nat) (fi : Nat → Int32) (hn2 : n ≤ 200) : Met l yX6_findsStart wsX6_findsStart rm_kX6_findsStart (pcM D ca [.ref om] [(om, .inr (6, [.int thr, .ref a1, .ref a2, .ref a3, .int sv, .ref a4, .ref a5, .ref a6, .int ln, .ref a7, .int (nI n), .int br, .int ck, .int sa, .ref a8, .int lm, .int rs, .int at_, .ref a9, .int tm, .long hs])), (a7, .inl (ca 0, 200, .inl fi))] sz) (va_Qv (fun (u : Unit) => True) (qB D (va_A [(om, .inr (6, [.int thr, .ref a1, .ref a2, .ref a3, .int sv, .ref a4, .ref a5, .ref a6, .int ln, .ref a7, .int (nI n), .int br, .int ck, .int sa, .ref a8, .int lm, .int rs, .int at_, .ref a9, .int tm, .long hs])), (a7, .inl (ca 0, 200, .inl fi))] sz) (fun u : Unit => [(om, .inr (6, [.int thr, .ref a1, .ref a2, .ref a3, .int sv, .ref a4, .ref a5, .ref a6, .int ln, .ref a7, .int (nI n), .int br, .int ck, .int (stI fi n), .ref a8, .int lm, .int rs, .int at_, .ref a9, .int tm, .long hs])), (a7, .inl (ca 0, 200, .inl fi))])) (va_A [(om, .inr (6, [.int thr, .ref a1, .ref a2, .ref a3, .int sv, .ref a4, .ref a5, .ref a6, .int ln, .ref a7, .int (nI n), .int br, .int ck, .int sa, .ref a8, .int lm, .int rs, .int at_, .ref a9, .int tm, .long hs])), (a7, .inl (ca 0, 200, .inl fi))] sz)) 0 0 (va_A [(om, .inr (6, [.int thr, .ref a1, .ref a2, .ref a3, .int sv, .ref a4, .ref a5, .ref a6, .int ln, .ref a7, .int (nI n), .int br, .int ck, .int sa, .ref a8, .int lm, .int rs, .int at_, .ref a9, .int tm, .long hs])), (a7, .inl (ca 0, 200, .inl fi))] sz) := by
  refine Met.ofW (cc := cX6_findsStart) (maxL := 2) (ret := none) (by decide) rfl ?_
  intro p e s m args below meth c s₁ B hml hv
  obtain ⟨rfl, hsz, hP, hK, hD0⟩ := hv
  have hx := B.exec
  have hb := B.bytes
  have hr := B.returns
  have hts := atoms_spec (ws := wsX6_findsStart) B.pre
  have hown : s.vm.findClass RX6 = some m.cls := findClass_of_methodNamed B.named
  have hlocks := B.notSynchronized
  subst hsz
  have hD := hD0.self (sz := s.heap.size)
  generalize hAe : va_A [(om, .inr (6, [.int thr, .ref a1, .ref a2, .ref a3, .int sv, .ref a4, .ref a5, .ref a6, .int ln, .ref a7, .int (nI n), .int br, .int ck, .int sa, .ref a8, .int lm, .int rs, .int at_, .ref a9, .int tm, .long hs])), (a7, .inl (ca 0, 200, .inl fi))] s.heap.size = A at hD ⊢
  have hA : ∀ q : Nat, s.heap.size ≤ q → A q := fun q h => by rw [← hAe]; exact Or.inr h
  have hS : va_S A s.heap s.heap [] := va_S.rf
  have hP : va_P D vwCl [(om, .inr (6, [.int thr, .ref a1, .ref a2, .ref a3, .int sv, .ref a4, .ref a5, .ref a6, .int ln, .ref a7, .int (nI n), .int br, .int ck, .int sa, .ref a8, .int lm, .int rs, .int at_, .ref a9, .int tm, .long hs])), (a7, .inl (ca 0, 200, .inl fi))] s.heap := hP
  have hKv := hK.1
  have hl := lv_entry ([.ref om]) (n := 2) (kk_le rfl)
  rw [lg_entry_eq]
  generalize (lg_sl ([.ref om]) ++ List.replicate (2 - (lg_sl ([.ref om])).length) Slot.unset).toArray = ls at hl ⊢
  have hl : lv_has ls 2 [(0, .ref om)] := hl
  generalize hQz : MQ below _ _ _ _ _ _ = Qz
  have hiX6 : ∀ w ∈ u_ws RX6 TX6 21, w ∈ wsX6_findsStart := fun w h => by first | exact List.mem_cons_of_mem _ (List.mem_append_right _ h) | exact List.mem_cons_of_mem _ (List.mem_append_left _ (List.mem_append_right _ h)) | exact List.mem_cons_of_mem _ (List.mem_append_left _ (List.mem_append_left _ (List.mem_append_right _ h))) | exact List.mem_cons_of_mem _ (List.mem_append_left _ (List.mem_append_left _ (List.mem_append_left _ (List.mem_append_right _ h)))) | (revert w h; decide +kernel)
  have lk92 : (Cond.fieldLink RX6 92 "StripeSwipesModel" "startAt" "I").before _ s = true := hts _ (by decide +kernel)
  have lk81 : (Cond.fieldLink RX6 81 "StripeSwipesModel" "bitMany" "I").before _ s = true := hts _ (by decide +kernel)
  refine lv_aload_n hx hb dX6_findsStart_0 rfl (lv_at hl 0 rfl) ?_
  refine lv_iconst (v := (-1)) hx hb dX6_findsStart_1 (by decide) ?_
  refine va_put (D := D) (ci := 6) (v := .int (-1)) (ty := .int) (C := RX6) (T := TX6) (N := 21) hx hb hts hiX6 tyX6 tyX6_ok nmX6 hown hKv hP hD hS 0 rfl rfl 13 (by decide) lk92 (fun _ h9 => h9) rfl (by decide +kernel) rfl rfl (kk_le rfl) dX6_findsStart_2 (fun H locs hP hD hS => ?_)
  have hP : va_P D vwCl [(om, .inr (6, [.int thr, .ref a1, .ref a2, .ref a3, .int sv, .ref a4, .ref a5, .ref a6, .int ln, .ref a7, .int (nI n), .int br, .int ck, .int (-1), .ref a8, .int lm, .int rs, .int at_, .ref a9, .int tm, .long hs])), (a7, .inl (ca 0, 200, .inl fi))] H := hP
  have hD : va_D A [(om, .inr (6, [.int thr, .ref a1, .ref a2, .ref a3, .int sv, .ref a4, .ref a5, .ref a6, .int ln, .ref a7, .int (nI n), .int br, .int ck, .int (-1), .ref a8, .int lm, .int rs, .int at_, .ref a9, .int tm, .long hs])), (a7, .inl (ca 0, 200, .inl fi))] := hD
  refine lv_aload_n hx hb dX6_findsStart_5 rfl (lv_at hl 0 rfl) ?_
  refine va_get (D := D) (ci := 6) (C := RX6) (T := TX6) (N := 21) hx hb hts hiX6 hown hKv hP 0 rfl rfl 10 (by decide) lk81 (fun _ h9 => h9) rfl dX6_findsStart_6 ?_
  rcases Nat.lt_or_ge n 5 with h | h
  · have hlo : n < 5 := h
    refine lv_iconst (v := nI 5) hx hb dX6_findsStart_9 (by decide) ?_
    refine lv_isub hx hb dX6_findsStart_10 ?_
    refine lv_istore_n (lv' := [(1, .int ((nI n) - (nI 5))), (0, .ref om)]) hx hb dX6_findsStart_11 rfl hl (by decide) rfl (fun ls hl => ?_)
    refine lv_iload_n hx hb dX6_findsStart_12 rfl (lv_at hl 0 rfl) ?_
    refine lv_if_lt (tgt := 42) hx hb dX6_findsStart_13 (by decide) (fun c1 => ?_) (fun c1 => ?_)
    · subst hQz
      have e2 : ((-1) : Int32) = stI fi n := by first | exact fsI_end hs9 (fs_q0 hq (by assumption) (by omega)) | exact (fsI_lo (by omega)).symm
      have hP : va_P D vwCl [(om, .inr (6, [.int thr, .ref a1, .ref a2, .ref a3, .int sv, .ref a4, .ref a5, .ref a6, .int ln, .ref a7, .int (nI n), .int br, .int ck, .int (stI fi n), .ref a8, .int lm, .int rs, .int at_, .ref a9, .int tm, .long hs])), (a7, .inl (ca 0, 200, .inl fi))] H := Eq.mp (congrArg (fun z9 : Int32 => va_P D vwCl [(om, .inr (6, [.int thr, .ref a1, .ref a2, .ref a3, .int sv, .ref a4, .ref a5, .ref a6, .int ln, .ref a7, .int (nI n), .int br, .int ck, .int z9, .ref a8, .int lm, .int rs, .int at_, .ref a9, .int tm, .long hs])), (a7, .inl (ca 0, 200, .inl fi))] H) e2) hP
      have hD : va_D A [(om, .inr (6, [.int thr, .ref a1, .ref a2, .ref a3, .int sv, .ref a4, .ref a5, .ref a6, .int ln, .ref a7, .int (nI n), .int br, .int ck, .int (stI fi n), .ref a8, .int lm, .int rs, .int at_, .ref a9, .int tm, .long hs])), (a7, .inl (ca 0, 200, .inl fi))] := Eq.mp (congrArg (fun z9 : Int32 => va_D A [(om, .inr (6, [.int thr, .ref a1, .ref a2, .ref a3, .int sv, .ref a4, .ref a5, .ref a6, .int ln, .ref a7, .int (nI n), .int br, .int ck, .int z9, .ref a8, .int lm, .int rs, .int at_, .ref a9, .int tm, .long hs])), (a7, .inl (ca 0, 200, .inl fi))]) e2) hD
      exact W.vret hx hb hr (fun t ht hW => ⟨⟨(), rfl, by trivial, by rw [ht]; exact hP, hD⟩, hS.F ht⟩) hS.2.2 dX6_findsStart_42
    · exact absurd (pk_sneg (by omega) (by omega)) c1
  · have hhi : 5 ≤ n := h
    refine lv_iconst (v := nI 5) hx hb dX6_findsStart_9 (by decide) ?_
    refine ni_isub (by omega) hx hb dX6_findsStart_10 ?_
    refine lv_istore_n (lv' := [(1, .int (nI (n - 5))), (0, .ref om)]) hx hb dX6_findsStart_11 rfl hl (by decide) rfl (fun ls hl => ?_)
    have lp12_2 : ∀ (k1 : Nat) (q : Nat) (pl sw : Int32), q < k1 → (pl = nI q - nI 1) → (q ≤ 200) → (fsI fi n q sw) → ∀ (H : Heap) (locs : List Loc), va_P D vwCl [(om, .inr (6, [.int thr, .ref a1, .ref a2, .ref a3, .int sv, .ref a4, .ref a5, .ref a6, .int ln, .ref a7, .int (nI n), .int br, .int ck, .int sw, .ref a8, .int lm, .int rs, .int at_, .ref a9, .int tm, .long hs])), (a7, .inl (ca 0, 200, .inl fi))] H → va_D A [(om, .inr (6, [.int thr, .ref a1, .ref a2, .ref a3, .int sv, .ref a4, .ref a5, .ref a6, .int ln, .ref a7, .int (nI n), .int br, .int ck, .int sw, .ref a8, .int lm, .int rs, .int at_, .ref a9, .int tm, .long hs])), (a7, .inl (ca 0, 200, .inl fi))] → va_S A s.heap H locs → ∀ (ls : Array Slot), lv_has ls 2 [(1, .int pl), (0, .ref om)] → W p l e rm_kX6_findsStart s m ([.ref om] : List Value).toArray below meth c H locs 0 0 Qz (F0 m 12 ls []) := by
      intro k1
      induction k1 with
      | zero => intro q pl sw hm1; exact absurd hm1 (Nat.not_lt_zero _)
      | succ k1 ih1 =>
        intro q pl sw hm1 hq hq2 hs9 H locs hP hD hS ls hl
        refine lv_iload_n hx hb dX6_findsStart_12 rfl (lv_at hl 0 rfl) ?_
        refine lv_if_lt (tgt := 42) hx hb dX6_findsStart_13 (by decide) (fun c4 => ?_) (fun c4 => ?_)
        · subst hQz
          have e5 : (sw : Int32) = stI fi n := by first | exact fsI_end hs9 (fs_q0 hq (by assumption) (by omega)) | exact (fsI_lo (by omega)).symm
          have hP : va_P D vwCl [(om, .inr (6, [.int thr, .ref a1, .ref a2, .ref a3, .int sv, .ref a4, .ref a5, .ref a6, .int ln, .ref a7, .int (nI n), .int br, .int ck, .int (stI fi n), .ref a8, .int lm, .int rs, .int at_, .ref a9, .int tm, .long hs])), (a7, .inl (ca 0, 200, .inl fi))] H := Eq.mp (congrArg (fun z9 : Int32 => va_P D vwCl [(om, .inr (6, [.int thr, .ref a1, .ref a2, .ref a3, .int sv, .ref a4, .ref a5, .ref a6, .int ln, .ref a7, .int (nI n), .int br, .int ck, .int z9, .ref a8, .int lm, .int rs, .int at_, .ref a9, .int tm, .long hs])), (a7, .inl (ca 0, 200, .inl fi))] H) e5) hP
          have hD : va_D A [(om, .inr (6, [.int thr, .ref a1, .ref a2, .ref a3, .int sv, .ref a4, .ref a5, .ref a6, .int ln, .ref a7, .int (nI n), .int br, .int ck, .int (stI fi n), .ref a8, .int lm, .int rs, .int at_, .ref a9, .int tm, .long hs])), (a7, .inl (ca 0, 200, .inl fi))] := Eq.mp (congrArg (fun z9 : Int32 => va_D A [(om, .inr (6, [.int thr, .ref a1, .ref a2, .ref a3, .int sv, .ref a4, .ref a5, .ref a6, .int ln, .ref a7, .int (nI n), .int br, .int ck, .int z9, .ref a8, .int lm, .int rs, .int at_, .ref a9, .int tm, .long hs])), (a7, .inl (ca 0, 200, .inl fi))]) e5) hD
          exact W.vret hx hb hr (fun t ht hW => ⟨⟨(), rfl, by trivial, by rw [ht]; exact hP, hD⟩, hS.F ht⟩) hS.2.2 dX6_findsStart_42
        · obtain ⟨hq1, hplq⟩ := fs_pl hq c4 (by omega)
          subst hplq
          have hl : lv_has ls 2 [(1, .int (nI (q - 1))), (0, .ref om)] := hl
          refine lv_aload_n hx hb dX6_findsStart_16 rfl (lv_at hl 1 rfl) ?_
          refine lv_aload_n hx hb dX6_findsStart_17 rfl (lv_at hl 1 rfl) ?_
          refine lv_iload_n hx hb dX6_findsStart_18 rfl (lv_at hl 0 rfl) ?_
          refine vp_callSi (va_Run.run (va_runV (As := [.int (nI (q - 1))]) (rest := [.ref om]) ⟨hx, hb, hml, hown, hts⟩ (kX6_isStart l D ca om a1 a2 a3 a4 a5 a6 a7 a8 a9 thr sv ln br ck sw lm rs at_ tm hs n fi (q - 1) (by first | rfl | assumption | omega | trivial | (exfalso; omega)) (by first | rfl | assumption | omega | trivial | (exfalso; omega))) (cwV 1 hts gX6_findsStart_X6_isStart rfl rfl rfl (by decide +kernel) ⟨kk_le rfl, kk_le rfl⟩) (pvR hK hP (va_recv hKv hP (ci := 6) (q0 := 0) rfl rfl)) rfl rfl hl.1 rfl (lv_room (kk_le rfl)) dX6_findsStart_19 ⟨kk_le rfl, kk_le rfl⟩)) (fun r6 hr6 => ?_)
          subst hr6
          refine bi_if_eq (tgt := 29) hx hb dX6_findsStart_22 (by decide) (fun c7 => ?_) (fun c7 => ?_)
          · refine lv_aload_n hx hb dX6_findsStart_29 rfl (lv_at hl 1 rfl) ?_
            refine va_get (D := D) (ci := 6) (C := RX6) (T := TX6) (N := 21) hx hb hts hiX6 hown hKv hP 0 rfl rfl 13 (by decide) lk92 (fun _ h9 => h9) rfl dX6_findsStart_30 ?_
            refine va_put (D := D) (ci := 6) (v := .int sw) (ty := .int) (C := RX6) (T := TX6) (N := 21) hx hb hts hiX6 tyX6 tyX6_ok nmX6 hown hKv hP hD hS 0 rfl rfl 13 (by decide) lk92 (fun _ h9 => h9) rfl (by decide +kernel) rfl rfl (kk_le rfl) dX6_findsStart_33 (fun H locs hP hD hS => ?_)
            have hP : va_P D vwCl [(om, .inr (6, [.int thr, .ref a1, .ref a2, .ref a3, .int sv, .ref a4, .ref a5, .ref a6, .int ln, .ref a7, .int (nI n), .int br, .int ck, .int sw, .ref a8, .int lm, .int rs, .int at_, .ref a9, .int tm, .long hs])), (a7, .inl (ca 0, 200, .inl fi))] H := hP
            have hD : va_D A [(om, .inr (6, [.int thr, .ref a1, .ref a2, .ref a3, .int sv, .ref a4, .ref a5, .ref a6, .int ln, .ref a7, .int (nI n), .int br, .int ck, .int sw, .ref a8, .int lm, .int rs, .int at_, .ref a9, .int tm, .long hs])), (a7, .inl (ca 0, 200, .inl fi))] := hD
            refine lv_iinc (v := (nI (q - 1)) + (-1)) (lv' := [(1, .int ((nI (q - 1)) + (-1))), (0, .ref om)]) hx hb dX6_findsStart_36 hl (k := 0) rfl (rfl) (by decide) rfl (fun ls hl => ?_)
            refine lv_goto (tgt := 12) hx hb dX6_findsStart_39 (by decide) ?_
            exact ih1 (q - 1) ((nI (q - 1)) + (-1)) sw (by omega) (by exact ni_pm _) (by omega) (by first | exact fsI_yes hq1 (by assumption) | exact fsI_no hq1 hs9 (by assumption)) _ _ hP hD hS ls (lv_sub hl [0, 1] rfl)
          · refine lv_iload_n hx hb dX6_findsStart_25 rfl (lv_at hl 0 rfl) ?_
            refine lv_goto (tgt := 33) hx hb dX6_findsStart_26 (by decide) ?_
            refine va_put (D := D) (ci := 6) (v := .int (nI (q - 1))) (ty := .int) (C := RX6) (T := TX6) (N := 21) hx hb hts hiX6 tyX6 tyX6_ok nmX6 hown hKv hP hD hS 0 rfl rfl 13 (by decide) lk92 (fun _ h9 => h9) rfl (by decide +kernel) rfl rfl (kk_le rfl) dX6_findsStart_33 (fun H locs hP hD hS => ?_)
            have hP : va_P D vwCl [(om, .inr (6, [.int thr, .ref a1, .ref a2, .ref a3, .int sv, .ref a4, .ref a5, .ref a6, .int ln, .ref a7, .int (nI n), .int br, .int ck, .int (nI (q - 1)), .ref a8, .int lm, .int rs, .int at_, .ref a9, .int tm, .long hs])), (a7, .inl (ca 0, 200, .inl fi))] H := hP
            have hD : va_D A [(om, .inr (6, [.int thr, .ref a1, .ref a2, .ref a3, .int sv, .ref a4, .ref a5, .ref a6, .int ln, .ref a7, .int (nI n), .int br, .int ck, .int (nI (q - 1)), .ref a8, .int lm, .int rs, .int at_, .ref a9, .int tm, .long hs])), (a7, .inl (ca 0, 200, .inl fi))] := hD
            refine lv_iinc (v := (nI (q - 1)) + (-1)) (lv' := [(1, .int ((nI (q - 1)) + (-1))), (0, .ref om)]) hx hb dX6_findsStart_36 hl (k := 0) rfl (rfl) (by decide) rfl (fun ls hl => ?_)
            refine lv_goto (tgt := 12) hx hb dX6_findsStart_39 (by decide) ?_
            exact ih1 (q - 1) ((nI (q - 1)) + (-1)) (nI (q - 1)) (by omega) (by exact ni_pm _) (by omega) (by first | exact fsI_yes hq1 (by assumption) | exact fsI_no hq1 hs9 (by assumption)) _ _ hP hD hS ls (lv_sub hl [0, 1] rfl)
    exact lp12_2 ((n - 5 + 1) + 1) (n - 5 + 1) (nI (n - 5)) (-1) (by omega) (by (rw [pk_sub (by omega)]; exact congrArg nI (by omega))) (by omega) (by exact fsI_0 (by omega)) _ _ hP hD hS ls (lv_sub hl [0, 1] rfl)
abbrev rm_kX6_isThere : Room := { frames := 0, cells := 0, slots := 0, locals := 0 }
set_option maxHeartbeats 4000000 in
set_option maxRecDepth 100000 in
theorem kX6_isThere (l : Launch) (D : va_G) (ca : Nat → ClassId) (om a1 a2 a3 a4 a5 a6 a7 a8 a9 : Nat) (thr sv ln br ck lm rs at_ tm : Int32) (hs : Int64) (n st g : Nat) (hn2 : n ≤ 200) (hst2 : st ≤ 200) (hg2 : g ≤ 1000) : Met l yX6_isThere wsX6_isThere rm_kX6_isThere (pcR D ca [.ref om, .int (nI g)] [(om, .inr (6, [.int thr, .ref a1, .ref a2, .ref a3, .int sv, .ref a4, .ref a5, .ref a6, .int ln, .ref a7, .int (nI n), .int br, .int ck, .int (nI st), .ref a8, .int lm, .int rs, .int at_, .ref a9, .int tm, .long hs]))]) (vp_Si (fun zr : Int32 => zr = bI (decide (gp st g + 5 ≤ n)))) 0 0 (fun _ => False) := by
  refine Met.ofW (cc := cX6_isThere) (maxL := 2) (ret := (some .boolean)) (by decide) rfl ?_
  intro p e s m args below meth c s₁ B hml hv
  obtain ⟨rfl, hP, hK⟩ := hv
  have hx := B.exec
  have hb := B.bytes
  have hr := B.returns
  have hts := atoms_spec (ws := wsX6_isThere) B.pre
  have hown : s.vm.findClass RX6 = some m.cls := findClass_of_methodNamed B.named
  have hlocks := B.notSynchronized
  have hKv := hK.1
  have hl := lv_entry ([.ref om, .int (nI g)]) (n := 2) (kk_le rfl)
  rw [lg_entry_eq]
  generalize (lg_sl ([.ref om, .int (nI g)]) ++ List.replicate (2 - (lg_sl ([.ref om, .int (nI g)])).length) Slot.unset).toArray = ls at hl ⊢
  have hl : lv_has ls 2 [(0, .ref om), (1, .int (nI g))] := hl
  have hiX6 : ∀ w ∈ u_ws RX6 TX6 21, w ∈ wsX6_isThere := fun w h => by first | exact List.mem_cons_of_mem _ (List.mem_append_right _ h) | exact List.mem_cons_of_mem _ (List.mem_append_left _ (List.mem_append_right _ h)) | exact List.mem_cons_of_mem _ (List.mem_append_left _ (List.mem_append_left _ (List.mem_append_right _ h))) | exact List.mem_cons_of_mem _ (List.mem_append_left _ (List.mem_append_left _ (List.mem_append_left _ (List.mem_append_right _ h)))) | (revert w h; decide +kernel)
  have lk92 : (Cond.fieldLink RX6 92 "StripeSwipesModel" "startAt" "I").before _ s = true := hts _ (by decide +kernel)
  have lk81 : (Cond.fieldLink RX6 81 "StripeSwipesModel" "bitMany" "I").before _ s = true := hts _ (by decide +kernel)
  refine lv_aload_n hx hb dX6_isThere_0 rfl (lv_at hl 0 rfl) ?_
  refine va_get (D := D) (ci := 6) (C := RX6) (T := TX6) (N := 21) hx hb hts hiX6 hown hKv hP 0 rfl rfl 13 (by decide) lk92 (fun _ h9 => h9) rfl dX6_isThere_1 ?_
  refine lv_bipush (v := nI 10) hx hb dX6_isThere_4 (by decide) ?_
  refine ni_iadd hx hb dX6_isThere_6 ?_
  refine lv_iconst (v := nI 5) hx hb dX6_isThere_7 (by decide) ?_
  refine lv_iload_n hx hb dX6_isThere_8 rfl (lv_at hl 1 rfl) ?_
  refine ni_imul hx hb dX6_isThere_9 ?_
  refine ni_iadd hx hb dX6_isThere_10 ?_
  refine lv_aload_n hx hb dX6_isThere_11 rfl (lv_at hl 0 rfl) ?_
  refine va_get (D := D) (ci := 6) (C := RX6) (T := TX6) (N := 21) hx hb hts hiX6 hown hKv hP 0 rfl rfl 10 (by decide) lk81 (fun _ h9 => h9) rfl dX6_isThere_12 ?_
  refine ni_icmp_gt (tgt := 22) (by omega) (by omega) hx hb dX6_isThere_15 (by decide) (fun c1 => ?_) (fun c1 => ?_)
  · refine lv_iconst (v := nI 0) hx hb dX6_isThere_22 (by decide) ?_
    exact W.zret (v := nI 0) hx hb hr (by first | rfl | exact bI_nar _ | exact bI_fit _ | (first | exact Or.inl rfl | exact Or.inr rfl)) (fun t ht _ => ⟨_, rfl, by first | exact (congrArg bI (decide_eq_true (by unfold gp; omega))).symm | exact (congrArg bI (decide_eq_false (by unfold gp; omega))).symm, ht⟩) (fun _ h => nomatch h) dX6_isThere_23
  · refine lv_iconst (v := nI 1) hx hb dX6_isThere_18 (by decide) ?_
    refine lv_goto (tgt := 23) hx hb dX6_isThere_19 (by decide) ?_
    exact W.zret (v := nI 1) hx hb hr (by first | rfl | exact bI_nar _ | exact bI_fit _ | (first | exact Or.inl rfl | exact Or.inr rfl)) (fun t ht _ => ⟨_, rfl, by first | exact (congrArg bI (decide_eq_true (by unfold gp; omega))).symm | exact (congrArg bI (decide_eq_false (by unfold gp; omega))).symm, ht⟩) (fun _ h => nomatch h) dX6_isThere_23
abbrev rm_kX6_number : Room := { frames := 0, cells := 0, slots := 0, locals := 0 }
set_option maxHeartbeats 4000000 in
set_option maxRecDepth 100000 in
theorem kX6_number (l : Launch) (D : va_G) (ca : Nat → ClassId) (om a1 a2 a3 a4 a5 a6 a7 a8 a9 : Nat) (thr sv ln br ck lm rs at_ tm : Int32) (hs : Int64) (n st : Nat) (fi : Nat → Int32) (g : Nat) (hn2 : n ≤ 200) (hg : gp st g + 5 ≤ n) (h01 : ∀ k, k < n → fi k = nI 0 ∨ fi k = nI 1) : Met l yX6_number wsX6_number rm_kX6_number (pcR D ca [.ref om, .int (nI g)] [(om, .inr (6, [.int thr, .ref a1, .ref a2, .ref a3, .int sv, .ref a4, .ref a5, .ref a6, .int ln, .ref a7, .int (nI n), .int br, .int ck, .int (nI st), .ref a8, .int lm, .int rs, .int at_, .ref a9, .int tm, .long hs])), (a7, .inl (ca 0, 200, .inl fi))]) (vp_Si (fun zr : Int32 => zr = numG fi (gp st g))) 0 0 (fun _ => False) := by
  refine Met.ofW (cc := cX6_number) (maxL := 3) (ret := (some .int)) (by decide) rfl ?_
  intro p e s m args below meth c s₁ B hml hv
  obtain ⟨rfl, hP, hK⟩ := hv
  have hx := B.exec
  have hb := B.bytes
  have hr := B.returns
  have hts := atoms_spec (ws := wsX6_number) B.pre
  have hown : s.vm.findClass RX6 = some m.cls := findClass_of_methodNamed B.named
  have hlocks := B.notSynchronized
  have hKv := hK.1
  have hl := lv_entry ([.ref om, .int (nI g)]) (n := 3) (kk_le rfl)
  rw [lg_entry_eq]
  generalize (lg_sl ([.ref om, .int (nI g)]) ++ List.replicate (3 - (lg_sl ([.ref om, .int (nI g)])).length) Slot.unset).toArray = ls at hl ⊢
  have hl : lv_has ls 3 [(0, .ref om), (1, .int (nI g))] := hl
  have hg0 : st + 5 + 5 * g + 5 ≤ n := hg
  have hiX6 : ∀ w ∈ u_ws RX6 TX6 21, w ∈ wsX6_number := fun w h => by first | exact List.mem_cons_of_mem _ (List.mem_append_right _ h) | exact List.mem_cons_of_mem _ (List.mem_append_left _ (List.mem_append_right _ h)) | exact List.mem_cons_of_mem _ (List.mem_append_left _ (List.mem_append_left _ (List.mem_append_right _ h))) | exact List.mem_cons_of_mem _ (List.mem_append_left _ (List.mem_append_left _ (List.mem_append_left _ (List.mem_append_right _ h)))) | (revert w h; decide +kernel)
  have lk92 : (Cond.fieldLink RX6 92 "StripeSwipesModel" "startAt" "I").before _ s = true := hts _ (by decide +kernel)
  have lk29 : (Cond.fieldLink RX6 29 "StripeSwipesModel" "bits" "[I").before _ s = true := hts _ (by decide +kernel)
  refine lv_aload_n hx hb dX6_number_0 rfl (lv_at hl 0 rfl) ?_
  refine va_get (D := D) (ci := 6) (C := RX6) (T := TX6) (N := 21) hx hb hts hiX6 hown hKv hP 0 rfl rfl 13 (by decide) lk92 (fun _ h9 => h9) rfl dX6_number_1 ?_
  refine lv_iconst (v := nI 5) hx hb dX6_number_4 (by decide) ?_
  refine ni_iadd hx hb dX6_number_5 ?_
  refine lv_iconst (v := nI 5) hx hb dX6_number_6 (by decide) ?_
  refine lv_iload_n hx hb dX6_number_7 rfl (lv_at hl 1 rfl) ?_
  refine ni_imul hx hb dX6_number_8 ?_
  refine ni_iadd hx hb dX6_number_9 ?_
  refine lv_istore_n (lv' := [(2, .int (nI ((st + 5) + (5 * g)))), (0, .ref om), (1, .int (nI g))]) hx hb dX6_number_10 rfl hl (by decide) rfl (fun ls hl => ?_)
  refine lv_aload_n hx hb dX6_number_11 rfl (lv_at hl 1 rfl) ?_
  refine va_get (D := D) (ci := 6) (C := RX6) (T := TX6) (N := 21) hx hb hts hiX6 hown hKv hP 0 rfl rfl 9 (by decide) lk29 (fun _ h9 => h9) rfl dX6_number_12 ?_
  refine lv_iload_n hx hb dX6_number_15 rfl (lv_at hl 0 rfl) ?_
  refine my_iald hx hb hK hP 1 rfl (by omega) (by omega) dX6_number_16 ?_
  refine lv_iconst (v := nI 2) hx hb dX6_number_17 (by decide) ?_
  refine lv_aload_n hx hb dX6_number_18 rfl (lv_at hl 1 rfl) ?_
  refine va_get (D := D) (ci := 6) (C := RX6) (T := TX6) (N := 21) hx hb hts hiX6 hown hKv hP 0 rfl rfl 9 (by decide) lk29 (fun _ h9 => h9) rfl dX6_number_19 ?_
  refine lv_iload_n hx hb dX6_number_22 rfl (lv_at hl 0 rfl) ?_
  refine lv_iconst (v := nI 1) hx hb dX6_number_23 (by decide) ?_
  refine ni_iadd hx hb dX6_number_24 ?_
  refine my_iald hx hb hK hP 1 rfl (by omega) (by omega) dX6_number_25 ?_
  refine lv_imul hx hb dX6_number_26 ?_
  refine lv_iadd hx hb dX6_number_27 ?_
  refine lv_iconst (v := nI 4) hx hb dX6_number_28 (by decide) ?_
  refine lv_aload_n hx hb dX6_number_29 rfl (lv_at hl 1 rfl) ?_
  refine va_get (D := D) (ci := 6) (C := RX6) (T := TX6) (N := 21) hx hb hts hiX6 hown hKv hP 0 rfl rfl 9 (by decide) lk29 (fun _ h9 => h9) rfl dX6_number_30 ?_
  refine lv_iload_n hx hb dX6_number_33 rfl (lv_at hl 0 rfl) ?_
  refine lv_iconst (v := nI 2) hx hb dX6_number_34 (by decide) ?_
  refine ni_iadd hx hb dX6_number_35 ?_
  refine my_iald hx hb hK hP 1 rfl (by omega) (by omega) dX6_number_36 ?_
  refine lv_imul hx hb dX6_number_37 ?_
  refine lv_iadd hx hb dX6_number_38 ?_
  refine lv_bipush (v := nI 8) hx hb dX6_number_39 (by decide) ?_
  refine lv_aload_n hx hb dX6_number_41 rfl (lv_at hl 1 rfl) ?_
  refine va_get (D := D) (ci := 6) (C := RX6) (T := TX6) (N := 21) hx hb hts hiX6 hown hKv hP 0 rfl rfl 9 (by decide) lk29 (fun _ h9 => h9) rfl dX6_number_42 ?_
  refine lv_iload_n hx hb dX6_number_45 rfl (lv_at hl 0 rfl) ?_
  refine lv_iconst (v := nI 3) hx hb dX6_number_46 (by decide) ?_
  refine ni_iadd hx hb dX6_number_47 ?_
  refine my_iald hx hb hK hP 1 rfl (by omega) (by omega) dX6_number_48 ?_
  refine lv_imul hx hb dX6_number_49 ?_
  refine lv_iadd hx hb dX6_number_50 ?_
  exact W.iret (v := (((fi ((st + 5) + (5 * g))) + ((nI 2) * (fi (((st + 5) + (5 * g)) + 1)))) + ((nI 4) * (fi (((st + 5) + (5 * g)) + 2)))) + ((nI 8) * (fi (((st + 5) + (5 * g)) + 3)))) hx hb hr (fun t ht _ => ⟨_, rfl, by exact num_m h01 hg, ht⟩) (fun _ h => nomatch h) dX6_number_51
abbrev rm_kX6_isOdd : Room := { frames := 1, cells := 0, slots := 0, locals := 22 }
set_option maxHeartbeats 4000000 in
set_option maxRecDepth 100000 in
theorem kX6_isOdd (l : Launch) (D : va_G) (ca : Nat → ClassId) (om a1 a2 a3 a4 a5 a6 a7 a8 a9 : Nat) (thr sv ln br ck lm rs at_ tm : Int32) (hs : Int64) (n st : Nat) (fi : Nat → Int32) (g : Nat) (hn2 : n ≤ 200) (hg : gp st g + 5 ≤ n) (h01 : ∀ k, k < n → fi k = nI 0 ∨ fi k = nI 1) : Met l yX6_isOdd wsX6_isOdd rm_kX6_isOdd (pcR D ca [.ref om, .int (nI g)] [(om, .inr (6, [.int thr, .ref a1, .ref a2, .ref a3, .int sv, .ref a4, .ref a5, .ref a6, .int ln, .ref a7, .int (nI n), .int br, .int ck, .int (nI st), .ref a8, .int lm, .int rs, .int at_, .ref a9, .int tm, .long hs])), (a7, .inl (ca 0, 200, .inl fi))]) (vp_Si (fun zr : Int32 => zr = bI (oddG fi (gp st g)))) 0 0 (fun _ => False) := by
  refine Met.ofW (cc := cX6_isOdd) (maxL := 2) (ret := (some .boolean)) (by decide) rfl ?_
  intro p e s m args below meth c s₁ B hml hv
  obtain ⟨rfl, hP, hK⟩ := hv
  have hx := B.exec
  have hb := B.bytes
  have hr := B.returns
  have hts := atoms_spec (ws := wsX6_isOdd) B.pre
  have hown : s.vm.findClass RX6 = some m.cls := findClass_of_methodNamed B.named
  have hlocks := B.notSynchronized
  have hKv := hK.1
  have hl := lv_entry ([.ref om, .int (nI g)]) (n := 2) (kk_le rfl)
  rw [lg_entry_eq]
  generalize (lg_sl ([.ref om, .int (nI g)]) ++ List.replicate (2 - (lg_sl ([.ref om, .int (nI g)])).length) Slot.unset).toArray = ls at hl ⊢
  have hl : lv_has ls 2 [(0, .ref om), (1, .int (nI g))] := hl
  have hg0 : st + 5 + 5 * g + 5 ≤ n := hg
  have hiX6 : ∀ w ∈ u_ws RX6 TX6 21, w ∈ wsX6_isOdd := fun w h => by first | exact List.mem_cons_of_mem _ (List.mem_append_right _ h) | exact List.mem_cons_of_mem _ (List.mem_append_left _ (List.mem_append_right _ h)) | exact List.mem_cons_of_mem _ (List.mem_append_left _ (List.mem_append_left _ (List.mem_append_right _ h))) | exact List.mem_cons_of_mem _ (List.mem_append_left _ (List.mem_append_left _ (List.mem_append_left _ (List.mem_append_right _ h)))) | (revert w h; decide +kernel)
  have lk29 : (Cond.fieldLink RX6 29 "StripeSwipesModel" "bits" "[I").before _ s = true := hts _ (by decide +kernel)
  have lk92 : (Cond.fieldLink RX6 92 "StripeSwipesModel" "startAt" "I").before _ s = true := hts _ (by decide +kernel)
  refine lv_aload_n hx hb dX6_isOdd_0 rfl (lv_at hl 0 rfl) ?_
  refine lv_iload_n hx hb dX6_isOdd_1 rfl (lv_at hl 1 rfl) ?_
  refine vp_callSi (va_Run.run (va_runV (As := [.int (nI g)]) (rest := []) ⟨hx, hb, hml, hown, hts⟩ (kX6_number l D ca om a1 a2 a3 a4 a5 a6 a7 a8 a9 thr sv ln br ck lm rs at_ tm hs n st fi g (by omega) (by exact hg) (by exact h01)) (cwV 1 hts gX6_isOdd_X6_number rfl rfl rfl (by decide +kernel) ⟨kk_le rfl, kk_le rfl⟩) (pvR hK hP (va_recv hKv hP (ci := 6) (q0 := 0) rfl rfl)) rfl rfl hl.1 rfl (lv_room (kk_le rfl)) dX6_isOdd_2 ⟨kk_le rfl, kk_le rfl⟩)) (fun r1 hr1 => ?_)
  subst hr1
  refine vp_callSi (va_Run.run (va_runS (As := [.int (numG fi (gp st g))]) (rest := []) ⟨hx, hb, hml, hown, hts⟩ (kX6_ones l (numG fi (gp st g))) (va_cwS 1 hts gX6_isOdd_X6_ones rfl rfl rfl (by decide +kernel) ⟨kk_le rfl, kk_le rfl⟩) psN rfl rfl hl.1 rfl (lv_room (kk_le rfl)) dX6_isOdd_5 ⟨kk_le rfl, kk_le rfl⟩)) (fun r2 hr2 => ?_)
  subst hr2
  refine lv_aload_n hx hb dX6_isOdd_8 rfl (lv_at hl 0 rfl) ?_
  refine va_get (D := D) (ci := 6) (C := RX6) (T := TX6) (N := 21) hx hb hts hiX6 hown hKv hP 0 rfl rfl 9 (by decide) lk29 (fun _ h9 => h9) rfl dX6_isOdd_9 ?_
  refine lv_aload_n hx hb dX6_isOdd_12 rfl (lv_at hl 0 rfl) ?_
  refine va_get (D := D) (ci := 6) (C := RX6) (T := TX6) (N := 21) hx hb hts hiX6 hown hKv hP 0 rfl rfl 13 (by decide) lk92 (fun _ h9 => h9) rfl dX6_isOdd_13 ?_
  refine lv_bipush (v := nI 9) hx hb dX6_isOdd_16 (by decide) ?_
  refine ni_iadd hx hb dX6_isOdd_18 ?_
  refine lv_iconst (v := nI 5) hx hb dX6_isOdd_19 (by decide) ?_
  refine lv_iload_n hx hb dX6_isOdd_20 rfl (lv_at hl 1 rfl) ?_
  refine ni_imul hx hb dX6_isOdd_21 ?_
  refine ni_iadd hx hb dX6_isOdd_22 ?_
  refine my_iald hx hb hK hP 1 rfl (by omega) (by omega) dX6_isOdd_23 ?_
  refine lv_iadd hx hb dX6_isOdd_24 ?_
  refine lv_iconst (v := nI 2) hx hb dX6_isOdd_25 (by decide) ?_
  refine lv_irem hx hb dX6_isOdd_26 (by first | decide | assumption | exact nI_ne0 (by omega) (by omega)) ?_
  refine lv_iconst (v := nI 1) hx hb dX6_isOdd_27 (by decide) ?_
  refine lv_icmp_ne (tgt := 35) hx hb dX6_isOdd_28 (by decide) (fun c3 => ?_) (fun c3 => ?_)
  · refine lv_iconst (v := nI 0) hx hb dX6_isOdd_35 (by decide) ?_
    exact W.zret (v := nI 0) hx hb hr (by first | rfl | exact bI_nar _ | exact bI_fit _ | (first | exact Or.inl rfl | exact Or.inr rfl)) (fun t ht _ => ⟨_, rfl, by first | exact (congrArg bI (odd_mt h01 hg (by assumption))).symm | exact (congrArg bI (odd_mf h01 hg (by assumption))).symm, ht⟩) (fun _ h => nomatch h) dX6_isOdd_36
  · refine lv_iconst (v := nI 1) hx hb dX6_isOdd_31 (by decide) ?_
    refine lv_goto (tgt := 36) hx hb dX6_isOdd_32 (by decide) ?_
    exact W.zret (v := nI 1) hx hb hr (by first | rfl | exact bI_nar _ | exact bI_fit _ | (first | exact Or.inl rfl | exact Or.inr rfl)) (fun t ht _ => ⟨_, rfl, by first | exact (congrArg bI (odd_mt h01 hg (by assumption))).symm | exact (congrArg bI (odd_mf h01 hg (by assumption))).symm, ht⟩) (fun _ h => nomatch h) dX6_isOdd_36
abbrev rm_kX6_laysLetters : Room := { frames := 2, cells := 0, slots := 0, locals := 43 }
set_option maxHeartbeats 4000000 in
set_option maxRecDepth 100000 in
theorem kX6_laysLetters (l : Launch) (D : va_G) (ca : Nat → ClassId) (sz : Nat) (om a1 a2 a3 a4 a5 a6 a7 a8 a9 : Nat) (thr sv ln br ck lm rs at_ tm : Int32) (hs : Int64) (n st : Nat) (fi : Nat → Int32) (fe : Nat → Int32) (hn2 : n ≤ 200) (hst : st + 5 ≤ n) (h01 : ∀ k, k < n → fi k = nI 0 ∨ fi k = nI 1) : Met l yX6_laysLetters wsX6_laysLetters rm_kX6_laysLetters (pcM D ca [.ref om] [(om, .inr (6, [.int thr, .ref a1, .ref a2, .ref a3, .int sv, .ref a4, .ref a5, .ref a6, .int ln, .ref a7, .int (nI n), .int br, .int ck, .int (nI st), .ref a8, .int lm, .int rs, .int at_, .ref a9, .int tm, .long hs])), (a7, .inl (ca 0, 200, .inl fi)), (a8, .inl (ca 0, 40, .inl fe))] sz) (va_Qv (fun (u : Unit) => True) (qB D (va_A [(om, .inr (6, [.int thr, .ref a1, .ref a2, .ref a3, .int sv, .ref a4, .ref a5, .ref a6, .int ln, .ref a7, .int (nI n), .int br, .int ck, .int (nI st), .ref a8, .int lm, .int rs, .int at_, .ref a9, .int tm, .long hs])), (a7, .inl (ca 0, 200, .inl fi)), (a8, .inl (ca 0, 40, .inl fe))] sz) (fun u : Unit => [(om, .inr (6, [.int thr, .ref a1, .ref a2, .ref a3, .int sv, .ref a4, .ref a5, .ref a6, .int ln, .ref a7, .int (nI n), .int br, .int ck, .int (nI st), .ref a8, .int (nI (ltN fi n st)), .int rs, .int at_, .ref a9, .int tm, .long hs])), (a7, .inl (ca 0, 200, .inl fi)), (a8, .inl (ca 0, 40, .inl (apF fe 0 (ltL fi n st))))])) (va_A [(om, .inr (6, [.int thr, .ref a1, .ref a2, .ref a3, .int sv, .ref a4, .ref a5, .ref a6, .int ln, .ref a7, .int (nI n), .int br, .int ck, .int (nI st), .ref a8, .int lm, .int rs, .int at_, .ref a9, .int tm, .long hs])), (a7, .inl (ca 0, 200, .inl fi)), (a8, .inl (ca 0, 40, .inl fe))] sz)) 0 0 (va_A [(om, .inr (6, [.int thr, .ref a1, .ref a2, .ref a3, .int sv, .ref a4, .ref a5, .ref a6, .int ln, .ref a7, .int (nI n), .int br, .int ck, .int (nI st), .ref a8, .int lm, .int rs, .int at_, .ref a9, .int tm, .long hs])), (a7, .inl (ca 0, 200, .inl fi)), (a8, .inl (ca 0, 40, .inl fe))] sz) := by
  refine Met.ofW (cc := cX6_laysLetters) (maxL := 1) (ret := none) (by decide) rfl ?_
  intro p e s m args below meth c s₁ B hml hv
  obtain ⟨rfl, hsz, hP, hK, hD0⟩ := hv
  have hx := B.exec
  have hb := B.bytes
  have hr := B.returns
  have hts := atoms_spec (ws := wsX6_laysLetters) B.pre
  have hown : s.vm.findClass RX6 = some m.cls := findClass_of_methodNamed B.named
  have hlocks := B.notSynchronized
  subst hsz
  have hD := hD0.self (sz := s.heap.size)
  generalize hAe : va_A [(om, .inr (6, [.int thr, .ref a1, .ref a2, .ref a3, .int sv, .ref a4, .ref a5, .ref a6, .int ln, .ref a7, .int (nI n), .int br, .int ck, .int (nI st), .ref a8, .int lm, .int rs, .int at_, .ref a9, .int tm, .long hs])), (a7, .inl (ca 0, 200, .inl fi)), (a8, .inl (ca 0, 40, .inl fe))] s.heap.size = A at hD ⊢
  have hA : ∀ q : Nat, s.heap.size ≤ q → A q := fun q h => by rw [← hAe]; exact Or.inr h
  have hS : va_S A s.heap s.heap [] := va_S.rf
  have hP : va_P D vwCl [(om, .inr (6, [.int thr, .ref a1, .ref a2, .ref a3, .int sv, .ref a4, .ref a5, .ref a6, .int ln, .ref a7, .int (nI n), .int br, .int ck, .int (nI st), .ref a8, .int lm, .int rs, .int at_, .ref a9, .int tm, .long hs])), (a7, .inl (ca 0, 200, .inl fi)), (a8, .inl (ca 0, 40, .inl fe))] s.heap := hP
  have hKv := hK.1
  have hl := lv_entry ([.ref om]) (n := 1) (kk_le rfl)
  rw [lg_entry_eq]
  generalize (lg_sl ([.ref om]) ++ List.replicate (1 - (lg_sl ([.ref om])).length) Slot.unset).toArray = ls at hl ⊢
  have hl : lv_has ls 1 [(0, .ref om)] := hl
  generalize hQz : MQ below _ _ _ _ _ _ = Qz
  have hiX6 : ∀ w ∈ u_ws RX6 TX6 21, w ∈ wsX6_laysLetters := fun w h => by first | exact List.mem_cons_of_mem _ (List.mem_append_right _ h) | exact List.mem_cons_of_mem _ (List.mem_append_left _ (List.mem_append_right _ h)) | exact List.mem_cons_of_mem _ (List.mem_append_left _ (List.mem_append_left _ (List.mem_append_right _ h))) | exact List.mem_cons_of_mem _ (List.mem_append_left _ (List.mem_append_left _ (List.mem_append_left _ (List.mem_append_right _ h)))) | (revert w h; decide +kernel)
  have lk102 : (Cond.fieldLink RX6 102 "StripeSwipesModel" "letterMany" "I").before _ s = true := hts _ (by decide +kernel)
  have lk92 : (Cond.fieldLink RX6 92 "StripeSwipesModel" "startAt" "I").before _ s = true := hts _ (by decide +kernel)
  have lk32 : (Cond.fieldLink RX6 32 "StripeSwipesModel" "letters" "[I").before _ s = true := hts _ (by decide +kernel)
  refine lv_aload_n hx hb dX6_laysLetters_0 rfl (lv_at hl 0 rfl) ?_
  refine lv_iconst (v := nI 0) hx hb dX6_laysLetters_1 (by decide) ?_
  refine va_put (D := D) (ci := 6) (v := .int (nI 0)) (ty := .int) (C := RX6) (T := TX6) (N := 21) hx hb hts hiX6 tyX6 tyX6_ok nmX6 hown hKv hP hD hS 0 rfl rfl 15 (by decide) lk102 (fun _ h9 => h9) rfl (by decide +kernel) rfl rfl (kk_le rfl) dX6_laysLetters_2 (fun H locs hP hD hS => ?_)
  have hP : va_P D vwCl [(om, .inr (6, [.int thr, .ref a1, .ref a2, .ref a3, .int sv, .ref a4, .ref a5, .ref a6, .int ln, .ref a7, .int (nI n), .int br, .int ck, .int (nI st), .ref a8, .int (nI 0), .int rs, .int at_, .ref a9, .int tm, .long hs])), (a7, .inl (ca 0, 200, .inl fi)), (a8, .inl (ca 0, 40, .inl fe))] H := hP
  have hD : va_D A [(om, .inr (6, [.int thr, .ref a1, .ref a2, .ref a3, .int sv, .ref a4, .ref a5, .ref a6, .int ln, .ref a7, .int (nI n), .int br, .int ck, .int (nI st), .ref a8, .int (nI 0), .int rs, .int at_, .ref a9, .int tm, .long hs])), (a7, .inl (ca 0, 200, .inl fi)), (a8, .inl (ca 0, 40, .inl fe))] := hD
  have lp5_0 : ∀ (k1 : Nat) (i : Nat), 41 - i < k1 → (i ≤ 40) → (∀ j, j < i → okG fi n st j = true) → ∀ (H : Heap) (locs : List Loc), va_P D vwCl [(om, .inr (6, [.int thr, .ref a1, .ref a2, .ref a3, .int sv, .ref a4, .ref a5, .ref a6, .int ln, .ref a7, .int (nI n), .int br, .int ck, .int (nI st), .ref a8, .int (nI i), .int rs, .int at_, .ref a9, .int tm, .long hs])), (a7, .inl (ca 0, 200, .inl fi)), (a8, .inl (ca 0, 40, .inl (apF fe 0 (lst (lF fi st) i))))] H → va_D A [(om, .inr (6, [.int thr, .ref a1, .ref a2, .ref a3, .int sv, .ref a4, .ref a5, .ref a6, .int ln, .ref a7, .int (nI n), .int br, .int ck, .int (nI st), .ref a8, .int (nI i), .int rs, .int at_, .ref a9, .int tm, .long hs])), (a7, .inl (ca 0, 200, .inl fi)), (a8, .inl (ca 0, 40, .inl (apF fe 0 (lst (lF fi st) i))))] → va_S A s.heap H locs → ∀ (ls : Array Slot), lv_has ls 1 [(0, .ref om)] → W p l e rm_kX6_laysLetters s m ([.ref om] : List Value).toArray below meth c H locs 0 0 Qz (F0 m 5 ls []) := by
    intro k1
    induction k1 with
    | zero => intro i hm1; exact absurd hm1 (Nat.not_lt_zero _)
    | succ k1 ih1 =>
      intro i hm1 hi hok H locs hP hD hS ls hl
      refine lv_aload_n hx hb dX6_laysLetters_5 rfl (lv_at hl 0 rfl) ?_
      refine va_get (D := D) (ci := 6) (C := RX6) (T := TX6) (N := 21) hx hb hts hiX6 hown hKv hP 0 rfl rfl 13 (by decide) lk92 (fun _ h9 => h9) rfl dX6_laysLetters_6 ?_
      refine lv_iconst (v := (-1)) hx hb dX6_laysLetters_9 (by decide) ?_
      refine lv_icmp_eq (tgt := 78) hx hb dX6_laysLetters_10 (by decide) (fun c2 => ?_) (fun c2 => ?_)
      · exact absurd c2 (ni_m1 (by omega))
      · refine lv_aload_n hx hb dX6_laysLetters_13 rfl (lv_at hl 0 rfl) ?_
        refine lv_aload_n hx hb dX6_laysLetters_14 rfl (lv_at hl 0 rfl) ?_
        refine va_get (D := D) (ci := 6) (C := RX6) (T := TX6) (N := 21) hx hb hts hiX6 hown hKv hP 0 rfl rfl 15 (by decide) lk102 (fun _ h9 => h9) rfl dX6_laysLetters_15 ?_
        refine vp_callSi (va_Run.run (va_runV (As := [.int (nI i)]) (rest := []) ⟨hx, hb, hml, hown, hts⟩ (kX6_isThere l D ca om a1 a2 a3 a4 a5 a6 a7 a8 a9 thr sv ln br ck (nI i) rs at_ tm hs n st i (by first | rfl | assumption | omega | trivial | (exfalso; omega)) (by first | rfl | assumption | omega | trivial | (exfalso; omega)) (by first | rfl | assumption | omega | trivial | (exfalso; omega))) (cwV 1 hts gX6_laysLetters_X6_isThere rfl rfl rfl (by decide +kernel) ⟨kk_le rfl, kk_le rfl⟩) (pvR hK (hP.sub (ws' := [(om, .inr (6, [.int thr, .ref a1, .ref a2, .ref a3, .int sv, .ref a4, .ref a5, .ref a6, .int ln, .ref a7, .int (nI n), .int br, .int ck, .int (nI st), .ref a8, .int (nI i), .int rs, .int at_, .ref a9, .int tm, .long hs]))]) [0] rfl) (va_recv hKv hP (ci := 6) (q0 := 0) rfl rfl)) rfl rfl hl.1 rfl (lv_room (kk_le rfl)) dX6_laysLetters_18 ⟨kk_le rfl, kk_le rfl⟩)) (fun r3 hr3 => ?_)
        subst hr3
        refine bi_if_eq (tgt := 78) hx hb dX6_laysLetters_21 (by decide) (fun c4 => ?_) (fun c4 => ?_)
        · subst hQz
          have e5 : (nI i : Int32) = nI (ltN fi n st) := by (have hz : ltN fi n st = i := lt_end hok (by first | exact okG_a (by have := of_decide_eq_false (by assumption); omega) | exact okG_b (by assumption) | exact okG_c (by assumption)) (by omega); first | rw [hz] | (unfold ltL; rw [hz]))
          have hP : va_P D vwCl [(om, .inr (6, [.int thr, .ref a1, .ref a2, .ref a3, .int sv, .ref a4, .ref a5, .ref a6, .int ln, .ref a7, .int (nI n), .int br, .int ck, .int (nI st), .ref a8, .int (nI (ltN fi n st)), .int rs, .int at_, .ref a9, .int tm, .long hs])), (a7, .inl (ca 0, 200, .inl fi)), (a8, .inl (ca 0, 40, .inl (apF fe 0 (lst (lF fi st) i))))] H := Eq.mp (congrArg (fun z9 : Int32 => va_P D vwCl [(om, .inr (6, [.int thr, .ref a1, .ref a2, .ref a3, .int sv, .ref a4, .ref a5, .ref a6, .int ln, .ref a7, .int (nI n), .int br, .int ck, .int (nI st), .ref a8, .int z9, .int rs, .int at_, .ref a9, .int tm, .long hs])), (a7, .inl (ca 0, 200, .inl fi)), (a8, .inl (ca 0, 40, .inl (apF fe 0 (lst (lF fi st) i))))] H) e5) hP
          have hD : va_D A [(om, .inr (6, [.int thr, .ref a1, .ref a2, .ref a3, .int sv, .ref a4, .ref a5, .ref a6, .int ln, .ref a7, .int (nI n), .int br, .int ck, .int (nI st), .ref a8, .int (nI (ltN fi n st)), .int rs, .int at_, .ref a9, .int tm, .long hs])), (a7, .inl (ca 0, 200, .inl fi)), (a8, .inl (ca 0, 40, .inl (apF fe 0 (lst (lF fi st) i))))] := Eq.mp (congrArg (fun z9 : Int32 => va_D A [(om, .inr (6, [.int thr, .ref a1, .ref a2, .ref a3, .int sv, .ref a4, .ref a5, .ref a6, .int ln, .ref a7, .int (nI n), .int br, .int ck, .int (nI st), .ref a8, .int z9, .int rs, .int at_, .ref a9, .int tm, .long hs])), (a7, .inl (ca 0, 200, .inl fi)), (a8, .inl (ca 0, 40, .inl (apF fe 0 (lst (lF fi st) i))))]) e5) hD
          have e6 : (apF fe 0 (lst (lF fi st) i) : Nat → Int32) = apF fe 0 (ltL fi n st) := by (have hz : ltN fi n st = i := lt_end hok (by first | exact okG_a (by have := of_decide_eq_false (by assumption); omega) | exact okG_b (by assumption) | exact okG_c (by assumption)) (by omega); first | rw [hz] | (unfold ltL; rw [hz]))
          have hP : va_P D vwCl [(om, .inr (6, [.int thr, .ref a1, .ref a2, .ref a3, .int sv, .ref a4, .ref a5, .ref a6, .int ln, .ref a7, .int (nI n), .int br, .int ck, .int (nI st), .ref a8, .int (nI (ltN fi n st)), .int rs, .int at_, .ref a9, .int tm, .long hs])), (a7, .inl (ca 0, 200, .inl fi)), (a8, .inl (ca 0, 40, .inl (apF fe 0 (ltL fi n st))))] H := Eq.mp (congrArg (fun z9 : Nat → Int32 => va_P D vwCl [(om, .inr (6, [.int thr, .ref a1, .ref a2, .ref a3, .int sv, .ref a4, .ref a5, .ref a6, .int ln, .ref a7, .int (nI n), .int br, .int ck, .int (nI st), .ref a8, .int (nI (ltN fi n st)), .int rs, .int at_, .ref a9, .int tm, .long hs])), (a7, .inl (ca 0, 200, .inl fi)), (a8, .inl (ca 0, 40, .inl z9))] H) e6) hP
          have hD : va_D A [(om, .inr (6, [.int thr, .ref a1, .ref a2, .ref a3, .int sv, .ref a4, .ref a5, .ref a6, .int ln, .ref a7, .int (nI n), .int br, .int ck, .int (nI st), .ref a8, .int (nI (ltN fi n st)), .int rs, .int at_, .ref a9, .int tm, .long hs])), (a7, .inl (ca 0, 200, .inl fi)), (a8, .inl (ca 0, 40, .inl (apF fe 0 (ltL fi n st))))] := Eq.mp (congrArg (fun z9 : Nat → Int32 => va_D A [(om, .inr (6, [.int thr, .ref a1, .ref a2, .ref a3, .int sv, .ref a4, .ref a5, .ref a6, .int ln, .ref a7, .int (nI n), .int br, .int ck, .int (nI st), .ref a8, .int (nI (ltN fi n st)), .int rs, .int at_, .ref a9, .int tm, .long hs])), (a7, .inl (ca 0, 200, .inl fi)), (a8, .inl (ca 0, 40, .inl z9))]) e6) hD
          exact W.vret hx hb hr (fun t ht hW => ⟨⟨(), rfl, by trivial, by rw [ht]; exact hP, hD⟩, hS.F ht⟩) hS.2.2 dX6_laysLetters_78
        · have hth := of_decide_eq_true c4
          have hi9 : i < 40 := by unfold gp at hth; omega
          refine lv_aload_n hx hb dX6_laysLetters_24 rfl (lv_at hl 0 rfl) ?_
          refine lv_aload_n hx hb dX6_laysLetters_25 rfl (lv_at hl 0 rfl) ?_
          refine va_get (D := D) (ci := 6) (C := RX6) (T := TX6) (N := 21) hx hb hts hiX6 hown hKv hP 0 rfl rfl 15 (by decide) lk102 (fun _ h9 => h9) rfl dX6_laysLetters_26 ?_
          refine vp_callSi (va_Run.run (va_runV (As := [.int (nI i)]) (rest := []) ⟨hx, hb, hml, hown, hts⟩ (kX6_isOdd l D ca om a1 a2 a3 a4 a5 a6 a7 a8 a9 thr sv ln br ck (nI i) rs at_ tm hs n st fi i (by omega) (by first | exact of_decide_eq_true (by assumption) | exact hth) (by exact h01)) (cwV 1 hts gX6_laysLetters_X6_isOdd rfl rfl rfl (by decide +kernel) ⟨kk_le rfl, kk_le rfl⟩) (pvR hK (hP.sub (ws' := [(om, .inr (6, [.int thr, .ref a1, .ref a2, .ref a3, .int sv, .ref a4, .ref a5, .ref a6, .int ln, .ref a7, .int (nI n), .int br, .int ck, .int (nI st), .ref a8, .int (nI i), .int rs, .int at_, .ref a9, .int tm, .long hs])), (a7, .inl (ca 0, 200, .inl fi))]) [0, 1] rfl) (va_recv hKv hP (ci := 6) (q0 := 0) rfl rfl)) rfl rfl hl.1 rfl (lv_room (kk_le rfl)) dX6_laysLetters_29 ⟨kk_le rfl, kk_le rfl⟩)) (fun r7 hr7 => ?_)
          subst hr7
          refine bi_if_eq (tgt := 78) hx hb dX6_laysLetters_32 (by decide) (fun c8 => ?_) (fun c8 => ?_)
          · subst hQz
            have e9 : (nI i : Int32) = nI (ltN fi n st) := by (have hz : ltN fi n st = i := lt_end hok (by first | exact okG_a (by have := of_decide_eq_false (by assumption); omega) | exact okG_b (by assumption) | exact okG_c (by assumption)) (by omega); first | rw [hz] | (unfold ltL; rw [hz]))
            have hP : va_P D vwCl [(om, .inr (6, [.int thr, .ref a1, .ref a2, .ref a3, .int sv, .ref a4, .ref a5, .ref a6, .int ln, .ref a7, .int (nI n), .int br, .int ck, .int (nI st), .ref a8, .int (nI (ltN fi n st)), .int rs, .int at_, .ref a9, .int tm, .long hs])), (a7, .inl (ca 0, 200, .inl fi)), (a8, .inl (ca 0, 40, .inl (apF fe 0 (lst (lF fi st) i))))] H := Eq.mp (congrArg (fun z9 : Int32 => va_P D vwCl [(om, .inr (6, [.int thr, .ref a1, .ref a2, .ref a3, .int sv, .ref a4, .ref a5, .ref a6, .int ln, .ref a7, .int (nI n), .int br, .int ck, .int (nI st), .ref a8, .int z9, .int rs, .int at_, .ref a9, .int tm, .long hs])), (a7, .inl (ca 0, 200, .inl fi)), (a8, .inl (ca 0, 40, .inl (apF fe 0 (lst (lF fi st) i))))] H) e9) hP
            have hD : va_D A [(om, .inr (6, [.int thr, .ref a1, .ref a2, .ref a3, .int sv, .ref a4, .ref a5, .ref a6, .int ln, .ref a7, .int (nI n), .int br, .int ck, .int (nI st), .ref a8, .int (nI (ltN fi n st)), .int rs, .int at_, .ref a9, .int tm, .long hs])), (a7, .inl (ca 0, 200, .inl fi)), (a8, .inl (ca 0, 40, .inl (apF fe 0 (lst (lF fi st) i))))] := Eq.mp (congrArg (fun z9 : Int32 => va_D A [(om, .inr (6, [.int thr, .ref a1, .ref a2, .ref a3, .int sv, .ref a4, .ref a5, .ref a6, .int ln, .ref a7, .int (nI n), .int br, .int ck, .int (nI st), .ref a8, .int z9, .int rs, .int at_, .ref a9, .int tm, .long hs])), (a7, .inl (ca 0, 200, .inl fi)), (a8, .inl (ca 0, 40, .inl (apF fe 0 (lst (lF fi st) i))))]) e9) hD
            have e10 : (apF fe 0 (lst (lF fi st) i) : Nat → Int32) = apF fe 0 (ltL fi n st) := by (have hz : ltN fi n st = i := lt_end hok (by first | exact okG_a (by have := of_decide_eq_false (by assumption); omega) | exact okG_b (by assumption) | exact okG_c (by assumption)) (by omega); first | rw [hz] | (unfold ltL; rw [hz]))
            have hP : va_P D vwCl [(om, .inr (6, [.int thr, .ref a1, .ref a2, .ref a3, .int sv, .ref a4, .ref a5, .ref a6, .int ln, .ref a7, .int (nI n), .int br, .int ck, .int (nI st), .ref a8, .int (nI (ltN fi n st)), .int rs, .int at_, .ref a9, .int tm, .long hs])), (a7, .inl (ca 0, 200, .inl fi)), (a8, .inl (ca 0, 40, .inl (apF fe 0 (ltL fi n st))))] H := Eq.mp (congrArg (fun z9 : Nat → Int32 => va_P D vwCl [(om, .inr (6, [.int thr, .ref a1, .ref a2, .ref a3, .int sv, .ref a4, .ref a5, .ref a6, .int ln, .ref a7, .int (nI n), .int br, .int ck, .int (nI st), .ref a8, .int (nI (ltN fi n st)), .int rs, .int at_, .ref a9, .int tm, .long hs])), (a7, .inl (ca 0, 200, .inl fi)), (a8, .inl (ca 0, 40, .inl z9))] H) e10) hP
            have hD : va_D A [(om, .inr (6, [.int thr, .ref a1, .ref a2, .ref a3, .int sv, .ref a4, .ref a5, .ref a6, .int ln, .ref a7, .int (nI n), .int br, .int ck, .int (nI st), .ref a8, .int (nI (ltN fi n st)), .int rs, .int at_, .ref a9, .int tm, .long hs])), (a7, .inl (ca 0, 200, .inl fi)), (a8, .inl (ca 0, 40, .inl (apF fe 0 (ltL fi n st))))] := Eq.mp (congrArg (fun z9 : Nat → Int32 => va_D A [(om, .inr (6, [.int thr, .ref a1, .ref a2, .ref a3, .int sv, .ref a4, .ref a5, .ref a6, .int ln, .ref a7, .int (nI n), .int br, .int ck, .int (nI st), .ref a8, .int (nI (ltN fi n st)), .int rs, .int at_, .ref a9, .int tm, .long hs])), (a7, .inl (ca 0, 200, .inl fi)), (a8, .inl (ca 0, 40, .inl z9))]) e10) hD
            exact W.vret hx hb hr (fun t ht hW => ⟨⟨(), rfl, by trivial, by rw [ht]; exact hP, hD⟩, hS.F ht⟩) hS.2.2 dX6_laysLetters_78
          · refine lv_aload_n hx hb dX6_laysLetters_35 rfl (lv_at hl 0 rfl) ?_
            refine lv_aload_n hx hb dX6_laysLetters_36 rfl (lv_at hl 0 rfl) ?_
            refine va_get (D := D) (ci := 6) (C := RX6) (T := TX6) (N := 21) hx hb hts hiX6 hown hKv hP 0 rfl rfl 15 (by decide) lk102 (fun _ h9 => h9) rfl dX6_laysLetters_37 ?_
            refine vp_callSi (va_Run.run (va_runV (As := [.int (nI i)]) (rest := []) ⟨hx, hb, hml, hown, hts⟩ (kX6_number l D ca om a1 a2 a3 a4 a5 a6 a7 a8 a9 thr sv ln br ck (nI i) rs at_ tm hs n st fi i (by omega) (by first | exact of_decide_eq_true (by assumption) | exact hth) (by exact h01)) (cwV 1 hts gX6_laysLetters_X6_number rfl rfl rfl (by decide +kernel) ⟨kk_le rfl, kk_le rfl⟩) (pvR hK (hP.sub (ws' := [(om, .inr (6, [.int thr, .ref a1, .ref a2, .ref a3, .int sv, .ref a4, .ref a5, .ref a6, .int ln, .ref a7, .int (nI n), .int br, .int ck, .int (nI st), .ref a8, .int (nI i), .int rs, .int at_, .ref a9, .int tm, .long hs])), (a7, .inl (ca 0, 200, .inl fi))]) [0, 1] rfl) (va_recv hKv hP (ci := 6) (q0 := 0) rfl rfl)) rfl rfl hl.1 rfl (lv_room (kk_le rfl)) dX6_laysLetters_40 ⟨kk_le rfl, kk_le rfl⟩)) (fun r11 hr11 => ?_)
            subst hr11
            refine lv_bipush (v := nI 15) hx hb dX6_laysLetters_43 (by decide) ?_
            refine lv_icmp_eq (tgt := 78) hx hb dX6_laysLetters_45 (by decide) (fun c12 => ?_) (fun c12 => ?_)
            · subst hQz
              have e13 : (nI i : Int32) = nI (ltN fi n st) := by (have hz : ltN fi n st = i := lt_end hok (by first | exact okG_a (by have := of_decide_eq_false (by assumption); omega) | exact okG_b (by assumption) | exact okG_c (by assumption)) (by omega); first | rw [hz] | (unfold ltL; rw [hz]))
              have hP : va_P D vwCl [(om, .inr (6, [.int thr, .ref a1, .ref a2, .ref a3, .int sv, .ref a4, .ref a5, .ref a6, .int ln, .ref a7, .int (nI n), .int br, .int ck, .int (nI st), .ref a8, .int (nI (ltN fi n st)), .int rs, .int at_, .ref a9, .int tm, .long hs])), (a7, .inl (ca 0, 200, .inl fi)), (a8, .inl (ca 0, 40, .inl (apF fe 0 (lst (lF fi st) i))))] H := Eq.mp (congrArg (fun z9 : Int32 => va_P D vwCl [(om, .inr (6, [.int thr, .ref a1, .ref a2, .ref a3, .int sv, .ref a4, .ref a5, .ref a6, .int ln, .ref a7, .int (nI n), .int br, .int ck, .int (nI st), .ref a8, .int z9, .int rs, .int at_, .ref a9, .int tm, .long hs])), (a7, .inl (ca 0, 200, .inl fi)), (a8, .inl (ca 0, 40, .inl (apF fe 0 (lst (lF fi st) i))))] H) e13) hP
              have hD : va_D A [(om, .inr (6, [.int thr, .ref a1, .ref a2, .ref a3, .int sv, .ref a4, .ref a5, .ref a6, .int ln, .ref a7, .int (nI n), .int br, .int ck, .int (nI st), .ref a8, .int (nI (ltN fi n st)), .int rs, .int at_, .ref a9, .int tm, .long hs])), (a7, .inl (ca 0, 200, .inl fi)), (a8, .inl (ca 0, 40, .inl (apF fe 0 (lst (lF fi st) i))))] := Eq.mp (congrArg (fun z9 : Int32 => va_D A [(om, .inr (6, [.int thr, .ref a1, .ref a2, .ref a3, .int sv, .ref a4, .ref a5, .ref a6, .int ln, .ref a7, .int (nI n), .int br, .int ck, .int (nI st), .ref a8, .int z9, .int rs, .int at_, .ref a9, .int tm, .long hs])), (a7, .inl (ca 0, 200, .inl fi)), (a8, .inl (ca 0, 40, .inl (apF fe 0 (lst (lF fi st) i))))]) e13) hD
              have e14 : (apF fe 0 (lst (lF fi st) i) : Nat → Int32) = apF fe 0 (ltL fi n st) := by (have hz : ltN fi n st = i := lt_end hok (by first | exact okG_a (by have := of_decide_eq_false (by assumption); omega) | exact okG_b (by assumption) | exact okG_c (by assumption)) (by omega); first | rw [hz] | (unfold ltL; rw [hz]))
              have hP : va_P D vwCl [(om, .inr (6, [.int thr, .ref a1, .ref a2, .ref a3, .int sv, .ref a4, .ref a5, .ref a6, .int ln, .ref a7, .int (nI n), .int br, .int ck, .int (nI st), .ref a8, .int (nI (ltN fi n st)), .int rs, .int at_, .ref a9, .int tm, .long hs])), (a7, .inl (ca 0, 200, .inl fi)), (a8, .inl (ca 0, 40, .inl (apF fe 0 (ltL fi n st))))] H := Eq.mp (congrArg (fun z9 : Nat → Int32 => va_P D vwCl [(om, .inr (6, [.int thr, .ref a1, .ref a2, .ref a3, .int sv, .ref a4, .ref a5, .ref a6, .int ln, .ref a7, .int (nI n), .int br, .int ck, .int (nI st), .ref a8, .int (nI (ltN fi n st)), .int rs, .int at_, .ref a9, .int tm, .long hs])), (a7, .inl (ca 0, 200, .inl fi)), (a8, .inl (ca 0, 40, .inl z9))] H) e14) hP
              have hD : va_D A [(om, .inr (6, [.int thr, .ref a1, .ref a2, .ref a3, .int sv, .ref a4, .ref a5, .ref a6, .int ln, .ref a7, .int (nI n), .int br, .int ck, .int (nI st), .ref a8, .int (nI (ltN fi n st)), .int rs, .int at_, .ref a9, .int tm, .long hs])), (a7, .inl (ca 0, 200, .inl fi)), (a8, .inl (ca 0, 40, .inl (apF fe 0 (ltL fi n st))))] := Eq.mp (congrArg (fun z9 : Nat → Int32 => va_D A [(om, .inr (6, [.int thr, .ref a1, .ref a2, .ref a3, .int sv, .ref a4, .ref a5, .ref a6, .int ln, .ref a7, .int (nI n), .int br, .int ck, .int (nI st), .ref a8, .int (nI (ltN fi n st)), .int rs, .int at_, .ref a9, .int tm, .long hs])), (a7, .inl (ca 0, 200, .inl fi)), (a8, .inl (ca 0, 40, .inl z9))]) e14) hD
              exact W.vret hx hb hr (fun t ht hW => ⟨⟨(), rfl, by trivial, by rw [ht]; exact hP, hD⟩, hS.F ht⟩) hS.2.2 dX6_laysLetters_78
            · refine lv_aload_n hx hb dX6_laysLetters_48 rfl (lv_at hl 0 rfl) ?_
              refine va_get (D := D) (ci := 6) (C := RX6) (T := TX6) (N := 21) hx hb hts hiX6 hown hKv hP 0 rfl rfl 14 (by decide) lk32 (fun _ h9 => h9) rfl dX6_laysLetters_49 ?_
              refine lv_aload_n hx hb dX6_laysLetters_52 rfl (lv_at hl 0 rfl) ?_
              refine va_get (D := D) (ci := 6) (C := RX6) (T := TX6) (N := 21) hx hb hts hiX6 hown hKv hP 0 rfl rfl 15 (by decide) lk102 (fun _ h9 => h9) rfl dX6_laysLetters_53 ?_
              refine lv_aload_n hx hb dX6_laysLetters_56 rfl (lv_at hl 0 rfl) ?_
              refine lv_aload_n hx hb dX6_laysLetters_57 rfl (lv_at hl 0 rfl) ?_
              refine va_get (D := D) (ci := 6) (C := RX6) (T := TX6) (N := 21) hx hb hts hiX6 hown hKv hP 0 rfl rfl 15 (by decide) lk102 (fun _ h9 => h9) rfl dX6_laysLetters_58 ?_
              refine vp_callSi (va_Run.run (va_runV (As := [.int (nI i)]) (rest := [.int (nI i), .ref a8]) ⟨hx, hb, hml, hown, hts⟩ (kX6_number l D ca om a1 a2 a3 a4 a5 a6 a7 a8 a9 thr sv ln br ck (nI i) rs at_ tm hs n st fi i (by omega) (by first | exact of_decide_eq_true (by assumption) | exact hth) (by exact h01)) (cwV 1 hts gX6_laysLetters_X6_number rfl rfl rfl (by decide +kernel) ⟨kk_le rfl, kk_le rfl⟩) (pvR hK (hP.sub (ws' := [(om, .inr (6, [.int thr, .ref a1, .ref a2, .ref a3, .int sv, .ref a4, .ref a5, .ref a6, .int ln, .ref a7, .int (nI n), .int br, .int ck, .int (nI st), .ref a8, .int (nI i), .int rs, .int at_, .ref a9, .int tm, .long hs])), (a7, .inl (ca 0, 200, .inl fi))]) [0, 1] rfl) (va_recv hKv hP (ci := 6) (q0 := 0) rfl rfl)) rfl rfl hl.1 rfl (lv_room (kk_le rfl)) dX6_laysLetters_61 ⟨kk_le rfl, kk_le rfl⟩)) (fun r15 hr15 => ?_)
              subst hr15
              refine my_iast hx hb hK hP hD hS 2 rfl (by omega) (by omega) dX6_laysLetters_64 (fun H locs hP hD hS => ?_)
              have hP : va_P D vwCl [(om, .inr (6, [.int thr, .ref a1, .ref a2, .ref a3, .int sv, .ref a4, .ref a5, .ref a6, .int ln, .ref a7, .int (nI n), .int br, .int ck, .int (nI st), .ref a8, .int (nI i), .int rs, .int at_, .ref a9, .int tm, .long hs])), (a7, .inl (ca 0, 200, .inl fi)), (a8, .inl (ca 0, 40, .inl (upd (apF fe 0 (lst (lF fi st) i)) i (numG fi (gp st i)))))] H := hP
              have hD : va_D A [(om, .inr (6, [.int thr, .ref a1, .ref a2, .ref a3, .int sv, .ref a4, .ref a5, .ref a6, .int ln, .ref a7, .int (nI n), .int br, .int ck, .int (nI st), .ref a8, .int (nI i), .int rs, .int at_, .ref a9, .int tm, .long hs])), (a7, .inl (ca 0, 200, .inl fi)), (a8, .inl (ca 0, 40, .inl (upd (apF fe 0 (lst (lF fi st) i)) i (numG fi (gp st i)))))] := hD
              refine lv_aload_n hx hb dX6_laysLetters_65 rfl (lv_at hl 0 rfl) ?_
              refine lv_dup hx hb dX6_laysLetters_66 rfl ?_
              refine va_get (D := D) (ci := 6) (C := RX6) (T := TX6) (N := 21) hx hb hts hiX6 hown hKv hP 0 rfl rfl 15 (by decide) lk102 (fun _ h9 => h9) rfl dX6_laysLetters_67 ?_
              refine lv_iconst (v := nI 1) hx hb dX6_laysLetters_70 (by decide) ?_
              refine ni_iadd hx hb dX6_laysLetters_71 ?_
              refine va_put (D := D) (ci := 6) (v := .int (nI (i + 1))) (ty := .int) (C := RX6) (T := TX6) (N := 21) hx hb hts hiX6 tyX6 tyX6_ok nmX6 hown hKv hP hD hS 0 rfl rfl 15 (by decide) lk102 (fun _ h9 => h9) rfl (by decide +kernel) rfl rfl (kk_le rfl) dX6_laysLetters_72 (fun H locs hP hD hS => ?_)
              have hP : va_P D vwCl [(om, .inr (6, [.int thr, .ref a1, .ref a2, .ref a3, .int sv, .ref a4, .ref a5, .ref a6, .int ln, .ref a7, .int (nI n), .int br, .int ck, .int (nI st), .ref a8, .int (nI (i + 1)), .int rs, .int at_, .ref a9, .int tm, .long hs])), (a7, .inl (ca 0, 200, .inl fi)), (a8, .inl (ca 0, 40, .inl (upd (apF fe 0 (lst (lF fi st) i)) i (numG fi (gp st i)))))] H := hP
              have hD : va_D A [(om, .inr (6, [.int thr, .ref a1, .ref a2, .ref a3, .int sv, .ref a4, .ref a5, .ref a6, .int ln, .ref a7, .int (nI n), .int br, .int ck, .int (nI st), .ref a8, .int (nI (i + 1)), .int rs, .int at_, .ref a9, .int tm, .long hs])), (a7, .inl (ca 0, 200, .inl fi)), (a8, .inl (ca 0, 40, .inl (upd (apF fe 0 (lst (lF fi st) i)) i (numG fi (gp st i)))))] := hD
              refine lv_goto (tgt := 5) hx hb dX6_laysLetters_75 (by decide) ?_
              have e16 : (upd (apF fe 0 (lst (lF fi st) i)) i (numG fi (gp st i)) : Nat → Int32) = apF fe 0 (lst (lF fi st) (i + 1)) := by exact apL_step fe rfl
              have hP : va_P D vwCl [(om, .inr (6, [.int thr, .ref a1, .ref a2, .ref a3, .int sv, .ref a4, .ref a5, .ref a6, .int ln, .ref a7, .int (nI n), .int br, .int ck, .int (nI st), .ref a8, .int (nI (i + 1)), .int rs, .int at_, .ref a9, .int tm, .long hs])), (a7, .inl (ca 0, 200, .inl fi)), (a8, .inl (ca 0, 40, .inl (apF fe 0 (lst (lF fi st) (i + 1)))))] H := Eq.mp (congrArg (fun z9 : Nat → Int32 => va_P D vwCl [(om, .inr (6, [.int thr, .ref a1, .ref a2, .ref a3, .int sv, .ref a4, .ref a5, .ref a6, .int ln, .ref a7, .int (nI n), .int br, .int ck, .int (nI st), .ref a8, .int (nI (i + 1)), .int rs, .int at_, .ref a9, .int tm, .long hs])), (a7, .inl (ca 0, 200, .inl fi)), (a8, .inl (ca 0, 40, .inl z9))] H) e16) hP
              have hD : va_D A [(om, .inr (6, [.int thr, .ref a1, .ref a2, .ref a3, .int sv, .ref a4, .ref a5, .ref a6, .int ln, .ref a7, .int (nI n), .int br, .int ck, .int (nI st), .ref a8, .int (nI (i + 1)), .int rs, .int at_, .ref a9, .int tm, .long hs])), (a7, .inl (ca 0, 200, .inl fi)), (a8, .inl (ca 0, 40, .inl (apF fe 0 (lst (lF fi st) (i + 1)))))] := Eq.mp (congrArg (fun z9 : Nat → Int32 => va_D A [(om, .inr (6, [.int thr, .ref a1, .ref a2, .ref a3, .int sv, .ref a4, .ref a5, .ref a6, .int ln, .ref a7, .int (nI n), .int br, .int ck, .int (nI st), .ref a8, .int (nI (i + 1)), .int rs, .int at_, .ref a9, .int tm, .long hs])), (a7, .inl (ca 0, 200, .inl fi)), (a8, .inl (ca 0, 40, .inl z9))]) e16) hD
              exact ih1 (i + 1) (by unfold gp at hth; omega) (by unfold gp at hth; omega) (by exact lt_s hok (okG_t hth (by assumption) (by assumption))) _ _ hP hD hS ls (lv_sub hl [0] rfl)
  have e17 : (fe : Nat → Int32) = apF fe 0 (lst (lF fi st) 0) := by first | rfl | exact (apF_0 fe 0).symm
  have hP : va_P D vwCl [(om, .inr (6, [.int thr, .ref a1, .ref a2, .ref a3, .int sv, .ref a4, .ref a5, .ref a6, .int ln, .ref a7, .int (nI n), .int br, .int ck, .int (nI st), .ref a8, .int (nI 0), .int rs, .int at_, .ref a9, .int tm, .long hs])), (a7, .inl (ca 0, 200, .inl fi)), (a8, .inl (ca 0, 40, .inl (apF fe 0 (lst (lF fi st) 0))))] H := Eq.mp (congrArg (fun z9 : Nat → Int32 => va_P D vwCl [(om, .inr (6, [.int thr, .ref a1, .ref a2, .ref a3, .int sv, .ref a4, .ref a5, .ref a6, .int ln, .ref a7, .int (nI n), .int br, .int ck, .int (nI st), .ref a8, .int (nI 0), .int rs, .int at_, .ref a9, .int tm, .long hs])), (a7, .inl (ca 0, 200, .inl fi)), (a8, .inl (ca 0, 40, .inl z9))] H) e17) hP
  have hD : va_D A [(om, .inr (6, [.int thr, .ref a1, .ref a2, .ref a3, .int sv, .ref a4, .ref a5, .ref a6, .int ln, .ref a7, .int (nI n), .int br, .int ck, .int (nI st), .ref a8, .int (nI 0), .int rs, .int at_, .ref a9, .int tm, .long hs])), (a7, .inl (ca 0, 200, .inl fi)), (a8, .inl (ca 0, 40, .inl (apF fe 0 (lst (lF fi st) 0))))] := Eq.mp (congrArg (fun z9 : Nat → Int32 => va_D A [(om, .inr (6, [.int thr, .ref a1, .ref a2, .ref a3, .int sv, .ref a4, .ref a5, .ref a6, .int ln, .ref a7, .int (nI n), .int br, .int ck, .int (nI st), .ref a8, .int (nI 0), .int rs, .int at_, .ref a9, .int tm, .long hs])), (a7, .inl (ca 0, 200, .inl fi)), (a8, .inl (ca 0, 40, .inl z9))]) e17) hD
  exact lp5_0 ((41 - 0) + 1) 0 (by omega) (by omega) (by exact fun j hj => absurd hj (Nat.not_lt_zero j)) _ _ hP hD hS ls (lv_sub hl [0] rfl)
abbrev rm_kX6_laysLetters_none : Room := { frames := 0, cells := 0, slots := 0, locals := 0 }
set_option maxHeartbeats 4000000 in
set_option maxRecDepth 100000 in
theorem kX6_laysLetters_none (l : Launch) (D : va_G) (ca : Nat → ClassId) (sz : Nat) (om a1 a2 a3 a4 a5 a6 a7 a8 a9 : Nat) (thr sv ln bm br ck lm rs at_ tm : Int32) (hs : Int64) (fi fe : Nat → Int32) : Met l yX6_laysLetters wsX6_laysLetters rm_kX6_laysLetters_none (pcM D ca [.ref om] [(om, .inr (6, [.int thr, .ref a1, .ref a2, .ref a3, .int sv, .ref a4, .ref a5, .ref a6, .int ln, .ref a7, .int bm, .int br, .int ck, .int (-1), .ref a8, .int lm, .int rs, .int at_, .ref a9, .int tm, .long hs])), (a7, .inl (ca 0, 200, .inl fi)), (a8, .inl (ca 0, 40, .inl fe))] sz) (va_Qv (fun (u : Unit) => True) (qB D (va_A [(om, .inr (6, [.int thr, .ref a1, .ref a2, .ref a3, .int sv, .ref a4, .ref a5, .ref a6, .int ln, .ref a7, .int bm, .int br, .int ck, .int (-1), .ref a8, .int lm, .int rs, .int at_, .ref a9, .int tm, .long hs])), (a7, .inl (ca 0, 200, .inl fi)), (a8, .inl (ca 0, 40, .inl fe))] sz) (fun u : Unit => [(om, .inr (6, [.int thr, .ref a1, .ref a2, .ref a3, .int sv, .ref a4, .ref a5, .ref a6, .int ln, .ref a7, .int bm, .int br, .int ck, .int (-1), .ref a8, .int (nI 0), .int rs, .int at_, .ref a9, .int tm, .long hs])), (a7, .inl (ca 0, 200, .inl fi)), (a8, .inl (ca 0, 40, .inl fe))])) (va_A [(om, .inr (6, [.int thr, .ref a1, .ref a2, .ref a3, .int sv, .ref a4, .ref a5, .ref a6, .int ln, .ref a7, .int bm, .int br, .int ck, .int (-1), .ref a8, .int lm, .int rs, .int at_, .ref a9, .int tm, .long hs])), (a7, .inl (ca 0, 200, .inl fi)), (a8, .inl (ca 0, 40, .inl fe))] sz)) 0 0 (va_A [(om, .inr (6, [.int thr, .ref a1, .ref a2, .ref a3, .int sv, .ref a4, .ref a5, .ref a6, .int ln, .ref a7, .int bm, .int br, .int ck, .int (-1), .ref a8, .int lm, .int rs, .int at_, .ref a9, .int tm, .long hs])), (a7, .inl (ca 0, 200, .inl fi)), (a8, .inl (ca 0, 40, .inl fe))] sz) := by
  refine Met.ofW (cc := cX6_laysLetters) (maxL := 1) (ret := none) (by decide) rfl ?_
  intro p e s m args below meth c s₁ B hml hv
  obtain ⟨rfl, hsz, hP, hK, hD0⟩ := hv
  have hx := B.exec
  have hb := B.bytes
  have hr := B.returns
  have hts := atoms_spec (ws := wsX6_laysLetters) B.pre
  have hown : s.vm.findClass RX6 = some m.cls := findClass_of_methodNamed B.named
  have hlocks := B.notSynchronized
  subst hsz
  have hD := hD0.self (sz := s.heap.size)
  generalize hAe : va_A [(om, .inr (6, [.int thr, .ref a1, .ref a2, .ref a3, .int sv, .ref a4, .ref a5, .ref a6, .int ln, .ref a7, .int bm, .int br, .int ck, .int (-1), .ref a8, .int lm, .int rs, .int at_, .ref a9, .int tm, .long hs])), (a7, .inl (ca 0, 200, .inl fi)), (a8, .inl (ca 0, 40, .inl fe))] s.heap.size = A at hD ⊢
  have hA : ∀ q : Nat, s.heap.size ≤ q → A q := fun q h => by rw [← hAe]; exact Or.inr h
  have hS : va_S A s.heap s.heap [] := va_S.rf
  have hP : va_P D vwCl [(om, .inr (6, [.int thr, .ref a1, .ref a2, .ref a3, .int sv, .ref a4, .ref a5, .ref a6, .int ln, .ref a7, .int bm, .int br, .int ck, .int (-1), .ref a8, .int lm, .int rs, .int at_, .ref a9, .int tm, .long hs])), (a7, .inl (ca 0, 200, .inl fi)), (a8, .inl (ca 0, 40, .inl fe))] s.heap := hP
  have hKv := hK.1
  have hl := lv_entry ([.ref om]) (n := 1) (kk_le rfl)
  rw [lg_entry_eq]
  generalize (lg_sl ([.ref om]) ++ List.replicate (1 - (lg_sl ([.ref om])).length) Slot.unset).toArray = ls at hl ⊢
  have hl : lv_has ls 1 [(0, .ref om)] := hl
  have hiX6 : ∀ w ∈ u_ws RX6 TX6 21, w ∈ wsX6_laysLetters := fun w h => by first | exact List.mem_cons_of_mem _ (List.mem_append_right _ h) | exact List.mem_cons_of_mem _ (List.mem_append_left _ (List.mem_append_right _ h)) | exact List.mem_cons_of_mem _ (List.mem_append_left _ (List.mem_append_left _ (List.mem_append_right _ h))) | exact List.mem_cons_of_mem _ (List.mem_append_left _ (List.mem_append_left _ (List.mem_append_left _ (List.mem_append_right _ h)))) | (revert w h; decide +kernel)
  have lk102 : (Cond.fieldLink RX6 102 "StripeSwipesModel" "letterMany" "I").before _ s = true := hts _ (by decide +kernel)
  have lk92 : (Cond.fieldLink RX6 92 "StripeSwipesModel" "startAt" "I").before _ s = true := hts _ (by decide +kernel)
  refine lv_aload_n hx hb dX6_laysLetters_0 rfl (lv_at hl 0 rfl) ?_
  refine lv_iconst (v := nI 0) hx hb dX6_laysLetters_1 (by decide) ?_
  refine va_put (D := D) (ci := 6) (v := .int (nI 0)) (ty := .int) (C := RX6) (T := TX6) (N := 21) hx hb hts hiX6 tyX6 tyX6_ok nmX6 hown hKv hP hD hS 0 rfl rfl 15 (by decide) lk102 (fun _ h9 => h9) rfl (by decide +kernel) rfl rfl (kk_le rfl) dX6_laysLetters_2 (fun H locs hP hD hS => ?_)
  have hP : va_P D vwCl [(om, .inr (6, [.int thr, .ref a1, .ref a2, .ref a3, .int sv, .ref a4, .ref a5, .ref a6, .int ln, .ref a7, .int bm, .int br, .int ck, .int (-1), .ref a8, .int (nI 0), .int rs, .int at_, .ref a9, .int tm, .long hs])), (a7, .inl (ca 0, 200, .inl fi)), (a8, .inl (ca 0, 40, .inl fe))] H := hP
  have hD : va_D A [(om, .inr (6, [.int thr, .ref a1, .ref a2, .ref a3, .int sv, .ref a4, .ref a5, .ref a6, .int ln, .ref a7, .int bm, .int br, .int ck, .int (-1), .ref a8, .int (nI 0), .int rs, .int at_, .ref a9, .int tm, .long hs])), (a7, .inl (ca 0, 200, .inl fi)), (a8, .inl (ca 0, 40, .inl fe))] := hD
  refine lv_aload_n hx hb dX6_laysLetters_5 rfl (lv_at hl 0 rfl) ?_
  refine va_get (D := D) (ci := 6) (C := RX6) (T := TX6) (N := 21) hx hb hts hiX6 hown hKv hP 0 rfl rfl 13 (by decide) lk92 (fun _ h9 => h9) rfl dX6_laysLetters_6 ?_
  refine lv_iconst (v := (-1)) hx hb dX6_laysLetters_9 (by decide) ?_
  refine lv_icmp_eq (tgt := 78) hx hb dX6_laysLetters_10 (by decide) (fun c1 => ?_) (fun c1 => ?_)
  · exact W.vret hx hb hr (fun t ht hW => ⟨⟨(), rfl, by trivial, by rw [ht]; exact hP, hD⟩, hS.F ht⟩) hS.2.2 dX6_laysLetters_78
  · exact absurd rfl c1
abbrev rm_kX6_reasonBehind : Room := { frames := 2, cells := 0, slots := 0, locals := 43 }
set_option maxHeartbeats 4000000 in
set_option maxRecDepth 100000 in
theorem kX6_reasonBehind (l : Launch) (D : va_G) (ca : Nat → ClassId) (om a1 a2 a3 a4 a5 a6 a7 a8 a9 : Nat) (thr sv ln br ck rs at_ tm : Int32) (hs : Int64) (n st : Nat) (fi : Nat → Int32) (nl9 : Nat) (fe : Nat → Int32) (hn2 : n ≤ 200) (hst : st + 5 ≤ n) (hl40 : nl9 ≤ 40) (h01 : ∀ k, k < n → fi k = nI 0 ∨ fi k = nI 1) : Met l yX6_reasonBehind wsX6_reasonBehind rm_kX6_reasonBehind (pcR D ca [.ref om] [(om, .inr (6, [.int thr, .ref a1, .ref a2, .ref a3, .int sv, .ref a4, .ref a5, .ref a6, .int ln, .ref a7, .int (nI n), .int br, .int ck, .int (nI st), .ref a8, .int (nI nl9), .int rs, .int at_, .ref a9, .int tm, .long hs])), (a7, .inl (ca 0, 200, .inl fi)), (a8, .inl (ca 0, 40, .inl fe))]) (vp_Si (fun zr : Int32 => zr = rsn fi n st nl9 (lst fe nl9))) 0 0 (fun _ => False) := by
  refine Met.ofW (cc := cX6_reasonBehind) (maxL := 4) (ret := (some .int)) (by decide) rfl ?_
  intro p e s m args below meth c s₁ B hml hv
  obtain ⟨rfl, hP, hK⟩ := hv
  have hx := B.exec
  have hb := B.bytes
  have hr := B.returns
  have hts := atoms_spec (ws := wsX6_reasonBehind) B.pre
  have hown : s.vm.findClass RX6 = some m.cls := findClass_of_methodNamed B.named
  have hlocks := B.notSynchronized
  have hKv := hK.1
  have hl := lv_entry ([.ref om]) (n := 4) (kk_le rfl)
  rw [lg_entry_eq]
  generalize (lg_sl ([.ref om]) ++ List.replicate (4 - (lg_sl ([.ref om])).length) Slot.unset).toArray = ls at hl ⊢
  have hl : lv_has ls 4 [(0, .ref om)] := hl
  generalize hQz : MQ below _ _ _ _ _ _ = Qz
  have hiX6 : ∀ w ∈ u_ws RX6 TX6 21, w ∈ wsX6_reasonBehind := fun w h => by first | exact List.mem_cons_of_mem _ (List.mem_append_right _ h) | exact List.mem_cons_of_mem _ (List.mem_append_left _ (List.mem_append_right _ h)) | exact List.mem_cons_of_mem _ (List.mem_append_left _ (List.mem_append_left _ (List.mem_append_right _ h))) | exact List.mem_cons_of_mem _ (List.mem_append_left _ (List.mem_append_left _ (List.mem_append_left _ (List.mem_append_right _ h)))) | (revert w h; decide +kernel)
  have lk102 : (Cond.fieldLink RX6 102 "StripeSwipesModel" "letterMany" "I").before _ s = true := hts _ (by decide +kernel)
  have lk32 : (Cond.fieldLink RX6 32 "StripeSwipesModel" "letters" "[I").before _ s = true := hts _ (by decide +kernel)
  refine lv_aload_n hx hb dX6_reasonBehind_0 rfl (lv_at hl 0 rfl) ?_
  refine va_get (D := D) (ci := 6) (C := RX6) (T := TX6) (N := 21) hx hb hts hiX6 hown hKv hP 0 rfl rfl 15 (by decide) lk102 (fun _ h9 => h9) rfl dX6_reasonBehind_1 ?_
  refine lv_istore_n (lv' := [(1, .int (nI nl9)), (0, .ref om)]) hx hb dX6_reasonBehind_4 rfl hl (by decide) rfl (fun ls hl => ?_)
  refine lv_aload_n hx hb dX6_reasonBehind_5 rfl (lv_at hl 1 rfl) ?_
  refine lv_iload_n hx hb dX6_reasonBehind_6 rfl (lv_at hl 0 rfl) ?_
  refine vp_callSi (va_Run.run (va_runV (As := [.int (nI nl9)]) (rest := []) ⟨hx, hb, hml, hown, hts⟩ (kX6_isThere l D ca om a1 a2 a3 a4 a5 a6 a7 a8 a9 thr sv ln br ck (nI nl9) rs at_ tm hs n st nl9 (by first | rfl | assumption | omega | trivial | (exfalso; omega)) (by first | rfl | assumption | omega | trivial | (exfalso; omega)) (by first | rfl | assumption | omega | trivial | (exfalso; omega))) (cwV 1 hts gX6_reasonBehind_X6_isThere rfl rfl rfl (by decide +kernel) ⟨kk_le rfl, kk_le rfl⟩) (pvR hK (hP.sub (ws' := [(om, .inr (6, [.int thr, .ref a1, .ref a2, .ref a3, .int sv, .ref a4, .ref a5, .ref a6, .int ln, .ref a7, .int (nI n), .int br, .int ck, .int (nI st), .ref a8, .int (nI nl9), .int rs, .int at_, .ref a9, .int tm, .long hs]))]) [0] rfl) (va_recv hKv hP (ci := 6) (q0 := 0) rfl rfl)) rfl rfl hl.1 rfl (lv_room (kk_le rfl)) dX6_reasonBehind_7 ⟨kk_le rfl, kk_le rfl⟩)) (fun r1 hr1 => ?_)
  subst hr1
  refine bi_if_ne (tgt := 15) hx hb dX6_reasonBehind_10 (by decide) (fun c2 => ?_) (fun c2 => ?_)
  · have hth := of_decide_eq_true c2
    refine lv_aload_n hx hb dX6_reasonBehind_15 rfl (lv_at hl 1 rfl) ?_
    refine lv_iload_n hx hb dX6_reasonBehind_16 rfl (lv_at hl 0 rfl) ?_
    refine vp_callSi (va_Run.run (va_runV (As := [.int (nI nl9)]) (rest := []) ⟨hx, hb, hml, hown, hts⟩ (kX6_isOdd l D ca om a1 a2 a3 a4 a5 a6 a7 a8 a9 thr sv ln br ck (nI nl9) rs at_ tm hs n st fi nl9 (by omega) (by first | exact of_decide_eq_true (by assumption) | exact hth) (by exact h01)) (cwV 1 hts gX6_reasonBehind_X6_isOdd rfl rfl rfl (by decide +kernel) ⟨kk_le rfl, kk_le rfl⟩) (pvR hK (hP.sub (ws' := [(om, .inr (6, [.int thr, .ref a1, .ref a2, .ref a3, .int sv, .ref a4, .ref a5, .ref a6, .int ln, .ref a7, .int (nI n), .int br, .int ck, .int (nI st), .ref a8, .int (nI nl9), .int rs, .int at_, .ref a9, .int tm, .long hs])), (a7, .inl (ca 0, 200, .inl fi))]) [0, 1] rfl) (va_recv hKv hP (ci := 6) (q0 := 0) rfl rfl)) rfl rfl hl.1 rfl (lv_room (kk_le rfl)) dX6_reasonBehind_17 ⟨kk_le rfl, kk_le rfl⟩)) (fun r3 hr3 => ?_)
    subst hr3
    refine bi_if_ne (tgt := 25) hx hb dX6_reasonBehind_20 (by decide) (fun c4 => ?_) (fun c4 => ?_)
    · refine lv_aload_n hx hb dX6_reasonBehind_25 rfl (lv_at hl 1 rfl) ?_
      refine lv_iload_n hx hb dX6_reasonBehind_26 rfl (lv_at hl 0 rfl) ?_
      refine lv_iconst (v := nI 1) hx hb dX6_reasonBehind_27 (by decide) ?_
      refine ni_iadd hx hb dX6_reasonBehind_28 ?_
      refine vp_callSi (va_Run.run (va_runV (As := [.int (nI (nl9 + 1))]) (rest := []) ⟨hx, hb, hml, hown, hts⟩ (kX6_isThere l D ca om a1 a2 a3 a4 a5 a6 a7 a8 a9 thr sv ln br ck (nI nl9) rs at_ tm hs n st (nl9 + 1) (by first | rfl | assumption | omega | trivial | (exfalso; omega)) (by first | rfl | assumption | omega | trivial | (exfalso; omega)) (by first | rfl | assumption | omega | trivial | (exfalso; omega))) (cwV 1 hts gX6_reasonBehind_X6_isThere rfl rfl rfl (by decide +kernel) ⟨kk_le rfl, kk_le rfl⟩) (pvR hK (hP.sub (ws' := [(om, .inr (6, [.int thr, .ref a1, .ref a2, .ref a3, .int sv, .ref a4, .ref a5, .ref a6, .int ln, .ref a7, .int (nI n), .int br, .int ck, .int (nI st), .ref a8, .int (nI nl9), .int rs, .int at_, .ref a9, .int tm, .long hs]))]) [0] rfl) (va_recv hKv hP (ci := 6) (q0 := 0) rfl rfl)) rfl rfl hl.1 rfl (lv_room (kk_le rfl)) dX6_reasonBehind_29 ⟨kk_le rfl, kk_le rfl⟩)) (fun r5 hr5 => ?_)
      subst hr5
      refine bi_if_ne (tgt := 37) hx hb dX6_reasonBehind_32 (by decide) (fun c6 => ?_) (fun c6 => ?_)
      · have hth := of_decide_eq_true c6
        refine lv_aload_n hx hb dX6_reasonBehind_37 rfl (lv_at hl 1 rfl) ?_
        refine lv_iload_n hx hb dX6_reasonBehind_38 rfl (lv_at hl 0 rfl) ?_
        refine lv_iconst (v := nI 1) hx hb dX6_reasonBehind_39 (by decide) ?_
        refine ni_iadd hx hb dX6_reasonBehind_40 ?_
        refine vp_callSi (va_Run.run (va_runV (As := [.int (nI (nl9 + 1))]) (rest := []) ⟨hx, hb, hml, hown, hts⟩ (kX6_isOdd l D ca om a1 a2 a3 a4 a5 a6 a7 a8 a9 thr sv ln br ck (nI nl9) rs at_ tm hs n st fi (nl9 + 1) (by omega) (by first | exact of_decide_eq_true (by assumption) | exact hth) (by exact h01)) (cwV 1 hts gX6_reasonBehind_X6_isOdd rfl rfl rfl (by decide +kernel) ⟨kk_le rfl, kk_le rfl⟩) (pvR hK (hP.sub (ws' := [(om, .inr (6, [.int thr, .ref a1, .ref a2, .ref a3, .int sv, .ref a4, .ref a5, .ref a6, .int ln, .ref a7, .int (nI n), .int br, .int ck, .int (nI st), .ref a8, .int (nI nl9), .int rs, .int at_, .ref a9, .int tm, .long hs])), (a7, .inl (ca 0, 200, .inl fi))]) [0, 1] rfl) (va_recv hKv hP (ci := 6) (q0 := 0) rfl rfl)) rfl rfl hl.1 rfl (lv_room (kk_le rfl)) dX6_reasonBehind_41 ⟨kk_le rfl, kk_le rfl⟩)) (fun r7 hr7 => ?_)
        subst hr7
        refine bi_if_ne (tgt := 49) hx hb dX6_reasonBehind_44 (by decide) (fun c8 => ?_) (fun c8 => ?_)
        · refine lv_iconst (v := nI 4) hx hb dX6_reasonBehind_49 (by decide) ?_
          refine lv_aload_n hx hb dX6_reasonBehind_50 rfl (lv_at hl 1 rfl) ?_
          refine lv_iload_n hx hb dX6_reasonBehind_51 rfl (lv_at hl 0 rfl) ?_
          refine lv_iconst (v := nI 1) hx hb dX6_reasonBehind_52 (by decide) ?_
          refine ni_iadd hx hb dX6_reasonBehind_53 ?_
          refine vp_callSi (va_Run.run (va_runV (As := [.int (nI (nl9 + 1))]) (rest := [.int (nI 4)]) ⟨hx, hb, hml, hown, hts⟩ (kX6_number l D ca om a1 a2 a3 a4 a5 a6 a7 a8 a9 thr sv ln br ck (nI nl9) rs at_ tm hs n st fi (nl9 + 1) (by omega) (by first | exact of_decide_eq_true (by assumption) | exact hth) (by exact h01)) (cwV 1 hts gX6_reasonBehind_X6_number rfl rfl rfl (by decide +kernel) ⟨kk_le rfl, kk_le rfl⟩) (pvR hK (hP.sub (ws' := [(om, .inr (6, [.int thr, .ref a1, .ref a2, .ref a3, .int sv, .ref a4, .ref a5, .ref a6, .int ln, .ref a7, .int (nI n), .int br, .int ck, .int (nI st), .ref a8, .int (nI nl9), .int rs, .int at_, .ref a9, .int tm, .long hs])), (a7, .inl (ca 0, 200, .inl fi))]) [0, 1] rfl) (va_recv hKv hP (ci := 6) (q0 := 0) rfl rfl)) rfl rfl hl.1 rfl (lv_room (kk_le rfl)) dX6_reasonBehind_54 ⟨kk_le rfl, kk_le rfl⟩)) (fun r9 hr9 => ?_)
          subst hr9
          refine lv_ixor hx hb dX6_reasonBehind_57 ?_
          refine lv_istore_n (lv' := [(2, .int ((nI 4) ^^^ (numG fi (gp st (nl9 + 1))))), (1, .int (nI nl9)), (0, .ref om)]) hx hb dX6_reasonBehind_58 rfl hl (by decide) rfl (fun ls hl => ?_)
          refine lv_iconst (v := nI 0) hx hb dX6_reasonBehind_59 (by decide) ?_
          refine lv_istore_n (lv' := [(3, .int (nI 0)), (2, .int ((nI 4) ^^^ (numG fi (gp st (nl9 + 1))))), (1, .int (nI nl9)), (0, .ref om)]) hx hb dX6_reasonBehind_60 rfl hl (by decide) rfl (fun ls hl => ?_)
          have lp61_9 : ∀ (k1 : Nat) (i : Nat) (acc : Int32), nl9 - i < k1 → (i ≤ nl9) → (acc = xorL (nI 4 ^^^ numG fi (gp st (nl9 + 1))) (lst fe i)) → ∀ (ls : Array Slot), lv_has ls 4 [(3, .int (nI i)), (2, .int acc), (0, .ref om), (1, .int (nI nl9))] → W p l e rm_kX6_reasonBehind s m ([.ref om] : List Value).toArray below meth c s.heap [] 0 0 Qz (F0 m 61 ls []) := by
            intro k1
            induction k1 with
            | zero => intro i acc hm1; exact absurd hm1 (Nat.not_lt_zero _)
            | succ k1 ih1 =>
              intro i acc hm1 hi ha ls hl
              refine lv_iload_n hx hb dX6_reasonBehind_61 rfl (lv_at hl 0 rfl) ?_
              refine lv_aload_n hx hb dX6_reasonBehind_62 rfl (lv_at hl 2 rfl) ?_
              refine va_get (D := D) (ci := 6) (C := RX6) (T := TX6) (N := 21) hx hb hts hiX6 hown hKv hP 0 rfl rfl 15 (by decide) lk102 (fun _ h9 => h9) rfl dX6_reasonBehind_63 ?_
              refine ni_icmp_ge (tgt := 84) (by omega) (by omega) hx hb dX6_reasonBehind_66 (by decide) (fun c11 => ?_) (fun c11 => ?_)
              · refine lv_iload_n hx hb dX6_reasonBehind_84 rfl (lv_at hl 1 rfl) ?_
                refine lv_if_eq (tgt := 92) hx hb dX6_reasonBehind_85 (by decide) (fun c12 => ?_) (fun c12 => ?_)
                · refine lv_aload_n hx hb dX6_reasonBehind_92 rfl (lv_at hl 2 rfl) ?_
                  refine va_get (D := D) (ci := 6) (C := RX6) (T := TX6) (N := 21) hx hb hts hiX6 hown hKv hP 0 rfl rfl 15 (by decide) lk102 (fun _ h9 => h9) rfl dX6_reasonBehind_93 ?_
                  refine ni_if_ne (tgt := 104) (by omega) hx hb dX6_reasonBehind_96 (by decide) (fun c13 => ?_) (fun c13 => ?_)
                  · refine lv_iconst (v := nI 0) hx hb dX6_reasonBehind_104 (by decide) ?_
                    subst hQz
                    exact W.iret (v := nI 0) hx hb hr (fun t ht _ => ⟨_, rfl, by exact (rsn_g (by assumption) (by assumption) (by assumption) (by assumption) ha (by omega) (by assumption) (by omega)).symm, ht⟩) (fun _ h => nomatch h) dX6_reasonBehind_105
                  · refine lv_bipush (v := nI 6) hx hb dX6_reasonBehind_99 (by decide) ?_
                    refine lv_goto (tgt := 105) hx hb dX6_reasonBehind_101 (by decide) ?_
                    subst hQz
                    exact W.iret (v := nI 6) hx hb hr (fun t ht _ => ⟨_, rfl, by exact (rsn_f (by assumption) (by assumption) (by assumption) (by assumption) ha (by omega) (by assumption) (by omega)).symm, ht⟩) (fun _ h => nomatch h) dX6_reasonBehind_105
                · refine lv_iconst (v := nI 4) hx hb dX6_reasonBehind_88 (by decide) ?_
                  refine lv_goto (tgt := 105) hx hb dX6_reasonBehind_89 (by decide) ?_
                  subst hQz
                  exact W.iret (v := nI 4) hx hb hr (fun t ht _ => ⟨_, rfl, by exact (rsn_e (by assumption) (by assumption) (by assumption) (by assumption) ha (by omega) (by assumption)).symm, ht⟩) (fun _ h => nomatch h) dX6_reasonBehind_105
              · refine lv_iload_n hx hb dX6_reasonBehind_69 rfl (lv_at hl 1 rfl) ?_
                refine lv_aload_n hx hb dX6_reasonBehind_70 rfl (lv_at hl 2 rfl) ?_
                refine va_get (D := D) (ci := 6) (C := RX6) (T := TX6) (N := 21) hx hb hts hiX6 hown hKv hP 0 rfl rfl 14 (by decide) lk32 (fun _ h9 => h9) rfl dX6_reasonBehind_71 ?_
                refine lv_iload_n hx hb dX6_reasonBehind_74 rfl (lv_at hl 0 rfl) ?_
                refine my_iald hx hb hK hP 2 rfl (by omega) (by omega) dX6_reasonBehind_75 ?_
                refine lv_ixor hx hb dX6_reasonBehind_76 ?_
                refine lv_istore_n (lv' := [(2, .int (acc ^^^ (fe i))), (3, .int (nI i)), (0, .ref om), (1, .int (nI nl9))]) hx hb dX6_reasonBehind_77 rfl hl (by decide) rfl (fun ls hl => ?_)
                refine lv_iinc (v := nI (i + 1)) (lv' := [(3, .int (nI (i + 1))), (2, .int (acc ^^^ (fe i))), (0, .ref om), (1, .int (nI nl9))]) hx hb dX6_reasonBehind_78 hl (k := 1) rfl (ni_inc _ _ (by decide)) (by decide) rfl (fun ls hl => ?_)
                refine lv_goto (tgt := 61) hx hb dX6_reasonBehind_81 (by decide) ?_
                exact ih1 (i + 1) (acc ^^^ (fe i)) (by omega) (by omega) (by rw [ha, lst_succ, xorL_app]) ls (lv_sub hl [0, 1, 2, 3] rfl)
          exact lp61_9 ((nl9 - 0) + 1) 0 ((nI 4) ^^^ (numG fi (gp st (nl9 + 1)))) (by omega) (by omega) (by rfl) ls (lv_sub hl [0, 1, 3, 2] rfl)
        · refine lv_iconst (v := nI 2) hx hb dX6_reasonBehind_47 (by decide) ?_
          subst hQz
          exact W.iret (v := nI 2) hx hb hr (fun t ht _ => ⟨_, rfl, by first | exact (rsn_b (by assumption) (by assumption)).symm | exact (rsn_d (by assumption) (by assumption) (by assumption) (by assumption)).symm, ht⟩) (fun _ h => nomatch h) dX6_reasonBehind_48
      · refine lv_iconst (v := nI 3) hx hb dX6_reasonBehind_35 (by decide) ?_
        subst hQz
        exact W.iret (v := nI 3) hx hb hr (fun t ht _ => ⟨_, rfl, by first | exact (rsn_a (by assumption)).symm | exact (rsn_c (by assumption) (by assumption) (by assumption)).symm, ht⟩) (fun _ h => nomatch h) dX6_reasonBehind_36
    · refine lv_iconst (v := nI 2) hx hb dX6_reasonBehind_23 (by decide) ?_
      subst hQz
      exact W.iret (v := nI 2) hx hb hr (fun t ht _ => ⟨_, rfl, by first | exact (rsn_b (by assumption) (by assumption)).symm | exact (rsn_d (by assumption) (by assumption) (by assumption) (by assumption)).symm, ht⟩) (fun _ h => nomatch h) dX6_reasonBehind_24
  · refine lv_iconst (v := nI 3) hx hb dX6_reasonBehind_13 (by decide) ?_
    subst hQz
    exact W.iret (v := nI 3) hx hb hr (fun t ht _ => ⟨_, rfl, by first | exact (rsn_a (by assumption)).symm | exact (rsn_c (by assumption) (by assumption) (by assumption)).symm, ht⟩) (fun _ h => nomatch h) dX6_reasonBehind_14
