def inF (v lo hi : Int32) : Bool := !(decide (v < lo)) && !(decide (hi < v))
theorem inF_lo {v lo hi : Int32} (h : v < lo) : inF v lo hi = false := by simp [inF, h]
theorem inF_hi {v lo hi : Int32} (h : hi < v) : inF v lo hi = false := by simp [inF, h]
theorem inF_in {v lo hi : Int32} (h : ¬ v < lo) (h2 : ¬ hi < v) : inF v lo hi = true := by simp only [inF, h, h2, decide_false]; rfl
theorem inF_iff {v lo hi : Int32} : inF v lo hi = true ↔ ¬ v < lo ∧ ¬ hi < v := by
  constructor
  · intro h
    simp only [inF, Bool.and_eq_true, Bool.not_eq_true', decide_eq_false_iff_not] at h
    exact h
  · exact fun h => inF_in h.1 h.2
theorem cpF_lo {α : Type} (g2 g : Nat → α) {i k : Nat} (h : k < i) : cpF g2 g i k = g2 k := if_pos h
theorem bf_01 {B : IL} (h : is01 B) (k : Nat) : bf B k = nI 0 ∨ bf B k = nI 1 := by
  by_cases hk : k < B.length
  · have : bf B k = B[k] := by simp [bf, List.getD, hk]
    rw [this]; exact h _ (List.getElem_mem hk)
  · exact Or.inl (by simp [bf, List.getD, hk]; rfl)
theorem rdT_len (r f : Int32) (F : Nat → Int32) (n : Nat) : (bitsT r f (lst F n)).length ≤ n := by
  have := rdB_len r f (lst F n) (fclk (lst F n))
  rw [lst_len] at this
  exact this
theorem lr_sa (fi : Nat → Int32) (B : IL) : stI (apF fi 0 B) B.length = stB B := stI_congr fun k hk => apF_in fi B hk
theorem stB_cases (B : IL) : (stB B = -1 ∧ True) ∨ (stB B = nI (stN (bf B) B.length) ∧ stN (bf B) B.length + 5 ≤ B.length) := by
  rcases stI_cases (bf B) B.length with h | h
  · exact Or.inl ⟨h.1, trivial⟩
  · exact Or.inr ⟨h.1, h.2.2⟩
theorem ltN_40 {f : Nat → Int32} {n st : Nat} (h : n ≤ 200) : ltN f n st ≤ 40 := by
  rcases Nat.eq_zero_or_pos (ltN f n st) with q | q
  · omega
  · have := okG_len (ltN_ok (f := f) (n := n) (st := st) (j := ltN f n st - 1) (by omega))
    unfold gp at this; omega
theorem ltB_len (B : IL) (h : B.length ≤ 200) : (ltB B).length ≤ 40 := by
  by_cases h1 : stB B = -1
  · rw [ltB_none h1]; simp
  · rw [ltB_some h1, ltL_len]; exact ltN_40 h
theorem lr_01 (fi : Nat → Int32) {B : IL} (h : is01 B) : ∀ k, k < B.length → apF fi 0 B k = nI 0 ∨ apF fi 0 B k = nI 1 := fun k hk => by
  rw [apF_in fi B hk]; exact bf_01 h k
theorem lr_ne {B : IL} {st : Nat} (h : stB B = nI st) (h5 : st + 5 ≤ B.length) (hb : B.length ≤ 200) : ¬ stB B = -1 := by rw [h]; exact ni_m1 (by omega)
theorem lr_lm0 {B : IL} (h : stB B = -1) : nI 0 = nI (ltB B).length := by rw [ltB_none h]; rfl
theorem lr_le0 (fe : Nat → Int32) {B : IL} (h : stB B = -1) : fe = apF fe 0 (ltB B) := by rw [ltB_none h, apF_0]
theorem lr_lm (fi : Nat → Int32) {B : IL} (h : stB B = nI (stN (bf B) B.length)) (h5 : stN (bf B) B.length + 5 ≤ B.length) (hb : B.length ≤ 200) : nI (ltN (apF fi 0 B) B.length (stN (bf B) B.length)) = nI (ltB B).length := by
  rw [ltB_some (lr_ne h h5 hb), ltL_len, ltN_congr (f2 := bf B) (fun k hk => apF_in fi B hk)]
theorem lr_le (fi fe : Nat → Int32) {B : IL} (h : stB B = nI (stN (bf B) B.length)) (h5 : stN (bf B) B.length + 5 ≤ B.length) (hb : B.length ≤ 200) : apF fe 0 (ltL (apF fi 0 B) B.length (stN (bf B) B.length)) = apF fe 0 (ltB B) := by
  rw [ltB_some (lr_ne h h5 hb), ltL_congr (f2 := bf B) (fun k hk => apF_in fi B hk)]
theorem lr_r5 {r f : Int32} {t : IL} (h : (!(rdT r f t).2.2) = true) : rsT r f t = nI 5 := by
  unfold rsT rsB; rw [if_pos (by simpa using h)]
theorem lr_ok {r f : Int32} {t : IL} (h : (!(rdT r f t).2.2) = false) : ¬ (rdT r f t).2.2 = false := by simp at h; rw [h]; decide
theorem lr_r1 {r f : Int32} {t : IL} (h : (!(rdT r f t).2.2) = false) (h2 : stB (bitsT r f t) = -1) : rsT r f t = nI 1 := by
  unfold rsT rsB; rw [if_neg (lr_ok h), if_pos h2]
theorem lr_rs (fi fe : Nat → Int32) {r f : Int32} {t : IL} (h : (!(rdT r f t).2.2) = false) (h0 : stB (bitsT r f t) = nI (stN (bf (bitsT r f t)) (bitsT r f t).length)) (h5 : stN (bf (bitsT r f t)) (bitsT r f t).length + 5 ≤ (bitsT r f t).length) (hb : (bitsT r f t).length ≤ 200) :
    rsn (apF fi 0 (bitsT r f t)) (bitsT r f t).length (stN (bf (bitsT r f t)) (bitsT r f t).length) (ltB (bitsT r f t)).length (lst (apF fe 0 (ltB (bitsT r f t))) (ltB (bitsT r f t)).length) = rsT r f t := by
  unfold rsT rsB
  rw [if_neg (lr_ok h), if_neg (lr_ne h0 h5 hb), apF_lst, rsn_congr (f2 := bf (bitsT r f t)) (fun k hk => apF_in fi _ hk)]
theorem rt_1 {r f : Int32} {gt gl : Nat → Int32} {nt nl : Nat} (h : cardT r f (lst (twF false gt nt) nt) (lst gl nl) = true) : nI 1 = rightT r f (lst gt nt) (lst gl nl) := by
  rw [twF_lst] at h
  have h' : cardT r f (lst gt nt) (lst gl nl) = true := h
  unfold rightT; rw [if_pos h']
theorem rt_2 {r f : Int32} {gt gl : Nat → Int32} {nt nl : Nat} (h : cardT r f (lst (twF false gt nt) nt) (lst gl nl) = false) (h2 : cardT r f (lst (twF true gt nt) nt) (lst gl nl) = true) : nI 2 = rightT r f (lst gt nt) (lst gl nl) := by
  rw [twF_lst] at h h2
  have h' : cardT r f (lst gt nt) (lst gl nl) = false := h
  have h2' : cardT r f (lst gt nt).reverse (lst gl nl) = true := h2
  unfold rightT; rw [if_neg (by rw [h']; decide), if_pos h2']
theorem rt_0 {r f : Int32} {gt gl : Nat → Int32} {nt nl : Nat} (h : cardT r f (lst (twF false gt nt) nt) (lst gl nl) = false) (h2 : cardT r f (lst (twF true gt nt) nt) (lst gl nl) = false) : nI 0 = rightT r f (lst gt nt) (lst gl nl) := by
  rw [twF_lst] at h h2
  have h' : cardT r f (lst gt nt) (lst gl nl) = false := h
  have h2' : cardT r f (lst gt nt).reverse (lst gl nl) = false := h2
  unfold rightT; rw [if_neg (by rw [h']; decide), if_neg (by rw [h2']; decide)]
theorem tw_false (gt : Nat → Int32) (nt : Nat) : lst (twF false gt nt) nt = lst gt nt := twF_lst false gt nt
theorem rs2_st {r f : Int32} {t : IL} (h : rsT r f t = nI 2) : stB (bitsT r f t) = nI (stN (bf (bitsT r f t)) (bitsT r f t).length) ∧ stN (bf (bitsT r f t)) (bitsT r f t).length + 5 ≤ (bitsT r f t).length := by
  rcases stB_cases (bitsT r f t) with q | q
  · exfalso
    unfold rsT rsB at h
    by_cases h1 : (rdT r f t).2.2 = false
    · rw [if_pos h1] at h; exact absurd h (by decide)
    · rw [if_neg h1, if_pos q.1] at h; exact absurd h (by decide)
  · exact q
theorem goG_congr {f f2 : Nat → Int32} {n st j : Nat} (h : ∀ k, k < n → f k = f2 k) : goG f n st j = goG f2 n st j := by
  unfold goG
  by_cases h1 : gp st j + 5 ≤ n
  · rw [numG_congr (f2 := f2) (fun k hk => h _ (by omega)), oddG_congr (f2 := f2) (fun k hk => h _ (by omega))]
  · simp [h1]
theorem gN_congr {f f2 : Nat → Int32} {n st : Nat} (h : ∀ k, k < n → f k = f2 k) : gN f n st = gN f2 n st := stopAt_congr fun j _ _ => goG_congr h
theorem wrS_congr {f f2 : Nat → Int32} {n st : Nat} (h : ∀ k, k < n → f k = f2 k) : ∀ {i : Nat}, (∀ j, j < i → gp st j + 5 ≤ n) → wrS f st i = wrS f2 st i
  | 0, _ => rfl
  | i + 1, hi => by
    have := hi i (Nat.lt_succ_self i)
    have ih := wrS_congr h (i := i) (fun j hj => hi j (by omega))
    simp only [wrS]
    rw [ih, oddG_congr (p := gp st i) (f2 := f2) (fun k hk => h _ (by omega))]
theorem yS_congr {f f2 : Nat → Int32} {n st wr : Nat} (h : ∀ k, k < n → f k = f2 k) : ∀ {i : Nat}, (∀ j, j < i → gp st j + 5 ≤ n) → yS f st wr i = yS f2 st wr i
  | 0, _ => rfl
  | i + 1, hi => by
    have := hi i (Nat.lt_succ_self i)
    have ih := yS_congr (wr := wr) h (i := i) (fun j hj => hi j (by omega))
    simp only [yS]
    rw [ih, numG_congr (p := gp st i) (f2 := f2) (fun k hk => h _ (by omega))]
theorem goG_len {f : Nat → Int32} {n st j : Nat} (h : goG f n st j = true) : gp st j + 5 ≤ n := by
  unfold goG at h; simp only [Bool.and_eq_true, decide_eq_true_eq] at h; exact h.1
theorem gN_go {f : Nat → Int32} {n st j : Nat} (h : j < gN f n st) : goG f n st j = true := stopAt_yes (Nat.zero_le _) h
theorem rpP_congr {f f2 : Nat → Int32} {rs : Int32} {n st : Nat} (h : ∀ k, k < n → f k = f2 k) : rpP rs f n st = rpP rs f2 n st := by
  unfold rpP
  rw [gN_congr h, wrS_congr h (fun j hj => goG_len (by rw [goG_congr h]; exact gN_go hj))]
  by_cases h1 : gp st (gN f2 n st + 1) + 5 ≤ n
  · rw [oddG_congr (p := gp st (gN f2 n st + 1)) (f2 := f2) (fun k hk => h _ (by omega))]
  · simp [h1]
/-- the place of the letter that can be put right; its number -/
def rpPT (r f : Int32) (t : IL) : Int32 := if stB (bitsT r f t) = -1 then -1 else rpP (rsT r f t) (bf (bitsT r f t)) (bitsT r f t).length (stN (bf (bitsT r f t)) (bitsT r f t).length)
def repT (r f : Int32) (t : IL) (w : Nat) : Int32 := if w = 0 ∨ rpPT r f t = -1 then rpPT r f t else
  rpN (bf (bitsT r f t)) (stN (bf (bitsT r f t)) (bitsT r f t).length) (gN (bf (bitsT r f t)) (bitsT r f t).length (stN (bf (bitsT r f t)) (bitsT r f t).length)) (rpPT r f t).toNatClampNeg
theorem repT_m1 {r f : Int32} {t : IL} {w : Nat} (h : rpPT r f t = -1) : repT r f t w = -1 := by unfold repT; rw [if_pos (Or.inr h), h]
theorem rep_a {r f : Int32} {gt : Nat → Int32} {nt w : Nat} (h : ¬ rsT r f (lst (twF false gt nt) nt) = nI 2) : repT r f (lst gt nt) w = -1 := by
  rw [tw_false] at h
  refine repT_m1 ?_
  unfold rpPT
  split
  · rfl
  · exact rp_reason h
theorem rpPT_eq {r f : Int32} {t : IL} (fi : Nat → Int32) (hrs : rsT r f t = nI 2) (hs0 : stB (bitsT r f t) = nI (stN (bf (bitsT r f t)) (bitsT r f t).length)) (hs5 : stN (bf (bitsT r f t)) (bitsT r f t).length + 5 ≤ (bitsT r f t).length) (hb : (bitsT r f t).length ≤ 200) :
    rpPT r f t = rpP (nI 2) (apF fi 0 (bitsT r f t)) (bitsT r f t).length (stN (bf (bitsT r f t)) (bitsT r f t).length) := by
  unfold rpPT
  rw [if_neg (lr_ne hs0 hs5 hb), hrs]
  exact rpP_congr fun k hk => (apF_in fi _ hk).symm
/-- the ratios that would do, of the first i from 50 on -/
def GLr (f : Int32) (t l : IL) : Nat → IL
  | 0 => []
  | i + 1 => if rightT (nI (50 + i)) f t l ≤ 0 then GLr f t l i else GLr f t l i ++ [nI (50 + i)]
def tolR (w : Nat) (l : IL) : Int32 := if w = 0 then l.headD (-1) else if w = 1 then l.getLastD (-1) else nI l.length
theorem GLr_y {f : Int32} {t l : IL} {q i : Nat} (hq : q = 50 + i) (h : ¬ rightT (nI q) f t l ≤ 0) : GLr f t l (i + 1) = GLr f t l i ++ [nI q] := by subst hq; simp only [GLr]; rw [if_neg h]
/-- the greatest jerk below q with which the card would be read -/
def jkS (r f : Int32) (S l : IL) : Nat → Int32
  | 0 => -1
  | q + 1 => if cardT r f (passL (nI q) 0 S) l = true then nI q else jkS r f S l q
def jkT (z : Nat) (r f : Int32) (l : IL) : Int32 := if l.length = 0 then -1 else if 200 < (strp z l).length + onesN (strp z l) then -1 else jkS r f (strp z l) l 41
def tolO (w : Nat) (t : IL) : Int32 := if w = 1 then sumL t else if w = 2 then minL t else maxL t
def cntT (w : Nat) (t l : IL) (sv : Nat) : Int32 := if w = 0 then nI t.length else if w = 1 then sumL t else if w = 2 then minL t else if w = 3 then maxL t else if w = 4 then nI l.length else if w = 5 then (if l.length = 0 then -1 else chkL l) else nI sv
theorem ct_0 (g : Nat → Int32) (nt : Nat) (l : IL) (sv : Nat) : nI nt = cntT 0 (lst g nt) l sv := by show _ = nI _; rw [lst_len]
theorem ct_4 (g : Nat → Int32) (nl : Nat) (t : IL) (sv : Nat) : nI nl = cntT 4 t (lst g nl) sv := by show _ = nI _; rw [lst_len]
theorem ct_50 {t : IL} (g : Nat → Int32) {nl sv : Nat} (h : nl = 0) : -1 = cntT 5 t (lst g nl) sv := by show _ = (if (lst g nl).length = 0 then (-1 : Int32) else chkL (lst g nl)); rw [if_pos (by rw [lst_len]; exact h)]
theorem ct_5 {t : IL} (g : Nat → Int32) {nl sv : Nat} (h : 0 < nl) : chkL (lst g nl) = cntT 5 t (lst g nl) sv := by show _ = (if (lst g nl).length = 0 then (-1 : Int32) else chkL (lst g nl)); rw [if_neg (by rw [lst_len]; omega)]
/-- how many are less than a bound -/
def ltC (lim : Int32) (l : IL) : Nat := (l.filter (fun x => decide (x < lim))).length
theorem lc_1 {g : Nat → Int32} {i cn : Nat} {lim : Int32} (h : cn = ltC lim (lst g i)) (hc : ¬ lim ≤ g i) : cn + 1 = ltC lim (lst g (i + 1)) := by
  rw [h, lst_succ]; simp [ltC, List.filter_append, Int32.not_le.mp hc]
theorem lc_0 {g : Nat → Int32} {i cn : Nat} {lim : Int32} (h : cn = ltC lim (lst g i)) (hc : lim ≤ g i) : cn + 0 = ltC lim (lst g (i + 1)) := by
  rw [h, lst_succ]; simp [ltC, List.filter_append, Int32.not_lt.mpr hc]
def shT (r : Int32) (t : IL) : UInt64 := if t.length = 0 then FP.dconst0 else FP.ddiv (FP.i2d (nI (ltC (sumL t / nI t.length * r / nI 100) t))) (FP.i2d (nI t.length))
theorem sh_0 (r : Int32) (g : Nat → Int32) {n : Nat} (h : n = 0) : FP.dconst0 = shT r (lst g n) := by unfold shT; rw [if_pos (by rw [lst_len]; exact h)]
theorem sh_n {r : Int32} {g : Nat → Int32} {n i cn : Nat} (hi : i = n) (h : 0 < n) (hc : cn = ltC (tolO 1 (lst g n) / nI n * r / nI 100) (lst g i)) : FP.ddiv (FP.i2d (nI cn)) (FP.i2d (nI n)) = shT r (lst g n) := by
  subst hi; unfold shT; rw [if_neg (by rw [lst_len]; omega), lst_len, hc]; rfl
def hashF (f : Nat → Int32) : Nat → Int64 → Int64
  | 0, h => h
  | k + 1, h => 31 * hashF f k h + (f k).toInt64
def hashL (l : IL) (h : Int64) : Int64 := hashF (bf l) l.length h
def hashR (r f : Int32) (t : IL) (h : Int64) : Int64 := hashL (ltB (bitsT r f t)) (hashL (bitsT r f t) (hashF (fun k => tolF k (rsT r f t) (nI (bitsT r f t).length) (stB (bitsT r f t)) (nI (ltB (bitsT r f t)).length) (clkT r f t)) 5 h))
def shOk (n : Nat) : Bool := (List.range (n + 1)).all fun a => decide (FP.ddiv (FP.i2d (nI a)) (FP.i2d (nI n)) &&& 0x7fffffffffffffff ≤ 0x7ff0000000000000)
def shOks (lo k : Nat) : Bool := (List.range k).all fun i => shOk (lo + i)
theorem shOk_of {lo k n : Nat} (h : shOks lo k = true) (h1 : lo ≤ n) (h2 : n < lo + k) : shOk n = true := by
  have h3 := List.all_eq_true.mp h (n - lo) (List.mem_range.mpr (by omega))
  rw [show lo + (n - lo) = n by omega] at h3; exact h3
set_option maxRecDepth 100000 in
theorem shT0 : shOks 1 60 = true := by decide +kernel
set_option maxRecDepth 100000 in
theorem shT1 : shOks 61 40 = true := by decide +kernel
set_option maxRecDepth 100000 in
theorem shT2 : shOks 101 30 = true := by decide +kernel
set_option maxRecDepth 100000 in
theorem shT3 : shOks 131 25 = true := by decide +kernel
set_option maxRecDepth 100000 in
theorem shT4 : shOks 156 25 = true := by decide +kernel
set_option maxRecDepth 100000 in
theorem shT5 : shOks 181 20 = true := by decide +kernel
theorem sh_nn {a n : Nat} (h0 : 0 < n) (h : a ≤ n) (h2 : n ≤ 200) : vf_n64 (FP.ddiv (FP.i2d (nI a)) (FP.i2d (nI n))) := by
  have h3 : shOk n = true := by
    rcases (show n < 61 ∨ (61 ≤ n ∧ n < 101) ∨ (101 ≤ n ∧ n < 131) ∨ (131 ≤ n ∧ n < 156) ∨ (156 ≤ n ∧ n < 181) ∨ 181 ≤ n by omega) with q | q | q | q | q | q
    · exact shOk_of shT0 (by omega) (by omega)
    · exact shOk_of shT1 (by omega) (by omega)
    · exact shOk_of shT2 (by omega) (by omega)
    · exact shOk_of shT3 (by omega) (by omega)
    · exact shOk_of shT4 (by omega) (by omega)
    · exact shOk_of shT5 (by omega) (by omega)
  have h4 := List.all_eq_true.mp h3 a (List.mem_range.mpr (by omega))
  unfold vf_n64; exact of_decide_eq_true h4
/-- the letter of a character's code, or -1 -/
def lcode (v : Int32) : Int32 := if inF v (nI 48) (nI 57) = true then v - nI 48 else if v = nI 97 then nI 10 else if v = nI 99 then nI 12 else if v = nI 61 then nI 13 else if v = nI 101 then nI 14 else -1
def okC (fb : Nat → Int32) (ln j : Nat) : Bool := decide (j < ln) && !(decide (lcode (fb j) = -1))
def erN (fb : Nat → Int32) (ln : Nat) : Nat := stopAt (okC fb ln) 20 0
def lcL (fb : Nat → Int32) (n : Nat) : IL := lst (fun k => lcode (fb k)) n
theorem okC_t {fb : Nat → Int32} {ln j : Nat} (h : j < ln) (h2 : ¬ lcode (fb j) = -1) : okC fb ln j = true := by unfold okC; rw [decide_eq_true h, decide_eq_false h2]; rfl
theorem okC_a {fb : Nat → Int32} {ln j : Nat} (h : ¬ j < ln) : okC fb ln j = false := by unfold okC; rw [decide_eq_false h]; rfl
theorem okC_b {fb : Nat → Int32} {ln j : Nat} (h2 : lcode (fb j) = -1) : okC fb ln j = false := by unfold okC; rw [decide_eq_true h2]; simp
theorem er_end {fb : Nat → Int32} {ln i : Nat} (hok : ∀ j, j < i → okC fb ln j = true) (h : i < 20 → okC fb ln i = false) (hi : i ≤ 20) : erN fb ln = i := stopAt_eq (Nat.zero_le _) (by omega) (fun j _ h2 => hok j h2) (fun h2 => h (by omega))
theorem erN_le (fb : Nat → Int32) (ln : Nat) (h : ln ≤ 40) : erN fb ln ≤ ln ∧ erN fb ln ≤ 20 := by
  have hb : ∀ {P : Nat → Bool} (k i : Nat), stopAt P k i ≤ i + k := by
    intro P k
    induction k with
    | zero => intro i; exact Nat.le_refl _
    | succ k ih =>
      intro i
      have := ih (i + 1)
      simp only [stopAt]; split <;> omega
  refine ⟨?_, by have := @hb (okC fb ln) 20 0; simp only [erN]; omega⟩
  apply Nat.le_of_not_lt
  intro h2
  have := stopAt_yes (P := okC fb ln) (k := 20) (i := 0) (j := ln) (Nat.zero_le _) h2
  rw [okC_a (Nat.lt_irrefl _)] at this; exact absurd this (by decide)
theorem gd_in (g : Nat → Int32) (L : IL) {q : Nat} (h : q < L.length) : apF g 0 L q = L.getD q (-1) := by
  rw [apF_in g L h, List.getD_eq_getElem?_getD, List.getD_eq_getElem?_getD, List.getElem?_eq_getElem h]; rfl
theorem gd_out (L : IL) {q : Nat} (h : L.length ≤ q) : (-1 : Int32) = L.getD q (-1) := by
  rw [List.getD_eq_getElem?_getD, List.getElem?_eq_none h]; rfl
def joF (g : Nat → Int32) (nt p i : Nat) : Nat → Int32 := remL (upd g p (g p + g (p + 1))) (p + 1) i
/-- the times behind a place one place later, from the last on -/
def shR (g : Nat → Int32) (nt i : Nat) : Nat → Int32 := fun k => if i < k ∧ k ≤ nt then g (k - 1) else g k
def scF (g : Nat → Int32) (nt p : Nat) (v : Int32) : Nat → Int32 := upd (upd (shR g nt (p + 1)) (p + 1) (g p - v)) p v
def okSet (w : Nat) (v : Int32) : Bool := if w = 0 then inF v (nI 5) (nI 30) else if w = 1 then inF v (nI 50) (nI 95) else if w = 2 then inF v (nI 0) (nI 100) else inF v (nI 0) (nI 40)
