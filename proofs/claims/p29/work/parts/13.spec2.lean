/-! the start, the letters, the reason, the repair -/
def w5 (l : IL) : Int32 := l.foldl (fun a b => ((a <<< (nI 1 &&& 31)) ||| b) &&& nI 31) (nI 0)
theorem w5_app (l : IL) (b : Int32) : w5 (l ++ [b]) = ((w5 l <<< (nI 1 &&& 31)) ||| b) &&& nI 31 := by simp [w5]
theorem w5_lt (l : IL) : ∃ v : Fin 32, w5 l = nI v.val := by
  rcases List.eq_nil_or_concat l with h | ⟨l', b, h⟩
  · subst h; exact ⟨⟨0, by decide⟩, rfl⟩
  · rw [h, List.concat_eq_append, w5_app]
    obtain ⟨j, hj, e⟩ := pk_andE ((w5 l' <<< (nI 1 &&& 31)) ||| b) (m := nI 31) 5 (by decide)
    exact ⟨⟨j, hj⟩, e⟩
set_option maxRecDepth 100000 in
theorem w5_tab : ∀ v : Fin 32, ∀ b1 b2 b3 b4 b5 : Fin 2, [nI b1.val, nI b2.val, nI b3.val, nI b4.val, nI b5.val].foldl (fun a b => ((a <<< (nI 1 &&& 31)) ||| b) &&& nI 31) (nI v.val) = nI (16 * b1.val + 8 * b2.val + 4 * b3.val + 2 * b4.val + b5.val) := by decide +kernel
theorem f2_of {b : Int32} (h : b = nI 0 ∨ b = nI 1) : ∃ v : Fin 2, b = nI v.val := by
  rcases h with h | h
  · exact ⟨0, h⟩
  · exact ⟨1, h⟩
theorem w5_five (l : IL) {b1 b2 b3 b4 b5 : Int32} (h1 : b1 = nI 0 ∨ b1 = nI 1) (h2 : b2 = nI 0 ∨ b2 = nI 1) (h3 : b3 = nI 0 ∨ b3 = nI 1) (h4 : b4 = nI 0 ∨ b4 = nI 1) (h5 : b5 = nI 0 ∨ b5 = nI 1) :
    w5 (l ++ [b1, b2, b3, b4, b5]) = nI 26 ↔ b1 = nI 1 ∧ b2 = nI 1 ∧ b3 = nI 0 ∧ b4 = nI 1 ∧ b5 = nI 0 := by
  obtain ⟨v, hv⟩ := w5_lt l
  obtain ⟨c1, rfl⟩ := f2_of h1
  obtain ⟨c2, rfl⟩ := f2_of h2
  obtain ⟨c3, rfl⟩ := f2_of h3
  obtain ⟨c4, rfl⟩ := f2_of h4
  obtain ⟨c5, rfl⟩ := f2_of h5
  have e : w5 (l ++ [nI c1.val, nI c2.val, nI c3.val, nI c4.val, nI c5.val]) = nI (16 * c1.val + 8 * c2.val + 4 * c3.val + 2 * c4.val + c5.val) := by
    have := w5_tab v c1 c2 c3 c4 c5
    rw [← hv] at this
    rw [← this]
    unfold w5
    rw [List.foldl_append]
  rw [e, ni_eq (by omega) (by omega), ni_eq (by omega) (by omega), ni_eq (by omega) (by omega), ni_eq (by omega) (by omega), ni_eq (by omega) (by omega), ni_eq (by omega) (by omega)]
  omega
def okSt (f : Nat → Int32) (n p : Nat) : Bool := decide (p + 5 ≤ n) && decide (f p = nI 1 ∧ f (p + 1) = nI 1 ∧ f (p + 2) = nI 0 ∧ f (p + 3) = nI 1 ∧ f (p + 4) = nI 0)
def stN (f : Nat → Int32) (n : Nat) : Nat := stopAt (fun p => !(okSt f n p)) n 0
def stI (f : Nat → Int32) (n : Nat) : Int32 := if stN f n < n then nI (stN f n) else -1
theorem okSt_congr {f f2 : Nat → Int32} {n p : Nat} (h : ∀ k, k < n → f k = f2 k) : okSt f n p = okSt f2 n p := by
  unfold okSt
  by_cases h1 : p + 5 ≤ n
  · rw [h p (by omega), h (p + 1) (by omega), h (p + 2) (by omega), h (p + 3) (by omega), h (p + 4) (by omega)]
  · simp [h1]
theorem stN_congr {f f2 : Nat → Int32} {n : Nat} (h : ∀ k, k < n → f k = f2 k) : stN f n = stN f2 n := stopAt_congr fun j _ _ => by rw [okSt_congr h]
theorem stI_congr {f f2 : Nat → Int32} {n : Nat} (h : ∀ k, k < n → f k = f2 k) : stI f n = stI f2 n := by unfold stI; rw [stN_congr h]
theorem okSt_len {f : Nat → Int32} {n p : Nat} (h : okSt f n p = true) : p + 5 ≤ n := by
  unfold okSt at h; simp only [Bool.and_eq_true, decide_eq_true_eq] at h; exact h.1
theorem stN_yes {f : Nat → Int32} {n p : Nat} (h : okSt f n p = true) (hno : ∀ q, q < p → okSt f n q = false) : stN f n = p :=
  stopAt_eq (Nat.zero_le _) (by have := okSt_len h; omega) (fun j _ hj => by rw [hno j hj]; rfl) (fun _ => by rw [h]; rfl)
theorem stI_yes {f : Nat → Int32} {n p : Nat} (h : okSt f n p = true) (hno : ∀ q, q < p → okSt f n q = false) : stI f n = nI p := by
  unfold stI; rw [stN_yes h hno, if_pos (by have := okSt_len h; omega)]
theorem stI_none {f : Nat → Int32} {n : Nat} (hno : ∀ q, okSt f n q = false) : stI f n = -1 := by
  unfold stI
  rw [show stN f n = n from stopAt_eq (Nat.zero_le _) (by omega) (fun j _ _ => by rw [hno j]; rfl) (fun h => absurd h (by omega)), if_neg (by omega)]
theorem stI_cases (f : Nat → Int32) (n : Nat) : (stI f n = -1 ∧ ∀ q, okSt f n q = false) ∨ (stI f n = nI (stN f n) ∧ okSt f n (stN f n) = true ∧ stN f n + 5 ≤ n) := by
  by_cases h : stN f n < n
  · have h1 := stopAt_no (P := fun p => !(okSt f n p)) (k := n) (i := 0) (by unfold stN at h; omega)
    simp only [Bool.not_eq_false'] at h1
    exact Or.inr ⟨by unfold stI; rw [if_pos h], h1, okSt_len h1⟩
  · refine Or.inl ⟨by unfold stI; rw [if_neg h], fun q => ?_⟩
    by_cases hq : q < n
    · have := stopAt_yes (P := fun p => !(okSt f n p)) (k := n) (i := 0) (j := q) (Nat.zero_le _) (by unfold stN at h; omega)
      simpa using this
    · cases hb : okSt f n q
      · rfl
      · have := okSt_len hb; omega
theorem okSt_w5 {f : Nat → Int32} {n i : Nat} (h4 : 4 ≤ i) (hi : i < n) (h01 : ∀ k, k < n → f k = nI 0 ∨ f k = nI 1) : okSt f n (i - 4) = decide (w5 (lst f (i + 1)) = nI 26) := by
  obtain ⟨p, rfl⟩ : ∃ p, i = p + 4 := ⟨i - 4, by omega⟩
  have e : lst f (p + 4 + 1) = lst f p ++ [f p, f (p + 1), f (p + 2), f (p + 3), f (p + 4)] := by
    rw [show p + 4 + 1 = p + 1 + 1 + 1 + 1 + 1 from rfl]; simp only [lst_succ, List.append_assoc, List.cons_append, List.nil_append]
  unfold okSt
  rw [e, Nat.add_sub_cancel, decide_eq_true (show p + 5 ≤ n by omega), Bool.true_and]
  exact (decide_eq_decide.mpr (w5_five _ (h01 _ (by omega)) (h01 _ (by omega)) (h01 _ (by omega)) (h01 _ (by omega)) (h01 _ (by omega)))).symm
/-- the places of the groups behind the start -/
def gp (st i : Nat) : Nat := st + 5 + 5 * i
def lF (f : Nat → Int32) (st : Nat) : Nat → Int32 := fun j => numG f (gp st j)
def okG (f : Nat → Int32) (n st j : Nat) : Bool := decide (gp st j + 5 ≤ n) && (oddG f (gp st j) && !(decide (numG f (gp st j) = nI 15)))
def ltN (f : Nat → Int32) (n st : Nat) : Nat := stopAt (okG f n st) 41 0
def ltL (f : Nat → Int32) (n st : Nat) : IL := lst (lF f st) (ltN f n st)
theorem ltL_len (f : Nat → Int32) (n st : Nat) : (ltL f n st).length = ltN f n st := lst_len _ _
theorem okG_len {f : Nat → Int32} {n st j : Nat} (h : okG f n st j = true) : gp st j + 5 ≤ n := by
  unfold okG at h; simp only [Bool.and_eq_true, decide_eq_true_eq] at h; exact h.1
theorem okG_a {f : Nat → Int32} {n st j : Nat} (h : n < gp st j + 5) : okG f n st j = false := by unfold okG; rw [decide_eq_false (by omega)]; rfl
theorem okG_b {f : Nat → Int32} {n st j : Nat} (h : numG f (gp st j) = nI 15) : okG f n st j = false := by unfold okG; rw [decide_eq_true h]; simp
theorem okG_c {f : Nat → Int32} {n st j : Nat} (h : oddG f (gp st j) = false) : okG f n st j = false := by unfold okG; rw [h]; simp
theorem okG_t {f : Nat → Int32} {n st j : Nat} (h1 : gp st j + 5 ≤ n) (h2 : ¬ numG f (gp st j) = nI 15) (h3 : oddG f (gp st j) = true) : okG f n st j = true := by unfold okG; rw [decide_eq_true h1, decide_eq_false h2, h3]; rfl
theorem lt_end {f : Nat → Int32} {n st i : Nat} (h : ∀ j, j < i → okG f n st j = true) (hs : okG f n st i = false) (h41 : i ≤ 41) : ltN f n st = i :=
  stopAt_eq (Nat.zero_le _) (by omega) (fun j _ hj => h j hj) (fun _ => hs)
theorem okG_congr {f f2 : Nat → Int32} {n st j : Nat} (h : ∀ k, k < n → f k = f2 k) : okG f n st j = okG f2 n st j := by
  unfold okG
  by_cases h1 : gp st j + 5 ≤ n
  · rw [numG_congr (f2 := f2) (fun k hk => h _ (by omega)), oddG_congr (f2 := f2) (fun k hk => h _ (by omega))]
  · simp [h1]
theorem ltN_congr {f f2 : Nat → Int32} {n st : Nat} (h : ∀ k, k < n → f k = f2 k) : ltN f n st = ltN f2 n st := stopAt_congr fun j _ _ => okG_congr h
theorem ltN_ok {f : Nat → Int32} {n st j : Nat} (h : j < ltN f n st) : okG f n st j = true := stopAt_yes (Nat.zero_le _) h
theorem ltL_congr {f f2 : Nat → Int32} {n st : Nat} (h : ∀ k, k < n → f k = f2 k) : ltL f n st = ltL f2 n st := by
  unfold ltL; rw [ltN_congr h]
  refine lst_ext fun k hk => ?_
  have := okG_len (ltN_ok hk)
  exact numG_congr fun q hq => h _ (by omega)
/-- the reason by what stands behind the letters (there are nl of them, l) -/
def rsn (f : Nat → Int32) (n st nl : Nat) (l : IL) : Int32 :=
  if ¬ gp st nl + 5 ≤ n then nI 3 else if oddG f (gp st nl) = false then nI 2 else if ¬ gp st (nl + 1) + 5 ≤ n then nI 3 else if oddG f (gp st (nl + 1)) = false then nI 2 else
  if ¬ numG f (gp st (nl + 1)) = chkL l then nI 4 else if nl = 0 then nI 6 else nI 0
theorem rsn_congr {f f2 : Nat → Int32} {n st nl : Nat} {l : IL} (h : ∀ k, k < n → f k = f2 k) : rsn f n st nl l = rsn f2 n st nl l := by
  unfold rsn
  by_cases h1 : gp st nl + 5 ≤ n
  · rw [oddG_congr (p := gp st nl) (f2 := f2) (fun k hk => h _ (by omega))]
    by_cases h2 : gp st (nl + 1) + 5 ≤ n
    · rw [oddG_congr (p := gp st (nl + 1)) (f2 := f2) (fun k hk => h _ (by omega)), numG_congr (p := gp st (nl + 1)) (f2 := f2) (fun k hk => h _ (by omega))]
    · simp [h2]
  · simp [h1]
/-- the reading of a row of bits B: ok whether all times made bits -/
def stB (B : IL) : Int32 := stI (bf B) B.length
def ltB (B : IL) : IL := if stB B = -1 then [] else ltL (bf B) B.length (stN (bf B) B.length)
def rsB (ok : Bool) (B : IL) : Int32 := if ok = false then nI 5 else if stB B = -1 then nI 1 else rsn (bf B) B.length (stN (bf B) B.length) (ltB B).length (ltB B)
def rdT (r f : Int32) (t : IL) : IL × Int32 × Bool := rdB r f (fclk t) t
def bitsT (r f : Int32) (t : IL) : IL := (rdT r f t).1
def clkT (r f : Int32) (t : IL) : Int32 := (rdT r f t).2.1
def rsT (r f : Int32) (t : IL) : Int32 := rsB (rdT r f t).2.2 (bitsT r f t)
def cardT (r f : Int32) (t l : IL) : Bool := decide (rsT r f t = nI 0 ∧ ltB (bitsT r f t) = l)
def rightT (r f : Int32) (t l : IL) : Int32 := if cardT r f t l then nI 1 else if cardT r f t.reverse l then nI 2 else nI 0
theorem ni_m1 {a : Nat} (h : a < 2147483648) : ¬ nI a = -1 := fun q => by
  have := nI_pos h
  rw [q] at this
  exact this (by decide)
theorem ltB_none {B : IL} (h : stB B = -1) : ltB B = [] := if_pos h
theorem ltB_some {B : IL} (h : ¬ stB B = -1) : ltB B = ltL (bf B) B.length (stN (bf B) B.length) := if_neg h
