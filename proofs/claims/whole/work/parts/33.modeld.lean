theorem tw_false (gt : Nat → Int32) (nt : Nat) : lst (twF false gt nt) nt = lst gt nt := twF_lst false gt nt
theorem rs2_st {r f : Int32} {t : IL} (h : rsT r f t = nI 2) : stB (bitsT r f t) = nI (stN (bf (bitsT r f t)) (bitsT r f t).length) ∧ stN (bf (bitsT r f t)) (bitsT r f t).length + 5 ≤ (bitsT r f t).length := by
  rcases stB_cases (bitsT r f t) with q | q
  · exfalso
    unfold rsT rsB at h
    by_cases h1 : (rdT r f t).2.2 = false
    · rw [if_pos h1] at h; exact absurd h (by decide)
    · rw [if_neg h1, if_pos q.1] at h; exact absurd h (by decide)
  · exact q
def wrR (f : Nat → Int32) (st i cw : Nat) (pl : Int32) : Prop :=
  (cw = 0 ∧ wrS f st i = some (-1) ∧ pl = -1 ∧ ∀ j, j < i → oddG f (gp st j) = true) ∨
  (cw = 1 ∧ wrS f st i = some pl ∧ ∃ q, q < i ∧ pl = nI q ∧ oddG f (gp st q) = false ∧ ∀ j, j < i → j ≠ q → oddG f (gp st j) = true) ∨ (2 ≤ cw ∧ wrS f st i = none)
theorem wrR_odd {f : Nat → Int32} {st i cw : Nat} {pl : Int32} (hw : wrR f st i cw pl) (h : oddG f (gp st i) = true) : wrR f st (i + 1) (cw + 0) pl := by
  rcases hw with ⟨h1, h2, h3, h4⟩ | ⟨h1, h2, q, h3, h4, h5, h6⟩ | ⟨h1, h2⟩
  · exact Or.inl ⟨h1, wr_odd h2 h, h3, lt_s h4 h⟩
  · refine Or.inr (Or.inl ⟨h1, wr_odd h2 h, q, by omega, h4, h5, fun j hj hq => ?_⟩)
    rcases Nat.eq_or_lt_of_le (Nat.le_of_lt_succ hj) with e | e
    · rw [e]; exact h
    · exact h6 j e hq
  · exact Or.inr (Or.inr ⟨h1, wr_none h2 (Nat.le_succ i)⟩)
theorem wrR_ev {f : Nat → Int32} {st i cw : Nat} {pl : Int32} (hw : wrR f st i cw pl) (h : oddG f (gp st i) = false) (hi : i < 1000 := by omega) : wrR f st (i + 1) (cw + 1) (nI i) := by
  rcases hw with ⟨h1, h2, h3, h4⟩ | ⟨h1, h2, q, h3, h4, h5, h6⟩ | ⟨h1, h2⟩
  · refine Or.inr (Or.inl ⟨by omega, wr_one h2 h rfl, i, Nat.lt_succ_self i, rfl, h, fun j hj hq => h4 j (by omega)⟩)
  · refine Or.inr (Or.inr ⟨by omega, wr_two h2 h ?_⟩)
    rw [h4]; exact ni_m1 (by omega)
  · exact Or.inr (Or.inr ⟨by omega, wr_none h2 (Nat.le_succ i)⟩)
def xwS (f : Nat → Int32) (st : Nat) : Nat → Int32
  | 0 => nI 4
  | i + 1 => xwS f st i ^^^ (if oddG f (gp st i) = true then numG f (gp st i) else nI 0)
theorem xw_odd {f : Nat → Int32} {st i : Nat} {acc : Int32} (hx : acc = xwS f st i) (h : oddG f (gp st i) = true) : acc ^^^ numG f (gp st i) = xwS f st (i + 1) := by simp only [xwS]; rw [if_pos h, hx]
theorem xw_ev {f : Nat → Int32} {st i : Nat} {acc : Int32} (hx : acc = xwS f st i) (h : oddG f (gp st i) = false) : acc ^^^ nI 0 = xwS f st (i + 1) := by simp only [xwS]; rw [if_neg (by rw [h]; decide), hx]
theorem goG_congr {f f2 : Nat → Int32} {n st j : Nat} (h : ∀ k, k < n → f k = f2 k) : goG f n st j = goG f2 n st j := by
  unfold goG
  by_cases h1 : gp st j + 5 ≤ n
  · rw [numG_congr (f2 := f2) (fun k hk => h _ (by omega)), oddG_congr (f2 := f2) (fun k hk => h _ (by omega))]
  · simp [h1]
theorem gN_congr {f f2 : Nat → Int32} {n st : Nat} (h : ∀ k, k < n → f k = f2 k) : gN f n st = gN f2 n st := stopAt_congr fun j _ _ => goG_congr h
theorem wrS_congr {f f2 : Nat → Int32} {n st : Nat} (h : ∀ k, k < n → f k = f2 k) : ∀ {i : Nat}, (∀ j, j < i → gp st j + 5 ≤ n) → wrS f st i = wrS f2 st i
  | 0, _ => rfl
  | i + 1, hi => by
    have := hi i (Nat.lt_succ_self i)
    have ih := wrS_congr h (i := i) (fun j hj => hi j (by omega))
    simp only [wrS]
    rw [ih, oddG_congr (p := gp st i) (f2 := f2) (fun k hk => h _ (by omega))]
theorem yS_congr {f f2 : Nat → Int32} {n st wr : Nat} (h : ∀ k, k < n → f k = f2 k) : ∀ {i : Nat}, (∀ j, j < i → gp st j + 5 ≤ n) → yS f st wr i = yS f2 st wr i
  | 0, _ => rfl
  | i + 1, hi => by
    have := hi i (Nat.lt_succ_self i)
    have ih := yS_congr (wr := wr) h (i := i) (fun j hj => hi j (by omega))
    simp only [yS]
    rw [ih, numG_congr (p := gp st i) (f2 := f2) (fun k hk => h _ (by omega))]
theorem goG_len {f : Nat → Int32} {n st j : Nat} (h : goG f n st j = true) : gp st j + 5 ≤ n := by
  unfold goG at h; simp only [Bool.and_eq_true, decide_eq_true_eq] at h; exact h.1
theorem gN_go {f : Nat → Int32} {n st j : Nat} (h : j < gN f n st) : goG f n st j = true := stopAt_yes (Nat.zero_le _) h
theorem rpP_congr {f f2 : Nat → Int32} {rs : Int32} {n st : Nat} (h : ∀ k, k < n → f k = f2 k) : rpP rs f n st = rpP rs f2 n st := by
  unfold rpP
  rw [gN_congr h, wrS_congr h (fun j hj => goG_len (by rw [goG_congr h]; exact gN_go hj))]
  by_cases h1 : gp st (gN f2 n st + 1) + 5 ≤ n
  · rw [oddG_congr (p := gp st (gN f2 n st + 1)) (f2 := f2) (fun k hk => h _ (by omega))]
  · simp [h1]
/-- the place of the letter that can be put right; its number -/
def rpPT (r f : Int32) (t : IL) : Int32 := if stB (bitsT r f t) = -1 then -1 else rpP (rsT r f t) (bf (bitsT r f t)) (bitsT r f t).length (stN (bf (bitsT r f t)) (bitsT r f t).length)
def repT (r f : Int32) (t : IL) (w : Nat) : Int32 := if w = 0 ∨ rpPT r f t = -1 then rpPT r f t else
  rpN (bf (bitsT r f t)) (stN (bf (bitsT r f t)) (bitsT r f t).length) (gN (bf (bitsT r f t)) (bitsT r f t).length (stN (bf (bitsT r f t)) (bitsT r f t).length)) (rpPT r f t).toNatClampNeg
theorem repT_m1 {r f : Int32} {t : IL} {w : Nat} (h : rpPT r f t = -1) : repT r f t w = -1 := by unfold repT; rw [if_pos (Or.inr h), h]
theorem rep_a {r f : Int32} {gt : Nat → Int32} {nt w : Nat} (h : ¬ rsT r f (lst (twF false gt nt) nt) = nI 2) : repT r f (lst gt nt) w = -1 := by
  rw [tw_false] at h
  refine repT_m1 ?_
  unfold rpPT
  split
  · rfl
  · exact rp_reason h
theorem rpPT_eq {r f : Int32} {t : IL} (fi : Nat → Int32) (hrs : rsT r f t = nI 2) (hs0 : stB (bitsT r f t) = nI (stN (bf (bitsT r f t)) (bitsT r f t).length)) (hs5 : stN (bf (bitsT r f t)) (bitsT r f t).length + 5 ≤ (bitsT r f t).length) (hb : (bitsT r f t).length ≤ 200) :
    rpPT r f t = rpP (nI 2) (apF fi 0 (bitsT r f t)) (bitsT r f t).length (stN (bf (bitsT r f t)) (bitsT r f t).length) := by
  unfold rpPT
  rw [if_neg (lr_ne hs0 hs5 hb), hrs]
  exact rpP_congr fun k hk => (apF_in fi _ hk).symm
theorem rep_b {r f : Int32} {gt : Nat → Int32} {nt w i cw : Nat} {pl : Int32} (fi : Nat → Int32) (hrs : rsT r f (lst (twF false gt nt) nt) = nI 2) (hs0 : stB (bitsT r f (lst (twF false gt nt) nt)) = nI (stN (bf (bitsT r f (lst (twF false gt nt) nt))) (bitsT r f (lst (twF false gt nt) nt)).length)) (hs5 : (stN (bf (bitsT r f (lst (twF false gt nt) nt))) (bitsT r f (lst (twF false gt nt) nt)).length) + 5 ≤ (bitsT r f (lst (twF false gt nt) nt)).length) (hb : (bitsT r f (lst (twF false gt nt) nt)).length ≤ 200) (hok : ∀ j, j < i → goG (apF fi 0 (bitsT r f (lst (twF false gt nt) nt))) (bitsT r f (lst (twF false gt nt) nt)).length (stN (bf (bitsT r f (lst (twF false gt nt) nt))) (bitsT r f (lst (twF false gt nt) nt)).length) j = true) (hw : wrR (apF fi 0 (bitsT r f (lst (twF false gt nt) nt))) (stN (bf (bitsT r f (lst (twF false gt nt) nt))) (bitsT r f (lst (twF false gt nt) nt)).length) i cw pl) (hst : goG (apF fi 0 (bitsT r f (lst (twF false gt nt) nt))) (bitsT r f (lst (twF false gt nt) nt)).length (stN (bf (bitsT r f (lst (twF false gt nt) nt))) (bitsT r f (lst (twF false gt nt) nt)).length) i = false) (h41 : i ≤ 41) (hc : ¬ cw = 1) : repT r f (lst gt nt) w = -1 := by
  rw [← tw_false gt nt]
  refine repT_m1 ?_
  rw [rpPT_eq fi hrs hs0 hs5 hb]
  have hg := ga_n hok hst h41
  unfold rpP
  rw [if_neg (by decide), hg]
  split
  · rfl
  · split
    · rfl
    · split
      · rfl
      · rcases hw with ⟨h1, h2, h3, h4⟩ | ⟨h1, h2⟩ | ⟨h1, h2⟩
        · rw [h2]; rfl
        · exact absurd h1 hc
        · rw [h2]; rfl
theorem rep_c {r f : Int32} {gt : Nat → Int32} {nt w i cw : Nat} {pl : Int32} (fi : Nat → Int32) (hrs : rsT r f (lst (twF false gt nt) nt) = nI 2) (hs0 : stB (bitsT r f (lst (twF false gt nt) nt)) = nI (stN (bf (bitsT r f (lst (twF false gt nt) nt))) (bitsT r f (lst (twF false gt nt) nt)).length)) (hs5 : (stN (bf (bitsT r f (lst (twF false gt nt) nt))) (bitsT r f (lst (twF false gt nt) nt)).length) + 5 ≤ (bitsT r f (lst (twF false gt nt) nt)).length) (hb : (bitsT r f (lst (twF false gt nt) nt)).length ≤ 200) (hok : ∀ j, j < i → goG (apF fi 0 (bitsT r f (lst (twF false gt nt) nt))) (bitsT r f (lst (twF false gt nt) nt)).length (stN (bf (bitsT r f (lst (twF false gt nt) nt))) (bitsT r f (lst (twF false gt nt) nt)).length) j = true) (hw : wrR (apF fi 0 (bitsT r f (lst (twF false gt nt) nt))) (stN (bf (bitsT r f (lst (twF false gt nt) nt))) (bitsT r f (lst (twF false gt nt) nt)).length) i cw pl) (hst : goG (apF fi 0 (bitsT r f (lst (twF false gt nt) nt))) (bitsT r f (lst (twF false gt nt) nt)).length (stN (bf (bitsT r f (lst (twF false gt nt) nt))) (bitsT r f (lst (twF false gt nt) nt)).length) i = false) (h41 : i ≤ 41) (h : decide (gp (stN (bf (bitsT r f (lst (twF false gt nt) nt))) (bitsT r f (lst (twF false gt nt) nt)).length) (i + 1) + 5 ≤ (bitsT r f (lst (twF false gt nt) nt)).length) = false) : repT r f (lst gt nt) w = -1 := by
  rw [← tw_false gt nt]
  refine repT_m1 ?_
  rw [rpPT_eq fi hrs hs0 hs5 hb]
  exact rp_nogr rfl (by rw [ga_n hok hst h41]; exact h)
theorem rep_d {r f : Int32} {gt : Nat → Int32} {nt w i cw : Nat} {pl : Int32} (fi : Nat → Int32) (hrs : rsT r f (lst (twF false gt nt) nt) = nI 2) (hs0 : stB (bitsT r f (lst (twF false gt nt) nt)) = nI (stN (bf (bitsT r f (lst (twF false gt nt) nt))) (bitsT r f (lst (twF false gt nt) nt)).length)) (hs5 : (stN (bf (bitsT r f (lst (twF false gt nt) nt))) (bitsT r f (lst (twF false gt nt) nt)).length) + 5 ≤ (bitsT r f (lst (twF false gt nt) nt)).length) (hb : (bitsT r f (lst (twF false gt nt) nt)).length ≤ 200) (hok : ∀ j, j < i → goG (apF fi 0 (bitsT r f (lst (twF false gt nt) nt))) (bitsT r f (lst (twF false gt nt) nt)).length (stN (bf (bitsT r f (lst (twF false gt nt) nt))) (bitsT r f (lst (twF false gt nt) nt)).length) j = true) (hw : wrR (apF fi 0 (bitsT r f (lst (twF false gt nt) nt))) (stN (bf (bitsT r f (lst (twF false gt nt) nt))) (bitsT r f (lst (twF false gt nt) nt)).length) i cw pl) (hst : goG (apF fi 0 (bitsT r f (lst (twF false gt nt) nt))) (bitsT r f (lst (twF false gt nt) nt)).length (stN (bf (bitsT r f (lst (twF false gt nt) nt))) (bitsT r f (lst (twF false gt nt) nt)).length) i = false) (h41 : i ≤ 41) (h : oddG (apF fi 0 (bitsT r f (lst (twF false gt nt) nt))) (gp (stN (bf (bitsT r f (lst (twF false gt nt) nt))) (bitsT r f (lst (twF false gt nt) nt)).length) (i + 1)) = false) : repT r f (lst gt nt) w = -1 := by
  rw [← tw_false gt nt]
  refine repT_m1 ?_
  rw [rpPT_eq fi hrs hs0 hs5 hb]
  exact rp_even rfl (by rw [ga_n hok hst h41]; exact h)
theorem rep_pl {r f : Int32} {gt : Nat → Int32} {nt i cw : Nat} {pl : Int32} (fi : Nat → Int32) (hrs : rsT r f (lst (twF false gt nt) nt) = nI 2) (hs0 : stB (bitsT r f (lst (twF false gt nt) nt)) = nI (stN (bf (bitsT r f (lst (twF false gt nt) nt))) (bitsT r f (lst (twF false gt nt) nt)).length)) (hs5 : (stN (bf (bitsT r f (lst (twF false gt nt) nt))) (bitsT r f (lst (twF false gt nt) nt)).length) + 5 ≤ (bitsT r f (lst (twF false gt nt) nt)).length) (hb : (bitsT r f (lst (twF false gt nt) nt)).length ≤ 200) (hok : ∀ j, j < i → goG (apF fi 0 (bitsT r f (lst (twF false gt nt) nt))) (bitsT r f (lst (twF false gt nt) nt)).length (stN (bf (bitsT r f (lst (twF false gt nt) nt))) (bitsT r f (lst (twF false gt nt) nt)).length) j = true) (hw : wrR (apF fi 0 (bitsT r f (lst (twF false gt nt) nt))) (stN (bf (bitsT r f (lst (twF false gt nt) nt))) (bitsT r f (lst (twF false gt nt) nt)).length) i cw pl) (hst : goG (apF fi 0 (bitsT r f (lst (twF false gt nt) nt))) (bitsT r f (lst (twF false gt nt) nt)).length (stN (bf (bitsT r f (lst (twF false gt nt) nt))) (bitsT r f (lst (twF false gt nt) nt)).length) i = false) (h41 : i ≤ 41) (hc : cw = 1) (hth : gp (stN (bf (bitsT r f (lst (twF false gt nt) nt))) (bitsT r f (lst (twF false gt nt) nt)).length) (i + 1) + 5 ≤ (bitsT r f (lst (twF false gt nt) nt)).length)
    (ho : oddG (apF fi 0 (bitsT r f (lst (twF false gt nt) nt))) (gp (stN (bf (bitsT r f (lst (twF false gt nt) nt))) (bitsT r f (lst (twF false gt nt) nt)).length) (i + 1)) = true) : rpPT r f (lst (twF false gt nt) nt) = pl := by
  have hg := ga_n hok hst h41
  rw [rpPT_eq fi hrs hs0 hs5 hb, rp_open rfl (by rw [hg]; rw [gp_s] at hth; omega) (by rw [hg]; exact decide_eq_true hth) (by rw [hg]; exact ho), hg]
  rcases hw with ⟨h1, h2, h3, h4⟩ | ⟨h1, h2, h3⟩ | ⟨h1, h2⟩
  · omega
  · rw [h2]; rfl
  · omega
theorem rep_e {r f : Int32} {gt : Nat → Int32} {nt w i cw : Nat} {pl : Int32} (fi : Nat → Int32) (hrs : rsT r f (lst (twF false gt nt) nt) = nI 2) (hs0 : stB (bitsT r f (lst (twF false gt nt) nt)) = nI (stN (bf (bitsT r f (lst (twF false gt nt) nt))) (bitsT r f (lst (twF false gt nt) nt)).length)) (hs5 : (stN (bf (bitsT r f (lst (twF false gt nt) nt))) (bitsT r f (lst (twF false gt nt) nt)).length) + 5 ≤ (bitsT r f (lst (twF false gt nt) nt)).length) (hb : (bitsT r f (lst (twF false gt nt) nt)).length ≤ 200) (hok : ∀ j, j < i → goG (apF fi 0 (bitsT r f (lst (twF false gt nt) nt))) (bitsT r f (lst (twF false gt nt) nt)).length (stN (bf (bitsT r f (lst (twF false gt nt) nt))) (bitsT r f (lst (twF false gt nt) nt)).length) j = true) (hw : wrR (apF fi 0 (bitsT r f (lst (twF false gt nt) nt))) (stN (bf (bitsT r f (lst (twF false gt nt) nt))) (bitsT r f (lst (twF false gt nt) nt)).length) i cw pl) (hst : goG (apF fi 0 (bitsT r f (lst (twF false gt nt) nt))) (bitsT r f (lst (twF false gt nt) nt)).length (stN (bf (bitsT r f (lst (twF false gt nt) nt))) (bitsT r f (lst (twF false gt nt) nt)).length) i = false) (h41 : i ≤ 41) (hc : cw = 1) (hth : gp (stN (bf (bitsT r f (lst (twF false gt nt) nt))) (bitsT r f (lst (twF false gt nt) nt)).length) (i + 1) + 5 ≤ (bitsT r f (lst (twF false gt nt) nt)).length)
    (ho : oddG (apF fi 0 (bitsT r f (lst (twF false gt nt) nt))) (gp (stN (bf (bitsT r f (lst (twF false gt nt) nt))) (bitsT r f (lst (twF false gt nt) nt)).length) (i + 1)) = true) (h0 : w = 0) : repT r f (lst gt nt) w = pl := by
  rw [← tw_false gt nt]
  unfold repT
  rw [if_pos (Or.inl h0)]
  exact rep_pl fi hrs hs0 hs5 hb hok hw hst h41 hc hth ho
theorem y_15 {f : Nat → Int32} {st q i : Nat} (hq : oddG f (gp st q) = false) (ho : ∀ j, j < i → j ≠ q → oddG f (gp st j) = true) : ∀ {k : Nat}, k ≤ i → yS f st q k ^^^ nI 15 = xwS f st k
  | 0, _ => by show nI 11 ^^^ nI 15 = nI 4; decide
  | k + 1, hk => by
    have ih := y_15 hq ho (k := k) (by omega)
    simp only [yS, xwS]
    by_cases h : k = q
    · subst h; rw [if_pos rfl, if_neg (by rw [hq]; decide), ih]; exact (Int32.xor_zero).symm
    · rw [if_neg h, if_pos (ho k (by omega) h), ← ih, Int32.xor_assoc, Int32.xor_comm (numG f (gp st k)), ← Int32.xor_assoc]
theorem rep_f {r f : Int32} {gt : Nat → Int32} {nt w i cw : Nat} {pl acc : Int32} (fi : Nat → Int32) (hrs : rsT r f (lst (twF false gt nt) nt) = nI 2) (hs0 : stB (bitsT r f (lst (twF false gt nt) nt)) = nI (stN (bf (bitsT r f (lst (twF false gt nt) nt))) (bitsT r f (lst (twF false gt nt) nt)).length)) (hs5 : (stN (bf (bitsT r f (lst (twF false gt nt) nt))) (bitsT r f (lst (twF false gt nt) nt)).length) + 5 ≤ (bitsT r f (lst (twF false gt nt) nt)).length) (hb : (bitsT r f (lst (twF false gt nt) nt)).length ≤ 200) (hok : ∀ j, j < i → goG (apF fi 0 (bitsT r f (lst (twF false gt nt) nt))) (bitsT r f (lst (twF false gt nt) nt)).length (stN (bf (bitsT r f (lst (twF false gt nt) nt))) (bitsT r f (lst (twF false gt nt) nt)).length) j = true) (hw : wrR (apF fi 0 (bitsT r f (lst (twF false gt nt) nt))) (stN (bf (bitsT r f (lst (twF false gt nt) nt))) (bitsT r f (lst (twF false gt nt) nt)).length) i cw pl) (hx : acc = xwS (apF fi 0 (bitsT r f (lst (twF false gt nt) nt))) (stN (bf (bitsT r f (lst (twF false gt nt) nt))) (bitsT r f (lst (twF false gt nt) nt)).length) i) (hst : goG (apF fi 0 (bitsT r f (lst (twF false gt nt) nt))) (bitsT r f (lst (twF false gt nt) nt)).length (stN (bf (bitsT r f (lst (twF false gt nt) nt))) (bitsT r f (lst (twF false gt nt) nt)).length) i = false) (h41 : i ≤ 41)
    (hc : cw = 1) (hth : gp (stN (bf (bitsT r f (lst (twF false gt nt) nt))) (bitsT r f (lst (twF false gt nt) nt)).length) (i + 1) + 5 ≤ (bitsT r f (lst (twF false gt nt) nt)).length)
    (ho : oddG (apF fi 0 (bitsT r f (lst (twF false gt nt) nt))) (gp (stN (bf (bitsT r f (lst (twF false gt nt) nt))) (bitsT r f (lst (twF false gt nt) nt)).length) (i + 1)) = true) (h0 : 0 < w) : repT r f (lst gt nt) w = acc ^^^ numG (apF fi 0 (bitsT r f (lst (twF false gt nt) nt))) (gp (stN (bf (bitsT r f (lst (twF false gt nt) nt))) (bitsT r f (lst (twF false gt nt) nt)).length) (i + 1)) := by
  have hp := rep_pl fi hrs hs0 hs5 hb hok hw hst h41 hc hth ho
  have hg := ga_n hok hst h41
  have hag : ∀ k, k < (bitsT r f (lst (twF false gt nt) nt)).length → apF fi 0 (bitsT r f (lst (twF false gt nt) nt)) k = bf (bitsT r f (lst (twF false gt nt) nt)) k := fun k hk => apF_in fi _ hk
  rw [← tw_false gt nt]
  rcases hw with ⟨h1, h2, h3, h4⟩ | ⟨h1, h2, q, h3, h4, h5, h6⟩ | ⟨h1, h2⟩
  · omega
  · unfold repT
    rw [if_neg (by rw [hp, h4]; rintro (q9 | q9); omega; exact ni_m1 (by omega) q9), hp, h4, nI_clamp (by omega), ← gN_congr hag, hg]
    unfold rpN
    have hgp : gp (stN (bf (bitsT r f (lst (twF false gt nt) nt))) (bitsT r f (lst (twF false gt nt) nt)).length) i + 5 ≤ (bitsT r f (lst (twF false gt nt) nt)).length := by rw [gp_s] at hth; omega
    rw [← yS_congr hag (fun j hj => by
      rcases (show j < i ∨ j = i ∨ j = i + 1 by omega) with e | e | e
      · exact goG_len (hok j e)
      · rw [e]; exact hgp
      · rw [e]; exact hth)]
    have h15 : numG (apF fi 0 (bitsT r f (lst (twF false gt nt) nt))) (gp (stN (bf (bitsT r f (lst (twF false gt nt) nt))) (bitsT r f (lst (twF false gt nt) nt)).length) i) = nI 15 := by
      unfold goG at hst
      rw [decide_eq_true hgp, Bool.true_and] at hst
      simp only [Bool.not_eq_false', Bool.and_eq_true, decide_eq_true_eq] at hst
      exact hst.1
    simp only [yS]
    rw [if_neg (show ¬ i + 1 = q by omega), if_neg (show ¬ i = q by omega), h15, y_15 h5 h6 (Nat.le_refl i), hx]
  · omega
/-- the ratios that would do, of the first i from 50 on -/
def GLr (f : Int32) (t l : IL) : Nat → IL
  | 0 => []
  | i + 1 => if rightT (nI (50 + i)) f t l ≤ 0 then GLr f t l i else GLr f t l i ++ [nI (50 + i)]
def tolR (w : Nat) (l : IL) : Int32 := if w = 0 then l.headD (-1) else if w = 1 then l.getLastD (-1) else nI l.length
theorem GLr_y {f : Int32} {t l : IL} {q i : Nat} (hq : q = 50 + i) (h : ¬ rightT (nI q) f t l ≤ 0) : GLr f t l (i + 1) = GLr f t l i ++ [nI q] := by subst hq; simp only [GLr]; rw [if_neg h]
theorem GLr_n {f : Int32} {t l : IL} {q i : Nat} (hq : q = 50 + i) (h : rightT (nI q) f t l ≤ 0) : GLr f t l (i + 1) = GLr f t l i := by subst hq; simp only [GLr]; rw [if_pos h]
theorem GLr_mem {f : Int32} {t l : IL} : ∀ {i : Nat} {x : Int32}, x ∈ GLr f t l i → ∃ k, k < i ∧ x = nI (50 + k)
  | 0, x, h => by simp [GLr] at h
  | i + 1, x, h => by
    simp only [GLr] at h
    split at h
    · obtain ⟨k, h1, h2⟩ := GLr_mem h
      exact ⟨k, by omega, h2⟩
    · rcases List.mem_append.mp h with h | h
      · obtain ⟨k, h1, h2⟩ := GLr_mem h
        exact ⟨k, by omega, h2⟩
      · exact ⟨i, by omega, by simpa using h⟩
theorem GLr_len {f : Int32} {t l : IL} : ∀ {i : Nat}, (GLr f t l i).length ≤ i
  | 0 => by simp [GLr]
  | i + 1 => by
    have := GLr_len (f := f) (t := t) (l := l) (i := i)
    simp only [GLr]; split
    · omega
    · rw [List.length_append]; simp; omega
theorem gl_n1 {f : Int32} {t l : IL} {q i cn : Nat} (hq : q = 50 + i) (hc : cn = (GLr f t l i).length) (h : ¬ rightT (nI q) f t l ≤ 0) : cn + 1 = (GLr f t l (i + 1)).length := by rw [GLr_y hq h, List.length_append, hc]; rfl
theorem gl_n0 {f : Int32} {t l : IL} {q i cn : Nat} (hq : q = 50 + i) (hc : cn = (GLr f t l i).length) (h : rightT (nI q) f t l ≤ 0) : cn = (GLr f t l (i + 1)).length := by rw [GLr_n hq h, hc]
theorem gl_h1 {f : Int32} {t l : IL} {q i : Nat} {le : Int32} (hq : q = 50 + i) (hl : le = (GLr f t l i).headD (-1)) (h : ¬ rightT (nI q) f t l ≤ 0) (h2 : le = -1) (hi : i < 1000 := by omega) : nI q = (GLr f t l (i + 1)).headD (-1) := by
  rw [GLr_y hq h]
  cases hg : GLr f t l i with
  | nil => rfl
  | cons x xs =>
    rw [hg] at hl
    obtain ⟨k, h3, h4⟩ := GLr_mem (show x ∈ GLr f t l i by rw [hg]; exact List.mem_cons_self)
    exact absurd (h4.symm.trans (hl.symm.trans h2)) (ni_m1 (by omega))
theorem gl_h2 {f : Int32} {t l : IL} {q i : Nat} {le : Int32} (hq : q = 50 + i) (hl : le = (GLr f t l i).headD (-1)) (h : ¬ rightT (nI q) f t l ≤ 0) (h2 : ¬ le = -1) : le = (GLr f t l (i + 1)).headD (-1) := by
  rw [GLr_y hq h]
  cases hg : GLr f t l i with
  | nil => rw [hg] at hl; exact absurd hl h2
  | cons x xs => rw [hg] at hl; exact hl
theorem gl_h0 {f : Int32} {t l : IL} {q i : Nat} {le : Int32} (hq : q = 50 + i) (hl : le = (GLr f t l i).headD (-1)) (h : rightT (nI q) f t l ≤ 0) : le = (GLr f t l (i + 1)).headD (-1) := by rw [GLr_n hq h, hl]
theorem gl_l1 {f : Int32} {t l : IL} {q i : Nat} (hq : q = 50 + i) (h : ¬ rightT (nI q) f t l ≤ 0) : nI q = (GLr f t l (i + 1)).getLastD (-1) := by rw [GLr_y hq h]; simp
theorem gl_l0 {f : Int32} {t l : IL} {q i : Nat} {le : Int32} (hq : q = 50 + i) (hl : le = (GLr f t l i).getLastD (-1)) (h : rightT (nI q) f t l ≤ 0) : le = (GLr f t l (i + 1)).getLastD (-1) := by rw [GLr_n hq h, hl]
theorem gl_e0 {f : Int32} {t l : IL} {w i : Nat} {le : Int32} (hi : i = 46) (hw : w = 0) (hl : le = (GLr f t l i).headD (-1)) : le = tolR w (GLr f t l 46) := by subst hi; unfold tolR; rw [if_pos hw, hl]
theorem gl_e1 {f : Int32} {t l : IL} {w i : Nat} {le : Int32} (hi : i = 46) (hw : w = 1) (hl : le = (GLr f t l i).getLastD (-1)) : le = tolR w (GLr f t l 46) := by subst hi; unfold tolR; rw [if_neg (by omega), if_pos hw, hl]
theorem gl_e2 {f : Int32} {t l : IL} {w i cn : Nat} (hi : i = 46) (hw : 1 < w) (hl : cn = (GLr f t l i).length) : nI cn = tolR w (GLr f t l 46) := by subst hi; unfold tolR; rw [if_neg (by omega), if_neg (by omega), hl]
/-- the greatest jerk below q with which the card would be read -/
def jkS (r f : Int32) (S l : IL) : Nat → Int32
  | 0 => -1
  | q + 1 => if cardT r f (passL (nI q) 0 S) l = true then nI q else jkS r f S l q
def jkT (z : Nat) (r f : Int32) (l : IL) : Int32 := if l.length = 0 then -1 else if 200 < (strp z l).length + onesN (strp z l) then -1 else jkS r f (strp z l) l 41
def jkI (z : Nat) (r f : Int32) (l : IL) (q : Nat) (jv : Int32) (bb : Bool) : Prop := match bb with
  | false => jkS r f (strp z l) l 41 = jkS r f (strp z l) l q
  | true => jkS r f (strp z l) l 41 = jv
theorem jk_j0 {q : Nat} (h : 1 ≤ q) : nI (q - 1) - nI 0 = nI q - nI 1 := by rw [pk_sub h]; exact Int32.sub_zero _
theorem jk_c {z q : Nat} {r f : Int32} {l : IL} {g : Nat → Int32} {b : Bool} (h : cardT r f (lst (twF false (apF g 0 (passL (nI q) 0 (strp z l))) (passL (nI q) 0 (strp z l)).length) (passL (nI q) 0 (strp z l)).length) l = b) : cardT r f (passL (nI q) 0 (strp z l)) l = b := by
  rw [tw_false, apF_lst] at h; exact h
theorem jk_yes {z q : Nat} {r f : Int32} {l : IL} {g : Nat → Int32} {jv : Int32} (hq : 1 ≤ q) (hj : jkI z r f l q jv false) (h : cardT r f (lst (twF false (apF g 0 (passL (nI (q - 1)) 0 (strp z l))) (passL (nI (q - 1)) 0 (strp z l)).length) (passL (nI (q - 1)) 0 (strp z l)).length) l = true) : jkI z r f l q (nI (q - 1) - nI 0) true := by
  obtain ⟨q', rfl⟩ : ∃ q', q = q' + 1 := ⟨q - 1, by omega⟩
  have e : jkS r f (strp z l) l 41 = jkS r f (strp z l) l (q' + 1) := hj
  show _ = _
  rw [e, show nI (q' + 1 - 1) - nI 0 = nI q' from Int32.sub_zero _]
  have h' := jk_c h
  rw [Nat.add_sub_cancel] at h'
  simp only [jkS]; rw [if_pos h']
theorem jk_no {z q : Nat} {r f : Int32} {l : IL} {g : Nat → Int32} {jv : Int32} (hq : 1 ≤ q) (hj : jkI z r f l q jv false) (h : cardT r f (lst (twF false (apF g 0 (passL (nI (q - 1)) 0 (strp z l))) (passL (nI (q - 1)) 0 (strp z l)).length) (passL (nI (q - 1)) 0 (strp z l)).length) l = false) : jkI z r f l (q - 1) (nI (q - 1) - nI 1) false := by
  obtain ⟨q', rfl⟩ : ∃ q', q = q' + 1 := ⟨q - 1, by omega⟩
  have e : jkS r f (strp z l) l 41 = jkS r f (strp z l) l (q' + 1) := hj
  show _ = _
  rw [e, Nat.add_sub_cancel]
  have h' := jk_c h
  rw [Nat.add_sub_cancel] at h'
  simp only [jkS]; rw [if_neg (by rw [h']; decide)]
theorem jk_e0 {z nl : Nat} {r f : Int32} {gl : Nat → Int32} (h : nl = 0) : -1 = jkT z r f (lst gl nl) := by unfold jkT; rw [if_pos (by rw [lst_len]; exact h)]
theorem jk_e1 {z nl : Nat} {r f : Int32} {gl : Nat → Int32} (h : 200 < 2 * z + 5 * (nl + 3) + onesN (strp z (lst gl nl))) : -1 = jkT z r f (lst gl nl) := by
  unfold jkT; split
  · rfl
  · rw [if_pos (by rw [strp_len, lst_len]; exact h)]
theorem jk_e {z nl : Nat} {r f : Int32} {gl : Nat → Int32} (h0 : 0 < nl) (h : 2 * z + 5 * (nl + 3) + onesN (strp z (lst gl nl)) ≤ 200) : jkT z r f (lst gl nl) = jkS r f (strp z (lst gl nl)) (lst gl nl) 41 := by
  unfold jkT; rw [if_neg (by rw [lst_len]; omega), if_neg (by rw [strp_len, lst_len]; omega)]
theorem jk_e2 {z nl q : Nat} {r f : Int32} {gl : Nat → Int32} {jv : Int32} {bb : Bool} (h0 : 0 < nl) (h : 2 * z + 5 * (nl + 3) + onesN (strp z (lst gl nl)) ≤ 200) (hj : jkI z r f (lst gl nl) q jv bb) (hq : q = 0) (hv : jv = nI q - nI 1) : jv = jkT z r f (lst gl nl) := by
  rw [jk_e h0 h]
  subst hq
  cases bb with
  | false =>
    have e : jkS r f (strp z (lst gl nl)) (lst gl nl) 41 = jkS r f (strp z (lst gl nl)) (lst gl nl) 0 := hj
    rw [e, hv]; show nI 0 - nI 1 = (-1 : Int32); decide
  | true => exact Eq.symm hj
theorem jk_e3 {z nl q : Nat} {r f : Int32} {gl : Nat → Int32} {jv : Int32} {bb : Bool} (h0 : 0 < nl) (h : 2 * z + 5 * (nl + 3) + onesN (strp z (lst gl nl)) ≤ 200) (hj : jkI z r f (lst gl nl) q jv bb) (hb : bb = true) : jv = jkT z r f (lst gl nl) := by
  subst hb; rw [jk_e h0 h]; exact Eq.symm hj
def tolO (w : Nat) (t : IL) : Int32 := if w = 1 then sumL t else if w = 2 then minL t else maxL t
def mxS (g : Nat → Int32) : Nat → Int32
  | 0 => nI 0
  | i + 1 => if mxS g i < g i then g i else mxS g i
theorem ov_l1 {g : Nat → Int32} {nt i : Nat} {le : Int32} (h : nt = 0 ∧ le = nI 0 ∨ 0 < nt ∧ le = minL (lst g (max 1 i))) (hi : i < nt) (hc : ¬ le ≤ g i) : nt = 0 ∧ g i = nI 0 ∨ 0 < nt ∧ g i = minL (lst g (max 1 (i + 1))) := by
  rcases h with ⟨h1, -⟩ | ⟨h1, h2⟩
  · omega
  · refine Or.inr ⟨h1, ?_⟩
    have hlt := Int32.not_le.mp hc
    rcases Nat.eq_zero_or_pos i with q | q
    · subst q; rfl
    · rw [Nat.max_eq_right (by omega)] at h2 ⊢
      rw [lst_succ, minL_app _ _ (lst_ne g q), ← h2, if_pos hlt]
theorem ov_l0 {g : Nat → Int32} {nt i : Nat} {le : Int32} (h : nt = 0 ∧ le = nI 0 ∨ 0 < nt ∧ le = minL (lst g (max 1 i))) (hi : i < nt) (hc : le ≤ g i) : nt = 0 ∧ le = nI 0 ∨ 0 < nt ∧ le = minL (lst g (max 1 (i + 1))) := by
  rcases h with ⟨h1, -⟩ | ⟨h1, h2⟩
  · omega
  · refine Or.inr ⟨h1, ?_⟩
    rcases Nat.eq_zero_or_pos i with q | q
    · subst q; exact h2
    · rw [Nat.max_eq_right (by omega)] at h2 ⊢
      rw [lst_succ, minL_app _ _ (lst_ne g q), ← h2, if_neg (Int32.not_lt.mpr hc)]
theorem ov_m1 {g : Nat → Int32} {i : Nat} {mo9 : Int32} (h : mo9 = mxS g i) (hc : ¬ g i ≤ mo9) : g i = mxS g (i + 1) := by
  simp only [mxS]; rw [← h, if_pos (Int32.not_le.mp hc)]
theorem ov_m0 {g : Nat → Int32} {i : Nat} {mo9 : Int32} (h : mo9 = mxS g i) (hc : g i ≤ mo9) : mo9 = mxS g (i + 1) := by
  simp only [mxS]; rw [← h, if_neg (Int32.not_lt.mpr hc)]
theorem mxS_max {g : Nat → Int32} : ∀ {n : Nat}, (∀ k, k < n → ¬ g k < nI 0) → mxS g n = maxL (lst g n)
  | 0, _ => rfl
  | 1, h => by
    simp only [mxS]
    show (if nI 0 < g 0 then g 0 else nI 0) = g 0
    by_cases q : nI 0 < g 0
    · rw [if_pos q]
    · rw [if_neg q]; exact Int32.le_antisymm (Int32.not_lt.mp (h 0 (by omega))) (Int32.not_lt.mp q)
  | n + 2, h => by
    rw [lst_succ, maxL_app _ _ (lst_ne g (by omega)), ← mxS_max (fun k hk => h k (by omega))]; rfl
theorem ov_1 {g : Nat → Int32} {nt w i : Nat} {su : Int32} (hw : w = 1) (hi : i = nt) (h : su = sumL (lst g i)) : su = tolO w (lst g nt) := by subst hi; unfold tolO; rw [if_pos hw, h]
theorem ov_2 {g : Nat → Int32} {nt w i : Nat} {le : Int32} (hw : w = 2) (hi : nt ≤ i) (hi2 : i ≤ nt) (h : nt = 0 ∧ le = nI 0 ∨ 0 < nt ∧ le = minL (lst g (max 1 i))) : le = tolO w (lst g nt) := by
  obtain rfl : i = nt := by omega
  unfold tolO; rw [if_neg (by omega), if_pos hw]
  rcases h with ⟨h1, h2⟩ | ⟨h1, h2⟩
  · subst h1; exact h2
  · rw [h2, Nat.max_eq_right (by omega)]
theorem ov_3 {g : Nat → Int32} {nt w i : Nat} {mo9 : Int32} (hw : 2 < w) (hi : i = nt) (h : mo9 = mxS g i) (hp : ∀ k, k < nt → ¬ g k < nI 0) : mo9 = tolO w (lst g nt) := by
  subst hi; unfold tolO; rw [if_neg (by omega), if_neg (by omega), h, mxS_max hp]
def cntT (w : Nat) (t l : IL) (sv : Nat) : Int32 := if w = 0 then nI t.length else if w = 1 then sumL t else if w = 2 then minL t else if w = 3 then maxL t else if w = 4 then nI l.length else if w = 5 then (if l.length = 0 then -1 else chkL l) else nI sv
theorem ct_0 (g : Nat → Int32) (nt : Nat) (l : IL) (sv : Nat) : nI nt = cntT 0 (lst g nt) l sv := by show _ = nI _; rw [lst_len]
theorem ct_4 (g : Nat → Int32) (nl : Nat) (t : IL) (sv : Nat) : nI nl = cntT 4 t (lst g nl) sv := by show _ = nI _; rw [lst_len]
theorem ct_50 {t : IL} (g : Nat → Int32) {nl sv : Nat} (h : nl = 0) : -1 = cntT 5 t (lst g nl) sv := by show _ = (if (lst g nl).length = 0 then (-1 : Int32) else chkL (lst g nl)); rw [if_pos (by rw [lst_len]; exact h)]
theorem ct_5 {t : IL} (g : Nat → Int32) {nl sv : Nat} (h : 0 < nl) : chkL (lst g nl) = cntT 5 t (lst g nl) sv := by show _ = (if (lst g nl).length = 0 then (-1 : Int32) else chkL (lst g nl)); rw [if_neg (by rw [lst_len]; omega)]
theorem ct_o {w : Nat} {t : IL} (l : IL) (sv : Nat) (h : 1 ≤ w) (h2 : w ≤ 3) : tolO w t = cntT w t l sv := by
  unfold tolO cntT
  rw [if_neg (show ¬ w = 0 by omega)]
  by_cases h1 : w = 1
  · rw [if_pos h1, if_pos h1]
  · rw [if_neg h1, if_neg h1]
    by_cases h3 : w = 2
    · rw [if_pos h3, if_pos h3]
    · rw [if_neg h3, if_neg h3, if_pos (show w = 3 by omega)]
theorem ct_6 (t l : IL) {w sv : Nat} (h : 5 < w) : nI sv = cntT w t l sv := by unfold cntT; rw [if_neg (by omega), if_neg (by omega), if_neg (by omega), if_neg (by omega), if_neg (by omega), if_neg (by omega)]
/-- how many are less than a bound -/
def ltC (lim : Int32) (l : IL) : Nat := (l.filter (fun x => decide (x < lim))).length
theorem lc_1 {g : Nat → Int32} {i cn : Nat} {lim : Int32} (h : cn = ltC lim (lst g i)) (hc : ¬ lim ≤ g i) : cn + 1 = ltC lim (lst g (i + 1)) := by
  rw [h, lst_succ]; simp [ltC, List.filter_append, Int32.not_le.mp hc]
theorem lc_0 {g : Nat → Int32} {i cn : Nat} {lim : Int32} (h : cn = ltC lim (lst g i)) (hc : lim ≤ g i) : cn + 0 = ltC lim (lst g (i + 1)) := by
  rw [h, lst_succ]; simp [ltC, List.filter_append, Int32.not_lt.mpr hc]
theorem lc_le (g : Nat → Int32) (i : Nat) (lim : Int32) : ltC lim (lst g i) ≤ i := by
  have := List.length_filter_le (fun x => decide (x < lim)) (lst g i)
  rw [lst_len] at this; exact this
def shT (r : Int32) (t : IL) : UInt64 := if t.length = 0 then FP.dconst0 else FP.ddiv (FP.i2d (nI (ltC (sumL t / nI t.length * r / nI 100) t))) (FP.i2d (nI t.length))
theorem sh_0 (r : Int32) (g : Nat → Int32) {n : Nat} (h : n = 0) : FP.dconst0 = shT r (lst g n) := by unfold shT; rw [if_pos (by rw [lst_len]; exact h)]
theorem sh_n {r : Int32} {g : Nat → Int32} {n i cn : Nat} (hi : i = n) (h : 0 < n) (hc : cn = ltC (tolO 1 (lst g n) / nI n * r / nI 100) (lst g i)) : FP.ddiv (FP.i2d (nI cn)) (FP.i2d (nI n)) = shT r (lst g n) := by
  subst hi; unfold shT; rw [if_neg (by rw [lst_len]; omega), lst_len, hc]; rfl
def hashF (f : Nat → Int32) : Nat → Int64 → Int64
  | 0, h => h
  | k + 1, h => 31 * hashF f k h + (f k).toInt64
theorem hashF_congr {f f2 : Nat → Int32} {h : Int64} : ∀ {n : Nat}, (∀ k, k < n → f k = f2 k) → hashF f n h = hashF f2 n h
  | 0, _ => rfl
  | n + 1, q => by simp only [hashF]; rw [hashF_congr (fun k hk => q k (by omega)), q n (by omega)]
def hashL (l : IL) (h : Int64) : Int64 := hashF (bf l) l.length h
theorem hashL_lst (f : Nat → Int32) (n : Nat) (h : Int64) : hashF f n h = hashL (lst f n) h := by
  unfold hashL; rw [lst_len]; exact hashF_congr fun k hk => (getD_lst f hk).symm
def hashR (r f : Int32) (t : IL) (h : Int64) : Int64 := hashL (ltB (bitsT r f t)) (hashL (bitsT r f t) (hashF (fun k => tolF k (rsT r f t) (nI (bitsT r f t).length) (stB (bitsT r f t)) (nI (ltB (bitsT r f t)).length) (clkT r f t)) 5 h))
theorem hr_end {r f : Int32} {t : IL} {fi fe : Nat → Int32} {i1 i2 i3 : Nat} {h h9 h8 h7 : Int64} (e1 : h9 = hashF (fun k => tolF k (rsT r f t) (nI (bitsT r f t).length) (stB (bitsT r f t)) (nI (ltB (bitsT r f t)).length) (clkT r f t)) i1 h)
    (e2 : h8 = hashF (apF fi 0 (bitsT r f t)) i2 h9) (e3 : h7 = hashF (apF fe 0 (ltB (bitsT r f t))) i3 h8) (a1 : i1 ≤ 5) (a2 : 5 ≤ i1) (b1 : i2 ≤ (bitsT r f t).length) (b2 : (bitsT r f t).length ≤ i2) (c1 : i3 ≤ (ltB (bitsT r f t)).length) (c2 : (ltB (bitsT r f t)).length ≤ i3) : h7 = hashR r f t h := by
  obtain rfl : i1 = 5 := by omega
  obtain rfl : i2 = (bitsT r f t).length := by omega
  obtain rfl : i3 = (ltB (bitsT r f t)).length := by omega
  unfold hashR hashL
  rw [e3, e2, e1]
  rw [hashF_congr (f := apF fe 0 (ltB (bitsT r f t))) (f2 := bf (ltB (bitsT r f t))) (fun k hk => apF_in fe _ hk), hashF_congr (f := apF fi 0 (bitsT r f t)) (f2 := bf (bitsT r f t)) (fun k hk => apF_in fi _ hk)]
def shOk (n : Nat) : Bool := (List.range (n + 1)).all fun a => decide (FP.ddiv (FP.i2d (nI a)) (FP.i2d (nI n)) &&& 0x7fffffffffffffff ≤ 0x7ff0000000000000)
def shOks (lo k : Nat) : Bool := (List.range k).all fun i => shOk (lo + i)
theorem shOk_of {lo k n : Nat} (h : shOks lo k = true) (h1 : lo ≤ n) (h2 : n < lo + k) : shOk n = true := by
  have h3 := List.all_eq_true.mp h (n - lo) (List.mem_range.mpr (by omega))
  rw [show lo + (n - lo) = n by omega] at h3; exact h3
set_option maxRecDepth 100000 in
theorem shT0 : shOks 1 60 = true := by decide +kernel
set_option maxRecDepth 100000 in
theorem shT1 : shOks 61 40 = true := by decide +kernel
set_option maxRecDepth 100000 in
theorem shT2 : shOks 101 30 = true := by decide +kernel
set_option maxRecDepth 100000 in
theorem shT3 : shOks 131 25 = true := by decide +kernel
set_option maxRecDepth 100000 in
theorem shT4 : shOks 156 25 = true := by decide +kernel
set_option maxRecDepth 100000 in
theorem shT5 : shOks 181 20 = true := by decide +kernel
theorem sh_nn {a n : Nat} (h0 : 0 < n) (h : a ≤ n) (h2 : n ≤ 200) : vf_n64 (FP.ddiv (FP.i2d (nI a)) (FP.i2d (nI n))) := by
  have h3 : shOk n = true := by
    rcases (show n < 61 ∨ (61 ≤ n ∧ n < 101) ∨ (101 ≤ n ∧ n < 131) ∨ (131 ≤ n ∧ n < 156) ∨ (156 ≤ n ∧ n < 181) ∨ 181 ≤ n by omega) with q | q | q | q | q | q
    · exact shOk_of shT0 (by omega) (by omega)
    · exact shOk_of shT1 (by omega) (by omega)
    · exact shOk_of shT2 (by omega) (by omega)
    · exact shOk_of shT3 (by omega) (by omega)
    · exact shOk_of shT4 (by omega) (by omega)
    · exact shOk_of shT5 (by omega) (by omega)
  have h4 := List.all_eq_true.mp h3 a (List.mem_range.mpr (by omega))
  unfold vf_n64; exact of_decide_eq_true h4
abbrev rm_kX6_ratiosBy : Room := { frames := 7, cells := 0, slots := 0, locals := 149 }
set_option maxHeartbeats 4000000 in
set_option maxRecDepth 100000 in
theorem kX6_ratiosBy (l : Launch) (D : va_G) (ca : Nat → ClassId) (sz : Nat) (om a1 a2 a3 a4 a5 a6 a7 a8 a9 : Nat) (thr sv ln bm br ck sa lm rs at_ tm : Int32) (hs : Int64) (z : Nat) (r f j : Int32) (nt nl : Nat) (gl gt : Nat → Int32) (fi fe : Nat → Int32) (w : Nat) (hnt : nt ≤ 200) (hnl : nl ≤ 20) (hz : z ≤ 30) (hw : w ≤ 2) : Met l yX6_ratiosBy wsX6_ratiosBy rm_kX6_ratiosBy (pcM D ca [.ref om, .int (nI w)] [(om, .inr (6, [.int thr, .ref a1, .ref a2, .ref a3, .int sv, .ref a4, .ref a5, .ref a6, .int ln, .ref a7, .int bm, .int br, .int ck, .int sa, .ref a8, .int lm, .int rs, .int at_, .ref a9, .int tm, .long hs])), (a1, .inl (ca 0, 226, .inl (sF z r f j nt nl gl gt))), (a7, .inl (ca 0, 200, .inl fi)), (a8, .inl (ca 0, 40, .inl fe))] sz) (va_Qi (fun (zr : Int32) (u : Int32 × Int32 × Int32 × Int32 × Int32 × Int32 × (Nat → Int32) × (Nat → Int32)) => zr = tolR w (GLr f (lst gt nt) (lst gl nl) 46) ∧ True) (qB D (va_A [(om, .inr (6, [.int thr, .ref a1, .ref a2, .ref a3, .int sv, .ref a4, .ref a5, .ref a6, .int ln, .ref a7, .int bm, .int br, .int ck, .int sa, .ref a8, .int lm, .int rs, .int at_, .ref a9, .int tm, .long hs])), (a1, .inl (ca 0, 226, .inl (sF z r f j nt nl gl gt))), (a7, .inl (ca 0, 200, .inl fi)), (a8, .inl (ca 0, 40, .inl fe))] sz) (fun u : Int32 × Int32 × Int32 × Int32 × Int32 × Int32 × (Nat → Int32) × (Nat → Int32) => [(om, .inr (6, [.int thr, .ref a1, .ref a2, .ref a3, .int sv, .ref a4, .ref a5, .ref a6, .int ln, .ref a7, .int u.1, .int u.2.1, .int u.2.2.1, .int u.2.2.2.1, .ref a8, .int u.2.2.2.2.1, .int u.2.2.2.2.2.1, .int at_, .ref a9, .int tm, .long hs])), (a1, .inl (ca 0, 226, .inl (sF z r f j nt nl gl gt))), (a7, .inl (ca 0, 200, .inl u.2.2.2.2.2.2.1)), (a8, .inl (ca 0, 40, .inl u.2.2.2.2.2.2.2))])) (va_A [(om, .inr (6, [.int thr, .ref a1, .ref a2, .ref a3, .int sv, .ref a4, .ref a5, .ref a6, .int ln, .ref a7, .int bm, .int br, .int ck, .int sa, .ref a8, .int lm, .int rs, .int at_, .ref a9, .int tm, .long hs])), (a1, .inl (ca 0, 226, .inl (sF z r f j nt nl gl gt))), (a7, .inl (ca 0, 200, .inl fi)), (a8, .inl (ca 0, 40, .inl fe))] sz)) 0 0 (va_A [(om, .inr (6, [.int thr, .ref a1, .ref a2, .ref a3, .int sv, .ref a4, .ref a5, .ref a6, .int ln, .ref a7, .int bm, .int br, .int ck, .int sa, .ref a8, .int lm, .int rs, .int at_, .ref a9, .int tm, .long hs])), (a1, .inl (ca 0, 226, .inl (sF z r f j nt nl gl gt))), (a7, .inl (ca 0, 200, .inl fi)), (a8, .inl (ca 0, 40, .inl fe))] sz) := by
  refine Met.ofW (cc := cX6_ratiosBy) (maxL := 7) (ret := (some .int)) (by decide) rfl ?_
  intro p e s m args below meth c s₁ B hml hv
  obtain ⟨rfl, hsz, hP, hK, hD0⟩ := hv
  have hx := B.exec
  have hb := B.bytes
  have hr := B.returns
  have hts := atoms_spec (ws := wsX6_ratiosBy) B.pre
  have hown : s.vm.findClass RX6 = some m.cls := findClass_of_methodNamed B.named
  have hlocks := B.notSynchronized
  subst hsz
  have hD := hD0.self (sz := s.heap.size)
  generalize hAe : va_A [(om, .inr (6, [.int thr, .ref a1, .ref a2, .ref a3, .int sv, .ref a4, .ref a5, .ref a6, .int ln, .ref a7, .int bm, .int br, .int ck, .int sa, .ref a8, .int lm, .int rs, .int at_, .ref a9, .int tm, .long hs])), (a1, .inl (ca 0, 226, .inl (sF z r f j nt nl gl gt))), (a7, .inl (ca 0, 200, .inl fi)), (a8, .inl (ca 0, 40, .inl fe))] s.heap.size = A at hD ⊢
  have hA : ∀ q : Nat, s.heap.size ≤ q → A q := fun q h => by rw [← hAe]; exact Or.inr h
  have hS : va_S A s.heap s.heap [] := va_S.rf
  have hP : va_P D vwCl [(om, .inr (6, [.int thr, .ref a1, .ref a2, .ref a3, .int sv, .ref a4, .ref a5, .ref a6, .int ln, .ref a7, .int bm, .int br, .int ck, .int sa, .ref a8, .int lm, .int rs, .int at_, .ref a9, .int tm, .long hs])), (a1, .inl (ca 0, 226, .inl (sF z r f j nt nl gl gt))), (a7, .inl (ca 0, 200, .inl fi)), (a8, .inl (ca 0, 40, .inl fe))] s.heap := hP
  have hKv := hK.1
  have hl := lv_entry ([.ref om, .int (nI w)]) (n := 7) (kk_le rfl)
  rw [lg_entry_eq]
  generalize (lg_sl ([.ref om, .int (nI w)]) ++ List.replicate (7 - (lg_sl ([.ref om, .int (nI w)])).length) Slot.unset).toArray = ls at hl ⊢
  have hl : lv_has ls 7 [(0, .ref om), (1, .int (nI w))] := hl
  generalize hQz : MQ below _ _ _ _ _ _ = Qz
  have hiX6 : ∀ w ∈ u_ws RX6 TX6 21, w ∈ wsX6_ratiosBy := fun w h => by first | exact List.mem_cons_of_mem _ (List.mem_append_right _ h) | exact List.mem_cons_of_mem _ (List.mem_append_left _ (List.mem_append_right _ h)) | exact List.mem_cons_of_mem _ (List.mem_append_left _ (List.mem_append_left _ (List.mem_append_right _ h))) | exact List.mem_cons_of_mem _ (List.mem_append_left _ (List.mem_append_left _ (List.mem_append_left _ (List.mem_append_right _ h)))) | (revert w h; decide +kernel)
  have lk7 : (Cond.fieldLink RX6 7 "StripeSwipesModel" "s" "[I").before _ s = true := hts _ (by decide +kernel)
  refine lv_aload_n hx hb dX6_ratiosBy_0 rfl (lv_at hl 0 rfl) ?_
  refine va_get (D := D) (ci := 6) (C := RX6) (T := TX6) (N := 21) hx hb hts hiX6 hown hKv hP 0 rfl rfl 1 (by decide) lk7 (fun _ h9 => h9) rfl dX6_ratiosBy_1 ?_
  refine lv_iconst (v := nI 1) hx hb dX6_ratiosBy_4 (by decide) ?_
  refine my_iald hx hb hK hP 1 rfl (by omega) (by omega) dX6_ratiosBy_5 ?_
  rw [show sF z r f j nt nl gl gt 1 = r from rfl]
  refine lv_istore_n (lv' := [(2, .int r), (0, .ref om), (1, .int (nI w))]) hx hb dX6_ratiosBy_6 rfl hl (by decide) rfl (fun ls hl => ?_)
  refine lv_iconst (v := (-1)) hx hb dX6_ratiosBy_7 (by decide) ?_
  refine lv_istore_n (lv' := [(3, .int (-1)), (2, .int r), (0, .ref om), (1, .int (nI w))]) hx hb dX6_ratiosBy_8 rfl hl (by decide) rfl (fun ls hl => ?_)
  refine lv_iconst (v := (-1)) hx hb dX6_ratiosBy_9 (by decide) ?_
  refine lv_istore (lv' := [(4, .int (-1)), (3, .int (-1)), (2, .int r), (0, .ref om), (1, .int (nI w))]) hx hb dX6_ratiosBy_10 hl (by decide) rfl (fun ls hl => ?_)
  refine lv_iconst (v := nI 0) hx hb dX6_ratiosBy_12 (by decide) ?_
  refine lv_istore (lv' := [(5, .int (nI 0)), (4, .int (-1)), (3, .int (-1)), (2, .int r), (0, .ref om), (1, .int (nI w))]) hx hb dX6_ratiosBy_13 hl (by decide) rfl (fun ls hl => ?_)
  refine lv_bipush (v := nI 50) hx hb dX6_ratiosBy_15 (by decide) ?_
  refine lv_istore (lv' := [(6, .int (nI 50)), (5, .int (nI 0)), (4, .int (-1)), (3, .int (-1)), (2, .int r), (0, .ref om), (1, .int (nI w))]) hx hb dX6_ratiosBy_17 hl (by decide) rfl (fun ls hl => ?_)
  have lp19_0 : ∀ (k1 : Nat) (q i cn : Nat) (le mo9 rr : Int32) (bm2 br2 ck2 sa2 lm2 rs2 : Int32) (fi2 fe2 : Nat → Int32), 46 - i < k1 → (q = 50 + i) → (i ≤ 46) → (cn = (GLr f (lst gt nt) (lst gl nl) i).length) → (le = (GLr f (lst gt nt) (lst gl nl) i).headD (-1)) → (mo9 = (GLr f (lst gt nt) (lst gl nl) i).getLastD (-1)) → ∀ (H : Heap) (locs : List Loc), va_P D vwCl [(om, .inr (6, [.int thr, .ref a1, .ref a2, .ref a3, .int sv, .ref a4, .ref a5, .ref a6, .int ln, .ref a7, .int bm2, .int br2, .int ck2, .int sa2, .ref a8, .int lm2, .int rs2, .int at_, .ref a9, .int tm, .long hs])), (a1, .inl (ca 0, 226, .inl (sF z rr f j nt nl gl gt))), (a7, .inl (ca 0, 200, .inl fi2)), (a8, .inl (ca 0, 40, .inl fe2))] H → va_D A [(om, .inr (6, [.int thr, .ref a1, .ref a2, .ref a3, .int sv, .ref a4, .ref a5, .ref a6, .int ln, .ref a7, .int bm2, .int br2, .int ck2, .int sa2, .ref a8, .int lm2, .int rs2, .int at_, .ref a9, .int tm, .long hs])), (a1, .inl (ca 0, 226, .inl (sF z rr f j nt nl gl gt))), (a7, .inl (ca 0, 200, .inl fi2)), (a8, .inl (ca 0, 40, .inl fe2))] → va_S A s.heap H locs → ∀ (ls : Array Slot), lv_has ls 7 [(6, .int (nI q)), (5, .int (nI cn)), (4, .int mo9), (3, .int le), (2, .int r), (0, .ref om), (1, .int (nI w))] → W p l e rm_kX6_ratiosBy s m ([.ref om, .int (nI w)] : List Value).toArray below meth c H locs 0 0 Qz (F0 m 19 ls []) := by
    intro k1
    induction k1 with
    | zero => intro q i cn le mo9 rr bm2 br2 ck2 sa2 lm2 rs2 fi2 fe2 hm1; exact absurd hm1 (Nat.not_lt_zero _)
    | succ k1 ih1 =>
      intro q i cn le mo9 rr bm2 br2 ck2 sa2 lm2 rs2 fi2 fe2 hm1 hq hi hcn hle hmo H locs hP hD hS ls hl
      refine lv_iload hx hb dX6_ratiosBy_19 (lv_at hl 0 rfl) ?_
      refine lv_bipush (v := nI 95) hx hb dX6_ratiosBy_21 (by decide) ?_
      refine ni_icmp_gt (tgt := 66) (by omega) (by omega) hx hb dX6_ratiosBy_23 (by decide) (fun c2 => ?_) (fun c2 => ?_)
      · refine lv_aload_n hx hb dX6_ratiosBy_66 rfl (lv_at hl 5 rfl) ?_
        refine va_get (D := D) (ci := 6) (C := RX6) (T := TX6) (N := 21) hx hb hts hiX6 hown hKv hP 0 rfl rfl 1 (by decide) lk7 (fun _ h9 => h9) rfl dX6_ratiosBy_67 ?_
        refine lv_iconst (v := nI 1) hx hb dX6_ratiosBy_70 (by decide) ?_
        refine lv_iload_n hx hb dX6_ratiosBy_71 rfl (lv_at hl 4 rfl) ?_
        refine my_iast hx hb hK hP hD hS 1 rfl (by omega) (by omega) dX6_ratiosBy_72 (fun H locs hP hD hS => ?_)
        have hP : va_P D vwCl [(om, .inr (6, [.int thr, .ref a1, .ref a2, .ref a3, .int sv, .ref a4, .ref a5, .ref a6, .int ln, .ref a7, .int bm2, .int br2, .int ck2, .int sa2, .ref a8, .int lm2, .int rs2, .int at_, .ref a9, .int tm, .long hs])), (a1, .inl (ca 0, 226, .inl (upd (sF z rr f j nt nl gl gt) 1 r))), (a7, .inl (ca 0, 200, .inl fi2)), (a8, .inl (ca 0, 40, .inl fe2))] H := hP
        have hD : va_D A [(om, .inr (6, [.int thr, .ref a1, .ref a2, .ref a3, .int sv, .ref a4, .ref a5, .ref a6, .int ln, .ref a7, .int bm2, .int br2, .int ck2, .int sa2, .ref a8, .int lm2, .int rs2, .int at_, .ref a9, .int tm, .long hs])), (a1, .inl (ca 0, 226, .inl (upd (sF z rr f j nt nl gl gt) 1 r))), (a7, .inl (ca 0, 200, .inl fi2)), (a8, .inl (ca 0, 40, .inl fe2))] := hD
        have e3 : (upd (sF z rr f j nt nl gl gt) 1 r : Nat → Int32) = sF z r f j nt nl gl gt := sF_w1 _ _ _ _ _ _ _ _ _
        have hP : va_P D vwCl [(om, .inr (6, [.int thr, .ref a1, .ref a2, .ref a3, .int sv, .ref a4, .ref a5, .ref a6, .int ln, .ref a7, .int bm2, .int br2, .int ck2, .int sa2, .ref a8, .int lm2, .int rs2, .int at_, .ref a9, .int tm, .long hs])), (a1, .inl (ca 0, 226, .inl (sF z r f j nt nl gl gt))), (a7, .inl (ca 0, 200, .inl fi2)), (a8, .inl (ca 0, 40, .inl fe2))] H := Eq.mp (congrArg (fun z9 : Nat → Int32 => va_P D vwCl [(om, .inr (6, [.int thr, .ref a1, .ref a2, .ref a3, .int sv, .ref a4, .ref a5, .ref a6, .int ln, .ref a7, .int bm2, .int br2, .int ck2, .int sa2, .ref a8, .int lm2, .int rs2, .int at_, .ref a9, .int tm, .long hs])), (a1, .inl (ca 0, 226, .inl z9)), (a7, .inl (ca 0, 200, .inl fi2)), (a8, .inl (ca 0, 40, .inl fe2))] H) e3) hP
        have hD : va_D A [(om, .inr (6, [.int thr, .ref a1, .ref a2, .ref a3, .int sv, .ref a4, .ref a5, .ref a6, .int ln, .ref a7, .int bm2, .int br2, .int ck2, .int sa2, .ref a8, .int lm2, .int rs2, .int at_, .ref a9, .int tm, .long hs])), (a1, .inl (ca 0, 226, .inl (sF z r f j nt nl gl gt))), (a7, .inl (ca 0, 200, .inl fi2)), (a8, .inl (ca 0, 40, .inl fe2))] := Eq.mp (congrArg (fun z9 : Nat → Int32 => va_D A [(om, .inr (6, [.int thr, .ref a1, .ref a2, .ref a3, .int sv, .ref a4, .ref a5, .ref a6, .int ln, .ref a7, .int bm2, .int br2, .int ck2, .int sa2, .ref a8, .int lm2, .int rs2, .int at_, .ref a9, .int tm, .long hs])), (a1, .inl (ca 0, 226, .inl z9)), (a7, .inl (ca 0, 200, .inl fi2)), (a8, .inl (ca 0, 40, .inl fe2))]) e3) hD
        refine lv_iload_n hx hb dX6_ratiosBy_73 rfl (lv_at hl 6 rfl) ?_
        refine ni_if_ne (tgt := 81) (by omega) hx hb dX6_ratiosBy_74 (by decide) (fun c4 => ?_) (fun c4 => ?_)
        · refine lv_iload_n hx hb dX6_ratiosBy_81 rfl (lv_at hl 6 rfl) ?_
          refine lv_iconst (v := nI 1) hx hb dX6_ratiosBy_82 (by decide) ?_
          refine ni_icmp_ne (tgt := 91) (by omega) (by omega) hx hb dX6_ratiosBy_83 (by decide) (fun c5 => ?_) (fun c5 => ?_)
          · refine lv_iload hx hb dX6_ratiosBy_91 (lv_at hl 1 rfl) ?_
            subst hQz
            exact W.iret (v := nI cn) hx hb hr (fun t ht hW => ⟨⟨_, (bm2, br2, ck2, sa2, lm2, rs2, fi2, fe2), rfl, ⟨by first | exact gl_e0 (by omega) (by omega) hle | exact gl_e1 (by omega) (by omega) hmo | exact gl_e2 (by omega) (by omega) hcn, by trivial⟩, by rw [ht]; exact hP, hD⟩, hS.F ht⟩) hS.2.2 dX6_ratiosBy_93
          · refine lv_iload hx hb dX6_ratiosBy_86 (lv_at hl 2 rfl) ?_
            refine lv_goto (tgt := 93) hx hb dX6_ratiosBy_88 (by decide) ?_
            subst hQz
            exact W.iret (v := mo9) hx hb hr (fun t ht hW => ⟨⟨_, (bm2, br2, ck2, sa2, lm2, rs2, fi2, fe2), rfl, ⟨by first | exact gl_e0 (by omega) (by omega) hle | exact gl_e1 (by omega) (by omega) hmo | exact gl_e2 (by omega) (by omega) hcn, by trivial⟩, by rw [ht]; exact hP, hD⟩, hS.F ht⟩) hS.2.2 dX6_ratiosBy_93
        · refine lv_iload_n hx hb dX6_ratiosBy_77 rfl (lv_at hl 3 rfl) ?_
          refine lv_goto (tgt := 93) hx hb dX6_ratiosBy_78 (by decide) ?_
          subst hQz
          exact W.iret (v := le) hx hb hr (fun t ht hW => ⟨⟨_, (bm2, br2, ck2, sa2, lm2, rs2, fi2, fe2), rfl, ⟨by first | exact gl_e0 (by omega) (by omega) hle | exact gl_e1 (by omega) (by omega) hmo | exact gl_e2 (by omega) (by omega) hcn, by trivial⟩, by rw [ht]; exact hP, hD⟩, hS.F ht⟩) hS.2.2 dX6_ratiosBy_93
      · refine lv_aload_n hx hb dX6_ratiosBy_26 rfl (lv_at hl 5 rfl) ?_
        refine va_get (D := D) (ci := 6) (C := RX6) (T := TX6) (N := 21) hx hb hts hiX6 hown hKv hP 0 rfl rfl 1 (by decide) lk7 (fun _ h9 => h9) rfl dX6_ratiosBy_27 ?_
        refine lv_iconst (v := nI 1) hx hb dX6_ratiosBy_30 (by decide) ?_
        refine lv_iload hx hb dX6_ratiosBy_31 (lv_at hl 0 rfl) ?_
        refine my_iast hx hb hK hP hD hS 1 rfl (by omega) (by omega) dX6_ratiosBy_33 (fun H locs hP hD hS => ?_)
        have hP : va_P D vwCl [(om, .inr (6, [.int thr, .ref a1, .ref a2, .ref a3, .int sv, .ref a4, .ref a5, .ref a6, .int ln, .ref a7, .int bm2, .int br2, .int ck2, .int sa2, .ref a8, .int lm2, .int rs2, .int at_, .ref a9, .int tm, .long hs])), (a1, .inl (ca 0, 226, .inl (upd (sF z rr f j nt nl gl gt) 1 (nI q)))), (a7, .inl (ca 0, 200, .inl fi2)), (a8, .inl (ca 0, 40, .inl fe2))] H := hP
        have hD : va_D A [(om, .inr (6, [.int thr, .ref a1, .ref a2, .ref a3, .int sv, .ref a4, .ref a5, .ref a6, .int ln, .ref a7, .int bm2, .int br2, .int ck2, .int sa2, .ref a8, .int lm2, .int rs2, .int at_, .ref a9, .int tm, .long hs])), (a1, .inl (ca 0, 226, .inl (upd (sF z rr f j nt nl gl gt) 1 (nI q)))), (a7, .inl (ca 0, 200, .inl fi2)), (a8, .inl (ca 0, 40, .inl fe2))] := hD
        have e6 : (upd (sF z rr f j nt nl gl gt) 1 (nI q) : Nat → Int32) = sF z (nI q) f j nt nl gl gt := sF_w1 _ _ _ _ _ _ _ _ _
        have hP : va_P D vwCl [(om, .inr (6, [.int thr, .ref a1, .ref a2, .ref a3, .int sv, .ref a4, .ref a5, .ref a6, .int ln, .ref a7, .int bm2, .int br2, .int ck2, .int sa2, .ref a8, .int lm2, .int rs2, .int at_, .ref a9, .int tm, .long hs])), (a1, .inl (ca 0, 226, .inl (sF z (nI q) f j nt nl gl gt))), (a7, .inl (ca 0, 200, .inl fi2)), (a8, .inl (ca 0, 40, .inl fe2))] H := Eq.mp (congrArg (fun z9 : Nat → Int32 => va_P D vwCl [(om, .inr (6, [.int thr, .ref a1, .ref a2, .ref a3, .int sv, .ref a4, .ref a5, .ref a6, .int ln, .ref a7, .int bm2, .int br2, .int ck2, .int sa2, .ref a8, .int lm2, .int rs2, .int at_, .ref a9, .int tm, .long hs])), (a1, .inl (ca 0, 226, .inl z9)), (a7, .inl (ca 0, 200, .inl fi2)), (a8, .inl (ca 0, 40, .inl fe2))] H) e6) hP
        have hD : va_D A [(om, .inr (6, [.int thr, .ref a1, .ref a2, .ref a3, .int sv, .ref a4, .ref a5, .ref a6, .int ln, .ref a7, .int bm2, .int br2, .int ck2, .int sa2, .ref a8, .int lm2, .int rs2, .int at_, .ref a9, .int tm, .long hs])), (a1, .inl (ca 0, 226, .inl (sF z (nI q) f j nt nl gl gt))), (a7, .inl (ca 0, 200, .inl fi2)), (a8, .inl (ca 0, 40, .inl fe2))] := Eq.mp (congrArg (fun z9 : Nat → Int32 => va_D A [(om, .inr (6, [.int thr, .ref a1, .ref a2, .ref a3, .int sv, .ref a4, .ref a5, .ref a6, .int ln, .ref a7, .int bm2, .int br2, .int ck2, .int sa2, .ref a8, .int lm2, .int rs2, .int at_, .ref a9, .int tm, .long hs])), (a1, .inl (ca 0, 226, .inl z9)), (a7, .inl (ca 0, 200, .inl fi2)), (a8, .inl (ca 0, 40, .inl fe2))]) e6) hD
        refine lv_aload_n hx hb dX6_ratiosBy_34 rfl (lv_at hl 5 rfl) ?_
        have hPc := hP
        have hDc := hD
        have hFc := va_free (wc := [(om, .inr (6, [.int thr, .ref a1, .ref a2, .ref a3, .int sv, .ref a4, .ref a5, .ref a6, .int ln, .ref a7, .int bm2, .int br2, .int ck2, .int sa2, .ref a8, .int lm2, .int rs2, .int at_, .ref a9, .int tm, .long hs])), (a1, .inl (ca 0, 226, .inl (sF z (nI q) f j nt nl gl gt))), (a7, .inl (ca 0, 200, .inl fi2)), (a8, .inl (ca 0, 40, .inl fe2))]) hD hS hA [0, 1, 2, 3] rfl
        refine va_calli (va_runV (As := []) (rest := []) ⟨hx, hb, hml, hown, hts⟩ (kX6_right l D ca H.size om a1 a2 a3 a4 a5 a6 a7 a8 a9 thr sv ln bm2 br2 ck2 sa2 lm2 rs2 at_ tm hs z (nI q) f j nt nl gl gt fi2 fe2 (by first | rfl | assumption | omega | trivial | (exfalso; omega)) (by first | rfl | assumption | omega | trivial | (exfalso; omega)) (by first | rfl | assumption | omega | trivial | (exfalso; omega))) (cwV 0 hts gX6_ratiosBy_X6_right rfl rfl rfl (by decide +kernel) ⟨kk_le rfl, kk_le rfl⟩) (pvM hK hPc (my_D_true hDc) (va_recv hKv hP (ci := 6) (q0 := 0) rfl rfl)) rfl rfl hl.1 rfl (lv_room (kk_le rfl)) dX6_ratiosBy_35 ⟨kk_le rfl, kk_le rfl⟩) hS (fun q _ h => hFc q h) hFc (fun r7 u t H1 locs ht hvm hwv hBv hz1 hk1 hS => ?_)
        obtain ⟨hP1, hD1⟩ := hBv
        rw [ht] at hP1
        obtain ⟨u7_0, u7_1, u7_2, u7_3, u7_4, u7_5, u7_6, u7_7⟩ := u
        have hP1 : va_P D vwCl [(om, .inr (6, [.int thr, .ref a1, .ref a2, .ref a3, .int sv, .ref a4, .ref a5, .ref a6, .int ln, .ref a7, .int u7_0, .int u7_1, .int u7_2, .int u7_3, .ref a8, .int u7_4, .int u7_5, .int at_, .ref a9, .int tm, .long hs])), (a1, .inl (ca 0, 226, .inl (sF z (nI q) f j nt nl gl gt))), (a7, .inl (ca 0, 200, .inl u7_6)), (a8, .inl (ca 0, 40, .inl u7_7))] H1 := hP1
        have hD1 : va_D _ [(om, .inr (6, [.int thr, .ref a1, .ref a2, .ref a3, .int sv, .ref a4, .ref a5, .ref a6, .int ln, .ref a7, .int u7_0, .int u7_1, .int u7_2, .int u7_3, .ref a8, .int u7_4, .int u7_5, .int at_, .ref a9, .int tm, .long hs])), (a1, .inl (ca 0, 226, .inl (sF z (nI q) f j nt nl gl gt))), (a7, .inl (ca 0, 200, .inl u7_6)), (a8, .inl (ca 0, 40, .inl u7_7))] := hD1
        obtain ⟨hr7, hw7⟩ := hwv
        subst hr7
        have hP := hP1
        have hD := hD1.weaken (fun _ _ _ h => hFc _ h)
        generalize H1 = H at hP hS ⊢
        have hP : va_P D vwCl [(om, .inr (6, [.int thr, .ref a1, .ref a2, .ref a3, .int sv, .ref a4, .ref a5, .ref a6, .int ln, .ref a7, .int u7_0, .int u7_1, .int u7_2, .int u7_3, .ref a8, .int u7_4, .int u7_5, .int at_, .ref a9, .int tm, .long hs])), (a1, .inl (ca 0, 226, .inl (sF z (nI q) f j nt nl gl gt))), (a7, .inl (ca 0, 200, .inl u7_6)), (a8, .inl (ca 0, 40, .inl u7_7))] H := hP
        have hD : va_D A [(om, .inr (6, [.int thr, .ref a1, .ref a2, .ref a3, .int sv, .ref a4, .ref a5, .ref a6, .int ln, .ref a7, .int u7_0, .int u7_1, .int u7_2, .int u7_3, .ref a8, .int u7_4, .int u7_5, .int at_, .ref a9, .int tm, .long hs])), (a1, .inl (ca 0, 226, .inl (sF z (nI q) f j nt nl gl gt))), (a7, .inl (ca 0, 200, .inl u7_6)), (a8, .inl (ca 0, 40, .inl u7_7))] := hD
        refine lv_if_le (tgt := 60) hx hb dX6_ratiosBy_38 (by decide) (fun c9 => ?_) (fun c9 => ?_)
        · refine lv_iinc (v := nI (q + 1)) (lv' := [(6, .int (nI (q + 1))), (5, .int (nI cn)), (4, .int mo9), (3, .int le), (2, .int r), (0, .ref om), (1, .int (nI w))]) hx hb dX6_ratiosBy_60 hl (k := 0) rfl (ni_inc _ _ (by decide)) (by decide) rfl (fun ls hl => ?_)
          refine lv_goto (tgt := 19) hx hb dX6_ratiosBy_63 (by decide) ?_
          exact ih1 (q + 1) (i + 1) cn le mo9 (nI q) u7_0 u7_1 u7_2 u7_3 u7_4 u7_5 u7_6 u7_7 (by omega) (by omega) (by omega) (by first | exact gl_n1 hq hcn (by assumption) | exact gl_n0 hq hcn (by assumption)) (by first | exact gl_h1 hq hle (by assumption) (by assumption) | exact gl_h2 hq hle (by assumption) (by assumption) | exact gl_h0 hq hle (by assumption)) (by first | exact gl_l1 hq (by assumption) | exact gl_l0 hq hmo (by assumption)) _ _ hP hD hS ls (lv_sub hl [0, 1, 2, 3, 4, 5, 6] rfl)
        · refine lv_iload_n hx hb dX6_ratiosBy_41 rfl (lv_at hl 3 rfl) ?_
          refine lv_iconst (v := (-1)) hx hb dX6_ratiosBy_42 (by decide) ?_
          refine lv_icmp_ne (tgt := 51) hx hb dX6_ratiosBy_43 (by decide) (fun c10 => ?_) (fun c10 => ?_)
          · refine lv_iload_n hx hb dX6_ratiosBy_51 rfl (lv_at hl 3 rfl) ?_
            refine lv_istore_n (lv' := [(3, .int le), (6, .int (nI q)), (5, .int (nI cn)), (4, .int mo9), (2, .int r), (0, .ref om), (1, .int (nI w))]) hx hb dX6_ratiosBy_52 rfl hl (by decide) rfl (fun ls hl => ?_)
            refine lv_iload hx hb dX6_ratiosBy_53 (lv_at hl 1 rfl) ?_
            refine lv_istore (lv' := [(4, .int (nI q)), (3, .int le), (6, .int (nI q)), (5, .int (nI cn)), (2, .int r), (0, .ref om), (1, .int (nI w))]) hx hb dX6_ratiosBy_55 hl (by decide) rfl (fun ls hl => ?_)
            refine lv_iinc (v := nI (cn + 1)) (lv' := [(5, .int (nI (cn + 1))), (4, .int (nI q)), (3, .int le), (6, .int (nI q)), (2, .int r), (0, .ref om), (1, .int (nI w))]) hx hb dX6_ratiosBy_57 hl (k := 3) rfl (ni_inc _ _ (by decide)) (by decide) rfl (fun ls hl => ?_)
            refine lv_iinc (v := nI (q + 1)) (lv' := [(6, .int (nI (q + 1))), (5, .int (nI (cn + 1))), (4, .int (nI q)), (3, .int le), (2, .int r), (0, .ref om), (1, .int (nI w))]) hx hb dX6_ratiosBy_60 hl (k := 3) rfl (ni_inc _ _ (by decide)) (by decide) rfl (fun ls hl => ?_)
            refine lv_goto (tgt := 19) hx hb dX6_ratiosBy_63 (by decide) ?_
            exact ih1 (q + 1) (i + 1) (cn + 1) le (nI q) (nI q) u7_0 u7_1 u7_2 u7_3 u7_4 u7_5 u7_6 u7_7 (by omega) (by omega) (by omega) (by first | exact gl_n1 hq hcn (by assumption) | exact gl_n0 hq hcn (by assumption)) (by first | exact gl_h1 hq hle (by assumption) (by assumption) | exact gl_h2 hq hle (by assumption) (by assumption) | exact gl_h0 hq hle (by assumption)) (by first | exact gl_l1 hq (by assumption) | exact gl_l0 hq hmo (by assumption)) _ _ hP hD hS ls (lv_sub hl [0, 1, 2, 3, 4, 5, 6] rfl)
          · refine lv_iload hx hb dX6_ratiosBy_46 (lv_at hl 0 rfl) ?_
            refine lv_goto (tgt := 52) hx hb dX6_ratiosBy_48 (by decide) ?_
            refine lv_istore_n (lv' := [(3, .int (nI q)), (6, .int (nI q)), (5, .int (nI cn)), (4, .int mo9), (2, .int r), (0, .ref om), (1, .int (nI w))]) hx hb dX6_ratiosBy_52 rfl hl (by decide) rfl (fun ls hl => ?_)
            refine lv_iload hx hb dX6_ratiosBy_53 (lv_at hl 1 rfl) ?_
            refine lv_istore (lv' := [(4, .int (nI q)), (3, .int (nI q)), (6, .int (nI q)), (5, .int (nI cn)), (2, .int r), (0, .ref om), (1, .int (nI w))]) hx hb dX6_ratiosBy_55 hl (by decide) rfl (fun ls hl => ?_)
            refine lv_iinc (v := nI (cn + 1)) (lv' := [(5, .int (nI (cn + 1))), (4, .int (nI q)), (3, .int (nI q)), (6, .int (nI q)), (2, .int r), (0, .ref om), (1, .int (nI w))]) hx hb dX6_ratiosBy_57 hl (k := 3) rfl (ni_inc _ _ (by decide)) (by decide) rfl (fun ls hl => ?_)
            refine lv_iinc (v := nI (q + 1)) (lv' := [(6, .int (nI (q + 1))), (5, .int (nI (cn + 1))), (4, .int (nI q)), (3, .int (nI q)), (2, .int r), (0, .ref om), (1, .int (nI w))]) hx hb dX6_ratiosBy_60 hl (k := 3) rfl (ni_inc _ _ (by decide)) (by decide) rfl (fun ls hl => ?_)
            refine lv_goto (tgt := 19) hx hb dX6_ratiosBy_63 (by decide) ?_
            exact ih1 (q + 1) (i + 1) (cn + 1) (nI q) (nI q) (nI q) u7_0 u7_1 u7_2 u7_3 u7_4 u7_5 u7_6 u7_7 (by omega) (by omega) (by omega) (by first | exact gl_n1 hq hcn (by assumption) | exact gl_n0 hq hcn (by assumption)) (by first | exact gl_h1 hq hle (by assumption) (by assumption) | exact gl_h2 hq hle (by assumption) (by assumption) | exact gl_h0 hq hle (by assumption)) (by first | exact gl_l1 hq (by assumption) | exact gl_l0 hq hmo (by assumption)) _ _ hP hD hS ls (lv_sub hl [0, 1, 2, 3, 4, 5, 6] rfl)
  exact lp19_0 ((46 - 0) + 1) 50 0 0 (-1) (-1) r bm br ck sa lm rs fi fe (by omega) (by omega) (by omega) (by rfl) (by rfl) (by rfl) _ _ hP hD hS ls (lv_sub hl [0, 1, 2, 3, 4, 5, 6] rfl)
abbrev rm_kX6_mostJerk : Room := { frames := 6, cells := 0, slots := 0, locals := 129 }
set_option maxHeartbeats 4000000 in
set_option maxRecDepth 100000 in
theorem kX6_mostJerk (l : Launch) (D : va_G) (ca : Nat → ClassId) (sz : Nat) (om a1 a2 a3 a4 a5 a6 a7 a8 a9 : Nat) (thr sv ln bm br ck sa lm rs at_ tm : Int32) (hs : Int64) (z : Nat) (r f j : Int32) (nt nl : Nat) (gl gt : Nat → Int32) (fa fi fe : Nat → Int32) (hnt : nt ≤ 200) (hnl : nl ≤ 20) (hz : z ≤ 30) : Met l yX6_mostJerk wsX6_mostJerk rm_kX6_mostJerk (pcM D ca [.ref om] [(om, .inr (6, [.int thr, .ref a1, .ref a2, .ref a3, .int sv, .ref a4, .ref a5, .ref a6, .int ln, .ref a7, .int bm, .int br, .int ck, .int sa, .ref a8, .int lm, .int rs, .int at_, .ref a9, .int tm, .long hs])), (a1, .inl (ca 0, 226, .inl (sF z r f j nt nl gl gt))), (a2, .inl (ca 0, 226, .inl fa)), (a7, .inl (ca 0, 200, .inl fi)), (a8, .inl (ca 0, 40, .inl fe))] sz) (va_Qi (fun (zr : Int32) (u : Int32 × Int32 × Int32 × Int32 × Int32 × Int32 × (Nat → Int32) × (Nat → Int32) × (Nat → Int32)) => zr = jkT z r f (lst gl nl) ∧ True) (qB D (va_A [(om, .inr (6, [.int thr, .ref a1, .ref a2, .ref a3, .int sv, .ref a4, .ref a5, .ref a6, .int ln, .ref a7, .int bm, .int br, .int ck, .int sa, .ref a8, .int lm, .int rs, .int at_, .ref a9, .int tm, .long hs])), (a1, .inl (ca 0, 226, .inl (sF z r f j nt nl gl gt))), (a2, .inl (ca 0, 226, .inl fa)), (a7, .inl (ca 0, 200, .inl fi)), (a8, .inl (ca 0, 40, .inl fe))] sz) (fun u : Int32 × Int32 × Int32 × Int32 × Int32 × Int32 × (Nat → Int32) × (Nat → Int32) × (Nat → Int32) => [(om, .inr (6, [.int thr, .ref a1, .ref a2, .ref a3, .int sv, .ref a4, .ref a5, .ref a6, .int ln, .ref a7, .int u.1, .int u.2.1, .int u.2.2.1, .int u.2.2.2.1, .ref a8, .int u.2.2.2.2.1, .int u.2.2.2.2.2.1, .int at_, .ref a9, .int tm, .long hs])), (a1, .inl (ca 0, 226, .inl (sF z r f j nt nl gl gt))), (a2, .inl (ca 0, 226, .inl u.2.2.2.2.2.2.1)), (a7, .inl (ca 0, 200, .inl u.2.2.2.2.2.2.2.1)), (a8, .inl (ca 0, 40, .inl u.2.2.2.2.2.2.2.2))])) (va_A [(om, .inr (6, [.int thr, .ref a1, .ref a2, .ref a3, .int sv, .ref a4, .ref a5, .ref a6, .int ln, .ref a7, .int bm, .int br, .int ck, .int sa, .ref a8, .int lm, .int rs, .int at_, .ref a9, .int tm, .long hs])), (a1, .inl (ca 0, 226, .inl (sF z r f j nt nl gl gt))), (a2, .inl (ca 0, 226, .inl fa)), (a7, .inl (ca 0, 200, .inl fi)), (a8, .inl (ca 0, 40, .inl fe))] sz)) 0 0 (va_A [(om, .inr (6, [.int thr, .ref a1, .ref a2, .ref a3, .int sv, .ref a4, .ref a5, .ref a6, .int ln, .ref a7, .int bm, .int br, .int ck, .int sa, .ref a8, .int lm, .int rs, .int at_, .ref a9, .int tm, .long hs])), (a1, .inl (ca 0, 226, .inl (sF z r f j nt nl gl gt))), (a2, .inl (ca 0, 226, .inl fa)), (a7, .inl (ca 0, 200, .inl fi)), (a8, .inl (ca 0, 40, .inl fe))] sz) := by
  refine Met.ofW (cc := cX6_mostJerk) (maxL := 3) (ret := (some .int)) (by decide) rfl ?_
  intro p e s m args below meth c s₁ B hml hv
  obtain ⟨rfl, hsz, hP, hK, hD0⟩ := hv
  have hx := B.exec
  have hb := B.bytes
  have hr := B.returns
  have hts := atoms_spec (ws := wsX6_mostJerk) B.pre
  have hown : s.vm.findClass RX6 = some m.cls := findClass_of_methodNamed B.named
  have hlocks := B.notSynchronized
  subst hsz
  have hD := hD0.self (sz := s.heap.size)
  generalize hAe : va_A [(om, .inr (6, [.int thr, .ref a1, .ref a2, .ref a3, .int sv, .ref a4, .ref a5, .ref a6, .int ln, .ref a7, .int bm, .int br, .int ck, .int sa, .ref a8, .int lm, .int rs, .int at_, .ref a9, .int tm, .long hs])), (a1, .inl (ca 0, 226, .inl (sF z r f j nt nl gl gt))), (a2, .inl (ca 0, 226, .inl fa)), (a7, .inl (ca 0, 200, .inl fi)), (a8, .inl (ca 0, 40, .inl fe))] s.heap.size = A at hD ⊢
  have hA : ∀ q : Nat, s.heap.size ≤ q → A q := fun q h => by rw [← hAe]; exact Or.inr h
  have hS : va_S A s.heap s.heap [] := va_S.rf
  have hP : va_P D vwCl [(om, .inr (6, [.int thr, .ref a1, .ref a2, .ref a3, .int sv, .ref a4, .ref a5, .ref a6, .int ln, .ref a7, .int bm, .int br, .int ck, .int sa, .ref a8, .int lm, .int rs, .int at_, .ref a9, .int tm, .long hs])), (a1, .inl (ca 0, 226, .inl (sF z r f j nt nl gl gt))), (a2, .inl (ca 0, 226, .inl fa)), (a7, .inl (ca 0, 200, .inl fi)), (a8, .inl (ca 0, 40, .inl fe))] s.heap := hP
  have hKv := hK.1
  have hl := lv_entry ([.ref om]) (n := 3) (kk_le rfl)
  rw [lg_entry_eq]
  generalize (lg_sl ([.ref om]) ++ List.replicate (3 - (lg_sl ([.ref om])).length) Slot.unset).toArray = ls at hl ⊢
  have hl : lv_has ls 3 [(0, .ref om)] := hl
  generalize hQz : MQ below _ _ _ _ _ _ = Qz
  have hon9 := onesN_le (strp z (lst gl nl)); rw [strp_len, lst_len] at hon9
  have hiX6 : ∀ w ∈ u_ws RX6 TX6 21, w ∈ wsX6_mostJerk := fun w h => by first | exact List.mem_cons_of_mem _ (List.mem_append_right _ h) | exact List.mem_cons_of_mem _ (List.mem_append_left _ (List.mem_append_right _ h)) | exact List.mem_cons_of_mem _ (List.mem_append_left _ (List.mem_append_left _ (List.mem_append_right _ h))) | exact List.mem_cons_of_mem _ (List.mem_append_left _ (List.mem_append_left _ (List.mem_append_left _ (List.mem_append_right _ h)))) | (revert w h; decide +kernel)
  have lk7 : (Cond.fieldLink RX6 7 "StripeSwipesModel" "s" "[I").before _ s = true := hts _ (by decide +kernel)
  refine lv_aload_n hx hb dX6_mostJerk_0 rfl (lv_at hl 0 rfl) ?_
  refine va_get (D := D) (ci := 6) (C := RX6) (T := TX6) (N := 21) hx hb hts hiX6 hown hKv hP 0 rfl rfl 1 (by decide) lk7 (fun _ h9 => h9) rfl dX6_mostJerk_1 ?_
  refine lv_iconst (v := nI 5) hx hb dX6_mostJerk_4 (by decide) ?_
  refine my_iald hx hb hK hP 1 rfl (by omega) (by omega) dX6_mostJerk_5 ?_
  rw [show sF z r f j nt nl gl gt 5 = nI nl from rfl]
  refine ni_if_eq (tgt := 19) (by omega) hx hb dX6_mostJerk_6 (by decide) (fun c1 => ?_) (fun c1 => ?_)
  · refine lv_iconst (v := (-1)) hx hb dX6_mostJerk_19 (by decide) ?_
    subst hQz
    exact W.iret (v := (-1)) hx hb hr (fun t ht hW => ⟨⟨_, (bm, br, ck, sa, lm, rs, fa, fi, fe), rfl, ⟨by first | exact jk_e0 (by omega) | exact jk_e1 (by omega), by trivial⟩, by rw [ht]; exact hP, hD⟩, hS.F ht⟩) hS.2.2 dX6_mostJerk_20
  · refine lv_aload_n hx hb dX6_mostJerk_9 rfl (lv_at hl 0 rfl) ?_
    refine vp_callSi (va_Run.run (va_runV (As := []) (rest := []) ⟨hx, hb, hml, hown, hts⟩ (kX6_swipeMany l D ca om a1 a2 a3 a4 a5 a6 a7 a8 a9 thr sv ln bm br ck sa lm rs at_ tm hs z r f j nt nl gl gt (by first | rfl | assumption | omega | trivial | (exfalso; omega)) (by first | rfl | assumption | omega | trivial | (exfalso; omega)) (by first | rfl | assumption | omega | trivial | (exfalso; omega))) (cwV 0 hts gX6_mostJerk_X6_swipeMany rfl rfl rfl (by decide +kernel) ⟨kk_le rfl, kk_le rfl⟩) (pvR hK (hP.sub (ws' := [(om, .inr (6, [.int thr, .ref a1, .ref a2, .ref a3, .int sv, .ref a4, .ref a5, .ref a6, .int ln, .ref a7, .int bm, .int br, .int ck, .int sa, .ref a8, .int lm, .int rs, .int at_, .ref a9, .int tm, .long hs])), (a1, .inl (ca 0, 226, .inl (sF z r f j nt nl gl gt)))]) [0, 1] rfl) (va_recv hKv hP (ci := 6) (q0 := 0) rfl rfl)) rfl rfl hl.1 rfl (lv_room (kk_le rfl)) dX6_mostJerk_10 ⟨kk_le rfl, kk_le rfl⟩)) (fun r2 hr2 => ?_)
    subst hr2
    refine lv_sipush (v := nI 200) hx hb dX6_mostJerk_13 (by decide) ?_
    refine ni_icmp_le (tgt := 21) (by omega) (by omega) hx hb dX6_mostJerk_16 (by decide) (fun c3 => ?_) (fun c3 => ?_)
    · refine lv_bipush (v := nI 40) hx hb dX6_mostJerk_21 (by decide) ?_
      refine lv_istore_n (lv' := [(1, .int (nI 40)), (0, .ref om)]) hx hb dX6_mostJerk_23 rfl hl (by decide) rfl (fun ls hl => ?_)
      refine lv_iconst (v := nI 0) hx hb dX6_mostJerk_24 (by decide) ?_
      refine lv_istore_n (lv' := [(2, .int (nI 0)), (1, .int (nI 40)), (0, .ref om)]) hx hb dX6_mostJerk_25 rfl hl (by decide) rfl (fun ls hl => ?_)
      refine lv_aload_n hx hb dX6_mostJerk_26 rfl (lv_at hl 2 rfl) ?_
      have hPc := hP.sub (ws' := [(om, .inr (6, [.int thr, .ref a1, .ref a2, .ref a3, .int sv, .ref a4, .ref a5, .ref a6, .int ln, .ref a7, .int bm, .int br, .int ck, .int sa, .ref a8, .int lm, .int rs, .int at_, .ref a9, .int tm, .long hs])), (a1, .inl (ca 0, 226, .inl (sF z r f j nt nl gl gt))), (a2, .inl (ca 0, 226, .inl fa))]) [0, 1, 2] rfl
      have hDc := hD.sub (ws' := [(om, .inr (6, [.int thr, .ref a1, .ref a2, .ref a3, .int sv, .ref a4, .ref a5, .ref a6, .int ln, .ref a7, .int bm, .int br, .int ck, .int sa, .ref a8, .int lm, .int rs, .int at_, .ref a9, .int tm, .long hs])), (a1, .inl (ca 0, 226, .inl (sF z r f j nt nl gl gt))), (a2, .inl (ca 0, 226, .inl fa))]) [0, 1, 2] (by decide) rfl
      have hFc := va_free (wc := [(om, .inr (6, [.int thr, .ref a1, .ref a2, .ref a3, .int sv, .ref a4, .ref a5, .ref a6, .int ln, .ref a7, .int bm, .int br, .int ck, .int sa, .ref a8, .int lm, .int rs, .int at_, .ref a9, .int tm, .long hs])), (a1, .inl (ca 0, 226, .inl (sF z r f j nt nl gl gt))), (a2, .inl (ca 0, 226, .inl fa))]) hD hS hA [0, 1, 2] rfl
      refine va_callv (va_runV (As := []) (rest := []) ⟨hx, hb, hml, hown, hts⟩ (kX6_putAside l D ca s.heap.size om a1 a2 a3 a4 a5 a6 a7 a8 a9 thr sv ln bm br ck sa lm rs at_ tm hs z r f j nt nl gl gt fa) (cwV 0 hts gX6_mostJerk_X6_putAside rfl rfl rfl (by decide +kernel) ⟨kk_le rfl, kk_le rfl⟩) (pvM hK hPc (my_D_true hDc) (va_recv hKv hP (ci := 6) (q0 := 0) rfl rfl)) rfl rfl hl.1 rfl (lv_room (kk_le rfl)) dX6_mostJerk_27 ⟨kk_le rfl, kk_le rfl⟩) hS (fun q _ h => hFc q h) hFc (fun u t H1 locs ht hvm hwv hBv hz1 hk1 hS => ?_)
      obtain ⟨hP1, hD1⟩ := hBv
      rw [ht] at hP1
      have hP1 : va_P D vwCl [(om, .inr (6, [.int thr, .ref a1, .ref a2, .ref a3, .int sv, .ref a4, .ref a5, .ref a6, .int ln, .ref a7, .int bm, .int br, .int ck, .int sa, .ref a8, .int lm, .int rs, .int at_, .ref a9, .int tm, .long hs])), (a1, .inl (ca 0, 226, .inl (sF z r f j nt nl gl gt))), (a2, .inl (ca 0, 226, .inl (sF z r f j nt nl gl gt)))] H1 := hP1
      have hD1 : va_D _ [(om, .inr (6, [.int thr, .ref a1, .ref a2, .ref a3, .int sv, .ref a4, .ref a5, .ref a6, .int ln, .ref a7, .int bm, .int br, .int ck, .int sa, .ref a8, .int lm, .int rs, .int at_, .ref a9, .int tm, .long hs])), (a1, .inl (ca 0, 226, .inl (sF z r f j nt nl gl gt))), (a2, .inl (ca 0, 226, .inl (sF z r f j nt nl gl gt)))] := hD1
      have hw4 := hwv
      obtain ⟨hP, hD⟩ := va_join (wr := [(a7, .inl (ca 0, 200, .inl fi)), (a8, .inl (ca 0, 40, .inl fe))]) (w1 := [(om, .inr (6, [.int thr, .ref a1, .ref a2, .ref a3, .int sv, .ref a4, .ref a5, .ref a6, .int ln, .ref a7, .int bm, .int br, .int ck, .int sa, .ref a8, .int lm, .int rs, .int at_, .ref a9, .int tm, .long hs])), (a1, .inl (ca 0, 226, .inl (sF z r f j nt nl gl gt))), (a2, .inl (ca 0, 226, .inl (sF z r f j nt nl gl gt)))]) hP hD [0, 1, 2] [3, 4] rfl rfl (by decide) (by decide) hk1 hFc hP1 hD1
      generalize H1 = H at hP hS ⊢
      have hP := hP.sub (ws' := [(om, .inr (6, [.int thr, .ref a1, .ref a2, .ref a3, .int sv, .ref a4, .ref a5, .ref a6, .int ln, .ref a7, .int bm, .int br, .int ck, .int sa, .ref a8, .int lm, .int rs, .int at_, .ref a9, .int tm, .long hs])), (a1, .inl (ca 0, 226, .inl (sF z r f j nt nl gl gt))), (a2, .inl (ca 0, 226, .inl (sF z r f j nt nl gl gt))), (a7, .inl (ca 0, 200, .inl fi)), (a8, .inl (ca 0, 40, .inl fe))]) [2, 3, 4, 0, 1] rfl
      have hD := hD.sub (ws' := [(om, .inr (6, [.int thr, .ref a1, .ref a2, .ref a3, .int sv, .ref a4, .ref a5, .ref a6, .int ln, .ref a7, .int bm, .int br, .int ck, .int sa, .ref a8, .int lm, .int rs, .int at_, .ref a9, .int tm, .long hs])), (a1, .inl (ca 0, 226, .inl (sF z r f j nt nl gl gt))), (a2, .inl (ca 0, 226, .inl (sF z r f j nt nl gl gt))), (a7, .inl (ca 0, 200, .inl fi)), (a8, .inl (ca 0, 40, .inl fe))]) [2, 3, 4, 0, 1] (by decide) rfl
      have lp30_5 : ∀ (k1 : Nat) (q : Nat) (jv : Int32) (bb : Bool) (jx : Int32) (ntx : Nat) (gtx : Nat → Int32) (bm2 br2 ck2 sa2 lm2 rs2 : Int32) (fi2 fe2 : Nat → Int32), q + bN bb < k1 → (jv = nI q - nI 1) → (q ≤ 41) → (ntx ≤ 200) → (jkI z r f (lst gl nl) q jv bb) → ∀ (H : Heap) (locs : List Loc), va_P D vwCl [(om, .inr (6, [.int thr, .ref a1, .ref a2, .ref a3, .int sv, .ref a4, .ref a5, .ref a6, .int ln, .ref a7, .int bm2, .int br2, .int ck2, .int sa2, .ref a8, .int lm2, .int rs2, .int at_, .ref a9, .int tm, .long hs])), (a1, .inl (ca 0, 226, .inl (sF z r f jx ntx nl gl gtx))), (a2, .inl (ca 0, 226, .inl (sF z r f j nt nl gl gt))), (a7, .inl (ca 0, 200, .inl fi2)), (a8, .inl (ca 0, 40, .inl fe2))] H → va_D A [(om, .inr (6, [.int thr, .ref a1, .ref a2, .ref a3, .int sv, .ref a4, .ref a5, .ref a6, .int ln, .ref a7, .int bm2, .int br2, .int ck2, .int sa2, .ref a8, .int lm2, .int rs2, .int at_, .ref a9, .int tm, .long hs])), (a1, .inl (ca 0, 226, .inl (sF z r f jx ntx nl gl gtx))), (a2, .inl (ca 0, 226, .inl (sF z r f j nt nl gl gt))), (a7, .inl (ca 0, 200, .inl fi2)), (a8, .inl (ca 0, 40, .inl fe2))] → va_S A s.heap H locs → ∀ (ls : Array Slot), lv_has ls 3 [(1, .int jv), (2, .int (bI bb)), (0, .ref om)] → W p l e rm_kX6_mostJerk s m ([.ref om] : List Value).toArray below meth c H locs 0 0 Qz (F0 m 30 ls []) := by
        intro k1
        induction k1 with
        | zero => intro q jv bb jx ntx gtx bm2 br2 ck2 sa2 lm2 rs2 fi2 fe2 hm1; exact absurd hm1 (Nat.not_lt_zero _)
        | succ k1 ih1 =>
          intro q jv bb jx ntx gtx bm2 br2 ck2 sa2 lm2 rs2 fi2 fe2 hm1 hj hq hntx hjk H locs hP hD hS ls hl
          refine lv_iload_n hx hb dX6_mostJerk_30 rfl (lv_at hl 0 rfl) ?_
          refine lv_if_lt (tgt := 70) hx hb dX6_mostJerk_31 (by decide) (fun c7 => ?_) (fun c7 => ?_)
          · refine lv_aload_n hx hb dX6_mostJerk_70 rfl (lv_at hl 2 rfl) ?_
            have hPc := hP.sub (ws' := [(om, .inr (6, [.int thr, .ref a1, .ref a2, .ref a3, .int sv, .ref a4, .ref a5, .ref a6, .int ln, .ref a7, .int bm2, .int br2, .int ck2, .int sa2, .ref a8, .int lm2, .int rs2, .int at_, .ref a9, .int tm, .long hs])), (a1, .inl (ca 0, 226, .inl (sF z r f jx ntx nl gl gtx))), (a2, .inl (ca 0, 226, .inl (sF z r f j nt nl gl gt)))]) [0, 1, 2] rfl
            have hDc := hD.sub (ws' := [(om, .inr (6, [.int thr, .ref a1, .ref a2, .ref a3, .int sv, .ref a4, .ref a5, .ref a6, .int ln, .ref a7, .int bm2, .int br2, .int ck2, .int sa2, .ref a8, .int lm2, .int rs2, .int at_, .ref a9, .int tm, .long hs])), (a1, .inl (ca 0, 226, .inl (sF z r f jx ntx nl gl gtx))), (a2, .inl (ca 0, 226, .inl (sF z r f j nt nl gl gt)))]) [0, 1, 2] (by decide) rfl
            have hFc := va_free (wc := [(om, .inr (6, [.int thr, .ref a1, .ref a2, .ref a3, .int sv, .ref a4, .ref a5, .ref a6, .int ln, .ref a7, .int bm2, .int br2, .int ck2, .int sa2, .ref a8, .int lm2, .int rs2, .int at_, .ref a9, .int tm, .long hs])), (a1, .inl (ca 0, 226, .inl (sF z r f jx ntx nl gl gtx))), (a2, .inl (ca 0, 226, .inl (sF z r f j nt nl gl gt)))]) hD hS hA [0, 1, 2] rfl
            refine va_callv (va_runV (As := []) (rest := []) ⟨hx, hb, hml, hown, hts⟩ (kX6_takeBack l D ca H.size om a1 a2 a3 a4 a5 a6 a7 a8 a9 thr sv ln bm2 br2 ck2 sa2 lm2 rs2 at_ tm hs z r f j nt nl gl gt (sF z r f jx ntx nl gl gtx)) (cwV 0 hts gX6_mostJerk_X6_takeBack rfl rfl rfl (by decide +kernel) ⟨kk_le rfl, kk_le rfl⟩) (pvM hK hPc (my_D_true hDc) (va_recv hKv hP (ci := 6) (q0 := 0) rfl rfl)) rfl rfl hl.1 rfl (lv_room (kk_le rfl)) dX6_mostJerk_71 ⟨kk_le rfl, kk_le rfl⟩) hS (fun q _ h => hFc q h) hFc (fun u t H1 locs ht hvm hwv hBv hz1 hk1 hS => ?_)
            obtain ⟨hP1, hD1⟩ := hBv
            rw [ht] at hP1
            have hP1 : va_P D vwCl [(om, .inr (6, [.int thr, .ref a1, .ref a2, .ref a3, .int sv, .ref a4, .ref a5, .ref a6, .int ln, .ref a7, .int bm2, .int br2, .int ck2, .int sa2, .ref a8, .int lm2, .int rs2, .int at_, .ref a9, .int tm, .long hs])), (a1, .inl (ca 0, 226, .inl (sF z r f j nt nl gl gt))), (a2, .inl (ca 0, 226, .inl (sF z r f j nt nl gl gt)))] H1 := hP1
            have hD1 : va_D _ [(om, .inr (6, [.int thr, .ref a1, .ref a2, .ref a3, .int sv, .ref a4, .ref a5, .ref a6, .int ln, .ref a7, .int bm2, .int br2, .int ck2, .int sa2, .ref a8, .int lm2, .int rs2, .int at_, .ref a9, .int tm, .long hs])), (a1, .inl (ca 0, 226, .inl (sF z r f j nt nl gl gt))), (a2, .inl (ca 0, 226, .inl (sF z r f j nt nl gl gt)))] := hD1
            have hw8 := hwv
            obtain ⟨hP, hD⟩ := va_join (wr := [(a7, .inl (ca 0, 200, .inl fi2)), (a8, .inl (ca 0, 40, .inl fe2))]) (w1 := [(om, .inr (6, [.int thr, .ref a1, .ref a2, .ref a3, .int sv, .ref a4, .ref a5, .ref a6, .int ln, .ref a7, .int bm2, .int br2, .int ck2, .int sa2, .ref a8, .int lm2, .int rs2, .int at_, .ref a9, .int tm, .long hs])), (a1, .inl (ca 0, 226, .inl (sF z r f j nt nl gl gt))), (a2, .inl (ca 0, 226, .inl (sF z r f j nt nl gl gt)))]) hP hD [0, 1, 2] [3, 4] rfl rfl (by decide) (by decide) hk1 hFc hP1 hD1
            generalize H1 = H at hP hS ⊢
            have hP := hP.sub (ws' := [(om, .inr (6, [.int thr, .ref a1, .ref a2, .ref a3, .int sv, .ref a4, .ref a5, .ref a6, .int ln, .ref a7, .int bm2, .int br2, .int ck2, .int sa2, .ref a8, .int lm2, .int rs2, .int at_, .ref a9, .int tm, .long hs])), (a1, .inl (ca 0, 226, .inl (sF z r f j nt nl gl gt))), (a2, .inl (ca 0, 226, .inl (sF z r f j nt nl gl gt))), (a7, .inl (ca 0, 200, .inl fi2)), (a8, .inl (ca 0, 40, .inl fe2))]) [2, 3, 4, 0, 1] rfl
            have hD := hD.sub (ws' := [(om, .inr (6, [.int thr, .ref a1, .ref a2, .ref a3, .int sv, .ref a4, .ref a5, .ref a6, .int ln, .ref a7, .int bm2, .int br2, .int ck2, .int sa2, .ref a8, .int lm2, .int rs2, .int at_, .ref a9, .int tm, .long hs])), (a1, .inl (ca 0, 226, .inl (sF z r f j nt nl gl gt))), (a2, .inl (ca 0, 226, .inl (sF z r f j nt nl gl gt))), (a7, .inl (ca 0, 200, .inl fi2)), (a8, .inl (ca 0, 40, .inl fe2))]) [2, 3, 4, 0, 1] (by decide) rfl
            refine lv_iload_n hx hb dX6_mostJerk_74 rfl (lv_at hl 0 rfl) ?_
            subst hQz
            exact W.iret (v := jv) hx hb hr (fun t ht hW => ⟨⟨_, (bm2, br2, ck2, sa2, lm2, rs2, (sF z r f j nt nl gl gt), fi2, fe2), rfl, ⟨by first | exact jk_e2 (by omega) (by omega) hjk (fs_q0 hj (by assumption) (by omega)) hj | exact jk_e3 (by omega) (by omega) hjk (by assumption), by trivial⟩, by rw [ht]; exact hP, hD⟩, hS.F ht⟩) hS.2.2 dX6_mostJerk_75
          · obtain ⟨hq1, hplq⟩ := fs_pl hj c7 (by omega)
            subst hplq
            have hl : lv_has ls 3 [(1, .int (nI (q - 1))), (2, .int (bI bb)), (0, .ref om)] := hl
            refine lv_iload_n hx hb dX6_mostJerk_34 rfl (lv_at hl 1 rfl) ?_
            refine bi_if_ne (tgt := 70) hx hb dX6_mostJerk_35 (by decide) (fun c10 => ?_) (fun c10 => ?_)
            · refine lv_aload_n hx hb dX6_mostJerk_70 rfl (lv_at hl 2 rfl) ?_
              have hPc := hP.sub (ws' := [(om, .inr (6, [.int thr, .ref a1, .ref a2, .ref a3, .int sv, .ref a4, .ref a5, .ref a6, .int ln, .ref a7, .int bm2, .int br2, .int ck2, .int sa2, .ref a8, .int lm2, .int rs2, .int at_, .ref a9, .int tm, .long hs])), (a1, .inl (ca 0, 226, .inl (sF z r f jx ntx nl gl gtx))), (a2, .inl (ca 0, 226, .inl (sF z r f j nt nl gl gt)))]) [0, 1, 2] rfl
              have hDc := hD.sub (ws' := [(om, .inr (6, [.int thr, .ref a1, .ref a2, .ref a3, .int sv, .ref a4, .ref a5, .ref a6, .int ln, .ref a7, .int bm2, .int br2, .int ck2, .int sa2, .ref a8, .int lm2, .int rs2, .int at_, .ref a9, .int tm, .long hs])), (a1, .inl (ca 0, 226, .inl (sF z r f jx ntx nl gl gtx))), (a2, .inl (ca 0, 226, .inl (sF z r f j nt nl gl gt)))]) [0, 1, 2] (by decide) rfl
              have hFc := va_free (wc := [(om, .inr (6, [.int thr, .ref a1, .ref a2, .ref a3, .int sv, .ref a4, .ref a5, .ref a6, .int ln, .ref a7, .int bm2, .int br2, .int ck2, .int sa2, .ref a8, .int lm2, .int rs2, .int at_, .ref a9, .int tm, .long hs])), (a1, .inl (ca 0, 226, .inl (sF z r f jx ntx nl gl gtx))), (a2, .inl (ca 0, 226, .inl (sF z r f j nt nl gl gt)))]) hD hS hA [0, 1, 2] rfl
              refine va_callv (va_runV (As := []) (rest := []) ⟨hx, hb, hml, hown, hts⟩ (kX6_takeBack l D ca H.size om a1 a2 a3 a4 a5 a6 a7 a8 a9 thr sv ln bm2 br2 ck2 sa2 lm2 rs2 at_ tm hs z r f j nt nl gl gt (sF z r f jx ntx nl gl gtx)) (cwV 0 hts gX6_mostJerk_X6_takeBack rfl rfl rfl (by decide +kernel) ⟨kk_le rfl, kk_le rfl⟩) (pvM hK hPc (my_D_true hDc) (va_recv hKv hP (ci := 6) (q0 := 0) rfl rfl)) rfl rfl hl.1 rfl (lv_room (kk_le rfl)) dX6_mostJerk_71 ⟨kk_le rfl, kk_le rfl⟩) hS (fun q _ h => hFc q h) hFc (fun u t H1 locs ht hvm hwv hBv hz1 hk1 hS => ?_)
              obtain ⟨hP1, hD1⟩ := hBv
              rw [ht] at hP1
              have hP1 : va_P D vwCl [(om, .inr (6, [.int thr, .ref a1, .ref a2, .ref a3, .int sv, .ref a4, .ref a5, .ref a6, .int ln, .ref a7, .int bm2, .int br2, .int ck2, .int sa2, .ref a8, .int lm2, .int rs2, .int at_, .ref a9, .int tm, .long hs])), (a1, .inl (ca 0, 226, .inl (sF z r f j nt nl gl gt))), (a2, .inl (ca 0, 226, .inl (sF z r f j nt nl gl gt)))] H1 := hP1
              have hD1 : va_D _ [(om, .inr (6, [.int thr, .ref a1, .ref a2, .ref a3, .int sv, .ref a4, .ref a5, .ref a6, .int ln, .ref a7, .int bm2, .int br2, .int ck2, .int sa2, .ref a8, .int lm2, .int rs2, .int at_, .ref a9, .int tm, .long hs])), (a1, .inl (ca 0, 226, .inl (sF z r f j nt nl gl gt))), (a2, .inl (ca 0, 226, .inl (sF z r f j nt nl gl gt)))] := hD1
              have hw11 := hwv
              obtain ⟨hP, hD⟩ := va_join (wr := [(a7, .inl (ca 0, 200, .inl fi2)), (a8, .inl (ca 0, 40, .inl fe2))]) (w1 := [(om, .inr (6, [.int thr, .ref a1, .ref a2, .ref a3, .int sv, .ref a4, .ref a5, .ref a6, .int ln, .ref a7, .int bm2, .int br2, .int ck2, .int sa2, .ref a8, .int lm2, .int rs2, .int at_, .ref a9, .int tm, .long hs])), (a1, .inl (ca 0, 226, .inl (sF z r f j nt nl gl gt))), (a2, .inl (ca 0, 226, .inl (sF z r f j nt nl gl gt)))]) hP hD [0, 1, 2] [3, 4] rfl rfl (by decide) (by decide) hk1 hFc hP1 hD1
              generalize H1 = H at hP hS ⊢
              have hP := hP.sub (ws' := [(om, .inr (6, [.int thr, .ref a1, .ref a2, .ref a3, .int sv, .ref a4, .ref a5, .ref a6, .int ln, .ref a7, .int bm2, .int br2, .int ck2, .int sa2, .ref a8, .int lm2, .int rs2, .int at_, .ref a9, .int tm, .long hs])), (a1, .inl (ca 0, 226, .inl (sF z r f j nt nl gl gt))), (a2, .inl (ca 0, 226, .inl (sF z r f j nt nl gl gt))), (a7, .inl (ca 0, 200, .inl fi2)), (a8, .inl (ca 0, 40, .inl fe2))]) [2, 3, 4, 0, 1] rfl
              have hD := hD.sub (ws' := [(om, .inr (6, [.int thr, .ref a1, .ref a2, .ref a3, .int sv, .ref a4, .ref a5, .ref a6, .int ln, .ref a7, .int bm2, .int br2, .int ck2, .int sa2, .ref a8, .int lm2, .int rs2, .int at_, .ref a9, .int tm, .long hs])), (a1, .inl (ca 0, 226, .inl (sF z r f j nt nl gl gt))), (a2, .inl (ca 0, 226, .inl (sF z r f j nt nl gl gt))), (a7, .inl (ca 0, 200, .inl fi2)), (a8, .inl (ca 0, 40, .inl fe2))]) [2, 3, 4, 0, 1] (by decide) rfl
              refine lv_iload_n hx hb dX6_mostJerk_74 rfl (lv_at hl 0 rfl) ?_
              subst hQz
              exact W.iret (v := nI (q - 1)) hx hb hr (fun t ht hW => ⟨⟨_, (bm2, br2, ck2, sa2, lm2, rs2, (sF z r f j nt nl gl gt), fi2, fe2), rfl, ⟨by first | exact jk_e2 (by omega) (by omega) hjk (fs_q0 hj (by assumption) (by omega)) hj | exact jk_e3 (by omega) (by omega) hjk (by assumption), by trivial⟩, by rw [ht]; exact hP, hD⟩, hS.F ht⟩) hS.2.2 dX6_mostJerk_75
            · subst c10
              have hbf : bN false = 1 := rfl
              have hbt : bN true = 0 := rfl
              refine lv_aload_n hx hb dX6_mostJerk_38 rfl (lv_at hl 2 rfl) ?_
              refine va_get (D := D) (ci := 6) (C := RX6) (T := TX6) (N := 21) hx hb hts hiX6 hown hKv hP 0 rfl rfl 1 (by decide) lk7 (fun _ h9 => h9) rfl dX6_mostJerk_39 ?_
              refine lv_iconst (v := nI 3) hx hb dX6_mostJerk_42 (by decide) ?_
              refine lv_iload_n hx hb dX6_mostJerk_43 rfl (lv_at hl 0 rfl) ?_
              refine my_iast hx hb hK hP hD hS 1 rfl (by omega) (by omega) dX6_mostJerk_44 (fun H locs hP hD hS => ?_)
              have hP : va_P D vwCl [(om, .inr (6, [.int thr, .ref a1, .ref a2, .ref a3, .int sv, .ref a4, .ref a5, .ref a6, .int ln, .ref a7, .int bm2, .int br2, .int ck2, .int sa2, .ref a8, .int lm2, .int rs2, .int at_, .ref a9, .int tm, .long hs])), (a1, .inl (ca 0, 226, .inl (upd (sF z r f jx ntx nl gl gtx) 3 (nI (q - 1))))), (a2, .inl (ca 0, 226, .inl (sF z r f j nt nl gl gt))), (a7, .inl (ca 0, 200, .inl fi2)), (a8, .inl (ca 0, 40, .inl fe2))] H := hP
              have hD : va_D A [(om, .inr (6, [.int thr, .ref a1, .ref a2, .ref a3, .int sv, .ref a4, .ref a5, .ref a6, .int ln, .ref a7, .int bm2, .int br2, .int ck2, .int sa2, .ref a8, .int lm2, .int rs2, .int at_, .ref a9, .int tm, .long hs])), (a1, .inl (ca 0, 226, .inl (upd (sF z r f jx ntx nl gl gtx) 3 (nI (q - 1))))), (a2, .inl (ca 0, 226, .inl (sF z r f j nt nl gl gt))), (a7, .inl (ca 0, 200, .inl fi2)), (a8, .inl (ca 0, 40, .inl fe2))] := hD
              have e13 : (upd (sF z r f jx ntx nl gl gtx) 3 (nI (q - 1)) : Nat → Int32) = sF z r f (nI (q - 1)) ntx nl gl gtx := sF_w3 _ _ _ _ _ _ _ _ _
              have hP : va_P D vwCl [(om, .inr (6, [.int thr, .ref a1, .ref a2, .ref a3, .int sv, .ref a4, .ref a5, .ref a6, .int ln, .ref a7, .int bm2, .int br2, .int ck2, .int sa2, .ref a8, .int lm2, .int rs2, .int at_, .ref a9, .int tm, .long hs])), (a1, .inl (ca 0, 226, .inl (sF z r f (nI (q - 1)) ntx nl gl gtx))), (a2, .inl (ca 0, 226, .inl (sF z r f j nt nl gl gt))), (a7, .inl (ca 0, 200, .inl fi2)), (a8, .inl (ca 0, 40, .inl fe2))] H := Eq.mp (congrArg (fun z9 : Nat → Int32 => va_P D vwCl [(om, .inr (6, [.int thr, .ref a1, .ref a2, .ref a3, .int sv, .ref a4, .ref a5, .ref a6, .int ln, .ref a7, .int bm2, .int br2, .int ck2, .int sa2, .ref a8, .int lm2, .int rs2, .int at_, .ref a9, .int tm, .long hs])), (a1, .inl (ca 0, 226, .inl z9)), (a2, .inl (ca 0, 226, .inl (sF z r f j nt nl gl gt))), (a7, .inl (ca 0, 200, .inl fi2)), (a8, .inl (ca 0, 40, .inl fe2))] H) e13) hP
              have hD : va_D A [(om, .inr (6, [.int thr, .ref a1, .ref a2, .ref a3, .int sv, .ref a4, .ref a5, .ref a6, .int ln, .ref a7, .int bm2, .int br2, .int ck2, .int sa2, .ref a8, .int lm2, .int rs2, .int at_, .ref a9, .int tm, .long hs])), (a1, .inl (ca 0, 226, .inl (sF z r f (nI (q - 1)) ntx nl gl gtx))), (a2, .inl (ca 0, 226, .inl (sF z r f j nt nl gl gt))), (a7, .inl (ca 0, 200, .inl fi2)), (a8, .inl (ca 0, 40, .inl fe2))] := Eq.mp (congrArg (fun z9 : Nat → Int32 => va_D A [(om, .inr (6, [.int thr, .ref a1, .ref a2, .ref a3, .int sv, .ref a4, .ref a5, .ref a6, .int ln, .ref a7, .int bm2, .int br2, .int ck2, .int sa2, .ref a8, .int lm2, .int rs2, .int at_, .ref a9, .int tm, .long hs])), (a1, .inl (ca 0, 226, .inl z9)), (a2, .inl (ca 0, 226, .inl (sF z r f j nt nl gl gt))), (a7, .inl (ca 0, 200, .inl fi2)), (a8, .inl (ca 0, 40, .inl fe2))]) e13) hD
              refine lv_aload_n hx hb dX6_mostJerk_45 rfl (lv_at hl 2 rfl) ?_
              have hPc := hP.sub (ws' := [(om, .inr (6, [.int thr, .ref a1, .ref a2, .ref a3, .int sv, .ref a4, .ref a5, .ref a6, .int ln, .ref a7, .int bm2, .int br2, .int ck2, .int sa2, .ref a8, .int lm2, .int rs2, .int at_, .ref a9, .int tm, .long hs])), (a1, .inl (ca 0, 226, .inl (sF z r f (nI (q - 1)) ntx nl gl gtx)))]) [0, 1] rfl
              have hDc := hD.sub (ws' := [(om, .inr (6, [.int thr, .ref a1, .ref a2, .ref a3, .int sv, .ref a4, .ref a5, .ref a6, .int ln, .ref a7, .int bm2, .int br2, .int ck2, .int sa2, .ref a8, .int lm2, .int rs2, .int at_, .ref a9, .int tm, .long hs])), (a1, .inl (ca 0, 226, .inl (sF z r f (nI (q - 1)) ntx nl gl gtx)))]) [0, 1] (by decide) rfl
              have hFc := va_free (wc := [(om, .inr (6, [.int thr, .ref a1, .ref a2, .ref a3, .int sv, .ref a4, .ref a5, .ref a6, .int ln, .ref a7, .int bm2, .int br2, .int ck2, .int sa2, .ref a8, .int lm2, .int rs2, .int at_, .ref a9, .int tm, .long hs])), (a1, .inl (ca 0, 226, .inl (sF z r f (nI (q - 1)) ntx nl gl gtx)))]) hD hS hA [0, 1] rfl
              refine va_callv (va_runV (As := []) (rest := []) ⟨hx, hb, hml, hown, hts⟩ (kX6_swipes l D ca H.size om a1 a2 a3 a4 a5 a6 a7 a8 a9 thr sv ln bm2 br2 ck2 sa2 lm2 rs2 at_ tm hs z r f (nI (q - 1)) ntx nl gl gtx (by omega) (by omega) (by omega) (by omega)) (cwV 0 hts gX6_mostJerk_X6_swipes rfl rfl rfl (by decide +kernel) ⟨kk_le rfl, kk_le rfl⟩) (pvM hK hPc (my_D_true hDc) (va_recv hKv hP (ci := 6) (q0 := 0) rfl rfl)) rfl rfl hl.1 rfl (lv_room (kk_le rfl)) dX6_mostJerk_46 ⟨kk_le rfl, kk_le rfl⟩) hS (fun q _ h => hFc q h) hFc (fun u t H1 locs ht hvm hwv hBv hz1 hk1 hS => ?_)
              obtain ⟨hP1, hD1⟩ := hBv
              rw [ht] at hP1
              have hP1 : va_P D vwCl [(om, .inr (6, [.int thr, .ref a1, .ref a2, .ref a3, .int sv, .ref a4, .ref a5, .ref a6, .int ln, .ref a7, .int bm2, .int br2, .int ck2, .int sa2, .ref a8, .int lm2, .int rs2, .int at_, .ref a9, .int tm, .long hs])), (a1, .inl (ca 0, 226, .inl (sF z r f (nI (q - 1)) (passL (nI (q - 1)) 0 (strp z (lst gl nl))).length nl gl (apF (gzF gtx 200) 0 (passL (nI (q - 1)) 0 (strp z (lst gl nl)))))))] H1 := hP1
              have hD1 : va_D _ [(om, .inr (6, [.int thr, .ref a1, .ref a2, .ref a3, .int sv, .ref a4, .ref a5, .ref a6, .int ln, .ref a7, .int bm2, .int br2, .int ck2, .int sa2, .ref a8, .int lm2, .int rs2, .int at_, .ref a9, .int tm, .long hs])), (a1, .inl (ca 0, 226, .inl (sF z r f (nI (q - 1)) (passL (nI (q - 1)) 0 (strp z (lst gl nl))).length nl gl (apF (gzF gtx 200) 0 (passL (nI (q - 1)) 0 (strp z (lst gl nl)))))))] := hD1
              have hw14 := hwv
              obtain ⟨hP, hD⟩ := va_join (wr := [(a2, .inl (ca 0, 226, .inl (sF z r f j nt nl gl gt))), (a7, .inl (ca 0, 200, .inl fi2)), (a8, .inl (ca 0, 40, .inl fe2))]) (w1 := [(om, .inr (6, [.int thr, .ref a1, .ref a2, .ref a3, .int sv, .ref a4, .ref a5, .ref a6, .int ln, .ref a7, .int bm2, .int br2, .int ck2, .int sa2, .ref a8, .int lm2, .int rs2, .int at_, .ref a9, .int tm, .long hs])), (a1, .inl (ca 0, 226, .inl (sF z r f (nI (q - 1)) (passL (nI (q - 1)) 0 (strp z (lst gl nl))).length nl gl (apF (gzF gtx 200) 0 (passL (nI (q - 1)) 0 (strp z (lst gl nl)))))))]) hP hD [0, 1] [2, 3, 4] rfl rfl (by decide) (by decide) hk1 hFc hP1 hD1
              generalize H1 = H at hP hS ⊢
              have hP := hP.sub (ws' := [(om, .inr (6, [.int thr, .ref a1, .ref a2, .ref a3, .int sv, .ref a4, .ref a5, .ref a6, .int ln, .ref a7, .int bm2, .int br2, .int ck2, .int sa2, .ref a8, .int lm2, .int rs2, .int at_, .ref a9, .int tm, .long hs])), (a1, .inl (ca 0, 226, .inl (sF z r f (nI (q - 1)) (passL (nI (q - 1)) 0 (strp z (lst gl nl))).length nl gl (apF (gzF gtx 200) 0 (passL (nI (q - 1)) 0 (strp z (lst gl nl))))))), (a2, .inl (ca 0, 226, .inl (sF z r f j nt nl gl gt))), (a7, .inl (ca 0, 200, .inl fi2)), (a8, .inl (ca 0, 40, .inl fe2))]) [3, 4, 0, 1, 2] rfl
              have hD := hD.sub (ws' := [(om, .inr (6, [.int thr, .ref a1, .ref a2, .ref a3, .int sv, .ref a4, .ref a5, .ref a6, .int ln, .ref a7, .int bm2, .int br2, .int ck2, .int sa2, .ref a8, .int lm2, .int rs2, .int at_, .ref a9, .int tm, .long hs])), (a1, .inl (ca 0, 226, .inl (sF z r f (nI (q - 1)) (passL (nI (q - 1)) 0 (strp z (lst gl nl))).length nl gl (apF (gzF gtx 200) 0 (passL (nI (q - 1)) 0 (strp z (lst gl nl))))))), (a2, .inl (ca 0, 226, .inl (sF z r f j nt nl gl gt))), (a7, .inl (ca 0, 200, .inl fi2)), (a8, .inl (ca 0, 40, .inl fe2))]) [3, 4, 0, 1, 2] (by decide) rfl
              refine lv_aload_n hx hb dX6_mostJerk_49 rfl (lv_at hl 2 rfl) ?_
              refine lv_iconst (v := nI 0) hx hb dX6_mostJerk_50 (by decide) ?_
              have hPc := hP.sub (ws' := [(om, .inr (6, [.int thr, .ref a1, .ref a2, .ref a3, .int sv, .ref a4, .ref a5, .ref a6, .int ln, .ref a7, .int bm2, .int br2, .int ck2, .int sa2, .ref a8, .int lm2, .int rs2, .int at_, .ref a9, .int tm, .long hs])), (a1, .inl (ca 0, 226, .inl (sF z r f (nI (q - 1)) (passL (nI (q - 1)) 0 (strp z (lst gl nl))).length nl gl (apF (gzF gtx 200) 0 (passL (nI (q - 1)) 0 (strp z (lst gl nl))))))), (a7, .inl (ca 0, 200, .inl fi2)), (a8, .inl (ca 0, 40, .inl fe2))]) [0, 1, 3, 4] rfl
              have hDc := hD.sub (ws' := [(om, .inr (6, [.int thr, .ref a1, .ref a2, .ref a3, .int sv, .ref a4, .ref a5, .ref a6, .int ln, .ref a7, .int bm2, .int br2, .int ck2, .int sa2, .ref a8, .int lm2, .int rs2, .int at_, .ref a9, .int tm, .long hs])), (a1, .inl (ca 0, 226, .inl (sF z r f (nI (q - 1)) (passL (nI (q - 1)) 0 (strp z (lst gl nl))).length nl gl (apF (gzF gtx 200) 0 (passL (nI (q - 1)) 0 (strp z (lst gl nl))))))), (a7, .inl (ca 0, 200, .inl fi2)), (a8, .inl (ca 0, 40, .inl fe2))]) [0, 1, 3, 4] (by decide) rfl
              have hFc := va_free (wc := [(om, .inr (6, [.int thr, .ref a1, .ref a2, .ref a3, .int sv, .ref a4, .ref a5, .ref a6, .int ln, .ref a7, .int bm2, .int br2, .int ck2, .int sa2, .ref a8, .int lm2, .int rs2, .int at_, .ref a9, .int tm, .long hs])), (a1, .inl (ca 0, 226, .inl (sF z r f (nI (q - 1)) (passL (nI (q - 1)) 0 (strp z (lst gl nl))).length nl gl (apF (gzF gtx 200) 0 (passL (nI (q - 1)) 0 (strp z (lst gl nl))))))), (a7, .inl (ca 0, 200, .inl fi2)), (a8, .inl (ca 0, 40, .inl fe2))]) hD hS hA [0, 1, 3, 4] rfl
              refine va_calli (va_runV (As := [.int (bI false)]) (rest := []) ⟨hx, hb, hml, hown, hts⟩ (kX6_isAsWritten l D ca H.size om a1 a2 a3 a4 a5 a6 a7 a8 a9 thr sv ln bm2 br2 ck2 sa2 lm2 rs2 at_ tm hs z r f (nI (q - 1)) ((passL (nI (q - 1)) 0 (strp z (lst gl nl))).length) nl gl (apF (gzF gtx 200) 0 (passL (nI (q - 1)) 0 (strp z (lst gl nl)))) fi2 fe2 false (by (rw [passL_len, strp_len, lst_len]; omega)) (by omega) (by omega)) (cwV 1 hts gX6_mostJerk_X6_isAsWritten rfl rfl rfl (by decide +kernel) ⟨kk_le rfl, kk_le rfl⟩) (pvM hK hPc (my_D_true hDc) (va_recv hKv hP (ci := 6) (q0 := 0) rfl rfl)) rfl rfl hl.1 rfl (lv_room (kk_le rfl)) dX6_mostJerk_51 ⟨kk_le rfl, kk_le rfl⟩) hS (fun q _ h => hFc q h) hFc (fun r16 u t H1 locs ht hvm hwv hBv hz1 hk1 hS => ?_)
              obtain ⟨hP1, hD1⟩ := hBv
              rw [ht] at hP1
              have hP1 : va_P D vwCl [(om, .inr (6, [.int thr, .ref a1, .ref a2, .ref a3, .int sv, .ref a4, .ref a5, .ref a6, .int ln, .ref a7, .int (nI ((bitsT r f (lst (twF false (apF (gzF gtx 200) 0 (passL (nI (q - 1)) 0 (strp z (lst gl nl)))) ((passL (nI (q - 1)) 0 (strp z (lst gl nl))).length)) ((passL (nI (q - 1)) 0 (strp z (lst gl nl))).length))).length)), .int (bI (!(rdT r f (lst (twF false (apF (gzF gtx 200) 0 (passL (nI (q - 1)) 0 (strp z (lst gl nl)))) ((passL (nI (q - 1)) 0 (strp z (lst gl nl))).length)) ((passL (nI (q - 1)) 0 (strp z (lst gl nl))).length))).2.2)), .int (clkT r f (lst (twF false (apF (gzF gtx 200) 0 (passL (nI (q - 1)) 0 (strp z (lst gl nl)))) ((passL (nI (q - 1)) 0 (strp z (lst gl nl))).length)) ((passL (nI (q - 1)) 0 (strp z (lst gl nl))).length))), .int (stB (bitsT r f (lst (twF false (apF (gzF gtx 200) 0 (passL (nI (q - 1)) 0 (strp z (lst gl nl)))) ((passL (nI (q - 1)) 0 (strp z (lst gl nl))).length)) ((passL (nI (q - 1)) 0 (strp z (lst gl nl))).length)))), .ref a8, .int (nI ((ltB (bitsT r f (lst (twF false (apF (gzF gtx 200) 0 (passL (nI (q - 1)) 0 (strp z (lst gl nl)))) ((passL (nI (q - 1)) 0 (strp z (lst gl nl))).length)) ((passL (nI (q - 1)) 0 (strp z (lst gl nl))).length)))).length)), .int (rsT r f (lst (twF false (apF (gzF gtx 200) 0 (passL (nI (q - 1)) 0 (strp z (lst gl nl)))) ((passL (nI (q - 1)) 0 (strp z (lst gl nl))).length)) ((passL (nI (q - 1)) 0 (strp z (lst gl nl))).length))), .int at_, .ref a9, .int tm, .long hs])), (a1, .inl (ca 0, 226, .inl (sF z r f (nI (q - 1)) ((passL (nI (q - 1)) 0 (strp z (lst gl nl))).length) nl gl (apF (gzF gtx 200) 0 (passL (nI (q - 1)) 0 (strp z (lst gl nl))))))), (a7, .inl (ca 0, 200, .inl (apF fi2 0 (bitsT r f (lst (twF false (apF (gzF gtx 200) 0 (passL (nI (q - 1)) 0 (strp z (lst gl nl)))) ((passL (nI (q - 1)) 0 (strp z (lst gl nl))).length)) ((passL (nI (q - 1)) 0 (strp z (lst gl nl))).length)))))), (a8, .inl (ca 0, 40, .inl (apF fe2 0 (ltB (bitsT r f (lst (twF false (apF (gzF gtx 200) 0 (passL (nI (q - 1)) 0 (strp z (lst gl nl)))) ((passL (nI (q - 1)) 0 (strp z (lst gl nl))).length)) ((passL (nI (q - 1)) 0 (strp z (lst gl nl))).length)))))))] H1 := hP1
              have hD1 : va_D _ [(om, .inr (6, [.int thr, .ref a1, .ref a2, .ref a3, .int sv, .ref a4, .ref a5, .ref a6, .int ln, .ref a7, .int (nI ((bitsT r f (lst (twF false (apF (gzF gtx 200) 0 (passL (nI (q - 1)) 0 (strp z (lst gl nl)))) ((passL (nI (q - 1)) 0 (strp z (lst gl nl))).length)) ((passL (nI (q - 1)) 0 (strp z (lst gl nl))).length))).length)), .int (bI (!(rdT r f (lst (twF false (apF (gzF gtx 200) 0 (passL (nI (q - 1)) 0 (strp z (lst gl nl)))) ((passL (nI (q - 1)) 0 (strp z (lst gl nl))).length)) ((passL (nI (q - 1)) 0 (strp z (lst gl nl))).length))).2.2)), .int (clkT r f (lst (twF false (apF (gzF gtx 200) 0 (passL (nI (q - 1)) 0 (strp z (lst gl nl)))) ((passL (nI (q - 1)) 0 (strp z (lst gl nl))).length)) ((passL (nI (q - 1)) 0 (strp z (lst gl nl))).length))), .int (stB (bitsT r f (lst (twF false (apF (gzF gtx 200) 0 (passL (nI (q - 1)) 0 (strp z (lst gl nl)))) ((passL (nI (q - 1)) 0 (strp z (lst gl nl))).length)) ((passL (nI (q - 1)) 0 (strp z (lst gl nl))).length)))), .ref a8, .int (nI ((ltB (bitsT r f (lst (twF false (apF (gzF gtx 200) 0 (passL (nI (q - 1)) 0 (strp z (lst gl nl)))) ((passL (nI (q - 1)) 0 (strp z (lst gl nl))).length)) ((passL (nI (q - 1)) 0 (strp z (lst gl nl))).length)))).length)), .int (rsT r f (lst (twF false (apF (gzF gtx 200) 0 (passL (nI (q - 1)) 0 (strp z (lst gl nl)))) ((passL (nI (q - 1)) 0 (strp z (lst gl nl))).length)) ((passL (nI (q - 1)) 0 (strp z (lst gl nl))).length))), .int at_, .ref a9, .int tm, .long hs])), (a1, .inl (ca 0, 226, .inl (sF z r f (nI (q - 1)) ((passL (nI (q - 1)) 0 (strp z (lst gl nl))).length) nl gl (apF (gzF gtx 200) 0 (passL (nI (q - 1)) 0 (strp z (lst gl nl))))))), (a7, .inl (ca 0, 200, .inl (apF fi2 0 (bitsT r f (lst (twF false (apF (gzF gtx 200) 0 (passL (nI (q - 1)) 0 (strp z (lst gl nl)))) ((passL (nI (q - 1)) 0 (strp z (lst gl nl))).length)) ((passL (nI (q - 1)) 0 (strp z (lst gl nl))).length)))))), (a8, .inl (ca 0, 40, .inl (apF fe2 0 (ltB (bitsT r f (lst (twF false (apF (gzF gtx 200) 0 (passL (nI (q - 1)) 0 (strp z (lst gl nl)))) ((passL (nI (q - 1)) 0 (strp z (lst gl nl))).length)) ((passL (nI (q - 1)) 0 (strp z (lst gl nl))).length)))))))] := hD1
              obtain ⟨hr16, hw16⟩ := hwv
              subst hr16
              obtain ⟨hP, hD⟩ := va_join (wr := [(a2, .inl (ca 0, 226, .inl (sF z r f j nt nl gl gt)))]) (w1 := [(om, .inr (6, [.int thr, .ref a1, .ref a2, .ref a3, .int sv, .ref a4, .ref a5, .ref a6, .int ln, .ref a7, .int (nI ((bitsT r f (lst (twF false (apF (gzF gtx 200) 0 (passL (nI (q - 1)) 0 (strp z (lst gl nl)))) ((passL (nI (q - 1)) 0 (strp z (lst gl nl))).length)) ((passL (nI (q - 1)) 0 (strp z (lst gl nl))).length))).length)), .int (bI (!(rdT r f (lst (twF false (apF (gzF gtx 200) 0 (passL (nI (q - 1)) 0 (strp z (lst gl nl)))) ((passL (nI (q - 1)) 0 (strp z (lst gl nl))).length)) ((passL (nI (q - 1)) 0 (strp z (lst gl nl))).length))).2.2)), .int (clkT r f (lst (twF false (apF (gzF gtx 200) 0 (passL (nI (q - 1)) 0 (strp z (lst gl nl)))) ((passL (nI (q - 1)) 0 (strp z (lst gl nl))).length)) ((passL (nI (q - 1)) 0 (strp z (lst gl nl))).length))), .int (stB (bitsT r f (lst (twF false (apF (gzF gtx 200) 0 (passL (nI (q - 1)) 0 (strp z (lst gl nl)))) ((passL (nI (q - 1)) 0 (strp z (lst gl nl))).length)) ((passL (nI (q - 1)) 0 (strp z (lst gl nl))).length)))), .ref a8, .int (nI ((ltB (bitsT r f (lst (twF false (apF (gzF gtx 200) 0 (passL (nI (q - 1)) 0 (strp z (lst gl nl)))) ((passL (nI (q - 1)) 0 (strp z (lst gl nl))).length)) ((passL (nI (q - 1)) 0 (strp z (lst gl nl))).length)))).length)), .int (rsT r f (lst (twF false (apF (gzF gtx 200) 0 (passL (nI (q - 1)) 0 (strp z (lst gl nl)))) ((passL (nI (q - 1)) 0 (strp z (lst gl nl))).length)) ((passL (nI (q - 1)) 0 (strp z (lst gl nl))).length))), .int at_, .ref a9, .int tm, .long hs])), (a1, .inl (ca 0, 226, .inl (sF z r f (nI (q - 1)) ((passL (nI (q - 1)) 0 (strp z (lst gl nl))).length) nl gl (apF (gzF gtx 200) 0 (passL (nI (q - 1)) 0 (strp z (lst gl nl))))))), (a7, .inl (ca 0, 200, .inl (apF fi2 0 (bitsT r f (lst (twF false (apF (gzF gtx 200) 0 (passL (nI (q - 1)) 0 (strp z (lst gl nl)))) ((passL (nI (q - 1)) 0 (strp z (lst gl nl))).length)) ((passL (nI (q - 1)) 0 (strp z (lst gl nl))).length)))))), (a8, .inl (ca 0, 40, .inl (apF fe2 0 (ltB (bitsT r f (lst (twF false (apF (gzF gtx 200) 0 (passL (nI (q - 1)) 0 (strp z (lst gl nl)))) ((passL (nI (q - 1)) 0 (strp z (lst gl nl))).length)) ((passL (nI (q - 1)) 0 (strp z (lst gl nl))).length)))))))]) hP hD [0, 1, 3, 4] [2] rfl rfl (by decide) (by decide) hk1 hFc hP1 hD1
              generalize H1 = H at hP hS ⊢
              have hP := hP.sub (ws' := [(om, .inr (6, [.int thr, .ref a1, .ref a2, .ref a3, .int sv, .ref a4, .ref a5, .ref a6, .int ln, .ref a7, .int (nI ((bitsT r f (lst (twF false (apF (gzF gtx 200) 0 (passL (nI (q - 1)) 0 (strp z (lst gl nl)))) ((passL (nI (q - 1)) 0 (strp z (lst gl nl))).length)) ((passL (nI (q - 1)) 0 (strp z (lst gl nl))).length))).length)), .int (bI (!(rdT r f (lst (twF false (apF (gzF gtx 200) 0 (passL (nI (q - 1)) 0 (strp z (lst gl nl)))) ((passL (nI (q - 1)) 0 (strp z (lst gl nl))).length)) ((passL (nI (q - 1)) 0 (strp z (lst gl nl))).length))).2.2)), .int (clkT r f (lst (twF false (apF (gzF gtx 200) 0 (passL (nI (q - 1)) 0 (strp z (lst gl nl)))) ((passL (nI (q - 1)) 0 (strp z (lst gl nl))).length)) ((passL (nI (q - 1)) 0 (strp z (lst gl nl))).length))), .int (stB (bitsT r f (lst (twF false (apF (gzF gtx 200) 0 (passL (nI (q - 1)) 0 (strp z (lst gl nl)))) ((passL (nI (q - 1)) 0 (strp z (lst gl nl))).length)) ((passL (nI (q - 1)) 0 (strp z (lst gl nl))).length)))), .ref a8, .int (nI ((ltB (bitsT r f (lst (twF false (apF (gzF gtx 200) 0 (passL (nI (q - 1)) 0 (strp z (lst gl nl)))) ((passL (nI (q - 1)) 0 (strp z (lst gl nl))).length)) ((passL (nI (q - 1)) 0 (strp z (lst gl nl))).length)))).length)), .int (rsT r f (lst (twF false (apF (gzF gtx 200) 0 (passL (nI (q - 1)) 0 (strp z (lst gl nl)))) ((passL (nI (q - 1)) 0 (strp z (lst gl nl))).length)) ((passL (nI (q - 1)) 0 (strp z (lst gl nl))).length))), .int at_, .ref a9, .int tm, .long hs])), (a1, .inl (ca 0, 226, .inl (sF z r f (nI (q - 1)) ((passL (nI (q - 1)) 0 (strp z (lst gl nl))).length) nl gl (apF (gzF gtx 200) 0 (passL (nI (q - 1)) 0 (strp z (lst gl nl))))))), (a2, .inl (ca 0, 226, .inl (sF z r f j nt nl gl gt))), (a7, .inl (ca 0, 200, .inl (apF fi2 0 (bitsT r f (lst (twF false (apF (gzF gtx 200) 0 (passL (nI (q - 1)) 0 (strp z (lst gl nl)))) ((passL (nI (q - 1)) 0 (strp z (lst gl nl))).length)) ((passL (nI (q - 1)) 0 (strp z (lst gl nl))).length)))))), (a8, .inl (ca 0, 40, .inl (apF fe2 0 (ltB (bitsT r f (lst (twF false (apF (gzF gtx 200) 0 (passL (nI (q - 1)) 0 (strp z (lst gl nl)))) ((passL (nI (q - 1)) 0 (strp z (lst gl nl))).length)) ((passL (nI (q - 1)) 0 (strp z (lst gl nl))).length)))))))]) [1, 2, 0, 3, 4] rfl
              have hD := hD.sub (ws' := [(om, .inr (6, [.int thr, .ref a1, .ref a2, .ref a3, .int sv, .ref a4, .ref a5, .ref a6, .int ln, .ref a7, .int (nI ((bitsT r f (lst (twF false (apF (gzF gtx 200) 0 (passL (nI (q - 1)) 0 (strp z (lst gl nl)))) ((passL (nI (q - 1)) 0 (strp z (lst gl nl))).length)) ((passL (nI (q - 1)) 0 (strp z (lst gl nl))).length))).length)), .int (bI (!(rdT r f (lst (twF false (apF (gzF gtx 200) 0 (passL (nI (q - 1)) 0 (strp z (lst gl nl)))) ((passL (nI (q - 1)) 0 (strp z (lst gl nl))).length)) ((passL (nI (q - 1)) 0 (strp z (lst gl nl))).length))).2.2)), .int (clkT r f (lst (twF false (apF (gzF gtx 200) 0 (passL (nI (q - 1)) 0 (strp z (lst gl nl)))) ((passL (nI (q - 1)) 0 (strp z (lst gl nl))).length)) ((passL (nI (q - 1)) 0 (strp z (lst gl nl))).length))), .int (stB (bitsT r f (lst (twF false (apF (gzF gtx 200) 0 (passL (nI (q - 1)) 0 (strp z (lst gl nl)))) ((passL (nI (q - 1)) 0 (strp z (lst gl nl))).length)) ((passL (nI (q - 1)) 0 (strp z (lst gl nl))).length)))), .ref a8, .int (nI ((ltB (bitsT r f (lst (twF false (apF (gzF gtx 200) 0 (passL (nI (q - 1)) 0 (strp z (lst gl nl)))) ((passL (nI (q - 1)) 0 (strp z (lst gl nl))).length)) ((passL (nI (q - 1)) 0 (strp z (lst gl nl))).length)))).length)), .int (rsT r f (lst (twF false (apF (gzF gtx 200) 0 (passL (nI (q - 1)) 0 (strp z (lst gl nl)))) ((passL (nI (q - 1)) 0 (strp z (lst gl nl))).length)) ((passL (nI (q - 1)) 0 (strp z (lst gl nl))).length))), .int at_, .ref a9, .int tm, .long hs])), (a1, .inl (ca 0, 226, .inl (sF z r f (nI (q - 1)) ((passL (nI (q - 1)) 0 (strp z (lst gl nl))).length) nl gl (apF (gzF gtx 200) 0 (passL (nI (q - 1)) 0 (strp z (lst gl nl))))))), (a2, .inl (ca 0, 226, .inl (sF z r f j nt nl gl gt))), (a7, .inl (ca 0, 200, .inl (apF fi2 0 (bitsT r f (lst (twF false (apF (gzF gtx 200) 0 (passL (nI (q - 1)) 0 (strp z (lst gl nl)))) ((passL (nI (q - 1)) 0 (strp z (lst gl nl))).length)) ((passL (nI (q - 1)) 0 (strp z (lst gl nl))).length)))))), (a8, .inl (ca 0, 40, .inl (apF fe2 0 (ltB (bitsT r f (lst (twF false (apF (gzF gtx 200) 0 (passL (nI (q - 1)) 0 (strp z (lst gl nl)))) ((passL (nI (q - 1)) 0 (strp z (lst gl nl))).length)) ((passL (nI (q - 1)) 0 (strp z (lst gl nl))).length)))))))]) [1, 2, 0, 3, 4] (by decide) rfl
              refine lv_istore_n (lv' := [(2, .int (bI (cardT r f (lst (twF false (apF (gzF gtx 200) 0 (passL (nI (q - 1)) 0 (strp z (lst gl nl)))) ((passL (nI (q - 1)) 0 (strp z (lst gl nl))).length)) ((passL (nI (q - 1)) 0 (strp z (lst gl nl))).length)) (lst gl nl)))), (1, .int (nI (q - 1))), (0, .ref om)]) hx hb dX6_mostJerk_54 rfl hl (by decide) rfl (fun ls hl => ?_)
              refine lv_iload_n hx hb dX6_mostJerk_55 rfl (lv_at hl 1 rfl) ?_
              refine lv_iload_n hx hb dX6_mostJerk_56 rfl (lv_at hl 0 rfl) ?_
              refine bi_if_eq (tgt := 64) hx hb dX6_mostJerk_57 (by decide) (fun c18 => ?_) (fun c18 => ?_)
              · rw [c18] at hl
                have hcard := c18
                refine lv_iconst (v := nI 1) hx hb dX6_mostJerk_64 (by decide) ?_
                refine lv_isub hx hb dX6_mostJerk_65 ?_
                refine lv_istore_n (lv' := [(1, .int ((nI (q - 1)) - (nI 1))), (2, .int (bI false)), (0, .ref om)]) hx hb dX6_mostJerk_66 rfl hl (by decide) rfl (fun ls hl => ?_)
                refine lv_goto (tgt := 30) hx hb dX6_mostJerk_67 (by decide) ?_
                exact ih1 (q - 1) ((nI (q - 1)) - (nI 1)) false (nI (q - 1)) ((passL (nI (q - 1)) 0 (strp z (lst gl nl))).length) (apF (gzF gtx 200) 0 (passL (nI (q - 1)) 0 (strp z (lst gl nl)))) (nI ((bitsT r f (lst (twF false (apF (gzF gtx 200) 0 (passL (nI (q - 1)) 0 (strp z (lst gl nl)))) ((passL (nI (q - 1)) 0 (strp z (lst gl nl))).length)) ((passL (nI (q - 1)) 0 (strp z (lst gl nl))).length))).length)) (bI (!(rdT r f (lst (twF false (apF (gzF gtx 200) 0 (passL (nI (q - 1)) 0 (strp z (lst gl nl)))) ((passL (nI (q - 1)) 0 (strp z (lst gl nl))).length)) ((passL (nI (q - 1)) 0 (strp z (lst gl nl))).length))).2.2)) (clkT r f (lst (twF false (apF (gzF gtx 200) 0 (passL (nI (q - 1)) 0 (strp z (lst gl nl)))) ((passL (nI (q - 1)) 0 (strp z (lst gl nl))).length)) ((passL (nI (q - 1)) 0 (strp z (lst gl nl))).length))) (stB (bitsT r f (lst (twF false (apF (gzF gtx 200) 0 (passL (nI (q - 1)) 0 (strp z (lst gl nl)))) ((passL (nI (q - 1)) 0 (strp z (lst gl nl))).length)) ((passL (nI (q - 1)) 0 (strp z (lst gl nl))).length)))) (nI ((ltB (bitsT r f (lst (twF false (apF (gzF gtx 200) 0 (passL (nI (q - 1)) 0 (strp z (lst gl nl)))) ((passL (nI (q - 1)) 0 (strp z (lst gl nl))).length)) ((passL (nI (q - 1)) 0 (strp z (lst gl nl))).length)))).length)) (rsT r f (lst (twF false (apF (gzF gtx 200) 0 (passL (nI (q - 1)) 0 (strp z (lst gl nl)))) ((passL (nI (q - 1)) 0 (strp z (lst gl nl))).length)) ((passL (nI (q - 1)) 0 (strp z (lst gl nl))).length))) (apF fi2 0 (bitsT r f (lst (twF false (apF (gzF gtx 200) 0 (passL (nI (q - 1)) 0 (strp z (lst gl nl)))) ((passL (nI (q - 1)) 0 (strp z (lst gl nl))).length)) ((passL (nI (q - 1)) 0 (strp z (lst gl nl))).length)))) (apF fe2 0 (ltB (bitsT r f (lst (twF false (apF (gzF gtx 200) 0 (passL (nI (q - 1)) 0 (strp z (lst gl nl)))) ((passL (nI (q - 1)) 0 (strp z (lst gl nl))).length)) ((passL (nI (q - 1)) 0 (strp z (lst gl nl))).length))))) (by (show _ < _; omega)) (by first | exact jk_j0 hq1 | rfl) (by omega) (by (rw [passL_len, strp_len, lst_len]; omega)) (by first | exact jk_yes hq1 hjk hcard | exact jk_no hq1 hjk hcard) _ _ hP hD hS ls (lv_sub hl [0, 1, 2] rfl)
              · rw [c18] at hl
                have hcard := c18
                refine lv_iconst (v := nI 0) hx hb dX6_mostJerk_60 (by decide) ?_
                refine lv_goto (tgt := 65) hx hb dX6_mostJerk_61 (by decide) ?_
                refine lv_isub hx hb dX6_mostJerk_65 ?_
                refine lv_istore_n (lv' := [(1, .int ((nI (q - 1)) - (nI 0))), (2, .int (bI true)), (0, .ref om)]) hx hb dX6_mostJerk_66 rfl hl (by decide) rfl (fun ls hl => ?_)
                refine lv_goto (tgt := 30) hx hb dX6_mostJerk_67 (by decide) ?_
                exact ih1 q ((nI (q - 1)) - (nI 0)) true (nI (q - 1)) ((passL (nI (q - 1)) 0 (strp z (lst gl nl))).length) (apF (gzF gtx 200) 0 (passL (nI (q - 1)) 0 (strp z (lst gl nl)))) (nI ((bitsT r f (lst (twF false (apF (gzF gtx 200) 0 (passL (nI (q - 1)) 0 (strp z (lst gl nl)))) ((passL (nI (q - 1)) 0 (strp z (lst gl nl))).length)) ((passL (nI (q - 1)) 0 (strp z (lst gl nl))).length))).length)) (bI (!(rdT r f (lst (twF false (apF (gzF gtx 200) 0 (passL (nI (q - 1)) 0 (strp z (lst gl nl)))) ((passL (nI (q - 1)) 0 (strp z (lst gl nl))).length)) ((passL (nI (q - 1)) 0 (strp z (lst gl nl))).length))).2.2)) (clkT r f (lst (twF false (apF (gzF gtx 200) 0 (passL (nI (q - 1)) 0 (strp z (lst gl nl)))) ((passL (nI (q - 1)) 0 (strp z (lst gl nl))).length)) ((passL (nI (q - 1)) 0 (strp z (lst gl nl))).length))) (stB (bitsT r f (lst (twF false (apF (gzF gtx 200) 0 (passL (nI (q - 1)) 0 (strp z (lst gl nl)))) ((passL (nI (q - 1)) 0 (strp z (lst gl nl))).length)) ((passL (nI (q - 1)) 0 (strp z (lst gl nl))).length)))) (nI ((ltB (bitsT r f (lst (twF false (apF (gzF gtx 200) 0 (passL (nI (q - 1)) 0 (strp z (lst gl nl)))) ((passL (nI (q - 1)) 0 (strp z (lst gl nl))).length)) ((passL (nI (q - 1)) 0 (strp z (lst gl nl))).length)))).length)) (rsT r f (lst (twF false (apF (gzF gtx 200) 0 (passL (nI (q - 1)) 0 (strp z (lst gl nl)))) ((passL (nI (q - 1)) 0 (strp z (lst gl nl))).length)) ((passL (nI (q - 1)) 0 (strp z (lst gl nl))).length))) (apF fi2 0 (bitsT r f (lst (twF false (apF (gzF gtx 200) 0 (passL (nI (q - 1)) 0 (strp z (lst gl nl)))) ((passL (nI (q - 1)) 0 (strp z (lst gl nl))).length)) ((passL (nI (q - 1)) 0 (strp z (lst gl nl))).length)))) (apF fe2 0 (ltB (bitsT r f (lst (twF false (apF (gzF gtx 200) 0 (passL (nI (q - 1)) 0 (strp z (lst gl nl)))) ((passL (nI (q - 1)) 0 (strp z (lst gl nl))).length)) ((passL (nI (q - 1)) 0 (strp z (lst gl nl))).length))))) (by (show _ < _; omega)) (by first | exact jk_j0 hq1 | rfl) (by omega) (by (rw [passL_len, strp_len, lst_len]; omega)) (by first | exact jk_yes hq1 hjk hcard | exact jk_no hq1 hjk hcard) _ _ hP hD hS ls (lv_sub hl [0, 1, 2] rfl)
      exact lp30_5 ((41 + bN false) + 1) 41 (nI 40) false j nt gt bm br ck sa lm rs fi fe (by (show _ < _; omega)) (by decide) (by omega) (by omega) (by rfl) _ _ hP hD hS ls (lv_sub hl [1, 0, 2] rfl)
    · refine lv_iconst (v := (-1)) hx hb dX6_mostJerk_19 (by decide) ?_
      subst hQz
      exact W.iret (v := (-1)) hx hb hr (fun t ht hW => ⟨⟨_, (bm, br, ck, sa, lm, rs, fa, fi, fe), rfl, ⟨by first | exact jk_e0 (by omega) | exact jk_e1 (by omega), by trivial⟩, by rw [ht]; exact hP, hD⟩, hS.F ht⟩) hS.2.2 dX6_mostJerk_20
abbrev rm_kX6_overTimes : Room := { frames := 0, cells := 0, slots := 0, locals := 0 }
set_option maxHeartbeats 4000000 in
set_option maxRecDepth 100000 in
theorem kX6_overTimes (l : Launch) (D : va_G) (ca : Nat → ClassId) (om a1 a2 a3 a4 a5 a6 a7 a8 a9 : Nat) (thr sv ln bm br ck sa lm rs at_ tm : Int32) (hs : Int64) (z : Nat) (r f j : Int32) (nt nl : Nat) (gl gt : Nat → Int32) (w : Nat) (hnt : nt ≤ 200) (hnl : nl ≤ 20) (hz : z ≤ 30) (hw : 1 ≤ w ∧ w ≤ 3) (hpos : ∀ k, k < nt → ¬ gt k < nI 0) : Met l yX6_overTimes wsX6_overTimes rm_kX6_overTimes (pcR D ca [.ref om, .int (nI w)] [(om, .inr (6, [.int thr, .ref a1, .ref a2, .ref a3, .int sv, .ref a4, .ref a5, .ref a6, .int ln, .ref a7, .int bm, .int br, .int ck, .int sa, .ref a8, .int lm, .int rs, .int at_, .ref a9, .int tm, .long hs])), (a1, .inl (ca 0, 226, .inl (sF z r f j nt nl gl gt)))]) (vp_Si (fun zr : Int32 => zr = tolO w (lst gt nt))) 0 0 (fun _ => False) := by
  refine Met.ofW (cc := cX6_overTimes) (maxL := 7) (ret := (some .int)) (by decide) rfl ?_
  intro p e s m args below meth c s₁ B hml hv
  obtain ⟨rfl, hP, hK⟩ := hv
  have hx := B.exec
  have hb := B.bytes
  have hr := B.returns
  have hts := atoms_spec (ws := wsX6_overTimes) B.pre
  have hown : s.vm.findClass RX6 = some m.cls := findClass_of_methodNamed B.named
  have hlocks := B.notSynchronized
  have hKv := hK.1
  have hl := lv_entry ([.ref om, .int (nI w)]) (n := 7) (kk_le rfl)
  rw [lg_entry_eq]
  generalize (lg_sl ([.ref om, .int (nI w)]) ++ List.replicate (7 - (lg_sl ([.ref om, .int (nI w)])).length) Slot.unset).toArray = ls at hl ⊢
  have hl : lv_has ls 7 [(0, .ref om), (1, .int (nI w))] := hl
  generalize hQz : MQ below _ _ _ _ _ _ = Qz
  have hiX6 : ∀ w ∈ u_ws RX6 TX6 21, w ∈ wsX6_overTimes := fun w h => by first | exact List.mem_cons_of_mem _ (List.mem_append_right _ h) | exact List.mem_cons_of_mem _ (List.mem_append_left _ (List.mem_append_right _ h)) | exact List.mem_cons_of_mem _ (List.mem_append_left _ (List.mem_append_left _ (List.mem_append_right _ h))) | exact List.mem_cons_of_mem _ (List.mem_append_left _ (List.mem_append_left _ (List.mem_append_left _ (List.mem_append_right _ h)))) | (revert w h; decide +kernel)
  have lk7 : (Cond.fieldLink RX6 7 "StripeSwipesModel" "s" "[I").before _ s = true := hts _ (by decide +kernel)
  refine lv_iconst (v := nI 0) hx hb dX6_overTimes_0 (by decide) ?_
  refine lv_istore_n (lv' := [(2, .int (nI 0)), (0, .ref om), (1, .int (nI w))]) hx hb dX6_overTimes_1 rfl hl (by decide) rfl (fun ls hl => ?_)
  refine lv_aload_n hx hb dX6_overTimes_2 rfl (lv_at hl 1 rfl) ?_
  refine va_get (D := D) (ci := 6) (C := RX6) (T := TX6) (N := 21) hx hb hts hiX6 hown hKv hP 0 rfl rfl 1 (by decide) lk7 (fun _ h9 => h9) rfl dX6_overTimes_3 ?_
  refine lv_iconst (v := nI 4) hx hb dX6_overTimes_6 (by decide) ?_
  refine my_iald hx hb hK hP 1 rfl (by omega) (by omega) dX6_overTimes_7 ?_
  rw [show sF z r f j nt nl gl gt 4 = nI nt from rfl]
  refine ni_if_ne (tgt := 15) (by omega) hx hb dX6_overTimes_8 (by decide) (fun c1 => ?_) (fun c1 => ?_)
  · refine lv_aload_n hx hb dX6_overTimes_15 rfl (lv_at hl 1 rfl) ?_
    refine va_get (D := D) (ci := 6) (C := RX6) (T := TX6) (N := 21) hx hb hts hiX6 hown hKv hP 0 rfl rfl 1 (by decide) lk7 (fun _ h9 => h9) rfl dX6_overTimes_16 ?_
    refine lv_bipush (v := nI 26) hx hb dX6_overTimes_19 (by decide) ?_
    refine my_iald hx hb hK hP 1 rfl (by omega) (by omega) dX6_overTimes_21 ?_
    rw [show sF z r f j nt nl gl gt 26 = gt 0 from sF_gt _ _ _ _ _ _ _ _ (by omega)]
    refine lv_istore_n (lv' := [(3, .int (gt 0)), (2, .int (nI 0)), (0, .ref om), (1, .int (nI w))]) hx hb dX6_overTimes_22 rfl hl (by decide) rfl (fun ls hl => ?_)
    refine lv_iconst (v := nI 0) hx hb dX6_overTimes_23 (by decide) ?_
    refine lv_istore (lv' := [(4, .int (nI 0)), (3, .int (gt 0)), (2, .int (nI 0)), (0, .ref om), (1, .int (nI w))]) hx hb dX6_overTimes_24 hl (by decide) rfl (fun ls hl => ?_)
    refine lv_iconst (v := nI 0) hx hb dX6_overTimes_26 (by decide) ?_
    refine lv_istore (lv' := [(5, .int (nI 0)), (4, .int (nI 0)), (3, .int (gt 0)), (2, .int (nI 0)), (0, .ref om), (1, .int (nI w))]) hx hb dX6_overTimes_27 hl (by decide) rfl (fun ls hl => ?_)
    have lp29_1 : ∀ (k1 : Nat) (i : Nat) (su le mo9 : Int32), nt - i < k1 → (i ≤ nt) → (su = sumL (lst gt i)) → (nt = 0 ∧ le = nI 0 ∨ 0 < nt ∧ le = minL (lst gt (max 1 i))) → (mo9 = mxS gt i) → ∀ (ls : Array Slot), lv_has ls 7 [(5, .int (nI i)), (4, .int mo9), (3, .int le), (2, .int su), (0, .ref om), (1, .int (nI w))] → W p l e rm_kX6_overTimes s m ([.ref om, .int (nI w)] : List Value).toArray below meth c s.heap [] 0 0 Qz (F0 m 29 ls []) := by
      intro k1
      induction k1 with
      | zero => intro i su le mo9 hm1; exact absurd hm1 (Nat.not_lt_zero _)
      | succ k1 ih1 =>
        intro i su le mo9 hm1 hi hsu hle hmo ls hl
        refine lv_iload hx hb dX6_overTimes_29 (lv_at hl 0 rfl) ?_
        refine lv_aload_n hx hb dX6_overTimes_31 rfl (lv_at hl 4 rfl) ?_
        refine va_get (D := D) (ci := 6) (C := RX6) (T := TX6) (N := 21) hx hb hts hiX6 hown hKv hP 0 rfl rfl 1 (by decide) lk7 (fun _ h9 => h9) rfl dX6_overTimes_32 ?_
        refine lv_iconst (v := nI 4) hx hb dX6_overTimes_35 (by decide) ?_
        refine my_iald hx hb hK hP 1 rfl (by omega) (by omega) dX6_overTimes_36 ?_
        rw [show sF z r f j nt nl gl gt 4 = nI nt from rfl]
        refine ni_icmp_ge (tgt := 92) (by omega) (by omega) hx hb dX6_overTimes_37 (by decide) (fun c3 => ?_) (fun c3 => ?_)
        · refine lv_iload_n hx hb dX6_overTimes_92 rfl (lv_at hl 5 rfl) ?_
          refine lv_iconst (v := nI 1) hx hb dX6_overTimes_93 (by decide) ?_
          refine ni_icmp_ne (tgt := 101) (by omega) (by omega) hx hb dX6_overTimes_94 (by decide) (fun c4 => ?_) (fun c4 => ?_)
          · refine lv_iload_n hx hb dX6_overTimes_101 rfl (lv_at hl 5 rfl) ?_
            refine lv_iconst (v := nI 2) hx hb dX6_overTimes_102 (by decide) ?_
            refine ni_icmp_ne (tgt := 110) (by omega) (by omega) hx hb dX6_overTimes_103 (by decide) (fun c5 => ?_) (fun c5 => ?_)
            · refine lv_iload hx hb dX6_overTimes_110 (lv_at hl 1 rfl) ?_
              subst hQz
              exact W.iret (v := mo9) hx hb hr (fun t ht _ => ⟨_, rfl, by first | exact ov_1 (by omega) (by omega) hsu | exact ov_2 (by omega) (by omega) hi hle | exact ov_3 (by omega) (by omega) hmo hpos, ht⟩) (fun _ h => nomatch h) dX6_overTimes_112
            · refine lv_iload_n hx hb dX6_overTimes_106 rfl (lv_at hl 2 rfl) ?_
              refine lv_goto (tgt := 112) hx hb dX6_overTimes_107 (by decide) ?_
              subst hQz
              exact W.iret (v := le) hx hb hr (fun t ht _ => ⟨_, rfl, by first | exact ov_1 (by omega) (by omega) hsu | exact ov_2 (by omega) (by omega) hi hle | exact ov_3 (by omega) (by omega) hmo hpos, ht⟩) (fun _ h => nomatch h) dX6_overTimes_112
          · refine lv_iload_n hx hb dX6_overTimes_97 rfl (lv_at hl 3 rfl) ?_
            refine lv_goto (tgt := 112) hx hb dX6_overTimes_98 (by decide) ?_
            subst hQz
            exact W.iret (v := su) hx hb hr (fun t ht _ => ⟨_, rfl, by first | exact ov_1 (by omega) (by omega) hsu | exact ov_2 (by omega) (by omega) hi hle | exact ov_3 (by omega) (by omega) hmo hpos, ht⟩) (fun _ h => nomatch h) dX6_overTimes_112
        · refine lv_aload_n hx hb dX6_overTimes_40 rfl (lv_at hl 4 rfl) ?_
          refine va_get (D := D) (ci := 6) (C := RX6) (T := TX6) (N := 21) hx hb hts hiX6 hown hKv hP 0 rfl rfl 1 (by decide) lk7 (fun _ h9 => h9) rfl dX6_overTimes_41 ?_
          refine lv_bipush (v := nI 26) hx hb dX6_overTimes_44 (by decide) ?_
          refine lv_iload hx hb dX6_overTimes_46 (lv_at hl 0 rfl) ?_
          refine ni_iadd hx hb dX6_overTimes_48 ?_
          refine my_iald hx hb hK hP 1 rfl (by omega) (by omega) dX6_overTimes_49 ?_
          rw [show sF z r f j nt nl gl gt (26 + i) = gt i from sF_gt _ _ _ _ _ _ _ _ (by omega)]
          refine lv_istore (lv' := [(6, .int (gt i)), (5, .int (nI i)), (4, .int mo9), (3, .int le), (2, .int su), (0, .ref om), (1, .int (nI w))]) hx hb dX6_overTimes_50 hl (by decide) rfl (fun ls hl => ?_)
          refine lv_iload_n hx hb dX6_overTimes_52 rfl (lv_at hl 4 rfl) ?_
          refine lv_iload hx hb dX6_overTimes_53 (lv_at hl 0 rfl) ?_
          refine lv_iadd hx hb dX6_overTimes_55 ?_
          refine lv_istore_n (lv' := [(2, .int (su + (gt i))), (6, .int (gt i)), (5, .int (nI i)), (4, .int mo9), (3, .int le), (0, .ref om), (1, .int (nI w))]) hx hb dX6_overTimes_56 rfl hl (by decide) rfl (fun ls hl => ?_)
          refine lv_iload hx hb dX6_overTimes_57 (lv_at hl 1 rfl) ?_
          refine lv_iload_n hx hb dX6_overTimes_59 rfl (lv_at hl 4 rfl) ?_
          refine lv_icmp_ge (tgt := 68) hx hb dX6_overTimes_60 (by decide) (fun c6 => ?_) (fun c6 => ?_)
          · refine lv_iload_n hx hb dX6_overTimes_68 rfl (lv_at hl 4 rfl) ?_
            refine lv_istore_n (lv' := [(3, .int le), (2, .int (su + (gt i))), (6, .int (gt i)), (5, .int (nI i)), (4, .int mo9), (0, .ref om), (1, .int (nI w))]) hx hb dX6_overTimes_69 rfl hl (by decide) rfl (fun ls hl => ?_)
            refine lv_iload hx hb dX6_overTimes_70 (lv_at hl 2 rfl) ?_
            refine lv_iload hx hb dX6_overTimes_72 (lv_at hl 4 rfl) ?_
            refine lv_icmp_le (tgt := 82) hx hb dX6_overTimes_74 (by decide) (fun c7 => ?_) (fun c7 => ?_)
            · refine lv_iload hx hb dX6_overTimes_82 (lv_at hl 4 rfl) ?_
              refine lv_istore (lv' := [(4, .int mo9), (3, .int le), (2, .int (su + (gt i))), (6, .int (gt i)), (5, .int (nI i)), (0, .ref om), (1, .int (nI w))]) hx hb dX6_overTimes_84 hl (by decide) rfl (fun ls hl => ?_)
              refine lv_iinc (v := nI (i + 1)) (lv' := [(5, .int (nI (i + 1))), (4, .int mo9), (3, .int le), (2, .int (su + (gt i))), (6, .int (gt i)), (0, .ref om), (1, .int (nI w))]) hx hb dX6_overTimes_86 hl (k := 4) rfl (ni_inc _ _ (by decide)) (by decide) rfl (fun ls hl => ?_)
              refine lv_goto (tgt := 29) hx hb dX6_overTimes_89 (by decide) ?_
              exact ih1 (i + 1) (su + (gt i)) le mo9 (by omega) (by omega) (by rw [hsu, lst_succ, sumL_app]) (by first | exact ov_l1 hle (by omega) (by assumption) | exact ov_l0 hle (by omega) (by assumption)) (by first | exact ov_m1 hmo (by assumption) | exact ov_m0 hmo (by assumption)) ls (lv_sub hl [0, 1, 2, 3, 5, 6] rfl)
            · refine lv_iload hx hb dX6_overTimes_77 (lv_at hl 2 rfl) ?_
              refine lv_goto (tgt := 84) hx hb dX6_overTimes_79 (by decide) ?_
              refine lv_istore (lv' := [(4, .int (gt i)), (3, .int le), (2, .int (su + (gt i))), (6, .int (gt i)), (5, .int (nI i)), (0, .ref om), (1, .int (nI w))]) hx hb dX6_overTimes_84 hl (by decide) rfl (fun ls hl => ?_)
              refine lv_iinc (v := nI (i + 1)) (lv' := [(5, .int (nI (i + 1))), (4, .int (gt i)), (3, .int le), (2, .int (su + (gt i))), (6, .int (gt i)), (0, .ref om), (1, .int (nI w))]) hx hb dX6_overTimes_86 hl (k := 4) rfl (ni_inc _ _ (by decide)) (by decide) rfl (fun ls hl => ?_)
              refine lv_goto (tgt := 29) hx hb dX6_overTimes_89 (by decide) ?_
              exact ih1 (i + 1) (su + (gt i)) le (gt i) (by omega) (by omega) (by rw [hsu, lst_succ, sumL_app]) (by first | exact ov_l1 hle (by omega) (by assumption) | exact ov_l0 hle (by omega) (by assumption)) (by first | exact ov_m1 hmo (by assumption) | exact ov_m0 hmo (by assumption)) ls (lv_sub hl [0, 1, 2, 3, 5, 6] rfl)
          · refine lv_iload hx hb dX6_overTimes_63 (lv_at hl 1 rfl) ?_
            refine lv_goto (tgt := 69) hx hb dX6_overTimes_65 (by decide) ?_
            refine lv_istore_n (lv' := [(3, .int (gt i)), (2, .int (su + (gt i))), (6, .int (gt i)), (5, .int (nI i)), (4, .int mo9), (0, .ref om), (1, .int (nI w))]) hx hb dX6_overTimes_69 rfl hl (by decide) rfl (fun ls hl => ?_)
            refine lv_iload hx hb dX6_overTimes_70 (lv_at hl 2 rfl) ?_
            refine lv_iload hx hb dX6_overTimes_72 (lv_at hl 4 rfl) ?_
            refine lv_icmp_le (tgt := 82) hx hb dX6_overTimes_74 (by decide) (fun c8 => ?_) (fun c8 => ?_)
            · refine lv_iload hx hb dX6_overTimes_82 (lv_at hl 4 rfl) ?_
              refine lv_istore (lv' := [(4, .int mo9), (3, .int (gt i)), (2, .int (su + (gt i))), (6, .int (gt i)), (5, .int (nI i)), (0, .ref om), (1, .int (nI w))]) hx hb dX6_overTimes_84 hl (by decide) rfl (fun ls hl => ?_)
              refine lv_iinc (v := nI (i + 1)) (lv' := [(5, .int (nI (i + 1))), (4, .int mo9), (3, .int (gt i)), (2, .int (su + (gt i))), (6, .int (gt i)), (0, .ref om), (1, .int (nI w))]) hx hb dX6_overTimes_86 hl (k := 4) rfl (ni_inc _ _ (by decide)) (by decide) rfl (fun ls hl => ?_)
              refine lv_goto (tgt := 29) hx hb dX6_overTimes_89 (by decide) ?_
              exact ih1 (i + 1) (su + (gt i)) (gt i) mo9 (by omega) (by omega) (by rw [hsu, lst_succ, sumL_app]) (by first | exact ov_l1 hle (by omega) (by assumption) | exact ov_l0 hle (by omega) (by assumption)) (by first | exact ov_m1 hmo (by assumption) | exact ov_m0 hmo (by assumption)) ls (lv_sub hl [0, 1, 2, 3, 5, 6] rfl)
            · refine lv_iload hx hb dX6_overTimes_77 (lv_at hl 2 rfl) ?_
              refine lv_goto (tgt := 84) hx hb dX6_overTimes_79 (by decide) ?_
              refine lv_istore (lv' := [(4, .int (gt i)), (3, .int (gt i)), (2, .int (su + (gt i))), (6, .int (gt i)), (5, .int (nI i)), (0, .ref om), (1, .int (nI w))]) hx hb dX6_overTimes_84 hl (by decide) rfl (fun ls hl => ?_)
              refine lv_iinc (v := nI (i + 1)) (lv' := [(5, .int (nI (i + 1))), (4, .int (gt i)), (3, .int (gt i)), (2, .int (su + (gt i))), (6, .int (gt i)), (0, .ref om), (1, .int (nI w))]) hx hb dX6_overTimes_86 hl (k := 4) rfl (ni_inc _ _ (by decide)) (by decide) rfl (fun ls hl => ?_)
              refine lv_goto (tgt := 29) hx hb dX6_overTimes_89 (by decide) ?_
              exact ih1 (i + 1) (su + (gt i)) (gt i) (gt i) (by omega) (by omega) (by rw [hsu, lst_succ, sumL_app]) (by first | exact ov_l1 hle (by omega) (by assumption) | exact ov_l0 hle (by omega) (by assumption)) (by first | exact ov_m1 hmo (by assumption) | exact ov_m0 hmo (by assumption)) ls (lv_sub hl [0, 1, 2, 3, 5, 6] rfl)
    exact lp29_1 ((nt - 0) + 1) 0 (nI 0) (gt 0) (nI 0) (by omega) (by omega) (by rfl) (by first | exact Or.inl ⟨by omega, rfl⟩ | exact Or.inr ⟨by omega, rfl⟩) (by rfl) ls (lv_sub hl [0, 1, 2, 3, 4, 5] rfl)
  · refine lv_iconst (v := nI 0) hx hb dX6_overTimes_11 (by decide) ?_
    refine lv_goto (tgt := 22) hx hb dX6_overTimes_12 (by decide) ?_
    refine lv_istore_n (lv' := [(3, .int (nI 0)), (2, .int (nI 0)), (0, .ref om), (1, .int (nI w))]) hx hb dX6_overTimes_22 rfl hl (by decide) rfl (fun ls hl => ?_)
    refine lv_iconst (v := nI 0) hx hb dX6_overTimes_23 (by decide) ?_
    refine lv_istore (lv' := [(4, .int (nI 0)), (3, .int (nI 0)), (2, .int (nI 0)), (0, .ref om), (1, .int (nI w))]) hx hb dX6_overTimes_24 hl (by decide) rfl (fun ls hl => ?_)
    refine lv_iconst (v := nI 0) hx hb dX6_overTimes_26 (by decide) ?_
    refine lv_istore (lv' := [(5, .int (nI 0)), (4, .int (nI 0)), (3, .int (nI 0)), (2, .int (nI 0)), (0, .ref om), (1, .int (nI w))]) hx hb dX6_overTimes_27 hl (by decide) rfl (fun ls hl => ?_)
    have lp29_8 : ∀ (k2 : Nat) (i : Nat) (su le mo9 : Int32), nt - i < k2 → (i ≤ nt) → (su = sumL (lst gt i)) → (nt = 0 ∧ le = nI 0 ∨ 0 < nt ∧ le = minL (lst gt (max 1 i))) → (mo9 = mxS gt i) → ∀ (ls : Array Slot), lv_has ls 7 [(5, .int (nI i)), (4, .int mo9), (3, .int le), (2, .int su), (0, .ref om), (1, .int (nI w))] → W p l e rm_kX6_overTimes s m ([.ref om, .int (nI w)] : List Value).toArray below meth c s.heap [] 0 0 Qz (F0 m 29 ls []) := by
      intro k2
      induction k2 with
      | zero => intro i su le mo9 hm2; exact absurd hm2 (Nat.not_lt_zero _)
      | succ k2 ih2 =>
        intro i su le mo9 hm2 hi hsu hle hmo ls hl
        refine lv_iload hx hb dX6_overTimes_29 (lv_at hl 0 rfl) ?_
        refine lv_aload_n hx hb dX6_overTimes_31 rfl (lv_at hl 4 rfl) ?_
        refine va_get (D := D) (ci := 6) (C := RX6) (T := TX6) (N := 21) hx hb hts hiX6 hown hKv hP 0 rfl rfl 1 (by decide) lk7 (fun _ h9 => h9) rfl dX6_overTimes_32 ?_
        refine lv_iconst (v := nI 4) hx hb dX6_overTimes_35 (by decide) ?_
        refine my_iald hx hb hK hP 1 rfl (by omega) (by omega) dX6_overTimes_36 ?_
        rw [show sF z r f j nt nl gl gt 4 = nI nt from rfl]
        refine ni_icmp_ge (tgt := 92) (by omega) (by omega) hx hb dX6_overTimes_37 (by decide) (fun c10 => ?_) (fun c10 => ?_)
        · refine lv_iload_n hx hb dX6_overTimes_92 rfl (lv_at hl 5 rfl) ?_
          refine lv_iconst (v := nI 1) hx hb dX6_overTimes_93 (by decide) ?_
          refine ni_icmp_ne (tgt := 101) (by omega) (by omega) hx hb dX6_overTimes_94 (by decide) (fun c11 => ?_) (fun c11 => ?_)
          · refine lv_iload_n hx hb dX6_overTimes_101 rfl (lv_at hl 5 rfl) ?_
            refine lv_iconst (v := nI 2) hx hb dX6_overTimes_102 (by decide) ?_
            refine ni_icmp_ne (tgt := 110) (by omega) (by omega) hx hb dX6_overTimes_103 (by decide) (fun c12 => ?_) (fun c12 => ?_)
            · refine lv_iload hx hb dX6_overTimes_110 (lv_at hl 1 rfl) ?_
              subst hQz
              exact W.iret (v := mo9) hx hb hr (fun t ht _ => ⟨_, rfl, by first | exact ov_1 (by omega) (by omega) hsu | exact ov_2 (by omega) (by omega) hi hle | exact ov_3 (by omega) (by omega) hmo hpos, ht⟩) (fun _ h => nomatch h) dX6_overTimes_112
            · refine lv_iload_n hx hb dX6_overTimes_106 rfl (lv_at hl 2 rfl) ?_
              refine lv_goto (tgt := 112) hx hb dX6_overTimes_107 (by decide) ?_
              subst hQz
              exact W.iret (v := le) hx hb hr (fun t ht _ => ⟨_, rfl, by first | exact ov_1 (by omega) (by omega) hsu | exact ov_2 (by omega) (by omega) hi hle | exact ov_3 (by omega) (by omega) hmo hpos, ht⟩) (fun _ h => nomatch h) dX6_overTimes_112
          · refine lv_iload_n hx hb dX6_overTimes_97 rfl (lv_at hl 3 rfl) ?_
            refine lv_goto (tgt := 112) hx hb dX6_overTimes_98 (by decide) ?_
            subst hQz
            exact W.iret (v := su) hx hb hr (fun t ht _ => ⟨_, rfl, by first | exact ov_1 (by omega) (by omega) hsu | exact ov_2 (by omega) (by omega) hi hle | exact ov_3 (by omega) (by omega) hmo hpos, ht⟩) (fun _ h => nomatch h) dX6_overTimes_112
        · refine lv_aload_n hx hb dX6_overTimes_40 rfl (lv_at hl 4 rfl) ?_
          refine va_get (D := D) (ci := 6) (C := RX6) (T := TX6) (N := 21) hx hb hts hiX6 hown hKv hP 0 rfl rfl 1 (by decide) lk7 (fun _ h9 => h9) rfl dX6_overTimes_41 ?_
          refine lv_bipush (v := nI 26) hx hb dX6_overTimes_44 (by decide) ?_
          refine lv_iload hx hb dX6_overTimes_46 (lv_at hl 0 rfl) ?_
          refine ni_iadd hx hb dX6_overTimes_48 ?_
          refine my_iald hx hb hK hP 1 rfl (by omega) (by omega) dX6_overTimes_49 ?_
          rw [show sF z r f j nt nl gl gt (26 + i) = gt i from sF_gt _ _ _ _ _ _ _ _ (by omega)]
          refine lv_istore (lv' := [(6, .int (gt i)), (5, .int (nI i)), (4, .int mo9), (3, .int le), (2, .int su), (0, .ref om), (1, .int (nI w))]) hx hb dX6_overTimes_50 hl (by decide) rfl (fun ls hl => ?_)
          refine lv_iload_n hx hb dX6_overTimes_52 rfl (lv_at hl 4 rfl) ?_
          refine lv_iload hx hb dX6_overTimes_53 (lv_at hl 0 rfl) ?_
          refine lv_iadd hx hb dX6_overTimes_55 ?_
          refine lv_istore_n (lv' := [(2, .int (su + (gt i))), (6, .int (gt i)), (5, .int (nI i)), (4, .int mo9), (3, .int le), (0, .ref om), (1, .int (nI w))]) hx hb dX6_overTimes_56 rfl hl (by decide) rfl (fun ls hl => ?_)
          refine lv_iload hx hb dX6_overTimes_57 (lv_at hl 1 rfl) ?_
          refine lv_iload_n hx hb dX6_overTimes_59 rfl (lv_at hl 4 rfl) ?_
          refine lv_icmp_ge (tgt := 68) hx hb dX6_overTimes_60 (by decide) (fun c13 => ?_) (fun c13 => ?_)
          · refine lv_iload_n hx hb dX6_overTimes_68 rfl (lv_at hl 4 rfl) ?_
            refine lv_istore_n (lv' := [(3, .int le), (2, .int (su + (gt i))), (6, .int (gt i)), (5, .int (nI i)), (4, .int mo9), (0, .ref om), (1, .int (nI w))]) hx hb dX6_overTimes_69 rfl hl (by decide) rfl (fun ls hl => ?_)
            refine lv_iload hx hb dX6_overTimes_70 (lv_at hl 2 rfl) ?_
            refine lv_iload hx hb dX6_overTimes_72 (lv_at hl 4 rfl) ?_
            refine lv_icmp_le (tgt := 82) hx hb dX6_overTimes_74 (by decide) (fun c14 => ?_) (fun c14 => ?_)
            · refine lv_iload hx hb dX6_overTimes_82 (lv_at hl 4 rfl) ?_
              refine lv_istore (lv' := [(4, .int mo9), (3, .int le), (2, .int (su + (gt i))), (6, .int (gt i)), (5, .int (nI i)), (0, .ref om), (1, .int (nI w))]) hx hb dX6_overTimes_84 hl (by decide) rfl (fun ls hl => ?_)
              refine lv_iinc (v := nI (i + 1)) (lv' := [(5, .int (nI (i + 1))), (4, .int mo9), (3, .int le), (2, .int (su + (gt i))), (6, .int (gt i)), (0, .ref om), (1, .int (nI w))]) hx hb dX6_overTimes_86 hl (k := 4) rfl (ni_inc _ _ (by decide)) (by decide) rfl (fun ls hl => ?_)
              refine lv_goto (tgt := 29) hx hb dX6_overTimes_89 (by decide) ?_
              exact ih2 (i + 1) (su + (gt i)) le mo9 (by omega) (by omega) (by rw [hsu, lst_succ, sumL_app]) (by first | exact ov_l1 hle (by omega) (by assumption) | exact ov_l0 hle (by omega) (by assumption)) (by first | exact ov_m1 hmo (by assumption) | exact ov_m0 hmo (by assumption)) ls (lv_sub hl [0, 1, 2, 3, 5, 6] rfl)
            · refine lv_iload hx hb dX6_overTimes_77 (lv_at hl 2 rfl) ?_
              refine lv_goto (tgt := 84) hx hb dX6_overTimes_79 (by decide) ?_
              refine lv_istore (lv' := [(4, .int (gt i)), (3, .int le), (2, .int (su + (gt i))), (6, .int (gt i)), (5, .int (nI i)), (0, .ref om), (1, .int (nI w))]) hx hb dX6_overTimes_84 hl (by decide) rfl (fun ls hl => ?_)
              refine lv_iinc (v := nI (i + 1)) (lv' := [(5, .int (nI (i + 1))), (4, .int (gt i)), (3, .int le), (2, .int (su + (gt i))), (6, .int (gt i)), (0, .ref om), (1, .int (nI w))]) hx hb dX6_overTimes_86 hl (k := 4) rfl (ni_inc _ _ (by decide)) (by decide) rfl (fun ls hl => ?_)
              refine lv_goto (tgt := 29) hx hb dX6_overTimes_89 (by decide) ?_
              exact ih2 (i + 1) (su + (gt i)) le (gt i) (by omega) (by omega) (by rw [hsu, lst_succ, sumL_app]) (by first | exact ov_l1 hle (by omega) (by assumption) | exact ov_l0 hle (by omega) (by assumption)) (by first | exact ov_m1 hmo (by assumption) | exact ov_m0 hmo (by assumption)) ls (lv_sub hl [0, 1, 2, 3, 5, 6] rfl)
          · refine lv_iload hx hb dX6_overTimes_63 (lv_at hl 1 rfl) ?_
            refine lv_goto (tgt := 69) hx hb dX6_overTimes_65 (by decide) ?_
            refine lv_istore_n (lv' := [(3, .int (gt i)), (2, .int (su + (gt i))), (6, .int (gt i)), (5, .int (nI i)), (4, .int mo9), (0, .ref om), (1, .int (nI w))]) hx hb dX6_overTimes_69 rfl hl (by decide) rfl (fun ls hl => ?_)
            refine lv_iload hx hb dX6_overTimes_70 (lv_at hl 2 rfl) ?_
            refine lv_iload hx hb dX6_overTimes_72 (lv_at hl 4 rfl) ?_
            refine lv_icmp_le (tgt := 82) hx hb dX6_overTimes_74 (by decide) (fun c15 => ?_) (fun c15 => ?_)
            · refine lv_iload hx hb dX6_overTimes_82 (lv_at hl 4 rfl) ?_
              refine lv_istore (lv' := [(4, .int mo9), (3, .int (gt i)), (2, .int (su + (gt i))), (6, .int (gt i)), (5, .int (nI i)), (0, .ref om), (1, .int (nI w))]) hx hb dX6_overTimes_84 hl (by decide) rfl (fun ls hl => ?_)
              refine lv_iinc (v := nI (i + 1)) (lv' := [(5, .int (nI (i + 1))), (4, .int mo9), (3, .int (gt i)), (2, .int (su + (gt i))), (6, .int (gt i)), (0, .ref om), (1, .int (nI w))]) hx hb dX6_overTimes_86 hl (k := 4) rfl (ni_inc _ _ (by decide)) (by decide) rfl (fun ls hl => ?_)
              refine lv_goto (tgt := 29) hx hb dX6_overTimes_89 (by decide) ?_
              exact ih2 (i + 1) (su + (gt i)) (gt i) mo9 (by omega) (by omega) (by rw [hsu, lst_succ, sumL_app]) (by first | exact ov_l1 hle (by omega) (by assumption) | exact ov_l0 hle (by omega) (by assumption)) (by first | exact ov_m1 hmo (by assumption) | exact ov_m0 hmo (by assumption)) ls (lv_sub hl [0, 1, 2, 3, 5, 6] rfl)
            · refine lv_iload hx hb dX6_overTimes_77 (lv_at hl 2 rfl) ?_
              refine lv_goto (tgt := 84) hx hb dX6_overTimes_79 (by decide) ?_
              refine lv_istore (lv' := [(4, .int (gt i)), (3, .int (gt i)), (2, .int (su + (gt i))), (6, .int (gt i)), (5, .int (nI i)), (0, .ref om), (1, .int (nI w))]) hx hb dX6_overTimes_84 hl (by decide) rfl (fun ls hl => ?_)
              refine lv_iinc (v := nI (i + 1)) (lv' := [(5, .int (nI (i + 1))), (4, .int (gt i)), (3, .int (gt i)), (2, .int (su + (gt i))), (6, .int (gt i)), (0, .ref om), (1, .int (nI w))]) hx hb dX6_overTimes_86 hl (k := 4) rfl (ni_inc _ _ (by decide)) (by decide) rfl (fun ls hl => ?_)
              refine lv_goto (tgt := 29) hx hb dX6_overTimes_89 (by decide) ?_
              exact ih2 (i + 1) (su + (gt i)) (gt i) (gt i) (by omega) (by omega) (by rw [hsu, lst_succ, sumL_app]) (by first | exact ov_l1 hle (by omega) (by assumption) | exact ov_l0 hle (by omega) (by assumption)) (by first | exact ov_m1 hmo (by assumption) | exact ov_m0 hmo (by assumption)) ls (lv_sub hl [0, 1, 2, 3, 5, 6] rfl)
    exact lp29_8 ((nt - 0) + 1) 0 (nI 0) (nI 0) (nI 0) (by omega) (by omega) (by rfl) (by first | exact Or.inl ⟨by omega, rfl⟩ | exact Or.inr ⟨by omega, rfl⟩) (by rfl) ls (lv_sub hl [0, 1, 2, 3, 4, 5] rfl)
abbrev rm_kX6_counts : Room := { frames := 1, cells := 0, slots := 0, locals := 26 }
set_option maxHeartbeats 4000000 in
set_option maxRecDepth 100000 in
theorem kX6_counts (l : Launch) (D : va_G) (ca : Nat → ClassId) (om a1 a2 a3 a4 a5 a6 a7 a8 a9 : Nat) (thr ln bm br ck sa lm rs at_ tm : Int32) (hs : Int64) (z : Nat) (r f j : Int32) (nt nl : Nat) (gl gt : Nat → Int32) (sv w : Nat) (hnt : nt ≤ 200) (hnl : nl ≤ 20) (hz : z ≤ 30) (hw : w ≤ 6) (hpos : ∀ k, k < nt → ¬ gt k < nI 0) : Met l yX6_counts wsX6_counts rm_kX6_counts (pcR D ca [.ref om, .int (nI w)] [(om, .inr (6, [.int thr, .ref a1, .ref a2, .ref a3, .int (nI sv), .ref a4, .ref a5, .ref a6, .int ln, .ref a7, .int bm, .int br, .int ck, .int sa, .ref a8, .int lm, .int rs, .int at_, .ref a9, .int tm, .long hs])), (a1, .inl (ca 0, 226, .inl (sF z r f j nt nl gl gt)))]) (vp_Si (fun zr : Int32 => zr = cntT w (lst gt nt) (lst gl nl) sv)) 0 0 (fun _ => False) := by
  refine Met.ofW (cc := cX6_counts) (maxL := 2) (ret := (some .int)) (by decide) rfl ?_
  intro p e s m args below meth c s₁ B hml hv
  obtain ⟨rfl, hP, hK⟩ := hv
  have hx := B.exec
  have hb := B.bytes
  have hr := B.returns
  have hts := atoms_spec (ws := wsX6_counts) B.pre
  have hown : s.vm.findClass RX6 = some m.cls := findClass_of_methodNamed B.named
  have hlocks := B.notSynchronized
  have hKv := hK.1
  have hl := lv_entry ([.ref om, .int (nI w)]) (n := 2) (kk_le rfl)
  rw [lg_entry_eq]
  generalize (lg_sl ([.ref om, .int (nI w)]) ++ List.replicate (2 - (lg_sl ([.ref om, .int (nI w)])).length) Slot.unset).toArray = ls at hl ⊢
  have hl : lv_has ls 2 [(0, .ref om), (1, .int (nI w))] := hl
  have hiX6 : ∀ w ∈ u_ws RX6 TX6 21, w ∈ wsX6_counts := fun w h => by first | exact List.mem_cons_of_mem _ (List.mem_append_right _ h) | exact List.mem_cons_of_mem _ (List.mem_append_left _ (List.mem_append_right _ h)) | exact List.mem_cons_of_mem _ (List.mem_append_left _ (List.mem_append_left _ (List.mem_append_right _ h))) | exact List.mem_cons_of_mem _ (List.mem_append_left _ (List.mem_append_left _ (List.mem_append_left _ (List.mem_append_right _ h)))) | (revert w h; decide +kernel)
  have lk7 : (Cond.fieldLink RX6 7 "StripeSwipesModel" "s" "[I").before _ s = true := hts _ (by decide +kernel)
  have lk42 : (Cond.fieldLink RX6 42 "StripeSwipesModel" "savedMany" "I").before _ s = true := hts _ (by decide +kernel)
  refine lv_iload_n hx hb dX6_counts_0 rfl (lv_at hl 1 rfl) ?_
  rcases (show w = 0 ∨ w = 1 ∨ w = 2 ∨ w = 3 ∨ w = 4 ∨ w = 5 ∨ 5 < w from by omega) with rfl | rfl | rfl | rfl | rfl | rfl | c1
  · refine lv_tableIn (tgt := 40) (off := 39) hx hb dX6_counts_1 (by decide) (by decide) (by decide) (by decide) ?_
    refine lv_aload_n hx hb dX6_counts_40 rfl (lv_at hl 0 rfl) ?_
    refine va_get (D := D) (ci := 6) (C := RX6) (T := TX6) (N := 21) hx hb hts hiX6 hown hKv hP 0 rfl rfl 1 (by decide) lk7 (fun _ h9 => h9) rfl dX6_counts_41 ?_
    refine lv_iconst (v := nI 4) hx hb dX6_counts_44 (by decide) ?_
    refine my_iald hx hb hK hP 1 rfl (by omega) (by omega) dX6_counts_45 ?_
    rw [show sF z r f j nt nl gl gt 4 = nI nt from rfl]
    exact W.iret (v := nI nt) hx hb hr (fun t ht _ => ⟨_, rfl, by exact ct_0 gt nt _ sv, ht⟩) (fun _ h => nomatch h) dX6_counts_46
  · refine lv_tableIn (tgt := 47) (off := 46) hx hb dX6_counts_1 (by decide) (by decide) (by decide) (by decide) ?_
    refine lv_aload_n hx hb dX6_counts_47 rfl (lv_at hl 0 rfl) ?_
    refine lv_iload_n hx hb dX6_counts_48 rfl (lv_at hl 1 rfl) ?_
    refine vp_callSi (va_Run.run (va_runV (As := [.int (nI 1)]) (rest := []) ⟨hx, hb, hml, hown, hts⟩ (kX6_overTimes l D ca om a1 a2 a3 a4 a5 a6 a7 a8 a9 thr (nI sv) ln bm br ck sa lm rs at_ tm hs z r f j nt nl gl gt 1 (by omega) (by omega) (by omega) (by omega) (by exact hpos)) (cwV 1 hts gX6_counts_X6_overTimes rfl rfl rfl (by decide +kernel) ⟨kk_le rfl, kk_le rfl⟩) (pvR hK hP (va_recv hKv hP (ci := 6) (q0 := 0) rfl rfl)) rfl rfl hl.1 rfl (lv_room (kk_le rfl)) dX6_counts_49 ⟨kk_le rfl, kk_le rfl⟩)) (fun r2 hr2 => ?_)
    subst hr2
    exact W.iret (v := tolO 1 (lst gt nt)) hx hb hr (fun t ht _ => ⟨_, rfl, by exact ct_o _ _ (by omega) (by omega), ht⟩) (fun _ h => nomatch h) dX6_counts_52
  · refine lv_tableIn (tgt := 47) (off := 46) hx hb dX6_counts_1 (by decide) (by decide) (by decide) (by decide) ?_
    refine lv_aload_n hx hb dX6_counts_47 rfl (lv_at hl 0 rfl) ?_
    refine lv_iload_n hx hb dX6_counts_48 rfl (lv_at hl 1 rfl) ?_
    refine vp_callSi (va_Run.run (va_runV (As := [.int (nI 2)]) (rest := []) ⟨hx, hb, hml, hown, hts⟩ (kX6_overTimes l D ca om a1 a2 a3 a4 a5 a6 a7 a8 a9 thr (nI sv) ln bm br ck sa lm rs at_ tm hs z r f j nt nl gl gt 2 (by omega) (by omega) (by omega) (by omega) (by exact hpos)) (cwV 1 hts gX6_counts_X6_overTimes rfl rfl rfl (by decide +kernel) ⟨kk_le rfl, kk_le rfl⟩) (pvR hK hP (va_recv hKv hP (ci := 6) (q0 := 0) rfl rfl)) rfl rfl hl.1 rfl (lv_room (kk_le rfl)) dX6_counts_49 ⟨kk_le rfl, kk_le rfl⟩)) (fun r3 hr3 => ?_)
    subst hr3
    exact W.iret (v := tolO 2 (lst gt nt)) hx hb hr (fun t ht _ => ⟨_, rfl, by exact ct_o _ _ (by omega) (by omega), ht⟩) (fun _ h => nomatch h) dX6_counts_52
  · refine lv_tableIn (tgt := 47) (off := 46) hx hb dX6_counts_1 (by decide) (by decide) (by decide) (by decide) ?_
    refine lv_aload_n hx hb dX6_counts_47 rfl (lv_at hl 0 rfl) ?_
    refine lv_iload_n hx hb dX6_counts_48 rfl (lv_at hl 1 rfl) ?_
    refine vp_callSi (va_Run.run (va_runV (As := [.int (nI 3)]) (rest := []) ⟨hx, hb, hml, hown, hts⟩ (kX6_overTimes l D ca om a1 a2 a3 a4 a5 a6 a7 a8 a9 thr (nI sv) ln bm br ck sa lm rs at_ tm hs z r f j nt nl gl gt 3 (by omega) (by omega) (by omega) (by omega) (by exact hpos)) (cwV 1 hts gX6_counts_X6_overTimes rfl rfl rfl (by decide +kernel) ⟨kk_le rfl, kk_le rfl⟩) (pvR hK hP (va_recv hKv hP (ci := 6) (q0 := 0) rfl rfl)) rfl rfl hl.1 rfl (lv_room (kk_le rfl)) dX6_counts_49 ⟨kk_le rfl, kk_le rfl⟩)) (fun r4 hr4 => ?_)
    subst hr4
    exact W.iret (v := tolO 3 (lst gt nt)) hx hb hr (fun t ht _ => ⟨_, rfl, by exact ct_o _ _ (by omega) (by omega), ht⟩) (fun _ h => nomatch h) dX6_counts_52
  · refine lv_tableIn (tgt := 53) (off := 52) hx hb dX6_counts_1 (by decide) (by decide) (by decide) (by decide) ?_
    refine lv_aload_n hx hb dX6_counts_53 rfl (lv_at hl 0 rfl) ?_
    refine va_get (D := D) (ci := 6) (C := RX6) (T := TX6) (N := 21) hx hb hts hiX6 hown hKv hP 0 rfl rfl 1 (by decide) lk7 (fun _ h9 => h9) rfl dX6_counts_54 ?_
    refine lv_iconst (v := nI 5) hx hb dX6_counts_57 (by decide) ?_
    refine my_iald hx hb hK hP 1 rfl (by omega) (by omega) dX6_counts_58 ?_
    rw [show sF z r f j nt nl gl gt 5 = nI nl from rfl]
    exact W.iret (v := nI nl) hx hb hr (fun t ht _ => ⟨_, rfl, by exact ct_4 gl nl _ sv, ht⟩) (fun _ h => nomatch h) dX6_counts_59
  · refine lv_tableIn (tgt := 60) (off := 59) hx hb dX6_counts_1 (by decide) (by decide) (by decide) (by decide) ?_
    refine lv_aload_n hx hb dX6_counts_60 rfl (lv_at hl 0 rfl) ?_
    refine va_get (D := D) (ci := 6) (C := RX6) (T := TX6) (N := 21) hx hb hts hiX6 hown hKv hP 0 rfl rfl 1 (by decide) lk7 (fun _ h9 => h9) rfl dX6_counts_61 ?_
    refine lv_iconst (v := nI 5) hx hb dX6_counts_64 (by decide) ?_
    refine my_iald hx hb hK hP 1 rfl (by omega) (by omega) dX6_counts_65 ?_
    rw [show sF z r f j nt nl gl gt 5 = nI nl from rfl]
    refine ni_if_ne (tgt := 73) (by omega) hx hb dX6_counts_66 (by decide) (fun c5 => ?_) (fun c5 => ?_)
    · refine lv_aload_n hx hb dX6_counts_73 rfl (lv_at hl 0 rfl) ?_
      refine vp_callSi (va_Run.run (va_runV (As := []) (rest := []) ⟨hx, hb, hml, hown, hts⟩ (kX6_check l D ca om a1 a2 a3 a4 a5 a6 a7 a8 a9 thr (nI sv) ln bm br ck sa lm rs at_ tm hs z r f j nt nl gl gt (by first | rfl | assumption | omega | trivial | (exfalso; omega)) (by first | rfl | assumption | omega | trivial | (exfalso; omega)) (by first | rfl | assumption | omega | trivial | (exfalso; omega))) (cwV 0 hts gX6_counts_X6_check rfl rfl rfl (by decide +kernel) ⟨kk_le rfl, kk_le rfl⟩) (pvR hK hP (va_recv hKv hP (ci := 6) (q0 := 0) rfl rfl)) rfl rfl hl.1 rfl (lv_room (kk_le rfl)) dX6_counts_74 ⟨kk_le rfl, kk_le rfl⟩)) (fun r6 hr6 => ?_)
      subst hr6
      exact W.iret (v := chkL (lst gl nl)) hx hb hr (fun t ht _ => ⟨_, rfl, by exact ct_5 gl (by omega), ht⟩) (fun _ h => nomatch h) dX6_counts_77
    · refine lv_iconst (v := (-1)) hx hb dX6_counts_69 (by decide) ?_
      refine lv_goto (tgt := 77) hx hb dX6_counts_70 (by decide) ?_
      exact W.iret (v := (-1)) hx hb hr (fun t ht _ => ⟨_, rfl, by exact ct_50 gl (by omega), ht⟩) (fun _ h => nomatch h) dX6_counts_77
  · refine lv_tableOut (tgt := 78) hx hb dX6_counts_1 (Or.inr (by rw [nI_toInt (by omega)]; omega)) (by decide) ?_
    refine lv_aload_n hx hb dX6_counts_78 rfl (lv_at hl 0 rfl) ?_
    refine va_get (D := D) (ci := 6) (C := RX6) (T := TX6) (N := 21) hx hb hts hiX6 hown hKv hP 0 rfl rfl 4 (by decide) lk42 (fun _ h9 => h9) rfl dX6_counts_79 ?_
    exact W.iret (v := nI sv) hx hb hr (fun t ht _ => ⟨_, rfl, by exact ct_6 _ _ (by omega), ht⟩) (fun _ h => nomatch h) dX6_counts_82
abbrev rm_kX6_share : Room := { frames := 1, cells := 0, slots := 0, locals := 26 }
set_option maxHeartbeats 4000000 in
set_option maxRecDepth 100000 in
theorem kX6_share (l : Launch) (D : va_G) (ca : Nat → ClassId) (om a1 a2 a3 a4 a5 a6 a7 a8 a9 : Nat) (thr sv ln bm br ck sa lm rs at_ tm : Int32) (hs : Int64) (z : Nat) (r f j : Int32) (nt nl : Nat) (gl gt : Nat → Int32) (hnt : nt ≤ 200) (hnl : nl ≤ 20) (hz : z ≤ 30) (hpos : ∀ k, k < nt → ¬ gt k < nI 0) : Met l yX6_share wsX6_share rm_kX6_share (pcR D ca [.ref om] [(om, .inr (6, [.int thr, .ref a1, .ref a2, .ref a3, .int sv, .ref a4, .ref a5, .ref a6, .int ln, .ref a7, .int bm, .int br, .int ck, .int sa, .ref a8, .int lm, .int rs, .int at_, .ref a9, .int tm, .long hs])), (a1, .inl (ca 0, 226, .inl (sF z r f j nt nl gl gt)))]) (vp_Sd (fun zr : UInt64 => zr = shT r (lst gt nt))) 0 0 (fun _ => False) := by
  refine Met.ofW (cc := cX6_share) (maxL := 4) (ret := (some .double)) (by decide) rfl ?_
  intro p e s m args below meth c s₁ B hml hv
  obtain ⟨rfl, hP, hK⟩ := hv
  have hx := B.exec
  have hb := B.bytes
  have hr := B.returns
  have hts := atoms_spec (ws := wsX6_share) B.pre
  have hown : s.vm.findClass RX6 = some m.cls := findClass_of_methodNamed B.named
  have hlocks := B.notSynchronized
  have hKv := hK.1
  have hl := lv_entry ([.ref om]) (n := 4) (kk_le rfl)
  rw [lg_entry_eq]
  generalize (lg_sl ([.ref om]) ++ List.replicate (4 - (lg_sl ([.ref om])).length) Slot.unset).toArray = ls at hl ⊢
  have hl : lv_has ls 4 [(0, .ref om)] := hl
  generalize hQz : MQ below _ _ _ _ _ _ = Qz
  have hiX6 : ∀ w ∈ u_ws RX6 TX6 21, w ∈ wsX6_share := fun w h => by first | exact List.mem_cons_of_mem _ (List.mem_append_right _ h) | exact List.mem_cons_of_mem _ (List.mem_append_left _ (List.mem_append_right _ h)) | exact List.mem_cons_of_mem _ (List.mem_append_left _ (List.mem_append_left _ (List.mem_append_right _ h))) | exact List.mem_cons_of_mem _ (List.mem_append_left _ (List.mem_append_left _ (List.mem_append_left _ (List.mem_append_right _ h)))) | (revert w h; decide +kernel)
  have lk7 : (Cond.fieldLink RX6 7 "StripeSwipesModel" "s" "[I").before _ s = true := hts _ (by decide +kernel)
  refine lv_aload_n hx hb dX6_share_0 rfl (lv_at hl 0 rfl) ?_
  refine va_get (D := D) (ci := 6) (C := RX6) (T := TX6) (N := 21) hx hb hts hiX6 hown hKv hP 0 rfl rfl 1 (by decide) lk7 (fun _ h9 => h9) rfl dX6_share_1 ?_
  refine lv_iconst (v := nI 4) hx hb dX6_share_4 (by decide) ?_
  refine my_iald hx hb hK hP 1 rfl (by omega) (by omega) dX6_share_5 ?_
  rw [show sF z r f j nt nl gl gt 4 = nI nt from rfl]
  refine ni_if_ne (tgt := 11) (by omega) hx hb dX6_share_6 (by decide) (fun c1 => ?_) (fun c1 => ?_)
  · refine lv_aload_n hx hb dX6_share_11 rfl (lv_at hl 0 rfl) ?_
    refine lv_iconst (v := nI 1) hx hb dX6_share_12 (by decide) ?_
    refine vp_callSi (va_Run.run (va_runV (As := [.int (nI 1)]) (rest := []) ⟨hx, hb, hml, hown, hts⟩ (kX6_overTimes l D ca om a1 a2 a3 a4 a5 a6 a7 a8 a9 thr sv ln bm br ck sa lm rs at_ tm hs z r f j nt nl gl gt 1 (by omega) (by omega) (by omega) (by omega) (by exact hpos)) (cwV 1 hts gX6_share_X6_overTimes rfl rfl rfl (by decide +kernel) ⟨kk_le rfl, kk_le rfl⟩) (pvR hK hP (va_recv hKv hP (ci := 6) (q0 := 0) rfl rfl)) rfl rfl hl.1 rfl (lv_room (kk_le rfl)) dX6_share_13 ⟨kk_le rfl, kk_le rfl⟩)) (fun r2 hr2 => ?_)
    subst hr2
    refine lv_aload_n hx hb dX6_share_16 rfl (lv_at hl 0 rfl) ?_
    refine va_get (D := D) (ci := 6) (C := RX6) (T := TX6) (N := 21) hx hb hts hiX6 hown hKv hP 0 rfl rfl 1 (by decide) lk7 (fun _ h9 => h9) rfl dX6_share_17 ?_
    refine lv_iconst (v := nI 4) hx hb dX6_share_20 (by decide) ?_
    refine my_iald hx hb hK hP 1 rfl (by omega) (by omega) dX6_share_21 ?_
    rw [show sF z r f j nt nl gl gt 4 = nI nt from rfl]
    refine lv_idiv hx hb dX6_share_22 (by first | decide | assumption | exact nI_ne0 (by omega) (by omega)) ?_
    refine lv_aload_n hx hb dX6_share_23 rfl (lv_at hl 0 rfl) ?_
    refine va_get (D := D) (ci := 6) (C := RX6) (T := TX6) (N := 21) hx hb hts hiX6 hown hKv hP 0 rfl rfl 1 (by decide) lk7 (fun _ h9 => h9) rfl dX6_share_24 ?_
    refine lv_iconst (v := nI 1) hx hb dX6_share_27 (by decide) ?_
    refine my_iald hx hb hK hP 1 rfl (by omega) (by omega) dX6_share_28 ?_
    rw [show sF z r f j nt nl gl gt 1 = r from rfl]
    refine lv_imul hx hb dX6_share_29 ?_
    refine lv_bipush (v := nI 100) hx hb dX6_share_30 (by decide) ?_
    refine lv_idiv hx hb dX6_share_32 (by first | decide | assumption | exact nI_ne0 (by omega) (by omega)) ?_
    refine lv_istore_n (lv' := [(1, .int ((((tolO 1 (lst gt nt)) / (nI nt)) * r) / (nI 100))), (0, .ref om)]) hx hb dX6_share_33 rfl hl (by decide) rfl (fun ls hl => ?_)
    refine lv_iconst (v := nI 0) hx hb dX6_share_34 (by decide) ?_
    refine lv_istore_n (lv' := [(2, .int (nI 0)), (1, .int ((((tolO 1 (lst gt nt)) / (nI nt)) * r) / (nI 100))), (0, .ref om)]) hx hb dX6_share_35 rfl hl (by decide) rfl (fun ls hl => ?_)
    refine lv_iconst (v := nI 0) hx hb dX6_share_36 (by decide) ?_
    refine lv_istore_n (lv' := [(3, .int (nI 0)), (2, .int (nI 0)), (1, .int ((((tolO 1 (lst gt nt)) / (nI nt)) * r) / (nI 100))), (0, .ref om)]) hx hb dX6_share_37 rfl hl (by decide) rfl (fun ls hl => ?_)
    have lp38_2 : ∀ (k1 : Nat) (i cn : Nat), nt - i < k1 → (i ≤ nt) → (cn = ltC (tolO 1 (lst gt nt) / nI nt * r / nI 100) (lst gt i)) → ∀ (ls : Array Slot), lv_has ls 4 [(3, .int (nI i)), (2, .int (nI cn)), (1, .int ((((tolO 1 (lst gt nt)) / (nI nt)) * r) / (nI 100))), (0, .ref om)] → W p l e rm_kX6_share s m ([.ref om] : List Value).toArray below meth c s.heap [] 0 0 Qz (F0 m 38 ls []) := by
      intro k1
      induction k1 with
      | zero => intro i cn hm1; exact absurd hm1 (Nat.not_lt_zero _)
      | succ k1 ih1 =>
        intro i cn hm1 hi hcn ls hl
        refine lv_iload_n hx hb dX6_share_38 rfl (lv_at hl 0 rfl) ?_
        refine lv_aload_n hx hb dX6_share_39 rfl (lv_at hl 3 rfl) ?_
        refine va_get (D := D) (ci := 6) (C := RX6) (T := TX6) (N := 21) hx hb hts hiX6 hown hKv hP 0 rfl rfl 1 (by decide) lk7 (fun _ h9 => h9) rfl dX6_share_40 ?_
        refine lv_iconst (v := nI 4) hx hb dX6_share_43 (by decide) ?_
        refine my_iald hx hb hK hP 1 rfl (by omega) (by omega) dX6_share_44 ?_
        rw [show sF z r f j nt nl gl gt 4 = nI nt from rfl]
        refine ni_icmp_ge (tgt := 75) (by omega) (by omega) hx hb dX6_share_45 (by decide) (fun c4 => ?_) (fun c4 => ?_)
        · refine lv_iload_n hx hb dX6_share_75 rfl (lv_at hl 1 rfl) ?_
          refine lv_i2d hx hb dX6_share_76 ?_
          refine lv_aload_n hx hb dX6_share_77 rfl (lv_at hl 3 rfl) ?_
          refine va_get (D := D) (ci := 6) (C := RX6) (T := TX6) (N := 21) hx hb hts hiX6 hown hKv hP 0 rfl rfl 1 (by decide) lk7 (fun _ h9 => h9) rfl dX6_share_78 ?_
          refine lv_iconst (v := nI 4) hx hb dX6_share_81 (by decide) ?_
          refine my_iald hx hb hK hP 1 rfl (by omega) (by omega) dX6_share_82 ?_
          rw [show sF z r f j nt nl gl gt 4 = nI nt from rfl]
          refine lv_i2d hx hb dX6_share_83 ?_
          refine lv_ddiv hx hb dX6_share_84 (by exact sh_nn (by omega) (by have := lc_le gt i (tolO 1 (lst gt nt) / nI nt * r / nI 100); omega) (by omega)) ?_
          subst hQz
          exact W.dret (v := FP.ddiv (FP.i2d (nI cn)) (FP.i2d (nI nt))) hx hb hr (fun t ht _ => ⟨_, rfl, by first | exact sh_0 r gt (by omega) | exact sh_n (by omega) (by omega) hcn, ht⟩) (fun _ h => nomatch h) dX6_share_85
        · refine lv_iload_n hx hb dX6_share_48 rfl (lv_at hl 1 rfl) ?_
          refine lv_aload_n hx hb dX6_share_49 rfl (lv_at hl 3 rfl) ?_
          refine va_get (D := D) (ci := 6) (C := RX6) (T := TX6) (N := 21) hx hb hts hiX6 hown hKv hP 0 rfl rfl 1 (by decide) lk7 (fun _ h9 => h9) rfl dX6_share_50 ?_
          refine lv_bipush (v := nI 26) hx hb dX6_share_53 (by decide) ?_
          refine lv_iload_n hx hb dX6_share_55 rfl (lv_at hl 0 rfl) ?_
          refine ni_iadd hx hb dX6_share_56 ?_
          refine my_iald hx hb hK hP 1 rfl (by omega) (by omega) dX6_share_57 ?_
          rw [show sF z r f j nt nl gl gt (26 + i) = gt i from sF_gt _ _ _ _ _ _ _ _ (by omega)]
          refine lv_iload_n hx hb dX6_share_58 rfl (lv_at hl 2 rfl) ?_
          refine lv_icmp_ge (tgt := 66) hx hb dX6_share_59 (by decide) (fun c5 => ?_) (fun c5 => ?_)
          · refine lv_iconst (v := nI 0) hx hb dX6_share_66 (by decide) ?_
            refine ni_iadd hx hb dX6_share_67 ?_
            refine lv_istore_n (lv' := [(2, .int (nI (cn + 0))), (3, .int (nI i)), (1, .int ((((tolO 1 (lst gt nt)) / (nI nt)) * r) / (nI 100))), (0, .ref om)]) hx hb dX6_share_68 rfl hl (by decide) rfl (fun ls hl => ?_)
            refine lv_iinc (v := nI (i + 1)) (lv' := [(3, .int (nI (i + 1))), (2, .int (nI (cn + 0))), (1, .int ((((tolO 1 (lst gt nt)) / (nI nt)) * r) / (nI 100))), (0, .ref om)]) hx hb dX6_share_69 hl (k := 1) rfl (ni_inc _ _ (by decide)) (by decide) rfl (fun ls hl => ?_)
            refine lv_goto (tgt := 38) hx hb dX6_share_72 (by decide) ?_
            exact ih1 (i + 1) (cn + 0) (by omega) (by omega) (by first | exact lc_1 hcn (by assumption) | exact lc_0 hcn (by assumption)) ls (lv_sub hl [0, 1, 2, 3] rfl)
          · refine lv_iconst (v := nI 1) hx hb dX6_share_62 (by decide) ?_
            refine lv_goto (tgt := 67) hx hb dX6_share_63 (by decide) ?_
            refine ni_iadd hx hb dX6_share_67 ?_
            refine lv_istore_n (lv' := [(2, .int (nI (cn + 1))), (3, .int (nI i)), (1, .int ((((tolO 1 (lst gt nt)) / (nI nt)) * r) / (nI 100))), (0, .ref om)]) hx hb dX6_share_68 rfl hl (by decide) rfl (fun ls hl => ?_)
            refine lv_iinc (v := nI (i + 1)) (lv' := [(3, .int (nI (i + 1))), (2, .int (nI (cn + 1))), (1, .int ((((tolO 1 (lst gt nt)) / (nI nt)) * r) / (nI 100))), (0, .ref om)]) hx hb dX6_share_69 hl (k := 1) rfl (ni_inc _ _ (by decide)) (by decide) rfl (fun ls hl => ?_)
            refine lv_goto (tgt := 38) hx hb dX6_share_72 (by decide) ?_
            exact ih1 (i + 1) (cn + 1) (by omega) (by omega) (by first | exact lc_1 hcn (by assumption) | exact lc_0 hcn (by assumption)) ls (lv_sub hl [0, 1, 2, 3] rfl)
    exact lp38_2 ((nt - 0) + 1) 0 0 (by omega) (by omega) (by rfl) ls (lv_sub hl [0, 1, 2, 3] rfl)
  · refine lv_dconst0 hx hb dX6_share_9 ?_
    subst hQz
    exact W.dret (v := FP.dconst0) hx hb hr (fun t ht _ => ⟨_, rfl, by first | exact sh_0 r gt (by omega) | exact sh_n (by omega) (by omega) hcn, ht⟩) (fun _ h => nomatch h) dX6_share_10
abbrev rm_kX6_hashes : Room := { frames := 0, cells := 0, slots := 0, locals := 0 }
set_option maxHeartbeats 4000000 in
set_option maxRecDepth 100000 in
theorem kX6_hashes (l : Launch) (D : va_G) (ca : Nat → ClassId) (sz : Nat) (om a1 a2 a3 a4 a5 a6 a7 a8 a9 : Nat) (thr sv ln bm br ck sa lm rs at_ tm : Int32) (hs : Int64) (v : Int64) : Met l yX6_hashes wsX6_hashes rm_kX6_hashes (pcM D ca [.ref om, .long v] [(om, .inr (6, [.int thr, .ref a1, .ref a2, .ref a3, .int sv, .ref a4, .ref a5, .ref a6, .int ln, .ref a7, .int bm, .int br, .int ck, .int sa, .ref a8, .int lm, .int rs, .int at_, .ref a9, .int tm, .long hs]))] sz) (va_Qv (fun (u : Unit) => True) (qB D (va_A [(om, .inr (6, [.int thr, .ref a1, .ref a2, .ref a3, .int sv, .ref a4, .ref a5, .ref a6, .int ln, .ref a7, .int bm, .int br, .int ck, .int sa, .ref a8, .int lm, .int rs, .int at_, .ref a9, .int tm, .long hs]))] sz) (fun u : Unit => [(om, .inr (6, [.int thr, .ref a1, .ref a2, .ref a3, .int sv, .ref a4, .ref a5, .ref a6, .int ln, .ref a7, .int bm, .int br, .int ck, .int sa, .ref a8, .int lm, .int rs, .int at_, .ref a9, .int tm, .long (31 * hs + v)]))])) (va_A [(om, .inr (6, [.int thr, .ref a1, .ref a2, .ref a3, .int sv, .ref a4, .ref a5, .ref a6, .int ln, .ref a7, .int bm, .int br, .int ck, .int sa, .ref a8, .int lm, .int rs, .int at_, .ref a9, .int tm, .long hs]))] sz)) 0 0 (va_A [(om, .inr (6, [.int thr, .ref a1, .ref a2, .ref a3, .int sv, .ref a4, .ref a5, .ref a6, .int ln, .ref a7, .int bm, .int br, .int ck, .int sa, .ref a8, .int lm, .int rs, .int at_, .ref a9, .int tm, .long hs]))] sz) := by
  refine Met.ofW (cc := cX6_hashes) (maxL := 3) (ret := none) (by decide) rfl ?_
  intro p e s m args below meth c s₁ B hml hv
  obtain ⟨rfl, hsz, hP, hK, hD0⟩ := hv
  have hx := B.exec
  have hb := B.bytes
  have hr := B.returns
  have hts := atoms_spec (ws := wsX6_hashes) B.pre
  have hown : s.vm.findClass RX6 = some m.cls := findClass_of_methodNamed B.named
  have hlocks := B.notSynchronized
  subst hsz
  have hD := hD0.self (sz := s.heap.size)
  generalize hAe : va_A [(om, .inr (6, [.int thr, .ref a1, .ref a2, .ref a3, .int sv, .ref a4, .ref a5, .ref a6, .int ln, .ref a7, .int bm, .int br, .int ck, .int sa, .ref a8, .int lm, .int rs, .int at_, .ref a9, .int tm, .long hs]))] s.heap.size = A at hD ⊢
  have hA : ∀ q : Nat, s.heap.size ≤ q → A q := fun q h => by rw [← hAe]; exact Or.inr h
  have hS : va_S A s.heap s.heap [] := va_S.rf
  have hP : va_P D vwCl [(om, .inr (6, [.int thr, .ref a1, .ref a2, .ref a3, .int sv, .ref a4, .ref a5, .ref a6, .int ln, .ref a7, .int bm, .int br, .int ck, .int sa, .ref a8, .int lm, .int rs, .int at_, .ref a9, .int tm, .long hs]))] s.heap := hP
  have hKv := hK.1
  have hl := lv_entry ([.ref om, .long v]) (n := 3) (kk_le rfl)
  rw [lg_entry_eq]
  generalize (lg_sl ([.ref om, .long v]) ++ List.replicate (3 - (lg_sl ([.ref om, .long v])).length) Slot.unset).toArray = ls at hl ⊢
  have hl : lv_has ls 3 [(0, .ref om), (1, .long v)] := hl
  have lc198 : (Cond.constantLong RX6 198 (31)).before _ s = true := hts _ (by decide +kernel)
  have hiX6 : ∀ w ∈ u_ws RX6 TX6 21, w ∈ wsX6_hashes := fun w h => by first | exact List.mem_cons_of_mem _ (List.mem_append_right _ h) | exact List.mem_cons_of_mem _ (List.mem_append_left _ (List.mem_append_right _ h)) | exact List.mem_cons_of_mem _ (List.mem_append_left _ (List.mem_append_left _ (List.mem_append_right _ h))) | exact List.mem_cons_of_mem _ (List.mem_append_left _ (List.mem_append_left _ (List.mem_append_left _ (List.mem_append_right _ h)))) | (revert w h; decide +kernel)
  have lk200 : (Cond.fieldLink RX6 200 "StripeSwipesModel" "hash" "J").before _ s = true := hts _ (by decide +kernel)
  refine lv_aload_n hx hb dX6_hashes_0 rfl (lv_at hl 0 rfl) ?_
  refine lv_ldc2 (v := 31) hx hb hown lc198 dX6_hashes_1 ?_
  refine lv_aload_n hx hb dX6_hashes_4 rfl (lv_at hl 0 rfl) ?_
  refine va_get (D := D) (ci := 6) (C := RX6) (T := TX6) (N := 21) hx hb hts hiX6 hown hKv hP 0 rfl rfl 20 (by decide) lk200 (fun _ h9 => h9) rfl dX6_hashes_5 ?_
  refine lv_lmul hx hb dX6_hashes_8 ?_
  refine lv_lload_n hx hb dX6_hashes_9 rfl (lv_at hl 1 rfl) ?_
  refine lv_ladd hx hb dX6_hashes_10 ?_
  refine va_put (D := D) (ci := 6) (v := .long ((31 * hs) + v)) (ty := .long) (C := RX6) (T := TX6) (N := 21) hx hb hts hiX6 tyX6 tyX6_ok nmX6 hown hKv hP hD hS 0 rfl rfl 20 (by decide) lk200 (fun _ h9 => h9) rfl (by decide +kernel) rfl rfl (kk_le rfl) dX6_hashes_11 (fun H locs hP hD hS => ?_)
  have hP : va_P D vwCl [(om, .inr (6, [.int thr, .ref a1, .ref a2, .ref a3, .int sv, .ref a4, .ref a5, .ref a6, .int ln, .ref a7, .int bm, .int br, .int ck, .int sa, .ref a8, .int lm, .int rs, .int at_, .ref a9, .int tm, .long ((31 * hs) + v)]))] H := hP
  have hD : va_D A [(om, .inr (6, [.int thr, .ref a1, .ref a2, .ref a3, .int sv, .ref a4, .ref a5, .ref a6, .int ln, .ref a7, .int bm, .int br, .int ck, .int sa, .ref a8, .int lm, .int rs, .int at_, .ref a9, .int tm, .long ((31 * hs) + v)]))] := hD
  have e1 : ((31 * hs) + v : Int64) = 31 * hs + v := by first | rfl | assumption | (exfalso; omega)
  have hP : va_P D vwCl [(om, .inr (6, [.int thr, .ref a1, .ref a2, .ref a3, .int sv, .ref a4, .ref a5, .ref a6, .int ln, .ref a7, .int bm, .int br, .int ck, .int sa, .ref a8, .int lm, .int rs, .int at_, .ref a9, .int tm, .long (31 * hs + v)]))] H := Eq.mp (congrArg (fun z9 : Int64 => va_P D vwCl [(om, .inr (6, [.int thr, .ref a1, .ref a2, .ref a3, .int sv, .ref a4, .ref a5, .ref a6, .int ln, .ref a7, .int bm, .int br, .int ck, .int sa, .ref a8, .int lm, .int rs, .int at_, .ref a9, .int tm, .long z9]))] H) e1) hP
  have hD : va_D A [(om, .inr (6, [.int thr, .ref a1, .ref a2, .ref a3, .int sv, .ref a4, .ref a5, .ref a6, .int ln, .ref a7, .int bm, .int br, .int ck, .int sa, .ref a8, .int lm, .int rs, .int at_, .ref a9, .int tm, .long (31 * hs + v)]))] := Eq.mp (congrArg (fun z9 : Int64 => va_D A [(om, .inr (6, [.int thr, .ref a1, .ref a2, .ref a3, .int sv, .ref a4, .ref a5, .ref a6, .int ln, .ref a7, .int bm, .int br, .int ck, .int sa, .ref a8, .int lm, .int rs, .int at_, .ref a9, .int tm, .long z9]))]) e1) hD
  exact W.vret hx hb hr (fun t ht hW => ⟨⟨(), rfl, by trivial, by rw [ht]; exact hP, hD⟩, hS.F ht⟩) hS.2.2 dX6_hashes_14
abbrev rm_kX6_hashesReading : Room := { frames := 5, cells := 0, slots := 0, locals := 106 }
set_option maxHeartbeats 4000000 in
set_option maxRecDepth 100000 in
theorem kX6_hashesReading (l : Launch) (D : va_G) (ca : Nat → ClassId) (sz : Nat) (om a1 a2 a3 a4 a5 a6 a7 a8 a9 : Nat) (thr sv ln bm br ck sa lm rs at_ tm : Int32) (hs : Int64) (z : Nat) (r f j : Int32) (nt nl : Nat) (gl gt : Nat → Int32) (fi fe : Nat → Int32) (bw : Bool) (hnt : nt ≤ 200) (hnl : nl ≤ 20) (hz : z ≤ 30) : Met l yX6_hashesReading wsX6_hashesReading rm_kX6_hashesReading (pcM D ca [.ref om, .int (bI bw)] [(om, .inr (6, [.int thr, .ref a1, .ref a2, .ref a3, .int sv, .ref a4, .ref a5, .ref a6, .int ln, .ref a7, .int bm, .int br, .int ck, .int sa, .ref a8, .int lm, .int rs, .int at_, .ref a9, .int tm, .long hs])), (a1, .inl (ca 0, 226, .inl (sF z r f j nt nl gl gt))), (a7, .inl (ca 0, 200, .inl fi)), (a8, .inl (ca 0, 40, .inl fe))] sz) (va_Qv (fun (u : Unit) => True) (qB D (va_A [(om, .inr (6, [.int thr, .ref a1, .ref a2, .ref a3, .int sv, .ref a4, .ref a5, .ref a6, .int ln, .ref a7, .int bm, .int br, .int ck, .int sa, .ref a8, .int lm, .int rs, .int at_, .ref a9, .int tm, .long hs])), (a1, .inl (ca 0, 226, .inl (sF z r f j nt nl gl gt))), (a7, .inl (ca 0, 200, .inl fi)), (a8, .inl (ca 0, 40, .inl fe))] sz) (fun u : Unit => [(om, .inr (6, [.int thr, .ref a1, .ref a2, .ref a3, .int sv, .ref a4, .ref a5, .ref a6, .int ln, .ref a7, .int (nI ((bitsT r f (lst (twF bw gt nt) nt)).length)), .int (bI (!(rdT r f (lst (twF bw gt nt) nt)).2.2)), .int (clkT r f (lst (twF bw gt nt) nt)), .int (stB (bitsT r f (lst (twF bw gt nt) nt))), .ref a8, .int (nI ((ltB (bitsT r f (lst (twF bw gt nt) nt))).length)), .int (rsT r f (lst (twF bw gt nt) nt)), .int at_, .ref a9, .int tm, .long (hashR r f (lst (twF bw gt nt) nt) hs)])), (a1, .inl (ca 0, 226, .inl (sF z r f j nt nl gl gt))), (a7, .inl (ca 0, 200, .inl (apF fi 0 (bitsT r f (lst (twF bw gt nt) nt))))), (a8, .inl (ca 0, 40, .inl (apF fe 0 (ltB (bitsT r f (lst (twF bw gt nt) nt))))))])) (va_A [(om, .inr (6, [.int thr, .ref a1, .ref a2, .ref a3, .int sv, .ref a4, .ref a5, .ref a6, .int ln, .ref a7, .int bm, .int br, .int ck, .int sa, .ref a8, .int lm, .int rs, .int at_, .ref a9, .int tm, .long hs])), (a1, .inl (ca 0, 226, .inl (sF z r f j nt nl gl gt))), (a7, .inl (ca 0, 200, .inl fi)), (a8, .inl (ca 0, 40, .inl fe))] sz)) 0 0 (va_A [(om, .inr (6, [.int thr, .ref a1, .ref a2, .ref a3, .int sv, .ref a4, .ref a5, .ref a6, .int ln, .ref a7, .int bm, .int br, .int ck, .int sa, .ref a8, .int lm, .int rs, .int at_, .ref a9, .int tm, .long hs])), (a1, .inl (ca 0, 226, .inl (sF z r f j nt nl gl gt))), (a7, .inl (ca 0, 200, .inl fi)), (a8, .inl (ca 0, 40, .inl fe))] sz) := by
  refine Met.ofW (cc := cX6_hashesReading) (maxL := 3) (ret := none) (by decide) rfl ?_
  intro p e s m args below meth c s₁ B hml hv
  obtain ⟨rfl, hsz, hP, hK, hD0⟩ := hv
  have hx := B.exec
  have hb := B.bytes
  have hr := B.returns
  have hts := atoms_spec (ws := wsX6_hashesReading) B.pre
  have hown : s.vm.findClass RX6 = some m.cls := findClass_of_methodNamed B.named
  have hlocks := B.notSynchronized
  subst hsz
  have hD := hD0.self (sz := s.heap.size)
  generalize hAe : va_A [(om, .inr (6, [.int thr, .ref a1, .ref a2, .ref a3, .int sv, .ref a4, .ref a5, .ref a6, .int ln, .ref a7, .int bm, .int br, .int ck, .int sa, .ref a8, .int lm, .int rs, .int at_, .ref a9, .int tm, .long hs])), (a1, .inl (ca 0, 226, .inl (sF z r f j nt nl gl gt))), (a7, .inl (ca 0, 200, .inl fi)), (a8, .inl (ca 0, 40, .inl fe))] s.heap.size = A at hD ⊢
  have hA : ∀ q : Nat, s.heap.size ≤ q → A q := fun q h => by rw [← hAe]; exact Or.inr h
  have hS : va_S A s.heap s.heap [] := va_S.rf
  have hP : va_P D vwCl [(om, .inr (6, [.int thr, .ref a1, .ref a2, .ref a3, .int sv, .ref a4, .ref a5, .ref a6, .int ln, .ref a7, .int bm, .int br, .int ck, .int sa, .ref a8, .int lm, .int rs, .int at_, .ref a9, .int tm, .long hs])), (a1, .inl (ca 0, 226, .inl (sF z r f j nt nl gl gt))), (a7, .inl (ca 0, 200, .inl fi)), (a8, .inl (ca 0, 40, .inl fe))] s.heap := hP
  have hKv := hK.1
  have hl := lv_entry ([.ref om, .int (bI bw)]) (n := 3) (kk_le rfl)
  rw [lg_entry_eq]
  generalize (lg_sl ([.ref om, .int (bI bw)]) ++ List.replicate (3 - (lg_sl ([.ref om, .int (bI bw)])).length) Slot.unset).toArray = ls at hl ⊢
  have hl : lv_has ls 3 [(0, .ref om), (1, .int (bI bw))] := hl
  generalize hQz : MQ below _ _ _ _ _ _ = Qz
  have hBl : (bitsT r f (lst (twF bw gt nt) nt)).length ≤ nt := rdT_len r f (twF bw gt nt) nt
  have hlb := ltB_len (bitsT r f (lst (twF bw gt nt) nt)) (by omega)
  have hiX6 : ∀ w ∈ u_ws RX6 TX6 21, w ∈ wsX6_hashesReading := fun w h => by first | exact List.mem_cons_of_mem _ (List.mem_append_right _ h) | exact List.mem_cons_of_mem _ (List.mem_append_left _ (List.mem_append_right _ h)) | exact List.mem_cons_of_mem _ (List.mem_append_left _ (List.mem_append_left _ (List.mem_append_right _ h))) | exact List.mem_cons_of_mem _ (List.mem_append_left _ (List.mem_append_left _ (List.mem_append_left _ (List.mem_append_right _ h)))) | (revert w h; decide +kernel)
  have lk81 : (Cond.fieldLink RX6 81 "StripeSwipesModel" "bitMany" "I").before _ s = true := hts _ (by decide +kernel)
  have lk102 : (Cond.fieldLink RX6 102 "StripeSwipesModel" "letterMany" "I").before _ s = true := hts _ (by decide +kernel)
  have lk32 : (Cond.fieldLink RX6 32 "StripeSwipesModel" "letters" "[I").before _ s = true := hts _ (by decide +kernel)
  have lk29 : (Cond.fieldLink RX6 29 "StripeSwipesModel" "bits" "[I").before _ s = true := hts _ (by decide +kernel)
  refine lv_aload_n hx hb dX6_hashesReading_0 rfl (lv_at hl 0 rfl) ?_
  refine lv_iload_n hx hb dX6_hashesReading_1 rfl (lv_at hl 1 rfl) ?_
  have hPc := hP
  have hDc := hD
  have hFc := va_free (wc := [(om, .inr (6, [.int thr, .ref a1, .ref a2, .ref a3, .int sv, .ref a4, .ref a5, .ref a6, .int ln, .ref a7, .int bm, .int br, .int ck, .int sa, .ref a8, .int lm, .int rs, .int at_, .ref a9, .int tm, .long hs])), (a1, .inl (ca 0, 226, .inl (sF z r f j nt nl gl gt))), (a7, .inl (ca 0, 200, .inl fi)), (a8, .inl (ca 0, 40, .inl fe))]) hD hS hA [0, 1, 2, 3] rfl
  refine va_callv (va_runV (As := [.int (bI bw)]) (rest := []) ⟨hx, hb, hml, hown, hts⟩ (kX6_laysReading l D ca s.heap.size om a1 a2 a3 a4 a5 a6 a7 a8 a9 thr sv ln bm br ck sa lm rs at_ tm hs z r f j nt nl gl gt fi fe bw (by first | rfl | assumption | omega | trivial | (exfalso; omega)) (by first | rfl | assumption | omega | trivial | (exfalso; omega)) (by first | rfl | assumption | omega | trivial | (exfalso; omega))) (cwV 1 hts gX6_hashesReading_X6_laysReading rfl rfl rfl (by decide +kernel) ⟨kk_le rfl, kk_le rfl⟩) (pvM hK hPc (my_D_true hDc) (va_recv hKv hP (ci := 6) (q0 := 0) rfl rfl)) rfl rfl hl.1 rfl (lv_room (kk_le rfl)) dX6_hashesReading_2 ⟨kk_le rfl, kk_le rfl⟩) hS (fun q _ h => hFc q h) hFc (fun u t H1 locs ht hvm hwv hBv hz1 hk1 hS => ?_)
  obtain ⟨hP1, hD1⟩ := hBv
  rw [ht] at hP1
  have hP1 : va_P D vwCl [(om, .inr (6, [.int thr, .ref a1, .ref a2, .ref a3, .int sv, .ref a4, .ref a5, .ref a6, .int ln, .ref a7, .int (nI ((bitsT r f (lst (twF bw gt nt) nt)).length)), .int (bI (!(rdT r f (lst (twF bw gt nt) nt)).2.2)), .int (clkT r f (lst (twF bw gt nt) nt)), .int (stB (bitsT r f (lst (twF bw gt nt) nt))), .ref a8, .int (nI ((ltB (bitsT r f (lst (twF bw gt nt) nt))).length)), .int (rsT r f (lst (twF bw gt nt) nt)), .int at_, .ref a9, .int tm, .long hs])), (a1, .inl (ca 0, 226, .inl (sF z r f j nt nl gl gt))), (a7, .inl (ca 0, 200, .inl (apF fi 0 (bitsT r f (lst (twF bw gt nt) nt))))), (a8, .inl (ca 0, 40, .inl (apF fe 0 (ltB (bitsT r f (lst (twF bw gt nt) nt))))))] H1 := hP1
  have hD1 : va_D _ [(om, .inr (6, [.int thr, .ref a1, .ref a2, .ref a3, .int sv, .ref a4, .ref a5, .ref a6, .int ln, .ref a7, .int (nI ((bitsT r f (lst (twF bw gt nt) nt)).length)), .int (bI (!(rdT r f (lst (twF bw gt nt) nt)).2.2)), .int (clkT r f (lst (twF bw gt nt) nt)), .int (stB (bitsT r f (lst (twF bw gt nt) nt))), .ref a8, .int (nI ((ltB (bitsT r f (lst (twF bw gt nt) nt))).length)), .int (rsT r f (lst (twF bw gt nt) nt)), .int at_, .ref a9, .int tm, .long hs])), (a1, .inl (ca 0, 226, .inl (sF z r f j nt nl gl gt))), (a7, .inl (ca 0, 200, .inl (apF fi 0 (bitsT r f (lst (twF bw gt nt) nt))))), (a8, .inl (ca 0, 40, .inl (apF fe 0 (ltB (bitsT r f (lst (twF bw gt nt) nt))))))] := hD1
  have hw1 := hwv
  have hP := hP1
  have hD := hD1.weaken (fun _ _ _ h => hFc _ h)
  generalize H1 = H at hP hS ⊢
  have hP : va_P D vwCl [(om, .inr (6, [.int thr, .ref a1, .ref a2, .ref a3, .int sv, .ref a4, .ref a5, .ref a6, .int ln, .ref a7, .int (nI ((bitsT r f (lst (twF bw gt nt) nt)).length)), .int (bI (!(rdT r f (lst (twF bw gt nt) nt)).2.2)), .int (clkT r f (lst (twF bw gt nt) nt)), .int (stB (bitsT r f (lst (twF bw gt nt) nt))), .ref a8, .int (nI ((ltB (bitsT r f (lst (twF bw gt nt) nt))).length)), .int (rsT r f (lst (twF bw gt nt) nt)), .int at_, .ref a9, .int tm, .long hs])), (a1, .inl (ca 0, 226, .inl (sF z r f j nt nl gl gt))), (a7, .inl (ca 0, 200, .inl (apF fi 0 (bitsT r f (lst (twF bw gt nt) nt))))), (a8, .inl (ca 0, 40, .inl (apF fe 0 (ltB (bitsT r f (lst (twF bw gt nt) nt))))))] H := hP
  have hD : va_D A [(om, .inr (6, [.int thr, .ref a1, .ref a2, .ref a3, .int sv, .ref a4, .ref a5, .ref a6, .int ln, .ref a7, .int (nI ((bitsT r f (lst (twF bw gt nt) nt)).length)), .int (bI (!(rdT r f (lst (twF bw gt nt) nt)).2.2)), .int (clkT r f (lst (twF bw gt nt) nt)), .int (stB (bitsT r f (lst (twF bw gt nt) nt))), .ref a8, .int (nI ((ltB (bitsT r f (lst (twF bw gt nt) nt))).length)), .int (rsT r f (lst (twF bw gt nt) nt)), .int at_, .ref a9, .int tm, .long hs])), (a1, .inl (ca 0, 226, .inl (sF z r f j nt nl gl gt))), (a7, .inl (ca 0, 200, .inl (apF fi 0 (bitsT r f (lst (twF bw gt nt) nt))))), (a8, .inl (ca 0, 40, .inl (apF fe 0 (ltB (bitsT r f (lst (twF bw gt nt) nt))))))] := hD
  refine lv_iconst (v := nI 0) hx hb dX6_hashesReading_5 (by decide) ?_
  refine lv_istore_n (lv' := [(2, .int (nI 0)), (0, .ref om), (1, .int (bI bw))]) hx hb dX6_hashesReading_6 rfl hl (by decide) rfl (fun ls hl => ?_)
  have lp7_2 : ∀ (k1 : Nat) (i : Nat) (hz9 : Int64), 5 - i < k1 → (i ≤ 5) → (hz9 = hashF (fun k => tolF k (rsT r f (lst (twF bw gt nt) nt)) (nI (bitsT r f (lst (twF bw gt nt) nt)).length) (stB (bitsT r f (lst (twF bw gt nt) nt))) (nI (ltB (bitsT r f (lst (twF bw gt nt) nt))).length) (clkT r f (lst (twF bw gt nt) nt))) i hs) → ∀ (H : Heap) (locs : List Loc), va_P D vwCl [(om, .inr (6, [.int thr, .ref a1, .ref a2, .ref a3, .int sv, .ref a4, .ref a5, .ref a6, .int ln, .ref a7, .int (nI ((bitsT r f (lst (twF bw gt nt) nt)).length)), .int (bI (!(rdT r f (lst (twF bw gt nt) nt)).2.2)), .int (clkT r f (lst (twF bw gt nt) nt)), .int (stB (bitsT r f (lst (twF bw gt nt) nt))), .ref a8, .int (nI ((ltB (bitsT r f (lst (twF bw gt nt) nt))).length)), .int (rsT r f (lst (twF bw gt nt) nt)), .int at_, .ref a9, .int tm, .long hz9])), (a1, .inl (ca 0, 226, .inl (sF z r f j nt nl gl gt))), (a7, .inl (ca 0, 200, .inl (apF fi 0 (bitsT r f (lst (twF bw gt nt) nt))))), (a8, .inl (ca 0, 40, .inl (apF fe 0 (ltB (bitsT r f (lst (twF bw gt nt) nt))))))] H → va_D A [(om, .inr (6, [.int thr, .ref a1, .ref a2, .ref a3, .int sv, .ref a4, .ref a5, .ref a6, .int ln, .ref a7, .int (nI ((bitsT r f (lst (twF bw gt nt) nt)).length)), .int (bI (!(rdT r f (lst (twF bw gt nt) nt)).2.2)), .int (clkT r f (lst (twF bw gt nt) nt)), .int (stB (bitsT r f (lst (twF bw gt nt) nt))), .ref a8, .int (nI ((ltB (bitsT r f (lst (twF bw gt nt) nt))).length)), .int (rsT r f (lst (twF bw gt nt) nt)), .int at_, .ref a9, .int tm, .long hz9])), (a1, .inl (ca 0, 226, .inl (sF z r f j nt nl gl gt))), (a7, .inl (ca 0, 200, .inl (apF fi 0 (bitsT r f (lst (twF bw gt nt) nt))))), (a8, .inl (ca 0, 40, .inl (apF fe 0 (ltB (bitsT r f (lst (twF bw gt nt) nt))))))] → va_S A s.heap H locs → ∀ (ls : Array Slot), lv_has ls 3 [(2, .int (nI i)), (0, .ref om), (1, .int (bI bw))] → W p l e rm_kX6_hashesReading s m ([.ref om, .int (bI bw)] : List Value).toArray below meth c H locs 0 0 Qz (F0 m 7 ls []) := by
    intro k1
    induction k1 with
    | zero => intro i hz9 hm1; exact absurd hm1 (Nat.not_lt_zero _)
    | succ k1 ih1 =>
      intro i hz9 hm1 hi hh H locs hP hD hS ls hl
      refine lv_iload_n hx hb dX6_hashesReading_7 rfl (lv_at hl 0 rfl) ?_
      refine lv_iconst (v := nI 5) hx hb dX6_hashesReading_8 (by decide) ?_
      refine ni_icmp_ge (tgt := 28) (by omega) (by omega) hx hb dX6_hashesReading_9 (by decide) (fun c4 => ?_) (fun c4 => ?_)
      · refine lv_iconst (v := nI 0) hx hb dX6_hashesReading_28 (by decide) ?_
        refine lv_istore_n (lv' := [(2, .int (nI 0)), (0, .ref om), (1, .int (bI bw))]) hx hb dX6_hashesReading_29 rfl hl (by decide) rfl (fun ls hl => ?_)
        have lp30_4 : ∀ (k2 : Nat) (i : Nat) (hz8 : Int64), (bitsT r f (lst (twF bw gt nt) nt)).length - i < k2 → (i ≤ (bitsT r f (lst (twF bw gt nt) nt)).length) → (hz8 = hashF (apF fi 0 (bitsT r f (lst (twF bw gt nt) nt))) i hz9) → ∀ (H : Heap) (locs : List Loc), va_P D vwCl [(om, .inr (6, [.int thr, .ref a1, .ref a2, .ref a3, .int sv, .ref a4, .ref a5, .ref a6, .int ln, .ref a7, .int (nI ((bitsT r f (lst (twF bw gt nt) nt)).length)), .int (bI (!(rdT r f (lst (twF bw gt nt) nt)).2.2)), .int (clkT r f (lst (twF bw gt nt) nt)), .int (stB (bitsT r f (lst (twF bw gt nt) nt))), .ref a8, .int (nI ((ltB (bitsT r f (lst (twF bw gt nt) nt))).length)), .int (rsT r f (lst (twF bw gt nt) nt)), .int at_, .ref a9, .int tm, .long hz8])), (a1, .inl (ca 0, 226, .inl (sF z r f j nt nl gl gt))), (a7, .inl (ca 0, 200, .inl (apF fi 0 (bitsT r f (lst (twF bw gt nt) nt))))), (a8, .inl (ca 0, 40, .inl (apF fe 0 (ltB (bitsT r f (lst (twF bw gt nt) nt))))))] H → va_D A [(om, .inr (6, [.int thr, .ref a1, .ref a2, .ref a3, .int sv, .ref a4, .ref a5, .ref a6, .int ln, .ref a7, .int (nI ((bitsT r f (lst (twF bw gt nt) nt)).length)), .int (bI (!(rdT r f (lst (twF bw gt nt) nt)).2.2)), .int (clkT r f (lst (twF bw gt nt) nt)), .int (stB (bitsT r f (lst (twF bw gt nt) nt))), .ref a8, .int (nI ((ltB (bitsT r f (lst (twF bw gt nt) nt))).length)), .int (rsT r f (lst (twF bw gt nt) nt)), .int at_, .ref a9, .int tm, .long hz8])), (a1, .inl (ca 0, 226, .inl (sF z r f j nt nl gl gt))), (a7, .inl (ca 0, 200, .inl (apF fi 0 (bitsT r f (lst (twF bw gt nt) nt))))), (a8, .inl (ca 0, 40, .inl (apF fe 0 (ltB (bitsT r f (lst (twF bw gt nt) nt))))))] → va_S A s.heap H locs → ∀ (ls : Array Slot), lv_has ls 3 [(2, .int (nI i)), (0, .ref om), (1, .int (bI bw))] → W p l e rm_kX6_hashesReading s m ([.ref om, .int (bI bw)] : List Value).toArray below meth c H locs 0 0 Qz (F0 m 30 ls []) := by
          intro k2
          induction k2 with
          | zero => intro i hz8 hm2; exact absurd hm2 (Nat.not_lt_zero _)
          | succ k2 ih2 =>
            intro i hz8 hm2 hi hh8 H locs hP hD hS ls hl
            refine lv_iload_n hx hb dX6_hashesReading_30 rfl (lv_at hl 0 rfl) ?_
            refine lv_aload_n hx hb dX6_hashesReading_31 rfl (lv_at hl 1 rfl) ?_
            refine va_get (D := D) (ci := 6) (C := RX6) (T := TX6) (N := 21) hx hb hts hiX6 hown hKv hP 0 rfl rfl 10 (by decide) lk81 (fun _ h9 => h9) rfl dX6_hashesReading_32 ?_
            refine ni_icmp_ge (tgt := 55) (by omega) (by omega) hx hb dX6_hashesReading_35 (by decide) (fun c6 => ?_) (fun c6 => ?_)
            · refine lv_iconst (v := nI 0) hx hb dX6_hashesReading_55 (by decide) ?_
              refine lv_istore_n (lv' := [(2, .int (nI 0)), (0, .ref om), (1, .int (bI bw))]) hx hb dX6_hashesReading_56 rfl hl (by decide) rfl (fun ls hl => ?_)
              have lp57_6 : ∀ (k3 : Nat) (i : Nat) (hz7 : Int64), (ltB (bitsT r f (lst (twF bw gt nt) nt))).length - i < k3 → (i ≤ (ltB (bitsT r f (lst (twF bw gt nt) nt))).length) → (hz7 = hashF (apF fe 0 (ltB (bitsT r f (lst (twF bw gt nt) nt)))) i hz8) → ∀ (H : Heap) (locs : List Loc), va_P D vwCl [(om, .inr (6, [.int thr, .ref a1, .ref a2, .ref a3, .int sv, .ref a4, .ref a5, .ref a6, .int ln, .ref a7, .int (nI ((bitsT r f (lst (twF bw gt nt) nt)).length)), .int (bI (!(rdT r f (lst (twF bw gt nt) nt)).2.2)), .int (clkT r f (lst (twF bw gt nt) nt)), .int (stB (bitsT r f (lst (twF bw gt nt) nt))), .ref a8, .int (nI ((ltB (bitsT r f (lst (twF bw gt nt) nt))).length)), .int (rsT r f (lst (twF bw gt nt) nt)), .int at_, .ref a9, .int tm, .long hz7])), (a1, .inl (ca 0, 226, .inl (sF z r f j nt nl gl gt))), (a7, .inl (ca 0, 200, .inl (apF fi 0 (bitsT r f (lst (twF bw gt nt) nt))))), (a8, .inl (ca 0, 40, .inl (apF fe 0 (ltB (bitsT r f (lst (twF bw gt nt) nt))))))] H → va_D A [(om, .inr (6, [.int thr, .ref a1, .ref a2, .ref a3, .int sv, .ref a4, .ref a5, .ref a6, .int ln, .ref a7, .int (nI ((bitsT r f (lst (twF bw gt nt) nt)).length)), .int (bI (!(rdT r f (lst (twF bw gt nt) nt)).2.2)), .int (clkT r f (lst (twF bw gt nt) nt)), .int (stB (bitsT r f (lst (twF bw gt nt) nt))), .ref a8, .int (nI ((ltB (bitsT r f (lst (twF bw gt nt) nt))).length)), .int (rsT r f (lst (twF bw gt nt) nt)), .int at_, .ref a9, .int tm, .long hz7])), (a1, .inl (ca 0, 226, .inl (sF z r f j nt nl gl gt))), (a7, .inl (ca 0, 200, .inl (apF fi 0 (bitsT r f (lst (twF bw gt nt) nt))))), (a8, .inl (ca 0, 40, .inl (apF fe 0 (ltB (bitsT r f (lst (twF bw gt nt) nt))))))] → va_S A s.heap H locs → ∀ (ls : Array Slot), lv_has ls 3 [(2, .int (nI i)), (0, .ref om), (1, .int (bI bw))] → W p l e rm_kX6_hashesReading s m ([.ref om, .int (bI bw)] : List Value).toArray below meth c H locs 0 0 Qz (F0 m 57 ls []) := by
                intro k3
                induction k3 with
                | zero => intro i hz7 hm3; exact absurd hm3 (Nat.not_lt_zero _)
                | succ k3 ih3 =>
                  intro i hz7 hm3 hi hh7 H locs hP hD hS ls hl
                  refine lv_iload_n hx hb dX6_hashesReading_57 rfl (lv_at hl 0 rfl) ?_
                  refine lv_aload_n hx hb dX6_hashesReading_58 rfl (lv_at hl 1 rfl) ?_
                  refine va_get (D := D) (ci := 6) (C := RX6) (T := TX6) (N := 21) hx hb hts hiX6 hown hKv hP 0 rfl rfl 15 (by decide) lk102 (fun _ h9 => h9) rfl dX6_hashesReading_59 ?_
                  refine ni_icmp_ge (tgt := 82) (by omega) (by omega) hx hb dX6_hashesReading_62 (by decide) (fun c8 => ?_) (fun c8 => ?_)
                  · subst hQz
                    have e9 : (hz7 : Int64) = hashR r f (lst (twF bw gt nt) nt) hs := by exact hr_end hh hh8 hh7 (by omega) (by omega) (by omega) (by omega) (by omega) (by omega)
                    have hP : va_P D vwCl [(om, .inr (6, [.int thr, .ref a1, .ref a2, .ref a3, .int sv, .ref a4, .ref a5, .ref a6, .int ln, .ref a7, .int (nI ((bitsT r f (lst (twF bw gt nt) nt)).length)), .int (bI (!(rdT r f (lst (twF bw gt nt) nt)).2.2)), .int (clkT r f (lst (twF bw gt nt) nt)), .int (stB (bitsT r f (lst (twF bw gt nt) nt))), .ref a8, .int (nI ((ltB (bitsT r f (lst (twF bw gt nt) nt))).length)), .int (rsT r f (lst (twF bw gt nt) nt)), .int at_, .ref a9, .int tm, .long (hashR r f (lst (twF bw gt nt) nt) hs)])), (a1, .inl (ca 0, 226, .inl (sF z r f j nt nl gl gt))), (a7, .inl (ca 0, 200, .inl (apF fi 0 (bitsT r f (lst (twF bw gt nt) nt))))), (a8, .inl (ca 0, 40, .inl (apF fe 0 (ltB (bitsT r f (lst (twF bw gt nt) nt))))))] H := Eq.mp (congrArg (fun z9 : Int64 => va_P D vwCl [(om, .inr (6, [.int thr, .ref a1, .ref a2, .ref a3, .int sv, .ref a4, .ref a5, .ref a6, .int ln, .ref a7, .int (nI ((bitsT r f (lst (twF bw gt nt) nt)).length)), .int (bI (!(rdT r f (lst (twF bw gt nt) nt)).2.2)), .int (clkT r f (lst (twF bw gt nt) nt)), .int (stB (bitsT r f (lst (twF bw gt nt) nt))), .ref a8, .int (nI ((ltB (bitsT r f (lst (twF bw gt nt) nt))).length)), .int (rsT r f (lst (twF bw gt nt) nt)), .int at_, .ref a9, .int tm, .long z9])), (a1, .inl (ca 0, 226, .inl (sF z r f j nt nl gl gt))), (a7, .inl (ca 0, 200, .inl (apF fi 0 (bitsT r f (lst (twF bw gt nt) nt))))), (a8, .inl (ca 0, 40, .inl (apF fe 0 (ltB (bitsT r f (lst (twF bw gt nt) nt))))))] H) e9) hP
                    have hD : va_D A [(om, .inr (6, [.int thr, .ref a1, .ref a2, .ref a3, .int sv, .ref a4, .ref a5, .ref a6, .int ln, .ref a7, .int (nI ((bitsT r f (lst (twF bw gt nt) nt)).length)), .int (bI (!(rdT r f (lst (twF bw gt nt) nt)).2.2)), .int (clkT r f (lst (twF bw gt nt) nt)), .int (stB (bitsT r f (lst (twF bw gt nt) nt))), .ref a8, .int (nI ((ltB (bitsT r f (lst (twF bw gt nt) nt))).length)), .int (rsT r f (lst (twF bw gt nt) nt)), .int at_, .ref a9, .int tm, .long (hashR r f (lst (twF bw gt nt) nt) hs)])), (a1, .inl (ca 0, 226, .inl (sF z r f j nt nl gl gt))), (a7, .inl (ca 0, 200, .inl (apF fi 0 (bitsT r f (lst (twF bw gt nt) nt))))), (a8, .inl (ca 0, 40, .inl (apF fe 0 (ltB (bitsT r f (lst (twF bw gt nt) nt))))))] := Eq.mp (congrArg (fun z9 : Int64 => va_D A [(om, .inr (6, [.int thr, .ref a1, .ref a2, .ref a3, .int sv, .ref a4, .ref a5, .ref a6, .int ln, .ref a7, .int (nI ((bitsT r f (lst (twF bw gt nt) nt)).length)), .int (bI (!(rdT r f (lst (twF bw gt nt) nt)).2.2)), .int (clkT r f (lst (twF bw gt nt) nt)), .int (stB (bitsT r f (lst (twF bw gt nt) nt))), .ref a8, .int (nI ((ltB (bitsT r f (lst (twF bw gt nt) nt))).length)), .int (rsT r f (lst (twF bw gt nt) nt)), .int at_, .ref a9, .int tm, .long z9])), (a1, .inl (ca 0, 226, .inl (sF z r f j nt nl gl gt))), (a7, .inl (ca 0, 200, .inl (apF fi 0 (bitsT r f (lst (twF bw gt nt) nt))))), (a8, .inl (ca 0, 40, .inl (apF fe 0 (ltB (bitsT r f (lst (twF bw gt nt) nt))))))]) e9) hD
                    exact W.vret hx hb hr (fun t ht hW => ⟨⟨(), rfl, by trivial, by rw [ht]; exact hP, hD⟩, hS.F ht⟩) hS.2.2 dX6_hashesReading_82
                  · refine lv_aload_n hx hb dX6_hashesReading_65 rfl (lv_at hl 1 rfl) ?_
                    refine lv_aload_n hx hb dX6_hashesReading_66 rfl (lv_at hl 1 rfl) ?_
                    refine va_get (D := D) (ci := 6) (C := RX6) (T := TX6) (N := 21) hx hb hts hiX6 hown hKv hP 0 rfl rfl 14 (by decide) lk32 (fun _ h9 => h9) rfl dX6_hashesReading_67 ?_
                    refine lv_iload_n hx hb dX6_hashesReading_70 rfl (lv_at hl 0 rfl) ?_
                    refine my_iald hx hb hK hP 3 rfl (by omega) (by omega) dX6_hashesReading_71 ?_
                    refine lv_i2l hx hb dX6_hashesReading_72 rfl ?_
                    have hPc := hP.sub (ws' := [(om, .inr (6, [.int thr, .ref a1, .ref a2, .ref a3, .int sv, .ref a4, .ref a5, .ref a6, .int ln, .ref a7, .int (nI ((bitsT r f (lst (twF bw gt nt) nt)).length)), .int (bI (!(rdT r f (lst (twF bw gt nt) nt)).2.2)), .int (clkT r f (lst (twF bw gt nt) nt)), .int (stB (bitsT r f (lst (twF bw gt nt) nt))), .ref a8, .int (nI ((ltB (bitsT r f (lst (twF bw gt nt) nt))).length)), .int (rsT r f (lst (twF bw gt nt) nt)), .int at_, .ref a9, .int tm, .long hz7]))]) [0] rfl
                    have hDc := hD.sub (ws' := [(om, .inr (6, [.int thr, .ref a1, .ref a2, .ref a3, .int sv, .ref a4, .ref a5, .ref a6, .int ln, .ref a7, .int (nI ((bitsT r f (lst (twF bw gt nt) nt)).length)), .int (bI (!(rdT r f (lst (twF bw gt nt) nt)).2.2)), .int (clkT r f (lst (twF bw gt nt) nt)), .int (stB (bitsT r f (lst (twF bw gt nt) nt))), .ref a8, .int (nI ((ltB (bitsT r f (lst (twF bw gt nt) nt))).length)), .int (rsT r f (lst (twF bw gt nt) nt)), .int at_, .ref a9, .int tm, .long hz7]))]) [0] (by decide) rfl
                    have hFc := va_free (wc := [(om, .inr (6, [.int thr, .ref a1, .ref a2, .ref a3, .int sv, .ref a4, .ref a5, .ref a6, .int ln, .ref a7, .int (nI ((bitsT r f (lst (twF bw gt nt) nt)).length)), .int (bI (!(rdT r f (lst (twF bw gt nt) nt)).2.2)), .int (clkT r f (lst (twF bw gt nt) nt)), .int (stB (bitsT r f (lst (twF bw gt nt) nt))), .ref a8, .int (nI ((ltB (bitsT r f (lst (twF bw gt nt) nt))).length)), .int (rsT r f (lst (twF bw gt nt) nt)), .int at_, .ref a9, .int tm, .long hz7]))]) hD hS hA [0] rfl
                    refine va_callv (va_runV (As := [.long (((apF fe 0 (ltB (bitsT r f (lst (twF bw gt nt) nt)))) i).toInt64)]) (rest := []) ⟨hx, hb, hml, hown, hts⟩ (kX6_hashes l D ca H.size om a1 a2 a3 a4 a5 a6 a7 a8 a9 thr sv ln (nI ((bitsT r f (lst (twF bw gt nt) nt)).length)) (bI (!(rdT r f (lst (twF bw gt nt) nt)).2.2)) (clkT r f (lst (twF bw gt nt) nt)) (stB (bitsT r f (lst (twF bw gt nt) nt))) (nI ((ltB (bitsT r f (lst (twF bw gt nt) nt))).length)) (rsT r f (lst (twF bw gt nt) nt)) at_ tm hz7 (((apF fe 0 (ltB (bitsT r f (lst (twF bw gt nt) nt)))) i).toInt64)) (cwV 1 hts gX6_hashesReading_X6_hashes rfl rfl rfl (by decide +kernel) ⟨kk_le rfl, kk_le rfl⟩) (pvM hK hPc (my_D_true hDc) (va_recv hKv hP (ci := 6) (q0 := 0) rfl rfl)) rfl rfl hl.1 rfl (lv_room (kk_le rfl)) dX6_hashesReading_73 ⟨kk_le rfl, kk_le rfl⟩) hS (fun q _ h => hFc q h) hFc (fun u t H1 locs ht hvm hwv hBv hz1 hk1 hS => ?_)
                    obtain ⟨hP1, hD1⟩ := hBv
                    rw [ht] at hP1
                    have hP1 : va_P D vwCl [(om, .inr (6, [.int thr, .ref a1, .ref a2, .ref a3, .int sv, .ref a4, .ref a5, .ref a6, .int ln, .ref a7, .int (nI ((bitsT r f (lst (twF bw gt nt) nt)).length)), .int (bI (!(rdT r f (lst (twF bw gt nt) nt)).2.2)), .int (clkT r f (lst (twF bw gt nt) nt)), .int (stB (bitsT r f (lst (twF bw gt nt) nt))), .ref a8, .int (nI ((ltB (bitsT r f (lst (twF bw gt nt) nt))).length)), .int (rsT r f (lst (twF bw gt nt) nt)), .int at_, .ref a9, .int tm, .long (31 * hz7 + (((apF fe 0 (ltB (bitsT r f (lst (twF bw gt nt) nt)))) i).toInt64))]))] H1 := hP1
                    have hD1 : va_D _ [(om, .inr (6, [.int thr, .ref a1, .ref a2, .ref a3, .int sv, .ref a4, .ref a5, .ref a6, .int ln, .ref a7, .int (nI ((bitsT r f (lst (twF bw gt nt) nt)).length)), .int (bI (!(rdT r f (lst (twF bw gt nt) nt)).2.2)), .int (clkT r f (lst (twF bw gt nt) nt)), .int (stB (bitsT r f (lst (twF bw gt nt) nt))), .ref a8, .int (nI ((ltB (bitsT r f (lst (twF bw gt nt) nt))).length)), .int (rsT r f (lst (twF bw gt nt) nt)), .int at_, .ref a9, .int tm, .long (31 * hz7 + (((apF fe 0 (ltB (bitsT r f (lst (twF bw gt nt) nt)))) i).toInt64))]))] := hD1
                    have hw10 := hwv
                    obtain ⟨hP, hD⟩ := va_join (wr := [(a1, .inl (ca 0, 226, .inl (sF z r f j nt nl gl gt))), (a7, .inl (ca 0, 200, .inl (apF fi 0 (bitsT r f (lst (twF bw gt nt) nt))))), (a8, .inl (ca 0, 40, .inl (apF fe 0 (ltB (bitsT r f (lst (twF bw gt nt) nt))))))]) (w1 := [(om, .inr (6, [.int thr, .ref a1, .ref a2, .ref a3, .int sv, .ref a4, .ref a5, .ref a6, .int ln, .ref a7, .int (nI ((bitsT r f (lst (twF bw gt nt) nt)).length)), .int (bI (!(rdT r f (lst (twF bw gt nt) nt)).2.2)), .int (clkT r f (lst (twF bw gt nt) nt)), .int (stB (bitsT r f (lst (twF bw gt nt) nt))), .ref a8, .int (nI ((ltB (bitsT r f (lst (twF bw gt nt) nt))).length)), .int (rsT r f (lst (twF bw gt nt) nt)), .int at_, .ref a9, .int tm, .long (31 * hz7 + (((apF fe 0 (ltB (bitsT r f (lst (twF bw gt nt) nt)))) i).toInt64))]))]) hP hD [0] [1, 2, 3] rfl rfl (by decide) (by decide) hk1 hFc hP1 hD1
                    generalize H1 = H at hP hS ⊢
                    have hP := hP.sub (ws' := [(om, .inr (6, [.int thr, .ref a1, .ref a2, .ref a3, .int sv, .ref a4, .ref a5, .ref a6, .int ln, .ref a7, .int (nI ((bitsT r f (lst (twF bw gt nt) nt)).length)), .int (bI (!(rdT r f (lst (twF bw gt nt) nt)).2.2)), .int (clkT r f (lst (twF bw gt nt) nt)), .int (stB (bitsT r f (lst (twF bw gt nt) nt))), .ref a8, .int (nI ((ltB (bitsT r f (lst (twF bw gt nt) nt))).length)), .int (rsT r f (lst (twF bw gt nt) nt)), .int at_, .ref a9, .int tm, .long (31 * hz7 + (((apF fe 0 (ltB (bitsT r f (lst (twF bw gt nt) nt)))) i).toInt64))])), (a1, .inl (ca 0, 226, .inl (sF z r f j nt nl gl gt))), (a7, .inl (ca 0, 200, .inl (apF fi 0 (bitsT r f (lst (twF bw gt nt) nt))))), (a8, .inl (ca 0, 40, .inl (apF fe 0 (ltB (bitsT r f (lst (twF bw gt nt) nt))))))]) [3, 0, 1, 2] rfl
                    have hD := hD.sub (ws' := [(om, .inr (6, [.int thr, .ref a1, .ref a2, .ref a3, .int sv, .ref a4, .ref a5, .ref a6, .int ln, .ref a7, .int (nI ((bitsT r f (lst (twF bw gt nt) nt)).length)), .int (bI (!(rdT r f (lst (twF bw gt nt) nt)).2.2)), .int (clkT r f (lst (twF bw gt nt) nt)), .int (stB (bitsT r f (lst (twF bw gt nt) nt))), .ref a8, .int (nI ((ltB (bitsT r f (lst (twF bw gt nt) nt))).length)), .int (rsT r f (lst (twF bw gt nt) nt)), .int at_, .ref a9, .int tm, .long (31 * hz7 + (((apF fe 0 (ltB (bitsT r f (lst (twF bw gt nt) nt)))) i).toInt64))])), (a1, .inl (ca 0, 226, .inl (sF z r f j nt nl gl gt))), (a7, .inl (ca 0, 200, .inl (apF fi 0 (bitsT r f (lst (twF bw gt nt) nt))))), (a8, .inl (ca 0, 40, .inl (apF fe 0 (ltB (bitsT r f (lst (twF bw gt nt) nt))))))]) [3, 0, 1, 2] (by decide) rfl
                    refine lv_iinc (v := nI (i + 1)) (lv' := [(2, .int (nI (i + 1))), (0, .ref om), (1, .int (bI bw))]) hx hb dX6_hashesReading_76 hl (k := 0) rfl (ni_inc _ _ (by decide)) (by decide) rfl (fun ls hl => ?_)
                    refine lv_goto (tgt := 57) hx hb dX6_hashesReading_79 (by decide) ?_
                    exact ih3 (i + 1) (31 * hz7 + (((apF fe 0 (ltB (bitsT r f (lst (twF bw gt nt) nt)))) i).toInt64)) (by omega) (by omega) (by rw [hh7]; rfl) _ _ hP hD hS ls (lv_sub hl [0, 1, 2] rfl)
              exact lp57_6 (((ltB (bitsT r f (lst (twF bw gt nt) nt))).length - 0) + 1) 0 hz8 (by omega) (by omega) (by rfl) _ _ hP hD hS ls (lv_sub hl [0, 1, 2] rfl)
            · refine lv_aload_n hx hb dX6_hashesReading_38 rfl (lv_at hl 1 rfl) ?_
              refine lv_aload_n hx hb dX6_hashesReading_39 rfl (lv_at hl 1 rfl) ?_
              refine va_get (D := D) (ci := 6) (C := RX6) (T := TX6) (N := 21) hx hb hts hiX6 hown hKv hP 0 rfl rfl 9 (by decide) lk29 (fun _ h9 => h9) rfl dX6_hashesReading_40 ?_
              refine lv_iload_n hx hb dX6_hashesReading_43 rfl (lv_at hl 0 rfl) ?_
              refine my_iald hx hb hK hP 2 rfl (by omega) (by omega) dX6_hashesReading_44 ?_
              refine lv_i2l hx hb dX6_hashesReading_45 rfl ?_
              have hPc := hP.sub (ws' := [(om, .inr (6, [.int thr, .ref a1, .ref a2, .ref a3, .int sv, .ref a4, .ref a5, .ref a6, .int ln, .ref a7, .int (nI ((bitsT r f (lst (twF bw gt nt) nt)).length)), .int (bI (!(rdT r f (lst (twF bw gt nt) nt)).2.2)), .int (clkT r f (lst (twF bw gt nt) nt)), .int (stB (bitsT r f (lst (twF bw gt nt) nt))), .ref a8, .int (nI ((ltB (bitsT r f (lst (twF bw gt nt) nt))).length)), .int (rsT r f (lst (twF bw gt nt) nt)), .int at_, .ref a9, .int tm, .long hz8]))]) [0] rfl
              have hDc := hD.sub (ws' := [(om, .inr (6, [.int thr, .ref a1, .ref a2, .ref a3, .int sv, .ref a4, .ref a5, .ref a6, .int ln, .ref a7, .int (nI ((bitsT r f (lst (twF bw gt nt) nt)).length)), .int (bI (!(rdT r f (lst (twF bw gt nt) nt)).2.2)), .int (clkT r f (lst (twF bw gt nt) nt)), .int (stB (bitsT r f (lst (twF bw gt nt) nt))), .ref a8, .int (nI ((ltB (bitsT r f (lst (twF bw gt nt) nt))).length)), .int (rsT r f (lst (twF bw gt nt) nt)), .int at_, .ref a9, .int tm, .long hz8]))]) [0] (by decide) rfl
              have hFc := va_free (wc := [(om, .inr (6, [.int thr, .ref a1, .ref a2, .ref a3, .int sv, .ref a4, .ref a5, .ref a6, .int ln, .ref a7, .int (nI ((bitsT r f (lst (twF bw gt nt) nt)).length)), .int (bI (!(rdT r f (lst (twF bw gt nt) nt)).2.2)), .int (clkT r f (lst (twF bw gt nt) nt)), .int (stB (bitsT r f (lst (twF bw gt nt) nt))), .ref a8, .int (nI ((ltB (bitsT r f (lst (twF bw gt nt) nt))).length)), .int (rsT r f (lst (twF bw gt nt) nt)), .int at_, .ref a9, .int tm, .long hz8]))]) hD hS hA [0] rfl
              refine va_callv (va_runV (As := [.long (((apF fi 0 (bitsT r f (lst (twF bw gt nt) nt))) i).toInt64)]) (rest := []) ⟨hx, hb, hml, hown, hts⟩ (kX6_hashes l D ca H.size om a1 a2 a3 a4 a5 a6 a7 a8 a9 thr sv ln (nI ((bitsT r f (lst (twF bw gt nt) nt)).length)) (bI (!(rdT r f (lst (twF bw gt nt) nt)).2.2)) (clkT r f (lst (twF bw gt nt) nt)) (stB (bitsT r f (lst (twF bw gt nt) nt))) (nI ((ltB (bitsT r f (lst (twF bw gt nt) nt))).length)) (rsT r f (lst (twF bw gt nt) nt)) at_ tm hz8 (((apF fi 0 (bitsT r f (lst (twF bw gt nt) nt))) i).toInt64)) (cwV 1 hts gX6_hashesReading_X6_hashes rfl rfl rfl (by decide +kernel) ⟨kk_le rfl, kk_le rfl⟩) (pvM hK hPc (my_D_true hDc) (va_recv hKv hP (ci := 6) (q0 := 0) rfl rfl)) rfl rfl hl.1 rfl (lv_room (kk_le rfl)) dX6_hashesReading_46 ⟨kk_le rfl, kk_le rfl⟩) hS (fun q _ h => hFc q h) hFc (fun u t H1 locs ht hvm hwv hBv hz1 hk1 hS => ?_)
              obtain ⟨hP1, hD1⟩ := hBv
              rw [ht] at hP1
              have hP1 : va_P D vwCl [(om, .inr (6, [.int thr, .ref a1, .ref a2, .ref a3, .int sv, .ref a4, .ref a5, .ref a6, .int ln, .ref a7, .int (nI ((bitsT r f (lst (twF bw gt nt) nt)).length)), .int (bI (!(rdT r f (lst (twF bw gt nt) nt)).2.2)), .int (clkT r f (lst (twF bw gt nt) nt)), .int (stB (bitsT r f (lst (twF bw gt nt) nt))), .ref a8, .int (nI ((ltB (bitsT r f (lst (twF bw gt nt) nt))).length)), .int (rsT r f (lst (twF bw gt nt) nt)), .int at_, .ref a9, .int tm, .long (31 * hz8 + (((apF fi 0 (bitsT r f (lst (twF bw gt nt) nt))) i).toInt64))]))] H1 := hP1
              have hD1 : va_D _ [(om, .inr (6, [.int thr, .ref a1, .ref a2, .ref a3, .int sv, .ref a4, .ref a5, .ref a6, .int ln, .ref a7, .int (nI ((bitsT r f (lst (twF bw gt nt) nt)).length)), .int (bI (!(rdT r f (lst (twF bw gt nt) nt)).2.2)), .int (clkT r f (lst (twF bw gt nt) nt)), .int (stB (bitsT r f (lst (twF bw gt nt) nt))), .ref a8, .int (nI ((ltB (bitsT r f (lst (twF bw gt nt) nt))).length)), .int (rsT r f (lst (twF bw gt nt) nt)), .int at_, .ref a9, .int tm, .long (31 * hz8 + (((apF fi 0 (bitsT r f (lst (twF bw gt nt) nt))) i).toInt64))]))] := hD1
              have hw12 := hwv
              obtain ⟨hP, hD⟩ := va_join (wr := [(a1, .inl (ca 0, 226, .inl (sF z r f j nt nl gl gt))), (a7, .inl (ca 0, 200, .inl (apF fi 0 (bitsT r f (lst (twF bw gt nt) nt))))), (a8, .inl (ca 0, 40, .inl (apF fe 0 (ltB (bitsT r f (lst (twF bw gt nt) nt))))))]) (w1 := [(om, .inr (6, [.int thr, .ref a1, .ref a2, .ref a3, .int sv, .ref a4, .ref a5, .ref a6, .int ln, .ref a7, .int (nI ((bitsT r f (lst (twF bw gt nt) nt)).length)), .int (bI (!(rdT r f (lst (twF bw gt nt) nt)).2.2)), .int (clkT r f (lst (twF bw gt nt) nt)), .int (stB (bitsT r f (lst (twF bw gt nt) nt))), .ref a8, .int (nI ((ltB (bitsT r f (lst (twF bw gt nt) nt))).length)), .int (rsT r f (lst (twF bw gt nt) nt)), .int at_, .ref a9, .int tm, .long (31 * hz8 + (((apF fi 0 (bitsT r f (lst (twF bw gt nt) nt))) i).toInt64))]))]) hP hD [0] [1, 2, 3] rfl rfl (by decide) (by decide) hk1 hFc hP1 hD1
              generalize H1 = H at hP hS ⊢
              have hP := hP.sub (ws' := [(om, .inr (6, [.int thr, .ref a1, .ref a2, .ref a3, .int sv, .ref a4, .ref a5, .ref a6, .int ln, .ref a7, .int (nI ((bitsT r f (lst (twF bw gt nt) nt)).length)), .int (bI (!(rdT r f (lst (twF bw gt nt) nt)).2.2)), .int (clkT r f (lst (twF bw gt nt) nt)), .int (stB (bitsT r f (lst (twF bw gt nt) nt))), .ref a8, .int (nI ((ltB (bitsT r f (lst (twF bw gt nt) nt))).length)), .int (rsT r f (lst (twF bw gt nt) nt)), .int at_, .ref a9, .int tm, .long (31 * hz8 + (((apF fi 0 (bitsT r f (lst (twF bw gt nt) nt))) i).toInt64))])), (a1, .inl (ca 0, 226, .inl (sF z r f j nt nl gl gt))), (a7, .inl (ca 0, 200, .inl (apF fi 0 (bitsT r f (lst (twF bw gt nt) nt))))), (a8, .inl (ca 0, 40, .inl (apF fe 0 (ltB (bitsT r f (lst (twF bw gt nt) nt))))))]) [3, 0, 1, 2] rfl
              have hD := hD.sub (ws' := [(om, .inr (6, [.int thr, .ref a1, .ref a2, .ref a3, .int sv, .ref a4, .ref a5, .ref a6, .int ln, .ref a7, .int (nI ((bitsT r f (lst (twF bw gt nt) nt)).length)), .int (bI (!(rdT r f (lst (twF bw gt nt) nt)).2.2)), .int (clkT r f (lst (twF bw gt nt) nt)), .int (stB (bitsT r f (lst (twF bw gt nt) nt))), .ref a8, .int (nI ((ltB (bitsT r f (lst (twF bw gt nt) nt))).length)), .int (rsT r f (lst (twF bw gt nt) nt)), .int at_, .ref a9, .int tm, .long (31 * hz8 + (((apF fi 0 (bitsT r f (lst (twF bw gt nt) nt))) i).toInt64))])), (a1, .inl (ca 0, 226, .inl (sF z r f j nt nl gl gt))), (a7, .inl (ca 0, 200, .inl (apF fi 0 (bitsT r f (lst (twF bw gt nt) nt))))), (a8, .inl (ca 0, 40, .inl (apF fe 0 (ltB (bitsT r f (lst (twF bw gt nt) nt))))))]) [3, 0, 1, 2] (by decide) rfl
              refine lv_iinc (v := nI (i + 1)) (lv' := [(2, .int (nI (i + 1))), (0, .ref om), (1, .int (bI bw))]) hx hb dX6_hashesReading_49 hl (k := 0) rfl (ni_inc _ _ (by decide)) (by decide) rfl (fun ls hl => ?_)
              refine lv_goto (tgt := 30) hx hb dX6_hashesReading_52 (by decide) ?_
              exact ih2 (i + 1) (31 * hz8 + (((apF fi 0 (bitsT r f (lst (twF bw gt nt) nt))) i).toInt64)) (by omega) (by omega) (by rw [hh8]; rfl) _ _ hP hD hS ls (lv_sub hl [0, 1, 2] rfl)
        exact lp30_4 (((bitsT r f (lst (twF bw gt nt) nt)).length - 0) + 1) 0 hz9 (by omega) (by omega) (by rfl) _ _ hP hD hS ls (lv_sub hl [0, 1, 2] rfl)
      · refine lv_aload_n hx hb dX6_hashesReading_12 rfl (lv_at hl 1 rfl) ?_
        refine lv_aload_n hx hb dX6_hashesReading_13 rfl (lv_at hl 1 rfl) ?_
        refine lv_iload_n hx hb dX6_hashesReading_14 rfl (lv_at hl 0 rfl) ?_
        refine vp_callSi (va_Run.run (va_runV (As := [.int (nI i)]) (rest := [.ref om]) ⟨hx, hb, hml, hown, hts⟩ (kX6_tellsReading l D ca om a1 a2 a3 a4 a5 a6 a7 a8 a9 thr sv ln (nI ((bitsT r f (lst (twF bw gt nt) nt)).length)) (bI (!(rdT r f (lst (twF bw gt nt) nt)).2.2)) (clkT r f (lst (twF bw gt nt) nt)) (stB (bitsT r f (lst (twF bw gt nt) nt))) (nI ((ltB (bitsT r f (lst (twF bw gt nt) nt))).length)) (rsT r f (lst (twF bw gt nt) nt)) at_ tm hz9 i (by first | rfl | assumption | omega | trivial | (exfalso; omega))) (cwV 1 hts gX6_hashesReading_X6_tellsReading rfl rfl rfl (by decide +kernel) ⟨kk_le rfl, kk_le rfl⟩) (pvR hK (hP.sub (ws' := [(om, .inr (6, [.int thr, .ref a1, .ref a2, .ref a3, .int sv, .ref a4, .ref a5, .ref a6, .int ln, .ref a7, .int (nI ((bitsT r f (lst (twF bw gt nt) nt)).length)), .int (bI (!(rdT r f (lst (twF bw gt nt) nt)).2.2)), .int (clkT r f (lst (twF bw gt nt) nt)), .int (stB (bitsT r f (lst (twF bw gt nt) nt))), .ref a8, .int (nI ((ltB (bitsT r f (lst (twF bw gt nt) nt))).length)), .int (rsT r f (lst (twF bw gt nt) nt)), .int at_, .ref a9, .int tm, .long hz9]))]) [0] rfl) (va_recv hKv hP (ci := 6) (q0 := 0) rfl rfl)) rfl rfl hl.1 rfl (lv_room (kk_le rfl)) dX6_hashesReading_15 ⟨kk_le rfl, kk_le rfl⟩)) (fun r14 hr14 => ?_)
        subst hr14
        refine lv_i2l hx hb dX6_hashesReading_18 rfl ?_
        have hPc := hP.sub (ws' := [(om, .inr (6, [.int thr, .ref a1, .ref a2, .ref a3, .int sv, .ref a4, .ref a5, .ref a6, .int ln, .ref a7, .int (nI ((bitsT r f (lst (twF bw gt nt) nt)).length)), .int (bI (!(rdT r f (lst (twF bw gt nt) nt)).2.2)), .int (clkT r f (lst (twF bw gt nt) nt)), .int (stB (bitsT r f (lst (twF bw gt nt) nt))), .ref a8, .int (nI ((ltB (bitsT r f (lst (twF bw gt nt) nt))).length)), .int (rsT r f (lst (twF bw gt nt) nt)), .int at_, .ref a9, .int tm, .long hz9]))]) [0] rfl
        have hDc := hD.sub (ws' := [(om, .inr (6, [.int thr, .ref a1, .ref a2, .ref a3, .int sv, .ref a4, .ref a5, .ref a6, .int ln, .ref a7, .int (nI ((bitsT r f (lst (twF bw gt nt) nt)).length)), .int (bI (!(rdT r f (lst (twF bw gt nt) nt)).2.2)), .int (clkT r f (lst (twF bw gt nt) nt)), .int (stB (bitsT r f (lst (twF bw gt nt) nt))), .ref a8, .int (nI ((ltB (bitsT r f (lst (twF bw gt nt) nt))).length)), .int (rsT r f (lst (twF bw gt nt) nt)), .int at_, .ref a9, .int tm, .long hz9]))]) [0] (by decide) rfl
        have hFc := va_free (wc := [(om, .inr (6, [.int thr, .ref a1, .ref a2, .ref a3, .int sv, .ref a4, .ref a5, .ref a6, .int ln, .ref a7, .int (nI ((bitsT r f (lst (twF bw gt nt) nt)).length)), .int (bI (!(rdT r f (lst (twF bw gt nt) nt)).2.2)), .int (clkT r f (lst (twF bw gt nt) nt)), .int (stB (bitsT r f (lst (twF bw gt nt) nt))), .ref a8, .int (nI ((ltB (bitsT r f (lst (twF bw gt nt) nt))).length)), .int (rsT r f (lst (twF bw gt nt) nt)), .int at_, .ref a9, .int tm, .long hz9]))]) hD hS hA [0] rfl
        refine va_callv (va_runV (As := [.long ((tolF i (rsT r f (lst (twF bw gt nt) nt)) (nI ((bitsT r f (lst (twF bw gt nt) nt)).length)) (stB (bitsT r f (lst (twF bw gt nt) nt))) (nI ((ltB (bitsT r f (lst (twF bw gt nt) nt))).length)) (clkT r f (lst (twF bw gt nt) nt))).toInt64)]) (rest := []) ⟨hx, hb, hml, hown, hts⟩ (kX6_hashes l D ca H.size om a1 a2 a3 a4 a5 a6 a7 a8 a9 thr sv ln (nI ((bitsT r f (lst (twF bw gt nt) nt)).length)) (bI (!(rdT r f (lst (twF bw gt nt) nt)).2.2)) (clkT r f (lst (twF bw gt nt) nt)) (stB (bitsT r f (lst (twF bw gt nt) nt))) (nI ((ltB (bitsT r f (lst (twF bw gt nt) nt))).length)) (rsT r f (lst (twF bw gt nt) nt)) at_ tm hz9 ((tolF i (rsT r f (lst (twF bw gt nt) nt)) (nI ((bitsT r f (lst (twF bw gt nt) nt)).length)) (stB (bitsT r f (lst (twF bw gt nt) nt))) (nI ((ltB (bitsT r f (lst (twF bw gt nt) nt))).length)) (clkT r f (lst (twF bw gt nt) nt))).toInt64)) (cwV 1 hts gX6_hashesReading_X6_hashes rfl rfl rfl (by decide +kernel) ⟨kk_le rfl, kk_le rfl⟩) (pvM hK hPc (my_D_true hDc) (va_recv hKv hP (ci := 6) (q0 := 0) rfl rfl)) rfl rfl hl.1 rfl (lv_room (kk_le rfl)) dX6_hashesReading_19 ⟨kk_le rfl, kk_le rfl⟩) hS (fun q _ h => hFc q h) hFc (fun u t H1 locs ht hvm hwv hBv hz1 hk1 hS => ?_)
        obtain ⟨hP1, hD1⟩ := hBv
        rw [ht] at hP1
        have hP1 : va_P D vwCl [(om, .inr (6, [.int thr, .ref a1, .ref a2, .ref a3, .int sv, .ref a4, .ref a5, .ref a6, .int ln, .ref a7, .int (nI ((bitsT r f (lst (twF bw gt nt) nt)).length)), .int (bI (!(rdT r f (lst (twF bw gt nt) nt)).2.2)), .int (clkT r f (lst (twF bw gt nt) nt)), .int (stB (bitsT r f (lst (twF bw gt nt) nt))), .ref a8, .int (nI ((ltB (bitsT r f (lst (twF bw gt nt) nt))).length)), .int (rsT r f (lst (twF bw gt nt) nt)), .int at_, .ref a9, .int tm, .long (31 * hz9 + ((tolF i (rsT r f (lst (twF bw gt nt) nt)) (nI ((bitsT r f (lst (twF bw gt nt) nt)).length)) (stB (bitsT r f (lst (twF bw gt nt) nt))) (nI ((ltB (bitsT r f (lst (twF bw gt nt) nt))).length)) (clkT r f (lst (twF bw gt nt) nt))).toInt64))]))] H1 := hP1
        have hD1 : va_D _ [(om, .inr (6, [.int thr, .ref a1, .ref a2, .ref a3, .int sv, .ref a4, .ref a5, .ref a6, .int ln, .ref a7, .int (nI ((bitsT r f (lst (twF bw gt nt) nt)).length)), .int (bI (!(rdT r f (lst (twF bw gt nt) nt)).2.2)), .int (clkT r f (lst (twF bw gt nt) nt)), .int (stB (bitsT r f (lst (twF bw gt nt) nt))), .ref a8, .int (nI ((ltB (bitsT r f (lst (twF bw gt nt) nt))).length)), .int (rsT r f (lst (twF bw gt nt) nt)), .int at_, .ref a9, .int tm, .long (31 * hz9 + ((tolF i (rsT r f (lst (twF bw gt nt) nt)) (nI ((bitsT r f (lst (twF bw gt nt) nt)).length)) (stB (bitsT r f (lst (twF bw gt nt) nt))) (nI ((ltB (bitsT r f (lst (twF bw gt nt) nt))).length)) (clkT r f (lst (twF bw gt nt) nt))).toInt64))]))] := hD1
        have hw15 := hwv
        obtain ⟨hP, hD⟩ := va_join (wr := [(a1, .inl (ca 0, 226, .inl (sF z r f j nt nl gl gt))), (a7, .inl (ca 0, 200, .inl (apF fi 0 (bitsT r f (lst (twF bw gt nt) nt))))), (a8, .inl (ca 0, 40, .inl (apF fe 0 (ltB (bitsT r f (lst (twF bw gt nt) nt))))))]) (w1 := [(om, .inr (6, [.int thr, .ref a1, .ref a2, .ref a3, .int sv, .ref a4, .ref a5, .ref a6, .int ln, .ref a7, .int (nI ((bitsT r f (lst (twF bw gt nt) nt)).length)), .int (bI (!(rdT r f (lst (twF bw gt nt) nt)).2.2)), .int (clkT r f (lst (twF bw gt nt) nt)), .int (stB (bitsT r f (lst (twF bw gt nt) nt))), .ref a8, .int (nI ((ltB (bitsT r f (lst (twF bw gt nt) nt))).length)), .int (rsT r f (lst (twF bw gt nt) nt)), .int at_, .ref a9, .int tm, .long (31 * hz9 + ((tolF i (rsT r f (lst (twF bw gt nt) nt)) (nI ((bitsT r f (lst (twF bw gt nt) nt)).length)) (stB (bitsT r f (lst (twF bw gt nt) nt))) (nI ((ltB (bitsT r f (lst (twF bw gt nt) nt))).length)) (clkT r f (lst (twF bw gt nt) nt))).toInt64))]))]) hP hD [0] [1, 2, 3] rfl rfl (by decide) (by decide) hk1 hFc hP1 hD1
        generalize H1 = H at hP hS ⊢
        have hP := hP.sub (ws' := [(om, .inr (6, [.int thr, .ref a1, .ref a2, .ref a3, .int sv, .ref a4, .ref a5, .ref a6, .int ln, .ref a7, .int (nI ((bitsT r f (lst (twF bw gt nt) nt)).length)), .int (bI (!(rdT r f (lst (twF bw gt nt) nt)).2.2)), .int (clkT r f (lst (twF bw gt nt) nt)), .int (stB (bitsT r f (lst (twF bw gt nt) nt))), .ref a8, .int (nI ((ltB (bitsT r f (lst (twF bw gt nt) nt))).length)), .int (rsT r f (lst (twF bw gt nt) nt)), .int at_, .ref a9, .int tm, .long (31 * hz9 + ((tolF i (rsT r f (lst (twF bw gt nt) nt)) (nI ((bitsT r f (lst (twF bw gt nt) nt)).length)) (stB (bitsT r f (lst (twF bw gt nt) nt))) (nI ((ltB (bitsT r f (lst (twF bw gt nt) nt))).length)) (clkT r f (lst (twF bw gt nt) nt))).toInt64))])), (a1, .inl (ca 0, 226, .inl (sF z r f j nt nl gl gt))), (a7, .inl (ca 0, 200, .inl (apF fi 0 (bitsT r f (lst (twF bw gt nt) nt))))), (a8, .inl (ca 0, 40, .inl (apF fe 0 (ltB (bitsT r f (lst (twF bw gt nt) nt))))))]) [3, 0, 1, 2] rfl
        have hD := hD.sub (ws' := [(om, .inr (6, [.int thr, .ref a1, .ref a2, .ref a3, .int sv, .ref a4, .ref a5, .ref a6, .int ln, .ref a7, .int (nI ((bitsT r f (lst (twF bw gt nt) nt)).length)), .int (bI (!(rdT r f (lst (twF bw gt nt) nt)).2.2)), .int (clkT r f (lst (twF bw gt nt) nt)), .int (stB (bitsT r f (lst (twF bw gt nt) nt))), .ref a8, .int (nI ((ltB (bitsT r f (lst (twF bw gt nt) nt))).length)), .int (rsT r f (lst (twF bw gt nt) nt)), .int at_, .ref a9, .int tm, .long (31 * hz9 + ((tolF i (rsT r f (lst (twF bw gt nt) nt)) (nI ((bitsT r f (lst (twF bw gt nt) nt)).length)) (stB (bitsT r f (lst (twF bw gt nt) nt))) (nI ((ltB (bitsT r f (lst (twF bw gt nt) nt))).length)) (clkT r f (lst (twF bw gt nt) nt))).toInt64))])), (a1, .inl (ca 0, 226, .inl (sF z r f j nt nl gl gt))), (a7, .inl (ca 0, 200, .inl (apF fi 0 (bitsT r f (lst (twF bw gt nt) nt))))), (a8, .inl (ca 0, 40, .inl (apF fe 0 (ltB (bitsT r f (lst (twF bw gt nt) nt))))))]) [3, 0, 1, 2] (by decide) rfl
        refine lv_iinc (v := nI (i + 1)) (lv' := [(2, .int (nI (i + 1))), (0, .ref om), (1, .int (bI bw))]) hx hb dX6_hashesReading_22 hl (k := 0) rfl (ni_inc _ _ (by decide)) (by decide) rfl (fun ls hl => ?_)
        refine lv_goto (tgt := 7) hx hb dX6_hashesReading_25 (by decide) ?_
        exact ih1 (i + 1) (31 * hz9 + ((tolF i (rsT r f (lst (twF bw gt nt) nt)) (nI ((bitsT r f (lst (twF bw gt nt) nt)).length)) (stB (bitsT r f (lst (twF bw gt nt) nt))) (nI ((ltB (bitsT r f (lst (twF bw gt nt) nt))).length)) (clkT r f (lst (twF bw gt nt) nt))).toInt64)) (by omega) (by omega) (by rw [hh]; rfl) _ _ hP hD hS ls (lv_sub hl [0, 1, 2] rfl)
  exact lp7_2 ((5 - 0) + 1) 0 hs (by omega) (by omega) (by rfl) _ _ hP hD hS ls (lv_sub hl [0, 1, 2] rfl)
