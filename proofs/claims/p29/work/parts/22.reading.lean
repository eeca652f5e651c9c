theorem twF_t {bw : Bool} (g : Nat → Int32) (m p : Nat) (h : bw = true) : twF bw g m p = g (m - 1 - p) := by simp [twF, h]
theorem twF_f {bw : Bool} (g : Nat → Int32) (m p : Nat) (h : bw = false) : twF bw g m p = g p := by simp [twF, h]
theorem take_lst (F : Nat → Int32) (k n : Nat) : (lst F n).take k = lst F (min k n) := by
  apply List.ext_getElem?
  intro i
  by_cases h : i < min k n
  · rw [List.getElem?_take, if_pos (by omega), lst_get _ h, lst_get _ (by omega)]
  · rw [List.getElem?_eq_none (by rw [List.length_take, lst_len]; exact Nat.le_of_not_lt h), List.getElem?_eq_none (by rw [lst_len]; exact Nat.le_of_not_lt h)]
theorem fclk_0 (F : Nat → Int32) {m : Nat} (h : min 4 m = 0) : fclk (lst F m) = nI 0 := by
  unfold fclk; rw [if_pos (by rw [lst_len]; omega)]
theorem fclk_n (F : Nat → Int32) {m i : Nat} {acc : Int32} (h1 : i = min 4 m) (h2 : 0 < m) (ha : acc = sumL (lst F i)) : fclk (lst F m) = acc / nI (min 4 m) := by
  unfold fclk; rw [if_neg (by rw [lst_len]; omega), take_lst, lst_len, ha, h1]
theorem rb_long {F : Nat → Int32} {m i : Nat} {r fl ck c : Int32} {B : IL} (hR : rdB r fl ck (lst F m) = preB B (rdB r fl c ((lst F m).drop i))) (hi : i < m) (h : ¬ F i < c * r / nI 100) :
    rdB r fl ck (lst F m) = preB (B ++ [nI 0]) (rdB r fl (nclk c fl (F i)) ((lst F m).drop (i + 1))) := by
  rw [hR, drop_lst F hi, rdB_long _ h, preB_app]
theorem rb_two {F : Nat → Int32} {m i : Nat} {r fl ck c : Int32} {B : IL} (hR : rdB r fl ck (lst F m) = preB B (rdB r fl c ((lst F m).drop i))) (hi : i + 1 < m) (h : F i < c * r / nI 100) (h2 : F (i + 1) < c * r / nI 100) :
    rdB r fl ck (lst F m) = preB (B ++ [nI 1]) (rdB r fl (nclk c fl (F i + F (i + 1))) ((lst F m).drop (i + 1 + 1))) := by
  rw [hR, drop_lst F (show i < m by omega), drop_lst F hi, rdB_two _ h h2, preB_app]
theorem rb_br1 {F : Nat → Int32} {m i : Nat} {r fl ck c : Int32} {B : IL} (hR : rdB r fl ck (lst F m) = preB B (rdB r fl c ((lst F m).drop i))) (hi : i + 1 < m) (h : F i < c * r / nI 100) (h2 : ¬ F (i + 1) < c * r / nI 100) :
    rdB r fl ck (lst F m) = (B, c, false) := by
  rw [hR, drop_lst F (show i < m by omega), drop_lst F hi, rdB_br1 _ h h2]; simp [preB]
theorem rb_br0 {F : Nat → Int32} {m i : Nat} {r fl ck c : Int32} {B : IL} (hR : rdB r fl ck (lst F m) = preB B (rdB r fl c ((lst F m).drop i))) (hi : i < m) (hi2 : m ≤ i + 1) (h : F i < c * r / nI 100) :
    rdB r fl ck (lst F m) = (B, c, false) := by
  rw [hR, drop_lst F hi, drop_end F hi2, rdB_br0 h]; simp [preB]
theorem rb_end {F : Nat → Int32} {m i : Nat} {r fl ck c : Int32} {B : IL} (hR : rdB r fl ck (lst F m) = preB B (rdB r fl c ((lst F m).drop i))) (hi : m ≤ i) : rdB r fl ck (lst F m) = (B, c, true) := by
  rw [hR, drop_end F hi]; simp [rdB, preB]
theorem apB (f : Nat → Int32) (B : IL) (x : Int32) : upd (apF f 0 B) B.length x = apF f 0 (B ++ [x]) := by
  have := apF_1 f 0 B x
  rw [Nat.zero_add] at this
  exact this
theorem apBn (B : IL) (x : Int32) : nI (B.length + 1) = nI (B ++ [x]).length := by rw [List.length_append]; rfl
theorem apL_step {F : Nat → Int32} {i : Nat} (g : Nat → Int32) {x : Int32} (h : x = F i) : upd (apF g 0 (lst F i)) i x = apF g 0 (lst F (i + 1)) := by
  have := apB g (lst F i) x
  rw [lst_len] at this
  rw [this, lst_succ, h]
theorem fs_lo {f : Nat → Int32} {n i : Nat} (hno : ∀ q, q + 5 ≤ i → okSt f n q = false) (h : i < 4) : ∀ q, q + 5 ≤ i + 1 → okSt f n q = false := fun q hq => absurd hq (by omega)
theorem fs_hi {f : Nat → Int32} {n i : Nat} {wv : Int32} (hno : ∀ q, q + 5 ≤ i → okSt f n q = false) (hw : wv = w5 (lst f i)) (h4 : 4 ≤ i) (hi : i < n) (h01 : ∀ k, k < n → f k = nI 0 ∨ f k = nI 1) (hne : ¬ ((wv <<< (nI 1 &&& 31)) ||| f i) &&& nI 31 = nI 26) : ∀ q, q + 5 ≤ i + 1 → okSt f n q = false := by
  intro q hq
  rcases Nat.lt_or_ge q (i - 4) with h | h
  · exact hno q (by omega)
  · obtain rfl : q = i - 4 := by omega
    rw [okSt_w5 h4 hi h01, lst_succ, w5_app, ← hw]
    exact decide_eq_false hne
theorem fs_yes {f : Nat → Int32} {n i : Nat} {wv : Int32} (hno : ∀ q, q + 5 ≤ i → okSt f n q = false) (hw : wv = w5 (lst f i)) (h4 : 4 ≤ i) (hi : i < n) (h01 : ∀ k, k < n → f k = nI 0 ∨ f k = nI 1) (h : ((wv <<< (nI 1 &&& 31)) ||| f i) &&& nI 31 = nI 26) : stI f n = nI (i - 4) := by
  refine stI_yes ?_ (fun q hq => hno q (by omega))
  rw [okSt_w5 h4 hi h01, lst_succ, w5_app, ← hw]
  exact decide_eq_true h
theorem fs_none {f : Nat → Int32} {n i : Nat} (hno : ∀ q, q + 5 ≤ i → okSt f n q = false) (hi : n ≤ i) : stI f n = -1 := by
  refine stI_none fun q => ?_
  cases hb : okSt f n q
  · rfl
  · have := okSt_len hb
    rw [hno q (by omega)] at hb
    exact absurd hb (by decide)
theorem oddG_t {f : Nat → Int32} {p i : Nat} {acc : Int32} (h1 : i ≤ 5) (h2 : 5 ≤ i) (ha : acc = oneS f p i) (h : acc &&& nI 1 = nI 1) : oddG f p = true := by
  obtain rfl : i = 5 := by omega
  unfold oddG; rw [← ha]; exact decide_eq_true h
theorem oddG_f {f : Nat → Int32} {p i : Nat} {acc : Int32} (h1 : i ≤ 5) (h2 : 5 ≤ i) (ha : acc = oneS f p i) (h : ¬ acc &&& nI 1 = nI 1) : oddG f p = false := by
  obtain rfl : i = 5 := by omega
  unfold oddG; rw [← ha]; exact decide_eq_false h
theorem gp_s (st i : Nat) : gp st (i + 1) = gp st i + 5 := by unfold gp; omega
/-- the first group that is the end with odd parity -/
def goG (f : Nat → Int32) (n st j : Nat) : Bool := decide (gp st j + 5 ≤ n) && !(decide (numG f (gp st j) = nI 15) && oddG f (gp st j))
def gN (f : Nat → Int32) (n st : Nat) : Nat := stopAt (goG f n st) 41 0
def gaI (f : Nat → Int32) (n st : Nat) : Int32 := if gp st (gN f n st) + 5 ≤ n then nI (gN f n st) else -1
theorem goG_t1 {f : Nat → Int32} {n st j : Nat} (h1 : gp st j + 5 ≤ n) (h2 : ¬ numG f (gp st j) = nI 15) : goG f n st j = true := by unfold goG; rw [decide_eq_true h1, decide_eq_false h2]; rfl
theorem goG_t2 {f : Nat → Int32} {n st j : Nat} (h1 : gp st j + 5 ≤ n) (h2 : oddG f (gp st j) = false) : goG f n st j = true := by unfold goG; rw [decide_eq_true h1, h2]; simp
theorem goG_f {f : Nat → Int32} {n st j : Nat} (h2 : numG f (gp st j) = nI 15) (h3 : oddG f (gp st j) = true) : goG f n st j = false := by unfold goG; rw [decide_eq_true h2, h3]; simp
theorem goG_a {f : Nat → Int32} {n st j : Nat} (h1 : n < gp st j + 5) : goG f n st j = false := by unfold goG; rw [decide_eq_false (by omega)]; rfl
theorem ga_n {f : Nat → Int32} {n st i : Nat} (hok : ∀ j, j < i → goG f n st j = true) (hs : goG f n st i = false) (h41 : i ≤ 41) : gN f n st = i :=
  stopAt_eq (Nat.zero_le _) (by omega) (fun j _ hj => hok j hj) (fun _ => hs)
theorem ga_yes {f : Nat → Int32} {n st i : Nat} (hok : ∀ j, j < i → goG f n st j = true) (h1 : gp st i + 5 ≤ n) (h2 : numG f (gp st i) = nI 15) (h3 : oddG f (gp st i) = true) (h41 : i ≤ 41) : gaI f n st = nI i := by
  unfold gaI; rw [ga_n hok (goG_f h2 h3) h41, if_pos h1]
theorem ga_no {f : Nat → Int32} {n st i : Nat} (hok : ∀ j, j < i → goG f n st j = true) (h1 : n < gp st i + 5) (h41 : i ≤ 41) : gaI f n st = -1 := by
  unfold gaI; rw [ga_n hok (goG_a h1) h41, if_neg (by omega)]
theorem gaI_cases (f : Nat → Int32) (n st : Nat) : (gaI f n st = -1 ∧ ¬ gp st (gN f n st) + 5 ≤ n) ∨ (gaI f n st = nI (gN f n st) ∧ gp st (gN f n st) + 5 ≤ n) := by
  by_cases h : gp st (gN f n st) + 5 ≤ n
  · exact Or.inr ⟨if_pos h, h⟩
  · exact Or.inl ⟨if_neg h, h⟩
/-- the wrong letter among the first i: none when there are two -/
def wrS (f : Nat → Int32) (st : Nat) : Nat → Option Int32
  | 0 => some (-1)
  | i + 1 => if oddG f (gp st i) = true then wrS f st i else if wrS f st i = some (-1) then some (nI i) else none
theorem wr_odd {f : Nat → Int32} {st i : Nat} {wr : Int32} (hw : wrS f st i = some wr) (h : oddG f (gp st i) = true) : wrS f st (i + 1) = some wr := by simp [wrS, h, hw]
theorem wr_one {f : Nat → Int32} {st i : Nat} {wr : Int32} (hw : wrS f st i = some wr) (h : oddG f (gp st i) = false) (h1 : wr = -1) : wrS f st (i + 1) = some (nI i) := by simp [wrS, h, hw, h1]
theorem wr_two {f : Nat → Int32} {st i : Nat} {wr : Int32} (hw : wrS f st i = some wr) (h : oddG f (gp st i) = false) (h1 : ¬ wr = -1) : wrS f st (i + 1) = none := by simp [wrS, h, hw, h1]
theorem wr_none {f : Nat → Int32} {st i j : Nat} (h : wrS f st i = none) (hj : i ≤ j) : wrS f st j = none := by
  induction j with
  | zero => obtain rfl : i = 0 := by omega
            exact h
  | succ j ih =>
    rcases Nat.eq_or_lt_of_le hj with q | q
    · rw [← q]; exact h
    · have := ih (by omega)
      simp [wrS, this]
def rpP (rs : Int32) (f : Nat → Int32) (n st : Nat) : Int32 :=
  if ¬ rs = nI 2 then -1 else if ¬ gp st (gN f n st) + 5 ≤ n then -1 else if ¬ gp st (gN f n st + 1) + 5 ≤ n then -1 else if oddG f (gp st (gN f n st + 1)) = false then -1 else (wrS f st (gN f n st)).getD (-1)
theorem rp_reason {rs : Int32} {f : Nat → Int32} {n st : Nat} (h : ¬ rs = nI 2) : rpP rs f n st = -1 := if_pos h
theorem rp_none {rs : Int32} {f : Nat → Int32} {n st : Nat} (h : rs = nI 2) (h2 : ¬ gp st (gN f n st) + 5 ≤ n) (_ : gaI f n st = -1) : rpP rs f n st = -1 := by
  unfold rpP; rw [if_neg (by rw [h]; exact fun q => q rfl), if_pos h2]
theorem rp_nogr {rs : Int32} {f : Nat → Int32} {n st : Nat} (h : rs = nI 2) (h2 : decide (gp st (gN f n st + 1) + 5 ≤ n) = false) : rpP rs f n st = -1 := by
  have h3 := of_decide_eq_false h2
  unfold rpP; rw [if_neg (by rw [h]; exact fun q => q rfl)]
  by_cases h4 : gp st (gN f n st) + 5 ≤ n
  · rw [if_neg (fun q => q h4), if_pos h3]
  · rw [if_pos h4]
theorem rp_even {rs : Int32} {f : Nat → Int32} {n st : Nat} (h : rs = nI 2) (h2 : oddG f (gp st (gN f n st + 1)) = false) : rpP rs f n st = -1 := by
  unfold rpP; rw [if_neg (by rw [h]; exact fun q => q rfl)]
  by_cases h4 : gp st (gN f n st) + 5 ≤ n
  · rw [if_neg (fun q => q h4)]
    by_cases h5 : gp st (gN f n st + 1) + 5 ≤ n
    · rw [if_neg (fun q => q h5), if_pos h2]
    · rw [if_pos h5]
  · rw [if_pos h4]
theorem rp_open {rs : Int32} {f : Nat → Int32} {n st : Nat} (h : rs = nI 2) (h2 : gp st (gN f n st) + 5 ≤ n) (h3 : decide (gp st (gN f n st + 1) + 5 ≤ n) = true) (h4 : oddG f (gp st (gN f n st + 1)) = true) : rpP rs f n st = (wrS f st (gN f n st)).getD (-1) := by
  unfold rpP; rw [if_neg (by rw [h]; exact fun q => q rfl), if_neg (fun q => q h2), if_neg (fun q => q (of_decide_eq_true h3)), if_neg (by rw [h4]; decide)]
theorem rp_two {rs : Int32} {f : Nat → Int32} {n st i : Nat} {wr : Int32} (h : rs = nI 2) (h2 : gp st (gN f n st) + 5 ≤ n) (h3 : decide (gp st (gN f n st + 1) + 5 ≤ n) = true) (h4 : oddG f (gp st (gN f n st + 1)) = true) (hw : wrS f st i = some wr) (h5 : oddG f (gp st i) = false) (h6 : ¬ wr = -1) (hi : i < gN f n st) : rpP rs f n st = -1 := by
  rw [rp_open h h2 h3 h4, wr_none (wr_two hw h5 h6) hi]; rfl
theorem rp_ok {rs : Int32} {f : Nat → Int32} {n st i : Nat} {wr : Int32} (h : rs = nI 2) (h2 : gp st (gN f n st) + 5 ≤ n) (h3 : decide (gp st (gN f n st + 1) + 5 ≤ n) = true) (h4 : oddG f (gp st (gN f n st + 1)) = true) (hw : wrS f st i = some wr) (hi : i ≤ gN f n st) (hi2 : gN f n st ≤ i) : rpP rs f n st = wr := by
  obtain rfl : i = gN f n st := by omega
  rw [rp_open h h2 h3 h4, hw]; rfl
/-- the number that the wrong letter has to be -/
def yS (f : Nat → Int32) (st wr : Nat) : Nat → Int32
  | 0 => nI 11
  | i + 1 => if i = wr then yS f st wr i else yS f st wr i ^^^ numG f (gp st i)
def rpN (f : Nat → Int32) (st g wr : Nat) : Int32 := yS f st wr (g + 2)
theorem y_same {f : Nat → Int32} {st wr i : Nat} {acc : Int32} (ha : acc = yS f st wr i) (h : i = wr) : acc = yS f st wr (i + 1) := by simp [yS, h, ha]
theorem y_step {f : Nat → Int32} {st wr i : Nat} {acc : Int32} (ha : acc = yS f st wr i) (h : ¬ i = wr) : acc ^^^ numG f (gp st i) = yS f st wr (i + 1) := by simp [yS, h, ha]
def tolF (w : Nat) (a b c d e : Int32) : Int32 := match w with
  | 0 => a
  | 1 => b
  | 2 => c
  | 3 => d
  | _ => e
theorem tolF_4 {w : Nat} {a b c d e : Int32} (h : 3 < w) : tolF w a b c d e = e := by
  match w, h with
  | k + 4, _ => rfl
theorem card_a {rs : Int32} {α : Type} [DecidableEq α] {x y : α} (h : ¬ rs = nI 0) : decide (rs = nI 0 ∧ x = y) = false := decide_eq_false fun q => h q.1
theorem card_b {rs : Int32} {α : Type} [DecidableEq α] {x y : α} (h : decide (x = y) = false) : decide (rs = nI 0 ∧ x = y) = false := decide_eq_false fun q => of_decide_eq_false h q.2
theorem card_c {rs : Int32} {α : Type} [DecidableEq α] {x y : α} (h1 : rs = nI 0) (h : decide (x = y) = true) : decide (rs = nI 0 ∧ x = y) = true := decide_eq_true ⟨h1, of_decide_eq_true h⟩
abbrev rm_kX1_timeOnTheWay : Room := { frames := 1, cells := 0, slots := 0, locals := 21 }
set_option maxHeartbeats 4000000 in
set_option maxRecDepth 100000 in
theorem kX1_timeOnTheWay (l : Launch) (D : va_G) (ca : Nat → ClassId) (q a cap : Nat) (g : Nat → Int32) (tn : Nat) (bw : Bool) (pp : Nat) (hm : tn ≤ cap) (hcp : cap < 1000000) (hp : pp < tn) : Met l yX1_timeOnTheWay wsX1_timeOnTheWay rm_kX1_timeOnTheWay (pcR D ca [.ref q, .int (bI bw), .int (nI pp)] [(q, .inr (2, [.ref a, .int (nI tn)])), (a, .inl (ca 0, cap, .inl g))]) (vp_Si (fun z : Int32 => z = twF bw g tn pp)) 0 0 (fun _ => False) := by
  refine Met.ofW (cc := cX1_timeOnTheWay) (maxL := 3) (ret := (some .int)) (by decide) rfl ?_
  intro p e s m args below meth c s₁ B hml hv
  obtain ⟨rfl, hP, hK⟩ := hv
  have hx := B.exec
  have hb := B.bytes
  have hr := B.returns
  have hts := atoms_spec (ws := wsX1_timeOnTheWay) B.pre
  have hown : s.vm.findClass RX1 = some m.cls := findClass_of_methodNamed B.named
  have hlocks := B.notSynchronized
  have hKv := hK.1
  have hl := lv_entry ([.ref q, .int (bI bw), .int (nI pp)]) (n := 3) (kk_le rfl)
  rw [lg_entry_eq]
  generalize (lg_sl ([.ref q, .int (bI bw), .int (nI pp)]) ++ List.replicate (3 - (lg_sl ([.ref q, .int (bI bw), .int (nI pp)])).length) Slot.unset).toArray = ls at hl ⊢
  have hl : lv_has ls 3 [(0, .ref q), (1, .int (bI bw)), (2, .int (nI pp))] := hl
  refine lv_aload_n hx hb dX1_timeOnTheWay_0 rfl (lv_at hl 0 rfl) ?_
  refine lv_iload_n hx hb dX1_timeOnTheWay_1 rfl (lv_at hl 1 rfl) ?_
  refine bi_if_eq (tgt := 16) hx hb dX1_timeOnTheWay_2 (by decide) (fun c1 => ?_) (fun c1 => ?_)
  · refine lv_iload_n hx hb dX1_timeOnTheWay_16 rfl (lv_at hl 2 rfl) ?_
    refine vp_callSi (va_Run.run (va_runV (As := [.int (nI pp)]) (rest := []) ⟨hx, hb, hml, hown, hts⟩ (kX2_at_in l D ca q a cap g tn pp (by first | rfl | assumption | omega | trivial | (exfalso; omega)) (by first | rfl | assumption | omega | trivial | (exfalso; omega)) (by first | rfl | assumption | omega | trivial | (exfalso; omega))) (cwV 1 hts gX1_timeOnTheWay_X2_at rfl rfl rfl (by decide +kernel) ⟨kk_le rfl, kk_le rfl⟩) (pvR hK hP (va_recv hKv hP (ci := 2) (q0 := 0) rfl rfl)) rfl rfl hl.1 rfl (lv_room (kk_le rfl)) dX1_timeOnTheWay_17 ⟨kk_le rfl, kk_le rfl⟩)) (fun r2 hr2 => ?_)
    subst hr2
    exact W.iret (v := g pp) hx hb hr (fun t ht _ => ⟨_, rfl, by first | exact (twF_t g tn pp (by assumption)).symm | exact (twF_f g tn pp (by assumption)).symm, ht⟩) (fun _ h => nomatch h) dX1_timeOnTheWay_20
  · refine lv_aload_n hx hb dX1_timeOnTheWay_5 rfl (lv_at hl 0 rfl) ?_
    refine vp_callSi (va_Run.run (va_runV (As := []) (rest := [.ref q]) ⟨hx, hb, hml, hown, hts⟩ (kX2_size l D ca q a cap g tn (by first | rfl | assumption | omega | trivial | (exfalso; omega)) (by first | rfl | assumption | omega | trivial | (exfalso; omega))) (cwV 0 hts gX1_timeOnTheWay_X2_size rfl rfl rfl (by decide +kernel) ⟨kk_le rfl, kk_le rfl⟩) (pvR hK hP (va_recv hKv hP (ci := 2) (q0 := 0) rfl rfl)) rfl rfl hl.1 rfl (lv_room (kk_le rfl)) dX1_timeOnTheWay_6 ⟨kk_le rfl, kk_le rfl⟩)) (fun r3 hr3 => ?_)
    subst hr3
    refine lv_iconst (v := nI 1) hx hb dX1_timeOnTheWay_9 (by decide) ?_
    refine ni_isub (by omega) hx hb dX1_timeOnTheWay_10 ?_
    refine lv_iload_n hx hb dX1_timeOnTheWay_11 rfl (lv_at hl 2 rfl) ?_
    refine ni_isub (by omega) hx hb dX1_timeOnTheWay_12 ?_
    refine lv_goto (tgt := 17) hx hb dX1_timeOnTheWay_13 (by decide) ?_
    refine vp_callSi (va_Run.run (va_runV (As := [.int (nI ((tn - 1) - pp))]) (rest := []) ⟨hx, hb, hml, hown, hts⟩ (kX2_at_in l D ca q a cap g tn ((tn - 1) - pp) (by first | rfl | assumption | omega | trivial | (exfalso; omega)) (by first | rfl | assumption | omega | trivial | (exfalso; omega)) (by first | rfl | assumption | omega | trivial | (exfalso; omega))) (cwV 1 hts gX1_timeOnTheWay_X2_at rfl rfl rfl (by decide +kernel) ⟨kk_le rfl, kk_le rfl⟩) (pvR hK hP (va_recv hKv hP (ci := 2) (q0 := 0) rfl rfl)) rfl rfl hl.1 rfl (lv_room (kk_le rfl)) dX1_timeOnTheWay_17 ⟨kk_le rfl, kk_le rfl⟩)) (fun r4 hr4 => ?_)
    subst hr4
    exact W.iret (v := g ((tn - 1) - pp)) hx hb hr (fun t ht _ => ⟨_, rfl, by first | exact (twF_t g tn pp (by assumption)).symm | exact (twF_f g tn pp (by assumption)).symm, ht⟩) (fun _ h => nomatch h) dX1_timeOnTheWay_20
abbrev rm_kX1_timeOnTheWay_end : Room := { frames := 1, cells := 0, slots := 0, locals := 21 }
set_option maxHeartbeats 4000000 in
set_option maxRecDepth 100000 in
theorem kX1_timeOnTheWay_end (l : Launch) (D : va_G) (ca : Nat → ClassId) (q a cap : Nat) (g : Nat → Int32) (tn : Nat) (bw : Bool) (pp : Nat) (hm : tn ≤ cap) (hcp : cap < 1000000) (hp : pp = tn) (h1 : 1 ≤ tn) : Met l yX1_timeOnTheWay wsX1_timeOnTheWay rm_kX1_timeOnTheWay_end (pcR D ca [.ref q, .int (bI bw), .int (nI pp)] [(q, .inr (2, [.ref a, .int (nI tn)])), (a, .inl (ca 0, cap, .inl g))]) (vp_Si (fun z : Int32 => z = (-1))) 0 0 (fun _ => False) := by
  refine Met.ofW (cc := cX1_timeOnTheWay) (maxL := 3) (ret := (some .int)) (by decide) rfl ?_
  intro p e s m args below meth c s₁ B hml hv
  obtain ⟨rfl, hP, hK⟩ := hv
  have hx := B.exec
  have hb := B.bytes
  have hr := B.returns
  have hts := atoms_spec (ws := wsX1_timeOnTheWay) B.pre
  have hown : s.vm.findClass RX1 = some m.cls := findClass_of_methodNamed B.named
  have hlocks := B.notSynchronized
  have hKv := hK.1
  have hl := lv_entry ([.ref q, .int (bI bw), .int (nI pp)]) (n := 3) (kk_le rfl)
  rw [lg_entry_eq]
  generalize (lg_sl ([.ref q, .int (bI bw), .int (nI pp)]) ++ List.replicate (3 - (lg_sl ([.ref q, .int (bI bw), .int (nI pp)])).length) Slot.unset).toArray = ls at hl ⊢
  have hl : lv_has ls 3 [(0, .ref q), (1, .int (bI bw)), (2, .int (nI pp))] := hl
  refine lv_aload_n hx hb dX1_timeOnTheWay_0 rfl (lv_at hl 0 rfl) ?_
  refine lv_iload_n hx hb dX1_timeOnTheWay_1 rfl (lv_at hl 1 rfl) ?_
  refine bi_if_eq (tgt := 16) hx hb dX1_timeOnTheWay_2 (by decide) (fun c1 => ?_) (fun c1 => ?_)
  · refine lv_iload_n hx hb dX1_timeOnTheWay_16 rfl (lv_at hl 2 rfl) ?_
    refine vp_callSi (va_Run.run (va_runV (As := [.int (nI pp)]) (rest := []) ⟨hx, hb, hml, hown, hts⟩ (kX2_at l D ca q a cap g tn (nI pp) (by first | rfl | assumption | omega | trivial | (exfalso; omega)) (by first | rfl | assumption | omega | trivial | (exfalso; omega))) (cwV 1 hts gX1_timeOnTheWay_X2_at rfl rfl rfl (by decide +kernel) ⟨kk_le rfl, kk_le rfl⟩) (pvR hK hP (va_recv hKv hP (ci := 2) (q0 := 0) rfl rfl)) rfl rfl hl.1 rfl (lv_room (kk_le rfl)) dX1_timeOnTheWay_17 ⟨kk_le rfl, kk_le rfl⟩)) (fun r2 hr2 => ?_)
    subst hr2
    exact W.iret (v := atF g tn (nI pp)) hx hb hr (fun t ht _ => ⟨_, rfl, by first | (rw [atF_n (by omega) (by omega), if_neg (by omega)]) | exact atF_lo (pk_sneg (by omega) (by omega)), ht⟩) (fun _ h => nomatch h) dX1_timeOnTheWay_20
  · refine lv_aload_n hx hb dX1_timeOnTheWay_5 rfl (lv_at hl 0 rfl) ?_
    refine vp_callSi (va_Run.run (va_runV (As := []) (rest := [.ref q]) ⟨hx, hb, hml, hown, hts⟩ (kX2_size l D ca q a cap g tn (by first | rfl | assumption | omega | trivial | (exfalso; omega)) (by first | rfl | assumption | omega | trivial | (exfalso; omega))) (cwV 0 hts gX1_timeOnTheWay_X2_size rfl rfl rfl (by decide +kernel) ⟨kk_le rfl, kk_le rfl⟩) (pvR hK hP (va_recv hKv hP (ci := 2) (q0 := 0) rfl rfl)) rfl rfl hl.1 rfl (lv_room (kk_le rfl)) dX1_timeOnTheWay_6 ⟨kk_le rfl, kk_le rfl⟩)) (fun r3 hr3 => ?_)
    subst hr3
    refine lv_iconst (v := nI 1) hx hb dX1_timeOnTheWay_9 (by decide) ?_
    refine ni_isub (by omega) hx hb dX1_timeOnTheWay_10 ?_
    refine lv_iload_n hx hb dX1_timeOnTheWay_11 rfl (lv_at hl 2 rfl) ?_
    refine lv_isub hx hb dX1_timeOnTheWay_12 ?_
    refine lv_goto (tgt := 17) hx hb dX1_timeOnTheWay_13 (by decide) ?_
    refine vp_callSi (va_Run.run (va_runV (As := [.int ((nI (tn - 1)) - (nI pp))]) (rest := []) ⟨hx, hb, hml, hown, hts⟩ (kX2_at l D ca q a cap g tn ((nI (tn - 1)) - (nI pp)) (by first | rfl | assumption | omega | trivial | (exfalso; omega)) (by first | rfl | assumption | omega | trivial | (exfalso; omega))) (cwV 1 hts gX1_timeOnTheWay_X2_at rfl rfl rfl (by decide +kernel) ⟨kk_le rfl, kk_le rfl⟩) (pvR hK hP (va_recv hKv hP (ci := 2) (q0 := 0) rfl rfl)) rfl rfl hl.1 rfl (lv_room (kk_le rfl)) dX1_timeOnTheWay_17 ⟨kk_le rfl, kk_le rfl⟩)) (fun r4 hr4 => ?_)
    subst hr4
    exact W.iret (v := atF g tn ((nI (tn - 1)) - (nI pp))) hx hb hr (fun t ht _ => ⟨_, rfl, by first | (rw [atF_n (by omega) (by omega), if_neg (by omega)]) | exact atF_lo (pk_sneg (by omega) (by omega)), ht⟩) (fun _ h => nomatch h) dX1_timeOnTheWay_20
abbrev rm_kX1_firstClock : Room := { frames := 2, cells := 0, slots := 0, locals := 43 }
set_option maxHeartbeats 4000000 in
set_option maxRecDepth 100000 in
theorem kX1_firstClock (l : Launch) (D : va_G) (ca : Nat → ClassId) (q a cap : Nat) (g : Nat → Int32) (tn : Nat) (bw : Bool) (hm : tn ≤ cap) (hcp : cap < 1000000) : Met l yX1_firstClock wsX1_firstClock rm_kX1_firstClock (pcR D ca [.ref q, .int (bI bw)] [(q, .inr (2, [.ref a, .int (nI tn)])), (a, .inl (ca 0, cap, .inl g))]) (vp_Si (fun z : Int32 => z = fclk (lst (twF bw g tn) tn))) 0 0 (fun _ => False) := by
  refine Met.ofW (cc := cX1_firstClock) (maxL := 5) (ret := (some .int)) (by decide) rfl ?_
  intro p e s m args below meth c s₁ B hml hv
  obtain ⟨rfl, hP, hK⟩ := hv
  have hx := B.exec
  have hb := B.bytes
  have hr := B.returns
  have hts := atoms_spec (ws := wsX1_firstClock) B.pre
  have hown : s.vm.findClass RX1 = some m.cls := findClass_of_methodNamed B.named
  have hlocks := B.notSynchronized
  have hKv := hK.1
  have hl := lv_entry ([.ref q, .int (bI bw)]) (n := 5) (kk_le rfl)
  rw [lg_entry_eq]
  generalize (lg_sl ([.ref q, .int (bI bw)]) ++ List.replicate (5 - (lg_sl ([.ref q, .int (bI bw)])).length) Slot.unset).toArray = ls at hl ⊢
  have hl : lv_has ls 5 [(0, .ref q), (1, .int (bI bw))] := hl
  generalize hQz : MQ below _ _ _ _ _ _ = Qz
  have lm62 : (Cond.methodLink RX1 62 Lib.Math.min.name).before _ s = true := hts _ (by decide +kernel)
  have ls_min : (Cond.static Lib.Math.min.name).before _ s = true := hts _ (by decide +kernel)
  have li_math : (Cond.initialized "java/lang/Math").before _ s = true := hts _ (by decide +kernel)
  have lco_min : (Cond.code Lib.Math.min.name Lib.Math.min.code 2 (some .int)).before _ s = true := hts _ (by decide +kernel)
  refine lv_iconst (v := nI 4) hx hb dX1_firstClock_0 (by decide) ?_
  refine lv_aload_n hx hb dX1_firstClock_1 rfl (lv_at hl 0 rfl) ?_
  refine vp_callSi (va_Run.run (va_runV (As := []) (rest := [.int (nI 4)]) ⟨hx, hb, hml, hown, hts⟩ (kX2_size l D ca q a cap g tn (by first | rfl | assumption | omega | trivial | (exfalso; omega)) (by first | rfl | assumption | omega | trivial | (exfalso; omega))) (cwV 0 hts gX1_firstClock_X2_size rfl rfl rfl (by decide +kernel) ⟨kk_le rfl, kk_le rfl⟩) (pvR hK hP (va_recv hKv hP (ci := 2) (q0 := 0) rfl rfl)) rfl rfl hl.1 rfl (lv_room (kk_le rfl)) dX1_firstClock_2 ⟨kk_le rfl, kk_le rfl⟩)) (fun r1 hr1 => ?_)
  subst hr1
  refine va_mmin hx hb (hml.trans hl.1.symm) hown lm62 ls_min li_math lco_min (kk_le rfl) (kk_le rfl) (kk_le rfl) (kk_le rfl) dX1_firstClock_5 ?_
  rw [ni_min (by omega) (by omega)]
  refine lv_istore_n (lv' := [(2, .int (nI (min 4 tn))), (0, .ref q), (1, .int (bI bw))]) hx hb dX1_firstClock_8 rfl hl (by decide) rfl (fun ls hl => ?_)
  refine lv_iload_n hx hb dX1_firstClock_9 rfl (lv_at hl 0 rfl) ?_
  refine ni_if_gt (tgt := 15) (by omega) hx hb dX1_firstClock_10 (by decide) (fun c2 => ?_) (fun c2 => ?_)
  · refine lv_iconst (v := nI 0) hx hb dX1_firstClock_15 (by decide) ?_
    refine lv_istore_n (lv' := [(3, .int (nI 0)), (2, .int (nI (min 4 tn))), (0, .ref q), (1, .int (bI bw))]) hx hb dX1_firstClock_16 rfl hl (by decide) rfl (fun ls hl => ?_)
    refine lv_iconst (v := nI 0) hx hb dX1_firstClock_17 (by decide) ?_
    refine lv_istore (lv' := [(4, .int (nI 0)), (3, .int (nI 0)), (2, .int (nI (min 4 tn))), (0, .ref q), (1, .int (bI bw))]) hx hb dX1_firstClock_18 hl (by decide) rfl (fun ls hl => ?_)
    have lp20_2 : ∀ (k1 : Nat) (i : Nat) (acc : Int32), min 4 tn - i < k1 → (i ≤ min 4 tn) → (acc = sumL (lst (twF bw g tn) i)) → ∀ (ls : Array Slot), lv_has ls 5 [(4, .int (nI i)), (3, .int acc), (2, .int (nI (min 4 tn))), (0, .ref q), (1, .int (bI bw))] → W p l e rm_kX1_firstClock s m ([.ref q, .int (bI bw)] : List Value).toArray below meth c s.heap [] 0 0 Qz (F0 m 20 ls []) := by
      intro k1
      induction k1 with
      | zero => intro i acc hm1; exact absurd hm1 (Nat.not_lt_zero _)
      | succ k1 ih1 =>
        intro i acc hm1 hi ha ls hl
        refine lv_iload hx hb dX1_firstClock_20 (lv_at hl 0 rfl) ?_
        refine lv_iload_n hx hb dX1_firstClock_22 rfl (lv_at hl 2 rfl) ?_
        refine ni_icmp_ge (tgt := 42) (by omega) (by omega) hx hb dX1_firstClock_23 (by decide) (fun c4 => ?_) (fun c4 => ?_)
        · refine lv_iload_n hx hb dX1_firstClock_42 rfl (lv_at hl 1 rfl) ?_
          refine lv_iload_n hx hb dX1_firstClock_43 rfl (lv_at hl 2 rfl) ?_
          refine lv_idiv hx hb dX1_firstClock_44 (by first | decide | assumption | exact nI_ne0 (by omega) (by omega)) ?_
          subst hQz
          exact W.iret (v := acc / (nI (min 4 tn))) hx hb hr (fun t ht _ => ⟨_, rfl, by first | exact (fclk_0 _ (by omega)).symm | exact (fclk_n _ (by omega) (by omega) ha).symm, ht⟩) (fun _ h => nomatch h) dX1_firstClock_45
        · refine lv_iload_n hx hb dX1_firstClock_26 rfl (lv_at hl 1 rfl) ?_
          refine lv_aload_n hx hb dX1_firstClock_27 rfl (lv_at hl 3 rfl) ?_
          refine lv_iload_n hx hb dX1_firstClock_28 rfl (lv_at hl 4 rfl) ?_
          refine lv_iload hx hb dX1_firstClock_29 (lv_at hl 0 rfl) ?_
          refine vp_callSi (va_Run.run (va_runS (As := [.ref q, .int (bI bw), .int (nI i)]) (rest := [.int acc]) ⟨hx, hb, hml, hown, hts⟩ (kX1_timeOnTheWay l D ca q a cap g tn bw i (by first | rfl | assumption | omega | trivial | (exfalso; omega)) (by first | rfl | assumption | omega | trivial | (exfalso; omega)) (by first | rfl | assumption | omega | trivial | (exfalso; omega))) (va_cwS 3 hts gX1_firstClock_X1_timeOnTheWay rfl rfl rfl (by decide +kernel) ⟨kk_le rfl, kk_le rfl⟩) (psR hK hP) rfl rfl hl.1 rfl (lv_room (kk_le rfl)) dX1_firstClock_31 ⟨kk_le rfl, kk_le rfl⟩)) (fun r5 hr5 => ?_)
          subst hr5
          refine lv_iadd hx hb dX1_firstClock_34 ?_
          refine lv_istore_n (lv' := [(3, .int (acc + (twF bw g tn i))), (4, .int (nI i)), (2, .int (nI (min 4 tn))), (0, .ref q), (1, .int (bI bw))]) hx hb dX1_firstClock_35 rfl hl (by decide) rfl (fun ls hl => ?_)
          refine lv_iinc (v := nI (i + 1)) (lv' := [(4, .int (nI (i + 1))), (3, .int (acc + (twF bw g tn i))), (2, .int (nI (min 4 tn))), (0, .ref q), (1, .int (bI bw))]) hx hb dX1_firstClock_36 hl (k := 1) rfl (ni_inc _ _ (by decide)) (by decide) rfl (fun ls hl => ?_)
          refine lv_goto (tgt := 20) hx hb dX1_firstClock_39 (by decide) ?_
          exact ih1 (i + 1) (acc + (twF bw g tn i)) (by omega) (by omega) (by rw [ha, lst_succ, sumL_app]) ls (lv_sub hl [0, 1, 2, 3, 4] rfl)
    exact lp20_2 ((min 4 tn - 0) + 1) 0 (nI 0) (by omega) (by omega) (by rfl) ls (lv_sub hl [0, 1, 2, 3, 4] rfl)
  · refine lv_iconst (v := nI 0) hx hb dX1_firstClock_13 (by decide) ?_
    subst hQz
    exact W.iret (v := nI 0) hx hb hr (fun t ht _ => ⟨_, rfl, by first | exact (fclk_0 _ (by omega)).symm | exact (fclk_n _ (by omega) (by omega) ha).symm, ht⟩) (fun _ h => nomatch h) dX1_firstClock_14
abbrev rm_kX1_readBits : Room := { frames := 2, cells := 0, slots := 0, locals := 43 }
set_option maxHeartbeats 4000000 in
set_option maxRecDepth 100000 in
theorem kX1_readBits (l : Launch) (D : va_G) (ca : Nat → ClassId) (sz : Nat) (x qb ab cb ql : Nat) (rs st ck : Int32) (f : Nat → Int32) (n : Nat) (q a cap : Nat) (g : Nat → Int32) (tn : Nat) (bw : Bool) (r fl : Int32) (hn : n ≤ cb) (hc : cb < 1000000) (hm : tn ≤ cap) (hcp : cap < 1000000) (hmc : tn ≤ cb) : Met l yX1_readBits wsX1_readBits rm_kX1_readBits (pcM D ca [.ref x, .ref q, .int (bI bw), .int r, .int fl] [(x, .inr (1, [.ref qb, .ref ql, .int rs, .int st, .int ck])), (qb, .inr (2, [.ref ab, .int (nI n)])), (ab, .inl (ca 0, cb, .inl f)), (q, .inr (2, [.ref a, .int (nI tn)])), (a, .inl (ca 0, cap, .inl g))] sz) (va_Qi (fun (z : Int32) (u : Unit) => z = bI (rdB r fl ck (lst (twF bw g tn) tn)).2.2 ∧ True) (qB D (va_A [(x, .inr (1, [.ref qb, .ref ql, .int rs, .int st, .int ck])), (qb, .inr (2, [.ref ab, .int (nI n)])), (ab, .inl (ca 0, cb, .inl f)), (q, .inr (2, [.ref a, .int (nI tn)])), (a, .inl (ca 0, cap, .inl g))] sz) (fun u : Unit => [(x, .inr (1, [.ref qb, .ref ql, .int rs, .int st, .int ((rdB r fl ck (lst (twF bw g tn) tn)).2.1)])), (qb, .inr (2, [.ref ab, .int (nI ((rdB r fl ck (lst (twF bw g tn) tn)).1.length))])), (ab, .inl (ca 0, cb, .inl (apF f 0 (rdB r fl ck (lst (twF bw g tn) tn)).1))), (q, .inr (2, [.ref a, .int (nI tn)])), (a, .inl (ca 0, cap, .inl g))])) (va_A [(x, .inr (1, [.ref qb, .ref ql, .int rs, .int st, .int ck])), (qb, .inr (2, [.ref ab, .int (nI n)])), (ab, .inl (ca 0, cb, .inl f)), (q, .inr (2, [.ref a, .int (nI tn)])), (a, .inl (ca 0, cap, .inl g))] sz)) 0 0 (va_A [(x, .inr (1, [.ref qb, .ref ql, .int rs, .int st, .int ck])), (qb, .inr (2, [.ref ab, .int (nI n)])), (ab, .inl (ca 0, cb, .inl f)), (q, .inr (2, [.ref a, .int (nI tn)])), (a, .inl (ca 0, cap, .inl g))] sz) := by
  refine Met.ofW (cc := cX1_readBits) (maxL := 9) (ret := (some .boolean)) (by decide) rfl ?_
  intro p e s m args below meth c s₁ B hml hv
  obtain ⟨rfl, hsz, hP, hK, hD0⟩ := hv
  have hx := B.exec
  have hb := B.bytes
  have hr := B.returns
  have hts := atoms_spec (ws := wsX1_readBits) B.pre
  have hown : s.vm.findClass RX1 = some m.cls := findClass_of_methodNamed B.named
  have hlocks := B.notSynchronized
  subst hsz
  have hD := hD0.self (sz := s.heap.size)
  generalize hAe : va_A [(x, .inr (1, [.ref qb, .ref ql, .int rs, .int st, .int ck])), (qb, .inr (2, [.ref ab, .int (nI n)])), (ab, .inl (ca 0, cb, .inl f)), (q, .inr (2, [.ref a, .int (nI tn)])), (a, .inl (ca 0, cap, .inl g))] s.heap.size = A at hD ⊢
  have hA : ∀ q : Nat, s.heap.size ≤ q → A q := fun q h => by rw [← hAe]; exact Or.inr h
  have hS : va_S A s.heap s.heap [] := va_S.rf
  have hP : va_P D vwCl [(x, .inr (1, [.ref qb, .ref ql, .int rs, .int st, .int ck])), (qb, .inr (2, [.ref ab, .int (nI n)])), (ab, .inl (ca 0, cb, .inl f)), (q, .inr (2, [.ref a, .int (nI tn)])), (a, .inl (ca 0, cap, .inl g))] s.heap := hP
  have hKv := hK.1
  have hl := lv_entry ([.ref x, .ref q, .int (bI bw), .int r, .int fl]) (n := 9) (kk_le rfl)
  rw [lg_entry_eq]
  generalize (lg_sl ([.ref x, .ref q, .int (bI bw), .int r, .int fl]) ++ List.replicate (9 - (lg_sl ([.ref x, .ref q, .int (bI bw), .int r, .int fl])).length) Slot.unset).toArray = ls at hl ⊢
  have hl : lv_has ls 9 [(0, .ref x), (1, .ref q), (2, .int (bI bw)), (3, .int r), (4, .int fl)] := hl
  generalize hQz : MQ below _ _ _ _ _ _ = Qz
  have hiX1 : ∀ w ∈ u_ws RX1 TX1 5, w ∈ wsX1_readBits := fun w h => by first | exact List.mem_cons_of_mem _ (List.mem_append_right _ h) | exact List.mem_cons_of_mem _ (List.mem_append_left _ (List.mem_append_right _ h)) | exact List.mem_cons_of_mem _ (List.mem_append_left _ (List.mem_append_left _ (List.mem_append_right _ h))) | exact List.mem_cons_of_mem _ (List.mem_append_left _ (List.mem_append_left _ (List.mem_append_left _ (List.mem_append_right _ h)))) | (revert w h; decide +kernel)
  have lk14 : (Cond.fieldLink RX1 14 "StripeSwipes$Reading" "bits" "LStripeSwipes$Row;").before _ s = true := hts _ (by decide +kernel)
  have lk30 : (Cond.fieldLink RX1 30 "StripeSwipes$Reading" "clock" "I").before _ s = true := hts _ (by decide +kernel)
  refine lv_aload_n hx hb dX1_readBits_0 rfl (lv_at hl 0 rfl) ?_
  refine va_get (D := D) (ci := 1) (C := RX1) (T := TX1) (N := 5) hx hb hts hiX1 hown hKv hP 0 rfl rfl 0 (by decide) lk14 (fun _ h9 => h9) rfl dX1_readBits_1 ?_
  have hPc := hP.sub (ws' := [(qb, .inr (2, [.ref ab, .int (nI n)])), (ab, .inl (ca 0, cb, .inl f))]) [1, 2] rfl
  have hDc := hD.sub (ws' := [(qb, .inr (2, [.ref ab, .int (nI n)])), (ab, .inl (ca 0, cb, .inl f))]) [1, 2] (by decide) rfl
  have hFc := va_free (wc := [(qb, .inr (2, [.ref ab, .int (nI n)])), (ab, .inl (ca 0, cb, .inl f))]) hD hS hA [1, 2] rfl
  refine va_callv (va_runV (As := []) (rest := []) ⟨hx, hb, hml, hown, hts⟩ (kX2_empty l D ca s.heap.size qb ab cb f n (by first | rfl | assumption | omega | trivial | (exfalso; omega)) (by first | rfl | assumption | omega | trivial | (exfalso; omega))) (cwV 0 hts gX1_readBits_X2_empty rfl rfl rfl (by decide +kernel) ⟨kk_le rfl, kk_le rfl⟩) (pvM hK hPc (my_D_true hDc) (va_recv hKv hP (ci := 2) (q0 := 1) rfl rfl)) rfl rfl hl.1 rfl (lv_room (kk_le rfl)) dX1_readBits_4 ⟨kk_le rfl, kk_le rfl⟩) hS (fun q _ h => hFc q h) hFc (fun u t H1 locs ht hvm hwv hBv hz1 hk1 hS => ?_)
  obtain ⟨hP1, hD1⟩ := hBv
  rw [ht] at hP1
  have hP1 : va_P D vwCl [(qb, .inr (2, [.ref ab, .int (nI 0)])), (ab, .inl (ca 0, cb, .inl f))] H1 := hP1
  have hD1 : va_D _ [(qb, .inr (2, [.ref ab, .int (nI 0)])), (ab, .inl (ca 0, cb, .inl f))] := hD1
  have hw1 := hwv
  obtain ⟨hP, hD⟩ := va_join (wr := [(x, .inr (1, [.ref qb, .ref ql, .int rs, .int st, .int ck])), (q, .inr (2, [.ref a, .int (nI tn)])), (a, .inl (ca 0, cap, .inl g))]) (w1 := [(qb, .inr (2, [.ref ab, .int (nI 0)])), (ab, .inl (ca 0, cb, .inl f))]) hP hD [1, 2] [0, 3, 4] rfl rfl (by decide) (by decide) hk1 hFc hP1 hD1
  generalize H1 = H at hP hS ⊢
  have hP := hP.sub (ws' := [(x, .inr (1, [.ref qb, .ref ql, .int rs, .int st, .int ck])), (qb, .inr (2, [.ref ab, .int (nI 0)])), (ab, .inl (ca 0, cb, .inl f)), (q, .inr (2, [.ref a, .int (nI tn)])), (a, .inl (ca 0, cap, .inl g))]) [0, 3, 4, 1, 2] rfl
  have hD := hD.sub (ws' := [(x, .inr (1, [.ref qb, .ref ql, .int rs, .int st, .int ck])), (qb, .inr (2, [.ref ab, .int (nI 0)])), (ab, .inl (ca 0, cb, .inl f)), (q, .inr (2, [.ref a, .int (nI tn)])), (a, .inl (ca 0, cap, .inl g))]) [0, 3, 4, 1, 2] (by decide) rfl
  refine lv_iconst (v := nI 0) hx hb dX1_readBits_7 (by decide) ?_
  refine lv_istore (lv' := [(5, .int (nI 0)), (0, .ref x), (1, .ref q), (2, .int (bI bw)), (3, .int r), (4, .int fl)]) hx hb dX1_readBits_8 hl (by decide) rfl (fun ls hl => ?_)
  have lp10_2 : ∀ (k1 : Nat) (i : Nat) (B : IL) (cl9 : Int32), tn - i < k1 → (i ≤ tn) → (B.length ≤ i) → (rdB r fl ck (lst (twF bw g tn) tn) = preB B (rdB r fl cl9 ((lst (twF bw g tn) tn).drop i))) → ∀ (H : Heap) (locs : List Loc), va_P D vwCl [(x, .inr (1, [.ref qb, .ref ql, .int rs, .int st, .int cl9])), (qb, .inr (2, [.ref ab, .int (nI B.length)])), (ab, .inl (ca 0, cb, .inl (apF f 0 B))), (q, .inr (2, [.ref a, .int (nI tn)])), (a, .inl (ca 0, cap, .inl g))] H → va_D A [(x, .inr (1, [.ref qb, .ref ql, .int rs, .int st, .int cl9])), (qb, .inr (2, [.ref ab, .int (nI B.length)])), (ab, .inl (ca 0, cb, .inl (apF f 0 B))), (q, .inr (2, [.ref a, .int (nI tn)])), (a, .inl (ca 0, cap, .inl g))] → va_S A s.heap H locs → ∀ (ls : Array Slot), lv_has ls 9 [(5, .int (nI i)), (0, .ref x), (1, .ref q), (2, .int (bI bw)), (3, .int r), (4, .int fl)] → W p l e rm_kX1_readBits s m ([.ref x, .ref q, .int (bI bw), .int r, .int fl] : List Value).toArray below meth c H locs 0 0 Qz (F0 m 10 ls []) := by
    intro k1
    induction k1 with
    | zero => intro i B cl9 hm1; exact absurd hm1 (Nat.not_lt_zero _)
    | succ k1 ih1 =>
      intro i B cl9 hm1 hi hB hR H locs hP hD hS ls hl
      refine lv_iload hx hb dX1_readBits_10 (lv_at hl 0 rfl) ?_
      refine lv_aload_n hx hb dX1_readBits_12 rfl (lv_at hl 2 rfl) ?_
      refine vp_callSi (va_Run.run (va_runV (As := []) (rest := [.int (nI i)]) ⟨hx, hb, hml, hown, hts⟩ (kX2_size l D ca q a cap g tn (by first | rfl | assumption | omega | trivial | (exfalso; omega)) (by first | rfl | assumption | omega | trivial | (exfalso; omega))) (cwV 0 hts gX1_readBits_X2_size rfl rfl rfl (by decide +kernel) ⟨kk_le rfl, kk_le rfl⟩) (pvR hK (hP.sub (ws' := [(q, .inr (2, [.ref a, .int (nI tn)])), (a, .inl (ca 0, cap, .inl g))]) [3, 4] rfl) (va_recv hKv hP (ci := 2) (q0 := 3) rfl rfl)) rfl rfl hl.1 rfl (lv_room (kk_le rfl)) dX1_readBits_13 ⟨kk_le rfl, kk_le rfl⟩)) (fun r4 hr4 => ?_)
      subst hr4
      refine ni_icmp_ge (tgt := 133) (by omega) (by omega) hx hb dX1_readBits_16 (by decide) (fun c5 => ?_) (fun c5 => ?_)
      · have hE : rdB r fl ck (lst (twF bw g tn) tn) = (B, cl9, true) := rb_end hR (by omega)
        refine lv_iconst (v := nI 1) hx hb dX1_readBits_133 (by decide) ?_
        subst hQz
        have e6 : (cl9 : Int32) = (rdB r fl ck (lst (twF bw g tn) tn)).2.1 := by first | rw [hE] | (exfalso; omega)
        have hP : va_P D vwCl [(x, .inr (1, [.ref qb, .ref ql, .int rs, .int st, .int ((rdB r fl ck (lst (twF bw g tn) tn)).2.1)])), (qb, .inr (2, [.ref ab, .int (nI B.length)])), (ab, .inl (ca 0, cb, .inl (apF f 0 B))), (q, .inr (2, [.ref a, .int (nI tn)])), (a, .inl (ca 0, cap, .inl g))] H := Eq.mp (congrArg (fun z9 : Int32 => va_P D vwCl [(x, .inr (1, [.ref qb, .ref ql, .int rs, .int st, .int z9])), (qb, .inr (2, [.ref ab, .int (nI B.length)])), (ab, .inl (ca 0, cb, .inl (apF f 0 B))), (q, .inr (2, [.ref a, .int (nI tn)])), (a, .inl (ca 0, cap, .inl g))] H) e6) hP
        have hD : va_D A [(x, .inr (1, [.ref qb, .ref ql, .int rs, .int st, .int ((rdB r fl ck (lst (twF bw g tn) tn)).2.1)])), (qb, .inr (2, [.ref ab, .int (nI B.length)])), (ab, .inl (ca 0, cb, .inl (apF f 0 B))), (q, .inr (2, [.ref a, .int (nI tn)])), (a, .inl (ca 0, cap, .inl g))] := Eq.mp (congrArg (fun z9 : Int32 => va_D A [(x, .inr (1, [.ref qb, .ref ql, .int rs, .int st, .int z9])), (qb, .inr (2, [.ref ab, .int (nI B.length)])), (ab, .inl (ca 0, cb, .inl (apF f 0 B))), (q, .inr (2, [.ref a, .int (nI tn)])), (a, .inl (ca 0, cap, .inl g))]) e6) hD
        have e7 : (nI B.length : Int32) = nI ((rdB r fl ck (lst (twF bw g tn) tn)).1.length) := by first | rw [hE] | (exfalso; omega)
        have hP : va_P D vwCl [(x, .inr (1, [.ref qb, .ref ql, .int rs, .int st, .int ((rdB r fl ck (lst (twF bw g tn) tn)).2.1)])), (qb, .inr (2, [.ref ab, .int (nI ((rdB r fl ck (lst (twF bw g tn) tn)).1.length))])), (ab, .inl (ca 0, cb, .inl (apF f 0 B))), (q, .inr (2, [.ref a, .int (nI tn)])), (a, .inl (ca 0, cap, .inl g))] H := Eq.mp (congrArg (fun z9 : Int32 => va_P D vwCl [(x, .inr (1, [.ref qb, .ref ql, .int rs, .int st, .int ((rdB r fl ck (lst (twF bw g tn) tn)).2.1)])), (qb, .inr (2, [.ref ab, .int z9])), (ab, .inl (ca 0, cb, .inl (apF f 0 B))), (q, .inr (2, [.ref a, .int (nI tn)])), (a, .inl (ca 0, cap, .inl g))] H) e7) hP
        have hD : va_D A [(x, .inr (1, [.ref qb, .ref ql, .int rs, .int st, .int ((rdB r fl ck (lst (twF bw g tn) tn)).2.1)])), (qb, .inr (2, [.ref ab, .int (nI ((rdB r fl ck (lst (twF bw g tn) tn)).1.length))])), (ab, .inl (ca 0, cb, .inl (apF f 0 B))), (q, .inr (2, [.ref a, .int (nI tn)])), (a, .inl (ca 0, cap, .inl g))] := Eq.mp (congrArg (fun z9 : Int32 => va_D A [(x, .inr (1, [.ref qb, .ref ql, .int rs, .int st, .int ((rdB r fl ck (lst (twF bw g tn) tn)).2.1)])), (qb, .inr (2, [.ref ab, .int z9])), (ab, .inl (ca 0, cb, .inl (apF f 0 B))), (q, .inr (2, [.ref a, .int (nI tn)])), (a, .inl (ca 0, cap, .inl g))]) e7) hD
        have e8 : (apF f 0 B : Nat → Int32) = apF f 0 (rdB r fl ck (lst (twF bw g tn) tn)).1 := by first | rw [hE] | (exfalso; omega)
        have hP : va_P D vwCl [(x, .inr (1, [.ref qb, .ref ql, .int rs, .int st, .int ((rdB r fl ck (lst (twF bw g tn) tn)).2.1)])), (qb, .inr (2, [.ref ab, .int (nI ((rdB r fl ck (lst (twF bw g tn) tn)).1.length))])), (ab, .inl (ca 0, cb, .inl (apF f 0 (rdB r fl ck (lst (twF bw g tn) tn)).1))), (q, .inr (2, [.ref a, .int (nI tn)])), (a, .inl (ca 0, cap, .inl g))] H := Eq.mp (congrArg (fun z9 : Nat → Int32 => va_P D vwCl [(x, .inr (1, [.ref qb, .ref ql, .int rs, .int st, .int ((rdB r fl ck (lst (twF bw g tn) tn)).2.1)])), (qb, .inr (2, [.ref ab, .int (nI ((rdB r fl ck (lst (twF bw g tn) tn)).1.length))])), (ab, .inl (ca 0, cb, .inl z9)), (q, .inr (2, [.ref a, .int (nI tn)])), (a, .inl (ca 0, cap, .inl g))] H) e8) hP
        have hD : va_D A [(x, .inr (1, [.ref qb, .ref ql, .int rs, .int st, .int ((rdB r fl ck (lst (twF bw g tn) tn)).2.1)])), (qb, .inr (2, [.ref ab, .int (nI ((rdB r fl ck (lst (twF bw g tn) tn)).1.length))])), (ab, .inl (ca 0, cb, .inl (apF f 0 (rdB r fl ck (lst (twF bw g tn) tn)).1))), (q, .inr (2, [.ref a, .int (nI tn)])), (a, .inl (ca 0, cap, .inl g))] := Eq.mp (congrArg (fun z9 : Nat → Int32 => va_D A [(x, .inr (1, [.ref qb, .ref ql, .int rs, .int st, .int ((rdB r fl ck (lst (twF bw g tn) tn)).2.1)])), (qb, .inr (2, [.ref ab, .int (nI ((rdB r fl ck (lst (twF bw g tn) tn)).1.length))])), (ab, .inl (ca 0, cb, .inl z9)), (q, .inr (2, [.ref a, .int (nI tn)])), (a, .inl (ca 0, cap, .inl g))]) e8) hD
        exact W.zret (v := nI 1) hx hb hr (by first | rfl | exact bI_nar _ | exact bI_fit _ | (first | exact Or.inl rfl | exact Or.inr rfl)) (fun t ht hW => ⟨⟨_, (), rfl, ⟨by (rw [hE]; rfl), by trivial⟩, by rw [ht]; exact hP, hD⟩, hS.F ht⟩) hS.2.2 dX1_readBits_134
      · refine lv_aload_n hx hb dX1_readBits_19 rfl (lv_at hl 1 rfl) ?_
        refine va_get (D := D) (ci := 1) (C := RX1) (T := TX1) (N := 5) hx hb hts hiX1 hown hKv hP 0 rfl rfl 4 (by decide) lk30 (fun _ h9 => h9) rfl dX1_readBits_20 ?_
        refine lv_iload_n hx hb dX1_readBits_23 rfl (lv_at hl 4 rfl) ?_
        refine lv_imul hx hb dX1_readBits_24 ?_
        refine lv_bipush (v := nI 100) hx hb dX1_readBits_25 (by decide) ?_
        refine lv_idiv hx hb dX1_readBits_27 (by first | decide | assumption | exact nI_ne0 (by omega) (by omega)) ?_
        refine lv_istore (lv' := [(6, .int ((cl9 * r) / (nI 100))), (5, .int (nI i)), (0, .ref x), (1, .ref q), (2, .int (bI bw)), (3, .int r), (4, .int fl)]) hx hb dX1_readBits_28 hl (by decide) rfl (fun ls hl => ?_)
        refine lv_aload_n hx hb dX1_readBits_30 rfl (lv_at hl 3 rfl) ?_
        refine lv_iload_n hx hb dX1_readBits_31 rfl (lv_at hl 4 rfl) ?_
        refine lv_iload hx hb dX1_readBits_32 (lv_at hl 1 rfl) ?_
        refine vp_callSi (va_Run.run (va_runS (As := [.ref q, .int (bI bw), .int (nI i)]) (rest := []) ⟨hx, hb, hml, hown, hts⟩ (kX1_timeOnTheWay l D ca q a cap g tn bw i (by first | rfl | assumption | omega | trivial | (exfalso; omega)) (by first | rfl | assumption | omega | trivial | (exfalso; omega)) (by first | rfl | assumption | omega | trivial | (exfalso; omega))) (va_cwS 3 hts gX1_readBits_X1_timeOnTheWay rfl rfl rfl (by decide +kernel) ⟨kk_le rfl, kk_le rfl⟩) (psR hK (hP.sub (ws' := [(q, .inr (2, [.ref a, .int (nI tn)])), (a, .inl (ca 0, cap, .inl g))]) [3, 4] rfl)) rfl rfl hl.1 rfl (lv_room (kk_le rfl)) dX1_readBits_34 ⟨kk_le rfl, kk_le rfl⟩)) (fun r9 hr9 => ?_)
        subst hr9
        refine lv_istore (lv' := [(7, .int (twF bw g tn i)), (6, .int ((cl9 * r) / (nI 100))), (5, .int (nI i)), (0, .ref x), (1, .ref q), (2, .int (bI bw)), (3, .int r), (4, .int fl)]) hx hb dX1_readBits_37 hl (by decide) rfl (fun ls hl => ?_)
        refine lv_iinc (v := nI (i + 1)) (lv' := [(5, .int (nI (i + 1))), (7, .int (twF bw g tn i)), (6, .int ((cl9 * r) / (nI 100))), (0, .ref x), (1, .ref q), (2, .int (bI bw)), (3, .int r), (4, .int fl)]) hx hb dX1_readBits_39 hl (k := 2) rfl (ni_inc _ _ (by decide)) (by decide) rfl (fun ls hl => ?_)
        refine lv_iload hx hb dX1_readBits_42 (lv_at hl 1 rfl) ?_
        refine lv_iload hx hb dX1_readBits_44 (lv_at hl 2 rfl) ?_
        refine lv_icmp_lt (tgt := 61) hx hb dX1_readBits_46 (by decide) (fun c10 => ?_) (fun c10 => ?_)
        · refine lv_aload_n hx hb dX1_readBits_61 rfl (lv_at hl 4 rfl) ?_
          refine lv_iload_n hx hb dX1_readBits_62 rfl (lv_at hl 5 rfl) ?_
          refine lv_iload hx hb dX1_readBits_63 (lv_at hl 0 rfl) ?_
          rcases Nat.lt_or_ge (i + 1) tn with h | h
          · have hlt : i + 1 < tn := h
            refine vp_callSi (va_Run.run (va_runS (As := [.ref q, .int (bI bw), .int (nI (i + 1))]) (rest := []) ⟨hx, hb, hml, hown, hts⟩ (kX1_timeOnTheWay l D ca q a cap g tn bw (i + 1) (by first | rfl | assumption | omega | trivial | (exfalso; omega)) (by first | rfl | assumption | omega | trivial | (exfalso; omega)) (by first | rfl | assumption | omega | trivial | (exfalso; omega))) (va_cwS 3 hts gX1_readBits_X1_timeOnTheWay rfl rfl rfl (by decide +kernel) ⟨kk_le rfl, kk_le rfl⟩) (psR hK (hP.sub (ws' := [(q, .inr (2, [.ref a, .int (nI tn)])), (a, .inl (ca 0, cap, .inl g))]) [3, 4] rfl)) rfl rfl hl.1 rfl (lv_room (kk_le rfl)) dX1_readBits_65 ⟨kk_le rfl, kk_le rfl⟩)) (fun r11 hr11 => ?_)
            subst hr11
            refine lv_istore (lv' := [(8, .int (twF bw g tn (i + 1))), (5, .int (nI (i + 1))), (7, .int (twF bw g tn i)), (6, .int ((cl9 * r) / (nI 100))), (0, .ref x), (1, .ref q), (2, .int (bI bw)), (3, .int r), (4, .int fl)]) hx hb dX1_readBits_68 hl (by decide) rfl (fun ls hl => ?_)
            refine lv_iload hx hb dX1_readBits_70 (lv_at hl 1 rfl) ?_
            refine lv_aload_n hx hb dX1_readBits_72 rfl (lv_at hl 5 rfl) ?_
            refine vp_callSi (va_Run.run (va_runV (As := []) (rest := [.int (nI (i + 1))]) ⟨hx, hb, hml, hown, hts⟩ (kX2_size l D ca q a cap g tn (by first | rfl | assumption | omega | trivial | (exfalso; omega)) (by first | rfl | assumption | omega | trivial | (exfalso; omega))) (cwV 0 hts gX1_readBits_X2_size rfl rfl rfl (by decide +kernel) ⟨kk_le rfl, kk_le rfl⟩) (pvR hK (hP.sub (ws' := [(q, .inr (2, [.ref a, .int (nI tn)])), (a, .inl (ca 0, cap, .inl g))]) [3, 4] rfl) (va_recv hKv hP (ci := 2) (q0 := 3) rfl rfl)) rfl rfl hl.1 rfl (lv_room (kk_le rfl)) dX1_readBits_73 ⟨kk_le rfl, kk_le rfl⟩)) (fun r12 hr12 => ?_)
            subst hr12
            refine ni_icmp_ge (tgt := 86) (by omega) (by omega) hx hb dX1_readBits_76 (by decide) (fun c13 => ?_) (fun c13 => ?_)
            · have hE : rdB r fl ck (lst (twF bw g tn) tn) = (B, cl9, false) := by first | exact rb_br1 hR (by omega) (by assumption) (by assumption) | exact rb_br0 hR (by omega) (by omega) (by assumption) | (exfalso; omega)
              refine lv_iconst (v := nI 0) hx hb dX1_readBits_86 (by decide) ?_
              subst hQz
              have e14 : (cl9 : Int32) = (rdB r fl ck (lst (twF bw g tn) tn)).2.1 := by first | rw [hE] | (exfalso; omega)
              have hP : va_P D vwCl [(x, .inr (1, [.ref qb, .ref ql, .int rs, .int st, .int ((rdB r fl ck (lst (twF bw g tn) tn)).2.1)])), (qb, .inr (2, [.ref ab, .int (nI B.length)])), (ab, .inl (ca 0, cb, .inl (apF f 0 B))), (q, .inr (2, [.ref a, .int (nI tn)])), (a, .inl (ca 0, cap, .inl g))] H := Eq.mp (congrArg (fun z9 : Int32 => va_P D vwCl [(x, .inr (1, [.ref qb, .ref ql, .int rs, .int st, .int z9])), (qb, .inr (2, [.ref ab, .int (nI B.length)])), (ab, .inl (ca 0, cb, .inl (apF f 0 B))), (q, .inr (2, [.ref a, .int (nI tn)])), (a, .inl (ca 0, cap, .inl g))] H) e14) hP
              have hD : va_D A [(x, .inr (1, [.ref qb, .ref ql, .int rs, .int st, .int ((rdB r fl ck (lst (twF bw g tn) tn)).2.1)])), (qb, .inr (2, [.ref ab, .int (nI B.length)])), (ab, .inl (ca 0, cb, .inl (apF f 0 B))), (q, .inr (2, [.ref a, .int (nI tn)])), (a, .inl (ca 0, cap, .inl g))] := Eq.mp (congrArg (fun z9 : Int32 => va_D A [(x, .inr (1, [.ref qb, .ref ql, .int rs, .int st, .int z9])), (qb, .inr (2, [.ref ab, .int (nI B.length)])), (ab, .inl (ca 0, cb, .inl (apF f 0 B))), (q, .inr (2, [.ref a, .int (nI tn)])), (a, .inl (ca 0, cap, .inl g))]) e14) hD
              have e15 : (nI B.length : Int32) = nI ((rdB r fl ck (lst (twF bw g tn) tn)).1.length) := by first | rw [hE] | (exfalso; omega)
              have hP : va_P D vwCl [(x, .inr (1, [.ref qb, .ref ql, .int rs, .int st, .int ((rdB r fl ck (lst (twF bw g tn) tn)).2.1)])), (qb, .inr (2, [.ref ab, .int (nI ((rdB r fl ck (lst (twF bw g tn) tn)).1.length))])), (ab, .inl (ca 0, cb, .inl (apF f 0 B))), (q, .inr (2, [.ref a, .int (nI tn)])), (a, .inl (ca 0, cap, .inl g))] H := Eq.mp (congrArg (fun z9 : Int32 => va_P D vwCl [(x, .inr (1, [.ref qb, .ref ql, .int rs, .int st, .int ((rdB r fl ck (lst (twF bw g tn) tn)).2.1)])), (qb, .inr (2, [.ref ab, .int z9])), (ab, .inl (ca 0, cb, .inl (apF f 0 B))), (q, .inr (2, [.ref a, .int (nI tn)])), (a, .inl (ca 0, cap, .inl g))] H) e15) hP
              have hD : va_D A [(x, .inr (1, [.ref qb, .ref ql, .int rs, .int st, .int ((rdB r fl ck (lst (twF bw g tn) tn)).2.1)])), (qb, .inr (2, [.ref ab, .int (nI ((rdB r fl ck (lst (twF bw g tn) tn)).1.length))])), (ab, .inl (ca 0, cb, .inl (apF f 0 B))), (q, .inr (2, [.ref a, .int (nI tn)])), (a, .inl (ca 0, cap, .inl g))] := Eq.mp (congrArg (fun z9 : Int32 => va_D A [(x, .inr (1, [.ref qb, .ref ql, .int rs, .int st, .int ((rdB r fl ck (lst (twF bw g tn) tn)).2.1)])), (qb, .inr (2, [.ref ab, .int z9])), (ab, .inl (ca 0, cb, .inl (apF f 0 B))), (q, .inr (2, [.ref a, .int (nI tn)])), (a, .inl (ca 0, cap, .inl g))]) e15) hD
              have e16 : (apF f 0 B : Nat → Int32) = apF f 0 (rdB r fl ck (lst (twF bw g tn) tn)).1 := by first | rw [hE] | (exfalso; omega)
              have hP : va_P D vwCl [(x, .inr (1, [.ref qb, .ref ql, .int rs, .int st, .int ((rdB r fl ck (lst (twF bw g tn) tn)).2.1)])), (qb, .inr (2, [.ref ab, .int (nI ((rdB r fl ck (lst (twF bw g tn) tn)).1.length))])), (ab, .inl (ca 0, cb, .inl (apF f 0 (rdB r fl ck (lst (twF bw g tn) tn)).1))), (q, .inr (2, [.ref a, .int (nI tn)])), (a, .inl (ca 0, cap, .inl g))] H := Eq.mp (congrArg (fun z9 : Nat → Int32 => va_P D vwCl [(x, .inr (1, [.ref qb, .ref ql, .int rs, .int st, .int ((rdB r fl ck (lst (twF bw g tn) tn)).2.1)])), (qb, .inr (2, [.ref ab, .int (nI ((rdB r fl ck (lst (twF bw g tn) tn)).1.length))])), (ab, .inl (ca 0, cb, .inl z9)), (q, .inr (2, [.ref a, .int (nI tn)])), (a, .inl (ca 0, cap, .inl g))] H) e16) hP
              have hD : va_D A [(x, .inr (1, [.ref qb, .ref ql, .int rs, .int st, .int ((rdB r fl ck (lst (twF bw g tn) tn)).2.1)])), (qb, .inr (2, [.ref ab, .int (nI ((rdB r fl ck (lst (twF bw g tn) tn)).1.length))])), (ab, .inl (ca 0, cb, .inl (apF f 0 (rdB r fl ck (lst (twF bw g tn) tn)).1))), (q, .inr (2, [.ref a, .int (nI tn)])), (a, .inl (ca 0, cap, .inl g))] := Eq.mp (congrArg (fun z9 : Nat → Int32 => va_D A [(x, .inr (1, [.ref qb, .ref ql, .int rs, .int st, .int ((rdB r fl ck (lst (twF bw g tn) tn)).2.1)])), (qb, .inr (2, [.ref ab, .int (nI ((rdB r fl ck (lst (twF bw g tn) tn)).1.length))])), (ab, .inl (ca 0, cb, .inl z9)), (q, .inr (2, [.ref a, .int (nI tn)])), (a, .inl (ca 0, cap, .inl g))]) e16) hD
              exact W.zret (v := nI 0) hx hb hr (by first | rfl | exact bI_nar _ | exact bI_fit _ | (first | exact Or.inl rfl | exact Or.inr rfl)) (fun t ht hW => ⟨⟨_, (), rfl, ⟨by (rw [hE]; rfl), by trivial⟩, by rw [ht]; exact hP, hD⟩, hS.F ht⟩) hS.2.2 dX1_readBits_87
            · refine lv_iload hx hb dX1_readBits_79 (lv_at hl 0 rfl) ?_
              refine lv_iload hx hb dX1_readBits_81 (lv_at hl 3 rfl) ?_
              refine lv_icmp_lt (tgt := 88) hx hb dX1_readBits_83 (by decide) (fun c17 => ?_) (fun c17 => ?_)
              · refine lv_iinc (v := nI (i + 1 + 1)) (lv' := [(5, .int (nI (i + 1 + 1))), (8, .int (twF bw g tn (i + 1))), (7, .int (twF bw g tn i)), (6, .int ((cl9 * r) / (nI 100))), (0, .ref x), (1, .ref q), (2, .int (bI bw)), (3, .int r), (4, .int fl)]) hx hb dX1_readBits_88 hl (k := 1) rfl (ni_inc _ _ (by decide)) (by decide) rfl (fun ls hl => ?_)
                refine lv_iload hx hb dX1_readBits_91 (lv_at hl 2 rfl) ?_
                refine lv_iload hx hb dX1_readBits_93 (lv_at hl 1 rfl) ?_
                refine lv_iadd hx hb dX1_readBits_95 ?_
                refine lv_istore (lv' := [(7, .int ((twF bw g tn i) + (twF bw g tn (i + 1)))), (5, .int (nI (i + 1 + 1))), (8, .int (twF bw g tn (i + 1))), (6, .int ((cl9 * r) / (nI 100))), (0, .ref x), (1, .ref q), (2, .int (bI bw)), (3, .int r), (4, .int fl)]) hx hb dX1_readBits_96 hl (by decide) rfl (fun ls hl => ?_)
                refine lv_aload_n hx hb dX1_readBits_98 rfl (lv_at hl 4 rfl) ?_
                refine va_get (D := D) (ci := 1) (C := RX1) (T := TX1) (N := 5) hx hb hts hiX1 hown hKv hP 0 rfl rfl 0 (by decide) lk14 (fun _ h9 => h9) rfl dX1_readBits_99 ?_
                refine lv_iconst (v := nI 1) hx hb dX1_readBits_102 (by decide) ?_
                have hPc := hP.sub (ws' := [(qb, .inr (2, [.ref ab, .int (nI B.length)])), (ab, .inl (ca 0, cb, .inl (apF f 0 B)))]) [1, 2] rfl
                have hDc := hD.sub (ws' := [(qb, .inr (2, [.ref ab, .int (nI B.length)])), (ab, .inl (ca 0, cb, .inl (apF f 0 B)))]) [1, 2] (by decide) rfl
                have hFc := va_free (wc := [(qb, .inr (2, [.ref ab, .int (nI B.length)])), (ab, .inl (ca 0, cb, .inl (apF f 0 B)))]) hD hS hA [1, 2] rfl
                refine va_calli (va_runV (As := [.int (nI 1)]) (rest := []) ⟨hx, hb, hml, hown, hts⟩ (kX2_add l D ca H.size qb ab cb (apF f 0 B) B.length (nI 1) (by first | rfl | assumption | omega | trivial | (exfalso; omega)) (by first | rfl | assumption | omega | trivial | (exfalso; omega))) (cwV 1 hts gX1_readBits_X2_add rfl rfl rfl (by decide +kernel) ⟨kk_le rfl, kk_le rfl⟩) (pvM hK hPc (my_D_true hDc) (va_recv hKv hP (ci := 2) (q0 := 1) rfl rfl)) rfl rfl hl.1 rfl (lv_room (kk_le rfl)) dX1_readBits_103 ⟨kk_le rfl, kk_le rfl⟩) hS (fun q _ h => hFc q h) hFc (fun r18 u t H1 locs ht hvm hwv hBv hz1 hk1 hS => ?_)
                obtain ⟨hP1, hD1⟩ := hBv
                rw [ht] at hP1
                have hP1 : va_P D vwCl [(qb, .inr (2, [.ref ab, .int (nI (B.length + 1))])), (ab, .inl (ca 0, cb, .inl (upd (apF f 0 B) B.length (nI 1))))] H1 := hP1
                have hD1 : va_D _ [(qb, .inr (2, [.ref ab, .int (nI (B.length + 1))])), (ab, .inl (ca 0, cb, .inl (upd (apF f 0 B) B.length (nI 1))))] := hD1
                obtain ⟨hr18, hw18⟩ := hwv
                subst hr18
                obtain ⟨hP, hD⟩ := va_join (wr := [(x, .inr (1, [.ref qb, .ref ql, .int rs, .int st, .int cl9])), (q, .inr (2, [.ref a, .int (nI tn)])), (a, .inl (ca 0, cap, .inl g))]) (w1 := [(qb, .inr (2, [.ref ab, .int (nI (B.length + 1))])), (ab, .inl (ca 0, cb, .inl (upd (apF f 0 B) B.length (nI 1))))]) hP hD [1, 2] [0, 3, 4] rfl rfl (by decide) (by decide) hk1 hFc hP1 hD1
                generalize H1 = H at hP hS ⊢
                have hP := hP.sub (ws' := [(x, .inr (1, [.ref qb, .ref ql, .int rs, .int st, .int cl9])), (qb, .inr (2, [.ref ab, .int (nI (B.length + 1))])), (ab, .inl (ca 0, cb, .inl (upd (apF f 0 B) B.length (nI 1)))), (q, .inr (2, [.ref a, .int (nI tn)])), (a, .inl (ca 0, cap, .inl g))]) [0, 3, 4, 1, 2] rfl
                have hD := hD.sub (ws' := [(x, .inr (1, [.ref qb, .ref ql, .int rs, .int st, .int cl9])), (qb, .inr (2, [.ref ab, .int (nI (B.length + 1))])), (ab, .inl (ca 0, cb, .inl (upd (apF f 0 B) B.length (nI 1)))), (q, .inr (2, [.ref a, .int (nI tn)])), (a, .inl (ca 0, cap, .inl g))]) [0, 3, 4, 1, 2] (by decide) rfl
                refine lv_pop hx hb dX1_readBits_106 rfl ?_
                refine lv_aload_n hx hb dX1_readBits_107 rfl (lv_at hl 4 rfl) ?_
                refine lv_aload_n hx hb dX1_readBits_108 rfl (lv_at hl 4 rfl) ?_
                refine va_get (D := D) (ci := 1) (C := RX1) (T := TX1) (N := 5) hx hb hts hiX1 hown hKv hP 0 rfl rfl 4 (by decide) lk30 (fun _ h9 => h9) rfl dX1_readBits_109 ?_
                refine lv_bipush (v := nI 100) hx hb dX1_readBits_112 (by decide) ?_
                refine lv_iload hx hb dX1_readBits_114 (lv_at hl 8 rfl) ?_
                refine lv_isub hx hb dX1_readBits_116 ?_
                refine lv_imul hx hb dX1_readBits_117 ?_
                refine lv_iload hx hb dX1_readBits_118 (lv_at hl 0 rfl) ?_
                refine lv_iload hx hb dX1_readBits_120 (lv_at hl 8 rfl) ?_
                refine lv_imul hx hb dX1_readBits_122 ?_
                refine lv_iadd hx hb dX1_readBits_123 ?_
                refine lv_bipush (v := nI 100) hx hb dX1_readBits_124 (by decide) ?_
                refine lv_idiv hx hb dX1_readBits_126 (by first | decide | assumption | exact nI_ne0 (by omega) (by omega)) ?_
                refine va_put (D := D) (ci := 1) (v := .int (((cl9 * ((nI 100) - fl)) + (((twF bw g tn i) + (twF bw g tn (i + 1))) * fl)) / (nI 100))) (ty := .int) (C := RX1) (T := TX1) (N := 5) hx hb hts hiX1 tyX1 tyX1_ok nmX1 hown hKv hP hD hS 0 rfl rfl 4 (by decide) lk30 (fun _ h9 => h9) rfl (by decide +kernel) rfl rfl (kk_le rfl) dX1_readBits_127 (fun H locs hP hD hS => ?_)
                have hP : va_P D vwCl [(x, .inr (1, [.ref qb, .ref ql, .int rs, .int st, .int (((cl9 * ((nI 100) - fl)) + (((twF bw g tn i) + (twF bw g tn (i + 1))) * fl)) / (nI 100))])), (qb, .inr (2, [.ref ab, .int (nI (B.length + 1))])), (ab, .inl (ca 0, cb, .inl (upd (apF f 0 B) B.length (nI 1)))), (q, .inr (2, [.ref a, .int (nI tn)])), (a, .inl (ca 0, cap, .inl g))] H := hP
                have hD : va_D A [(x, .inr (1, [.ref qb, .ref ql, .int rs, .int st, .int (((cl9 * ((nI 100) - fl)) + (((twF bw g tn i) + (twF bw g tn (i + 1))) * fl)) / (nI 100))])), (qb, .inr (2, [.ref ab, .int (nI (B.length + 1))])), (ab, .inl (ca 0, cb, .inl (upd (apF f 0 B) B.length (nI 1)))), (q, .inr (2, [.ref a, .int (nI tn)])), (a, .inl (ca 0, cap, .inl g))] := hD
                refine lv_goto (tgt := 10) hx hb dX1_readBits_130 (by decide) ?_
                have e20 : (nI (B.length + 1) : Int32) = nI ((B ++ [nI 1]).length) := by first | exact apB f B _ | exact apBn B _
                have hP : va_P D vwCl [(x, .inr (1, [.ref qb, .ref ql, .int rs, .int st, .int (((cl9 * ((nI 100) - fl)) + (((twF bw g tn i) + (twF bw g tn (i + 1))) * fl)) / (nI 100))])), (qb, .inr (2, [.ref ab, .int (nI ((B ++ [nI 1]).length))])), (ab, .inl (ca 0, cb, .inl (upd (apF f 0 B) B.length (nI 1)))), (q, .inr (2, [.ref a, .int (nI tn)])), (a, .inl (ca 0, cap, .inl g))] H := Eq.mp (congrArg (fun z9 : Int32 => va_P D vwCl [(x, .inr (1, [.ref qb, .ref ql, .int rs, .int st, .int (((cl9 * ((nI 100) - fl)) + (((twF bw g tn i) + (twF bw g tn (i + 1))) * fl)) / (nI 100))])), (qb, .inr (2, [.ref ab, .int z9])), (ab, .inl (ca 0, cb, .inl (upd (apF f 0 B) B.length (nI 1)))), (q, .inr (2, [.ref a, .int (nI tn)])), (a, .inl (ca 0, cap, .inl g))] H) e20) hP
                have hD : va_D A [(x, .inr (1, [.ref qb, .ref ql, .int rs, .int st, .int (((cl9 * ((nI 100) - fl)) + (((twF bw g tn i) + (twF bw g tn (i + 1))) * fl)) / (nI 100))])), (qb, .inr (2, [.ref ab, .int (nI ((B ++ [nI 1]).length))])), (ab, .inl (ca 0, cb, .inl (upd (apF f 0 B) B.length (nI 1)))), (q, .inr (2, [.ref a, .int (nI tn)])), (a, .inl (ca 0, cap, .inl g))] := Eq.mp (congrArg (fun z9 : Int32 => va_D A [(x, .inr (1, [.ref qb, .ref ql, .int rs, .int st, .int (((cl9 * ((nI 100) - fl)) + (((twF bw g tn i) + (twF bw g tn (i + 1))) * fl)) / (nI 100))])), (qb, .inr (2, [.ref ab, .int z9])), (ab, .inl (ca 0, cb, .inl (upd (apF f 0 B) B.length (nI 1)))), (q, .inr (2, [.ref a, .int (nI tn)])), (a, .inl (ca 0, cap, .inl g))]) e20) hD
                have e21 : (upd (apF f 0 B) B.length (nI 1) : Nat → Int32) = apF f 0 (B ++ [nI 1]) := by first | exact apB f B _ | exact apBn B _
                have hP : va_P D vwCl [(x, .inr (1, [.ref qb, .ref ql, .int rs, .int st, .int (((cl9 * ((nI 100) - fl)) + (((twF bw g tn i) + (twF bw g tn (i + 1))) * fl)) / (nI 100))])), (qb, .inr (2, [.ref ab, .int (nI ((B ++ [nI 1]).length))])), (ab, .inl (ca 0, cb, .inl (apF f 0 (B ++ [nI 1])))), (q, .inr (2, [.ref a, .int (nI tn)])), (a, .inl (ca 0, cap, .inl g))] H := Eq.mp (congrArg (fun z9 : Nat → Int32 => va_P D vwCl [(x, .inr (1, [.ref qb, .ref ql, .int rs, .int st, .int (((cl9 * ((nI 100) - fl)) + (((twF bw g tn i) + (twF bw g tn (i + 1))) * fl)) / (nI 100))])), (qb, .inr (2, [.ref ab, .int (nI ((B ++ [nI 1]).length))])), (ab, .inl (ca 0, cb, .inl z9)), (q, .inr (2, [.ref a, .int (nI tn)])), (a, .inl (ca 0, cap, .inl g))] H) e21) hP
                have hD : va_D A [(x, .inr (1, [.ref qb, .ref ql, .int rs, .int st, .int (((cl9 * ((nI 100) - fl)) + (((twF bw g tn i) + (twF bw g tn (i + 1))) * fl)) / (nI 100))])), (qb, .inr (2, [.ref ab, .int (nI ((B ++ [nI 1]).length))])), (ab, .inl (ca 0, cb, .inl (apF f 0 (B ++ [nI 1])))), (q, .inr (2, [.ref a, .int (nI tn)])), (a, .inl (ca 0, cap, .inl g))] := Eq.mp (congrArg (fun z9 : Nat → Int32 => va_D A [(x, .inr (1, [.ref qb, .ref ql, .int rs, .int st, .int (((cl9 * ((nI 100) - fl)) + (((twF bw g tn i) + (twF bw g tn (i + 1))) * fl)) / (nI 100))])), (qb, .inr (2, [.ref ab, .int (nI ((B ++ [nI 1]).length))])), (ab, .inl (ca 0, cb, .inl z9)), (q, .inr (2, [.ref a, .int (nI tn)])), (a, .inl (ca 0, cap, .inl g))]) e21) hD
                exact ih1 (i + 1 + 1) (B ++ [nI 1]) (((cl9 * ((nI 100) - fl)) + (((twF bw g tn i) + (twF bw g tn (i + 1))) * fl)) / (nI 100)) (by omega) (by omega) (by rw [List.length_append]; simp only [List.length_cons, List.length_nil]; omega) (by first | (exfalso; omega) | exact rb_long hR (by omega) (by assumption) | exact rb_two hR (by omega) (by assumption) (by assumption)) _ _ hP hD hS ls (lv_sub hl [1, 4, 5, 6, 7, 8] rfl)
              · have hE : rdB r fl ck (lst (twF bw g tn) tn) = (B, cl9, false) := by first | exact rb_br1 hR (by omega) (by assumption) (by assumption) | exact rb_br0 hR (by omega) (by omega) (by assumption) | (exfalso; omega)
                refine lv_iconst (v := nI 0) hx hb dX1_readBits_86 (by decide) ?_
                subst hQz
                have e22 : (cl9 : Int32) = (rdB r fl ck (lst (twF bw g tn) tn)).2.1 := by first | rw [hE] | (exfalso; omega)
                have hP : va_P D vwCl [(x, .inr (1, [.ref qb, .ref ql, .int rs, .int st, .int ((rdB r fl ck (lst (twF bw g tn) tn)).2.1)])), (qb, .inr (2, [.ref ab, .int (nI B.length)])), (ab, .inl (ca 0, cb, .inl (apF f 0 B))), (q, .inr (2, [.ref a, .int (nI tn)])), (a, .inl (ca 0, cap, .inl g))] H := Eq.mp (congrArg (fun z9 : Int32 => va_P D vwCl [(x, .inr (1, [.ref qb, .ref ql, .int rs, .int st, .int z9])), (qb, .inr (2, [.ref ab, .int (nI B.length)])), (ab, .inl (ca 0, cb, .inl (apF f 0 B))), (q, .inr (2, [.ref a, .int (nI tn)])), (a, .inl (ca 0, cap, .inl g))] H) e22) hP
                have hD : va_D A [(x, .inr (1, [.ref qb, .ref ql, .int rs, .int st, .int ((rdB r fl ck (lst (twF bw g tn) tn)).2.1)])), (qb, .inr (2, [.ref ab, .int (nI B.length)])), (ab, .inl (ca 0, cb, .inl (apF f 0 B))), (q, .inr (2, [.ref a, .int (nI tn)])), (a, .inl (ca 0, cap, .inl g))] := Eq.mp (congrArg (fun z9 : Int32 => va_D A [(x, .inr (1, [.ref qb, .ref ql, .int rs, .int st, .int z9])), (qb, .inr (2, [.ref ab, .int (nI B.length)])), (ab, .inl (ca 0, cb, .inl (apF f 0 B))), (q, .inr (2, [.ref a, .int (nI tn)])), (a, .inl (ca 0, cap, .inl g))]) e22) hD
                have e23 : (nI B.length : Int32) = nI ((rdB r fl ck (lst (twF bw g tn) tn)).1.length) := by first | rw [hE] | (exfalso; omega)
                have hP : va_P D vwCl [(x, .inr (1, [.ref qb, .ref ql, .int rs, .int st, .int ((rdB r fl ck (lst (twF bw g tn) tn)).2.1)])), (qb, .inr (2, [.ref ab, .int (nI ((rdB r fl ck (lst (twF bw g tn) tn)).1.length))])), (ab, .inl (ca 0, cb, .inl (apF f 0 B))), (q, .inr (2, [.ref a, .int (nI tn)])), (a, .inl (ca 0, cap, .inl g))] H := Eq.mp (congrArg (fun z9 : Int32 => va_P D vwCl [(x, .inr (1, [.ref qb, .ref ql, .int rs, .int st, .int ((rdB r fl ck (lst (twF bw g tn) tn)).2.1)])), (qb, .inr (2, [.ref ab, .int z9])), (ab, .inl (ca 0, cb, .inl (apF f 0 B))), (q, .inr (2, [.ref a, .int (nI tn)])), (a, .inl (ca 0, cap, .inl g))] H) e23) hP
                have hD : va_D A [(x, .inr (1, [.ref qb, .ref ql, .int rs, .int st, .int ((rdB r fl ck (lst (twF bw g tn) tn)).2.1)])), (qb, .inr (2, [.ref ab, .int (nI ((rdB r fl ck (lst (twF bw g tn) tn)).1.length))])), (ab, .inl (ca 0, cb, .inl (apF f 0 B))), (q, .inr (2, [.ref a, .int (nI tn)])), (a, .inl (ca 0, cap, .inl g))] := Eq.mp (congrArg (fun z9 : Int32 => va_D A [(x, .inr (1, [.ref qb, .ref ql, .int rs, .int st, .int ((rdB r fl ck (lst (twF bw g tn) tn)).2.1)])), (qb, .inr (2, [.ref ab, .int z9])), (ab, .inl (ca 0, cb, .inl (apF f 0 B))), (q, .inr (2, [.ref a, .int (nI tn)])), (a, .inl (ca 0, cap, .inl g))]) e23) hD
                have e24 : (apF f 0 B : Nat → Int32) = apF f 0 (rdB r fl ck (lst (twF bw g tn) tn)).1 := by first | rw [hE] | (exfalso; omega)
                have hP : va_P D vwCl [(x, .inr (1, [.ref qb, .ref ql, .int rs, .int st, .int ((rdB r fl ck (lst (twF bw g tn) tn)).2.1)])), (qb, .inr (2, [.ref ab, .int (nI ((rdB r fl ck (lst (twF bw g tn) tn)).1.length))])), (ab, .inl (ca 0, cb, .inl (apF f 0 (rdB r fl ck (lst (twF bw g tn) tn)).1))), (q, .inr (2, [.ref a, .int (nI tn)])), (a, .inl (ca 0, cap, .inl g))] H := Eq.mp (congrArg (fun z9 : Nat → Int32 => va_P D vwCl [(x, .inr (1, [.ref qb, .ref ql, .int rs, .int st, .int ((rdB r fl ck (lst (twF bw g tn) tn)).2.1)])), (qb, .inr (2, [.ref ab, .int (nI ((rdB r fl ck (lst (twF bw g tn) tn)).1.length))])), (ab, .inl (ca 0, cb, .inl z9)), (q, .inr (2, [.ref a, .int (nI tn)])), (a, .inl (ca 0, cap, .inl g))] H) e24) hP
                have hD : va_D A [(x, .inr (1, [.ref qb, .ref ql, .int rs, .int st, .int ((rdB r fl ck (lst (twF bw g tn) tn)).2.1)])), (qb, .inr (2, [.ref ab, .int (nI ((rdB r fl ck (lst (twF bw g tn) tn)).1.length))])), (ab, .inl (ca 0, cb, .inl (apF f 0 (rdB r fl ck (lst (twF bw g tn) tn)).1))), (q, .inr (2, [.ref a, .int (nI tn)])), (a, .inl (ca 0, cap, .inl g))] := Eq.mp (congrArg (fun z9 : Nat → Int32 => va_D A [(x, .inr (1, [.ref qb, .ref ql, .int rs, .int st, .int ((rdB r fl ck (lst (twF bw g tn) tn)).2.1)])), (qb, .inr (2, [.ref ab, .int (nI ((rdB r fl ck (lst (twF bw g tn) tn)).1.length))])), (ab, .inl (ca 0, cb, .inl z9)), (q, .inr (2, [.ref a, .int (nI tn)])), (a, .inl (ca 0, cap, .inl g))]) e24) hD
                exact W.zret (v := nI 0) hx hb hr (by first | rfl | exact bI_nar _ | exact bI_fit _ | (first | exact Or.inl rfl | exact Or.inr rfl)) (fun t ht hW => ⟨⟨_, (), rfl, ⟨by (rw [hE]; rfl), by trivial⟩, by rw [ht]; exact hP, hD⟩, hS.F ht⟩) hS.2.2 dX1_readBits_87
          · have hge : tn ≤ i + 1 := h
            refine vp_callSi (va_Run.run (va_runS (As := [.ref q, .int (bI bw), .int (nI (i + 1))]) (rest := []) ⟨hx, hb, hml, hown, hts⟩ (kX1_timeOnTheWay_end l D ca q a cap g tn bw (i + 1) (by first | rfl | assumption | omega | trivial | (exfalso; omega)) (by first | rfl | assumption | omega | trivial | (exfalso; omega)) (by first | rfl | assumption | omega | trivial | (exfalso; omega)) (by first | rfl | assumption | omega | trivial | (exfalso; omega))) (va_cwS 3 hts gX1_readBits_X1_timeOnTheWay rfl rfl rfl (by decide +kernel) ⟨kk_le rfl, kk_le rfl⟩) (psR hK (hP.sub (ws' := [(q, .inr (2, [.ref a, .int (nI tn)])), (a, .inl (ca 0, cap, .inl g))]) [3, 4] rfl)) rfl rfl hl.1 rfl (lv_room (kk_le rfl)) dX1_readBits_65 ⟨kk_le rfl, kk_le rfl⟩)) (fun r25 hr25 => ?_)
            subst hr25
            refine lv_istore (lv' := [(8, .int (-1)), (5, .int (nI (i + 1))), (7, .int (twF bw g tn i)), (6, .int ((cl9 * r) / (nI 100))), (0, .ref x), (1, .ref q), (2, .int (bI bw)), (3, .int r), (4, .int fl)]) hx hb dX1_readBits_68 hl (by decide) rfl (fun ls hl => ?_)
            refine lv_iload hx hb dX1_readBits_70 (lv_at hl 1 rfl) ?_
            refine lv_aload_n hx hb dX1_readBits_72 rfl (lv_at hl 5 rfl) ?_
            refine vp_callSi (va_Run.run (va_runV (As := []) (rest := [.int (nI (i + 1))]) ⟨hx, hb, hml, hown, hts⟩ (kX2_size l D ca q a cap g tn (by first | rfl | assumption | omega | trivial | (exfalso; omega)) (by first | rfl | assumption | omega | trivial | (exfalso; omega))) (cwV 0 hts gX1_readBits_X2_size rfl rfl rfl (by decide +kernel) ⟨kk_le rfl, kk_le rfl⟩) (pvR hK (hP.sub (ws' := [(q, .inr (2, [.ref a, .int (nI tn)])), (a, .inl (ca 0, cap, .inl g))]) [3, 4] rfl) (va_recv hKv hP (ci := 2) (q0 := 3) rfl rfl)) rfl rfl hl.1 rfl (lv_room (kk_le rfl)) dX1_readBits_73 ⟨kk_le rfl, kk_le rfl⟩)) (fun r26 hr26 => ?_)
            subst hr26
            refine ni_icmp_ge (tgt := 86) (by omega) (by omega) hx hb dX1_readBits_76 (by decide) (fun c27 => ?_) (fun c27 => ?_)
            · have hE : rdB r fl ck (lst (twF bw g tn) tn) = (B, cl9, false) := by first | exact rb_br1 hR (by omega) (by assumption) (by assumption) | exact rb_br0 hR (by omega) (by omega) (by assumption) | (exfalso; omega)
              refine lv_iconst (v := nI 0) hx hb dX1_readBits_86 (by decide) ?_
              subst hQz
              have e28 : (cl9 : Int32) = (rdB r fl ck (lst (twF bw g tn) tn)).2.1 := by first | rw [hE] | (exfalso; omega)
              have hP : va_P D vwCl [(x, .inr (1, [.ref qb, .ref ql, .int rs, .int st, .int ((rdB r fl ck (lst (twF bw g tn) tn)).2.1)])), (qb, .inr (2, [.ref ab, .int (nI B.length)])), (ab, .inl (ca 0, cb, .inl (apF f 0 B))), (q, .inr (2, [.ref a, .int (nI tn)])), (a, .inl (ca 0, cap, .inl g))] H := Eq.mp (congrArg (fun z9 : Int32 => va_P D vwCl [(x, .inr (1, [.ref qb, .ref ql, .int rs, .int st, .int z9])), (qb, .inr (2, [.ref ab, .int (nI B.length)])), (ab, .inl (ca 0, cb, .inl (apF f 0 B))), (q, .inr (2, [.ref a, .int (nI tn)])), (a, .inl (ca 0, cap, .inl g))] H) e28) hP
              have hD : va_D A [(x, .inr (1, [.ref qb, .ref ql, .int rs, .int st, .int ((rdB r fl ck (lst (twF bw g tn) tn)).2.1)])), (qb, .inr (2, [.ref ab, .int (nI B.length)])), (ab, .inl (ca 0, cb, .inl (apF f 0 B))), (q, .inr (2, [.ref a, .int (nI tn)])), (a, .inl (ca 0, cap, .inl g))] := Eq.mp (congrArg (fun z9 : Int32 => va_D A [(x, .inr (1, [.ref qb, .ref ql, .int rs, .int st, .int z9])), (qb, .inr (2, [.ref ab, .int (nI B.length)])), (ab, .inl (ca 0, cb, .inl (apF f 0 B))), (q, .inr (2, [.ref a, .int (nI tn)])), (a, .inl (ca 0, cap, .inl g))]) e28) hD
              have e29 : (nI B.length : Int32) = nI ((rdB r fl ck (lst (twF bw g tn) tn)).1.length) := by first | rw [hE] | (exfalso; omega)
              have hP : va_P D vwCl [(x, .inr (1, [.ref qb, .ref ql, .int rs, .int st, .int ((rdB r fl ck (lst (twF bw g tn) tn)).2.1)])), (qb, .inr (2, [.ref ab, .int (nI ((rdB r fl ck (lst (twF bw g tn) tn)).1.length))])), (ab, .inl (ca 0, cb, .inl (apF f 0 B))), (q, .inr (2, [.ref a, .int (nI tn)])), (a, .inl (ca 0, cap, .inl g))] H := Eq.mp (congrArg (fun z9 : Int32 => va_P D vwCl [(x, .inr (1, [.ref qb, .ref ql, .int rs, .int st, .int ((rdB r fl ck (lst (twF bw g tn) tn)).2.1)])), (qb, .inr (2, [.ref ab, .int z9])), (ab, .inl (ca 0, cb, .inl (apF f 0 B))), (q, .inr (2, [.ref a, .int (nI tn)])), (a, .inl (ca 0, cap, .inl g))] H) e29) hP
              have hD : va_D A [(x, .inr (1, [.ref qb, .ref ql, .int rs, .int st, .int ((rdB r fl ck (lst (twF bw g tn) tn)).2.1)])), (qb, .inr (2, [.ref ab, .int (nI ((rdB r fl ck (lst (twF bw g tn) tn)).1.length))])), (ab, .inl (ca 0, cb, .inl (apF f 0 B))), (q, .inr (2, [.ref a, .int (nI tn)])), (a, .inl (ca 0, cap, .inl g))] := Eq.mp (congrArg (fun z9 : Int32 => va_D A [(x, .inr (1, [.ref qb, .ref ql, .int rs, .int st, .int ((rdB r fl ck (lst (twF bw g tn) tn)).2.1)])), (qb, .inr (2, [.ref ab, .int z9])), (ab, .inl (ca 0, cb, .inl (apF f 0 B))), (q, .inr (2, [.ref a, .int (nI tn)])), (a, .inl (ca 0, cap, .inl g))]) e29) hD
              have e30 : (apF f 0 B : Nat → Int32) = apF f 0 (rdB r fl ck (lst (twF bw g tn) tn)).1 := by first | rw [hE] | (exfalso; omega)
              have hP : va_P D vwCl [(x, .inr (1, [.ref qb, .ref ql, .int rs, .int st, .int ((rdB r fl ck (lst (twF bw g tn) tn)).2.1)])), (qb, .inr (2, [.ref ab, .int (nI ((rdB r fl ck (lst (twF bw g tn) tn)).1.length))])), (ab, .inl (ca 0, cb, .inl (apF f 0 (rdB r fl ck (lst (twF bw g tn) tn)).1))), (q, .inr (2, [.ref a, .int (nI tn)])), (a, .inl (ca 0, cap, .inl g))] H := Eq.mp (congrArg (fun z9 : Nat → Int32 => va_P D vwCl [(x, .inr (1, [.ref qb, .ref ql, .int rs, .int st, .int ((rdB r fl ck (lst (twF bw g tn) tn)).2.1)])), (qb, .inr (2, [.ref ab, .int (nI ((rdB r fl ck (lst (twF bw g tn) tn)).1.length))])), (ab, .inl (ca 0, cb, .inl z9)), (q, .inr (2, [.ref a, .int (nI tn)])), (a, .inl (ca 0, cap, .inl g))] H) e30) hP
              have hD : va_D A [(x, .inr (1, [.ref qb, .ref ql, .int rs, .int st, .int ((rdB r fl ck (lst (twF bw g tn) tn)).2.1)])), (qb, .inr (2, [.ref ab, .int (nI ((rdB r fl ck (lst (twF bw g tn) tn)).1.length))])), (ab, .inl (ca 0, cb, .inl (apF f 0 (rdB r fl ck (lst (twF bw g tn) tn)).1))), (q, .inr (2, [.ref a, .int (nI tn)])), (a, .inl (ca 0, cap, .inl g))] := Eq.mp (congrArg (fun z9 : Nat → Int32 => va_D A [(x, .inr (1, [.ref qb, .ref ql, .int rs, .int st, .int ((rdB r fl ck (lst (twF bw g tn) tn)).2.1)])), (qb, .inr (2, [.ref ab, .int (nI ((rdB r fl ck (lst (twF bw g tn) tn)).1.length))])), (ab, .inl (ca 0, cb, .inl z9)), (q, .inr (2, [.ref a, .int (nI tn)])), (a, .inl (ca 0, cap, .inl g))]) e30) hD
              exact W.zret (v := nI 0) hx hb hr (by first | rfl | exact bI_nar _ | exact bI_fit _ | (first | exact Or.inl rfl | exact Or.inr rfl)) (fun t ht hW => ⟨⟨_, (), rfl, ⟨by (rw [hE]; rfl), by trivial⟩, by rw [ht]; exact hP, hD⟩, hS.F ht⟩) hS.2.2 dX1_readBits_87
            · refine lv_iload hx hb dX1_readBits_79 (lv_at hl 0 rfl) ?_
              refine lv_iload hx hb dX1_readBits_81 (lv_at hl 3 rfl) ?_
              refine lv_icmp_lt (tgt := 88) hx hb dX1_readBits_83 (by decide) (fun c31 => ?_) (fun c31 => ?_)
              · refine lv_iinc (v := nI (i + 1 + 1)) (lv' := [(5, .int (nI (i + 1 + 1))), (8, .int (-1)), (7, .int (twF bw g tn i)), (6, .int ((cl9 * r) / (nI 100))), (0, .ref x), (1, .ref q), (2, .int (bI bw)), (3, .int r), (4, .int fl)]) hx hb dX1_readBits_88 hl (k := 1) rfl (ni_inc _ _ (by decide)) (by decide) rfl (fun ls hl => ?_)
                refine lv_iload hx hb dX1_readBits_91 (lv_at hl 2 rfl) ?_
                refine lv_iload hx hb dX1_readBits_93 (lv_at hl 1 rfl) ?_
                refine lv_iadd hx hb dX1_readBits_95 ?_
                refine lv_istore (lv' := [(7, .int ((twF bw g tn i) + (-1))), (5, .int (nI (i + 1 + 1))), (8, .int (-1)), (6, .int ((cl9 * r) / (nI 100))), (0, .ref x), (1, .ref q), (2, .int (bI bw)), (3, .int r), (4, .int fl)]) hx hb dX1_readBits_96 hl (by decide) rfl (fun ls hl => ?_)
                refine lv_aload_n hx hb dX1_readBits_98 rfl (lv_at hl 4 rfl) ?_
                refine va_get (D := D) (ci := 1) (C := RX1) (T := TX1) (N := 5) hx hb hts hiX1 hown hKv hP 0 rfl rfl 0 (by decide) lk14 (fun _ h9 => h9) rfl dX1_readBits_99 ?_
                refine lv_iconst (v := nI 1) hx hb dX1_readBits_102 (by decide) ?_
                have hPc := hP.sub (ws' := [(qb, .inr (2, [.ref ab, .int (nI B.length)])), (ab, .inl (ca 0, cb, .inl (apF f 0 B)))]) [1, 2] rfl
                have hDc := hD.sub (ws' := [(qb, .inr (2, [.ref ab, .int (nI B.length)])), (ab, .inl (ca 0, cb, .inl (apF f 0 B)))]) [1, 2] (by decide) rfl
                have hFc := va_free (wc := [(qb, .inr (2, [.ref ab, .int (nI B.length)])), (ab, .inl (ca 0, cb, .inl (apF f 0 B)))]) hD hS hA [1, 2] rfl
                refine va_calli (va_runV (As := [.int (nI 1)]) (rest := []) ⟨hx, hb, hml, hown, hts⟩ (kX2_add l D ca H.size qb ab cb (apF f 0 B) B.length (nI 1) (by first | rfl | assumption | omega | trivial | (exfalso; omega)) (by first | rfl | assumption | omega | trivial | (exfalso; omega))) (cwV 1 hts gX1_readBits_X2_add rfl rfl rfl (by decide +kernel) ⟨kk_le rfl, kk_le rfl⟩) (pvM hK hPc (my_D_true hDc) (va_recv hKv hP (ci := 2) (q0 := 1) rfl rfl)) rfl rfl hl.1 rfl (lv_room (kk_le rfl)) dX1_readBits_103 ⟨kk_le rfl, kk_le rfl⟩) hS (fun q _ h => hFc q h) hFc (fun r32 u t H1 locs ht hvm hwv hBv hz1 hk1 hS => ?_)
                obtain ⟨hP1, hD1⟩ := hBv
                rw [ht] at hP1
                have hP1 : va_P D vwCl [(qb, .inr (2, [.ref ab, .int (nI (B.length + 1))])), (ab, .inl (ca 0, cb, .inl (upd (apF f 0 B) B.length (nI 1))))] H1 := hP1
                have hD1 : va_D _ [(qb, .inr (2, [.ref ab, .int (nI (B.length + 1))])), (ab, .inl (ca 0, cb, .inl (upd (apF f 0 B) B.length (nI 1))))] := hD1
                obtain ⟨hr32, hw32⟩ := hwv
                subst hr32
                obtain ⟨hP, hD⟩ := va_join (wr := [(x, .inr (1, [.ref qb, .ref ql, .int rs, .int st, .int cl9])), (q, .inr (2, [.ref a, .int (nI tn)])), (a, .inl (ca 0, cap, .inl g))]) (w1 := [(qb, .inr (2, [.ref ab, .int (nI (B.length + 1))])), (ab, .inl (ca 0, cb, .inl (upd (apF f 0 B) B.length (nI 1))))]) hP hD [1, 2] [0, 3, 4] rfl rfl (by decide) (by decide) hk1 hFc hP1 hD1
                generalize H1 = H at hP hS ⊢
                have hP := hP.sub (ws' := [(x, .inr (1, [.ref qb, .ref ql, .int rs, .int st, .int cl9])), (qb, .inr (2, [.ref ab, .int (nI (B.length + 1))])), (ab, .inl (ca 0, cb, .inl (upd (apF f 0 B) B.length (nI 1)))), (q, .inr (2, [.ref a, .int (nI tn)])), (a, .inl (ca 0, cap, .inl g))]) [0, 3, 4, 1, 2] rfl
                have hD := hD.sub (ws' := [(x, .inr (1, [.ref qb, .ref ql, .int rs, .int st, .int cl9])), (qb, .inr (2, [.ref ab, .int (nI (B.length + 1))])), (ab, .inl (ca 0, cb, .inl (upd (apF f 0 B) B.length (nI 1)))), (q, .inr (2, [.ref a, .int (nI tn)])), (a, .inl (ca 0, cap, .inl g))]) [0, 3, 4, 1, 2] (by decide) rfl
                refine lv_pop hx hb dX1_readBits_106 rfl ?_
                refine lv_aload_n hx hb dX1_readBits_107 rfl (lv_at hl 4 rfl) ?_
                refine lv_aload_n hx hb dX1_readBits_108 rfl (lv_at hl 4 rfl) ?_
                refine va_get (D := D) (ci := 1) (C := RX1) (T := TX1) (N := 5) hx hb hts hiX1 hown hKv hP 0 rfl rfl 4 (by decide) lk30 (fun _ h9 => h9) rfl dX1_readBits_109 ?_
                refine lv_bipush (v := nI 100) hx hb dX1_readBits_112 (by decide) ?_
                refine lv_iload hx hb dX1_readBits_114 (lv_at hl 8 rfl) ?_
                refine lv_isub hx hb dX1_readBits_116 ?_
                refine lv_imul hx hb dX1_readBits_117 ?_
                refine lv_iload hx hb dX1_readBits_118 (lv_at hl 0 rfl) ?_
                refine lv_iload hx hb dX1_readBits_120 (lv_at hl 8 rfl) ?_
                refine lv_imul hx hb dX1_readBits_122 ?_
                refine lv_iadd hx hb dX1_readBits_123 ?_
                refine lv_bipush (v := nI 100) hx hb dX1_readBits_124 (by decide) ?_
                refine lv_idiv hx hb dX1_readBits_126 (by first | decide | assumption | exact nI_ne0 (by omega) (by omega)) ?_
                refine va_put (D := D) (ci := 1) (v := .int (((cl9 * ((nI 100) - fl)) + (((twF bw g tn i) + (-1)) * fl)) / (nI 100))) (ty := .int) (C := RX1) (T := TX1) (N := 5) hx hb hts hiX1 tyX1 tyX1_ok nmX1 hown hKv hP hD hS 0 rfl rfl 4 (by decide) lk30 (fun _ h9 => h9) rfl (by decide +kernel) rfl rfl (kk_le rfl) dX1_readBits_127 (fun H locs hP hD hS => ?_)
                have hP : va_P D vwCl [(x, .inr (1, [.ref qb, .ref ql, .int rs, .int st, .int (((cl9 * ((nI 100) - fl)) + (((twF bw g tn i) + (-1)) * fl)) / (nI 100))])), (qb, .inr (2, [.ref ab, .int (nI (B.length + 1))])), (ab, .inl (ca 0, cb, .inl (upd (apF f 0 B) B.length (nI 1)))), (q, .inr (2, [.ref a, .int (nI tn)])), (a, .inl (ca 0, cap, .inl g))] H := hP
                have hD : va_D A [(x, .inr (1, [.ref qb, .ref ql, .int rs, .int st, .int (((cl9 * ((nI 100) - fl)) + (((twF bw g tn i) + (-1)) * fl)) / (nI 100))])), (qb, .inr (2, [.ref ab, .int (nI (B.length + 1))])), (ab, .inl (ca 0, cb, .inl (upd (apF f 0 B) B.length (nI 1)))), (q, .inr (2, [.ref a, .int (nI tn)])), (a, .inl (ca 0, cap, .inl g))] := hD
                refine lv_goto (tgt := 10) hx hb dX1_readBits_130 (by decide) ?_
                have e34 : (nI (B.length + 1) : Int32) = nI ((B ++ [nI 1]).length) := by first | exact apB f B _ | exact apBn B _
                have hP : va_P D vwCl [(x, .inr (1, [.ref qb, .ref ql, .int rs, .int st, .int (((cl9 * ((nI 100) - fl)) + (((twF bw g tn i) + (-1)) * fl)) / (nI 100))])), (qb, .inr (2, [.ref ab, .int (nI ((B ++ [nI 1]).length))])), (ab, .inl (ca 0, cb, .inl (upd (apF f 0 B) B.length (nI 1)))), (q, .inr (2, [.ref a, .int (nI tn)])), (a, .inl (ca 0, cap, .inl g))] H := Eq.mp (congrArg (fun z9 : Int32 => va_P D vwCl [(x, .inr (1, [.ref qb, .ref ql, .int rs, .int st, .int (((cl9 * ((nI 100) - fl)) + (((twF bw g tn i) + (-1)) * fl)) / (nI 100))])), (qb, .inr (2, [.ref ab, .int z9])), (ab, .inl (ca 0, cb, .inl (upd (apF f 0 B) B.length (nI 1)))), (q, .inr (2, [.ref a, .int (nI tn)])), (a, .inl (ca 0, cap, .inl g))] H) e34) hP
                have hD : va_D A [(x, .inr (1, [.ref qb, .ref ql, .int rs, .int st, .int (((cl9 * ((nI 100) - fl)) + (((twF bw g tn i) + (-1)) * fl)) / (nI 100))])), (qb, .inr (2, [.ref ab, .int (nI ((B ++ [nI 1]).length))])), (ab, .inl (ca 0, cb, .inl (upd (apF f 0 B) B.length (nI 1)))), (q, .inr (2, [.ref a, .int (nI tn)])), (a, .inl (ca 0, cap, .inl g))] := Eq.mp (congrArg (fun z9 : Int32 => va_D A [(x, .inr (1, [.ref qb, .ref ql, .int rs, .int st, .int (((cl9 * ((nI 100) - fl)) + (((twF bw g tn i) + (-1)) * fl)) / (nI 100))])), (qb, .inr (2, [.ref ab, .int z9])), (ab, .inl (ca 0, cb, .inl (upd (apF f 0 B) B.length (nI 1)))), (q, .inr (2, [.ref a, .int (nI tn)])), (a, .inl (ca 0, cap, .inl g))]) e34) hD
                have e35 : (upd (apF f 0 B) B.length (nI 1) : Nat → Int32) = apF f 0 (B ++ [nI 1]) := by first | exact apB f B _ | exact apBn B _
                have hP : va_P D vwCl [(x, .inr (1, [.ref qb, .ref ql, .int rs, .int st, .int (((cl9 * ((nI 100) - fl)) + (((twF bw g tn i) + (-1)) * fl)) / (nI 100))])), (qb, .inr (2, [.ref ab, .int (nI ((B ++ [nI 1]).length))])), (ab, .inl (ca 0, cb, .inl (apF f 0 (B ++ [nI 1])))), (q, .inr (2, [.ref a, .int (nI tn)])), (a, .inl (ca 0, cap, .inl g))] H := Eq.mp (congrArg (fun z9 : Nat → Int32 => va_P D vwCl [(x, .inr (1, [.ref qb, .ref ql, .int rs, .int st, .int (((cl9 * ((nI 100) - fl)) + (((twF bw g tn i) + (-1)) * fl)) / (nI 100))])), (qb, .inr (2, [.ref ab, .int (nI ((B ++ [nI 1]).length))])), (ab, .inl (ca 0, cb, .inl z9)), (q, .inr (2, [.ref a, .int (nI tn)])), (a, .inl (ca 0, cap, .inl g))] H) e35) hP
                have hD : va_D A [(x, .inr (1, [.ref qb, .ref ql, .int rs, .int st, .int (((cl9 * ((nI 100) - fl)) + (((twF bw g tn i) + (-1)) * fl)) / (nI 100))])), (qb, .inr (2, [.ref ab, .int (nI ((B ++ [nI 1]).length))])), (ab, .inl (ca 0, cb, .inl (apF f 0 (B ++ [nI 1])))), (q, .inr (2, [.ref a, .int (nI tn)])), (a, .inl (ca 0, cap, .inl g))] := Eq.mp (congrArg (fun z9 : Nat → Int32 => va_D A [(x, .inr (1, [.ref qb, .ref ql, .int rs, .int st, .int (((cl9 * ((nI 100) - fl)) + (((twF bw g tn i) + (-1)) * fl)) / (nI 100))])), (qb, .inr (2, [.ref ab, .int (nI ((B ++ [nI 1]).length))])), (ab, .inl (ca 0, cb, .inl z9)), (q, .inr (2, [.ref a, .int (nI tn)])), (a, .inl (ca 0, cap, .inl g))]) e35) hD
                exact ih1 (i + 1 + 1) (B ++ [nI 1]) (((cl9 * ((nI 100) - fl)) + (((twF bw g tn i) + (-1)) * fl)) / (nI 100)) (by omega) (by omega) (by rw [List.length_append]; simp only [List.length_cons, List.length_nil]; omega) (by first | (exfalso; omega) | exact rb_long hR (by omega) (by assumption) | exact rb_two hR (by omega) (by assumption) (by assumption)) _ _ hP hD hS ls (lv_sub hl [1, 4, 5, 6, 7, 8] rfl)
              · have hE : rdB r fl ck (lst (twF bw g tn) tn) = (B, cl9, false) := by first | exact rb_br1 hR (by omega) (by assumption) (by assumption) | exact rb_br0 hR (by omega) (by omega) (by assumption) | (exfalso; omega)
                refine lv_iconst (v := nI 0) hx hb dX1_readBits_86 (by decide) ?_
                subst hQz
                have e36 : (cl9 : Int32) = (rdB r fl ck (lst (twF bw g tn) tn)).2.1 := by first | rw [hE] | (exfalso; omega)
                have hP : va_P D vwCl [(x, .inr (1, [.ref qb, .ref ql, .int rs, .int st, .int ((rdB r fl ck (lst (twF bw g tn) tn)).2.1)])), (qb, .inr (2, [.ref ab, .int (nI B.length)])), (ab, .inl (ca 0, cb, .inl (apF f 0 B))), (q, .inr (2, [.ref a, .int (nI tn)])), (a, .inl (ca 0, cap, .inl g))] H := Eq.mp (congrArg (fun z9 : Int32 => va_P D vwCl [(x, .inr (1, [.ref qb, .ref ql, .int rs, .int st, .int z9])), (qb, .inr (2, [.ref ab, .int (nI B.length)])), (ab, .inl (ca 0, cb, .inl (apF f 0 B))), (q, .inr (2, [.ref a, .int (nI tn)])), (a, .inl (ca 0, cap, .inl g))] H) e36) hP
                have hD : va_D A [(x, .inr (1, [.ref qb, .ref ql, .int rs, .int st, .int ((rdB r fl ck (lst (twF bw g tn) tn)).2.1)])), (qb, .inr (2, [.ref ab, .int (nI B.length)])), (ab, .inl (ca 0, cb, .inl (apF f 0 B))), (q, .inr (2, [.ref a, .int (nI tn)])), (a, .inl (ca 0, cap, .inl g))] := Eq.mp (congrArg (fun z9 : Int32 => va_D A [(x, .inr (1, [.ref qb, .ref ql, .int rs, .int st, .int z9])), (qb, .inr (2, [.ref ab, .int (nI B.length)])), (ab, .inl (ca 0, cb, .inl (apF f 0 B))), (q, .inr (2, [.ref a, .int (nI tn)])), (a, .inl (ca 0, cap, .inl g))]) e36) hD
                have e37 : (nI B.length : Int32) = nI ((rdB r fl ck (lst (twF bw g tn) tn)).1.length) := by first | rw [hE] | (exfalso; omega)
                have hP : va_P D vwCl [(x, .inr (1, [.ref qb, .ref ql, .int rs, .int st, .int ((rdB r fl ck (lst (twF bw g tn) tn)).2.1)])), (qb, .inr (2, [.ref ab, .int (nI ((rdB r fl ck (lst (twF bw g tn) tn)).1.length))])), (ab, .inl (ca 0, cb, .inl (apF f 0 B))), (q, .inr (2, [.ref a, .int (nI tn)])), (a, .inl (ca 0, cap, .inl g))] H := Eq.mp (congrArg (fun z9 : Int32 => va_P D vwCl [(x, .inr (1, [.ref qb, .ref ql, .int rs, .int st, .int ((rdB r fl ck (lst (twF bw g tn) tn)).2.1)])), (qb, .inr (2, [.ref ab, .int z9])), (ab, .inl (ca 0, cb, .inl (apF f 0 B))), (q, .inr (2, [.ref a, .int (nI tn)])), (a, .inl (ca 0, cap, .inl g))] H) e37) hP
                have hD : va_D A [(x, .inr (1, [.ref qb, .ref ql, .int rs, .int st, .int ((rdB r fl ck (lst (twF bw g tn) tn)).2.1)])), (qb, .inr (2, [.ref ab, .int (nI ((rdB r fl ck (lst (twF bw g tn) tn)).1.length))])), (ab, .inl (ca 0, cb, .inl (apF f 0 B))), (q, .inr (2, [.ref a, .int (nI tn)])), (a, .inl (ca 0, cap, .inl g))] := Eq.mp (congrArg (fun z9 : Int32 => va_D A [(x, .inr (1, [.ref qb, .ref ql, .int rs, .int st, .int ((rdB r fl ck (lst (twF bw g tn) tn)).2.1)])), (qb, .inr (2, [.ref ab, .int z9])), (ab, .inl (ca 0, cb, .inl (apF f 0 B))), (q, .inr (2, [.ref a, .int (nI tn)])), (a, .inl (ca 0, cap, .inl g))]) e37) hD
                have e38 : (apF f 0 B : Nat → Int32) = apF f 0 (rdB r fl ck (lst (twF bw g tn) tn)).1 := by first | rw [hE] | (exfalso; omega)
                have hP : va_P D vwCl [(x, .inr (1, [.ref qb, .ref ql, .int rs, .int st, .int ((rdB r fl ck (lst (twF bw g tn) tn)).2.1)])), (qb, .inr (2, [.ref ab, .int (nI ((rdB r fl ck (lst (twF bw g tn) tn)).1.length))])), (ab, .inl (ca 0, cb, .inl (apF f 0 (rdB r fl ck (lst (twF bw g tn) tn)).1))), (q, .inr (2, [.ref a, .int (nI tn)])), (a, .inl (ca 0, cap, .inl g))] H := Eq.mp (congrArg (fun z9 : Nat → Int32 => va_P D vwCl [(x, .inr (1, [.ref qb, .ref ql, .int rs, .int st, .int ((rdB r fl ck (lst (twF bw g tn) tn)).2.1)])), (qb, .inr (2, [.ref ab, .int (nI ((rdB r fl ck (lst (twF bw g tn) tn)).1.length))])), (ab, .inl (ca 0, cb, .inl z9)), (q, .inr (2, [.ref a, .int (nI tn)])), (a, .inl (ca 0, cap, .inl g))] H) e38) hP
                have hD : va_D A [(x, .inr (1, [.ref qb, .ref ql, .int rs, .int st, .int ((rdB r fl ck (lst (twF bw g tn) tn)).2.1)])), (qb, .inr (2, [.ref ab, .int (nI ((rdB r fl ck (lst (twF bw g tn) tn)).1.length))])), (ab, .inl (ca 0, cb, .inl (apF f 0 (rdB r fl ck (lst (twF bw g tn) tn)).1))), (q, .inr (2, [.ref a, .int (nI tn)])), (a, .inl (ca 0, cap, .inl g))] := Eq.mp (congrArg (fun z9 : Nat → Int32 => va_D A [(x, .inr (1, [.ref qb, .ref ql, .int rs, .int st, .int ((rdB r fl ck (lst (twF bw g tn) tn)).2.1)])), (qb, .inr (2, [.ref ab, .int (nI ((rdB r fl ck (lst (twF bw g tn) tn)).1.length))])), (ab, .inl (ca 0, cb, .inl z9)), (q, .inr (2, [.ref a, .int (nI tn)])), (a, .inl (ca 0, cap, .inl g))]) e38) hD
                exact W.zret (v := nI 0) hx hb hr (by first | rfl | exact bI_nar _ | exact bI_fit _ | (first | exact Or.inl rfl | exact Or.inr rfl)) (fun t ht hW => ⟨⟨_, (), rfl, ⟨by (rw [hE]; rfl), by trivial⟩, by rw [ht]; exact hP, hD⟩, hS.F ht⟩) hS.2.2 dX1_readBits_87
        · refine lv_aload_n hx hb dX1_readBits_49 rfl (lv_at hl 3 rfl) ?_
          refine va_get (D := D) (ci := 1) (C := RX1) (T := TX1) (N := 5) hx hb hts hiX1 hown hKv hP 0 rfl rfl 0 (by decide) lk14 (fun _ h9 => h9) rfl dX1_readBits_50 ?_
          refine lv_iconst (v := nI 0) hx hb dX1_readBits_53 (by decide) ?_
          have hPc := hP.sub (ws' := [(qb, .inr (2, [.ref ab, .int (nI B.length)])), (ab, .inl (ca 0, cb, .inl (apF f 0 B)))]) [1, 2] rfl
          have hDc := hD.sub (ws' := [(qb, .inr (2, [.ref ab, .int (nI B.length)])), (ab, .inl (ca 0, cb, .inl (apF f 0 B)))]) [1, 2] (by decide) rfl
          have hFc := va_free (wc := [(qb, .inr (2, [.ref ab, .int (nI B.length)])), (ab, .inl (ca 0, cb, .inl (apF f 0 B)))]) hD hS hA [1, 2] rfl
          refine va_calli (va_runV (As := [.int (nI 0)]) (rest := []) ⟨hx, hb, hml, hown, hts⟩ (kX2_add l D ca H.size qb ab cb (apF f 0 B) B.length (nI 0) (by first | rfl | assumption | omega | trivial | (exfalso; omega)) (by first | rfl | assumption | omega | trivial | (exfalso; omega))) (cwV 1 hts gX1_readBits_X2_add rfl rfl rfl (by decide +kernel) ⟨kk_le rfl, kk_le rfl⟩) (pvM hK hPc (my_D_true hDc) (va_recv hKv hP (ci := 2) (q0 := 1) rfl rfl)) rfl rfl hl.1 rfl (lv_room (kk_le rfl)) dX1_readBits_54 ⟨kk_le rfl, kk_le rfl⟩) hS (fun q _ h => hFc q h) hFc (fun r39 u t H1 locs ht hvm hwv hBv hz1 hk1 hS => ?_)
          obtain ⟨hP1, hD1⟩ := hBv
          rw [ht] at hP1
          have hP1 : va_P D vwCl [(qb, .inr (2, [.ref ab, .int (nI (B.length + 1))])), (ab, .inl (ca 0, cb, .inl (upd (apF f 0 B) B.length (nI 0))))] H1 := hP1
          have hD1 : va_D _ [(qb, .inr (2, [.ref ab, .int (nI (B.length + 1))])), (ab, .inl (ca 0, cb, .inl (upd (apF f 0 B) B.length (nI 0))))] := hD1
          obtain ⟨hr39, hw39⟩ := hwv
          subst hr39
          obtain ⟨hP, hD⟩ := va_join (wr := [(x, .inr (1, [.ref qb, .ref ql, .int rs, .int st, .int cl9])), (q, .inr (2, [.ref a, .int (nI tn)])), (a, .inl (ca 0, cap, .inl g))]) (w1 := [(qb, .inr (2, [.ref ab, .int (nI (B.length + 1))])), (ab, .inl (ca 0, cb, .inl (upd (apF f 0 B) B.length (nI 0))))]) hP hD [1, 2] [0, 3, 4] rfl rfl (by decide) (by decide) hk1 hFc hP1 hD1
          generalize H1 = H at hP hS ⊢
          have hP := hP.sub (ws' := [(x, .inr (1, [.ref qb, .ref ql, .int rs, .int st, .int cl9])), (qb, .inr (2, [.ref ab, .int (nI (B.length + 1))])), (ab, .inl (ca 0, cb, .inl (upd (apF f 0 B) B.length (nI 0)))), (q, .inr (2, [.ref a, .int (nI tn)])), (a, .inl (ca 0, cap, .inl g))]) [0, 3, 4, 1, 2] rfl
          have hD := hD.sub (ws' := [(x, .inr (1, [.ref qb, .ref ql, .int rs, .int st, .int cl9])), (qb, .inr (2, [.ref ab, .int (nI (B.length + 1))])), (ab, .inl (ca 0, cb, .inl (upd (apF f 0 B) B.length (nI 0)))), (q, .inr (2, [.ref a, .int (nI tn)])), (a, .inl (ca 0, cap, .inl g))]) [0, 3, 4, 1, 2] (by decide) rfl
          refine lv_pop hx hb dX1_readBits_57 rfl ?_
          refine lv_goto (tgt := 107) hx hb dX1_readBits_58 (by decide) ?_
          refine lv_aload_n hx hb dX1_readBits_107 rfl (lv_at hl 3 rfl) ?_
          refine lv_aload_n hx hb dX1_readBits_108 rfl (lv_at hl 3 rfl) ?_
          refine va_get (D := D) (ci := 1) (C := RX1) (T := TX1) (N := 5) hx hb hts hiX1 hown hKv hP 0 rfl rfl 4 (by decide) lk30 (fun _ h9 => h9) rfl dX1_readBits_109 ?_
          refine lv_bipush (v := nI 100) hx hb dX1_readBits_112 (by decide) ?_
          refine lv_iload hx hb dX1_readBits_114 (lv_at hl 7 rfl) ?_
          refine lv_isub hx hb dX1_readBits_116 ?_
          refine lv_imul hx hb dX1_readBits_117 ?_
          refine lv_iload hx hb dX1_readBits_118 (lv_at hl 1 rfl) ?_
          refine lv_iload hx hb dX1_readBits_120 (lv_at hl 7 rfl) ?_
          refine lv_imul hx hb dX1_readBits_122 ?_
          refine lv_iadd hx hb dX1_readBits_123 ?_
          refine lv_bipush (v := nI 100) hx hb dX1_readBits_124 (by decide) ?_
          refine lv_idiv hx hb dX1_readBits_126 (by first | decide | assumption | exact nI_ne0 (by omega) (by omega)) ?_
          refine va_put (D := D) (ci := 1) (v := .int (((cl9 * ((nI 100) - fl)) + ((twF bw g tn i) * fl)) / (nI 100))) (ty := .int) (C := RX1) (T := TX1) (N := 5) hx hb hts hiX1 tyX1 tyX1_ok nmX1 hown hKv hP hD hS 0 rfl rfl 4 (by decide) lk30 (fun _ h9 => h9) rfl (by decide +kernel) rfl rfl (kk_le rfl) dX1_readBits_127 (fun H locs hP hD hS => ?_)
          have hP : va_P D vwCl [(x, .inr (1, [.ref qb, .ref ql, .int rs, .int st, .int (((cl9 * ((nI 100) - fl)) + ((twF bw g tn i) * fl)) / (nI 100))])), (qb, .inr (2, [.ref ab, .int (nI (B.length + 1))])), (ab, .inl (ca 0, cb, .inl (upd (apF f 0 B) B.length (nI 0)))), (q, .inr (2, [.ref a, .int (nI tn)])), (a, .inl (ca 0, cap, .inl g))] H := hP
          have hD : va_D A [(x, .inr (1, [.ref qb, .ref ql, .int rs, .int st, .int (((cl9 * ((nI 100) - fl)) + ((twF bw g tn i) * fl)) / (nI 100))])), (qb, .inr (2, [.ref ab, .int (nI (B.length + 1))])), (ab, .inl (ca 0, cb, .inl (upd (apF f 0 B) B.length (nI 0)))), (q, .inr (2, [.ref a, .int (nI tn)])), (a, .inl (ca 0, cap, .inl g))] := hD
          refine lv_goto (tgt := 10) hx hb dX1_readBits_130 (by decide) ?_
          have e41 : (nI (B.length + 1) : Int32) = nI ((B ++ [nI 0]).length) := by first | exact apB f B _ | exact apBn B _
          have hP : va_P D vwCl [(x, .inr (1, [.ref qb, .ref ql, .int rs, .int st, .int (((cl9 * ((nI 100) - fl)) + ((twF bw g tn i) * fl)) / (nI 100))])), (qb, .inr (2, [.ref ab, .int (nI ((B ++ [nI 0]).length))])), (ab, .inl (ca 0, cb, .inl (upd (apF f 0 B) B.length (nI 0)))), (q, .inr (2, [.ref a, .int (nI tn)])), (a, .inl (ca 0, cap, .inl g))] H := Eq.mp (congrArg (fun z9 : Int32 => va_P D vwCl [(x, .inr (1, [.ref qb, .ref ql, .int rs, .int st, .int (((cl9 * ((nI 100) - fl)) + ((twF bw g tn i) * fl)) / (nI 100))])), (qb, .inr (2, [.ref ab, .int z9])), (ab, .inl (ca 0, cb, .inl (upd (apF f 0 B) B.length (nI 0)))), (q, .inr (2, [.ref a, .int (nI tn)])), (a, .inl (ca 0, cap, .inl g))] H) e41) hP
          have hD : va_D A [(x, .inr (1, [.ref qb, .ref ql, .int rs, .int st, .int (((cl9 * ((nI 100) - fl)) + ((twF bw g tn i) * fl)) / (nI 100))])), (qb, .inr (2, [.ref ab, .int (nI ((B ++ [nI 0]).length))])), (ab, .inl (ca 0, cb, .inl (upd (apF f 0 B) B.length (nI 0)))), (q, .inr (2, [.ref a, .int (nI tn)])), (a, .inl (ca 0, cap, .inl g))] := Eq.mp (congrArg (fun z9 : Int32 => va_D A [(x, .inr (1, [.ref qb, .ref ql, .int rs, .int st, .int (((cl9 * ((nI 100) - fl)) + ((twF bw g tn i) * fl)) / (nI 100))])), (qb, .inr (2, [.ref ab, .int z9])), (ab, .inl (ca 0, cb, .inl (upd (apF f 0 B) B.length (nI 0)))), (q, .inr (2, [.ref a, .int (nI tn)])), (a, .inl (ca 0, cap, .inl g))]) e41) hD
          have e42 : (upd (apF f 0 B) B.length (nI 0) : Nat → Int32) = apF f 0 (B ++ [nI 0]) := by first | exact apB f B _ | exact apBn B _
          have hP : va_P D vwCl [(x, .inr (1, [.ref qb, .ref ql, .int rs, .int st, .int (((cl9 * ((nI 100) - fl)) + ((twF bw g tn i) * fl)) / (nI 100))])), (qb, .inr (2, [.ref ab, .int (nI ((B ++ [nI 0]).length))])), (ab, .inl (ca 0, cb, .inl (apF f 0 (B ++ [nI 0])))), (q, .inr (2, [.ref a, .int (nI tn)])), (a, .inl (ca 0, cap, .inl g))] H := Eq.mp (congrArg (fun z9 : Nat → Int32 => va_P D vwCl [(x, .inr (1, [.ref qb, .ref ql, .int rs, .int st, .int (((cl9 * ((nI 100) - fl)) + ((twF bw g tn i) * fl)) / (nI 100))])), (qb, .inr (2, [.ref ab, .int (nI ((B ++ [nI 0]).length))])), (ab, .inl (ca 0, cb, .inl z9)), (q, .inr (2, [.ref a, .int (nI tn)])), (a, .inl (ca 0, cap, .inl g))] H) e42) hP
          have hD : va_D A [(x, .inr (1, [.ref qb, .ref ql, .int rs, .int st, .int (((cl9 * ((nI 100) - fl)) + ((twF bw g tn i) * fl)) / (nI 100))])), (qb, .inr (2, [.ref ab, .int (nI ((B ++ [nI 0]).length))])), (ab, .inl (ca 0, cb, .inl (apF f 0 (B ++ [nI 0])))), (q, .inr (2, [.ref a, .int (nI tn)])), (a, .inl (ca 0, cap, .inl g))] := Eq.mp (congrArg (fun z9 : Nat → Int32 => va_D A [(x, .inr (1, [.ref qb, .ref ql, .int rs, .int st, .int (((cl9 * ((nI 100) - fl)) + ((twF bw g tn i) * fl)) / (nI 100))])), (qb, .inr (2, [.ref ab, .int (nI ((B ++ [nI 0]).length))])), (ab, .inl (ca 0, cb, .inl z9)), (q, .inr (2, [.ref a, .int (nI tn)])), (a, .inl (ca 0, cap, .inl g))]) e42) hD
          exact ih1 (i + 1) (B ++ [nI 0]) (((cl9 * ((nI 100) - fl)) + ((twF bw g tn i) * fl)) / (nI 100)) (by omega) (by omega) (by rw [List.length_append]; simp only [List.length_cons, List.length_nil]; omega) (by first | (exfalso; omega) | exact rb_long hR (by omega) (by assumption) | exact rb_two hR (by omega) (by assumption) (by assumption)) _ _ hP hD hS ls (lv_sub hl [0, 3, 4, 5, 6, 7] rfl)
  have e43 : (nI 0 : Int32) = nI (([] : IL).length) := by first | rfl | exact (apF_0 f 0).symm
  have hP : va_P D vwCl [(x, .inr (1, [.ref qb, .ref ql, .int rs, .int st, .int ck])), (qb, .inr (2, [.ref ab, .int (nI (([] : IL).length))])), (ab, .inl (ca 0, cb, .inl f)), (q, .inr (2, [.ref a, .int (nI tn)])), (a, .inl (ca 0, cap, .inl g))] H := Eq.mp (congrArg (fun z9 : Int32 => va_P D vwCl [(x, .inr (1, [.ref qb, .ref ql, .int rs, .int st, .int ck])), (qb, .inr (2, [.ref ab, .int z9])), (ab, .inl (ca 0, cb, .inl f)), (q, .inr (2, [.ref a, .int (nI tn)])), (a, .inl (ca 0, cap, .inl g))] H) e43) hP
  have hD : va_D A [(x, .inr (1, [.ref qb, .ref ql, .int rs, .int st, .int ck])), (qb, .inr (2, [.ref ab, .int (nI (([] : IL).length))])), (ab, .inl (ca 0, cb, .inl f)), (q, .inr (2, [.ref a, .int (nI tn)])), (a, .inl (ca 0, cap, .inl g))] := Eq.mp (congrArg (fun z9 : Int32 => va_D A [(x, .inr (1, [.ref qb, .ref ql, .int rs, .int st, .int ck])), (qb, .inr (2, [.ref ab, .int z9])), (ab, .inl (ca 0, cb, .inl f)), (q, .inr (2, [.ref a, .int (nI tn)])), (a, .inl (ca 0, cap, .inl g))]) e43) hD
  have e44 : (f : Nat → Int32) = apF f 0 ([] : IL) := by first | rfl | exact (apF_0 f 0).symm
  have hP : va_P D vwCl [(x, .inr (1, [.ref qb, .ref ql, .int rs, .int st, .int ck])), (qb, .inr (2, [.ref ab, .int (nI (([] : IL).length))])), (ab, .inl (ca 0, cb, .inl (apF f 0 ([] : IL)))), (q, .inr (2, [.ref a, .int (nI tn)])), (a, .inl (ca 0, cap, .inl g))] H := Eq.mp (congrArg (fun z9 : Nat → Int32 => va_P D vwCl [(x, .inr (1, [.ref qb, .ref ql, .int rs, .int st, .int ck])), (qb, .inr (2, [.ref ab, .int (nI (([] : IL).length))])), (ab, .inl (ca 0, cb, .inl z9)), (q, .inr (2, [.ref a, .int (nI tn)])), (a, .inl (ca 0, cap, .inl g))] H) e44) hP
  have hD : va_D A [(x, .inr (1, [.ref qb, .ref ql, .int rs, .int st, .int ck])), (qb, .inr (2, [.ref ab, .int (nI (([] : IL).length))])), (ab, .inl (ca 0, cb, .inl (apF f 0 ([] : IL)))), (q, .inr (2, [.ref a, .int (nI tn)])), (a, .inl (ca 0, cap, .inl g))] := Eq.mp (congrArg (fun z9 : Nat → Int32 => va_D A [(x, .inr (1, [.ref qb, .ref ql, .int rs, .int st, .int ck])), (qb, .inr (2, [.ref ab, .int (nI (([] : IL).length))])), (ab, .inl (ca 0, cb, .inl z9)), (q, .inr (2, [.ref a, .int (nI tn)])), (a, .inl (ca 0, cap, .inl g))]) e44) hD
  exact lp10_2 ((tn - 0) + 1) 0 ([] : IL) ck (by omega) (by omega) (by exact Nat.zero_le _) (by rfl) _ _ hP hD hS ls (lv_sub hl [0, 1, 2, 3, 4, 5] rfl)
abbrev rm_kX1_findStart : Room := { frames := 1, cells := 0, slots := 0, locals := 21 }
set_option maxHeartbeats 4000000 in
set_option maxRecDepth 100000 in
theorem kX1_findStart (l : Launch) (D : va_G) (ca : Nat → ClassId) (x qb ab cb ql : Nat) (rs st ck : Int32) (f : Nat → Int32) (n : Nat) (hn : n ≤ cb) (hc : cb < 1000000) (h01 : ∀ k, k < n → f k = nI 0 ∨ f k = nI 1) : Met l yX1_findStart wsX1_findStart rm_kX1_findStart (pcR D ca [.ref x] [(x, .inr (1, [.ref qb, .ref ql, .int rs, .int st, .int ck])), (qb, .inr (2, [.ref ab, .int (nI n)])), (ab, .inl (ca 0, cb, .inl f))]) (vp_Si (fun z : Int32 => z = stI f n)) 0 0 (fun _ => False) := by
  refine Met.ofW (cc := cX1_findStart) (maxL := 3) (ret := (some .int)) (by decide) rfl ?_
  intro p e s m args below meth c s₁ B hml hv
  obtain ⟨rfl, hP, hK⟩ := hv
  have hx := B.exec
  have hb := B.bytes
  have hr := B.returns
  have hts := atoms_spec (ws := wsX1_findStart) B.pre
  have hown : s.vm.findClass RX1 = some m.cls := findClass_of_methodNamed B.named
  have hlocks := B.notSynchronized
  have hKv := hK.1
  have hl := lv_entry ([.ref x]) (n := 3) (kk_le rfl)
  rw [lg_entry_eq]
  generalize (lg_sl ([.ref x]) ++ List.replicate (3 - (lg_sl ([.ref x])).length) Slot.unset).toArray = ls at hl ⊢
  have hl : lv_has ls 3 [(0, .ref x)] := hl
  generalize hQz : MQ below _ _ _ _ _ _ = Qz
  have hiX1 : ∀ w ∈ u_ws RX1 TX1 5, w ∈ wsX1_findStart := fun w h => by first | exact List.mem_cons_of_mem _ (List.mem_append_right _ h) | exact List.mem_cons_of_mem _ (List.mem_append_left _ (List.mem_append_right _ h)) | exact List.mem_cons_of_mem _ (List.mem_append_left _ (List.mem_append_left _ (List.mem_append_right _ h))) | exact List.mem_cons_of_mem _ (List.mem_append_left _ (List.mem_append_left _ (List.mem_append_left _ (List.mem_append_right _ h)))) | (revert w h; decide +kernel)
  have lk14 : (Cond.fieldLink RX1 14 "StripeSwipes$Reading" "bits" "LStripeSwipes$Row;").before _ s = true := hts _ (by decide +kernel)
  refine lv_iconst (v := nI 0) hx hb dX1_findStart_0 (by decide) ?_
  refine lv_istore_n (lv' := [(1, .int (nI 0)), (0, .ref x)]) hx hb dX1_findStart_1 rfl hl (by decide) rfl (fun ls hl => ?_)
  refine lv_iconst (v := nI 0) hx hb dX1_findStart_2 (by decide) ?_
  refine lv_istore_n (lv' := [(2, .int (nI 0)), (1, .int (nI 0)), (0, .ref x)]) hx hb dX1_findStart_3 rfl hl (by decide) rfl (fun ls hl => ?_)
  have lp4_0 : ∀ (k1 : Nat) (i : Nat) (wv : Int32), n - i < k1 → (i ≤ n) → (wv = w5 (lst f i)) → (∀ q, q + 5 ≤ i → okSt f n q = false) → ∀ (ls : Array Slot), lv_has ls 3 [(2, .int (nI i)), (1, .int wv), (0, .ref x)] → W p l e rm_kX1_findStart s m ([.ref x] : List Value).toArray below meth c s.heap [] 0 0 Qz (F0 m 4 ls []) := by
    intro k1
    induction k1 with
    | zero => intro i wv hm1; exact absurd hm1 (Nat.not_lt_zero _)
    | succ k1 ih1 =>
      intro i wv hm1 hi hw hno ls hl
      refine lv_iload_n hx hb dX1_findStart_4 rfl (lv_at hl 0 rfl) ?_
      refine lv_aload_n hx hb dX1_findStart_5 rfl (lv_at hl 2 rfl) ?_
      refine va_get (D := D) (ci := 1) (C := RX1) (T := TX1) (N := 5) hx hb hts hiX1 hown hKv hP 0 rfl rfl 0 (by decide) lk14 (fun _ h9 => h9) rfl dX1_findStart_6 ?_
      refine vp_callSi (va_Run.run (va_runV (As := []) (rest := [.int (nI i)]) ⟨hx, hb, hml, hown, hts⟩ (kX2_size l D ca qb ab cb f n (by first | rfl | assumption | omega | trivial | (exfalso; omega)) (by first | rfl | assumption | omega | trivial | (exfalso; omega))) (cwV 0 hts gX1_findStart_X2_size rfl rfl rfl (by decide +kernel) ⟨kk_le rfl, kk_le rfl⟩) (pvR hK (hP.sub (ws' := [(qb, .inr (2, [.ref ab, .int (nI n)])), (ab, .inl (ca 0, cb, .inl f))]) [1, 2] rfl) (va_recv hKv hP (ci := 2) (q0 := 1) rfl rfl)) rfl rfl hl.1 rfl (lv_room (kk_le rfl)) dX1_findStart_9 ⟨kk_le rfl, kk_le rfl⟩)) (fun r2 hr2 => ?_)
      subst hr2
      refine ni_icmp_ge (tgt := 52) (by omega) (by omega) hx hb dX1_findStart_12 (by decide) (fun c3 => ?_) (fun c3 => ?_)
      · refine lv_iconst (v := (-1)) hx hb dX1_findStart_52 (by decide) ?_
        subst hQz
        exact W.iret (v := (-1)) hx hb hr (fun t ht _ => ⟨_, rfl, by first | exact (fs_yes hno hw (by omega) (by omega) h01 (by assumption)).symm | exact (fs_none hno (by omega)).symm, ht⟩) (fun _ h => nomatch h) dX1_findStart_53
      · refine lv_iload_n hx hb dX1_findStart_15 rfl (lv_at hl 1 rfl) ?_
        refine lv_iconst (v := nI 1) hx hb dX1_findStart_16 (by decide) ?_
        refine lv_ishl hx hb dX1_findStart_17 ?_
        refine lv_aload_n hx hb dX1_findStart_18 rfl (lv_at hl 2 rfl) ?_
        refine va_get (D := D) (ci := 1) (C := RX1) (T := TX1) (N := 5) hx hb hts hiX1 hown hKv hP 0 rfl rfl 0 (by decide) lk14 (fun _ h9 => h9) rfl dX1_findStart_19 ?_
        refine lv_iload_n hx hb dX1_findStart_22 rfl (lv_at hl 0 rfl) ?_
        refine vp_callSi (va_Run.run (va_runV (As := [.int (nI i)]) (rest := [.int (wv <<< ((nI 1) &&& 31))]) ⟨hx, hb, hml, hown, hts⟩ (kX2_at_in l D ca qb ab cb f n i (by first | rfl | assumption | omega | trivial | (exfalso; omega)) (by first | rfl | assumption | omega | trivial | (exfalso; omega)) (by first | rfl | assumption | omega | trivial | (exfalso; omega))) (cwV 1 hts gX1_findStart_X2_at rfl rfl rfl (by decide +kernel) ⟨kk_le rfl, kk_le rfl⟩) (pvR hK (hP.sub (ws' := [(qb, .inr (2, [.ref ab, .int (nI n)])), (ab, .inl (ca 0, cb, .inl f))]) [1, 2] rfl) (va_recv hKv hP (ci := 2) (q0 := 1) rfl rfl)) rfl rfl hl.1 rfl (lv_room (kk_le rfl)) dX1_findStart_23 ⟨kk_le rfl, kk_le rfl⟩)) (fun r4 hr4 => ?_)
        subst hr4
        refine lv_ior hx hb dX1_findStart_26 ?_
        refine lv_bipush (v := nI 31) hx hb dX1_findStart_27 (by decide) ?_
        refine lv_iand hx hb dX1_findStart_29 ?_
        refine lv_istore_n (lv' := [(1, .int (((wv <<< ((nI 1) &&& 31)) ||| (f i)) &&& (nI 31))), (2, .int (nI i)), (0, .ref x)]) hx hb dX1_findStart_30 rfl hl (by decide) rfl (fun ls hl => ?_)
        refine lv_iload_n hx hb dX1_findStart_31 rfl (lv_at hl 1 rfl) ?_
        refine lv_iconst (v := nI 4) hx hb dX1_findStart_32 (by decide) ?_
        refine ni_icmp_lt (tgt := 46) (by omega) (by omega) hx hb dX1_findStart_33 (by decide) (fun c5 => ?_) (fun c5 => ?_)
        · refine lv_iinc (v := nI (i + 1)) (lv' := [(2, .int (nI (i + 1))), (1, .int (((wv <<< ((nI 1) &&& 31)) ||| (f i)) &&& (nI 31))), (0, .ref x)]) hx hb dX1_findStart_46 hl (k := 1) rfl (ni_inc _ _ (by decide)) (by decide) rfl (fun ls hl => ?_)
          refine lv_goto (tgt := 4) hx hb dX1_findStart_49 (by decide) ?_
          exact ih1 (i + 1) (((wv <<< ((nI 1) &&& 31)) ||| (f i)) &&& (nI 31)) (by omega) (by omega) (by rw [hw, lst_succ, w5_app]) (by first | exact fs_lo hno (by omega) | exact fs_hi hno hw (by omega) (by omega) h01 (by assumption)) ls (lv_sub hl [0, 1, 2] rfl)
        · refine lv_iload_n hx hb dX1_findStart_36 rfl (lv_at hl 0 rfl) ?_
          refine lv_bipush (v := nI 26) hx hb dX1_findStart_37 (by decide) ?_
          refine lv_icmp_ne (tgt := 46) hx hb dX1_findStart_39 (by decide) (fun c6 => ?_) (fun c6 => ?_)
          · refine lv_iinc (v := nI (i + 1)) (lv' := [(2, .int (nI (i + 1))), (1, .int (((wv <<< ((nI 1) &&& 31)) ||| (f i)) &&& (nI 31))), (0, .ref x)]) hx hb dX1_findStart_46 hl (k := 1) rfl (ni_inc _ _ (by decide)) (by decide) rfl (fun ls hl => ?_)
            refine lv_goto (tgt := 4) hx hb dX1_findStart_49 (by decide) ?_
            exact ih1 (i + 1) (((wv <<< ((nI 1) &&& 31)) ||| (f i)) &&& (nI 31)) (by omega) (by omega) (by rw [hw, lst_succ, w5_app]) (by first | exact fs_lo hno (by omega) | exact fs_hi hno hw (by omega) (by omega) h01 (by assumption)) ls (lv_sub hl [0, 1, 2] rfl)
          · refine lv_iload_n hx hb dX1_findStart_42 rfl (lv_at hl 1 rfl) ?_
            refine lv_iconst (v := nI 4) hx hb dX1_findStart_43 (by decide) ?_
            refine ni_isub (by omega) hx hb dX1_findStart_44 ?_
            subst hQz
            exact W.iret (v := nI (i - 4)) hx hb hr (fun t ht _ => ⟨_, rfl, by first | exact (fs_yes hno hw (by omega) (by omega) h01 (by assumption)).symm | exact (fs_none hno (by omega)).symm, ht⟩) (fun _ h => nomatch h) dX1_findStart_45
  exact lp4_0 ((n - 0) + 1) 0 (nI 0) (by omega) (by omega) (by rfl) (by exact fun q hq => absurd hq (by omega)) ls (lv_sub hl [0, 1, 2] rfl)
abbrev rm_kX1_hasGroup : Room := { frames := 1, cells := 0, slots := 0, locals := 20 }
set_option maxHeartbeats 4000000 in
set_option maxRecDepth 100000 in
theorem kX1_hasGroup (l : Launch) (D : va_G) (ca : Nat → ClassId) (x qb ab cb ql : Nat) (rs st ck : Int32) (f : Nat → Int32) (n : Nat) (pp : Nat) (hn : n ≤ cb) (hc : cb < 1000000) (h5 : 5 ≤ n) (hp : pp < 1000000) : Met l yX1_hasGroup wsX1_hasGroup rm_kX1_hasGroup (pcR D ca [.ref x, .int (nI pp)] [(x, .inr (1, [.ref qb, .ref ql, .int rs, .int st, .int ck])), (qb, .inr (2, [.ref ab, .int (nI n)])), (ab, .inl (ca 0, cb, .inl f))]) (vp_Si (fun z : Int32 => z = bI (decide (pp + 5 ≤ n)))) 0 0 (fun _ => False) := by
  refine Met.ofW (cc := cX1_hasGroup) (maxL := 2) (ret := (some .boolean)) (by decide) rfl ?_
  intro p e s m args below meth c s₁ B hml hv
  obtain ⟨rfl, hP, hK⟩ := hv
  have hx := B.exec
  have hb := B.bytes
  have hr := B.returns
  have hts := atoms_spec (ws := wsX1_hasGroup) B.pre
  have hown : s.vm.findClass RX1 = some m.cls := findClass_of_methodNamed B.named
  have hlocks := B.notSynchronized
  have hKv := hK.1
  have hl := lv_entry ([.ref x, .int (nI pp)]) (n := 2) (kk_le rfl)
  rw [lg_entry_eq]
  generalize (lg_sl ([.ref x, .int (nI pp)]) ++ List.replicate (2 - (lg_sl ([.ref x, .int (nI pp)])).length) Slot.unset).toArray = ls at hl ⊢
  have hl : lv_has ls 2 [(0, .ref x), (1, .int (nI pp))] := hl
  have hiX1 : ∀ w ∈ u_ws RX1 TX1 5, w ∈ wsX1_hasGroup := fun w h => by first | exact List.mem_cons_of_mem _ (List.mem_append_right _ h) | exact List.mem_cons_of_mem _ (List.mem_append_left _ (List.mem_append_right _ h)) | exact List.mem_cons_of_mem _ (List.mem_append_left _ (List.mem_append_left _ (List.mem_append_right _ h))) | exact List.mem_cons_of_mem _ (List.mem_append_left _ (List.mem_append_left _ (List.mem_append_left _ (List.mem_append_right _ h)))) | (revert w h; decide +kernel)
  have lk14 : (Cond.fieldLink RX1 14 "StripeSwipes$Reading" "bits" "LStripeSwipes$Row;").before _ s = true := hts _ (by decide +kernel)
  refine lv_iload_n hx hb dX1_hasGroup_0 rfl (lv_at hl 1 rfl) ?_
  refine ni_if_lt (tgt := 21) (by omega) hx hb dX1_hasGroup_1 (by decide) (fun c1 => ?_) (fun c1 => ?_)
  · refine lv_iconst (v := nI 0) hx hb dX1_hasGroup_21 (by decide) ?_
    exact W.zret (v := nI 0) hx hb hr (by first | rfl | exact bI_nar _ | exact bI_fit _ | (first | exact Or.inl rfl | exact Or.inr rfl)) (fun t ht _ => ⟨_, rfl, by first | exact (congrArg bI (decide_eq_true (by omega))).symm | exact (congrArg bI (decide_eq_false (by omega))).symm | (exfalso; assumption), ht⟩) (fun _ h => nomatch h) dX1_hasGroup_22
  · refine lv_iload_n hx hb dX1_hasGroup_4 rfl (lv_at hl 1 rfl) ?_
    refine lv_aload_n hx hb dX1_hasGroup_5 rfl (lv_at hl 0 rfl) ?_
    refine va_get (D := D) (ci := 1) (C := RX1) (T := TX1) (N := 5) hx hb hts hiX1 hown hKv hP 0 rfl rfl 0 (by decide) lk14 (fun _ h9 => h9) rfl dX1_hasGroup_6 ?_
    refine vp_callSi (va_Run.run (va_runV (As := []) (rest := [.int (nI pp)]) ⟨hx, hb, hml, hown, hts⟩ (kX2_size l D ca qb ab cb f n (by first | rfl | assumption | omega | trivial | (exfalso; omega)) (by first | rfl | assumption | omega | trivial | (exfalso; omega))) (cwV 0 hts gX1_hasGroup_X2_size rfl rfl rfl (by decide +kernel) ⟨kk_le rfl, kk_le rfl⟩) (pvR hK (hP.sub (ws' := [(qb, .inr (2, [.ref ab, .int (nI n)])), (ab, .inl (ca 0, cb, .inl f))]) [1, 2] rfl) (va_recv hKv hP (ci := 2) (q0 := 1) rfl rfl)) rfl rfl hl.1 rfl (lv_room (kk_le rfl)) dX1_hasGroup_9 ⟨kk_le rfl, kk_le rfl⟩)) (fun r2 hr2 => ?_)
    subst hr2
    refine lv_iconst (v := nI 5) hx hb dX1_hasGroup_12 (by decide) ?_
    refine ni_isub (by omega) hx hb dX1_hasGroup_13 ?_
    refine ni_icmp_gt (tgt := 21) (by omega) (by omega) hx hb dX1_hasGroup_14 (by decide) (fun c3 => ?_) (fun c3 => ?_)
    · refine lv_iconst (v := nI 0) hx hb dX1_hasGroup_21 (by decide) ?_
      exact W.zret (v := nI 0) hx hb hr (by first | rfl | exact bI_nar _ | exact bI_fit _ | (first | exact Or.inl rfl | exact Or.inr rfl)) (fun t ht _ => ⟨_, rfl, by first | exact (congrArg bI (decide_eq_true (by omega))).symm | exact (congrArg bI (decide_eq_false (by omega))).symm | (exfalso; assumption), ht⟩) (fun _ h => nomatch h) dX1_hasGroup_22
    · refine lv_iconst (v := nI 1) hx hb dX1_hasGroup_17 (by decide) ?_
      refine lv_goto (tgt := 22) hx hb dX1_hasGroup_18 (by decide) ?_
      exact W.zret (v := nI 1) hx hb hr (by first | rfl | exact bI_nar _ | exact bI_fit _ | (first | exact Or.inl rfl | exact Or.inr rfl)) (fun t ht _ => ⟨_, rfl, by first | exact (congrArg bI (decide_eq_true (by omega))).symm | exact (congrArg bI (decide_eq_false (by omega))).symm | (exfalso; assumption), ht⟩) (fun _ h => nomatch h) dX1_hasGroup_22
abbrev rm_kX1_numberAt : Room := { frames := 1, cells := 0, slots := 0, locals := 21 }
set_option maxHeartbeats 4000000 in
set_option maxRecDepth 100000 in
theorem kX1_numberAt (l : Launch) (D : va_G) (ca : Nat → ClassId) (x qb ab cb ql : Nat) (rs st ck : Int32) (f : Nat → Int32) (n : Nat) (pp : Nat) (hn : n ≤ cb) (hc : cb < 1000000) (hp : pp + 5 ≤ n) : Met l yX1_numberAt wsX1_numberAt rm_kX1_numberAt (pcR D ca [.ref x, .int (nI pp)] [(x, .inr (1, [.ref qb, .ref ql, .int rs, .int st, .int ck])), (qb, .inr (2, [.ref ab, .int (nI n)])), (ab, .inl (ca 0, cb, .inl f))]) (vp_Si (fun z : Int32 => z = numG f pp)) 0 0 (fun _ => False) := by
  refine Met.ofW (cc := cX1_numberAt) (maxL := 4) (ret := (some .int)) (by decide) rfl ?_
  intro p e s m args below meth c s₁ B hml hv
  obtain ⟨rfl, hP, hK⟩ := hv
  have hx := B.exec
  have hb := B.bytes
  have hr := B.returns
  have hts := atoms_spec (ws := wsX1_numberAt) B.pre
  have hown : s.vm.findClass RX1 = some m.cls := findClass_of_methodNamed B.named
  have hlocks := B.notSynchronized
  have hKv := hK.1
  have hl := lv_entry ([.ref x, .int (nI pp)]) (n := 4) (kk_le rfl)
  rw [lg_entry_eq]
  generalize (lg_sl ([.ref x, .int (nI pp)]) ++ List.replicate (4 - (lg_sl ([.ref x, .int (nI pp)])).length) Slot.unset).toArray = ls at hl ⊢
  have hl : lv_has ls 4 [(0, .ref x), (1, .int (nI pp))] := hl
  generalize hQz : MQ below _ _ _ _ _ _ = Qz
  have hiX1 : ∀ w ∈ u_ws RX1 TX1 5, w ∈ wsX1_numberAt := fun w h => by first | exact List.mem_cons_of_mem _ (List.mem_append_right _ h) | exact List.mem_cons_of_mem _ (List.mem_append_left _ (List.mem_append_right _ h)) | exact List.mem_cons_of_mem _ (List.mem_append_left _ (List.mem_append_left _ (List.mem_append_right _ h))) | exact List.mem_cons_of_mem _ (List.mem_append_left _ (List.mem_append_left _ (List.mem_append_left _ (List.mem_append_right _ h)))) | (revert w h; decide +kernel)
  have lk14 : (Cond.fieldLink RX1 14 "StripeSwipes$Reading" "bits" "LStripeSwipes$Row;").before _ s = true := hts _ (by decide +kernel)
  refine lv_iconst (v := nI 0) hx hb dX1_numberAt_0 (by decide) ?_
  refine lv_istore_n (lv' := [(2, .int (nI 0)), (0, .ref x), (1, .int (nI pp))]) hx hb dX1_numberAt_1 rfl hl (by decide) rfl (fun ls hl => ?_)
  refine lv_iconst (v := nI 0) hx hb dX1_numberAt_2 (by decide) ?_
  refine lv_istore_n (lv' := [(3, .int (nI 0)), (2, .int (nI 0)), (0, .ref x), (1, .int (nI pp))]) hx hb dX1_numberAt_3 rfl hl (by decide) rfl (fun ls hl => ?_)
  have lp4_0 : ∀ (k1 : Nat) (i : Nat) (acc : Int32), 4 - i < k1 → (i ≤ 4) → (acc = numS f pp i) → ∀ (ls : Array Slot), lv_has ls 4 [(3, .int (nI i)), (2, .int acc), (0, .ref x), (1, .int (nI pp))] → W p l e rm_kX1_numberAt s m ([.ref x, .int (nI pp)] : List Value).toArray below meth c s.heap [] 0 0 Qz (F0 m 4 ls []) := by
    intro k1
    induction k1 with
    | zero => intro i acc hm1; exact absurd hm1 (Nat.not_lt_zero _)
    | succ k1 ih1 =>
      intro i acc hm1 hi ha ls hl
      refine lv_iload_n hx hb dX1_numberAt_4 rfl (lv_at hl 0 rfl) ?_
      refine lv_iconst (v := nI 4) hx hb dX1_numberAt_5 (by decide) ?_
      refine ni_icmp_ge (tgt := 30) (by omega) (by omega) hx hb dX1_numberAt_6 (by decide) (fun c2 => ?_) (fun c2 => ?_)
      · refine lv_iload_n hx hb dX1_numberAt_30 rfl (lv_at hl 1 rfl) ?_
        subst hQz
        exact W.iret (v := acc) hx hb hr (fun t ht _ => ⟨_, rfl, by (rw [ha, show i = 4 from by omega]; rfl), ht⟩) (fun _ h => nomatch h) dX1_numberAt_31
      · refine lv_iload_n hx hb dX1_numberAt_9 rfl (lv_at hl 1 rfl) ?_
        refine lv_aload_n hx hb dX1_numberAt_10 rfl (lv_at hl 2 rfl) ?_
        refine va_get (D := D) (ci := 1) (C := RX1) (T := TX1) (N := 5) hx hb hts hiX1 hown hKv hP 0 rfl rfl 0 (by decide) lk14 (fun _ h9 => h9) rfl dX1_numberAt_11 ?_
        refine lv_iload_n hx hb dX1_numberAt_14 rfl (lv_at hl 3 rfl) ?_
        refine lv_iload_n hx hb dX1_numberAt_15 rfl (lv_at hl 0 rfl) ?_
        refine ni_iadd hx hb dX1_numberAt_16 ?_
        refine vp_callSi (va_Run.run (va_runV (As := [.int (nI (pp + i))]) (rest := [.int acc]) ⟨hx, hb, hml, hown, hts⟩ (kX2_at_in l D ca qb ab cb f n (pp + i) (by first | rfl | assumption | omega | trivial | (exfalso; omega)) (by first | rfl | assumption | omega | trivial | (exfalso; omega)) (by first | rfl | assumption | omega | trivial | (exfalso; omega))) (cwV 1 hts gX1_numberAt_X2_at rfl rfl rfl (by decide +kernel) ⟨kk_le rfl, kk_le rfl⟩) (pvR hK (hP.sub (ws' := [(qb, .inr (2, [.ref ab, .int (nI n)])), (ab, .inl (ca 0, cb, .inl f))]) [1, 2] rfl) (va_recv hKv hP (ci := 2) (q0 := 1) rfl rfl)) rfl rfl hl.1 rfl (lv_room (kk_le rfl)) dX1_numberAt_17 ⟨kk_le rfl, kk_le rfl⟩)) (fun r3 hr3 => ?_)
        subst hr3
        refine lv_iload_n hx hb dX1_numberAt_20 rfl (lv_at hl 0 rfl) ?_
        refine lv_ishl hx hb dX1_numberAt_21 ?_
        refine lv_iadd hx hb dX1_numberAt_22 ?_
        refine lv_istore_n (lv' := [(2, .int (acc + ((f (pp + i)) <<< ((nI i) &&& 31)))), (3, .int (nI i)), (0, .ref x), (1, .int (nI pp))]) hx hb dX1_numberAt_23 rfl hl (by decide) rfl (fun ls hl => ?_)
        refine lv_iinc (v := nI (i + 1)) (lv' := [(3, .int (nI (i + 1))), (2, .int (acc + ((f (pp + i)) <<< ((nI i) &&& 31)))), (0, .ref x), (1, .int (nI pp))]) hx hb dX1_numberAt_24 hl (k := 1) rfl (ni_inc _ _ (by decide)) (by decide) rfl (fun ls hl => ?_)
        refine lv_goto (tgt := 4) hx hb dX1_numberAt_27 (by decide) ?_
        exact ih1 (i + 1) (acc + ((f (pp + i)) <<< ((nI i) &&& 31))) (by omega) (by omega) (by rw [ha]; rfl) ls (lv_sub hl [0, 1, 2, 3] rfl)
  exact lp4_0 ((4 - 0) + 1) 0 (nI 0) (by omega) (by omega) (by rfl) ls (lv_sub hl [0, 1, 2, 3] rfl)
abbrev rm_kX1_isOdd : Room := { frames := 1, cells := 0, slots := 0, locals := 21 }
set_option maxHeartbeats 4000000 in
set_option maxRecDepth 100000 in
theorem kX1_isOdd (l : Launch) (D : va_G) (ca : Nat → ClassId) (x qb ab cb ql : Nat) (rs st ck : Int32) (f : Nat → Int32) (n : Nat) (pp : Nat) (hn : n ≤ cb) (hc : cb < 1000000) (hp : pp + 5 ≤ n) : Met l yX1_isOdd wsX1_isOdd rm_kX1_isOdd (pcR D ca [.ref x, .int (nI pp)] [(x, .inr (1, [.ref qb, .ref ql, .int rs, .int st, .int ck])), (qb, .inr (2, [.ref ab, .int (nI n)])), (ab, .inl (ca 0, cb, .inl f))]) (vp_Si (fun z : Int32 => z = bI (oddG f pp))) 0 0 (fun _ => False) := by
  refine Met.ofW (cc := cX1_isOdd) (maxL := 4) (ret := (some .boolean)) (by decide) rfl ?_
  intro p e s m args below meth c s₁ B hml hv
  obtain ⟨rfl, hP, hK⟩ := hv
  have hx := B.exec
  have hb := B.bytes
  have hr := B.returns
  have hts := atoms_spec (ws := wsX1_isOdd) B.pre
  have hown : s.vm.findClass RX1 = some m.cls := findClass_of_methodNamed B.named
  have hlocks := B.notSynchronized
  have hKv := hK.1
  have hl := lv_entry ([.ref x, .int (nI pp)]) (n := 4) (kk_le rfl)
  rw [lg_entry_eq]
  generalize (lg_sl ([.ref x, .int (nI pp)]) ++ List.replicate (4 - (lg_sl ([.ref x, .int (nI pp)])).length) Slot.unset).toArray = ls at hl ⊢
  have hl : lv_has ls 4 [(0, .ref x), (1, .int (nI pp))] := hl
  generalize hQz : MQ below _ _ _ _ _ _ = Qz
  have hiX1 : ∀ w ∈ u_ws RX1 TX1 5, w ∈ wsX1_isOdd := fun w h => by first | exact List.mem_cons_of_mem _ (List.mem_append_right _ h) | exact List.mem_cons_of_mem _ (List.mem_append_left _ (List.mem_append_right _ h)) | exact List.mem_cons_of_mem _ (List.mem_append_left _ (List.mem_append_left _ (List.mem_append_right _ h))) | exact List.mem_cons_of_mem _ (List.mem_append_left _ (List.mem_append_left _ (List.mem_append_left _ (List.mem_append_right _ h)))) | (revert w h; decide +kernel)
  have lk14 : (Cond.fieldLink RX1 14 "StripeSwipes$Reading" "bits" "LStripeSwipes$Row;").before _ s = true := hts _ (by decide +kernel)
  refine lv_iconst (v := nI 0) hx hb dX1_isOdd_0 (by decide) ?_
  refine lv_istore_n (lv' := [(2, .int (nI 0)), (0, .ref x), (1, .int (nI pp))]) hx hb dX1_isOdd_1 rfl hl (by decide) rfl (fun ls hl => ?_)
  refine lv_iconst (v := nI 0) hx hb dX1_isOdd_2 (by decide) ?_
  refine lv_istore_n (lv' := [(3, .int (nI 0)), (2, .int (nI 0)), (0, .ref x), (1, .int (nI pp))]) hx hb dX1_isOdd_3 rfl hl (by decide) rfl (fun ls hl => ?_)
  have lp4_0 : ∀ (k1 : Nat) (i : Nat) (acc : Int32), 5 - i < k1 → (i ≤ 5) → (acc = oneS f pp i) → ∀ (ls : Array Slot), lv_has ls 4 [(3, .int (nI i)), (2, .int acc), (0, .ref x), (1, .int (nI pp))] → W p l e rm_kX1_isOdd s m ([.ref x, .int (nI pp)] : List Value).toArray below meth c s.heap [] 0 0 Qz (F0 m 4 ls []) := by
    intro k1
    induction k1 with
    | zero => intro i acc hm1; exact absurd hm1 (Nat.not_lt_zero _)
    | succ k1 ih1 =>
      intro i acc hm1 hi ha ls hl
      refine lv_iload_n hx hb dX1_isOdd_4 rfl (lv_at hl 0 rfl) ?_
      refine lv_iconst (v := nI 5) hx hb dX1_isOdd_5 (by decide) ?_
      refine ni_icmp_ge (tgt := 28) (by omega) (by omega) hx hb dX1_isOdd_6 (by decide) (fun c2 => ?_) (fun c2 => ?_)
      · refine lv_iload_n hx hb dX1_isOdd_28 rfl (lv_at hl 1 rfl) ?_
        refine lv_iconst (v := nI 1) hx hb dX1_isOdd_29 (by decide) ?_
        refine lv_iand hx hb dX1_isOdd_30 ?_
        refine lv_iconst (v := nI 1) hx hb dX1_isOdd_31 (by decide) ?_
        refine lv_icmp_ne (tgt := 39) hx hb dX1_isOdd_32 (by decide) (fun c3 => ?_) (fun c3 => ?_)
        · refine lv_iconst (v := nI 0) hx hb dX1_isOdd_39 (by decide) ?_
          subst hQz
          exact W.zret (v := nI 0) hx hb hr (by first | rfl | exact bI_nar _ | exact bI_fit _ | (first | exact Or.inl rfl | exact Or.inr rfl)) (fun t ht _ => ⟨_, rfl, by first | exact (congrArg bI (oddG_t (by omega) (by omega) ha (by assumption))).symm | exact (congrArg bI (oddG_f (by omega) (by omega) ha (by assumption))).symm, ht⟩) (fun _ h => nomatch h) dX1_isOdd_40
        · refine lv_iconst (v := nI 1) hx hb dX1_isOdd_35 (by decide) ?_
          refine lv_goto (tgt := 40) hx hb dX1_isOdd_36 (by decide) ?_
          subst hQz
          exact W.zret (v := nI 1) hx hb hr (by first | rfl | exact bI_nar _ | exact bI_fit _ | (first | exact Or.inl rfl | exact Or.inr rfl)) (fun t ht _ => ⟨_, rfl, by first | exact (congrArg bI (oddG_t (by omega) (by omega) ha (by assumption))).symm | exact (congrArg bI (oddG_f (by omega) (by omega) ha (by assumption))).symm, ht⟩) (fun _ h => nomatch h) dX1_isOdd_40
      · refine lv_iload_n hx hb dX1_isOdd_9 rfl (lv_at hl 1 rfl) ?_
        refine lv_aload_n hx hb dX1_isOdd_10 rfl (lv_at hl 2 rfl) ?_
        refine va_get (D := D) (ci := 1) (C := RX1) (T := TX1) (N := 5) hx hb hts hiX1 hown hKv hP 0 rfl rfl 0 (by decide) lk14 (fun _ h9 => h9) rfl dX1_isOdd_11 ?_
        refine lv_iload_n hx hb dX1_isOdd_14 rfl (lv_at hl 3 rfl) ?_
        refine lv_iload_n hx hb dX1_isOdd_15 rfl (lv_at hl 0 rfl) ?_
        refine ni_iadd hx hb dX1_isOdd_16 ?_
        refine vp_callSi (va_Run.run (va_runV (As := [.int (nI (pp + i))]) (rest := [.int acc]) ⟨hx, hb, hml, hown, hts⟩ (kX2_at_in l D ca qb ab cb f n (pp + i) (by first | rfl | assumption | omega | trivial | (exfalso; omega)) (by first | rfl | assumption | omega | trivial | (exfalso; omega)) (by first | rfl | assumption | omega | trivial | (exfalso; omega))) (cwV 1 hts gX1_isOdd_X2_at rfl rfl rfl (by decide +kernel) ⟨kk_le rfl, kk_le rfl⟩) (pvR hK (hP.sub (ws' := [(qb, .inr (2, [.ref ab, .int (nI n)])), (ab, .inl (ca 0, cb, .inl f))]) [1, 2] rfl) (va_recv hKv hP (ci := 2) (q0 := 1) rfl rfl)) rfl rfl hl.1 rfl (lv_room (kk_le rfl)) dX1_isOdd_17 ⟨kk_le rfl, kk_le rfl⟩)) (fun r4 hr4 => ?_)
        subst hr4
        refine lv_iadd hx hb dX1_isOdd_20 ?_
        refine lv_istore_n (lv' := [(2, .int (acc + (f (pp + i)))), (3, .int (nI i)), (0, .ref x), (1, .int (nI pp))]) hx hb dX1_isOdd_21 rfl hl (by decide) rfl (fun ls hl => ?_)
        refine lv_iinc (v := nI (i + 1)) (lv' := [(3, .int (nI (i + 1))), (2, .int (acc + (f (pp + i)))), (0, .ref x), (1, .int (nI pp))]) hx hb dX1_isOdd_22 hl (k := 1) rfl (ni_inc _ _ (by decide)) (by decide) rfl (fun ls hl => ?_)
        refine lv_goto (tgt := 4) hx hb dX1_isOdd_25 (by decide) ?_
        exact ih1 (i + 1) (acc + (f (pp + i))) (by omega) (by omega) (by rw [ha]; rfl) ls (lv_sub hl [0, 1, 2, 3] rfl)
  exact lp4_0 ((5 - 0) + 1) 0 (nI 0) (by omega) (by omega) (by rfl) ls (lv_sub hl [0, 1, 2, 3] rfl)
abbrev rm_kX1_placeOf : Room := { frames := 0, cells := 0, slots := 0, locals := 0 }
set_option maxHeartbeats 4000000 in
set_option maxRecDepth 100000 in
theorem kX1_placeOf (l : Launch) (D : va_G) (ca : Nat → ClassId) (x qb ql : Nat) (rs : Int32) (st : Nat) (ck : Int32) (i : Nat) : Met l yX1_placeOf wsX1_placeOf rm_kX1_placeOf (pcR D ca [.ref x, .int (nI i)] [(x, .inr (1, [.ref qb, .ref ql, .int rs, .int (nI st), .int ck]))]) (vp_Si (fun z : Int32 => z = nI (gp st i))) 0 0 (fun _ => False) := by
  refine Met.ofW (cc := cX1_placeOf) (maxL := 2) (ret := (some .int)) (by decide) rfl ?_
  intro p e s m args below meth c s₁ B hml hv
  obtain ⟨rfl, hP, hK⟩ := hv
  have hx := B.exec
  have hb := B.bytes
  have hr := B.returns
  have hts := atoms_spec (ws := wsX1_placeOf) B.pre
  have hown : s.vm.findClass RX1 = some m.cls := findClass_of_methodNamed B.named
  have hlocks := B.notSynchronized
  have hKv := hK.1
  have hl := lv_entry ([.ref x, .int (nI i)]) (n := 2) (kk_le rfl)
  rw [lg_entry_eq]
  generalize (lg_sl ([.ref x, .int (nI i)]) ++ List.replicate (2 - (lg_sl ([.ref x, .int (nI i)])).length) Slot.unset).toArray = ls at hl ⊢
  have hl : lv_has ls 2 [(0, .ref x), (1, .int (nI i))] := hl
  have hiX1 : ∀ w ∈ u_ws RX1 TX1 5, w ∈ wsX1_placeOf := fun w h => by first | exact List.mem_cons_of_mem _ (List.mem_append_right _ h) | exact List.mem_cons_of_mem _ (List.mem_append_left _ (List.mem_append_right _ h)) | exact List.mem_cons_of_mem _ (List.mem_append_left _ (List.mem_append_left _ (List.mem_append_right _ h))) | exact List.mem_cons_of_mem _ (List.mem_append_left _ (List.mem_append_left _ (List.mem_append_left _ (List.mem_append_right _ h)))) | (revert w h; decide +kernel)
  have lk27 : (Cond.fieldLink RX1 27 "StripeSwipes$Reading" "start" "I").before _ s = true := hts _ (by decide +kernel)
  refine lv_aload_n hx hb dX1_placeOf_0 rfl (lv_at hl 0 rfl) ?_
  refine va_get (D := D) (ci := 1) (C := RX1) (T := TX1) (N := 5) hx hb hts hiX1 hown hKv hP 0 rfl rfl 3 (by decide) lk27 (fun _ h9 => h9) rfl dX1_placeOf_1 ?_
  refine lv_iconst (v := nI 5) hx hb dX1_placeOf_4 (by decide) ?_
  refine lv_iload_n hx hb dX1_placeOf_5 rfl (lv_at hl 1 rfl) ?_
  refine lv_iconst (v := nI 1) hx hb dX1_placeOf_6 (by decide) ?_
  refine ni_iadd hx hb dX1_placeOf_7 ?_
  refine ni_imul hx hb dX1_placeOf_8 ?_
  refine ni_iadd hx hb dX1_placeOf_9 ?_
  exact W.iret (v := nI (st + (5 * (i + 1)))) hx hb hr (fun t ht _ => ⟨_, rfl, by exact congrArg nI (by unfold gp; omega), ht⟩) (fun _ h => nomatch h) dX1_placeOf_10
abbrev rm_kX1_readLetters : Room := { frames := 2, cells := 0, slots := 0, locals := 44 }
set_option maxHeartbeats 4000000 in
set_option maxRecDepth 100000 in
theorem kX1_readLetters (l : Launch) (D : va_G) (ca : Nat → ClassId) (sz : Nat) (x qb ab cb ql : Nat) (rs : Int32) (st : Nat) (ck : Int32) (f : Nat → Int32) (n : Nat) (al cl : Nat) (h : Nat → Int32) (nl : Nat) (hn : n ≤ cb) (hc : cb < 1000000) (hnl : nl ≤ cl) (hcl : cl < 1000000) (hst : st + 5 ≤ n) (h200 : n ≤ 200) (hc40 : 40 ≤ cl) : Met l yX1_readLetters wsX1_readLetters rm_kX1_readLetters (pcM D ca [.ref x] [(x, .inr (1, [.ref qb, .ref ql, .int rs, .int (nI st), .int ck])), (qb, .inr (2, [.ref ab, .int (nI n)])), (ab, .inl (ca 0, cb, .inl f)), (ql, .inr (2, [.ref al, .int (nI nl)])), (al, .inl (ca 0, cl, .inl h))] sz) (va_Qv (fun (u : Unit) => True) (qB D (va_A [(x, .inr (1, [.ref qb, .ref ql, .int rs, .int (nI st), .int ck])), (qb, .inr (2, [.ref ab, .int (nI n)])), (ab, .inl (ca 0, cb, .inl f)), (ql, .inr (2, [.ref al, .int (nI nl)])), (al, .inl (ca 0, cl, .inl h))] sz) (fun u : Unit => [(x, .inr (1, [.ref qb, .ref ql, .int rs, .int (nI st), .int ck])), (qb, .inr (2, [.ref ab, .int (nI n)])), (ab, .inl (ca 0, cb, .inl f)), (ql, .inr (2, [.ref al, .int (nI (ltN f n st))])), (al, .inl (ca 0, cl, .inl (apF h 0 (ltL f n st))))])) (va_A [(x, .inr (1, [.ref qb, .ref ql, .int rs, .int (nI st), .int ck])), (qb, .inr (2, [.ref ab, .int (nI n)])), (ab, .inl (ca 0, cb, .inl f)), (ql, .inr (2, [.ref al, .int (nI nl)])), (al, .inl (ca 0, cl, .inl h))] sz)) 0 0 (va_A [(x, .inr (1, [.ref qb, .ref ql, .int rs, .int (nI st), .int ck])), (qb, .inr (2, [.ref ab, .int (nI n)])), (ab, .inl (ca 0, cb, .inl f)), (ql, .inr (2, [.ref al, .int (nI nl)])), (al, .inl (ca 0, cl, .inl h))] sz) := by
  refine Met.ofW (cc := cX1_readLetters) (maxL := 3) (ret := none) (by decide) rfl ?_
  intro p e s m args below meth c s₁ B hml hv
  obtain ⟨rfl, hsz, hP, hK, hD0⟩ := hv
  have hx := B.exec
  have hb := B.bytes
  have hr := B.returns
  have hts := atoms_spec (ws := wsX1_readLetters) B.pre
  have hown : s.vm.findClass RX1 = some m.cls := findClass_of_methodNamed B.named
  have hlocks := B.notSynchronized
  subst hsz
  have hD := hD0.self (sz := s.heap.size)
  generalize hAe : va_A [(x, .inr (1, [.ref qb, .ref ql, .int rs, .int (nI st), .int ck])), (qb, .inr (2, [.ref ab, .int (nI n)])), (ab, .inl (ca 0, cb, .inl f)), (ql, .inr (2, [.ref al, .int (nI nl)])), (al, .inl (ca 0, cl, .inl h))] s.heap.size = A at hD ⊢
  have hA : ∀ q : Nat, s.heap.size ≤ q → A q := fun q h => by rw [← hAe]; exact Or.inr h
  have hS : va_S A s.heap s.heap [] := va_S.rf
  have hP : va_P D vwCl [(x, .inr (1, [.ref qb, .ref ql, .int rs, .int (nI st), .int ck])), (qb, .inr (2, [.ref ab, .int (nI n)])), (ab, .inl (ca 0, cb, .inl f)), (ql, .inr (2, [.ref al, .int (nI nl)])), (al, .inl (ca 0, cl, .inl h))] s.heap := hP
  have hKv := hK.1
  have hl := lv_entry ([.ref x]) (n := 3) (kk_le rfl)
  rw [lg_entry_eq]
  generalize (lg_sl ([.ref x]) ++ List.replicate (3 - (lg_sl ([.ref x])).length) Slot.unset).toArray = ls at hl ⊢
  have hl : lv_has ls 3 [(0, .ref x)] := hl
  generalize hQz : MQ below _ _ _ _ _ _ = Qz
  have hiX1 : ∀ w ∈ u_ws RX1 TX1 5, w ∈ wsX1_readLetters := fun w h => by first | exact List.mem_cons_of_mem _ (List.mem_append_right _ h) | exact List.mem_cons_of_mem _ (List.mem_append_left _ (List.mem_append_right _ h)) | exact List.mem_cons_of_mem _ (List.mem_append_left _ (List.mem_append_left _ (List.mem_append_right _ h))) | exact List.mem_cons_of_mem _ (List.mem_append_left _ (List.mem_append_left _ (List.mem_append_left _ (List.mem_append_right _ h)))) | (revert w h; decide +kernel)
  have lk20 : (Cond.fieldLink RX1 20 "StripeSwipes$Reading" "letters" "LStripeSwipes$Row;").before _ s = true := hts _ (by decide +kernel)
  have lk27 : (Cond.fieldLink RX1 27 "StripeSwipes$Reading" "start" "I").before _ s = true := hts _ (by decide +kernel)
  have lk14 : (Cond.fieldLink RX1 14 "StripeSwipes$Reading" "bits" "LStripeSwipes$Row;").before _ s = true := hts _ (by decide +kernel)
  refine lv_aload_n hx hb dX1_readLetters_0 rfl (lv_at hl 0 rfl) ?_
  refine va_get (D := D) (ci := 1) (C := RX1) (T := TX1) (N := 5) hx hb hts hiX1 hown hKv hP 0 rfl rfl 1 (by decide) lk20 (fun _ h9 => h9) rfl dX1_readLetters_1 ?_
  have hPc := hP.sub (ws' := [(ql, .inr (2, [.ref al, .int (nI nl)])), (al, .inl (ca 0, cl, .inl h))]) [3, 4] rfl
  have hDc := hD.sub (ws' := [(ql, .inr (2, [.ref al, .int (nI nl)])), (al, .inl (ca 0, cl, .inl h))]) [3, 4] (by decide) rfl
  have hFc := va_free (wc := [(ql, .inr (2, [.ref al, .int (nI nl)])), (al, .inl (ca 0, cl, .inl h))]) hD hS hA [3, 4] rfl
  refine va_callv (va_runV (As := []) (rest := []) ⟨hx, hb, hml, hown, hts⟩ (kX2_empty l D ca s.heap.size ql al cl h nl (by first | rfl | assumption | omega | trivial | (exfalso; omega)) (by first | rfl | assumption | omega | trivial | (exfalso; omega))) (cwV 0 hts gX1_readLetters_X2_empty rfl rfl rfl (by decide +kernel) ⟨kk_le rfl, kk_le rfl⟩) (pvM hK hPc (my_D_true hDc) (va_recv hKv hP (ci := 2) (q0 := 3) rfl rfl)) rfl rfl hl.1 rfl (lv_room (kk_le rfl)) dX1_readLetters_4 ⟨kk_le rfl, kk_le rfl⟩) hS (fun q _ h => hFc q h) hFc (fun u t H1 locs ht hvm hwv hBv hz1 hk1 hS => ?_)
  obtain ⟨hP1, hD1⟩ := hBv
  rw [ht] at hP1
  have hP1 : va_P D vwCl [(ql, .inr (2, [.ref al, .int (nI 0)])), (al, .inl (ca 0, cl, .inl h))] H1 := hP1
  have hD1 : va_D _ [(ql, .inr (2, [.ref al, .int (nI 0)])), (al, .inl (ca 0, cl, .inl h))] := hD1
  have hw1 := hwv
  obtain ⟨hP, hD⟩ := va_join (wr := [(x, .inr (1, [.ref qb, .ref ql, .int rs, .int (nI st), .int ck])), (qb, .inr (2, [.ref ab, .int (nI n)])), (ab, .inl (ca 0, cb, .inl f))]) (w1 := [(ql, .inr (2, [.ref al, .int (nI 0)])), (al, .inl (ca 0, cl, .inl h))]) hP hD [3, 4] [0, 1, 2] rfl rfl (by decide) (by decide) hk1 hFc hP1 hD1
  generalize H1 = H at hP hS ⊢
  have hP := hP.sub (ws' := [(x, .inr (1, [.ref qb, .ref ql, .int rs, .int (nI st), .int ck])), (qb, .inr (2, [.ref ab, .int (nI n)])), (ab, .inl (ca 0, cb, .inl f)), (ql, .inr (2, [.ref al, .int (nI 0)])), (al, .inl (ca 0, cl, .inl h))]) [0, 1, 2, 3, 4] rfl
  have hD := hD.sub (ws' := [(x, .inr (1, [.ref qb, .ref ql, .int rs, .int (nI st), .int ck])), (qb, .inr (2, [.ref ab, .int (nI n)])), (ab, .inl (ca 0, cb, .inl f)), (ql, .inr (2, [.ref al, .int (nI 0)])), (al, .inl (ca 0, cl, .inl h))]) [0, 1, 2, 3, 4] (by decide) rfl
  refine lv_aload_n hx hb dX1_readLetters_7 rfl (lv_at hl 0 rfl) ?_
  refine va_get (D := D) (ci := 1) (C := RX1) (T := TX1) (N := 5) hx hb hts hiX1 hown hKv hP 0 rfl rfl 3 (by decide) lk27 (fun _ h9 => h9) rfl dX1_readLetters_8 ?_
  refine lv_iconst (v := (-1)) hx hb dX1_readLetters_11 (by decide) ?_
  refine lv_icmp_ne (tgt := 16) hx hb dX1_readLetters_12 (by decide) (fun c3 => ?_) (fun c3 => ?_)
  · refine lv_aload_n hx hb dX1_readLetters_16 rfl (lv_at hl 0 rfl) ?_
    refine va_get (D := D) (ci := 1) (C := RX1) (T := TX1) (N := 5) hx hb hts hiX1 hown hKv hP 0 rfl rfl 3 (by decide) lk27 (fun _ h9 => h9) rfl dX1_readLetters_17 ?_
    refine lv_iconst (v := nI 5) hx hb dX1_readLetters_20 (by decide) ?_
    refine ni_iadd hx hb dX1_readLetters_21 ?_
    refine lv_istore_n (lv' := [(1, .int (nI (st + 5))), (0, .ref x)]) hx hb dX1_readLetters_22 rfl hl (by decide) rfl (fun ls hl => ?_)
    have lp23_3 : ∀ (k1 : Nat) (i : Nat) (pl : Nat), n + 5 - pl < k1 → (pl = gp st i) → (pl ≤ n) → (∀ j, j < i → okG f n st j = true) → ∀ (H : Heap) (locs : List Loc), va_P D vwCl [(x, .inr (1, [.ref qb, .ref ql, .int rs, .int (nI st), .int ck])), (qb, .inr (2, [.ref ab, .int (nI n)])), (ab, .inl (ca 0, cb, .inl f)), (ql, .inr (2, [.ref al, .int (nI i)])), (al, .inl (ca 0, cl, .inl (apF h 0 (lst (lF f st) i))))] H → va_D A [(x, .inr (1, [.ref qb, .ref ql, .int rs, .int (nI st), .int ck])), (qb, .inr (2, [.ref ab, .int (nI n)])), (ab, .inl (ca 0, cb, .inl f)), (ql, .inr (2, [.ref al, .int (nI i)])), (al, .inl (ca 0, cl, .inl (apF h 0 (lst (lF f st) i))))] → va_S A s.heap H locs → ∀ (ls : Array Slot), lv_has ls 3 [(1, .int (nI pl)), (0, .ref x)] → W p l e rm_kX1_readLetters s m ([.ref x] : List Value).toArray below meth c H locs 0 0 Qz (F0 m 23 ls []) := by
      intro k1
      induction k1 with
      | zero => intro i pl hm1; exact absurd hm1 (Nat.not_lt_zero _)
      | succ k1 ih1 =>
        intro i pl hm1 hpl hle hok H locs hP hD hS ls hl
        refine lv_iload_n hx hb dX1_readLetters_23 rfl (lv_at hl 0 rfl) ?_
        refine lv_aload_n hx hb dX1_readLetters_24 rfl (lv_at hl 1 rfl) ?_
        refine va_get (D := D) (ci := 1) (C := RX1) (T := TX1) (N := 5) hx hb hts hiX1 hown hKv hP 0 rfl rfl 0 (by decide) lk14 (fun _ h9 => h9) rfl dX1_readLetters_25 ?_
        refine vp_callSi (va_Run.run (va_runV (As := []) (rest := [.int (nI pl)]) ⟨hx, hb, hml, hown, hts⟩ (kX2_size l D ca qb ab cb f n (by first | rfl | assumption | omega | trivial | (exfalso; omega)) (by first | rfl | assumption | omega | trivial | (exfalso; omega))) (cwV 0 hts gX1_readLetters_X2_size rfl rfl rfl (by decide +kernel) ⟨kk_le rfl, kk_le rfl⟩) (pvR hK (hP.sub (ws' := [(qb, .inr (2, [.ref ab, .int (nI n)])), (ab, .inl (ca 0, cb, .inl f))]) [1, 2] rfl) (va_recv hKv hP (ci := 2) (q0 := 1) rfl rfl)) rfl rfl hl.1 rfl (lv_room (kk_le rfl)) dX1_readLetters_28 ⟨kk_le rfl, kk_le rfl⟩)) (fun r5 hr5 => ?_)
        subst hr5
        refine lv_iconst (v := nI 5) hx hb dX1_readLetters_31 (by decide) ?_
        refine ni_isub (by omega) hx hb dX1_readLetters_32 ?_
        refine ni_icmp_gt (tgt := 72) (by omega) (by omega) hx hb dX1_readLetters_33 (by decide) (fun c6 => ?_) (fun c6 => ?_)
        · subst hQz
          have e7 : (nI i : Int32) = nI (ltN f n st) := by (have hz : ltN f n st = i := lt_end hok (by first | exact okG_a (by rw [← hpl]; omega) | exact okG_b (by rw [← hpl]; assumption) | exact okG_c (by rw [← hpl]; assumption)) (by unfold gp at hpl; omega); first | rw [hz] | (unfold ltL; rw [hz]))
          have hP : va_P D vwCl [(x, .inr (1, [.ref qb, .ref ql, .int rs, .int (nI st), .int ck])), (qb, .inr (2, [.ref ab, .int (nI n)])), (ab, .inl (ca 0, cb, .inl f)), (ql, .inr (2, [.ref al, .int (nI (ltN f n st))])), (al, .inl (ca 0, cl, .inl (apF h 0 (lst (lF f st) i))))] H := Eq.mp (congrArg (fun z9 : Int32 => va_P D vwCl [(x, .inr (1, [.ref qb, .ref ql, .int rs, .int (nI st), .int ck])), (qb, .inr (2, [.ref ab, .int (nI n)])), (ab, .inl (ca 0, cb, .inl f)), (ql, .inr (2, [.ref al, .int z9])), (al, .inl (ca 0, cl, .inl (apF h 0 (lst (lF f st) i))))] H) e7) hP
          have hD : va_D A [(x, .inr (1, [.ref qb, .ref ql, .int rs, .int (nI st), .int ck])), (qb, .inr (2, [.ref ab, .int (nI n)])), (ab, .inl (ca 0, cb, .inl f)), (ql, .inr (2, [.ref al, .int (nI (ltN f n st))])), (al, .inl (ca 0, cl, .inl (apF h 0 (lst (lF f st) i))))] := Eq.mp (congrArg (fun z9 : Int32 => va_D A [(x, .inr (1, [.ref qb, .ref ql, .int rs, .int (nI st), .int ck])), (qb, .inr (2, [.ref ab, .int (nI n)])), (ab, .inl (ca 0, cb, .inl f)), (ql, .inr (2, [.ref al, .int z9])), (al, .inl (ca 0, cl, .inl (apF h 0 (lst (lF f st) i))))]) e7) hD
          have e8 : (apF h 0 (lst (lF f st) i) : Nat → Int32) = apF h 0 (ltL f n st) := by (have hz : ltN f n st = i := lt_end hok (by first | exact okG_a (by rw [← hpl]; omega) | exact okG_b (by rw [← hpl]; assumption) | exact okG_c (by rw [← hpl]; assumption)) (by unfold gp at hpl; omega); first | rw [hz] | (unfold ltL; rw [hz]))
          have hP : va_P D vwCl [(x, .inr (1, [.ref qb, .ref ql, .int rs, .int (nI st), .int ck])), (qb, .inr (2, [.ref ab, .int (nI n)])), (ab, .inl (ca 0, cb, .inl f)), (ql, .inr (2, [.ref al, .int (nI (ltN f n st))])), (al, .inl (ca 0, cl, .inl (apF h 0 (ltL f n st))))] H := Eq.mp (congrArg (fun z9 : Nat → Int32 => va_P D vwCl [(x, .inr (1, [.ref qb, .ref ql, .int rs, .int (nI st), .int ck])), (qb, .inr (2, [.ref ab, .int (nI n)])), (ab, .inl (ca 0, cb, .inl f)), (ql, .inr (2, [.ref al, .int (nI (ltN f n st))])), (al, .inl (ca 0, cl, .inl z9))] H) e8) hP
          have hD : va_D A [(x, .inr (1, [.ref qb, .ref ql, .int rs, .int (nI st), .int ck])), (qb, .inr (2, [.ref ab, .int (nI n)])), (ab, .inl (ca 0, cb, .inl f)), (ql, .inr (2, [.ref al, .int (nI (ltN f n st))])), (al, .inl (ca 0, cl, .inl (apF h 0 (ltL f n st))))] := Eq.mp (congrArg (fun z9 : Nat → Int32 => va_D A [(x, .inr (1, [.ref qb, .ref ql, .int rs, .int (nI st), .int ck])), (qb, .inr (2, [.ref ab, .int (nI n)])), (ab, .inl (ca 0, cb, .inl f)), (ql, .inr (2, [.ref al, .int (nI (ltN f n st))])), (al, .inl (ca 0, cl, .inl z9))]) e8) hD
          exact W.vret hx hb hr (fun t ht hW => ⟨⟨(), rfl, by trivial, by rw [ht]; exact hP, hD⟩, hS.F ht⟩) hS.2.2 dX1_readLetters_72
        · refine lv_aload_n hx hb dX1_readLetters_36 rfl (lv_at hl 1 rfl) ?_
          refine lv_iload_n hx hb dX1_readLetters_37 rfl (lv_at hl 0 rfl) ?_
          refine vp_callSi (va_Run.run (va_runV (As := [.int (nI pl)]) (rest := []) ⟨hx, hb, hml, hown, hts⟩ (kX1_numberAt l D ca x qb ab cb ql rs (nI st) ck f n pl (by first | rfl | assumption | omega | trivial | (exfalso; omega)) (by first | rfl | assumption | omega | trivial | (exfalso; omega)) (by first | rfl | assumption | omega | trivial | (exfalso; omega))) (cwV 1 hts gX1_readLetters_X1_numberAt rfl rfl rfl (by decide +kernel) ⟨kk_le rfl, kk_le rfl⟩) (pvR hK (hP.sub (ws' := [(x, .inr (1, [.ref qb, .ref ql, .int rs, .int (nI st), .int ck])), (qb, .inr (2, [.ref ab, .int (nI n)])), (ab, .inl (ca 0, cb, .inl f))]) [0, 1, 2] rfl) (va_recv hKv hP (ci := 1) (q0 := 0) rfl rfl)) rfl rfl hl.1 rfl (lv_room (kk_le rfl)) dX1_readLetters_38 ⟨kk_le rfl, kk_le rfl⟩)) (fun r9 hr9 => ?_)
          subst hr9
          refine lv_istore_n (lv' := [(2, .int (numG f pl)), (1, .int (nI pl)), (0, .ref x)]) hx hb dX1_readLetters_41 rfl hl (by decide) rfl (fun ls hl => ?_)
          refine lv_iload_n hx hb dX1_readLetters_42 rfl (lv_at hl 0 rfl) ?_
          refine lv_bipush (v := nI 15) hx hb dX1_readLetters_43 (by decide) ?_
          refine lv_icmp_eq (tgt := 56) hx hb dX1_readLetters_45 (by decide) (fun c10 => ?_) (fun c10 => ?_)
          · subst hQz
            have e11 : (nI i : Int32) = nI (ltN f n st) := by (have hz : ltN f n st = i := lt_end hok (by first | exact okG_a (by rw [← hpl]; omega) | exact okG_b (by rw [← hpl]; assumption) | exact okG_c (by rw [← hpl]; assumption)) (by unfold gp at hpl; omega); first | rw [hz] | (unfold ltL; rw [hz]))
            have hP : va_P D vwCl [(x, .inr (1, [.ref qb, .ref ql, .int rs, .int (nI st), .int ck])), (qb, .inr (2, [.ref ab, .int (nI n)])), (ab, .inl (ca 0, cb, .inl f)), (ql, .inr (2, [.ref al, .int (nI (ltN f n st))])), (al, .inl (ca 0, cl, .inl (apF h 0 (lst (lF f st) i))))] H := Eq.mp (congrArg (fun z9 : Int32 => va_P D vwCl [(x, .inr (1, [.ref qb, .ref ql, .int rs, .int (nI st), .int ck])), (qb, .inr (2, [.ref ab, .int (nI n)])), (ab, .inl (ca 0, cb, .inl f)), (ql, .inr (2, [.ref al, .int z9])), (al, .inl (ca 0, cl, .inl (apF h 0 (lst (lF f st) i))))] H) e11) hP
            have hD : va_D A [(x, .inr (1, [.ref qb, .ref ql, .int rs, .int (nI st), .int ck])), (qb, .inr (2, [.ref ab, .int (nI n)])), (ab, .inl (ca 0, cb, .inl f)), (ql, .inr (2, [.ref al, .int (nI (ltN f n st))])), (al, .inl (ca 0, cl, .inl (apF h 0 (lst (lF f st) i))))] := Eq.mp (congrArg (fun z9 : Int32 => va_D A [(x, .inr (1, [.ref qb, .ref ql, .int rs, .int (nI st), .int ck])), (qb, .inr (2, [.ref ab, .int (nI n)])), (ab, .inl (ca 0, cb, .inl f)), (ql, .inr (2, [.ref al, .int z9])), (al, .inl (ca 0, cl, .inl (apF h 0 (lst (lF f st) i))))]) e11) hD
            have e12 : (apF h 0 (lst (lF f st) i) : Nat → Int32) = apF h 0 (ltL f n st) := by (have hz : ltN f n st = i := lt_end hok (by first | exact okG_a (by rw [← hpl]; omega) | exact okG_b (by rw [← hpl]; assumption) | exact okG_c (by rw [← hpl]; assumption)) (by unfold gp at hpl; omega); first | rw [hz] | (unfold ltL; rw [hz]))
            have hP : va_P D vwCl [(x, .inr (1, [.ref qb, .ref ql, .int rs, .int (nI st), .int ck])), (qb, .inr (2, [.ref ab, .int (nI n)])), (ab, .inl (ca 0, cb, .inl f)), (ql, .inr (2, [.ref al, .int (nI (ltN f n st))])), (al, .inl (ca 0, cl, .inl (apF h 0 (ltL f n st))))] H := Eq.mp (congrArg (fun z9 : Nat → Int32 => va_P D vwCl [(x, .inr (1, [.ref qb, .ref ql, .int rs, .int (nI st), .int ck])), (qb, .inr (2, [.ref ab, .int (nI n)])), (ab, .inl (ca 0, cb, .inl f)), (ql, .inr (2, [.ref al, .int (nI (ltN f n st))])), (al, .inl (ca 0, cl, .inl z9))] H) e12) hP
            have hD : va_D A [(x, .inr (1, [.ref qb, .ref ql, .int rs, .int (nI st), .int ck])), (qb, .inr (2, [.ref ab, .int (nI n)])), (ab, .inl (ca 0, cb, .inl f)), (ql, .inr (2, [.ref al, .int (nI (ltN f n st))])), (al, .inl (ca 0, cl, .inl (apF h 0 (ltL f n st))))] := Eq.mp (congrArg (fun z9 : Nat → Int32 => va_D A [(x, .inr (1, [.ref qb, .ref ql, .int rs, .int (nI st), .int ck])), (qb, .inr (2, [.ref ab, .int (nI n)])), (ab, .inl (ca 0, cb, .inl f)), (ql, .inr (2, [.ref al, .int (nI (ltN f n st))])), (al, .inl (ca 0, cl, .inl z9))]) e12) hD
            exact W.vret hx hb hr (fun t ht hW => ⟨⟨(), rfl, by trivial, by rw [ht]; exact hP, hD⟩, hS.F ht⟩) hS.2.2 dX1_readLetters_56
          · refine lv_aload_n hx hb dX1_readLetters_48 rfl (lv_at hl 2 rfl) ?_
            refine lv_iload_n hx hb dX1_readLetters_49 rfl (lv_at hl 1 rfl) ?_
            refine vp_callSi (va_Run.run (va_runV (As := [.int (nI pl)]) (rest := []) ⟨hx, hb, hml, hown, hts⟩ (kX1_isOdd l D ca x qb ab cb ql rs (nI st) ck f n pl (by first | rfl | assumption | omega | trivial | (exfalso; omega)) (by first | rfl | assumption | omega | trivial | (exfalso; omega)) (by first | rfl | assumption | omega | trivial | (exfalso; omega))) (cwV 1 hts gX1_readLetters_X1_isOdd rfl rfl rfl (by decide +kernel) ⟨kk_le rfl, kk_le rfl⟩) (pvR hK (hP.sub (ws' := [(x, .inr (1, [.ref qb, .ref ql, .int rs, .int (nI st), .int ck])), (qb, .inr (2, [.ref ab, .int (nI n)])), (ab, .inl (ca 0, cb, .inl f))]) [0, 1, 2] rfl) (va_recv hKv hP (ci := 1) (q0 := 0) rfl rfl)) rfl rfl hl.1 rfl (lv_room (kk_le rfl)) dX1_readLetters_50 ⟨kk_le rfl, kk_le rfl⟩)) (fun r13 hr13 => ?_)
            subst hr13
            refine bi_if_ne (tgt := 57) hx hb dX1_readLetters_53 (by decide) (fun c14 => ?_) (fun c14 => ?_)
            · refine lv_aload_n hx hb dX1_readLetters_57 rfl (lv_at hl 2 rfl) ?_
              refine va_get (D := D) (ci := 1) (C := RX1) (T := TX1) (N := 5) hx hb hts hiX1 hown hKv hP 0 rfl rfl 1 (by decide) lk20 (fun _ h9 => h9) rfl dX1_readLetters_58 ?_
              refine lv_iload_n hx hb dX1_readLetters_61 rfl (lv_at hl 0 rfl) ?_
              have hPc := hP.sub (ws' := [(ql, .inr (2, [.ref al, .int (nI i)])), (al, .inl (ca 0, cl, .inl (apF h 0 (lst (lF f st) i))))]) [3, 4] rfl
              have hDc := hD.sub (ws' := [(ql, .inr (2, [.ref al, .int (nI i)])), (al, .inl (ca 0, cl, .inl (apF h 0 (lst (lF f st) i))))]) [3, 4] (by decide) rfl
              have hFc := va_free (wc := [(ql, .inr (2, [.ref al, .int (nI i)])), (al, .inl (ca 0, cl, .inl (apF h 0 (lst (lF f st) i))))]) hD hS hA [3, 4] rfl
              refine va_calli (va_runV (As := [.int (numG f pl)]) (rest := []) ⟨hx, hb, hml, hown, hts⟩ (kX2_add l D ca H.size ql al cl (apF h 0 (lst (lF f st) i)) i (numG f pl) (by unfold gp at hpl; omega) (by omega)) (cwV 1 hts gX1_readLetters_X2_add rfl rfl rfl (by decide +kernel) ⟨kk_le rfl, kk_le rfl⟩) (pvM hK hPc (my_D_true hDc) (va_recv hKv hP (ci := 2) (q0 := 3) rfl rfl)) rfl rfl hl.1 rfl (lv_room (kk_le rfl)) dX1_readLetters_62 ⟨kk_le rfl, kk_le rfl⟩) hS (fun q _ h => hFc q h) hFc (fun r15 u t H1 locs ht hvm hwv hBv hz1 hk1 hS => ?_)
              obtain ⟨hP1, hD1⟩ := hBv
              rw [ht] at hP1
              have hP1 : va_P D vwCl [(ql, .inr (2, [.ref al, .int (nI (i + 1))])), (al, .inl (ca 0, cl, .inl (upd (apF h 0 (lst (lF f st) i)) i (numG f pl))))] H1 := hP1
              have hD1 : va_D _ [(ql, .inr (2, [.ref al, .int (nI (i + 1))])), (al, .inl (ca 0, cl, .inl (upd (apF h 0 (lst (lF f st) i)) i (numG f pl))))] := hD1
              obtain ⟨hr15, hw15⟩ := hwv
              subst hr15
              obtain ⟨hP, hD⟩ := va_join (wr := [(x, .inr (1, [.ref qb, .ref ql, .int rs, .int (nI st), .int ck])), (qb, .inr (2, [.ref ab, .int (nI n)])), (ab, .inl (ca 0, cb, .inl f))]) (w1 := [(ql, .inr (2, [.ref al, .int (nI (i + 1))])), (al, .inl (ca 0, cl, .inl (upd (apF h 0 (lst (lF f st) i)) i (numG f pl))))]) hP hD [3, 4] [0, 1, 2] rfl rfl (by decide) (by decide) hk1 hFc hP1 hD1
              generalize H1 = H at hP hS ⊢
              have hP := hP.sub (ws' := [(x, .inr (1, [.ref qb, .ref ql, .int rs, .int (nI st), .int ck])), (qb, .inr (2, [.ref ab, .int (nI n)])), (ab, .inl (ca 0, cb, .inl f)), (ql, .inr (2, [.ref al, .int (nI (i + 1))])), (al, .inl (ca 0, cl, .inl (upd (apF h 0 (lst (lF f st) i)) i (numG f pl))))]) [0, 1, 2, 3, 4] rfl
              have hD := hD.sub (ws' := [(x, .inr (1, [.ref qb, .ref ql, .int rs, .int (nI st), .int ck])), (qb, .inr (2, [.ref ab, .int (nI n)])), (ab, .inl (ca 0, cb, .inl f)), (ql, .inr (2, [.ref al, .int (nI (i + 1))])), (al, .inl (ca 0, cl, .inl (upd (apF h 0 (lst (lF f st) i)) i (numG f pl))))]) [0, 1, 2, 3, 4] (by decide) rfl
              refine lv_pop hx hb dX1_readLetters_65 rfl ?_
              refine lv_iinc (v := nI (pl + 5)) (lv' := [(1, .int (nI (pl + 5))), (2, .int (numG f pl)), (0, .ref x)]) hx hb dX1_readLetters_66 hl (k := 1) rfl (ni_inc _ _ (by decide)) (by decide) rfl (fun ls hl => ?_)
              refine lv_goto (tgt := 23) hx hb dX1_readLetters_69 (by decide) ?_
              have e17 : (upd (apF h 0 (lst (lF f st) i)) i (numG f pl) : Nat → Int32) = apF h 0 (lst (lF f st) (i + 1)) := by exact apL_step h (by rw [hpl]; rfl)
              have hP : va_P D vwCl [(x, .inr (1, [.ref qb, .ref ql, .int rs, .int (nI st), .int ck])), (qb, .inr (2, [.ref ab, .int (nI n)])), (ab, .inl (ca 0, cb, .inl f)), (ql, .inr (2, [.ref al, .int (nI (i + 1))])), (al, .inl (ca 0, cl, .inl (apF h 0 (lst (lF f st) (i + 1)))))] H := Eq.mp (congrArg (fun z9 : Nat → Int32 => va_P D vwCl [(x, .inr (1, [.ref qb, .ref ql, .int rs, .int (nI st), .int ck])), (qb, .inr (2, [.ref ab, .int (nI n)])), (ab, .inl (ca 0, cb, .inl f)), (ql, .inr (2, [.ref al, .int (nI (i + 1))])), (al, .inl (ca 0, cl, .inl z9))] H) e17) hP
              have hD : va_D A [(x, .inr (1, [.ref qb, .ref ql, .int rs, .int (nI st), .int ck])), (qb, .inr (2, [.ref ab, .int (nI n)])), (ab, .inl (ca 0, cb, .inl f)), (ql, .inr (2, [.ref al, .int (nI (i + 1))])), (al, .inl (ca 0, cl, .inl (apF h 0 (lst (lF f st) (i + 1)))))] := Eq.mp (congrArg (fun z9 : Nat → Int32 => va_D A [(x, .inr (1, [.ref qb, .ref ql, .int rs, .int (nI st), .int ck])), (qb, .inr (2, [.ref ab, .int (nI n)])), (ab, .inl (ca 0, cb, .inl f)), (ql, .inr (2, [.ref al, .int (nI (i + 1))])), (al, .inl (ca 0, cl, .inl z9))]) e17) hD
              exact ih1 (i + 1) (pl + 5) (by omega) (by unfold gp at hpl ⊢; omega) (by omega) (by exact lt_s hok (okG_t (by rw [← hpl]; omega) (by rw [← hpl]; assumption) (by rw [← hpl]; assumption))) _ _ hP hD hS ls (lv_sub hl [0, 2] rfl)
            · subst hQz
              have e18 : (nI i : Int32) = nI (ltN f n st) := by (have hz : ltN f n st = i := lt_end hok (by first | exact okG_a (by rw [← hpl]; omega) | exact okG_b (by rw [← hpl]; assumption) | exact okG_c (by rw [← hpl]; assumption)) (by unfold gp at hpl; omega); first | rw [hz] | (unfold ltL; rw [hz]))
              have hP : va_P D vwCl [(x, .inr (1, [.ref qb, .ref ql, .int rs, .int (nI st), .int ck])), (qb, .inr (2, [.ref ab, .int (nI n)])), (ab, .inl (ca 0, cb, .inl f)), (ql, .inr (2, [.ref al, .int (nI (ltN f n st))])), (al, .inl (ca 0, cl, .inl (apF h 0 (lst (lF f st) i))))] H := Eq.mp (congrArg (fun z9 : Int32 => va_P D vwCl [(x, .inr (1, [.ref qb, .ref ql, .int rs, .int (nI st), .int ck])), (qb, .inr (2, [.ref ab, .int (nI n)])), (ab, .inl (ca 0, cb, .inl f)), (ql, .inr (2, [.ref al, .int z9])), (al, .inl (ca 0, cl, .inl (apF h 0 (lst (lF f st) i))))] H) e18) hP
              have hD : va_D A [(x, .inr (1, [.ref qb, .ref ql, .int rs, .int (nI st), .int ck])), (qb, .inr (2, [.ref ab, .int (nI n)])), (ab, .inl (ca 0, cb, .inl f)), (ql, .inr (2, [.ref al, .int (nI (ltN f n st))])), (al, .inl (ca 0, cl, .inl (apF h 0 (lst (lF f st) i))))] := Eq.mp (congrArg (fun z9 : Int32 => va_D A [(x, .inr (1, [.ref qb, .ref ql, .int rs, .int (nI st), .int ck])), (qb, .inr (2, [.ref ab, .int (nI n)])), (ab, .inl (ca 0, cb, .inl f)), (ql, .inr (2, [.ref al, .int z9])), (al, .inl (ca 0, cl, .inl (apF h 0 (lst (lF f st) i))))]) e18) hD
              have e19 : (apF h 0 (lst (lF f st) i) : Nat → Int32) = apF h 0 (ltL f n st) := by (have hz : ltN f n st = i := lt_end hok (by first | exact okG_a (by rw [← hpl]; omega) | exact okG_b (by rw [← hpl]; assumption) | exact okG_c (by rw [← hpl]; assumption)) (by unfold gp at hpl; omega); first | rw [hz] | (unfold ltL; rw [hz]))
              have hP : va_P D vwCl [(x, .inr (1, [.ref qb, .ref ql, .int rs, .int (nI st), .int ck])), (qb, .inr (2, [.ref ab, .int (nI n)])), (ab, .inl (ca 0, cb, .inl f)), (ql, .inr (2, [.ref al, .int (nI (ltN f n st))])), (al, .inl (ca 0, cl, .inl (apF h 0 (ltL f n st))))] H := Eq.mp (congrArg (fun z9 : Nat → Int32 => va_P D vwCl [(x, .inr (1, [.ref qb, .ref ql, .int rs, .int (nI st), .int ck])), (qb, .inr (2, [.ref ab, .int (nI n)])), (ab, .inl (ca 0, cb, .inl f)), (ql, .inr (2, [.ref al, .int (nI (ltN f n st))])), (al, .inl (ca 0, cl, .inl z9))] H) e19) hP
              have hD : va_D A [(x, .inr (1, [.ref qb, .ref ql, .int rs, .int (nI st), .int ck])), (qb, .inr (2, [.ref ab, .int (nI n)])), (ab, .inl (ca 0, cb, .inl f)), (ql, .inr (2, [.ref al, .int (nI (ltN f n st))])), (al, .inl (ca 0, cl, .inl (apF h 0 (ltL f n st))))] := Eq.mp (congrArg (fun z9 : Nat → Int32 => va_D A [(x, .inr (1, [.ref qb, .ref ql, .int rs, .int (nI st), .int ck])), (qb, .inr (2, [.ref ab, .int (nI n)])), (ab, .inl (ca 0, cb, .inl f)), (ql, .inr (2, [.ref al, .int (nI (ltN f n st))])), (al, .inl (ca 0, cl, .inl z9))]) e19) hD
              exact W.vret hx hb hr (fun t ht hW => ⟨⟨(), rfl, by trivial, by rw [ht]; exact hP, hD⟩, hS.F ht⟩) hS.2.2 dX1_readLetters_56
    have e20 : (h : Nat → Int32) = apF h 0 (lst (lF f st) 0) := by first | rfl | exact (apF_0 h 0).symm
    have hP : va_P D vwCl [(x, .inr (1, [.ref qb, .ref ql, .int rs, .int (nI st), .int ck])), (qb, .inr (2, [.ref ab, .int (nI n)])), (ab, .inl (ca 0, cb, .inl f)), (ql, .inr (2, [.ref al, .int (nI 0)])), (al, .inl (ca 0, cl, .inl (apF h 0 (lst (lF f st) 0))))] H := Eq.mp (congrArg (fun z9 : Nat → Int32 => va_P D vwCl [(x, .inr (1, [.ref qb, .ref ql, .int rs, .int (nI st), .int ck])), (qb, .inr (2, [.ref ab, .int (nI n)])), (ab, .inl (ca 0, cb, .inl f)), (ql, .inr (2, [.ref al, .int (nI 0)])), (al, .inl (ca 0, cl, .inl z9))] H) e20) hP
    have hD : va_D A [(x, .inr (1, [.ref qb, .ref ql, .int rs, .int (nI st), .int ck])), (qb, .inr (2, [.ref ab, .int (nI n)])), (ab, .inl (ca 0, cb, .inl f)), (ql, .inr (2, [.ref al, .int (nI 0)])), (al, .inl (ca 0, cl, .inl (apF h 0 (lst (lF f st) 0))))] := Eq.mp (congrArg (fun z9 : Nat → Int32 => va_D A [(x, .inr (1, [.ref qb, .ref ql, .int rs, .int (nI st), .int ck])), (qb, .inr (2, [.ref ab, .int (nI n)])), (ab, .inl (ca 0, cb, .inl f)), (ql, .inr (2, [.ref al, .int (nI 0)])), (al, .inl (ca 0, cl, .inl z9))]) e20) hD
    exact lp23_3 ((n + 5 - (st + 5)) + 1) 0 (st + 5) (by omega) (by rfl) (by omega) (by exact fun j hj => absurd hj (Nat.not_lt_zero j)) _ _ hP hD hS ls (lv_sub hl [0, 1] rfl)
  · exact absurd c3 (ni_m1 (by omega))
abbrev rm_kX1_readLetters_none : Room := { frames := 1, cells := 0, slots := 0, locals := 20 }
set_option maxHeartbeats 4000000 in
set_option maxRecDepth 100000 in
theorem kX1_readLetters_none (l : Launch) (D : va_G) (ca : Nat → ClassId) (sz : Nat) (x qb ab cb ql : Nat) (rs ck : Int32) (f : Nat → Int32) (n : Nat) (al cl : Nat) (h : Nat → Int32) (nl : Nat) (hn : n ≤ cb) (hc : cb < 1000000) (hnl : nl ≤ cl) (hcl : cl < 1000000) : Met l yX1_readLetters wsX1_readLetters rm_kX1_readLetters_none (pcM D ca [.ref x] [(x, .inr (1, [.ref qb, .ref ql, .int rs, .int (-1), .int ck])), (qb, .inr (2, [.ref ab, .int (nI n)])), (ab, .inl (ca 0, cb, .inl f)), (ql, .inr (2, [.ref al, .int (nI nl)])), (al, .inl (ca 0, cl, .inl h))] sz) (va_Qv (fun (u : Unit) => True) (qB D (va_A [(x, .inr (1, [.ref qb, .ref ql, .int rs, .int (-1), .int ck])), (qb, .inr (2, [.ref ab, .int (nI n)])), (ab, .inl (ca 0, cb, .inl f)), (ql, .inr (2, [.ref al, .int (nI nl)])), (al, .inl (ca 0, cl, .inl h))] sz) (fun u : Unit => [(x, .inr (1, [.ref qb, .ref ql, .int rs, .int (-1), .int ck])), (qb, .inr (2, [.ref ab, .int (nI n)])), (ab, .inl (ca 0, cb, .inl f)), (ql, .inr (2, [.ref al, .int (nI 0)])), (al, .inl (ca 0, cl, .inl h))])) (va_A [(x, .inr (1, [.ref qb, .ref ql, .int rs, .int (-1), .int ck])), (qb, .inr (2, [.ref ab, .int (nI n)])), (ab, .inl (ca 0, cb, .inl f)), (ql, .inr (2, [.ref al, .int (nI nl)])), (al, .inl (ca 0, cl, .inl h))] sz)) 0 0 (va_A [(x, .inr (1, [.ref qb, .ref ql, .int rs, .int (-1), .int ck])), (qb, .inr (2, [.ref ab, .int (nI n)])), (ab, .inl (ca 0, cb, .inl f)), (ql, .inr (2, [.ref al, .int (nI nl)])), (al, .inl (ca 0, cl, .inl h))] sz) := by
  refine Met.ofW (cc := cX1_readLetters) (maxL := 3) (ret := none) (by decide) rfl ?_
  intro p e s m args below meth c s₁ B hml hv
  obtain ⟨rfl, hsz, hP, hK, hD0⟩ := hv
  have hx := B.exec
  have hb := B.bytes
  have hr := B.returns
  have hts := atoms_spec (ws := wsX1_readLetters) B.pre
  have hown : s.vm.findClass RX1 = some m.cls := findClass_of_methodNamed B.named
  have hlocks := B.notSynchronized
  subst hsz
  have hD := hD0.self (sz := s.heap.size)
  generalize hAe : va_A [(x, .inr (1, [.ref qb, .ref ql, .int rs, .int (-1), .int ck])), (qb, .inr (2, [.ref ab, .int (nI n)])), (ab, .inl (ca 0, cb, .inl f)), (ql, .inr (2, [.ref al, .int (nI nl)])), (al, .inl (ca 0, cl, .inl h))] s.heap.size = A at hD ⊢
  have hA : ∀ q : Nat, s.heap.size ≤ q → A q := fun q h => by rw [← hAe]; exact Or.inr h
  have hS : va_S A s.heap s.heap [] := va_S.rf
  have hP : va_P D vwCl [(x, .inr (1, [.ref qb, .ref ql, .int rs, .int (-1), .int ck])), (qb, .inr (2, [.ref ab, .int (nI n)])), (ab, .inl (ca 0, cb, .inl f)), (ql, .inr (2, [.ref al, .int (nI nl)])), (al, .inl (ca 0, cl, .inl h))] s.heap := hP
  have hKv := hK.1
  have hl := lv_entry ([.ref x]) (n := 3) (kk_le rfl)
  rw [lg_entry_eq]
  generalize (lg_sl ([.ref x]) ++ List.replicate (3 - (lg_sl ([.ref x])).length) Slot.unset).toArray = ls at hl ⊢
  have hl : lv_has ls 3 [(0, .ref x)] := hl
  have hiX1 : ∀ w ∈ u_ws RX1 TX1 5, w ∈ wsX1_readLetters := fun w h => by first | exact List.mem_cons_of_mem _ (List.mem_append_right _ h) | exact List.mem_cons_of_mem _ (List.mem_append_left _ (List.mem_append_right _ h)) | exact List.mem_cons_of_mem _ (List.mem_append_left _ (List.mem_append_left _ (List.mem_append_right _ h))) | exact List.mem_cons_of_mem _ (List.mem_append_left _ (List.mem_append_left _ (List.mem_append_left _ (List.mem_append_right _ h)))) | (revert w h; decide +kernel)
  have lk20 : (Cond.fieldLink RX1 20 "StripeSwipes$Reading" "letters" "LStripeSwipes$Row;").before _ s = true := hts _ (by decide +kernel)
  have lk27 : (Cond.fieldLink RX1 27 "StripeSwipes$Reading" "start" "I").before _ s = true := hts _ (by decide +kernel)
  refine lv_aload_n hx hb dX1_readLetters_0 rfl (lv_at hl 0 rfl) ?_
  refine va_get (D := D) (ci := 1) (C := RX1) (T := TX1) (N := 5) hx hb hts hiX1 hown hKv hP 0 rfl rfl 1 (by decide) lk20 (fun _ h9 => h9) rfl dX1_readLetters_1 ?_
  have hPc := hP.sub (ws' := [(ql, .inr (2, [.ref al, .int (nI nl)])), (al, .inl (ca 0, cl, .inl h))]) [3, 4] rfl
  have hDc := hD.sub (ws' := [(ql, .inr (2, [.ref al, .int (nI nl)])), (al, .inl (ca 0, cl, .inl h))]) [3, 4] (by decide) rfl
  have hFc := va_free (wc := [(ql, .inr (2, [.ref al, .int (nI nl)])), (al, .inl (ca 0, cl, .inl h))]) hD hS hA [3, 4] rfl
  refine va_callv (va_runV (As := []) (rest := []) ⟨hx, hb, hml, hown, hts⟩ (kX2_empty l D ca s.heap.size ql al cl h nl (by first | rfl | assumption | omega | trivial | (exfalso; omega)) (by first | rfl | assumption | omega | trivial | (exfalso; omega))) (cwV 0 hts gX1_readLetters_X2_empty rfl rfl rfl (by decide +kernel) ⟨kk_le rfl, kk_le rfl⟩) (pvM hK hPc (my_D_true hDc) (va_recv hKv hP (ci := 2) (q0 := 3) rfl rfl)) rfl rfl hl.1 rfl (lv_room (kk_le rfl)) dX1_readLetters_4 ⟨kk_le rfl, kk_le rfl⟩) hS (fun q _ h => hFc q h) hFc (fun u t H1 locs ht hvm hwv hBv hz1 hk1 hS => ?_)
  obtain ⟨hP1, hD1⟩ := hBv
  rw [ht] at hP1
  have hP1 : va_P D vwCl [(ql, .inr (2, [.ref al, .int (nI 0)])), (al, .inl (ca 0, cl, .inl h))] H1 := hP1
  have hD1 : va_D _ [(ql, .inr (2, [.ref al, .int (nI 0)])), (al, .inl (ca 0, cl, .inl h))] := hD1
  have hw1 := hwv
  obtain ⟨hP, hD⟩ := va_join (wr := [(x, .inr (1, [.ref qb, .ref ql, .int rs, .int (-1), .int ck])), (qb, .inr (2, [.ref ab, .int (nI n)])), (ab, .inl (ca 0, cb, .inl f))]) (w1 := [(ql, .inr (2, [.ref al, .int (nI 0)])), (al, .inl (ca 0, cl, .inl h))]) hP hD [3, 4] [0, 1, 2] rfl rfl (by decide) (by decide) hk1 hFc hP1 hD1
  generalize H1 = H at hP hS ⊢
  have hP := hP.sub (ws' := [(x, .inr (1, [.ref qb, .ref ql, .int rs, .int (-1), .int ck])), (qb, .inr (2, [.ref ab, .int (nI n)])), (ab, .inl (ca 0, cb, .inl f)), (ql, .inr (2, [.ref al, .int (nI 0)])), (al, .inl (ca 0, cl, .inl h))]) [0, 1, 2, 3, 4] rfl
  have hD := hD.sub (ws' := [(x, .inr (1, [.ref qb, .ref ql, .int rs, .int (-1), .int ck])), (qb, .inr (2, [.ref ab, .int (nI n)])), (ab, .inl (ca 0, cb, .inl f)), (ql, .inr (2, [.ref al, .int (nI 0)])), (al, .inl (ca 0, cl, .inl h))]) [0, 1, 2, 3, 4] (by decide) rfl
  refine lv_aload_n hx hb dX1_readLetters_7 rfl (lv_at hl 0 rfl) ?_
  refine va_get (D := D) (ci := 1) (C := RX1) (T := TX1) (N := 5) hx hb hts hiX1 hown hKv hP 0 rfl rfl 3 (by decide) lk27 (fun _ h9 => h9) rfl dX1_readLetters_8 ?_
  refine lv_iconst (v := (-1)) hx hb dX1_readLetters_11 (by decide) ?_
  refine lv_icmp_ne (tgt := 16) hx hb dX1_readLetters_12 (by decide) (fun c3 => ?_) (fun c3 => ?_)
  · exact absurd rfl c3
  · exact W.vret hx hb hr (fun t ht hW => ⟨⟨(), rfl, by trivial, by rw [ht]; exact hP, hD⟩, hS.F ht⟩) hS.2.2 dX1_readLetters_15
abbrev rm_kX1_reasonOfBits : Room := { frames := 2, cells := 0, slots := 0, locals := 44 }
set_option maxHeartbeats 4000000 in
set_option maxRecDepth 100000 in
theorem kX1_reasonOfBits (l : Launch) (D : va_G) (ca : Nat → ClassId) (x qb ab cb ql : Nat) (rs : Int32) (st : Nat) (ck : Int32) (f : Nat → Int32) (n : Nat) (al cl : Nat) (h : Nat → Int32) (nl : Nat) (hn : n ≤ cb) (hc : cb < 1000000) (hnl : nl ≤ cl) (hcl : cl < 1000000) (hst : st + 5 ≤ n) (h200 : n ≤ 200) (hl40 : nl ≤ 40) : Met l yX1_reasonOfBits wsX1_reasonOfBits rm_kX1_reasonOfBits (pcR D ca [.ref x] [(x, .inr (1, [.ref qb, .ref ql, .int rs, .int (nI st), .int ck])), (qb, .inr (2, [.ref ab, .int (nI n)])), (ab, .inl (ca 0, cb, .inl f)), (ql, .inr (2, [.ref al, .int (nI nl)])), (al, .inl (ca 0, cl, .inl h))]) (vp_Si (fun z : Int32 => z = rsn f n st nl (lst h nl))) 0 0 (fun _ => False) := by
  refine Met.ofW (cc := cX1_reasonOfBits) (maxL := 3) (ret := (some .int)) (by decide) rfl ?_
  intro p e s m args below meth c s₁ B hml hv
  obtain ⟨rfl, hP, hK⟩ := hv
  have hx := B.exec
  have hb := B.bytes
  have hr := B.returns
  have hts := atoms_spec (ws := wsX1_reasonOfBits) B.pre
  have hown : s.vm.findClass RX1 = some m.cls := findClass_of_methodNamed B.named
  have hlocks := B.notSynchronized
  have hKv := hK.1
  have hl := lv_entry ([.ref x]) (n := 3) (kk_le rfl)
  rw [lg_entry_eq]
  generalize (lg_sl ([.ref x]) ++ List.replicate (3 - (lg_sl ([.ref x])).length) Slot.unset).toArray = ls at hl ⊢
  have hl : lv_has ls 3 [(0, .ref x)] := hl
  have hiX1 : ∀ w ∈ u_ws RX1 TX1 5, w ∈ wsX1_reasonOfBits := fun w h => by first | exact List.mem_cons_of_mem _ (List.mem_append_right _ h) | exact List.mem_cons_of_mem _ (List.mem_append_left _ (List.mem_append_right _ h)) | exact List.mem_cons_of_mem _ (List.mem_append_left _ (List.mem_append_left _ (List.mem_append_right _ h))) | exact List.mem_cons_of_mem _ (List.mem_append_left _ (List.mem_append_left _ (List.mem_append_left _ (List.mem_append_right _ h)))) | (revert w h; decide +kernel)
  have lk27 : (Cond.fieldLink RX1 27 "StripeSwipes$Reading" "start" "I").before _ s = true := hts _ (by decide +kernel)
  have lk20 : (Cond.fieldLink RX1 20 "StripeSwipes$Reading" "letters" "LStripeSwipes$Row;").before _ s = true := hts _ (by decide +kernel)
  refine lv_aload_n hx hb dX1_reasonOfBits_0 rfl (lv_at hl 0 rfl) ?_
  refine va_get (D := D) (ci := 1) (C := RX1) (T := TX1) (N := 5) hx hb hts hiX1 hown hKv hP 0 rfl rfl 3 (by decide) lk27 (fun _ h9 => h9) rfl dX1_reasonOfBits_1 ?_
  refine lv_iconst (v := (-1)) hx hb dX1_reasonOfBits_4 (by decide) ?_
  refine lv_icmp_ne (tgt := 10) hx hb dX1_reasonOfBits_5 (by decide) (fun c1 => ?_) (fun c1 => ?_)
  · refine lv_aload_n hx hb dX1_reasonOfBits_10 rfl (lv_at hl 0 rfl) ?_
    refine lv_aload_n hx hb dX1_reasonOfBits_11 rfl (lv_at hl 0 rfl) ?_
    refine va_get (D := D) (ci := 1) (C := RX1) (T := TX1) (N := 5) hx hb hts hiX1 hown hKv hP 0 rfl rfl 1 (by decide) lk20 (fun _ h9 => h9) rfl dX1_reasonOfBits_12 ?_
    refine vp_callSi (va_Run.run (va_runV (As := []) (rest := [.ref x]) ⟨hx, hb, hml, hown, hts⟩ (kX2_size l D ca ql al cl h nl (by first | rfl | assumption | omega | trivial | (exfalso; omega)) (by first | rfl | assumption | omega | trivial | (exfalso; omega))) (cwV 0 hts gX1_reasonOfBits_X2_size rfl rfl rfl (by decide +kernel) ⟨kk_le rfl, kk_le rfl⟩) (pvR hK (hP.sub (ws' := [(ql, .inr (2, [.ref al, .int (nI nl)])), (al, .inl (ca 0, cl, .inl h))]) [3, 4] rfl) (va_recv hKv hP (ci := 2) (q0 := 3) rfl rfl)) rfl rfl hl.1 rfl (lv_room (kk_le rfl)) dX1_reasonOfBits_15 ⟨kk_le rfl, kk_le rfl⟩)) (fun r2 hr2 => ?_)
    subst hr2
    refine vp_callSi (va_Run.run (va_runV (As := [.int (nI nl)]) (rest := []) ⟨hx, hb, hml, hown, hts⟩ (kX1_placeOf l D ca x qb ql rs st ck nl) (cwV 1 hts gX1_reasonOfBits_X1_placeOf rfl rfl rfl (by decide +kernel) ⟨kk_le rfl, kk_le rfl⟩) (pvR hK (hP.sub (ws' := [(x, .inr (1, [.ref qb, .ref ql, .int rs, .int (nI st), .int ck]))]) [0] rfl) (va_recv hKv hP (ci := 1) (q0 := 0) rfl rfl)) rfl rfl hl.1 rfl (lv_room (kk_le rfl)) dX1_reasonOfBits_18 ⟨kk_le rfl, kk_le rfl⟩)) (fun r3 hr3 => ?_)
    subst hr3
    refine lv_istore_n (lv' := [(1, .int (nI (gp st nl))), (0, .ref x)]) hx hb dX1_reasonOfBits_21 rfl hl (by decide) rfl (fun ls hl => ?_)
    refine lv_aload_n hx hb dX1_reasonOfBits_22 rfl (lv_at hl 1 rfl) ?_
    refine lv_iload_n hx hb dX1_reasonOfBits_23 rfl (lv_at hl 0 rfl) ?_
    refine vp_callSi (va_Run.run (va_runV (As := [.int (nI (gp st nl))]) (rest := []) ⟨hx, hb, hml, hown, hts⟩ (kX1_hasGroup l D ca x qb ab cb ql rs (nI st) ck f n (gp st nl) (by omega) (by omega) (by omega) (by unfold gp; omega)) (cwV 1 hts gX1_reasonOfBits_X1_hasGroup rfl rfl rfl (by decide +kernel) ⟨kk_le rfl, kk_le rfl⟩) (pvR hK (hP.sub (ws' := [(x, .inr (1, [.ref qb, .ref ql, .int rs, .int (nI st), .int ck])), (qb, .inr (2, [.ref ab, .int (nI n)])), (ab, .inl (ca 0, cb, .inl f))]) [0, 1, 2] rfl) (va_recv hKv hP (ci := 1) (q0 := 0) rfl rfl)) rfl rfl hl.1 rfl (lv_room (kk_le rfl)) dX1_reasonOfBits_24 ⟨kk_le rfl, kk_le rfl⟩)) (fun r4 hr4 => ?_)
    subst hr4
    refine bi_if_ne (tgt := 32) hx hb dX1_reasonOfBits_27 (by decide) (fun c5 => ?_) (fun c5 => ?_)
    · refine lv_aload_n hx hb dX1_reasonOfBits_32 rfl (lv_at hl 1 rfl) ?_
      refine lv_iload_n hx hb dX1_reasonOfBits_33 rfl (lv_at hl 0 rfl) ?_
      refine vp_callSi (va_Run.run (va_runV (As := [.int (nI (gp st nl))]) (rest := []) ⟨hx, hb, hml, hown, hts⟩ (kX1_isOdd l D ca x qb ab cb ql rs (nI st) ck f n (gp st nl) (by omega) (by omega) (by exact of_decide_eq_true (by assumption))) (cwV 1 hts gX1_reasonOfBits_X1_isOdd rfl rfl rfl (by decide +kernel) ⟨kk_le rfl, kk_le rfl⟩) (pvR hK (hP.sub (ws' := [(x, .inr (1, [.ref qb, .ref ql, .int rs, .int (nI st), .int ck])), (qb, .inr (2, [.ref ab, .int (nI n)])), (ab, .inl (ca 0, cb, .inl f))]) [0, 1, 2] rfl) (va_recv hKv hP (ci := 1) (q0 := 0) rfl rfl)) rfl rfl hl.1 rfl (lv_room (kk_le rfl)) dX1_reasonOfBits_34 ⟨kk_le rfl, kk_le rfl⟩)) (fun r6 hr6 => ?_)
      subst hr6
      refine bi_if_ne (tgt := 42) hx hb dX1_reasonOfBits_37 (by decide) (fun c7 => ?_) (fun c7 => ?_)
      · refine lv_iload_n hx hb dX1_reasonOfBits_42 rfl (lv_at hl 0 rfl) ?_
        refine lv_iconst (v := nI 5) hx hb dX1_reasonOfBits_43 (by decide) ?_
        refine ni_iadd hx hb dX1_reasonOfBits_44 ?_
        refine lv_istore_n (lv' := [(2, .int (nI ((gp st nl) + 5))), (1, .int (nI (gp st nl))), (0, .ref x)]) hx hb dX1_reasonOfBits_45 rfl hl (by decide) rfl (fun ls hl => ?_)
        refine lv_aload_n hx hb dX1_reasonOfBits_46 rfl (lv_at hl 2 rfl) ?_
        refine lv_iload_n hx hb dX1_reasonOfBits_47 rfl (lv_at hl 0 rfl) ?_
        refine vp_callSi (va_Run.run (va_runV (As := [.int (nI ((gp st nl) + 5))]) (rest := []) ⟨hx, hb, hml, hown, hts⟩ (kX1_hasGroup l D ca x qb ab cb ql rs (nI st) ck f n ((gp st nl) + 5) (by omega) (by omega) (by omega) (by unfold gp; omega)) (cwV 1 hts gX1_reasonOfBits_X1_hasGroup rfl rfl rfl (by decide +kernel) ⟨kk_le rfl, kk_le rfl⟩) (pvR hK (hP.sub (ws' := [(x, .inr (1, [.ref qb, .ref ql, .int rs, .int (nI st), .int ck])), (qb, .inr (2, [.ref ab, .int (nI n)])), (ab, .inl (ca 0, cb, .inl f))]) [0, 1, 2] rfl) (va_recv hKv hP (ci := 1) (q0 := 0) rfl rfl)) rfl rfl hl.1 rfl (lv_room (kk_le rfl)) dX1_reasonOfBits_48 ⟨kk_le rfl, kk_le rfl⟩)) (fun r8 hr8 => ?_)
        subst hr8
        refine bi_if_ne (tgt := 56) hx hb dX1_reasonOfBits_51 (by decide) (fun c9 => ?_) (fun c9 => ?_)
        · refine lv_aload_n hx hb dX1_reasonOfBits_56 rfl (lv_at hl 2 rfl) ?_
          refine lv_iload_n hx hb dX1_reasonOfBits_57 rfl (lv_at hl 0 rfl) ?_
          refine vp_callSi (va_Run.run (va_runV (As := [.int (nI ((gp st nl) + 5))]) (rest := []) ⟨hx, hb, hml, hown, hts⟩ (kX1_isOdd l D ca x qb ab cb ql rs (nI st) ck f n ((gp st nl) + 5) (by omega) (by omega) (by exact of_decide_eq_true (by assumption))) (cwV 1 hts gX1_reasonOfBits_X1_isOdd rfl rfl rfl (by decide +kernel) ⟨kk_le rfl, kk_le rfl⟩) (pvR hK (hP.sub (ws' := [(x, .inr (1, [.ref qb, .ref ql, .int rs, .int (nI st), .int ck])), (qb, .inr (2, [.ref ab, .int (nI n)])), (ab, .inl (ca 0, cb, .inl f))]) [0, 1, 2] rfl) (va_recv hKv hP (ci := 1) (q0 := 0) rfl rfl)) rfl rfl hl.1 rfl (lv_room (kk_le rfl)) dX1_reasonOfBits_58 ⟨kk_le rfl, kk_le rfl⟩)) (fun r10 hr10 => ?_)
          subst hr10
          refine bi_if_ne (tgt := 66) hx hb dX1_reasonOfBits_61 (by decide) (fun c11 => ?_) (fun c11 => ?_)
          · refine lv_aload_n hx hb dX1_reasonOfBits_66 rfl (lv_at hl 2 rfl) ?_
            refine lv_iload_n hx hb dX1_reasonOfBits_67 rfl (lv_at hl 0 rfl) ?_
            refine vp_callSi (va_Run.run (va_runV (As := [.int (nI ((gp st nl) + 5))]) (rest := []) ⟨hx, hb, hml, hown, hts⟩ (kX1_numberAt l D ca x qb ab cb ql rs (nI st) ck f n ((gp st nl) + 5) (by omega) (by omega) (by exact of_decide_eq_true (by assumption))) (cwV 1 hts gX1_reasonOfBits_X1_numberAt rfl rfl rfl (by decide +kernel) ⟨kk_le rfl, kk_le rfl⟩) (pvR hK (hP.sub (ws' := [(x, .inr (1, [.ref qb, .ref ql, .int rs, .int (nI st), .int ck])), (qb, .inr (2, [.ref ab, .int (nI n)])), (ab, .inl (ca 0, cb, .inl f))]) [0, 1, 2] rfl) (va_recv hKv hP (ci := 1) (q0 := 0) rfl rfl)) rfl rfl hl.1 rfl (lv_room (kk_le rfl)) dX1_reasonOfBits_68 ⟨kk_le rfl, kk_le rfl⟩)) (fun r12 hr12 => ?_)
            subst hr12
            refine lv_aload_n hx hb dX1_reasonOfBits_71 rfl (lv_at hl 2 rfl) ?_
            refine va_get (D := D) (ci := 1) (C := RX1) (T := TX1) (N := 5) hx hb hts hiX1 hown hKv hP 0 rfl rfl 1 (by decide) lk20 (fun _ h9 => h9) rfl dX1_reasonOfBits_72 ?_
            refine vp_callSi (va_Run.run (va_runSN (As := [.ref ql]) (rest := [.int (numG f ((gp st nl) + 5))]) ⟨hx, hb, hml, hown, hts⟩ (kX5_checkOf l D ca ql al cl h nl (by first | rfl | assumption | omega | trivial | (exfalso; omega)) (by first | rfl | assumption | omega | trivial | (exfalso; omega))) ⟨va_cnB 1 hts ggX1_reasonOfBits_X5_checkOf rfl rfl rfl hK.2.m91 (hts _ (by decide +kernel)) (by decide +kernel) ⟨kk_le rfl, kk_le rfl⟩, hts _ (by decide +kernel), trivial⟩ (psR hK (hP.sub (ws' := [(ql, .inr (2, [.ref al, .int (nI nl)])), (al, .inl (ca 0, cl, .inl h))]) [3, 4] rfl)) rfl rfl hl.1 rfl (lv_room (kk_le rfl)) dX1_reasonOfBits_75 ⟨kk_le rfl, kk_le rfl⟩)) (fun r13 hr13 => ?_)
            subst hr13
            refine lv_icmp_eq (tgt := 83) hx hb dX1_reasonOfBits_78 (by decide) (fun c14 => ?_) (fun c14 => ?_)
            · refine lv_aload_n hx hb dX1_reasonOfBits_83 rfl (lv_at hl 2 rfl) ?_
              refine va_get (D := D) (ci := 1) (C := RX1) (T := TX1) (N := 5) hx hb hts hiX1 hown hKv hP 0 rfl rfl 1 (by decide) lk20 (fun _ h9 => h9) rfl dX1_reasonOfBits_84 ?_
              refine vp_callSi (va_Run.run (va_runV (As := []) (rest := []) ⟨hx, hb, hml, hown, hts⟩ (kX2_size l D ca ql al cl h nl (by first | rfl | assumption | omega | trivial | (exfalso; omega)) (by first | rfl | assumption | omega | trivial | (exfalso; omega))) (cwV 0 hts gX1_reasonOfBits_X2_size rfl rfl rfl (by decide +kernel) ⟨kk_le rfl, kk_le rfl⟩) (pvR hK (hP.sub (ws' := [(ql, .inr (2, [.ref al, .int (nI nl)])), (al, .inl (ca 0, cl, .inl h))]) [3, 4] rfl) (va_recv hKv hP (ci := 2) (q0 := 3) rfl rfl)) rfl rfl hl.1 rfl (lv_room (kk_le rfl)) dX1_reasonOfBits_87 ⟨kk_le rfl, kk_le rfl⟩)) (fun r15 hr15 => ?_)
              subst hr15
              refine ni_if_ne (tgt := 98) (by omega) hx hb dX1_reasonOfBits_90 (by decide) (fun c16 => ?_) (fun c16 => ?_)
              · refine lv_iconst (v := nI 0) hx hb dX1_reasonOfBits_98 (by decide) ?_
                exact W.iret (v := nI 0) hx hb hr (fun t ht _ => ⟨_, rfl, by first | (simp only [rsn, gp_s]; simp_all; done) | (simp only [rsn, gp_s]; simp_all; intro h0; omega), ht⟩) (fun _ h => nomatch h) dX1_reasonOfBits_99
              · refine lv_bipush (v := nI 6) hx hb dX1_reasonOfBits_93 (by decide) ?_
                refine lv_goto (tgt := 99) hx hb dX1_reasonOfBits_95 (by decide) ?_
                exact W.iret (v := nI 6) hx hb hr (fun t ht _ => ⟨_, rfl, by first | (simp only [rsn, gp_s]; simp_all; done) | (simp only [rsn, gp_s]; simp_all; intro h0; omega), ht⟩) (fun _ h => nomatch h) dX1_reasonOfBits_99
            · refine lv_iconst (v := nI 4) hx hb dX1_reasonOfBits_81 (by decide) ?_
              exact W.iret (v := nI 4) hx hb hr (fun t ht _ => ⟨_, rfl, by first | (simp only [rsn, gp_s]; simp_all; done) | (simp only [rsn, gp_s]; simp_all; intro h0; omega), ht⟩) (fun _ h => nomatch h) dX1_reasonOfBits_82
          · refine lv_iconst (v := nI 2) hx hb dX1_reasonOfBits_64 (by decide) ?_
            exact W.iret (v := nI 2) hx hb hr (fun t ht _ => ⟨_, rfl, by first | (simp only [rsn, gp_s]; simp_all; done) | (simp only [rsn, gp_s]; simp_all; intro h0; omega), ht⟩) (fun _ h => nomatch h) dX1_reasonOfBits_65
        · refine lv_iconst (v := nI 3) hx hb dX1_reasonOfBits_54 (by decide) ?_
          exact W.iret (v := nI 3) hx hb hr (fun t ht _ => ⟨_, rfl, by first | (simp only [rsn, gp_s]; simp_all; done) | (simp only [rsn, gp_s]; simp_all; intro h0; omega), ht⟩) (fun _ h => nomatch h) dX1_reasonOfBits_55
      · refine lv_iconst (v := nI 2) hx hb dX1_reasonOfBits_40 (by decide) ?_
        exact W.iret (v := nI 2) hx hb hr (fun t ht _ => ⟨_, rfl, by first | (simp only [rsn, gp_s]; simp_all; done) | (simp only [rsn, gp_s]; simp_all; intro h0; omega), ht⟩) (fun _ h => nomatch h) dX1_reasonOfBits_41
    · refine lv_iconst (v := nI 3) hx hb dX1_reasonOfBits_30 (by decide) ?_
      exact W.iret (v := nI 3) hx hb hr (fun t ht _ => ⟨_, rfl, by first | (simp only [rsn, gp_s]; simp_all; done) | (simp only [rsn, gp_s]; simp_all; intro h0; omega), ht⟩) (fun _ h => nomatch h) dX1_reasonOfBits_31
  · exact absurd c1 (ni_m1 (by omega))
abbrev rm_kX1_reasonOfBits_none : Room := { frames := 0, cells := 0, slots := 0, locals := 0 }
set_option maxHeartbeats 4000000 in
set_option maxRecDepth 100000 in
theorem kX1_reasonOfBits_none (l : Launch) (D : va_G) (ca : Nat → ClassId) (x qb ab cb ql : Nat) (rs ck : Int32) (f : Nat → Int32) (n : Nat) (al cl : Nat) (h : Nat → Int32) (nl : Nat) (hn : n ≤ cb) (hc : cb < 1000000) (hnl : nl ≤ cl) (hcl : cl < 1000000) : Met l yX1_reasonOfBits wsX1_reasonOfBits rm_kX1_reasonOfBits_none (pcR D ca [.ref x] [(x, .inr (1, [.ref qb, .ref ql, .int rs, .int (-1), .int ck])), (qb, .inr (2, [.ref ab, .int (nI n)])), (ab, .inl (ca 0, cb, .inl f)), (ql, .inr (2, [.ref al, .int (nI nl)])), (al, .inl (ca 0, cl, .inl h))]) (vp_Si (fun z : Int32 => z = nI 1)) 0 0 (fun _ => False) := by
  refine Met.ofW (cc := cX1_reasonOfBits) (maxL := 3) (ret := (some .int)) (by decide) rfl ?_
  intro p e s m args below meth c s₁ B hml hv
  obtain ⟨rfl, hP, hK⟩ := hv
  have hx := B.exec
  have hb := B.bytes
  have hr := B.returns
  have hts := atoms_spec (ws := wsX1_reasonOfBits) B.pre
  have hown : s.vm.findClass RX1 = some m.cls := findClass_of_methodNamed B.named
  have hlocks := B.notSynchronized
  have hKv := hK.1
  have hl := lv_entry ([.ref x]) (n := 3) (kk_le rfl)
  rw [lg_entry_eq]
  generalize (lg_sl ([.ref x]) ++ List.replicate (3 - (lg_sl ([.ref x])).length) Slot.unset).toArray = ls at hl ⊢
  have hl : lv_has ls 3 [(0, .ref x)] := hl
  have hiX1 : ∀ w ∈ u_ws RX1 TX1 5, w ∈ wsX1_reasonOfBits := fun w h => by first | exact List.mem_cons_of_mem _ (List.mem_append_right _ h) | exact List.mem_cons_of_mem _ (List.mem_append_left _ (List.mem_append_right _ h)) | exact List.mem_cons_of_mem _ (List.mem_append_left _ (List.mem_append_left _ (List.mem_append_right _ h))) | exact List.mem_cons_of_mem _ (List.mem_append_left _ (List.mem_append_left _ (List.mem_append_left _ (List.mem_append_right _ h)))) | (revert w h; decide +kernel)
  have lk27 : (Cond.fieldLink RX1 27 "StripeSwipes$Reading" "start" "I").before _ s = true := hts _ (by decide +kernel)
  refine lv_aload_n hx hb dX1_reasonOfBits_0 rfl (lv_at hl 0 rfl) ?_
  refine va_get (D := D) (ci := 1) (C := RX1) (T := TX1) (N := 5) hx hb hts hiX1 hown hKv hP 0 rfl rfl 3 (by decide) lk27 (fun _ h9 => h9) rfl dX1_reasonOfBits_1 ?_
  refine lv_iconst (v := (-1)) hx hb dX1_reasonOfBits_4 (by decide) ?_
  refine lv_icmp_ne (tgt := 10) hx hb dX1_reasonOfBits_5 (by decide) (fun c1 => ?_) (fun c1 => ?_)
  · exact absurd rfl c1
  · refine lv_iconst (v := nI 1) hx hb dX1_reasonOfBits_8 (by decide) ?_
    exact W.iret (v := nI 1) hx hb hr (fun t ht _ => ⟨_, rfl, by first | rfl | assumption | omega | trivial | (exfalso; omega), ht⟩) (fun _ h => nomatch h) dX1_reasonOfBits_9
abbrev rm_kX1_groupsAheadOfOddEnd : Room := { frames := 2, cells := 0, slots := 0, locals := 44 }
set_option maxHeartbeats 4000000 in
set_option maxRecDepth 100000 in
theorem kX1_groupsAheadOfOddEnd (l : Launch) (D : va_G) (ca : Nat → ClassId) (x qb ab cb ql : Nat) (rs : Int32) (st : Nat) (ck : Int32) (f : Nat → Int32) (n : Nat) (hn : n ≤ cb) (hc : cb < 1000000) (hst : st + 5 ≤ n) (h200 : n ≤ 200) : Met l yX1_groupsAheadOfOddEnd wsX1_groupsAheadOfOddEnd rm_kX1_groupsAheadOfOddEnd (pcR D ca [.ref x] [(x, .inr (1, [.ref qb, .ref ql, .int rs, .int (nI st), .int ck])), (qb, .inr (2, [.ref ab, .int (nI n)])), (ab, .inl (ca 0, cb, .inl f))]) (vp_Si (fun z : Int32 => z = gaI f n st)) 0 0 (fun _ => False) := by
  refine Met.ofW (cc := cX1_groupsAheadOfOddEnd) (maxL := 3) (ret := (some .int)) (by decide) rfl ?_
  intro p e s m args below meth c s₁ B hml hv
  obtain ⟨rfl, hP, hK⟩ := hv
  have hx := B.exec
  have hb := B.bytes
  have hr := B.returns
  have hts := atoms_spec (ws := wsX1_groupsAheadOfOddEnd) B.pre
  have hown : s.vm.findClass RX1 = some m.cls := findClass_of_methodNamed B.named
  have hlocks := B.notSynchronized
  have hKv := hK.1
  have hl := lv_entry ([.ref x]) (n := 3) (kk_le rfl)
  rw [lg_entry_eq]
  generalize (lg_sl ([.ref x]) ++ List.replicate (3 - (lg_sl ([.ref x])).length) Slot.unset).toArray = ls at hl ⊢
  have hl : lv_has ls 3 [(0, .ref x)] := hl
  generalize hQz : MQ below _ _ _ _ _ _ = Qz
  have hiX1 : ∀ w ∈ u_ws RX1 TX1 5, w ∈ wsX1_groupsAheadOfOddEnd := fun w h => by first | exact List.mem_cons_of_mem _ (List.mem_append_right _ h) | exact List.mem_cons_of_mem _ (List.mem_append_left _ (List.mem_append_right _ h)) | exact List.mem_cons_of_mem _ (List.mem_append_left _ (List.mem_append_left _ (List.mem_append_right _ h))) | exact List.mem_cons_of_mem _ (List.mem_append_left _ (List.mem_append_left _ (List.mem_append_left _ (List.mem_append_right _ h)))) | (revert w h; decide +kernel)
  have lk27 : (Cond.fieldLink RX1 27 "StripeSwipes$Reading" "start" "I").before _ s = true := hts _ (by decide +kernel)
  have lk14 : (Cond.fieldLink RX1 14 "StripeSwipes$Reading" "bits" "LStripeSwipes$Row;").before _ s = true := hts _ (by decide +kernel)
  refine lv_iconst (v := nI 0) hx hb dX1_groupsAheadOfOddEnd_0 (by decide) ?_
  refine lv_istore_n (lv' := [(1, .int (nI 0)), (0, .ref x)]) hx hb dX1_groupsAheadOfOddEnd_1 rfl hl (by decide) rfl (fun ls hl => ?_)
  refine lv_aload_n hx hb dX1_groupsAheadOfOddEnd_2 rfl (lv_at hl 1 rfl) ?_
  refine va_get (D := D) (ci := 1) (C := RX1) (T := TX1) (N := 5) hx hb hts hiX1 hown hKv hP 0 rfl rfl 3 (by decide) lk27 (fun _ h9 => h9) rfl dX1_groupsAheadOfOddEnd_3 ?_
  refine lv_iconst (v := nI 5) hx hb dX1_groupsAheadOfOddEnd_6 (by decide) ?_
  refine ni_iadd hx hb dX1_groupsAheadOfOddEnd_7 ?_
  refine lv_istore_n (lv' := [(2, .int (nI (st + 5))), (1, .int (nI 0)), (0, .ref x)]) hx hb dX1_groupsAheadOfOddEnd_8 rfl hl (by decide) rfl (fun ls hl => ?_)
  have lp9_0 : ∀ (k1 : Nat) (i : Nat) (pl : Nat), n + 5 - pl < k1 → (pl = gp st i) → (pl ≤ n) → (∀ j, j < i → goG f n st j = true) → ∀ (ls : Array Slot), lv_has ls 3 [(2, .int (nI pl)), (1, .int (nI i)), (0, .ref x)] → W p l e rm_kX1_groupsAheadOfOddEnd s m ([.ref x] : List Value).toArray below meth c s.heap [] 0 0 Qz (F0 m 9 ls []) := by
    intro k1
    induction k1 with
    | zero => intro i pl hm1; exact absurd hm1 (Nat.not_lt_zero _)
    | succ k1 ih1 =>
      intro i pl hm1 hpl hle hok ls hl
      refine lv_iload_n hx hb dX1_groupsAheadOfOddEnd_9 rfl (lv_at hl 0 rfl) ?_
      refine lv_aload_n hx hb dX1_groupsAheadOfOddEnd_10 rfl (lv_at hl 2 rfl) ?_
      refine va_get (D := D) (ci := 1) (C := RX1) (T := TX1) (N := 5) hx hb hts hiX1 hown hKv hP 0 rfl rfl 0 (by decide) lk14 (fun _ h9 => h9) rfl dX1_groupsAheadOfOddEnd_11 ?_
      refine vp_callSi (va_Run.run (va_runV (As := []) (rest := [.int (nI pl)]) ⟨hx, hb, hml, hown, hts⟩ (kX2_size l D ca qb ab cb f n (by first | rfl | assumption | omega | trivial | (exfalso; omega)) (by first | rfl | assumption | omega | trivial | (exfalso; omega))) (cwV 0 hts gX1_groupsAheadOfOddEnd_X2_size rfl rfl rfl (by decide +kernel) ⟨kk_le rfl, kk_le rfl⟩) (pvR hK (hP.sub (ws' := [(qb, .inr (2, [.ref ab, .int (nI n)])), (ab, .inl (ca 0, cb, .inl f))]) [1, 2] rfl) (va_recv hKv hP (ci := 2) (q0 := 1) rfl rfl)) rfl rfl hl.1 rfl (lv_room (kk_le rfl)) dX1_groupsAheadOfOddEnd_14 ⟨kk_le rfl, kk_le rfl⟩)) (fun r2 hr2 => ?_)
      subst hr2
      refine lv_iconst (v := nI 5) hx hb dX1_groupsAheadOfOddEnd_17 (by decide) ?_
      refine ni_isub (by omega) hx hb dX1_groupsAheadOfOddEnd_18 ?_
      refine ni_icmp_gt (tgt := 51) (by omega) (by omega) hx hb dX1_groupsAheadOfOddEnd_19 (by decide) (fun c3 => ?_) (fun c3 => ?_)
      · refine lv_iconst (v := (-1)) hx hb dX1_groupsAheadOfOddEnd_51 (by decide) ?_
        subst hQz
        exact W.iret (v := (-1)) hx hb hr (fun t ht _ => ⟨_, rfl, by first | exact (ga_yes hok (by rw [← hpl]; omega) (by rw [← hpl]; assumption) (by rw [← hpl]; assumption) (by unfold gp at hpl; omega)).symm | exact (ga_no hok (by rw [← hpl]; omega) (by unfold gp at hpl; omega)).symm, ht⟩) (fun _ h => nomatch h) dX1_groupsAheadOfOddEnd_52
      · refine lv_aload_n hx hb dX1_groupsAheadOfOddEnd_22 rfl (lv_at hl 2 rfl) ?_
        refine lv_iload_n hx hb dX1_groupsAheadOfOddEnd_23 rfl (lv_at hl 0 rfl) ?_
        refine vp_callSi (va_Run.run (va_runV (As := [.int (nI pl)]) (rest := []) ⟨hx, hb, hml, hown, hts⟩ (kX1_numberAt l D ca x qb ab cb ql rs (nI st) ck f n pl (by first | rfl | assumption | omega | trivial | (exfalso; omega)) (by first | rfl | assumption | omega | trivial | (exfalso; omega)) (by first | rfl | assumption | omega | trivial | (exfalso; omega))) (cwV 1 hts gX1_groupsAheadOfOddEnd_X1_numberAt rfl rfl rfl (by decide +kernel) ⟨kk_le rfl, kk_le rfl⟩) (pvR hK hP (va_recv hKv hP (ci := 1) (q0 := 0) rfl rfl)) rfl rfl hl.1 rfl (lv_room (kk_le rfl)) dX1_groupsAheadOfOddEnd_24 ⟨kk_le rfl, kk_le rfl⟩)) (fun r4 hr4 => ?_)
        subst hr4
        refine lv_bipush (v := nI 15) hx hb dX1_groupsAheadOfOddEnd_27 (by decide) ?_
        refine lv_icmp_ne (tgt := 42) hx hb dX1_groupsAheadOfOddEnd_29 (by decide) (fun c5 => ?_) (fun c5 => ?_)
        · refine lv_iinc (v := nI (i + 1)) (lv' := [(1, .int (nI (i + 1))), (2, .int (nI pl)), (0, .ref x)]) hx hb dX1_groupsAheadOfOddEnd_42 hl (k := 1) rfl (ni_inc _ _ (by decide)) (by decide) rfl (fun ls hl => ?_)
          refine lv_iinc (v := nI (pl + 5)) (lv' := [(2, .int (nI (pl + 5))), (1, .int (nI (i + 1))), (0, .ref x)]) hx hb dX1_groupsAheadOfOddEnd_45 hl (k := 1) rfl (ni_inc _ _ (by decide)) (by decide) rfl (fun ls hl => ?_)
          refine lv_goto (tgt := 9) hx hb dX1_groupsAheadOfOddEnd_48 (by decide) ?_
          exact ih1 (i + 1) (pl + 5) (by omega) (by unfold gp at hpl ⊢; omega) (by omega) (by first | exact lt_s hok (goG_t1 (by rw [← hpl]; omega) (by rw [← hpl]; assumption)) | exact lt_s hok (goG_t2 (by rw [← hpl]; omega) (by rw [← hpl]; assumption))) ls (lv_sub hl [0, 1, 2] rfl)
        · refine lv_aload_n hx hb dX1_groupsAheadOfOddEnd_32 rfl (lv_at hl 2 rfl) ?_
          refine lv_iload_n hx hb dX1_groupsAheadOfOddEnd_33 rfl (lv_at hl 0 rfl) ?_
          refine vp_callSi (va_Run.run (va_runV (As := [.int (nI pl)]) (rest := []) ⟨hx, hb, hml, hown, hts⟩ (kX1_isOdd l D ca x qb ab cb ql rs (nI st) ck f n pl (by first | rfl | assumption | omega | trivial | (exfalso; omega)) (by first | rfl | assumption | omega | trivial | (exfalso; omega)) (by first | rfl | assumption | omega | trivial | (exfalso; omega))) (cwV 1 hts gX1_groupsAheadOfOddEnd_X1_isOdd rfl rfl rfl (by decide +kernel) ⟨kk_le rfl, kk_le rfl⟩) (pvR hK hP (va_recv hKv hP (ci := 1) (q0 := 0) rfl rfl)) rfl rfl hl.1 rfl (lv_room (kk_le rfl)) dX1_groupsAheadOfOddEnd_34 ⟨kk_le rfl, kk_le rfl⟩)) (fun r6 hr6 => ?_)
          subst hr6
          refine bi_if_eq (tgt := 42) hx hb dX1_groupsAheadOfOddEnd_37 (by decide) (fun c7 => ?_) (fun c7 => ?_)
          · refine lv_iinc (v := nI (i + 1)) (lv' := [(1, .int (nI (i + 1))), (2, .int (nI pl)), (0, .ref x)]) hx hb dX1_groupsAheadOfOddEnd_42 hl (k := 1) rfl (ni_inc _ _ (by decide)) (by decide) rfl (fun ls hl => ?_)
            refine lv_iinc (v := nI (pl + 5)) (lv' := [(2, .int (nI (pl + 5))), (1, .int (nI (i + 1))), (0, .ref x)]) hx hb dX1_groupsAheadOfOddEnd_45 hl (k := 1) rfl (ni_inc _ _ (by decide)) (by decide) rfl (fun ls hl => ?_)
            refine lv_goto (tgt := 9) hx hb dX1_groupsAheadOfOddEnd_48 (by decide) ?_
            exact ih1 (i + 1) (pl + 5) (by omega) (by unfold gp at hpl ⊢; omega) (by omega) (by first | exact lt_s hok (goG_t1 (by rw [← hpl]; omega) (by rw [← hpl]; assumption)) | exact lt_s hok (goG_t2 (by rw [← hpl]; omega) (by rw [← hpl]; assumption))) ls (lv_sub hl [0, 1, 2] rfl)
          · refine lv_iload_n hx hb dX1_groupsAheadOfOddEnd_40 rfl (lv_at hl 1 rfl) ?_
            subst hQz
            exact W.iret (v := nI i) hx hb hr (fun t ht _ => ⟨_, rfl, by first | exact (ga_yes hok (by rw [← hpl]; omega) (by rw [← hpl]; assumption) (by rw [← hpl]; assumption) (by unfold gp at hpl; omega)).symm | exact (ga_no hok (by rw [← hpl]; omega) (by unfold gp at hpl; omega)).symm, ht⟩) (fun _ h => nomatch h) dX1_groupsAheadOfOddEnd_41
  exact lp9_0 ((n + 5 - (st + 5)) + 1) 0 (st + 5) (by omega) (by rfl) (by omega) (by exact fun j hj => absurd hj (Nat.not_lt_zero j)) ls (lv_sub hl [0, 1, 2] rfl)
abbrev rm_kX1_repairablePlace : Room := { frames := 3, cells := 0, slots := 0, locals := 66 }
set_option maxHeartbeats 4000000 in
set_option maxRecDepth 100000 in
theorem kX1_repairablePlace (l : Launch) (D : va_G) (ca : Nat → ClassId) (x qb ab cb ql : Nat) (rs : Int32) (st : Nat) (ck : Int32) (f : Nat → Int32) (n : Nat) (hn : n ≤ cb) (hc : cb < 1000000) (hst : st + 5 ≤ n) (h200 : n ≤ 200) : Met l yX1_repairablePlace wsX1_repairablePlace rm_kX1_repairablePlace (pcR D ca [.ref x] [(x, .inr (1, [.ref qb, .ref ql, .int rs, .int (nI st), .int ck])), (qb, .inr (2, [.ref ab, .int (nI n)])), (ab, .inl (ca 0, cb, .inl f))]) (vp_Si (fun z : Int32 => z = rpP rs f n st)) 0 0 (fun _ => False) := by
  refine Met.ofW (cc := cX1_repairablePlace) (maxL := 5) (ret := (some .int)) (by decide) rfl ?_
  intro p e s m args below meth c s₁ B hml hv
  obtain ⟨rfl, hP, hK⟩ := hv
  have hx := B.exec
  have hb := B.bytes
  have hr := B.returns
  have hts := atoms_spec (ws := wsX1_repairablePlace) B.pre
  have hown : s.vm.findClass RX1 = some m.cls := findClass_of_methodNamed B.named
  have hlocks := B.notSynchronized
  have hKv := hK.1
  have hl := lv_entry ([.ref x]) (n := 5) (kk_le rfl)
  rw [lg_entry_eq]
  generalize (lg_sl ([.ref x]) ++ List.replicate (5 - (lg_sl ([.ref x])).length) Slot.unset).toArray = ls at hl ⊢
  have hl : lv_has ls 5 [(0, .ref x)] := hl
  generalize hQz : MQ below _ _ _ _ _ _ = Qz
  have hiX1 : ∀ w ∈ u_ws RX1 TX1 5, w ∈ wsX1_repairablePlace := fun w h => by first | exact List.mem_cons_of_mem _ (List.mem_append_right _ h) | exact List.mem_cons_of_mem _ (List.mem_append_left _ (List.mem_append_right _ h)) | exact List.mem_cons_of_mem _ (List.mem_append_left _ (List.mem_append_left _ (List.mem_append_right _ h))) | exact List.mem_cons_of_mem _ (List.mem_append_left _ (List.mem_append_left _ (List.mem_append_left _ (List.mem_append_right _ h)))) | (revert w h; decide +kernel)
  have lk23 : (Cond.fieldLink RX1 23 "StripeSwipes$Reading" "reason" "I").before _ s = true := hts _ (by decide +kernel)
  refine lv_aload_n hx hb dX1_repairablePlace_0 rfl (lv_at hl 0 rfl) ?_
  refine va_get (D := D) (ci := 1) (C := RX1) (T := TX1) (N := 5) hx hb hts hiX1 hown hKv hP 0 rfl rfl 2 (by decide) lk23 (fun _ h9 => h9) rfl dX1_repairablePlace_1 ?_
  refine lv_iconst (v := nI 2) hx hb dX1_repairablePlace_4 (by decide) ?_
  refine lv_icmp_eq (tgt := 10) hx hb dX1_repairablePlace_5 (by decide) (fun c1 => ?_) (fun c1 => ?_)
  · refine lv_aload_n hx hb dX1_repairablePlace_10 rfl (lv_at hl 0 rfl) ?_
    refine vp_callSi (va_Run.run (va_runV (As := []) (rest := []) ⟨hx, hb, hml, hown, hts⟩ (kX1_groupsAheadOfOddEnd l D ca x qb ab cb ql rs st ck f n (by first | rfl | assumption | omega | trivial | (exfalso; omega)) (by first | rfl | assumption | omega | trivial | (exfalso; omega)) (by first | rfl | assumption | omega | trivial | (exfalso; omega)) (by first | rfl | assumption | omega | trivial | (exfalso; omega))) (cwV 0 hts gX1_repairablePlace_X1_groupsAheadOfOddEnd rfl rfl rfl (by decide +kernel) ⟨kk_le rfl, kk_le rfl⟩) (pvR hK hP (va_recv hKv hP (ci := 1) (q0 := 0) rfl rfl)) rfl rfl hl.1 rfl (lv_room (kk_le rfl)) dX1_repairablePlace_11 ⟨kk_le rfl, kk_le rfl⟩)) (fun r2 hr2 => ?_)
    subst hr2
    rcases gaI_cases f n st with ⟨hg1, hg2⟩ | ⟨hg1, hg2⟩
    · rw [hg1]
      refine lv_istore_n (lv' := [(1, .int (-1)), (0, .ref x)]) hx hb dX1_repairablePlace_14 rfl hl (by decide) rfl (fun ls hl => ?_)
      refine lv_aload_n hx hb dX1_repairablePlace_15 rfl (lv_at hl 1 rfl) ?_
      refine lv_iload_n hx hb dX1_repairablePlace_16 rfl (lv_at hl 0 rfl) ?_
      refine lv_iconst (v := nI 1) hx hb dX1_repairablePlace_17 (by decide) ?_
      refine lv_iadd hx hb dX1_repairablePlace_18 ?_
      rw [show (-1 : Int32) + nI 1 = nI 0 from by decide]
      refine vp_callSi (va_Run.run (va_runV (As := [.int (nI 0)]) (rest := []) ⟨hx, hb, hml, hown, hts⟩ (kX1_placeOf l D ca x qb ql rs st ck 0) (cwV 1 hts gX1_repairablePlace_X1_placeOf rfl rfl rfl (by decide +kernel) ⟨kk_le rfl, kk_le rfl⟩) (pvR hK (hP.sub (ws' := [(x, .inr (1, [.ref qb, .ref ql, .int rs, .int (nI st), .int ck]))]) [0] rfl) (va_recv hKv hP (ci := 1) (q0 := 0) rfl rfl)) rfl rfl hl.1 rfl (lv_room (kk_le rfl)) dX1_repairablePlace_19 ⟨kk_le rfl, kk_le rfl⟩)) (fun r3 hr3 => ?_)
      subst hr3
      refine lv_istore_n (lv' := [(2, .int (nI (gp st 0))), (1, .int (-1)), (0, .ref x)]) hx hb dX1_repairablePlace_22 rfl hl (by decide) rfl (fun ls hl => ?_)
      refine lv_iload_n hx hb dX1_repairablePlace_23 rfl (lv_at hl 1 rfl) ?_
      refine lv_iconst (v := (-1)) hx hb dX1_repairablePlace_24 (by decide) ?_
      refine lv_icmp_eq (tgt := 44) hx hb dX1_repairablePlace_25 (by decide) (fun c4 => ?_) (fun c4 => ?_)
      · refine lv_iconst (v := (-1)) hx hb dX1_repairablePlace_44 (by decide) ?_
        subst hQz
        exact W.iret (v := (-1)) hx hb hr (fun t ht _ => ⟨_, rfl, by first | exact (rp_reason (by assumption)).symm | exact (rp_none (by assumption) hg2 hg1).symm | exact (rp_nogr (by assumption) (by assumption)).symm | exact (rp_even (by assumption) (by assumption)).symm | exact (rp_two (by assumption) hg2 (by assumption) (by assumption) hw (by assumption) (by assumption) (by omega)).symm | exact (rp_ok (by assumption) hg2 (by assumption) (by assumption) hw (by omega) (by omega)).symm, ht⟩) (fun _ h => nomatch h) dX1_repairablePlace_45
      · exact absurd rfl c4
    · rw [hg1]
      have hgb : gN f n st < 1000 := by unfold gp at hg2; omega
      refine lv_istore_n (lv' := [(1, .int (nI (gN f n st))), (0, .ref x)]) hx hb dX1_repairablePlace_14 rfl hl (by decide) rfl (fun ls hl => ?_)
      refine lv_aload_n hx hb dX1_repairablePlace_15 rfl (lv_at hl 1 rfl) ?_
      refine lv_iload_n hx hb dX1_repairablePlace_16 rfl (lv_at hl 0 rfl) ?_
      refine lv_iconst (v := nI 1) hx hb dX1_repairablePlace_17 (by decide) ?_
      refine ni_iadd hx hb dX1_repairablePlace_18 ?_
      refine vp_callSi (va_Run.run (va_runV (As := [.int (nI ((gN f n st) + 1))]) (rest := []) ⟨hx, hb, hml, hown, hts⟩ (kX1_placeOf l D ca x qb ql rs st ck ((gN f n st) + 1)) (cwV 1 hts gX1_repairablePlace_X1_placeOf rfl rfl rfl (by decide +kernel) ⟨kk_le rfl, kk_le rfl⟩) (pvR hK (hP.sub (ws' := [(x, .inr (1, [.ref qb, .ref ql, .int rs, .int (nI st), .int ck]))]) [0] rfl) (va_recv hKv hP (ci := 1) (q0 := 0) rfl rfl)) rfl rfl hl.1 rfl (lv_room (kk_le rfl)) dX1_repairablePlace_19 ⟨kk_le rfl, kk_le rfl⟩)) (fun r5 hr5 => ?_)
      subst hr5
      refine lv_istore_n (lv' := [(2, .int (nI (gp st ((gN f n st) + 1)))), (1, .int (nI (gN f n st))), (0, .ref x)]) hx hb dX1_repairablePlace_22 rfl hl (by decide) rfl (fun ls hl => ?_)
      refine lv_iload_n hx hb dX1_repairablePlace_23 rfl (lv_at hl 1 rfl) ?_
      refine lv_iconst (v := (-1)) hx hb dX1_repairablePlace_24 (by decide) ?_
      refine lv_icmp_eq (tgt := 44) hx hb dX1_repairablePlace_25 (by decide) (fun c6 => ?_) (fun c6 => ?_)
      · exact absurd c6 (ni_m1 (by omega))
      · refine lv_aload_n hx hb dX1_repairablePlace_28 rfl (lv_at hl 2 rfl) ?_
        refine lv_iload_n hx hb dX1_repairablePlace_29 rfl (lv_at hl 0 rfl) ?_
        refine vp_callSi (va_Run.run (va_runV (As := [.int (nI (gp st ((gN f n st) + 1)))]) (rest := []) ⟨hx, hb, hml, hown, hts⟩ (kX1_hasGroup l D ca x qb ab cb ql rs (nI st) ck f n (gp st ((gN f n st) + 1)) (by omega) (by omega) (by omega) (by unfold gp; omega)) (cwV 1 hts gX1_repairablePlace_X1_hasGroup rfl rfl rfl (by decide +kernel) ⟨kk_le rfl, kk_le rfl⟩) (pvR hK hP (va_recv hKv hP (ci := 1) (q0 := 0) rfl rfl)) rfl rfl hl.1 rfl (lv_room (kk_le rfl)) dX1_repairablePlace_30 ⟨kk_le rfl, kk_le rfl⟩)) (fun r7 hr7 => ?_)
        subst hr7
        refine bi_if_eq (tgt := 44) hx hb dX1_repairablePlace_33 (by decide) (fun c8 => ?_) (fun c8 => ?_)
        · refine lv_iconst (v := (-1)) hx hb dX1_repairablePlace_44 (by decide) ?_
          subst hQz
          exact W.iret (v := (-1)) hx hb hr (fun t ht _ => ⟨_, rfl, by first | exact (rp_reason (by assumption)).symm | exact (rp_none (by assumption) hg2 hg1).symm | exact (rp_nogr (by assumption) (by assumption)).symm | exact (rp_even (by assumption) (by assumption)).symm | exact (rp_two (by assumption) hg2 (by assumption) (by assumption) hw (by assumption) (by assumption) (by omega)).symm | exact (rp_ok (by assumption) hg2 (by assumption) (by assumption) hw (by omega) (by omega)).symm, ht⟩) (fun _ h => nomatch h) dX1_repairablePlace_45
        · refine lv_aload_n hx hb dX1_repairablePlace_36 rfl (lv_at hl 2 rfl) ?_
          refine lv_iload_n hx hb dX1_repairablePlace_37 rfl (lv_at hl 0 rfl) ?_
          refine vp_callSi (va_Run.run (va_runV (As := [.int (nI (gp st ((gN f n st) + 1)))]) (rest := []) ⟨hx, hb, hml, hown, hts⟩ (kX1_isOdd l D ca x qb ab cb ql rs (nI st) ck f n (gp st ((gN f n st) + 1)) (by omega) (by omega) (by exact of_decide_eq_true (by assumption))) (cwV 1 hts gX1_repairablePlace_X1_isOdd rfl rfl rfl (by decide +kernel) ⟨kk_le rfl, kk_le rfl⟩) (pvR hK hP (va_recv hKv hP (ci := 1) (q0 := 0) rfl rfl)) rfl rfl hl.1 rfl (lv_room (kk_le rfl)) dX1_repairablePlace_38 ⟨kk_le rfl, kk_le rfl⟩)) (fun r9 hr9 => ?_)
          subst hr9
          refine bi_if_ne (tgt := 46) hx hb dX1_repairablePlace_41 (by decide) (fun c10 => ?_) (fun c10 => ?_)
          · refine lv_iconst (v := (-1)) hx hb dX1_repairablePlace_46 (by decide) ?_
            refine lv_istore_n (lv' := [(3, .int (-1)), (2, .int (nI (gp st ((gN f n st) + 1)))), (1, .int (nI (gN f n st))), (0, .ref x)]) hx hb dX1_repairablePlace_47 rfl hl (by decide) rfl (fun ls hl => ?_)
            refine lv_iconst (v := nI 0) hx hb dX1_repairablePlace_48 (by decide) ?_
            refine lv_istore (lv' := [(4, .int (nI 0)), (3, .int (-1)), (2, .int (nI (gp st ((gN f n st) + 1)))), (1, .int (nI (gN f n st))), (0, .ref x)]) hx hb dX1_repairablePlace_49 hl (by decide) rfl (fun ls hl => ?_)
            have lp51_10 : ∀ (k1 : Nat) (i : Nat) (wr : Int32), gN f n st - i < k1 → (i ≤ gN f n st) → (wrS f st i = some wr) → ∀ (ls : Array Slot), lv_has ls 5 [(4, .int (nI i)), (3, .int wr), (0, .ref x), (1, .int (nI (gN f n st)))] → W p l e rm_kX1_repairablePlace s m ([.ref x] : List Value).toArray below meth c s.heap [] 0 0 Qz (F0 m 51 ls []) := by
              intro k1
              induction k1 with
              | zero => intro i wr hm1; exact absurd hm1 (Nat.not_lt_zero _)
              | succ k1 ih1 =>
                intro i wr hm1 hi hw ls hl
                refine lv_iload hx hb dX1_repairablePlace_51 (lv_at hl 0 rfl) ?_
                refine lv_iload_n hx hb dX1_repairablePlace_53 rfl (lv_at hl 3 rfl) ?_
                refine ni_icmp_ge (tgt := 86) (by omega) (by omega) hx hb dX1_repairablePlace_54 (by decide) (fun c12 => ?_) (fun c12 => ?_)
                · refine lv_iload_n hx hb dX1_repairablePlace_86 rfl (lv_at hl 1 rfl) ?_
                  subst hQz
                  exact W.iret (v := wr) hx hb hr (fun t ht _ => ⟨_, rfl, by first | exact (rp_reason (by assumption)).symm | exact (rp_none (by assumption) hg2 hg1).symm | exact (rp_nogr (by assumption) (by assumption)).symm | exact (rp_even (by assumption) (by assumption)).symm | exact (rp_two (by assumption) hg2 (by assumption) (by assumption) hw (by assumption) (by assumption) (by omega)).symm | exact (rp_ok (by assumption) hg2 (by assumption) (by assumption) hw (by omega) (by omega)).symm, ht⟩) (fun _ h => nomatch h) dX1_repairablePlace_87
                · refine lv_aload_n hx hb dX1_repairablePlace_57 rfl (lv_at hl 2 rfl) ?_
                  refine lv_aload_n hx hb dX1_repairablePlace_58 rfl (lv_at hl 2 rfl) ?_
                  refine lv_iload hx hb dX1_repairablePlace_59 (lv_at hl 0 rfl) ?_
                  refine vp_callSi (va_Run.run (va_runV (As := [.int (nI i)]) (rest := [.ref x]) ⟨hx, hb, hml, hown, hts⟩ (kX1_placeOf l D ca x qb ql rs st ck i) (cwV 1 hts gX1_repairablePlace_X1_placeOf rfl rfl rfl (by decide +kernel) ⟨kk_le rfl, kk_le rfl⟩) (pvR hK (hP.sub (ws' := [(x, .inr (1, [.ref qb, .ref ql, .int rs, .int (nI st), .int ck]))]) [0] rfl) (va_recv hKv hP (ci := 1) (q0 := 0) rfl rfl)) rfl rfl hl.1 rfl (lv_room (kk_le rfl)) dX1_repairablePlace_61 ⟨kk_le rfl, kk_le rfl⟩)) (fun r13 hr13 => ?_)
                  subst hr13
                  refine vp_callSi (va_Run.run (va_runV (As := [.int (nI (gp st i))]) (rest := []) ⟨hx, hb, hml, hown, hts⟩ (kX1_isOdd l D ca x qb ab cb ql rs (nI st) ck f n (gp st i) (by omega) (by omega) (by unfold gp at hg2 ⊢; omega)) (cwV 1 hts gX1_repairablePlace_X1_isOdd rfl rfl rfl (by decide +kernel) ⟨kk_le rfl, kk_le rfl⟩) (pvR hK hP (va_recv hKv hP (ci := 1) (q0 := 0) rfl rfl)) rfl rfl hl.1 rfl (lv_room (kk_le rfl)) dX1_repairablePlace_64 ⟨kk_le rfl, kk_le rfl⟩)) (fun r14 hr14 => ?_)
                  subst hr14
                  refine bi_if_ne (tgt := 80) hx hb dX1_repairablePlace_67 (by decide) (fun c15 => ?_) (fun c15 => ?_)
                  · refine lv_iinc (v := nI (i + 1)) (lv' := [(4, .int (nI (i + 1))), (3, .int wr), (0, .ref x), (1, .int (nI (gN f n st)))]) hx hb dX1_repairablePlace_80 hl (k := 0) rfl (ni_inc _ _ (by decide)) (by decide) rfl (fun ls hl => ?_)
                    refine lv_goto (tgt := 51) hx hb dX1_repairablePlace_83 (by decide) ?_
                    exact ih1 (i + 1) wr (by omega) (by omega) (by first | exact wr_odd hw (by assumption) | exact wr_one hw (by assumption) (by assumption)) ls (lv_sub hl [0, 1, 2, 3] rfl)
                  · refine lv_iload_n hx hb dX1_repairablePlace_70 rfl (lv_at hl 1 rfl) ?_
                    refine lv_iconst (v := (-1)) hx hb dX1_repairablePlace_71 (by decide) ?_
                    refine lv_icmp_eq (tgt := 77) hx hb dX1_repairablePlace_72 (by decide) (fun c16 => ?_) (fun c16 => ?_)
                    · refine lv_iload hx hb dX1_repairablePlace_77 (lv_at hl 0 rfl) ?_
                      refine lv_istore_n (lv' := [(3, .int (nI i)), (4, .int (nI i)), (0, .ref x), (1, .int (nI (gN f n st)))]) hx hb dX1_repairablePlace_79 rfl hl (by decide) rfl (fun ls hl => ?_)
                      refine lv_iinc (v := nI (i + 1)) (lv' := [(4, .int (nI (i + 1))), (3, .int (nI i)), (0, .ref x), (1, .int (nI (gN f n st)))]) hx hb dX1_repairablePlace_80 hl (k := 1) rfl (ni_inc _ _ (by decide)) (by decide) rfl (fun ls hl => ?_)
                      refine lv_goto (tgt := 51) hx hb dX1_repairablePlace_83 (by decide) ?_
                      exact ih1 (i + 1) (nI i) (by omega) (by omega) (by first | exact wr_odd hw (by assumption) | exact wr_one hw (by assumption) (by assumption)) ls (lv_sub hl [0, 1, 2, 3] rfl)
                    · refine lv_iconst (v := (-1)) hx hb dX1_repairablePlace_75 (by decide) ?_
                      subst hQz
                      exact W.iret (v := (-1)) hx hb hr (fun t ht _ => ⟨_, rfl, by first | exact (rp_reason (by assumption)).symm | exact (rp_none (by assumption) hg2 hg1).symm | exact (rp_nogr (by assumption) (by assumption)).symm | exact (rp_even (by assumption) (by assumption)).symm | exact (rp_two (by assumption) hg2 (by assumption) (by assumption) hw (by assumption) (by assumption) (by omega)).symm | exact (rp_ok (by assumption) hg2 (by assumption) (by assumption) hw (by omega) (by omega)).symm, ht⟩) (fun _ h => nomatch h) dX1_repairablePlace_76
            exact lp51_10 ((gN f n st - 0) + 1) 0 (-1) (by omega) (by omega) (by rfl) ls (lv_sub hl [0, 1, 4, 3] rfl)
          · refine lv_iconst (v := (-1)) hx hb dX1_repairablePlace_44 (by decide) ?_
            subst hQz
            exact W.iret (v := (-1)) hx hb hr (fun t ht _ => ⟨_, rfl, by first | exact (rp_reason (by assumption)).symm | exact (rp_none (by assumption) hg2 hg1).symm | exact (rp_nogr (by assumption) (by assumption)).symm | exact (rp_even (by assumption) (by assumption)).symm | exact (rp_two (by assumption) hg2 (by assumption) (by assumption) hw (by assumption) (by assumption) (by omega)).symm | exact (rp_ok (by assumption) hg2 (by assumption) (by assumption) hw (by omega) (by omega)).symm, ht⟩) (fun _ h => nomatch h) dX1_repairablePlace_45
  · refine lv_iconst (v := (-1)) hx hb dX1_repairablePlace_8 (by decide) ?_
    subst hQz
    exact W.iret (v := (-1)) hx hb hr (fun t ht _ => ⟨_, rfl, by first | exact (rp_reason (by assumption)).symm | exact (rp_none (by assumption) hg2 hg1).symm | exact (rp_nogr (by assumption) (by assumption)).symm | exact (rp_even (by assumption) (by assumption)).symm | exact (rp_two (by assumption) hg2 (by assumption) (by assumption) hw (by assumption) (by assumption) (by omega)).symm | exact (rp_ok (by assumption) hg2 (by assumption) (by assumption) hw (by omega) (by omega)).symm, ht⟩) (fun _ h => nomatch h) dX1_repairablePlace_9
abbrev rm_kX1_repairedNumber : Room := { frames := 3, cells := 0, slots := 0, locals := 66 }
set_option maxHeartbeats 4000000 in
set_option maxRecDepth 100000 in
theorem kX1_repairedNumber (l : Launch) (D : va_G) (ca : Nat → ClassId) (x qb ab cb ql : Nat) (rs : Int32) (st : Nat) (ck : Int32) (f : Nat → Int32) (n : Nat) (wr : Nat) (hn : n ≤ cb) (hc : cb < 1000000) (hst : st + 5 ≤ n) (h200 : n ≤ 200) (hg : gaI f n st = nI (gN f n st)) (hch : gp st (gN f n st + 1) + 5 ≤ n) (hwr : wr < 1000) : Met l yX1_repairedNumber wsX1_repairedNumber rm_kX1_repairedNumber (pcR D ca [.ref x, .int (nI wr)] [(x, .inr (1, [.ref qb, .ref ql, .int rs, .int (nI st), .int ck])), (qb, .inr (2, [.ref ab, .int (nI n)])), (ab, .inl (ca 0, cb, .inl f))]) (vp_Si (fun z : Int32 => z = rpN f st (gN f n st) wr)) 0 0 (fun _ => False) := by
  refine Met.ofW (cc := cX1_repairedNumber) (maxL := 5) (ret := (some .int)) (by decide) rfl ?_
  intro p e s m args below meth c s₁ B hml hv
  obtain ⟨rfl, hP, hK⟩ := hv
  have hx := B.exec
  have hb := B.bytes
  have hr := B.returns
  have hts := atoms_spec (ws := wsX1_repairedNumber) B.pre
  have hown : s.vm.findClass RX1 = some m.cls := findClass_of_methodNamed B.named
  have hlocks := B.notSynchronized
  have hKv := hK.1
  have hl := lv_entry ([.ref x, .int (nI wr)]) (n := 5) (kk_le rfl)
  rw [lg_entry_eq]
  generalize (lg_sl ([.ref x, .int (nI wr)]) ++ List.replicate (5 - (lg_sl ([.ref x, .int (nI wr)])).length) Slot.unset).toArray = ls at hl ⊢
  have hl : lv_has ls 5 [(0, .ref x), (1, .int (nI wr))] := hl
  generalize hQz : MQ below _ _ _ _ _ _ = Qz
  have hgb : gN f n st < 1000 := by unfold gp at hch; omega
  refine lv_aload_n hx hb dX1_repairedNumber_0 rfl (lv_at hl 0 rfl) ?_
  refine vp_callSi (va_Run.run (va_runV (As := []) (rest := []) ⟨hx, hb, hml, hown, hts⟩ (kX1_groupsAheadOfOddEnd l D ca x qb ab cb ql rs st ck f n (by first | rfl | assumption | omega | trivial | (exfalso; omega)) (by first | rfl | assumption | omega | trivial | (exfalso; omega)) (by first | rfl | assumption | omega | trivial | (exfalso; omega)) (by first | rfl | assumption | omega | trivial | (exfalso; omega))) (cwV 0 hts gX1_repairedNumber_X1_groupsAheadOfOddEnd rfl rfl rfl (by decide +kernel) ⟨kk_le rfl, kk_le rfl⟩) (pvR hK hP (va_recv hKv hP (ci := 1) (q0 := 0) rfl rfl)) rfl rfl hl.1 rfl (lv_room (kk_le rfl)) dX1_repairedNumber_1 ⟨kk_le rfl, kk_le rfl⟩)) (fun r1 hr1 => ?_)
  subst hr1
  rw [hg]
  refine lv_istore_n (lv' := [(2, .int (nI (gN f n st))), (0, .ref x), (1, .int (nI wr))]) hx hb dX1_repairedNumber_4 rfl hl (by decide) rfl (fun ls hl => ?_)
  refine lv_bipush (v := nI 11) hx hb dX1_repairedNumber_5 (by decide) ?_
  refine lv_istore_n (lv' := [(3, .int (nI 11)), (2, .int (nI (gN f n st))), (0, .ref x), (1, .int (nI wr))]) hx hb dX1_repairedNumber_7 rfl hl (by decide) rfl (fun ls hl => ?_)
  refine lv_iconst (v := nI 0) hx hb dX1_repairedNumber_8 (by decide) ?_
  refine lv_istore (lv' := [(4, .int (nI 0)), (3, .int (nI 11)), (2, .int (nI (gN f n st))), (0, .ref x), (1, .int (nI wr))]) hx hb dX1_repairedNumber_9 hl (by decide) rfl (fun ls hl => ?_)
  have lp11_1 : ∀ (k1 : Nat) (i : Nat) (acc : Int32), gN f n st + 2 - i < k1 → (i ≤ gN f n st + 2) → (acc = yS f st wr i) → ∀ (ls : Array Slot), lv_has ls 5 [(4, .int (nI i)), (3, .int acc), (2, .int (nI (gN f n st))), (0, .ref x), (1, .int (nI wr))] → W p l e rm_kX1_repairedNumber s m ([.ref x, .int (nI wr)] : List Value).toArray below meth c s.heap [] 0 0 Qz (F0 m 11 ls []) := by
    intro k1
    induction k1 with
    | zero => intro i acc hm1; exact absurd hm1 (Nat.not_lt_zero _)
    | succ k1 ih1 =>
      intro i acc hm1 hi ha ls hl
      refine lv_iload hx hb dX1_repairedNumber_11 (lv_at hl 0 rfl) ?_
      refine lv_iload_n hx hb dX1_repairedNumber_13 rfl (lv_at hl 2 rfl) ?_
      refine lv_iconst (v := nI 1) hx hb dX1_repairedNumber_14 (by decide) ?_
      refine ni_iadd hx hb dX1_repairedNumber_15 ?_
      refine ni_icmp_gt (tgt := 44) (by omega) (by omega) hx hb dX1_repairedNumber_16 (by decide) (fun c3 => ?_) (fun c3 => ?_)
      · refine lv_iload_n hx hb dX1_repairedNumber_44 rfl (lv_at hl 1 rfl) ?_
        subst hQz
        exact W.iret (v := acc) hx hb hr (fun t ht _ => ⟨_, rfl, by (unfold rpN; rw [ha, show i = gN f n st + 2 from by omega]), ht⟩) (fun _ h => nomatch h) dX1_repairedNumber_45
      · refine lv_iload hx hb dX1_repairedNumber_19 (lv_at hl 0 rfl) ?_
        refine lv_iload_n hx hb dX1_repairedNumber_21 rfl (lv_at hl 4 rfl) ?_
        refine ni_icmp_eq (tgt := 38) (by omega) (by omega) hx hb dX1_repairedNumber_22 (by decide) (fun c4 => ?_) (fun c4 => ?_)
        · refine lv_iinc (v := nI (i + 1)) (lv' := [(4, .int (nI (i + 1))), (3, .int acc), (2, .int (nI (gN f n st))), (0, .ref x), (1, .int (nI wr))]) hx hb dX1_repairedNumber_38 hl (k := 0) rfl (ni_inc _ _ (by decide)) (by decide) rfl (fun ls hl => ?_)
          refine lv_goto (tgt := 11) hx hb dX1_repairedNumber_41 (by decide) ?_
          exact ih1 (i + 1) acc (by omega) (by omega) (by first | exact y_same ha (by assumption) | exact y_step ha (by assumption)) ls (lv_sub hl [0, 1, 2, 3, 4] rfl)
        · refine lv_iload_n hx hb dX1_repairedNumber_25 rfl (lv_at hl 1 rfl) ?_
          refine lv_aload_n hx hb dX1_repairedNumber_26 rfl (lv_at hl 3 rfl) ?_
          refine lv_aload_n hx hb dX1_repairedNumber_27 rfl (lv_at hl 3 rfl) ?_
          refine lv_iload hx hb dX1_repairedNumber_28 (lv_at hl 0 rfl) ?_
          refine vp_callSi (va_Run.run (va_runV (As := [.int (nI i)]) (rest := [.ref x, .int acc]) ⟨hx, hb, hml, hown, hts⟩ (kX1_placeOf l D ca x qb ql rs st ck i) (cwV 1 hts gX1_repairedNumber_X1_placeOf rfl rfl rfl (by decide +kernel) ⟨kk_le rfl, kk_le rfl⟩) (pvR hK (hP.sub (ws' := [(x, .inr (1, [.ref qb, .ref ql, .int rs, .int (nI st), .int ck]))]) [0] rfl) (va_recv hKv hP (ci := 1) (q0 := 0) rfl rfl)) rfl rfl hl.1 rfl (lv_room (kk_le rfl)) dX1_repairedNumber_30 ⟨kk_le rfl, kk_le rfl⟩)) (fun r5 hr5 => ?_)
          subst hr5
          refine vp_callSi (va_Run.run (va_runV (As := [.int (nI (gp st i))]) (rest := [.int acc]) ⟨hx, hb, hml, hown, hts⟩ (kX1_numberAt l D ca x qb ab cb ql rs (nI st) ck f n (gp st i) (by omega) (by omega) (by unfold gp at hch ⊢; omega)) (cwV 1 hts gX1_repairedNumber_X1_numberAt rfl rfl rfl (by decide +kernel) ⟨kk_le rfl, kk_le rfl⟩) (pvR hK hP (va_recv hKv hP (ci := 1) (q0 := 0) rfl rfl)) rfl rfl hl.1 rfl (lv_room (kk_le rfl)) dX1_repairedNumber_33 ⟨kk_le rfl, kk_le rfl⟩)) (fun r6 hr6 => ?_)
          subst hr6
          refine lv_ixor hx hb dX1_repairedNumber_36 ?_
          refine lv_istore_n (lv' := [(3, .int (acc ^^^ (numG f (gp st i)))), (4, .int (nI i)), (2, .int (nI (gN f n st))), (0, .ref x), (1, .int (nI wr))]) hx hb dX1_repairedNumber_37 rfl hl (by decide) rfl (fun ls hl => ?_)
          refine lv_iinc (v := nI (i + 1)) (lv' := [(4, .int (nI (i + 1))), (3, .int (acc ^^^ (numG f (gp st i)))), (2, .int (nI (gN f n st))), (0, .ref x), (1, .int (nI wr))]) hx hb dX1_repairedNumber_38 hl (k := 1) rfl (ni_inc _ _ (by decide)) (by decide) rfl (fun ls hl => ?_)
          refine lv_goto (tgt := 11) hx hb dX1_repairedNumber_41 (by decide) ?_
          exact ih1 (i + 1) (acc ^^^ (numG f (gp st i))) (by omega) (by omega) (by first | exact y_same ha (by assumption) | exact y_step ha (by assumption)) ls (lv_sub hl [0, 1, 2, 3, 4] rfl)
  exact lp11_1 ((gN f n st + 2 - 0) + 1) 0 (nI 11) (by omega) (by omega) (by rfl) ls (lv_sub hl [0, 1, 2, 3, 4] rfl)
abbrev rm_kX1_told : Room := { frames := 1, cells := 0, slots := 0, locals := 20 }
set_option maxHeartbeats 4000000 in
set_option maxRecDepth 100000 in
theorem kX1_told (l : Launch) (D : va_G) (ca : Nat → ClassId) (x qb ab cb ql : Nat) (rs st ck : Int32) (f : Nat → Int32) (n : Nat) (al cl : Nat) (h : Nat → Int32) (nl : Nat) (w : Nat) (hn : n ≤ cb) (hc : cb < 1000000) (hnl : nl ≤ cl) (hcl : cl < 1000000) (hw : w < 1000) : Met l yX1_told wsX1_told rm_kX1_told (pcR D ca [.ref x, .int (nI w)] [(x, .inr (1, [.ref qb, .ref ql, .int rs, .int st, .int ck])), (qb, .inr (2, [.ref ab, .int (nI n)])), (ab, .inl (ca 0, cb, .inl f)), (ql, .inr (2, [.ref al, .int (nI nl)])), (al, .inl (ca 0, cl, .inl h))]) (vp_Si (fun z : Int32 => z = tolF w rs (nI n) st (nI nl) ck)) 0 0 (fun _ => False) := by
  refine Met.ofW (cc := cX1_told) (maxL := 2) (ret := (some .int)) (by decide) rfl ?_
  intro p e s m args below meth c s₁ B hml hv
  obtain ⟨rfl, hP, hK⟩ := hv
  have hx := B.exec
  have hb := B.bytes
  have hr := B.returns
  have hts := atoms_spec (ws := wsX1_told) B.pre
  have hown : s.vm.findClass RX1 = some m.cls := findClass_of_methodNamed B.named
  have hlocks := B.notSynchronized
  have hKv := hK.1
  have hl := lv_entry ([.ref x, .int (nI w)]) (n := 2) (kk_le rfl)
  rw [lg_entry_eq]
  generalize (lg_sl ([.ref x, .int (nI w)]) ++ List.replicate (2 - (lg_sl ([.ref x, .int (nI w)])).length) Slot.unset).toArray = ls at hl ⊢
  have hl : lv_has ls 2 [(0, .ref x), (1, .int (nI w))] := hl
  have hiX1 : ∀ w ∈ u_ws RX1 TX1 5, w ∈ wsX1_told := fun w h => by first | exact List.mem_cons_of_mem _ (List.mem_append_right _ h) | exact List.mem_cons_of_mem _ (List.mem_append_left _ (List.mem_append_right _ h)) | exact List.mem_cons_of_mem _ (List.mem_append_left _ (List.mem_append_left _ (List.mem_append_right _ h))) | exact List.mem_cons_of_mem _ (List.mem_append_left _ (List.mem_append_left _ (List.mem_append_left _ (List.mem_append_right _ h)))) | (revert w h; decide +kernel)
  have lk23 : (Cond.fieldLink RX1 23 "StripeSwipes$Reading" "reason" "I").before _ s = true := hts _ (by decide +kernel)
  have lk14 : (Cond.fieldLink RX1 14 "StripeSwipes$Reading" "bits" "LStripeSwipes$Row;").before _ s = true := hts _ (by decide +kernel)
  have lk27 : (Cond.fieldLink RX1 27 "StripeSwipes$Reading" "start" "I").before _ s = true := hts _ (by decide +kernel)
  have lk20 : (Cond.fieldLink RX1 20 "StripeSwipes$Reading" "letters" "LStripeSwipes$Row;").before _ s = true := hts _ (by decide +kernel)
  have lk30 : (Cond.fieldLink RX1 30 "StripeSwipes$Reading" "clock" "I").before _ s = true := hts _ (by decide +kernel)
  refine lv_iload_n hx hb dX1_told_0 rfl (lv_at hl 1 rfl) ?_
  rcases (show w = 0 ∨ w = 1 ∨ w = 2 ∨ w = 3 ∨ 3 < w from by omega) with rfl | rfl | rfl | rfl | c1
  · refine lv_tableIn (tgt := 32) (off := 31) hx hb dX1_told_1 (by decide) (by decide) (by decide) (by decide) ?_
    refine lv_aload_n hx hb dX1_told_32 rfl (lv_at hl 0 rfl) ?_
    refine va_get (D := D) (ci := 1) (C := RX1) (T := TX1) (N := 5) hx hb hts hiX1 hown hKv hP 0 rfl rfl 2 (by decide) lk23 (fun _ h9 => h9) rfl dX1_told_33 ?_
    exact W.iret (v := rs) hx hb hr (fun t ht _ => ⟨_, rfl, by first | rfl | exact (tolF_4 (by assumption)).symm, ht⟩) (fun _ h => nomatch h) dX1_told_36
  · refine lv_tableIn (tgt := 37) (off := 36) hx hb dX1_told_1 (by decide) (by decide) (by decide) (by decide) ?_
    refine lv_aload_n hx hb dX1_told_37 rfl (lv_at hl 0 rfl) ?_
    refine va_get (D := D) (ci := 1) (C := RX1) (T := TX1) (N := 5) hx hb hts hiX1 hown hKv hP 0 rfl rfl 0 (by decide) lk14 (fun _ h9 => h9) rfl dX1_told_38 ?_
    refine vp_callSi (va_Run.run (va_runV (As := []) (rest := []) ⟨hx, hb, hml, hown, hts⟩ (kX2_size l D ca qb ab cb f n (by first | rfl | assumption | omega | trivial | (exfalso; omega)) (by first | rfl | assumption | omega | trivial | (exfalso; omega))) (cwV 0 hts gX1_told_X2_size rfl rfl rfl (by decide +kernel) ⟨kk_le rfl, kk_le rfl⟩) (pvR hK (hP.sub (ws' := [(qb, .inr (2, [.ref ab, .int (nI n)])), (ab, .inl (ca 0, cb, .inl f))]) [1, 2] rfl) (va_recv hKv hP (ci := 2) (q0 := 1) rfl rfl)) rfl rfl hl.1 rfl (lv_room (kk_le rfl)) dX1_told_41 ⟨kk_le rfl, kk_le rfl⟩)) (fun r2 hr2 => ?_)
    subst hr2
    exact W.iret (v := nI n) hx hb hr (fun t ht _ => ⟨_, rfl, by first | rfl | exact (tolF_4 (by assumption)).symm, ht⟩) (fun _ h => nomatch h) dX1_told_44
  · refine lv_tableIn (tgt := 45) (off := 44) hx hb dX1_told_1 (by decide) (by decide) (by decide) (by decide) ?_
    refine lv_aload_n hx hb dX1_told_45 rfl (lv_at hl 0 rfl) ?_
    refine va_get (D := D) (ci := 1) (C := RX1) (T := TX1) (N := 5) hx hb hts hiX1 hown hKv hP 0 rfl rfl 3 (by decide) lk27 (fun _ h9 => h9) rfl dX1_told_46 ?_
    exact W.iret (v := st) hx hb hr (fun t ht _ => ⟨_, rfl, by first | rfl | exact (tolF_4 (by assumption)).symm, ht⟩) (fun _ h => nomatch h) dX1_told_49
  · refine lv_tableIn (tgt := 50) (off := 49) hx hb dX1_told_1 (by decide) (by decide) (by decide) (by decide) ?_
    refine lv_aload_n hx hb dX1_told_50 rfl (lv_at hl 0 rfl) ?_
    refine va_get (D := D) (ci := 1) (C := RX1) (T := TX1) (N := 5) hx hb hts hiX1 hown hKv hP 0 rfl rfl 1 (by decide) lk20 (fun _ h9 => h9) rfl dX1_told_51 ?_
    refine vp_callSi (va_Run.run (va_runV (As := []) (rest := []) ⟨hx, hb, hml, hown, hts⟩ (kX2_size l D ca ql al cl h nl (by first | rfl | assumption | omega | trivial | (exfalso; omega)) (by first | rfl | assumption | omega | trivial | (exfalso; omega))) (cwV 0 hts gX1_told_X2_size rfl rfl rfl (by decide +kernel) ⟨kk_le rfl, kk_le rfl⟩) (pvR hK (hP.sub (ws' := [(ql, .inr (2, [.ref al, .int (nI nl)])), (al, .inl (ca 0, cl, .inl h))]) [3, 4] rfl) (va_recv hKv hP (ci := 2) (q0 := 3) rfl rfl)) rfl rfl hl.1 rfl (lv_room (kk_le rfl)) dX1_told_54 ⟨kk_le rfl, kk_le rfl⟩)) (fun r3 hr3 => ?_)
    subst hr3
    exact W.iret (v := nI nl) hx hb hr (fun t ht _ => ⟨_, rfl, by first | rfl | exact (tolF_4 (by assumption)).symm, ht⟩) (fun _ h => nomatch h) dX1_told_57
  · refine lv_tableOut (tgt := 58) hx hb dX1_told_1 (Or.inr (by rw [nI_toInt (by omega)]; omega)) (by decide) ?_
    refine lv_aload_n hx hb dX1_told_58 rfl (lv_at hl 0 rfl) ?_
    refine va_get (D := D) (ci := 1) (C := RX1) (T := TX1) (N := 5) hx hb hts hiX1 hown hKv hP 0 rfl rfl 4 (by decide) lk30 (fun _ h9 => h9) rfl dX1_told_59 ?_
    exact W.iret (v := ck) hx hb hr (fun t ht _ => ⟨_, rfl, by first | rfl | exact (tolF_4 (by assumption)).symm, ht⟩) (fun _ h => nomatch h) dX1_told_62
abbrev rm_kX1_isCard : Room := { frames := 2, cells := 0, slots := 0, locals := 43 }
set_option maxHeartbeats 4000000 in
set_option maxRecDepth 100000 in
theorem kX1_isCard (l : Launch) (D : va_G) (ca : Nat → ClassId) (x qb ql : Nat) (rs st ck : Int32) (al cl : Nat) (h : Nat → Int32) (nl : Nat) (q a cap : Nat) (g : Nat → Int32) (tn : Nat) (hnl : nl ≤ cl) (hcl : cl < 1000000) (hm : tn ≤ cap) (hcp : cap < 1000000) : Met l yX1_isCard wsX1_isCard rm_kX1_isCard (pcR D ca [.ref x, .ref q] [(x, .inr (1, [.ref qb, .ref ql, .int rs, .int st, .int ck])), (ql, .inr (2, [.ref al, .int (nI nl)])), (al, .inl (ca 0, cl, .inl h)), (q, .inr (2, [.ref a, .int (nI tn)])), (a, .inl (ca 0, cap, .inl g))]) (vp_Si (fun z : Int32 => z = bI (decide (rs = nI 0 ∧ lst h nl = lst g tn)))) 0 0 (fun _ => False) := by
  refine Met.ofW (cc := cX1_isCard) (maxL := 2) (ret := (some .boolean)) (by decide) rfl ?_
  intro p e s m args below meth c s₁ B hml hv
  obtain ⟨rfl, hP, hK⟩ := hv
  have hx := B.exec
  have hb := B.bytes
  have hr := B.returns
  have hts := atoms_spec (ws := wsX1_isCard) B.pre
  have hown : s.vm.findClass RX1 = some m.cls := findClass_of_methodNamed B.named
  have hlocks := B.notSynchronized
  have hKv := hK.1
  have hl := lv_entry ([.ref x, .ref q]) (n := 2) (kk_le rfl)
  rw [lg_entry_eq]
  generalize (lg_sl ([.ref x, .ref q]) ++ List.replicate (2 - (lg_sl ([.ref x, .ref q])).length) Slot.unset).toArray = ls at hl ⊢
  have hl : lv_has ls 2 [(0, .ref x), (1, .ref q)] := hl
  have hiX1 : ∀ w ∈ u_ws RX1 TX1 5, w ∈ wsX1_isCard := fun w h => by first | exact List.mem_cons_of_mem _ (List.mem_append_right _ h) | exact List.mem_cons_of_mem _ (List.mem_append_left _ (List.mem_append_right _ h)) | exact List.mem_cons_of_mem _ (List.mem_append_left _ (List.mem_append_left _ (List.mem_append_right _ h))) | exact List.mem_cons_of_mem _ (List.mem_append_left _ (List.mem_append_left _ (List.mem_append_left _ (List.mem_append_right _ h)))) | (revert w h; decide +kernel)
  have lk23 : (Cond.fieldLink RX1 23 "StripeSwipes$Reading" "reason" "I").before _ s = true := hts _ (by decide +kernel)
  have lk20 : (Cond.fieldLink RX1 20 "StripeSwipes$Reading" "letters" "LStripeSwipes$Row;").before _ s = true := hts _ (by decide +kernel)
  refine lv_aload_n hx hb dX1_isCard_0 rfl (lv_at hl 0 rfl) ?_
  refine va_get (D := D) (ci := 1) (C := RX1) (T := TX1) (N := 5) hx hb hts hiX1 hown hKv hP 0 rfl rfl 2 (by decide) lk23 (fun _ h9 => h9) rfl dX1_isCard_1 ?_
  refine lv_if_ne (tgt := 22) hx hb dX1_isCard_4 (by decide) (fun c1 => ?_) (fun c1 => ?_)
  · refine lv_iconst (v := nI 0) hx hb dX1_isCard_22 (by decide) ?_
    exact W.zret (v := nI 0) hx hb hr (by first | rfl | exact bI_nar _ | exact bI_fit _ | (first | exact Or.inl rfl | exact Or.inr rfl)) (fun t ht _ => ⟨_, rfl, by first | exact (congrArg bI (card_a (by assumption))).symm | exact (congrArg bI (card_b (by assumption))).symm | exact (congrArg bI (card_c (by assumption) (by assumption))).symm, ht⟩) (fun _ h => nomatch h) dX1_isCard_23
  · refine lv_aload_n hx hb dX1_isCard_7 rfl (lv_at hl 0 rfl) ?_
    refine va_get (D := D) (ci := 1) (C := RX1) (T := TX1) (N := 5) hx hb hts hiX1 hown hKv hP 0 rfl rfl 1 (by decide) lk20 (fun _ h9 => h9) rfl dX1_isCard_8 ?_
    refine lv_aload_n hx hb dX1_isCard_11 rfl (lv_at hl 1 rfl) ?_
    refine vp_callSi (va_Run.run (va_runV (As := [.ref q]) (rest := []) ⟨hx, hb, hml, hown, hts⟩ (kX2_sameAs l D ca ql al cl h nl q a cap g tn (by first | rfl | assumption | omega | trivial | (exfalso; omega)) (by first | rfl | assumption | omega | trivial | (exfalso; omega)) (by first | rfl | assumption | omega | trivial | (exfalso; omega)) (by first | rfl | assumption | omega | trivial | (exfalso; omega))) (cwV 1 hts gX1_isCard_X2_sameAs rfl rfl rfl (by decide +kernel) ⟨kk_le rfl, kk_le rfl⟩) (pvR hK (hP.sub (ws' := [(ql, .inr (2, [.ref al, .int (nI nl)])), (al, .inl (ca 0, cl, .inl h)), (q, .inr (2, [.ref a, .int (nI tn)])), (a, .inl (ca 0, cap, .inl g))]) [1, 2, 3, 4] rfl) (va_recv hKv hP (ci := 2) (q0 := 1) rfl rfl)) rfl rfl hl.1 rfl (lv_room (kk_le rfl)) dX1_isCard_12 ⟨kk_le rfl, kk_le rfl⟩)) (fun r2 hr2 => ?_)
    subst hr2
    refine bi_if_eq (tgt := 22) hx hb dX1_isCard_15 (by decide) (fun c3 => ?_) (fun c3 => ?_)
    · refine lv_iconst (v := nI 0) hx hb dX1_isCard_22 (by decide) ?_
      exact W.zret (v := nI 0) hx hb hr (by first | rfl | exact bI_nar _ | exact bI_fit _ | (first | exact Or.inl rfl | exact Or.inr rfl)) (fun t ht _ => ⟨_, rfl, by first | exact (congrArg bI (card_a (by assumption))).symm | exact (congrArg bI (card_b (by assumption))).symm | exact (congrArg bI (card_c (by assumption) (by assumption))).symm, ht⟩) (fun _ h => nomatch h) dX1_isCard_23
    · refine lv_iconst (v := nI 1) hx hb dX1_isCard_18 (by decide) ?_
      refine lv_goto (tgt := 23) hx hb dX1_isCard_19 (by decide) ?_
      exact W.zret (v := nI 1) hx hb hr (by first | rfl | exact bI_nar _ | exact bI_fit _ | (first | exact Or.inl rfl | exact Or.inr rfl)) (fun t ht _ => ⟨_, rfl, by first | exact (congrArg bI (card_a (by assumption))).symm | exact (congrArg bI (card_b (by assumption))).symm | exact (congrArg bI (card_c (by assumption) (by assumption))).symm, ht⟩) (fun _ h => nomatch h) dX1_isCard_23
