theorem hasF_cases (n : Nat) (x : Int32) (hn : n < 2147483648) : (∃ q, q < n ∧ x = nI q) ∨ hasF n x = false := by
  by_cases h : x < 0
  · exact Or.inr (hasF_lo h)
  · by_cases h2 : nI n ≤ x
    · exact Or.inr (hasF_hi h2)
    · exact Or.inl (ni_of h h2 hn)
theorem nonneg_cases (x : Int32) : (∃ q : Nat, q < 2147483648 ∧ x = nI q) ∨ x < 0 := by
  by_cases h : x < 0
  · exact Or.inr h
  · refine Or.inl ⟨x.toInt.toNat, ?_, ?_⟩
    · have := Int32.toInt_lt x; omega
    · have h0 : 0 ≤ x.toInt := Int.not_lt.mp fun q => h (Int32.lt_iff_toInt_lt.mpr (by simpa using q))
      have h1 := Int32.toInt_lt x
      apply Int32.toInt_inj.mp
      rw [nI_toInt (by omega)]; omega
theorem inp_k {x : Int32} {n k : Nat} (h : n = k + 1) (hn : n < 2147483648) : inF x (nI 0) (nI k) = hasF n x := by
  unfold inF hasF
  subst h
  have e : decide (nI k < x) = decide (nI (k + 1) ≤ x) := by
    apply decide_eq_decide.mpr
    rw [Int32.lt_iff_toInt_lt, Int32.le_iff_toInt_le, nI_toInt (by omega), nI_toInt (by omega)]; omega
  rw [e]; rfl
theorem inp_m {x : Int32} {n d : Nat} (hn : n ≤ 200) (hd : d ≤ 2) (hd0 : 0 < d) : inF x (nI 0) (nI n - nI d) = hasF (n - (d - 1)) x := by
  rcases Nat.lt_or_ge n d with h | h
  · have h1 : nI n - nI d < nI 0 := by
      have : n = 0 ∧ d = 1 ∨ n = 0 ∧ d = 2 ∨ n = 1 ∧ d = 2 := by omega
      rcases this with ⟨rfl, rfl⟩ | ⟨rfl, rfl⟩ | ⟨rfl, rfl⟩ <;> decide
    have e : hasF (n - (d - 1)) x = false := by
      rw [show n - (d - 1) = 0 by omega]
      by_cases h2 : x < 0
      · exact hasF_lo h2
      · exact hasF_hi (Int32.not_lt.mp h2)
    rw [e]
    by_cases h2 : x < nI 0
    · exact inF_lo h2
    · exact inF_hi (by
        have h3 := Int32.not_lt.mp h2
        rw [Int32.lt_iff_toInt_lt] at h1 ⊢; rw [Int32.le_iff_toInt_le] at h3; omega)
  · rw [pk_sub h]
    exact inp_k (by omega) (by omega)
/-- the letter of a character's code, or -1 -/
def lcode (v : Int32) : Int32 := if inF v (nI 48) (nI 57) = true then v - nI 48 else if v = nI 97 then nI 10 else if v = nI 99 then nI 12 else if v = nI 61 then nI 13 else if v = nI 101 then nI 14 else -1
def okC (fb : Nat → Int32) (ln j : Nat) : Bool := decide (j < ln) && !(decide (lcode (fb j) = -1))
def erN (fb : Nat → Int32) (ln : Nat) : Nat := stopAt (okC fb ln) 20 0
def lcL (fb : Nat → Int32) (n : Nat) : IL := lst (fun k => lcode (fb k)) n
theorem okC_t {fb : Nat → Int32} {ln j : Nat} (h : j < ln) (h2 : ¬ lcode (fb j) = -1) : okC fb ln j = true := by unfold okC; rw [decide_eq_true h, decide_eq_false h2]; rfl
theorem okC_a {fb : Nat → Int32} {ln j : Nat} (h : ¬ j < ln) : okC fb ln j = false := by unfold okC; rw [decide_eq_false h]; rfl
theorem okC_b {fb : Nat → Int32} {ln j : Nat} (h2 : lcode (fb j) = -1) : okC fb ln j = false := by unfold okC; rw [decide_eq_true h2]; simp
theorem er_end {fb : Nat → Int32} {ln i : Nat} (hok : ∀ j, j < i → okC fb ln j = true) (h : i < 20 → okC fb ln i = false) (hi : i ≤ 20) : erN fb ln = i := stopAt_eq (Nat.zero_le _) (by omega) (fun j _ h2 => hok j h2) (fun h2 => h (by omega))
theorem erN_le (fb : Nat → Int32) (ln : Nat) (h : ln ≤ 40) : erN fb ln ≤ ln ∧ erN fb ln ≤ 20 := by
  have hb : ∀ {P : Nat → Bool} (k i : Nat), stopAt P k i ≤ i + k := by
    intro P k
    induction k with
    | zero => intro i; exact Nat.le_refl _
    | succ k ih =>
      intro i
      have := ih (i + 1)
      simp only [stopAt]; split <;> omega
  refine ⟨?_, by have := @hb (okC fb ln) 20 0; simp only [erN]; omega⟩
  apply Nat.le_of_not_lt
  intro h2
  have := stopAt_yes (P := okC fb ln) (k := 20) (i := 0) (j := ln) (Nat.zero_le _) h2
  rw [okC_a (Nat.lt_irrefl _)] at this; exact absurd this (by decide)
theorem lcL_step (ft fb : Nat → Int32) (i : Nat) : upd (apF ft 0 (lcL fb i)) i (lcode (fb i)) = apF ft 0 (lcL fb (i + 1)) := by
  have := apF_1 ft 0 (lcL fb i) (lcode (fb i))
  rw [show 0 + (lcL fb i).length = i by unfold lcL; rw [lst_len]; omega] at this
  rw [this]; unfold lcL; rw [lst_succ]
theorem gd_in (g : Nat → Int32) (L : IL) {q : Nat} (h : q < L.length) : apF g 0 L q = L.getD q (-1) := by
  rw [apF_in g L h, List.getD_eq_getElem?_getD, List.getD_eq_getElem?_getD, List.getElem?_eq_getElem h]; rfl
theorem gd_out (L : IL) {q : Nat} (h : L.length ≤ q) : (-1 : Int32) = L.getD q (-1) := by
  rw [List.getD_eq_getElem?_getD, List.getElem?_eq_none h]; rfl
theorem lc6_no {v : Int32} (e : inF v (nI 48) (nI 57) = false) (b : ¬ v = nI 97) (c : ¬ v = nI 99) (a : ¬ v = nI 61) (d : ¬ v = nI 101) : lcode v = -1 := by
  unfold lcode
  rw [e, if_neg (by decide), if_neg b, if_neg c, if_neg a, if_neg d]
abbrev rm_kX6_letterOf : Room := { frames := 1, cells := 0, slots := 0, locals := 22 }
set_option maxHeartbeats 4000000 in
set_option maxRecDepth 100000 in
theorem kX6_letterOf (l : Launch) (v : Int32) : Met l yX6_letterOf wsX6_letterOf rm_kX6_letterOf (pcN [.int v]) (vp_Si (fun zr : Int32 => zr = lcode v)) 0 0 (fun _ => False) := by
  refine Met.ofW (cc := cX6_letterOf) (maxL := 1) (ret := (some .int)) (by decide) rfl ?_
  intro p e s m args below meth c s₁ B hml hv
  obtain ⟨rfl, -⟩ := hv
  have hx := B.exec
  have hb := B.bytes
  have hr := B.returns
  have hts := atoms_spec (ws := wsX6_letterOf) B.pre
  have hown : s.vm.findClass RX6 = some m.cls := findClass_of_methodNamed B.named
  have hlocks := B.notSynchronized
  have hl := lv_entry ([.int v]) (n := 1) (kk_le rfl)
  rw [lg_entry_eq]
  generalize (lg_sl ([.int v]) ++ List.replicate (1 - (lg_sl ([.int v])).length) Slot.unset).toArray = ls at hl ⊢
  have hl : lv_has ls 1 [(0, .int v)] := hl
  refine lv_iload_n hx hb dX6_letterOf_0 rfl (lv_at hl 0 rfl) ?_
  refine lv_bipush (v := nI 48) hx hb dX6_letterOf_1 (by decide) ?_
  refine lv_bipush (v := nI 57) hx hb dX6_letterOf_3 (by decide) ?_
  refine vp_callSi (va_Run.run (va_runS (As := [.int v, .int (nI 48), .int (nI 57)]) (rest := []) ⟨hx, hb, hml, hown, hts⟩ (kX6_in l v (nI 48) (nI 57)) (va_cwS 3 hts gX6_letterOf_X6_in rfl rfl rfl (by decide +kernel) ⟨kk_le rfl, kk_le rfl⟩) psN rfl rfl hl.1 rfl (lv_room (kk_le rfl)) dX6_letterOf_5 ⟨kk_le rfl, kk_le rfl⟩)) (fun r1 hr1 => ?_)
  subst hr1
  refine bi_if_eq (tgt := 16) hx hb dX6_letterOf_8 (by decide) (fun c2 => ?_) (fun c2 => ?_)
  · refine lv_iload_n hx hb dX6_letterOf_16 rfl (lv_at hl 0 rfl) ?_
    refine lv_bipush (v := nI 97) hx hb dX6_letterOf_17 (by decide) ?_
    refine lv_icmp_ne (tgt := 27) hx hb dX6_letterOf_19 (by decide) (fun c3 => ?_) (fun c3 => ?_)
    · refine lv_iload_n hx hb dX6_letterOf_27 rfl (lv_at hl 0 rfl) ?_
      refine lv_bipush (v := nI 99) hx hb dX6_letterOf_28 (by decide) ?_
      refine lv_icmp_ne (tgt := 38) hx hb dX6_letterOf_30 (by decide) (fun c4 => ?_) (fun c4 => ?_)
      · refine lv_iload_n hx hb dX6_letterOf_38 rfl (lv_at hl 0 rfl) ?_
        refine lv_bipush (v := nI 61) hx hb dX6_letterOf_39 (by decide) ?_
        refine lv_icmp_ne (tgt := 49) hx hb dX6_letterOf_41 (by decide) (fun c5 => ?_) (fun c5 => ?_)
        · refine lv_iload_n hx hb dX6_letterOf_49 rfl (lv_at hl 0 rfl) ?_
          refine lv_bipush (v := nI 101) hx hb dX6_letterOf_50 (by decide) ?_
          refine lv_icmp_ne (tgt := 60) hx hb dX6_letterOf_52 (by decide) (fun c6 => ?_) (fun c6 => ?_)
          · refine lv_iconst (v := (-1)) hx hb dX6_letterOf_60 (by decide) ?_
            exact W.iret (v := (-1)) hx hb hr (fun t ht _ => ⟨_, rfl, by first | (unfold lcode; rw [if_pos (by assumption)]; done) | exact (lc6_no (by assumption) (by assumption) (by assumption) (by assumption) (by assumption)).symm | (subst_vars; decide), ht⟩) (fun _ h => nomatch h) dX6_letterOf_61
          · refine lv_bipush (v := nI 14) hx hb dX6_letterOf_55 (by decide) ?_
            refine lv_goto (tgt := 61) hx hb dX6_letterOf_57 (by decide) ?_
            exact W.iret (v := nI 14) hx hb hr (fun t ht _ => ⟨_, rfl, by first | (unfold lcode; rw [if_pos (by assumption)]; done) | exact (lc6_no (by assumption) (by assumption) (by assumption) (by assumption) (by assumption)).symm | (subst_vars; decide), ht⟩) (fun _ h => nomatch h) dX6_letterOf_61
        · refine lv_bipush (v := nI 13) hx hb dX6_letterOf_44 (by decide) ?_
          refine lv_goto (tgt := 61) hx hb dX6_letterOf_46 (by decide) ?_
          exact W.iret (v := nI 13) hx hb hr (fun t ht _ => ⟨_, rfl, by first | (unfold lcode; rw [if_pos (by assumption)]; done) | exact (lc6_no (by assumption) (by assumption) (by assumption) (by assumption) (by assumption)).symm | (subst_vars; decide), ht⟩) (fun _ h => nomatch h) dX6_letterOf_61
      · refine lv_bipush (v := nI 12) hx hb dX6_letterOf_33 (by decide) ?_
        refine lv_goto (tgt := 61) hx hb dX6_letterOf_35 (by decide) ?_
        exact W.iret (v := nI 12) hx hb hr (fun t ht _ => ⟨_, rfl, by first | (unfold lcode; rw [if_pos (by assumption)]; done) | exact (lc6_no (by assumption) (by assumption) (by assumption) (by assumption) (by assumption)).symm | (subst_vars; decide), ht⟩) (fun _ h => nomatch h) dX6_letterOf_61
    · refine lv_bipush (v := nI 10) hx hb dX6_letterOf_22 (by decide) ?_
      refine lv_goto (tgt := 61) hx hb dX6_letterOf_24 (by decide) ?_
      exact W.iret (v := nI 10) hx hb hr (fun t ht _ => ⟨_, rfl, by first | (unfold lcode; rw [if_pos (by assumption)]; done) | exact (lc6_no (by assumption) (by assumption) (by assumption) (by assumption) (by assumption)).symm | (subst_vars; decide), ht⟩) (fun _ h => nomatch h) dX6_letterOf_61
  · refine lv_iload_n hx hb dX6_letterOf_11 rfl (lv_at hl 0 rfl) ?_
    refine lv_bipush (v := nI 48) hx hb dX6_letterOf_12 (by decide) ?_
    refine lv_isub hx hb dX6_letterOf_14 ?_
    exact W.iret (v := v - (nI 48)) hx hb hr (fun t ht _ => ⟨_, rfl, by first | (unfold lcode; rw [if_pos (by assumption)]; done) | exact (lc6_no (by assumption) (by assumption) (by assumption) (by assumption) (by assumption)).symm | (subst_vars; decide), ht⟩) (fun _ h => nomatch h) dX6_letterOf_15
abbrev rm_kX6_readsBuffer : Room := { frames := 2, cells := 0, slots := 0, locals := 42 }
set_option maxHeartbeats 4000000 in
set_option maxRecDepth 100000 in
theorem kX6_readsBuffer (l : Launch) (D : va_G) (ca : Nat → ClassId) (sz : Nat) (om a1 a2 a3 a4 a5 a6 a7 a8 a9 : Nat) (thr sv bm br ck sa lm rs at_ tm : Int32) (hs : Int64) (ln : Nat) (fb ft : Nat → Int32) (hln : ln ≤ 40) : Met l yX6_readsBuffer wsX6_readsBuffer rm_kX6_readsBuffer (pcM D ca [.ref om] [(om, .inr (6, [.int thr, .ref a1, .ref a2, .ref a3, .int sv, .ref a4, .ref a5, .ref a6, .int (nI ln), .ref a7, .int bm, .int br, .int ck, .int sa, .ref a8, .int lm, .int rs, .int at_, .ref a9, .int tm, .long hs])), (a6, .inl (ca 0, 40, .inl fb)), (a9, .inl (ca 0, 20, .inl ft))] sz) (va_Qi (fun (zr : Int32) (u : Unit) => zr = nI (erN fb ln) ∧ True) (qB D (va_A [(om, .inr (6, [.int thr, .ref a1, .ref a2, .ref a3, .int sv, .ref a4, .ref a5, .ref a6, .int (nI ln), .ref a7, .int bm, .int br, .int ck, .int sa, .ref a8, .int lm, .int rs, .int at_, .ref a9, .int tm, .long hs])), (a6, .inl (ca 0, 40, .inl fb)), (a9, .inl (ca 0, 20, .inl ft))] sz) (fun u : Unit => [(om, .inr (6, [.int thr, .ref a1, .ref a2, .ref a3, .int sv, .ref a4, .ref a5, .ref a6, .int (nI ln), .ref a7, .int bm, .int br, .int ck, .int sa, .ref a8, .int lm, .int rs, .int (nI (erN fb ln)), .ref a9, .int (nI (erN fb ln)), .long hs])), (a6, .inl (ca 0, 40, .inl fb)), (a9, .inl (ca 0, 20, .inl (apF ft 0 (lcL fb (erN fb ln)))))])) (va_A [(om, .inr (6, [.int thr, .ref a1, .ref a2, .ref a3, .int sv, .ref a4, .ref a5, .ref a6, .int (nI ln), .ref a7, .int bm, .int br, .int ck, .int sa, .ref a8, .int lm, .int rs, .int at_, .ref a9, .int tm, .long hs])), (a6, .inl (ca 0, 40, .inl fb)), (a9, .inl (ca 0, 20, .inl ft))] sz)) 0 0 (va_A [(om, .inr (6, [.int thr, .ref a1, .ref a2, .ref a3, .int sv, .ref a4, .ref a5, .ref a6, .int (nI ln), .ref a7, .int bm, .int br, .int ck, .int sa, .ref a8, .int lm, .int rs, .int at_, .ref a9, .int tm, .long hs])), (a6, .inl (ca 0, 40, .inl fb)), (a9, .inl (ca 0, 20, .inl ft))] sz) := by
  refine Met.ofW (cc := cX6_readsBuffer) (maxL := 1) (ret := (some .int)) (by decide) rfl ?_
  intro p e s m args below meth c s₁ B hml hv
  obtain ⟨rfl, hsz, hP, hK, hD0⟩ := hv
  have hx := B.exec
  have hb := B.bytes
  have hr := B.returns
  have hts := atoms_spec (ws := wsX6_readsBuffer) B.pre
  have hown : s.vm.findClass RX6 = some m.cls := findClass_of_methodNamed B.named
  have hlocks := B.notSynchronized
  subst hsz
  have hD := hD0.self (sz := s.heap.size)
  generalize hAe : va_A [(om, .inr (6, [.int thr, .ref a1, .ref a2, .ref a3, .int sv, .ref a4, .ref a5, .ref a6, .int (nI ln), .ref a7, .int bm, .int br, .int ck, .int sa, .ref a8, .int lm, .int rs, .int at_, .ref a9, .int tm, .long hs])), (a6, .inl (ca 0, 40, .inl fb)), (a9, .inl (ca 0, 20, .inl ft))] s.heap.size = A at hD ⊢
  have hA : ∀ q : Nat, s.heap.size ≤ q → A q := fun q h => by rw [← hAe]; exact Or.inr h
  have hS : va_S A s.heap s.heap [] := va_S.rf
  have hP : va_P D vwCl [(om, .inr (6, [.int thr, .ref a1, .ref a2, .ref a3, .int sv, .ref a4, .ref a5, .ref a6, .int (nI ln), .ref a7, .int bm, .int br, .int ck, .int sa, .ref a8, .int lm, .int rs, .int at_, .ref a9, .int tm, .long hs])), (a6, .inl (ca 0, 40, .inl fb)), (a9, .inl (ca 0, 20, .inl ft))] s.heap := hP
  have hKv := hK.1
  have hl := lv_entry ([.ref om]) (n := 1) (kk_le rfl)
  rw [lg_entry_eq]
  generalize (lg_sl ([.ref om]) ++ List.replicate (1 - (lg_sl ([.ref om])).length) Slot.unset).toArray = ls at hl ⊢
  have hl : lv_has ls 1 [(0, .ref om)] := hl
  generalize hQz : MQ below _ _ _ _ _ _ = Qz
  have hiX6 : ∀ w ∈ u_ws RX6 TX6 21, w ∈ wsX6_readsBuffer := fun w h => by first | exact List.mem_cons_of_mem _ (List.mem_append_right _ h) | exact List.mem_cons_of_mem _ (List.mem_append_left _ (List.mem_append_right _ h)) | exact List.mem_cons_of_mem _ (List.mem_append_left _ (List.mem_append_left _ (List.mem_append_right _ h))) | exact List.mem_cons_of_mem _ (List.mem_append_left _ (List.mem_append_left _ (List.mem_append_left _ (List.mem_append_right _ h)))) | (revert w h; decide +kernel)
  have lk167 : (Cond.fieldLink RX6 167 "StripeSwipesModel" "at" "I").before _ s = true := hts _ (by decide +kernel)
  have lk145 : (Cond.fieldLink RX6 145 "StripeSwipesModel" "toldMany" "I").before _ s = true := hts _ (by decide +kernel)
  have lk136 : (Cond.fieldLink RX6 136 "StripeSwipesModel" "length" "I").before _ s = true := hts _ (by decide +kernel)
  have lk26 : (Cond.fieldLink RX6 26 "StripeSwipesModel" "buffer" "[I").before _ s = true := hts _ (by decide +kernel)
  have lk35 : (Cond.fieldLink RX6 35 "StripeSwipesModel" "told" "[I").before _ s = true := hts _ (by decide +kernel)
  refine lv_aload_n hx hb dX6_readsBuffer_0 rfl (lv_at hl 0 rfl) ?_
  refine lv_iconst (v := nI 0) hx hb dX6_readsBuffer_1 (by decide) ?_
  refine va_put (D := D) (ci := 6) (v := .int (nI 0)) (ty := .int) (C := RX6) (T := TX6) (N := 21) hx hb hts hiX6 tyX6 tyX6_ok nmX6 hown hKv hP hD hS 0 rfl rfl 17 (by decide) lk167 (fun _ h9 => h9) rfl (by decide +kernel) rfl rfl (kk_le rfl) dX6_readsBuffer_2 (fun H locs hP hD hS => ?_)
  have hP : va_P D vwCl [(om, .inr (6, [.int thr, .ref a1, .ref a2, .ref a3, .int sv, .ref a4, .ref a5, .ref a6, .int (nI ln), .ref a7, .int bm, .int br, .int ck, .int sa, .ref a8, .int lm, .int rs, .int (nI 0), .ref a9, .int tm, .long hs])), (a6, .inl (ca 0, 40, .inl fb)), (a9, .inl (ca 0, 20, .inl ft))] H := hP
  have hD : va_D A [(om, .inr (6, [.int thr, .ref a1, .ref a2, .ref a3, .int sv, .ref a4, .ref a5, .ref a6, .int (nI ln), .ref a7, .int bm, .int br, .int ck, .int sa, .ref a8, .int lm, .int rs, .int (nI 0), .ref a9, .int tm, .long hs])), (a6, .inl (ca 0, 40, .inl fb)), (a9, .inl (ca 0, 20, .inl ft))] := hD
  refine lv_aload_n hx hb dX6_readsBuffer_5 rfl (lv_at hl 0 rfl) ?_
  refine lv_iconst (v := nI 0) hx hb dX6_readsBuffer_6 (by decide) ?_
  refine va_put (D := D) (ci := 6) (v := .int (nI 0)) (ty := .int) (C := RX6) (T := TX6) (N := 21) hx hb hts hiX6 tyX6 tyX6_ok nmX6 hown hKv hP hD hS 0 rfl rfl 19 (by decide) lk145 (fun _ h9 => h9) rfl (by decide +kernel) rfl rfl (kk_le rfl) dX6_readsBuffer_7 (fun H locs hP hD hS => ?_)
  have hP : va_P D vwCl [(om, .inr (6, [.int thr, .ref a1, .ref a2, .ref a3, .int sv, .ref a4, .ref a5, .ref a6, .int (nI ln), .ref a7, .int bm, .int br, .int ck, .int sa, .ref a8, .int lm, .int rs, .int (nI 0), .ref a9, .int (nI 0), .long hs])), (a6, .inl (ca 0, 40, .inl fb)), (a9, .inl (ca 0, 20, .inl ft))] H := hP
  have hD : va_D A [(om, .inr (6, [.int thr, .ref a1, .ref a2, .ref a3, .int sv, .ref a4, .ref a5, .ref a6, .int (nI ln), .ref a7, .int bm, .int br, .int ck, .int sa, .ref a8, .int lm, .int rs, .int (nI 0), .ref a9, .int (nI 0), .long hs])), (a6, .inl (ca 0, 40, .inl fb)), (a9, .inl (ca 0, 20, .inl ft))] := hD
  have lp10_0 : ∀ (k1 : Nat) (i : Nat), 41 - i < k1 → (i ≤ ln) → (i ≤ 20) → (∀ j, j < i → okC fb ln j = true) → ∀ (H : Heap) (locs : List Loc), va_P D vwCl [(om, .inr (6, [.int thr, .ref a1, .ref a2, .ref a3, .int sv, .ref a4, .ref a5, .ref a6, .int (nI ln), .ref a7, .int bm, .int br, .int ck, .int sa, .ref a8, .int lm, .int rs, .int (nI i), .ref a9, .int (nI i), .long hs])), (a6, .inl (ca 0, 40, .inl fb)), (a9, .inl (ca 0, 20, .inl (apF ft 0 (lcL fb i))))] H → va_D A [(om, .inr (6, [.int thr, .ref a1, .ref a2, .ref a3, .int sv, .ref a4, .ref a5, .ref a6, .int (nI ln), .ref a7, .int bm, .int br, .int ck, .int sa, .ref a8, .int lm, .int rs, .int (nI i), .ref a9, .int (nI i), .long hs])), (a6, .inl (ca 0, 40, .inl fb)), (a9, .inl (ca 0, 20, .inl (apF ft 0 (lcL fb i))))] → va_S A s.heap H locs → ∀ (ls : Array Slot), lv_has ls 1 [(0, .ref om)] → W p l e rm_kX6_readsBuffer s m ([.ref om] : List Value).toArray below meth c H locs 0 0 Qz (F0 m 10 ls []) := by
    intro k1
    induction k1 with
    | zero => intro i hm1; exact absurd hm1 (Nat.not_lt_zero _)
    | succ k1 ih1 =>
      intro i hm1 hi hi2 hok H locs hP hD hS ls hl
      refine lv_aload_n hx hb dX6_readsBuffer_10 rfl (lv_at hl 0 rfl) ?_
      refine va_get (D := D) (ci := 6) (C := RX6) (T := TX6) (N := 21) hx hb hts hiX6 hown hKv hP 0 rfl rfl 17 (by decide) lk167 (fun _ h9 => h9) rfl dX6_readsBuffer_11 ?_
      refine lv_aload_n hx hb dX6_readsBuffer_14 rfl (lv_at hl 0 rfl) ?_
      refine va_get (D := D) (ci := 6) (C := RX6) (T := TX6) (N := 21) hx hb hts hiX6 hown hKv hP 0 rfl rfl 8 (by decide) lk136 (fun _ h9 => h9) rfl dX6_readsBuffer_15 ?_
      refine ni_icmp_ge (tgt := 90) (by omega) (by omega) hx hb dX6_readsBuffer_18 (by decide) (fun c2 => ?_) (fun c2 => ?_)
      · refine lv_aload_n hx hb dX6_readsBuffer_90 rfl (lv_at hl 0 rfl) ?_
        refine va_get (D := D) (ci := 6) (C := RX6) (T := TX6) (N := 21) hx hb hts hiX6 hown hKv hP 0 rfl rfl 17 (by decide) lk167 (fun _ h9 => h9) rfl dX6_readsBuffer_91 ?_
        subst hQz
        have e3 : (nI i : Int32) = nI (erN fb ln) := by (have hz9 : erN fb ln = i := er_end hok (fun h => by first | exact okC_b (by assumption) | exact okC_a (by omega) | omega) (by omega); rw [hz9])
        have hP : va_P D vwCl [(om, .inr (6, [.int thr, .ref a1, .ref a2, .ref a3, .int sv, .ref a4, .ref a5, .ref a6, .int (nI ln), .ref a7, .int bm, .int br, .int ck, .int sa, .ref a8, .int lm, .int rs, .int (nI (erN fb ln)), .ref a9, .int (nI i), .long hs])), (a6, .inl (ca 0, 40, .inl fb)), (a9, .inl (ca 0, 20, .inl (apF ft 0 (lcL fb i))))] H := Eq.mp (congrArg (fun z9 : Int32 => va_P D vwCl [(om, .inr (6, [.int thr, .ref a1, .ref a2, .ref a3, .int sv, .ref a4, .ref a5, .ref a6, .int (nI ln), .ref a7, .int bm, .int br, .int ck, .int sa, .ref a8, .int lm, .int rs, .int z9, .ref a9, .int (nI i), .long hs])), (a6, .inl (ca 0, 40, .inl fb)), (a9, .inl (ca 0, 20, .inl (apF ft 0 (lcL fb i))))] H) e3) hP
        have hD : va_D A [(om, .inr (6, [.int thr, .ref a1, .ref a2, .ref a3, .int sv, .ref a4, .ref a5, .ref a6, .int (nI ln), .ref a7, .int bm, .int br, .int ck, .int sa, .ref a8, .int lm, .int rs, .int (nI (erN fb ln)), .ref a9, .int (nI i), .long hs])), (a6, .inl (ca 0, 40, .inl fb)), (a9, .inl (ca 0, 20, .inl (apF ft 0 (lcL fb i))))] := Eq.mp (congrArg (fun z9 : Int32 => va_D A [(om, .inr (6, [.int thr, .ref a1, .ref a2, .ref a3, .int sv, .ref a4, .ref a5, .ref a6, .int (nI ln), .ref a7, .int bm, .int br, .int ck, .int sa, .ref a8, .int lm, .int rs, .int z9, .ref a9, .int (nI i), .long hs])), (a6, .inl (ca 0, 40, .inl fb)), (a9, .inl (ca 0, 20, .inl (apF ft 0 (lcL fb i))))]) e3) hD
        have e4 : (nI i : Int32) = nI (erN fb ln) := by (have hz9 : erN fb ln = i := er_end hok (fun h => by first | exact okC_b (by assumption) | exact okC_a (by omega) | omega) (by omega); rw [hz9])
        have hP : va_P D vwCl [(om, .inr (6, [.int thr, .ref a1, .ref a2, .ref a3, .int sv, .ref a4, .ref a5, .ref a6, .int (nI ln), .ref a7, .int bm, .int br, .int ck, .int sa, .ref a8, .int lm, .int rs, .int (nI (erN fb ln)), .ref a9, .int (nI (erN fb ln)), .long hs])), (a6, .inl (ca 0, 40, .inl fb)), (a9, .inl (ca 0, 20, .inl (apF ft 0 (lcL fb i))))] H := Eq.mp (congrArg (fun z9 : Int32 => va_P D vwCl [(om, .inr (6, [.int thr, .ref a1, .ref a2, .ref a3, .int sv, .ref a4, .ref a5, .ref a6, .int (nI ln), .ref a7, .int bm, .int br, .int ck, .int sa, .ref a8, .int lm, .int rs, .int (nI (erN fb ln)), .ref a9, .int z9, .long hs])), (a6, .inl (ca 0, 40, .inl fb)), (a9, .inl (ca 0, 20, .inl (apF ft 0 (lcL fb i))))] H) e4) hP
        have hD : va_D A [(om, .inr (6, [.int thr, .ref a1, .ref a2, .ref a3, .int sv, .ref a4, .ref a5, .ref a6, .int (nI ln), .ref a7, .int bm, .int br, .int ck, .int sa, .ref a8, .int lm, .int rs, .int (nI (erN fb ln)), .ref a9, .int (nI (erN fb ln)), .long hs])), (a6, .inl (ca 0, 40, .inl fb)), (a9, .inl (ca 0, 20, .inl (apF ft 0 (lcL fb i))))] := Eq.mp (congrArg (fun z9 : Int32 => va_D A [(om, .inr (6, [.int thr, .ref a1, .ref a2, .ref a3, .int sv, .ref a4, .ref a5, .ref a6, .int (nI ln), .ref a7, .int bm, .int br, .int ck, .int sa, .ref a8, .int lm, .int rs, .int (nI (erN fb ln)), .ref a9, .int z9, .long hs])), (a6, .inl (ca 0, 40, .inl fb)), (a9, .inl (ca 0, 20, .inl (apF ft 0 (lcL fb i))))]) e4) hD
        have e5 : (apF ft 0 (lcL fb i) : Nat → Int32) = apF ft 0 (lcL fb (erN fb ln)) := by (have hz9 : erN fb ln = i := er_end hok (fun h => by first | exact okC_b (by assumption) | exact okC_a (by omega) | omega) (by omega); rw [hz9])
        have hP : va_P D vwCl [(om, .inr (6, [.int thr, .ref a1, .ref a2, .ref a3, .int sv, .ref a4, .ref a5, .ref a6, .int (nI ln), .ref a7, .int bm, .int br, .int ck, .int sa, .ref a8, .int lm, .int rs, .int (nI (erN fb ln)), .ref a9, .int (nI (erN fb ln)), .long hs])), (a6, .inl (ca 0, 40, .inl fb)), (a9, .inl (ca 0, 20, .inl (apF ft 0 (lcL fb (erN fb ln)))))] H := Eq.mp (congrArg (fun z9 : Nat → Int32 => va_P D vwCl [(om, .inr (6, [.int thr, .ref a1, .ref a2, .ref a3, .int sv, .ref a4, .ref a5, .ref a6, .int (nI ln), .ref a7, .int bm, .int br, .int ck, .int sa, .ref a8, .int lm, .int rs, .int (nI (erN fb ln)), .ref a9, .int (nI (erN fb ln)), .long hs])), (a6, .inl (ca 0, 40, .inl fb)), (a9, .inl (ca 0, 20, .inl z9))] H) e5) hP
        have hD : va_D A [(om, .inr (6, [.int thr, .ref a1, .ref a2, .ref a3, .int sv, .ref a4, .ref a5, .ref a6, .int (nI ln), .ref a7, .int bm, .int br, .int ck, .int sa, .ref a8, .int lm, .int rs, .int (nI (erN fb ln)), .ref a9, .int (nI (erN fb ln)), .long hs])), (a6, .inl (ca 0, 40, .inl fb)), (a9, .inl (ca 0, 20, .inl (apF ft 0 (lcL fb (erN fb ln)))))] := Eq.mp (congrArg (fun z9 : Nat → Int32 => va_D A [(om, .inr (6, [.int thr, .ref a1, .ref a2, .ref a3, .int sv, .ref a4, .ref a5, .ref a6, .int (nI ln), .ref a7, .int bm, .int br, .int ck, .int sa, .ref a8, .int lm, .int rs, .int (nI (erN fb ln)), .ref a9, .int (nI (erN fb ln)), .long hs])), (a6, .inl (ca 0, 40, .inl fb)), (a9, .inl (ca 0, 20, .inl z9))]) e5) hD
        exact W.iret (v := nI i) hx hb hr (fun t ht hW => ⟨⟨_, (), rfl, ⟨by (have hz9 : erN fb ln = i := er_end hok (fun h => by first | exact okC_b (by assumption) | exact okC_a (by omega) | omega) (by omega); rw [hz9]), by trivial⟩, by rw [ht]; exact hP, hD⟩, hS.F ht⟩) hS.2.2 dX6_readsBuffer_94
      · refine lv_aload_n hx hb dX6_readsBuffer_21 rfl (lv_at hl 0 rfl) ?_
        refine va_get (D := D) (ci := 6) (C := RX6) (T := TX6) (N := 21) hx hb hts hiX6 hown hKv hP 0 rfl rfl 19 (by decide) lk145 (fun _ h9 => h9) rfl dX6_readsBuffer_22 ?_
        refine lv_bipush (v := nI 20) hx hb dX6_readsBuffer_25 (by decide) ?_
        refine ni_icmp_ge (tgt := 90) (by omega) (by omega) hx hb dX6_readsBuffer_27 (by decide) (fun c6 => ?_) (fun c6 => ?_)
        · refine lv_aload_n hx hb dX6_readsBuffer_90 rfl (lv_at hl 0 rfl) ?_
          refine va_get (D := D) (ci := 6) (C := RX6) (T := TX6) (N := 21) hx hb hts hiX6 hown hKv hP 0 rfl rfl 17 (by decide) lk167 (fun _ h9 => h9) rfl dX6_readsBuffer_91 ?_
          subst hQz
          have e7 : (nI i : Int32) = nI (erN fb ln) := by (have hz9 : erN fb ln = i := er_end hok (fun h => by first | exact okC_b (by assumption) | exact okC_a (by omega) | omega) (by omega); rw [hz9])
          have hP : va_P D vwCl [(om, .inr (6, [.int thr, .ref a1, .ref a2, .ref a3, .int sv, .ref a4, .ref a5, .ref a6, .int (nI ln), .ref a7, .int bm, .int br, .int ck, .int sa, .ref a8, .int lm, .int rs, .int (nI (erN fb ln)), .ref a9, .int (nI i), .long hs])), (a6, .inl (ca 0, 40, .inl fb)), (a9, .inl (ca 0, 20, .inl (apF ft 0 (lcL fb i))))] H := Eq.mp (congrArg (fun z9 : Int32 => va_P D vwCl [(om, .inr (6, [.int thr, .ref a1, .ref a2, .ref a3, .int sv, .ref a4, .ref a5, .ref a6, .int (nI ln), .ref a7, .int bm, .int br, .int ck, .int sa, .ref a8, .int lm, .int rs, .int z9, .ref a9, .int (nI i), .long hs])), (a6, .inl (ca 0, 40, .inl fb)), (a9, .inl (ca 0, 20, .inl (apF ft 0 (lcL fb i))))] H) e7) hP
          have hD : va_D A [(om, .inr (6, [.int thr, .ref a1, .ref a2, .ref a3, .int sv, .ref a4, .ref a5, .ref a6, .int (nI ln), .ref a7, .int bm, .int br, .int ck, .int sa, .ref a8, .int lm, .int rs, .int (nI (erN fb ln)), .ref a9, .int (nI i), .long hs])), (a6, .inl (ca 0, 40, .inl fb)), (a9, .inl (ca 0, 20, .inl (apF ft 0 (lcL fb i))))] := Eq.mp (congrArg (fun z9 : Int32 => va_D A [(om, .inr (6, [.int thr, .ref a1, .ref a2, .ref a3, .int sv, .ref a4, .ref a5, .ref a6, .int (nI ln), .ref a7, .int bm, .int br, .int ck, .int sa, .ref a8, .int lm, .int rs, .int z9, .ref a9, .int (nI i), .long hs])), (a6, .inl (ca 0, 40, .inl fb)), (a9, .inl (ca 0, 20, .inl (apF ft 0 (lcL fb i))))]) e7) hD
          have e8 : (nI i : Int32) = nI (erN fb ln) := by (have hz9 : erN fb ln = i := er_end hok (fun h => by first | exact okC_b (by assumption) | exact okC_a (by omega) | omega) (by omega); rw [hz9])
          have hP : va_P D vwCl [(om, .inr (6, [.int thr, .ref a1, .ref a2, .ref a3, .int sv, .ref a4, .ref a5, .ref a6, .int (nI ln), .ref a7, .int bm, .int br, .int ck, .int sa, .ref a8, .int lm, .int rs, .int (nI (erN fb ln)), .ref a9, .int (nI (erN fb ln)), .long hs])), (a6, .inl (ca 0, 40, .inl fb)), (a9, .inl (ca 0, 20, .inl (apF ft 0 (lcL fb i))))] H := Eq.mp (congrArg (fun z9 : Int32 => va_P D vwCl [(om, .inr (6, [.int thr, .ref a1, .ref a2, .ref a3, .int sv, .ref a4, .ref a5, .ref a6, .int (nI ln), .ref a7, .int bm, .int br, .int ck, .int sa, .ref a8, .int lm, .int rs, .int (nI (erN fb ln)), .ref a9, .int z9, .long hs])), (a6, .inl (ca 0, 40, .inl fb)), (a9, .inl (ca 0, 20, .inl (apF ft 0 (lcL fb i))))] H) e8) hP
          have hD : va_D A [(om, .inr (6, [.int thr, .ref a1, .ref a2, .ref a3, .int sv, .ref a4, .ref a5, .ref a6, .int (nI ln), .ref a7, .int bm, .int br, .int ck, .int sa, .ref a8, .int lm, .int rs, .int (nI (erN fb ln)), .ref a9, .int (nI (erN fb ln)), .long hs])), (a6, .inl (ca 0, 40, .inl fb)), (a9, .inl (ca 0, 20, .inl (apF ft 0 (lcL fb i))))] := Eq.mp (congrArg (fun z9 : Int32 => va_D A [(om, .inr (6, [.int thr, .ref a1, .ref a2, .ref a3, .int sv, .ref a4, .ref a5, .ref a6, .int (nI ln), .ref a7, .int bm, .int br, .int ck, .int sa, .ref a8, .int lm, .int rs, .int (nI (erN fb ln)), .ref a9, .int z9, .long hs])), (a6, .inl (ca 0, 40, .inl fb)), (a9, .inl (ca 0, 20, .inl (apF ft 0 (lcL fb i))))]) e8) hD
          have e9 : (apF ft 0 (lcL fb i) : Nat → Int32) = apF ft 0 (lcL fb (erN fb ln)) := by (have hz9 : erN fb ln = i := er_end hok (fun h => by first | exact okC_b (by assumption) | exact okC_a (by omega) | omega) (by omega); rw [hz9])
          have hP : va_P D vwCl [(om, .inr (6, [.int thr, .ref a1, .ref a2, .ref a3, .int sv, .ref a4, .ref a5, .ref a6, .int (nI ln), .ref a7, .int bm, .int br, .int ck, .int sa, .ref a8, .int lm, .int rs, .int (nI (erN fb ln)), .ref a9, .int (nI (erN fb ln)), .long hs])), (a6, .inl (ca 0, 40, .inl fb)), (a9, .inl (ca 0, 20, .inl (apF ft 0 (lcL fb (erN fb ln)))))] H := Eq.mp (congrArg (fun z9 : Nat → Int32 => va_P D vwCl [(om, .inr (6, [.int thr, .ref a1, .ref a2, .ref a3, .int sv, .ref a4, .ref a5, .ref a6, .int (nI ln), .ref a7, .int bm, .int br, .int ck, .int sa, .ref a8, .int lm, .int rs, .int (nI (erN fb ln)), .ref a9, .int (nI (erN fb ln)), .long hs])), (a6, .inl (ca 0, 40, .inl fb)), (a9, .inl (ca 0, 20, .inl z9))] H) e9) hP
          have hD : va_D A [(om, .inr (6, [.int thr, .ref a1, .ref a2, .ref a3, .int sv, .ref a4, .ref a5, .ref a6, .int (nI ln), .ref a7, .int bm, .int br, .int ck, .int sa, .ref a8, .int lm, .int rs, .int (nI (erN fb ln)), .ref a9, .int (nI (erN fb ln)), .long hs])), (a6, .inl (ca 0, 40, .inl fb)), (a9, .inl (ca 0, 20, .inl (apF ft 0 (lcL fb (erN fb ln)))))] := Eq.mp (congrArg (fun z9 : Nat → Int32 => va_D A [(om, .inr (6, [.int thr, .ref a1, .ref a2, .ref a3, .int sv, .ref a4, .ref a5, .ref a6, .int (nI ln), .ref a7, .int bm, .int br, .int ck, .int sa, .ref a8, .int lm, .int rs, .int (nI (erN fb ln)), .ref a9, .int (nI (erN fb ln)), .long hs])), (a6, .inl (ca 0, 40, .inl fb)), (a9, .inl (ca 0, 20, .inl z9))]) e9) hD
          exact W.iret (v := nI i) hx hb hr (fun t ht hW => ⟨⟨_, (), rfl, ⟨by (have hz9 : erN fb ln = i := er_end hok (fun h => by first | exact okC_b (by assumption) | exact okC_a (by omega) | omega) (by omega); rw [hz9]), by trivial⟩, by rw [ht]; exact hP, hD⟩, hS.F ht⟩) hS.2.2 dX6_readsBuffer_94
        · refine lv_aload_n hx hb dX6_readsBuffer_30 rfl (lv_at hl 0 rfl) ?_
          refine va_get (D := D) (ci := 6) (C := RX6) (T := TX6) (N := 21) hx hb hts hiX6 hown hKv hP 0 rfl rfl 7 (by decide) lk26 (fun _ h9 => h9) rfl dX6_readsBuffer_31 ?_
          refine lv_aload_n hx hb dX6_readsBuffer_34 rfl (lv_at hl 0 rfl) ?_
          refine va_get (D := D) (ci := 6) (C := RX6) (T := TX6) (N := 21) hx hb hts hiX6 hown hKv hP 0 rfl rfl 17 (by decide) lk167 (fun _ h9 => h9) rfl dX6_readsBuffer_35 ?_
          refine my_iald hx hb hK hP 1 rfl (by omega) (by omega) dX6_readsBuffer_38 ?_
          refine vp_callSi (va_Run.run (va_runS (As := [.int (fb i)]) (rest := []) ⟨hx, hb, hml, hown, hts⟩ (kX6_letterOf l (fb i)) (va_cwS 1 hts gX6_readsBuffer_X6_letterOf rfl rfl rfl (by decide +kernel) ⟨kk_le rfl, kk_le rfl⟩) psN rfl rfl hl.1 rfl (lv_room (kk_le rfl)) dX6_readsBuffer_39 ⟨kk_le rfl, kk_le rfl⟩)) (fun r10 hr10 => ?_)
          subst hr10
          refine lv_iconst (v := (-1)) hx hb dX6_readsBuffer_42 (by decide) ?_
          refine lv_icmp_eq (tgt := 90) hx hb dX6_readsBuffer_43 (by decide) (fun c11 => ?_) (fun c11 => ?_)
          · refine lv_aload_n hx hb dX6_readsBuffer_90 rfl (lv_at hl 0 rfl) ?_
            refine va_get (D := D) (ci := 6) (C := RX6) (T := TX6) (N := 21) hx hb hts hiX6 hown hKv hP 0 rfl rfl 17 (by decide) lk167 (fun _ h9 => h9) rfl dX6_readsBuffer_91 ?_
            subst hQz
            have e12 : (nI i : Int32) = nI (erN fb ln) := by (have hz9 : erN fb ln = i := er_end hok (fun h => by first | exact okC_b (by assumption) | exact okC_a (by omega) | omega) (by omega); rw [hz9])
            have hP : va_P D vwCl [(om, .inr (6, [.int thr, .ref a1, .ref a2, .ref a3, .int sv, .ref a4, .ref a5, .ref a6, .int (nI ln), .ref a7, .int bm, .int br, .int ck, .int sa, .ref a8, .int lm, .int rs, .int (nI (erN fb ln)), .ref a9, .int (nI i), .long hs])), (a6, .inl (ca 0, 40, .inl fb)), (a9, .inl (ca 0, 20, .inl (apF ft 0 (lcL fb i))))] H := Eq.mp (congrArg (fun z9 : Int32 => va_P D vwCl [(om, .inr (6, [.int thr, .ref a1, .ref a2, .ref a3, .int sv, .ref a4, .ref a5, .ref a6, .int (nI ln), .ref a7, .int bm, .int br, .int ck, .int sa, .ref a8, .int lm, .int rs, .int z9, .ref a9, .int (nI i), .long hs])), (a6, .inl (ca 0, 40, .inl fb)), (a9, .inl (ca 0, 20, .inl (apF ft 0 (lcL fb i))))] H) e12) hP
            have hD : va_D A [(om, .inr (6, [.int thr, .ref a1, .ref a2, .ref a3, .int sv, .ref a4, .ref a5, .ref a6, .int (nI ln), .ref a7, .int bm, .int br, .int ck, .int sa, .ref a8, .int lm, .int rs, .int (nI (erN fb ln)), .ref a9, .int (nI i), .long hs])), (a6, .inl (ca 0, 40, .inl fb)), (a9, .inl (ca 0, 20, .inl (apF ft 0 (lcL fb i))))] := Eq.mp (congrArg (fun z9 : Int32 => va_D A [(om, .inr (6, [.int thr, .ref a1, .ref a2, .ref a3, .int sv, .ref a4, .ref a5, .ref a6, .int (nI ln), .ref a7, .int bm, .int br, .int ck, .int sa, .ref a8, .int lm, .int rs, .int z9, .ref a9, .int (nI i), .long hs])), (a6, .inl (ca 0, 40, .inl fb)), (a9, .inl (ca 0, 20, .inl (apF ft 0 (lcL fb i))))]) e12) hD
            have e13 : (nI i : Int32) = nI (erN fb ln) := by (have hz9 : erN fb ln = i := er_end hok (fun h => by first | exact okC_b (by assumption) | exact okC_a (by omega) | omega) (by omega); rw [hz9])
            have hP : va_P D vwCl [(om, .inr (6, [.int thr, .ref a1, .ref a2, .ref a3, .int sv, .ref a4, .ref a5, .ref a6, .int (nI ln), .ref a7, .int bm, .int br, .int ck, .int sa, .ref a8, .int lm, .int rs, .int (nI (erN fb ln)), .ref a9, .int (nI (erN fb ln)), .long hs])), (a6, .inl (ca 0, 40, .inl fb)), (a9, .inl (ca 0, 20, .inl (apF ft 0 (lcL fb i))))] H := Eq.mp (congrArg (fun z9 : Int32 => va_P D vwCl [(om, .inr (6, [.int thr, .ref a1, .ref a2, .ref a3, .int sv, .ref a4, .ref a5, .ref a6, .int (nI ln), .ref a7, .int bm, .int br, .int ck, .int sa, .ref a8, .int lm, .int rs, .int (nI (erN fb ln)), .ref a9, .int z9, .long hs])), (a6, .inl (ca 0, 40, .inl fb)), (a9, .inl (ca 0, 20, .inl (apF ft 0 (lcL fb i))))] H) e13) hP
            have hD : va_D A [(om, .inr (6, [.int thr, .ref a1, .ref a2, .ref a3, .int sv, .ref a4, .ref a5, .ref a6, .int (nI ln), .ref a7, .int bm, .int br, .int ck, .int sa, .ref a8, .int lm, .int rs, .int (nI (erN fb ln)), .ref a9, .int (nI (erN fb ln)), .long hs])), (a6, .inl (ca 0, 40, .inl fb)), (a9, .inl (ca 0, 20, .inl (apF ft 0 (lcL fb i))))] := Eq.mp (congrArg (fun z9 : Int32 => va_D A [(om, .inr (6, [.int thr, .ref a1, .ref a2, .ref a3, .int sv, .ref a4, .ref a5, .ref a6, .int (nI ln), .ref a7, .int bm, .int br, .int ck, .int sa, .ref a8, .int lm, .int rs, .int (nI (erN fb ln)), .ref a9, .int z9, .long hs])), (a6, .inl (ca 0, 40, .inl fb)), (a9, .inl (ca 0, 20, .inl (apF ft 0 (lcL fb i))))]) e13) hD
            have e14 : (apF ft 0 (lcL fb i) : Nat → Int32) = apF ft 0 (lcL fb (erN fb ln)) := by (have hz9 : erN fb ln = i := er_end hok (fun h => by first | exact okC_b (by assumption) | exact okC_a (by omega) | omega) (by omega); rw [hz9])
            have hP : va_P D vwCl [(om, .inr (6, [.int thr, .ref a1, .ref a2, .ref a3, .int sv, .ref a4, .ref a5, .ref a6, .int (nI ln), .ref a7, .int bm, .int br, .int ck, .int sa, .ref a8, .int lm, .int rs, .int (nI (erN fb ln)), .ref a9, .int (nI (erN fb ln)), .long hs])), (a6, .inl (ca 0, 40, .inl fb)), (a9, .inl (ca 0, 20, .inl (apF ft 0 (lcL fb (erN fb ln)))))] H := Eq.mp (congrArg (fun z9 : Nat → Int32 => va_P D vwCl [(om, .inr (6, [.int thr, .ref a1, .ref a2, .ref a3, .int sv, .ref a4, .ref a5, .ref a6, .int (nI ln), .ref a7, .int bm, .int br, .int ck, .int sa, .ref a8, .int lm, .int rs, .int (nI (erN fb ln)), .ref a9, .int (nI (erN fb ln)), .long hs])), (a6, .inl (ca 0, 40, .inl fb)), (a9, .inl (ca 0, 20, .inl z9))] H) e14) hP
            have hD : va_D A [(om, .inr (6, [.int thr, .ref a1, .ref a2, .ref a3, .int sv, .ref a4, .ref a5, .ref a6, .int (nI ln), .ref a7, .int bm, .int br, .int ck, .int sa, .ref a8, .int lm, .int rs, .int (nI (erN fb ln)), .ref a9, .int (nI (erN fb ln)), .long hs])), (a6, .inl (ca 0, 40, .inl fb)), (a9, .inl (ca 0, 20, .inl (apF ft 0 (lcL fb (erN fb ln)))))] := Eq.mp (congrArg (fun z9 : Nat → Int32 => va_D A [(om, .inr (6, [.int thr, .ref a1, .ref a2, .ref a3, .int sv, .ref a4, .ref a5, .ref a6, .int (nI ln), .ref a7, .int bm, .int br, .int ck, .int sa, .ref a8, .int lm, .int rs, .int (nI (erN fb ln)), .ref a9, .int (nI (erN fb ln)), .long hs])), (a6, .inl (ca 0, 40, .inl fb)), (a9, .inl (ca 0, 20, .inl z9))]) e14) hD
            exact W.iret (v := nI i) hx hb hr (fun t ht hW => ⟨⟨_, (), rfl, ⟨by (have hz9 : erN fb ln = i := er_end hok (fun h => by first | exact okC_b (by assumption) | exact okC_a (by omega) | omega) (by omega); rw [hz9]), by trivial⟩, by rw [ht]; exact hP, hD⟩, hS.F ht⟩) hS.2.2 dX6_readsBuffer_94
          · refine lv_aload_n hx hb dX6_readsBuffer_46 rfl (lv_at hl 0 rfl) ?_
            refine va_get (D := D) (ci := 6) (C := RX6) (T := TX6) (N := 21) hx hb hts hiX6 hown hKv hP 0 rfl rfl 18 (by decide) lk35 (fun _ h9 => h9) rfl dX6_readsBuffer_47 ?_
            refine lv_aload_n hx hb dX6_readsBuffer_50 rfl (lv_at hl 0 rfl) ?_
            refine va_get (D := D) (ci := 6) (C := RX6) (T := TX6) (N := 21) hx hb hts hiX6 hown hKv hP 0 rfl rfl 19 (by decide) lk145 (fun _ h9 => h9) rfl dX6_readsBuffer_51 ?_
            refine lv_aload_n hx hb dX6_readsBuffer_54 rfl (lv_at hl 0 rfl) ?_
            refine va_get (D := D) (ci := 6) (C := RX6) (T := TX6) (N := 21) hx hb hts hiX6 hown hKv hP 0 rfl rfl 7 (by decide) lk26 (fun _ h9 => h9) rfl dX6_readsBuffer_55 ?_
            refine lv_aload_n hx hb dX6_readsBuffer_58 rfl (lv_at hl 0 rfl) ?_
            refine va_get (D := D) (ci := 6) (C := RX6) (T := TX6) (N := 21) hx hb hts hiX6 hown hKv hP 0 rfl rfl 17 (by decide) lk167 (fun _ h9 => h9) rfl dX6_readsBuffer_59 ?_
            refine my_iald hx hb hK hP 1 rfl (by omega) (by omega) dX6_readsBuffer_62 ?_
            refine vp_callSi (va_Run.run (va_runS (As := [.int (fb i)]) (rest := [.int (nI i), .ref a9]) ⟨hx, hb, hml, hown, hts⟩ (kX6_letterOf l (fb i)) (va_cwS 1 hts gX6_readsBuffer_X6_letterOf rfl rfl rfl (by decide +kernel) ⟨kk_le rfl, kk_le rfl⟩) psN rfl rfl hl.1 rfl (lv_room (kk_le rfl)) dX6_readsBuffer_63 ⟨kk_le rfl, kk_le rfl⟩)) (fun r15 hr15 => ?_)
            subst hr15
            refine my_iast hx hb hK hP hD hS 2 rfl (by omega) (by omega) dX6_readsBuffer_66 (fun H locs hP hD hS => ?_)
            have hP : va_P D vwCl [(om, .inr (6, [.int thr, .ref a1, .ref a2, .ref a3, .int sv, .ref a4, .ref a5, .ref a6, .int (nI ln), .ref a7, .int bm, .int br, .int ck, .int sa, .ref a8, .int lm, .int rs, .int (nI i), .ref a9, .int (nI i), .long hs])), (a6, .inl (ca 0, 40, .inl fb)), (a9, .inl (ca 0, 20, .inl (upd (apF ft 0 (lcL fb i)) i (lcode (fb i)))))] H := hP
            have hD : va_D A [(om, .inr (6, [.int thr, .ref a1, .ref a2, .ref a3, .int sv, .ref a4, .ref a5, .ref a6, .int (nI ln), .ref a7, .int bm, .int br, .int ck, .int sa, .ref a8, .int lm, .int rs, .int (nI i), .ref a9, .int (nI i), .long hs])), (a6, .inl (ca 0, 40, .inl fb)), (a9, .inl (ca 0, 20, .inl (upd (apF ft 0 (lcL fb i)) i (lcode (fb i)))))] := hD
            refine lv_aload_n hx hb dX6_readsBuffer_67 rfl (lv_at hl 0 rfl) ?_
            refine lv_dup hx hb dX6_readsBuffer_68 rfl ?_
            refine va_get (D := D) (ci := 6) (C := RX6) (T := TX6) (N := 21) hx hb hts hiX6 hown hKv hP 0 rfl rfl 19 (by decide) lk145 (fun _ h9 => h9) rfl dX6_readsBuffer_69 ?_
            refine lv_iconst (v := nI 1) hx hb dX6_readsBuffer_72 (by decide) ?_
            refine ni_iadd hx hb dX6_readsBuffer_73 ?_
            refine va_put (D := D) (ci := 6) (v := .int (nI (i + 1))) (ty := .int) (C := RX6) (T := TX6) (N := 21) hx hb hts hiX6 tyX6 tyX6_ok nmX6 hown hKv hP hD hS 0 rfl rfl 19 (by decide) lk145 (fun _ h9 => h9) rfl (by decide +kernel) rfl rfl (kk_le rfl) dX6_readsBuffer_74 (fun H locs hP hD hS => ?_)
            have hP : va_P D vwCl [(om, .inr (6, [.int thr, .ref a1, .ref a2, .ref a3, .int sv, .ref a4, .ref a5, .ref a6, .int (nI ln), .ref a7, .int bm, .int br, .int ck, .int sa, .ref a8, .int lm, .int rs, .int (nI i), .ref a9, .int (nI (i + 1)), .long hs])), (a6, .inl (ca 0, 40, .inl fb)), (a9, .inl (ca 0, 20, .inl (upd (apF ft 0 (lcL fb i)) i (lcode (fb i)))))] H := hP
            have hD : va_D A [(om, .inr (6, [.int thr, .ref a1, .ref a2, .ref a3, .int sv, .ref a4, .ref a5, .ref a6, .int (nI ln), .ref a7, .int bm, .int br, .int ck, .int sa, .ref a8, .int lm, .int rs, .int (nI i), .ref a9, .int (nI (i + 1)), .long hs])), (a6, .inl (ca 0, 40, .inl fb)), (a9, .inl (ca 0, 20, .inl (upd (apF ft 0 (lcL fb i)) i (lcode (fb i)))))] := hD
            refine lv_aload_n hx hb dX6_readsBuffer_77 rfl (lv_at hl 0 rfl) ?_
            refine lv_dup hx hb dX6_readsBuffer_78 rfl ?_
            refine va_get (D := D) (ci := 6) (C := RX6) (T := TX6) (N := 21) hx hb hts hiX6 hown hKv hP 0 rfl rfl 17 (by decide) lk167 (fun _ h9 => h9) rfl dX6_readsBuffer_79 ?_
            refine lv_iconst (v := nI 1) hx hb dX6_readsBuffer_82 (by decide) ?_
            refine ni_iadd hx hb dX6_readsBuffer_83 ?_
            refine va_put (D := D) (ci := 6) (v := .int (nI (i + 1))) (ty := .int) (C := RX6) (T := TX6) (N := 21) hx hb hts hiX6 tyX6 tyX6_ok nmX6 hown hKv hP hD hS 0 rfl rfl 17 (by decide) lk167 (fun _ h9 => h9) rfl (by decide +kernel) rfl rfl (kk_le rfl) dX6_readsBuffer_84 (fun H locs hP hD hS => ?_)
            have hP : va_P D vwCl [(om, .inr (6, [.int thr, .ref a1, .ref a2, .ref a3, .int sv, .ref a4, .ref a5, .ref a6, .int (nI ln), .ref a7, .int bm, .int br, .int ck, .int sa, .ref a8, .int lm, .int rs, .int (nI (i + 1)), .ref a9, .int (nI (i + 1)), .long hs])), (a6, .inl (ca 0, 40, .inl fb)), (a9, .inl (ca 0, 20, .inl (upd (apF ft 0 (lcL fb i)) i (lcode (fb i)))))] H := hP
            have hD : va_D A [(om, .inr (6, [.int thr, .ref a1, .ref a2, .ref a3, .int sv, .ref a4, .ref a5, .ref a6, .int (nI ln), .ref a7, .int bm, .int br, .int ck, .int sa, .ref a8, .int lm, .int rs, .int (nI (i + 1)), .ref a9, .int (nI (i + 1)), .long hs])), (a6, .inl (ca 0, 40, .inl fb)), (a9, .inl (ca 0, 20, .inl (upd (apF ft 0 (lcL fb i)) i (lcode (fb i)))))] := hD
            refine lv_goto (tgt := 10) hx hb dX6_readsBuffer_87 (by decide) ?_
            have e16 : (upd (apF ft 0 (lcL fb i)) i (lcode (fb i)) : Nat → Int32) = apF ft 0 (lcL fb (i + 1)) := by exact lcL_step ft fb i
            have hP : va_P D vwCl [(om, .inr (6, [.int thr, .ref a1, .ref a2, .ref a3, .int sv, .ref a4, .ref a5, .ref a6, .int (nI ln), .ref a7, .int bm, .int br, .int ck, .int sa, .ref a8, .int lm, .int rs, .int (nI (i + 1)), .ref a9, .int (nI (i + 1)), .long hs])), (a6, .inl (ca 0, 40, .inl fb)), (a9, .inl (ca 0, 20, .inl (apF ft 0 (lcL fb (i + 1)))))] H := Eq.mp (congrArg (fun z9 : Nat → Int32 => va_P D vwCl [(om, .inr (6, [.int thr, .ref a1, .ref a2, .ref a3, .int sv, .ref a4, .ref a5, .ref a6, .int (nI ln), .ref a7, .int bm, .int br, .int ck, .int sa, .ref a8, .int lm, .int rs, .int (nI (i + 1)), .ref a9, .int (nI (i + 1)), .long hs])), (a6, .inl (ca 0, 40, .inl fb)), (a9, .inl (ca 0, 20, .inl z9))] H) e16) hP
            have hD : va_D A [(om, .inr (6, [.int thr, .ref a1, .ref a2, .ref a3, .int sv, .ref a4, .ref a5, .ref a6, .int (nI ln), .ref a7, .int bm, .int br, .int ck, .int sa, .ref a8, .int lm, .int rs, .int (nI (i + 1)), .ref a9, .int (nI (i + 1)), .long hs])), (a6, .inl (ca 0, 40, .inl fb)), (a9, .inl (ca 0, 20, .inl (apF ft 0 (lcL fb (i + 1)))))] := Eq.mp (congrArg (fun z9 : Nat → Int32 => va_D A [(om, .inr (6, [.int thr, .ref a1, .ref a2, .ref a3, .int sv, .ref a4, .ref a5, .ref a6, .int (nI ln), .ref a7, .int bm, .int br, .int ck, .int sa, .ref a8, .int lm, .int rs, .int (nI (i + 1)), .ref a9, .int (nI (i + 1)), .long hs])), (a6, .inl (ca 0, 40, .inl fb)), (a9, .inl (ca 0, 20, .inl z9))]) e16) hD
            exact ih1 (i + 1) (by omega) (by omega) (by omega) (by exact lt_s hok (okC_t (by omega) (by assumption))) _ _ hP hD hS ls (lv_sub hl [0] rfl)
  have e17 : (ft : Nat → Int32) = apF ft 0 (lcL fb 0) := by exact (apF_0 ft 0).symm
  have hP : va_P D vwCl [(om, .inr (6, [.int thr, .ref a1, .ref a2, .ref a3, .int sv, .ref a4, .ref a5, .ref a6, .int (nI ln), .ref a7, .int bm, .int br, .int ck, .int sa, .ref a8, .int lm, .int rs, .int (nI 0), .ref a9, .int (nI 0), .long hs])), (a6, .inl (ca 0, 40, .inl fb)), (a9, .inl (ca 0, 20, .inl (apF ft 0 (lcL fb 0))))] H := Eq.mp (congrArg (fun z9 : Nat → Int32 => va_P D vwCl [(om, .inr (6, [.int thr, .ref a1, .ref a2, .ref a3, .int sv, .ref a4, .ref a5, .ref a6, .int (nI ln), .ref a7, .int bm, .int br, .int ck, .int sa, .ref a8, .int lm, .int rs, .int (nI 0), .ref a9, .int (nI 0), .long hs])), (a6, .inl (ca 0, 40, .inl fb)), (a9, .inl (ca 0, 20, .inl z9))] H) e17) hP
  have hD : va_D A [(om, .inr (6, [.int thr, .ref a1, .ref a2, .ref a3, .int sv, .ref a4, .ref a5, .ref a6, .int (nI ln), .ref a7, .int bm, .int br, .int ck, .int sa, .ref a8, .int lm, .int rs, .int (nI 0), .ref a9, .int (nI 0), .long hs])), (a6, .inl (ca 0, 40, .inl fb)), (a9, .inl (ca 0, 20, .inl (apF ft 0 (lcL fb 0))))] := Eq.mp (congrArg (fun z9 : Nat → Int32 => va_D A [(om, .inr (6, [.int thr, .ref a1, .ref a2, .ref a3, .int sv, .ref a4, .ref a5, .ref a6, .int (nI ln), .ref a7, .int bm, .int br, .int ck, .int sa, .ref a8, .int lm, .int rs, .int (nI 0), .ref a9, .int (nI 0), .long hs])), (a6, .inl (ca 0, 40, .inl fb)), (a9, .inl (ca 0, 20, .inl z9))]) e17) hD
  exact lp10_0 ((41 - 0) + 1) 0 (by omega) (by omega) (by omega) (by exact fun j hj => absurd hj (Nat.not_lt_zero j)) _ _ hP hD hS ls (lv_sub hl [0] rfl)
abbrev rm_kX6_isPlace : Room := { frames := 1, cells := 0, slots := 0, locals := 22 }
set_option maxHeartbeats 4000000 in
set_option maxRecDepth 100000 in
theorem kX6_isPlace (l : Launch) (D : va_G) (ca : Nat → ClassId) (om a1 a2 a3 a4 a5 a6 a7 a8 a9 : Nat) (thr sv ln bm br ck sa lm rs at_ tm : Int32) (hs : Int64) (z : Nat) (r f j : Int32) (nt nl : Nat) (gl gt : Nat → Int32) (x : Int32) (hnt : nt ≤ 200) (hnl : nl ≤ 20) (hz : z ≤ 30) : Met l yX6_isPlace wsX6_isPlace rm_kX6_isPlace (pcR D ca [.ref om, .int x] [(om, .inr (6, [.int thr, .ref a1, .ref a2, .ref a3, .int sv, .ref a4, .ref a5, .ref a6, .int ln, .ref a7, .int bm, .int br, .int ck, .int sa, .ref a8, .int lm, .int rs, .int at_, .ref a9, .int tm, .long hs])), (a1, .inl (ca 0, 226, .inl (sF z r f j nt nl gl gt)))]) (vp_Si (fun zr : Int32 => zr = bI (hasF nt x))) 0 0 (fun _ => False) := by
  refine Met.ofW (cc := cX6_isPlace) (maxL := 2) (ret := (some .boolean)) (by decide) rfl ?_
  intro p e s m args below meth c s₁ B hml hv
  obtain ⟨rfl, hP, hK⟩ := hv
  have hx := B.exec
  have hb := B.bytes
  have hr := B.returns
  have hts := atoms_spec (ws := wsX6_isPlace) B.pre
  have hown : s.vm.findClass RX6 = some m.cls := findClass_of_methodNamed B.named
  have hlocks := B.notSynchronized
  have hKv := hK.1
  have hl := lv_entry ([.ref om, .int x]) (n := 2) (kk_le rfl)
  rw [lg_entry_eq]
  generalize (lg_sl ([.ref om, .int x]) ++ List.replicate (2 - (lg_sl ([.ref om, .int x])).length) Slot.unset).toArray = ls at hl ⊢
  have hl : lv_has ls 2 [(0, .ref om), (1, .int x)] := hl
  have hiX6 : ∀ w ∈ u_ws RX6 TX6 21, w ∈ wsX6_isPlace := fun w h => by first | exact List.mem_cons_of_mem _ (List.mem_append_right _ h) | exact List.mem_cons_of_mem _ (List.mem_append_left _ (List.mem_append_right _ h)) | exact List.mem_cons_of_mem _ (List.mem_append_left _ (List.mem_append_left _ (List.mem_append_right _ h))) | exact List.mem_cons_of_mem _ (List.mem_append_left _ (List.mem_append_left _ (List.mem_append_left _ (List.mem_append_right _ h)))) | (revert w h; decide +kernel)
  have lk7 : (Cond.fieldLink RX6 7 "StripeSwipesModel" "s" "[I").before _ s = true := hts _ (by decide +kernel)
  refine lv_iload_n hx hb dX6_isPlace_0 rfl (lv_at hl 1 rfl) ?_
  refine lv_iconst (v := nI 0) hx hb dX6_isPlace_1 (by decide) ?_
  refine lv_aload_n hx hb dX6_isPlace_2 rfl (lv_at hl 0 rfl) ?_
  refine va_get (D := D) (ci := 6) (C := RX6) (T := TX6) (N := 21) hx hb hts hiX6 hown hKv hP 0 rfl rfl 1 (by decide) lk7 (fun _ h9 => h9) rfl dX6_isPlace_3 ?_
  refine lv_iconst (v := nI 4) hx hb dX6_isPlace_6 (by decide) ?_
  refine my_iald hx hb hK hP 1 rfl (by omega) (by omega) dX6_isPlace_7 ?_
  rw [show sF z r f j nt nl gl gt 4 = nI nt from rfl]
  refine lv_iconst (v := nI 1) hx hb dX6_isPlace_8 (by decide) ?_
  refine lv_isub hx hb dX6_isPlace_9 ?_
  refine vp_callSi (va_Run.run (va_runS (As := [.int x, .int (nI 0), .int ((nI nt) - (nI 1))]) (rest := []) ⟨hx, hb, hml, hown, hts⟩ (kX6_in l x (nI 0) ((nI nt) - (nI 1))) (va_cwS 3 hts gX6_isPlace_X6_in rfl rfl rfl (by decide +kernel) ⟨kk_le rfl, kk_le rfl⟩) psN rfl rfl hl.1 rfl (lv_room (kk_le rfl)) dX6_isPlace_10 ⟨kk_le rfl, kk_le rfl⟩)) (fun r1 hr1 => ?_)
  subst hr1
  exact W.zret (v := bI (inF x (nI 0) ((nI nt) - (nI 1)))) hx hb hr (by first | rfl | exact bI_nar _ | exact bI_fit _ | (first | exact Or.inl rfl | exact Or.inr rfl)) (fun t ht _ => ⟨_, rfl, by exact congrArg bI (inp_m (d := 1) (by omega) (by decide) (by decide)), ht⟩) (fun _ h => nomatch h) dX6_isPlace_13
abbrev rm_kX6_time_ok : Room := { frames := 0, cells := 0, slots := 0, locals := 0 }
set_option maxHeartbeats 4000000 in
set_option maxRecDepth 100000 in
theorem kX6_time_ok (l : Launch) (D : va_G) (ca : Nat → ClassId) (sz : Nat) (om a1 a2 a3 a4 a5 a6 a7 a8 a9 : Nat) (thr sv ln bm br ck sa lm rs at_ tm : Int32) (hs : Int64) (z : Nat) (r f j : Int32) (nt nl : Nat) (gl gt : Nat → Int32) (q : Nat) (hnt : nt ≤ 200) (hnl : nl ≤ 20) (hz : z ≤ 30) (hq : q < 2147483648) : Met l yX6_time wsX6_time rm_kX6_time_ok (pcM D ca [.ref om, .int (nI q)] [(om, .inr (6, [.int thr, .ref a1, .ref a2, .ref a3, .int sv, .ref a4, .ref a5, .ref a6, .int ln, .ref a7, .int bm, .int br, .int ck, .int sa, .ref a8, .int lm, .int rs, .int at_, .ref a9, .int tm, .long hs])), (a1, .inl (ca 0, 226, .inl (sF z r f j nt nl gl gt)))] sz) (va_Qi (fun (zr : Int32) (u : Unit) => zr = (if q < nt then gt q else -1) ∧ True) (qB D (va_A [(om, .inr (6, [.int thr, .ref a1, .ref a2, .ref a3, .int sv, .ref a4, .ref a5, .ref a6, .int ln, .ref a7, .int bm, .int br, .int ck, .int sa, .ref a8, .int lm, .int rs, .int at_, .ref a9, .int tm, .long hs])), (a1, .inl (ca 0, 226, .inl (sF z r f j nt nl gl gt)))] sz) (fun u : Unit => [(om, .inr (6, [.int (nI 0), .ref a1, .ref a2, .ref a3, .int sv, .ref a4, .ref a5, .ref a6, .int ln, .ref a7, .int bm, .int br, .int ck, .int sa, .ref a8, .int lm, .int rs, .int at_, .ref a9, .int tm, .long hs])), (a1, .inl (ca 0, 226, .inl (sF z r f j nt nl gl gt)))])) (va_A [(om, .inr (6, [.int thr, .ref a1, .ref a2, .ref a3, .int sv, .ref a4, .ref a5, .ref a6, .int ln, .ref a7, .int bm, .int br, .int ck, .int sa, .ref a8, .int lm, .int rs, .int at_, .ref a9, .int tm, .long hs])), (a1, .inl (ca 0, 226, .inl (sF z r f j nt nl gl gt)))] sz)) 0 0 (va_A [(om, .inr (6, [.int thr, .ref a1, .ref a2, .ref a3, .int sv, .ref a4, .ref a5, .ref a6, .int ln, .ref a7, .int bm, .int br, .int ck, .int sa, .ref a8, .int lm, .int rs, .int at_, .ref a9, .int tm, .long hs])), (a1, .inl (ca 0, 226, .inl (sF z r f j nt nl gl gt)))] sz) := by
  refine Met.ofW (cc := cX6_time) (maxL := 2) (ret := (some .int)) (by decide) rfl ?_
  intro p e s m args below meth c s₁ B hml hv
  obtain ⟨rfl, hsz, hP, hK, hD0⟩ := hv
  have hx := B.exec
  have hb := B.bytes
  have hr := B.returns
  have hts := atoms_spec (ws := wsX6_time) B.pre
  have hown : s.vm.findClass RX6 = some m.cls := findClass_of_methodNamed B.named
  have hlocks := B.notSynchronized
  subst hsz
  have hD := hD0.self (sz := s.heap.size)
  generalize hAe : va_A [(om, .inr (6, [.int thr, .ref a1, .ref a2, .ref a3, .int sv, .ref a4, .ref a5, .ref a6, .int ln, .ref a7, .int bm, .int br, .int ck, .int sa, .ref a8, .int lm, .int rs, .int at_, .ref a9, .int tm, .long hs])), (a1, .inl (ca 0, 226, .inl (sF z r f j nt nl gl gt)))] s.heap.size = A at hD ⊢
  have hA : ∀ q : Nat, s.heap.size ≤ q → A q := fun q h => by rw [← hAe]; exact Or.inr h
  have hS : va_S A s.heap s.heap [] := va_S.rf
  have hP : va_P D vwCl [(om, .inr (6, [.int thr, .ref a1, .ref a2, .ref a3, .int sv, .ref a4, .ref a5, .ref a6, .int ln, .ref a7, .int bm, .int br, .int ck, .int sa, .ref a8, .int lm, .int rs, .int at_, .ref a9, .int tm, .long hs])), (a1, .inl (ca 0, 226, .inl (sF z r f j nt nl gl gt)))] s.heap := hP
  have hKv := hK.1
  have hl := lv_entry ([.ref om, .int (nI q)]) (n := 2) (kk_le rfl)
  rw [lg_entry_eq]
  generalize (lg_sl ([.ref om, .int (nI q)]) ++ List.replicate (2 - (lg_sl ([.ref om, .int (nI q)])).length) Slot.unset).toArray = ls at hl ⊢
  have hl : lv_has ls 2 [(0, .ref om), (1, .int (nI q))] := hl
  have hiX6 : ∀ w ∈ u_ws RX6 TX6 21, w ∈ wsX6_time := fun w h => by first | exact List.mem_cons_of_mem _ (List.mem_append_right _ h) | exact List.mem_cons_of_mem _ (List.mem_append_left _ (List.mem_append_right _ h)) | exact List.mem_cons_of_mem _ (List.mem_append_left _ (List.mem_append_left _ (List.mem_append_right _ h))) | exact List.mem_cons_of_mem _ (List.mem_append_left _ (List.mem_append_left _ (List.mem_append_left _ (List.mem_append_right _ h)))) | (revert w h; decide +kernel)
  have lk38 : (Cond.fieldLink RX6 38 "StripeSwipesModel" "thrown" "I").before _ s = true := hts _ (by decide +kernel)
  have lk7 : (Cond.fieldLink RX6 7 "StripeSwipesModel" "s" "[I").before _ s = true := hts _ (by decide +kernel)
  refine lv_aload_n hx hb dX6_time_0 rfl (lv_at hl 0 rfl) ?_
  refine lv_iconst (v := nI 0) hx hb dX6_time_1 (by decide) ?_
  refine va_put (D := D) (ci := 6) (v := .int (nI 0)) (ty := .int) (C := RX6) (T := TX6) (N := 21) hx hb hts hiX6 tyX6 tyX6_ok nmX6 hown hKv hP hD hS 0 rfl rfl 0 (by decide) lk38 (fun _ h9 => h9) rfl (by decide +kernel) rfl rfl (kk_le rfl) dX6_time_2 (fun H locs hP hD hS => ?_)
  have hP : va_P D vwCl [(om, .inr (6, [.int (nI 0), .ref a1, .ref a2, .ref a3, .int sv, .ref a4, .ref a5, .ref a6, .int ln, .ref a7, .int bm, .int br, .int ck, .int sa, .ref a8, .int lm, .int rs, .int at_, .ref a9, .int tm, .long hs])), (a1, .inl (ca 0, 226, .inl (sF z r f j nt nl gl gt)))] H := hP
  have hD : va_D A [(om, .inr (6, [.int (nI 0), .ref a1, .ref a2, .ref a3, .int sv, .ref a4, .ref a5, .ref a6, .int ln, .ref a7, .int bm, .int br, .int ck, .int sa, .ref a8, .int lm, .int rs, .int at_, .ref a9, .int tm, .long hs])), (a1, .inl (ca 0, 226, .inl (sF z r f j nt nl gl gt)))] := hD
  refine lv_iload_n hx hb dX6_time_5 rfl (lv_at hl 1 rfl) ?_
  refine ni_if_ge (tgt := 15) (by omega) hx hb dX6_time_6 (by decide) (fun c1 => ?_) (fun c1 => ?_)
  · refine lv_iload_n hx hb dX6_time_15 rfl (lv_at hl 1 rfl) ?_
    refine lv_aload_n hx hb dX6_time_16 rfl (lv_at hl 0 rfl) ?_
    refine va_get (D := D) (ci := 6) (C := RX6) (T := TX6) (N := 21) hx hb hts hiX6 hown hKv hP 0 rfl rfl 1 (by decide) lk7 (fun _ h9 => h9) rfl dX6_time_17 ?_
    refine lv_iconst (v := nI 4) hx hb dX6_time_20 (by decide) ?_
    refine my_iald hx hb hK hP 1 rfl (by omega) (by omega) dX6_time_21 ?_
    rw [show sF z r f j nt nl gl gt 4 = nI nt from rfl]
    refine ni_icmp_ge (tgt := 37) (by omega) (by omega) hx hb dX6_time_22 (by decide) (fun c2 => ?_) (fun c2 => ?_)
    · refine lv_iconst (v := (-1)) hx hb dX6_time_37 (by decide) ?_
      exact W.iret (v := (-1)) hx hb hr (fun t ht hW => ⟨⟨_, (), rfl, ⟨by first | rw [if_pos (by omega)] | rw [if_neg (by omega)], by trivial⟩, by rw [ht]; exact hP, hD⟩, hS.F ht⟩) hS.2.2 dX6_time_38
    · refine lv_aload_n hx hb dX6_time_25 rfl (lv_at hl 0 rfl) ?_
      refine va_get (D := D) (ci := 6) (C := RX6) (T := TX6) (N := 21) hx hb hts hiX6 hown hKv hP 0 rfl rfl 1 (by decide) lk7 (fun _ h9 => h9) rfl dX6_time_26 ?_
      refine lv_bipush (v := nI 26) hx hb dX6_time_29 (by decide) ?_
      refine lv_iload_n hx hb dX6_time_31 rfl (lv_at hl 1 rfl) ?_
      refine ni_iadd hx hb dX6_time_32 ?_
      refine my_iald hx hb hK hP 1 rfl (by omega) (by omega) dX6_time_33 ?_
      rw [show sF z r f j nt nl gl gt (26 + q) = gt q from sF_gt _ _ _ _ _ _ _ _ (by omega)]
      refine lv_goto (tgt := 38) hx hb dX6_time_34 (by decide) ?_
      exact W.iret (v := gt q) hx hb hr (fun t ht hW => ⟨⟨_, (), rfl, ⟨by first | rw [if_pos (by omega)] | rw [if_neg (by omega)], by trivial⟩, by rw [ht]; exact hP, hD⟩, hS.F ht⟩) hS.2.2 dX6_time_38
  · exact c1.elim
abbrev rm_kX6_time_bad : Room := { frames := 1, cells := 0, slots := 0, locals := 21 }
set_option maxHeartbeats 4000000 in
set_option maxRecDepth 100000 in
theorem kX6_time_bad (l : Launch) (D : va_G) (ca : Nat → ClassId) (sz : Nat) (om a1 a2 a3 a4 a5 a6 a7 a8 a9 : Nat) (thr sv ln bm br ck sa lm rs at_ tm : Int32) (hs : Int64) (z : Nat) (r f j : Int32) (nt nl : Nat) (gl gt : Nat → Int32) (x : Int32) (hnt : nt ≤ 200) (hnl : nl ≤ 20) (hz : z ≤ 30) (hbad : x < 0) : Met l yX6_time wsX6_time rm_kX6_time_bad (pcM D ca [.ref om, .int x] [(om, .inr (6, [.int thr, .ref a1, .ref a2, .ref a3, .int sv, .ref a4, .ref a5, .ref a6, .int ln, .ref a7, .int bm, .int br, .int ck, .int sa, .ref a8, .int lm, .int rs, .int at_, .ref a9, .int tm, .long hs])), (a1, .inl (ca 0, 226, .inl (sF z r f j nt nl gl gt)))] sz) (va_Qi (fun (zr : Int32) (u : Unit) => zr = nI 0 ∧ True) (qB D (va_A [(om, .inr (6, [.int thr, .ref a1, .ref a2, .ref a3, .int sv, .ref a4, .ref a5, .ref a6, .int ln, .ref a7, .int bm, .int br, .int ck, .int sa, .ref a8, .int lm, .int rs, .int at_, .ref a9, .int tm, .long hs])), (a1, .inl (ca 0, 226, .inl (sF z r f j nt nl gl gt)))] sz) (fun u : Unit => [(om, .inr (6, [.int (nI 1), .ref a1, .ref a2, .ref a3, .int sv, .ref a4, .ref a5, .ref a6, .int ln, .ref a7, .int bm, .int br, .int ck, .int sa, .ref a8, .int lm, .int rs, .int at_, .ref a9, .int tm, .long hs])), (a1, .inl (ca 0, 226, .inl (sF z r f j nt nl gl gt)))])) (va_A [(om, .inr (6, [.int thr, .ref a1, .ref a2, .ref a3, .int sv, .ref a4, .ref a5, .ref a6, .int ln, .ref a7, .int bm, .int br, .int ck, .int sa, .ref a8, .int lm, .int rs, .int at_, .ref a9, .int tm, .long hs])), (a1, .inl (ca 0, 226, .inl (sF z r f j nt nl gl gt)))] sz)) 0 0 (va_A [(om, .inr (6, [.int thr, .ref a1, .ref a2, .ref a3, .int sv, .ref a4, .ref a5, .ref a6, .int ln, .ref a7, .int bm, .int br, .int ck, .int sa, .ref a8, .int lm, .int rs, .int at_, .ref a9, .int tm, .long hs])), (a1, .inl (ca 0, 226, .inl (sF z r f j nt nl gl gt)))] sz) := by
  refine Met.ofW (cc := cX6_time) (maxL := 2) (ret := (some .int)) (by decide) rfl ?_
  intro p e s m args below meth c s₁ B hml hv
  obtain ⟨rfl, hsz, hP, hK, hD0⟩ := hv
  have hx := B.exec
  have hb := B.bytes
  have hr := B.returns
  have hts := atoms_spec (ws := wsX6_time) B.pre
  have hown : s.vm.findClass RX6 = some m.cls := findClass_of_methodNamed B.named
  have hlocks := B.notSynchronized
  subst hsz
  have hD := hD0.self (sz := s.heap.size)
  generalize hAe : va_A [(om, .inr (6, [.int thr, .ref a1, .ref a2, .ref a3, .int sv, .ref a4, .ref a5, .ref a6, .int ln, .ref a7, .int bm, .int br, .int ck, .int sa, .ref a8, .int lm, .int rs, .int at_, .ref a9, .int tm, .long hs])), (a1, .inl (ca 0, 226, .inl (sF z r f j nt nl gl gt)))] s.heap.size = A at hD ⊢
  have hA : ∀ q : Nat, s.heap.size ≤ q → A q := fun q h => by rw [← hAe]; exact Or.inr h
  have hS : va_S A s.heap s.heap [] := va_S.rf
  have hP : va_P D vwCl [(om, .inr (6, [.int thr, .ref a1, .ref a2, .ref a3, .int sv, .ref a4, .ref a5, .ref a6, .int ln, .ref a7, .int bm, .int br, .int ck, .int sa, .ref a8, .int lm, .int rs, .int at_, .ref a9, .int tm, .long hs])), (a1, .inl (ca 0, 226, .inl (sF z r f j nt nl gl gt)))] s.heap := hP
  have hKv := hK.1
  have hl := lv_entry ([.ref om, .int x]) (n := 2) (kk_le rfl)
  rw [lg_entry_eq]
  generalize (lg_sl ([.ref om, .int x]) ++ List.replicate (2 - (lg_sl ([.ref om, .int x])).length) Slot.unset).toArray = ls at hl ⊢
  have hl : lv_has ls 2 [(0, .ref om), (1, .int x)] := hl
  have hiX6 : ∀ w ∈ u_ws RX6 TX6 21, w ∈ wsX6_time := fun w h => by first | exact List.mem_cons_of_mem _ (List.mem_append_right _ h) | exact List.mem_cons_of_mem _ (List.mem_append_left _ (List.mem_append_right _ h)) | exact List.mem_cons_of_mem _ (List.mem_append_left _ (List.mem_append_left _ (List.mem_append_right _ h))) | exact List.mem_cons_of_mem _ (List.mem_append_left _ (List.mem_append_left _ (List.mem_append_left _ (List.mem_append_right _ h)))) | (revert w h; decide +kernel)
  have lk38 : (Cond.fieldLink RX6 38 "StripeSwipesModel" "thrown" "I").before _ s = true := hts _ (by decide +kernel)
  refine lv_aload_n hx hb dX6_time_0 rfl (lv_at hl 0 rfl) ?_
  refine lv_iconst (v := nI 0) hx hb dX6_time_1 (by decide) ?_
  refine va_put (D := D) (ci := 6) (v := .int (nI 0)) (ty := .int) (C := RX6) (T := TX6) (N := 21) hx hb hts hiX6 tyX6 tyX6_ok nmX6 hown hKv hP hD hS 0 rfl rfl 0 (by decide) lk38 (fun _ h9 => h9) rfl (by decide +kernel) rfl rfl (kk_le rfl) dX6_time_2 (fun H locs hP hD hS => ?_)
  have hP : va_P D vwCl [(om, .inr (6, [.int (nI 0), .ref a1, .ref a2, .ref a3, .int sv, .ref a4, .ref a5, .ref a6, .int ln, .ref a7, .int bm, .int br, .int ck, .int sa, .ref a8, .int lm, .int rs, .int at_, .ref a9, .int tm, .long hs])), (a1, .inl (ca 0, 226, .inl (sF z r f j nt nl gl gt)))] H := hP
  have hD : va_D A [(om, .inr (6, [.int (nI 0), .ref a1, .ref a2, .ref a3, .int sv, .ref a4, .ref a5, .ref a6, .int ln, .ref a7, .int bm, .int br, .int ck, .int sa, .ref a8, .int lm, .int rs, .int at_, .ref a9, .int tm, .long hs])), (a1, .inl (ca 0, 226, .inl (sF z r f j nt nl gl gt)))] := hD
  refine lv_iload_n hx hb dX6_time_5 rfl (lv_at hl 1 rfl) ?_
  refine lv_if_ge (tgt := 15) hx hb dX6_time_6 (by decide) (fun c1 => ?_) (fun c1 => ?_)
  · exact absurd hbad (Int32.not_lt.mpr c1)
  · refine lv_aload_n hx hb dX6_time_9 rfl (lv_at hl 0 rfl) ?_
    refine lv_iconst (v := nI 1) hx hb dX6_time_10 (by decide) ?_
    have hPc := hP.sub (ws' := [(om, .inr (6, [.int (nI 0), .ref a1, .ref a2, .ref a3, .int sv, .ref a4, .ref a5, .ref a6, .int ln, .ref a7, .int bm, .int br, .int ck, .int sa, .ref a8, .int lm, .int rs, .int at_, .ref a9, .int tm, .long hs]))]) [0] rfl
    have hDc := hD.sub (ws' := [(om, .inr (6, [.int (nI 0), .ref a1, .ref a2, .ref a3, .int sv, .ref a4, .ref a5, .ref a6, .int ln, .ref a7, .int bm, .int br, .int ck, .int sa, .ref a8, .int lm, .int rs, .int at_, .ref a9, .int tm, .long hs]))]) [0] (by decide) rfl
    have hFc := va_free (wc := [(om, .inr (6, [.int (nI 0), .ref a1, .ref a2, .ref a3, .int sv, .ref a4, .ref a5, .ref a6, .int ln, .ref a7, .int bm, .int br, .int ck, .int sa, .ref a8, .int lm, .int rs, .int at_, .ref a9, .int tm, .long hs]))]) hD hS hA [0] rfl
    refine va_calli (va_runV (As := [.int (nI 1)]) (rest := []) ⟨hx, hb, hml, hown, hts⟩ (kX6_fails l D ca H.size om a1 a2 a3 a4 a5 a6 a7 a8 a9 (nI 0) sv ln bm br ck sa lm rs at_ tm hs (nI 1)) (cwV 1 hts gX6_time_X6_fails rfl rfl rfl (by decide +kernel) ⟨kk_le rfl, kk_le rfl⟩) (pvM hK hPc (my_D_true hDc) (va_recv hKv hP (ci := 6) (q0 := 0) rfl rfl)) rfl rfl hl.1 rfl (lv_room (kk_le rfl)) dX6_time_11 ⟨kk_le rfl, kk_le rfl⟩) hS (fun q _ h => hFc q h) hFc (fun r2 u t H1 locs ht hvm hwv hBv hz1 hk1 hS => ?_)
    obtain ⟨hP1, hD1⟩ := hBv
    rw [ht] at hP1
    have hP1 : va_P D vwCl [(om, .inr (6, [.int (nI 1), .ref a1, .ref a2, .ref a3, .int sv, .ref a4, .ref a5, .ref a6, .int ln, .ref a7, .int bm, .int br, .int ck, .int sa, .ref a8, .int lm, .int rs, .int at_, .ref a9, .int tm, .long hs]))] H1 := hP1
    have hD1 : va_D _ [(om, .inr (6, [.int (nI 1), .ref a1, .ref a2, .ref a3, .int sv, .ref a4, .ref a5, .ref a6, .int ln, .ref a7, .int bm, .int br, .int ck, .int sa, .ref a8, .int lm, .int rs, .int at_, .ref a9, .int tm, .long hs]))] := hD1
    obtain ⟨hr2, hw2⟩ := hwv
    subst hr2
    obtain ⟨hP, hD⟩ := va_join (wr := [(a1, .inl (ca 0, 226, .inl (sF z r f j nt nl gl gt)))]) (w1 := [(om, .inr (6, [.int (nI 1), .ref a1, .ref a2, .ref a3, .int sv, .ref a4, .ref a5, .ref a6, .int ln, .ref a7, .int bm, .int br, .int ck, .int sa, .ref a8, .int lm, .int rs, .int at_, .ref a9, .int tm, .long hs]))]) hP hD [0] [1] rfl rfl (by decide) (by decide) hk1 hFc hP1 hD1
    generalize H1 = H at hP hS ⊢
    have hP := hP.sub (ws' := [(om, .inr (6, [.int (nI 1), .ref a1, .ref a2, .ref a3, .int sv, .ref a4, .ref a5, .ref a6, .int ln, .ref a7, .int bm, .int br, .int ck, .int sa, .ref a8, .int lm, .int rs, .int at_, .ref a9, .int tm, .long hs])), (a1, .inl (ca 0, 226, .inl (sF z r f j nt nl gl gt)))]) [1, 0] rfl
    have hD := hD.sub (ws' := [(om, .inr (6, [.int (nI 1), .ref a1, .ref a2, .ref a3, .int sv, .ref a4, .ref a5, .ref a6, .int ln, .ref a7, .int bm, .int br, .int ck, .int sa, .ref a8, .int lm, .int rs, .int at_, .ref a9, .int tm, .long hs])), (a1, .inl (ca 0, 226, .inl (sF z r f j nt nl gl gt)))]) [1, 0] (by decide) rfl
    exact W.iret (v := nI 0) hx hb hr (fun t ht hW => ⟨⟨_, (), rfl, ⟨by rfl, by trivial⟩, by rw [ht]; exact hP, hD⟩, hS.F ht⟩) hS.2.2 dX6_time_14
abbrev rm_kX6_written_ok : Room := { frames := 0, cells := 0, slots := 0, locals := 0 }
set_option maxHeartbeats 4000000 in
set_option maxRecDepth 100000 in
theorem kX6_written_ok (l : Launch) (D : va_G) (ca : Nat → ClassId) (sz : Nat) (om a1 a2 a3 a4 a5 a6 a7 a8 a9 : Nat) (thr sv ln bm br ck sa lm rs at_ tm : Int32) (hs : Int64) (z : Nat) (r f j : Int32) (nt nl : Nat) (gl gt : Nat → Int32) (q : Nat) (hnt : nt ≤ 200) (hnl : nl ≤ 20) (hz : z ≤ 30) (hq : q < 2147483648) : Met l yX6_written wsX6_written rm_kX6_written_ok (pcM D ca [.ref om, .int (nI q)] [(om, .inr (6, [.int thr, .ref a1, .ref a2, .ref a3, .int sv, .ref a4, .ref a5, .ref a6, .int ln, .ref a7, .int bm, .int br, .int ck, .int sa, .ref a8, .int lm, .int rs, .int at_, .ref a9, .int tm, .long hs])), (a1, .inl (ca 0, 226, .inl (sF z r f j nt nl gl gt)))] sz) (va_Qi (fun (zr : Int32) (u : Unit) => zr = (if q < nl then gl q else -1) ∧ True) (qB D (va_A [(om, .inr (6, [.int thr, .ref a1, .ref a2, .ref a3, .int sv, .ref a4, .ref a5, .ref a6, .int ln, .ref a7, .int bm, .int br, .int ck, .int sa, .ref a8, .int lm, .int rs, .int at_, .ref a9, .int tm, .long hs])), (a1, .inl (ca 0, 226, .inl (sF z r f j nt nl gl gt)))] sz) (fun u : Unit => [(om, .inr (6, [.int (nI 0), .ref a1, .ref a2, .ref a3, .int sv, .ref a4, .ref a5, .ref a6, .int ln, .ref a7, .int bm, .int br, .int ck, .int sa, .ref a8, .int lm, .int rs, .int at_, .ref a9, .int tm, .long hs])), (a1, .inl (ca 0, 226, .inl (sF z r f j nt nl gl gt)))])) (va_A [(om, .inr (6, [.int thr, .ref a1, .ref a2, .ref a3, .int sv, .ref a4, .ref a5, .ref a6, .int ln, .ref a7, .int bm, .int br, .int ck, .int sa, .ref a8, .int lm, .int rs, .int at_, .ref a9, .int tm, .long hs])), (a1, .inl (ca 0, 226, .inl (sF z r f j nt nl gl gt)))] sz)) 0 0 (va_A [(om, .inr (6, [.int thr, .ref a1, .ref a2, .ref a3, .int sv, .ref a4, .ref a5, .ref a6, .int ln, .ref a7, .int bm, .int br, .int ck, .int sa, .ref a8, .int lm, .int rs, .int at_, .ref a9, .int tm, .long hs])), (a1, .inl (ca 0, 226, .inl (sF z r f j nt nl gl gt)))] sz) := by
  refine Met.ofW (cc := cX6_written) (maxL := 2) (ret := (some .int)) (by decide) rfl ?_
  intro p e s m args below meth c s₁ B hml hv
  obtain ⟨rfl, hsz, hP, hK, hD0⟩ := hv
  have hx := B.exec
  have hb := B.bytes
  have hr := B.returns
  have hts := atoms_spec (ws := wsX6_written) B.pre
  have hown : s.vm.findClass RX6 = some m.cls := findClass_of_methodNamed B.named
  have hlocks := B.notSynchronized
  subst hsz
  have hD := hD0.self (sz := s.heap.size)
  generalize hAe : va_A [(om, .inr (6, [.int thr, .ref a1, .ref a2, .ref a3, .int sv, .ref a4, .ref a5, .ref a6, .int ln, .ref a7, .int bm, .int br, .int ck, .int sa, .ref a8, .int lm, .int rs, .int at_, .ref a9, .int tm, .long hs])), (a1, .inl (ca 0, 226, .inl (sF z r f j nt nl gl gt)))] s.heap.size = A at hD ⊢
  have hA : ∀ q : Nat, s.heap.size ≤ q → A q := fun q h => by rw [← hAe]; exact Or.inr h
  have hS : va_S A s.heap s.heap [] := va_S.rf
  have hP : va_P D vwCl [(om, .inr (6, [.int thr, .ref a1, .ref a2, .ref a3, .int sv, .ref a4, .ref a5, .ref a6, .int ln, .ref a7, .int bm, .int br, .int ck, .int sa, .ref a8, .int lm, .int rs, .int at_, .ref a9, .int tm, .long hs])), (a1, .inl (ca 0, 226, .inl (sF z r f j nt nl gl gt)))] s.heap := hP
  have hKv := hK.1
  have hl := lv_entry ([.ref om, .int (nI q)]) (n := 2) (kk_le rfl)
  rw [lg_entry_eq]
  generalize (lg_sl ([.ref om, .int (nI q)]) ++ List.replicate (2 - (lg_sl ([.ref om, .int (nI q)])).length) Slot.unset).toArray = ls at hl ⊢
  have hl : lv_has ls 2 [(0, .ref om), (1, .int (nI q))] := hl
  have hiX6 : ∀ w ∈ u_ws RX6 TX6 21, w ∈ wsX6_written := fun w h => by first | exact List.mem_cons_of_mem _ (List.mem_append_right _ h) | exact List.mem_cons_of_mem _ (List.mem_append_left _ (List.mem_append_right _ h)) | exact List.mem_cons_of_mem _ (List.mem_append_left _ (List.mem_append_left _ (List.mem_append_right _ h))) | exact List.mem_cons_of_mem _ (List.mem_append_left _ (List.mem_append_left _ (List.mem_append_left _ (List.mem_append_right _ h)))) | (revert w h; decide +kernel)
  have lk38 : (Cond.fieldLink RX6 38 "StripeSwipesModel" "thrown" "I").before _ s = true := hts _ (by decide +kernel)
  have lk7 : (Cond.fieldLink RX6 7 "StripeSwipesModel" "s" "[I").before _ s = true := hts _ (by decide +kernel)
  refine lv_aload_n hx hb dX6_written_0 rfl (lv_at hl 0 rfl) ?_
  refine lv_iconst (v := nI 0) hx hb dX6_written_1 (by decide) ?_
  refine va_put (D := D) (ci := 6) (v := .int (nI 0)) (ty := .int) (C := RX6) (T := TX6) (N := 21) hx hb hts hiX6 tyX6 tyX6_ok nmX6 hown hKv hP hD hS 0 rfl rfl 0 (by decide) lk38 (fun _ h9 => h9) rfl (by decide +kernel) rfl rfl (kk_le rfl) dX6_written_2 (fun H locs hP hD hS => ?_)
  have hP : va_P D vwCl [(om, .inr (6, [.int (nI 0), .ref a1, .ref a2, .ref a3, .int sv, .ref a4, .ref a5, .ref a6, .int ln, .ref a7, .int bm, .int br, .int ck, .int sa, .ref a8, .int lm, .int rs, .int at_, .ref a9, .int tm, .long hs])), (a1, .inl (ca 0, 226, .inl (sF z r f j nt nl gl gt)))] H := hP
  have hD : va_D A [(om, .inr (6, [.int (nI 0), .ref a1, .ref a2, .ref a3, .int sv, .ref a4, .ref a5, .ref a6, .int ln, .ref a7, .int bm, .int br, .int ck, .int sa, .ref a8, .int lm, .int rs, .int at_, .ref a9, .int tm, .long hs])), (a1, .inl (ca 0, 226, .inl (sF z r f j nt nl gl gt)))] := hD
  refine lv_iload_n hx hb dX6_written_5 rfl (lv_at hl 1 rfl) ?_
  refine ni_if_ge (tgt := 15) (by omega) hx hb dX6_written_6 (by decide) (fun c1 => ?_) (fun c1 => ?_)
  · refine lv_iload_n hx hb dX6_written_15 rfl (lv_at hl 1 rfl) ?_
    refine lv_aload_n hx hb dX6_written_16 rfl (lv_at hl 0 rfl) ?_
    refine va_get (D := D) (ci := 6) (C := RX6) (T := TX6) (N := 21) hx hb hts hiX6 hown hKv hP 0 rfl rfl 1 (by decide) lk7 (fun _ h9 => h9) rfl dX6_written_17 ?_
    refine lv_iconst (v := nI 5) hx hb dX6_written_20 (by decide) ?_
    refine my_iald hx hb hK hP 1 rfl (by omega) (by omega) dX6_written_21 ?_
    rw [show sF z r f j nt nl gl gt 5 = nI nl from rfl]
    refine ni_icmp_ge (tgt := 37) (by omega) (by omega) hx hb dX6_written_22 (by decide) (fun c2 => ?_) (fun c2 => ?_)
    · refine lv_iconst (v := (-1)) hx hb dX6_written_37 (by decide) ?_
      exact W.iret (v := (-1)) hx hb hr (fun t ht hW => ⟨⟨_, (), rfl, ⟨by first | rw [if_pos (by omega)] | rw [if_neg (by omega)], by trivial⟩, by rw [ht]; exact hP, hD⟩, hS.F ht⟩) hS.2.2 dX6_written_38
    · refine lv_aload_n hx hb dX6_written_25 rfl (lv_at hl 0 rfl) ?_
      refine va_get (D := D) (ci := 6) (C := RX6) (T := TX6) (N := 21) hx hb hts hiX6 hown hKv hP 0 rfl rfl 1 (by decide) lk7 (fun _ h9 => h9) rfl dX6_written_26 ?_
      refine lv_bipush (v := nI 6) hx hb dX6_written_29 (by decide) ?_
      refine lv_iload_n hx hb dX6_written_31 rfl (lv_at hl 1 rfl) ?_
      refine ni_iadd hx hb dX6_written_32 ?_
      refine my_iald hx hb hK hP 1 rfl (by omega) (by omega) dX6_written_33 ?_
      rw [show sF z r f j nt nl gl gt (6 + q) = gl q from sF_gl _ _ _ _ _ _ _ _ (by omega) (by omega)]
      refine lv_goto (tgt := 38) hx hb dX6_written_34 (by decide) ?_
      exact W.iret (v := gl q) hx hb hr (fun t ht hW => ⟨⟨_, (), rfl, ⟨by first | rw [if_pos (by omega)] | rw [if_neg (by omega)], by trivial⟩, by rw [ht]; exact hP, hD⟩, hS.F ht⟩) hS.2.2 dX6_written_38
  · exact c1.elim
abbrev rm_kX6_written_bad : Room := { frames := 1, cells := 0, slots := 0, locals := 21 }
set_option maxHeartbeats 4000000 in
set_option maxRecDepth 100000 in
theorem kX6_written_bad (l : Launch) (D : va_G) (ca : Nat → ClassId) (sz : Nat) (om a1 a2 a3 a4 a5 a6 a7 a8 a9 : Nat) (thr sv ln bm br ck sa lm rs at_ tm : Int32) (hs : Int64) (z : Nat) (r f j : Int32) (nt nl : Nat) (gl gt : Nat → Int32) (x : Int32) (hnt : nt ≤ 200) (hnl : nl ≤ 20) (hz : z ≤ 30) (hbad : x < 0) : Met l yX6_written wsX6_written rm_kX6_written_bad (pcM D ca [.ref om, .int x] [(om, .inr (6, [.int thr, .ref a1, .ref a2, .ref a3, .int sv, .ref a4, .ref a5, .ref a6, .int ln, .ref a7, .int bm, .int br, .int ck, .int sa, .ref a8, .int lm, .int rs, .int at_, .ref a9, .int tm, .long hs])), (a1, .inl (ca 0, 226, .inl (sF z r f j nt nl gl gt)))] sz) (va_Qi (fun (zr : Int32) (u : Unit) => zr = nI 0 ∧ True) (qB D (va_A [(om, .inr (6, [.int thr, .ref a1, .ref a2, .ref a3, .int sv, .ref a4, .ref a5, .ref a6, .int ln, .ref a7, .int bm, .int br, .int ck, .int sa, .ref a8, .int lm, .int rs, .int at_, .ref a9, .int tm, .long hs])), (a1, .inl (ca 0, 226, .inl (sF z r f j nt nl gl gt)))] sz) (fun u : Unit => [(om, .inr (6, [.int (nI 1), .ref a1, .ref a2, .ref a3, .int sv, .ref a4, .ref a5, .ref a6, .int ln, .ref a7, .int bm, .int br, .int ck, .int sa, .ref a8, .int lm, .int rs, .int at_, .ref a9, .int tm, .long hs])), (a1, .inl (ca 0, 226, .inl (sF z r f j nt nl gl gt)))])) (va_A [(om, .inr (6, [.int thr, .ref a1, .ref a2, .ref a3, .int sv, .ref a4, .ref a5, .ref a6, .int ln, .ref a7, .int bm, .int br, .int ck, .int sa, .ref a8, .int lm, .int rs, .int at_, .ref a9, .int tm, .long hs])), (a1, .inl (ca 0, 226, .inl (sF z r f j nt nl gl gt)))] sz)) 0 0 (va_A [(om, .inr (6, [.int thr, .ref a1, .ref a2, .ref a3, .int sv, .ref a4, .ref a5, .ref a6, .int ln, .ref a7, .int bm, .int br, .int ck, .int sa, .ref a8, .int lm, .int rs, .int at_, .ref a9, .int tm, .long hs])), (a1, .inl (ca 0, 226, .inl (sF z r f j nt nl gl gt)))] sz) := by
  refine Met.ofW (cc := cX6_written) (maxL := 2) (ret := (some .int)) (by decide) rfl ?_
  intro p e s m args below meth c s₁ B hml hv
  obtain ⟨rfl, hsz, hP, hK, hD0⟩ := hv
  have hx := B.exec
  have hb := B.bytes
  have hr := B.returns
  have hts := atoms_spec (ws := wsX6_written) B.pre
  have hown : s.vm.findClass RX6 = some m.cls := findClass_of_methodNamed B.named
  have hlocks := B.notSynchronized
  subst hsz
  have hD := hD0.self (sz := s.heap.size)
  generalize hAe : va_A [(om, .inr (6, [.int thr, .ref a1, .ref a2, .ref a3, .int sv, .ref a4, .ref a5, .ref a6, .int ln, .ref a7, .int bm, .int br, .int ck, .int sa, .ref a8, .int lm, .int rs, .int at_, .ref a9, .int tm, .long hs])), (a1, .inl (ca 0, 226, .inl (sF z r f j nt nl gl gt)))] s.heap.size = A at hD ⊢
  have hA : ∀ q : Nat, s.heap.size ≤ q → A q := fun q h => by rw [← hAe]; exact Or.inr h
  have hS : va_S A s.heap s.heap [] := va_S.rf
  have hP : va_P D vwCl [(om, .inr (6, [.int thr, .ref a1, .ref a2, .ref a3, .int sv, .ref a4, .ref a5, .ref a6, .int ln, .ref a7, .int bm, .int br, .int ck, .int sa, .ref a8, .int lm, .int rs, .int at_, .ref a9, .int tm, .long hs])), (a1, .inl (ca 0, 226, .inl (sF z r f j nt nl gl gt)))] s.heap := hP
  have hKv := hK.1
  have hl := lv_entry ([.ref om, .int x]) (n := 2) (kk_le rfl)
  rw [lg_entry_eq]
  generalize (lg_sl ([.ref om, .int x]) ++ List.replicate (2 - (lg_sl ([.ref om, .int x])).length) Slot.unset).toArray = ls at hl ⊢
  have hl : lv_has ls 2 [(0, .ref om), (1, .int x)] := hl
  have hiX6 : ∀ w ∈ u_ws RX6 TX6 21, w ∈ wsX6_written := fun w h => by first | exact List.mem_cons_of_mem _ (List.mem_append_right _ h) | exact List.mem_cons_of_mem _ (List.mem_append_left _ (List.mem_append_right _ h)) | exact List.mem_cons_of_mem _ (List.mem_append_left _ (List.mem_append_left _ (List.mem_append_right _ h))) | exact List.mem_cons_of_mem _ (List.mem_append_left _ (List.mem_append_left _ (List.mem_append_left _ (List.mem_append_right _ h)))) | (revert w h; decide +kernel)
  have lk38 : (Cond.fieldLink RX6 38 "StripeSwipesModel" "thrown" "I").before _ s = true := hts _ (by decide +kernel)
  refine lv_aload_n hx hb dX6_written_0 rfl (lv_at hl 0 rfl) ?_
  refine lv_iconst (v := nI 0) hx hb dX6_written_1 (by decide) ?_
  refine va_put (D := D) (ci := 6) (v := .int (nI 0)) (ty := .int) (C := RX6) (T := TX6) (N := 21) hx hb hts hiX6 tyX6 tyX6_ok nmX6 hown hKv hP hD hS 0 rfl rfl 0 (by decide) lk38 (fun _ h9 => h9) rfl (by decide +kernel) rfl rfl (kk_le rfl) dX6_written_2 (fun H locs hP hD hS => ?_)
  have hP : va_P D vwCl [(om, .inr (6, [.int (nI 0), .ref a1, .ref a2, .ref a3, .int sv, .ref a4, .ref a5, .ref a6, .int ln, .ref a7, .int bm, .int br, .int ck, .int sa, .ref a8, .int lm, .int rs, .int at_, .ref a9, .int tm, .long hs])), (a1, .inl (ca 0, 226, .inl (sF z r f j nt nl gl gt)))] H := hP
  have hD : va_D A [(om, .inr (6, [.int (nI 0), .ref a1, .ref a2, .ref a3, .int sv, .ref a4, .ref a5, .ref a6, .int ln, .ref a7, .int bm, .int br, .int ck, .int sa, .ref a8, .int lm, .int rs, .int at_, .ref a9, .int tm, .long hs])), (a1, .inl (ca 0, 226, .inl (sF z r f j nt nl gl gt)))] := hD
  refine lv_iload_n hx hb dX6_written_5 rfl (lv_at hl 1 rfl) ?_
  refine lv_if_ge (tgt := 15) hx hb dX6_written_6 (by decide) (fun c1 => ?_) (fun c1 => ?_)
  · exact absurd hbad (Int32.not_lt.mpr c1)
  · refine lv_aload_n hx hb dX6_written_9 rfl (lv_at hl 0 rfl) ?_
    refine lv_iconst (v := nI 1) hx hb dX6_written_10 (by decide) ?_
    have hPc := hP.sub (ws' := [(om, .inr (6, [.int (nI 0), .ref a1, .ref a2, .ref a3, .int sv, .ref a4, .ref a5, .ref a6, .int ln, .ref a7, .int bm, .int br, .int ck, .int sa, .ref a8, .int lm, .int rs, .int at_, .ref a9, .int tm, .long hs]))]) [0] rfl
    have hDc := hD.sub (ws' := [(om, .inr (6, [.int (nI 0), .ref a1, .ref a2, .ref a3, .int sv, .ref a4, .ref a5, .ref a6, .int ln, .ref a7, .int bm, .int br, .int ck, .int sa, .ref a8, .int lm, .int rs, .int at_, .ref a9, .int tm, .long hs]))]) [0] (by decide) rfl
    have hFc := va_free (wc := [(om, .inr (6, [.int (nI 0), .ref a1, .ref a2, .ref a3, .int sv, .ref a4, .ref a5, .ref a6, .int ln, .ref a7, .int bm, .int br, .int ck, .int sa, .ref a8, .int lm, .int rs, .int at_, .ref a9, .int tm, .long hs]))]) hD hS hA [0] rfl
    refine va_calli (va_runV (As := [.int (nI 1)]) (rest := []) ⟨hx, hb, hml, hown, hts⟩ (kX6_fails l D ca H.size om a1 a2 a3 a4 a5 a6 a7 a8 a9 (nI 0) sv ln bm br ck sa lm rs at_ tm hs (nI 1)) (cwV 1 hts gX6_written_X6_fails rfl rfl rfl (by decide +kernel) ⟨kk_le rfl, kk_le rfl⟩) (pvM hK hPc (my_D_true hDc) (va_recv hKv hP (ci := 6) (q0 := 0) rfl rfl)) rfl rfl hl.1 rfl (lv_room (kk_le rfl)) dX6_written_11 ⟨kk_le rfl, kk_le rfl⟩) hS (fun q _ h => hFc q h) hFc (fun r2 u t H1 locs ht hvm hwv hBv hz1 hk1 hS => ?_)
    obtain ⟨hP1, hD1⟩ := hBv
    rw [ht] at hP1
    have hP1 : va_P D vwCl [(om, .inr (6, [.int (nI 1), .ref a1, .ref a2, .ref a3, .int sv, .ref a4, .ref a5, .ref a6, .int ln, .ref a7, .int bm, .int br, .int ck, .int sa, .ref a8, .int lm, .int rs, .int at_, .ref a9, .int tm, .long hs]))] H1 := hP1
    have hD1 : va_D _ [(om, .inr (6, [.int (nI 1), .ref a1, .ref a2, .ref a3, .int sv, .ref a4, .ref a5, .ref a6, .int ln, .ref a7, .int bm, .int br, .int ck, .int sa, .ref a8, .int lm, .int rs, .int at_, .ref a9, .int tm, .long hs]))] := hD1
    obtain ⟨hr2, hw2⟩ := hwv
    subst hr2
    obtain ⟨hP, hD⟩ := va_join (wr := [(a1, .inl (ca 0, 226, .inl (sF z r f j nt nl gl gt)))]) (w1 := [(om, .inr (6, [.int (nI 1), .ref a1, .ref a2, .ref a3, .int sv, .ref a4, .ref a5, .ref a6, .int ln, .ref a7, .int bm, .int br, .int ck, .int sa, .ref a8, .int lm, .int rs, .int at_, .ref a9, .int tm, .long hs]))]) hP hD [0] [1] rfl rfl (by decide) (by decide) hk1 hFc hP1 hD1
    generalize H1 = H at hP hS ⊢
    have hP := hP.sub (ws' := [(om, .inr (6, [.int (nI 1), .ref a1, .ref a2, .ref a3, .int sv, .ref a4, .ref a5, .ref a6, .int ln, .ref a7, .int bm, .int br, .int ck, .int sa, .ref a8, .int lm, .int rs, .int at_, .ref a9, .int tm, .long hs])), (a1, .inl (ca 0, 226, .inl (sF z r f j nt nl gl gt)))]) [1, 0] rfl
    have hD := hD.sub (ws' := [(om, .inr (6, [.int (nI 1), .ref a1, .ref a2, .ref a3, .int sv, .ref a4, .ref a5, .ref a6, .int ln, .ref a7, .int bm, .int br, .int ck, .int sa, .ref a8, .int lm, .int rs, .int at_, .ref a9, .int tm, .long hs])), (a1, .inl (ca 0, 226, .inl (sF z r f j nt nl gl gt)))]) [1, 0] (by decide) rfl
    exact W.iret (v := nI 0) hx hb hr (fun t ht hW => ⟨⟨_, (), rfl, ⟨by rfl, by trivial⟩, by rw [ht]; exact hP, hD⟩, hS.F ht⟩) hS.2.2 dX6_written_14
abbrev rm_kX6_reads_ok : Room := { frames := 5, cells := 0, slots := 0, locals := 106 }
set_option maxHeartbeats 4000000 in
set_option maxRecDepth 100000 in
theorem kX6_reads_ok (l : Launch) (D : va_G) (ca : Nat → ClassId) (sz : Nat) (om a1 a2 a3 a4 a5 a6 a7 a8 a9 : Nat) (thr sv ln bm br ck sa lm rs at_ tm : Int32) (hs : Int64) (z : Nat) (r f j : Int32) (nt nl : Nat) (gl gt : Nat → Int32) (fi fe : Nat → Int32) (bw : Bool) (q : Nat) (hnt : nt ≤ 200) (hnl : nl ≤ 20) (hz : z ≤ 30) (hq : q < 5) : Met l yX6_reads wsX6_reads rm_kX6_reads_ok (pcM D ca [.ref om, .int (bI bw), .int (nI q)] [(om, .inr (6, [.int thr, .ref a1, .ref a2, .ref a3, .int sv, .ref a4, .ref a5, .ref a6, .int ln, .ref a7, .int bm, .int br, .int ck, .int sa, .ref a8, .int lm, .int rs, .int at_, .ref a9, .int tm, .long hs])), (a1, .inl (ca 0, 226, .inl (sF z r f j nt nl gl gt))), (a7, .inl (ca 0, 200, .inl fi)), (a8, .inl (ca 0, 40, .inl fe))] sz) (va_Qi (fun (zr : Int32) (u : Unit) => zr = tolF q (rsT r f (lst (twF bw gt nt) nt)) (nI (bitsT r f (lst (twF bw gt nt) nt)).length) (stB (bitsT r f (lst (twF bw gt nt) nt))) (nI (ltB (bitsT r f (lst (twF bw gt nt) nt))).length) (clkT r f (lst (twF bw gt nt) nt)) ∧ True) (qB D (va_A [(om, .inr (6, [.int thr, .ref a1, .ref a2, .ref a3, .int sv, .ref a4, .ref a5, .ref a6, .int ln, .ref a7, .int bm, .int br, .int ck, .int sa, .ref a8, .int lm, .int rs, .int at_, .ref a9, .int tm, .long hs])), (a1, .inl (ca 0, 226, .inl (sF z r f j nt nl gl gt))), (a7, .inl (ca 0, 200, .inl fi)), (a8, .inl (ca 0, 40, .inl fe))] sz) (fun u : Unit => [(om, .inr (6, [.int (nI 0), .ref a1, .ref a2, .ref a3, .int sv, .ref a4, .ref a5, .ref a6, .int ln, .ref a7, .int (nI ((bitsT r f (lst (twF bw gt nt) nt)).length)), .int (bI (!(rdT r f (lst (twF bw gt nt) nt)).2.2)), .int (clkT r f (lst (twF bw gt nt) nt)), .int (stB (bitsT r f (lst (twF bw gt nt) nt))), .ref a8, .int (nI ((ltB (bitsT r f (lst (twF bw gt nt) nt))).length)), .int (rsT r f (lst (twF bw gt nt) nt)), .int at_, .ref a9, .int tm, .long hs])), (a1, .inl (ca 0, 226, .inl (sF z r f j nt nl gl gt))), (a7, .inl (ca 0, 200, .inl (apF fi 0 (bitsT r f (lst (twF bw gt nt) nt))))), (a8, .inl (ca 0, 40, .inl (apF fe 0 (ltB (bitsT r f (lst (twF bw gt nt) nt))))))])) (va_A [(om, .inr (6, [.int thr, .ref a1, .ref a2, .ref a3, .int sv, .ref a4, .ref a5, .ref a6, .int ln, .ref a7, .int bm, .int br, .int ck, .int sa, .ref a8, .int lm, .int rs, .int at_, .ref a9, .int tm, .long hs])), (a1, .inl (ca 0, 226, .inl (sF z r f j nt nl gl gt))), (a7, .inl (ca 0, 200, .inl fi)), (a8, .inl (ca 0, 40, .inl fe))] sz)) 0 0 (va_A [(om, .inr (6, [.int thr, .ref a1, .ref a2, .ref a3, .int sv, .ref a4, .ref a5, .ref a6, .int ln, .ref a7, .int bm, .int br, .int ck, .int sa, .ref a8, .int lm, .int rs, .int at_, .ref a9, .int tm, .long hs])), (a1, .inl (ca 0, 226, .inl (sF z r f j nt nl gl gt))), (a7, .inl (ca 0, 200, .inl fi)), (a8, .inl (ca 0, 40, .inl fe))] sz) := by
  refine Met.ofW (cc := cX6_reads) (maxL := 3) (ret := (some .int)) (by decide) rfl ?_
  intro p e s m args below meth c s₁ B hml hv
  obtain ⟨rfl, hsz, hP, hK, hD0⟩ := hv
  have hx := B.exec
  have hb := B.bytes
  have hr := B.returns
  have hts := atoms_spec (ws := wsX6_reads) B.pre
  have hown : s.vm.findClass RX6 = some m.cls := findClass_of_methodNamed B.named
  have hlocks := B.notSynchronized
  subst hsz
  have hD := hD0.self (sz := s.heap.size)
  generalize hAe : va_A [(om, .inr (6, [.int thr, .ref a1, .ref a2, .ref a3, .int sv, .ref a4, .ref a5, .ref a6, .int ln, .ref a7, .int bm, .int br, .int ck, .int sa, .ref a8, .int lm, .int rs, .int at_, .ref a9, .int tm, .long hs])), (a1, .inl (ca 0, 226, .inl (sF z r f j nt nl gl gt))), (a7, .inl (ca 0, 200, .inl fi)), (a8, .inl (ca 0, 40, .inl fe))] s.heap.size = A at hD ⊢
  have hA : ∀ q : Nat, s.heap.size ≤ q → A q := fun q h => by rw [← hAe]; exact Or.inr h
  have hS : va_S A s.heap s.heap [] := va_S.rf
  have hP : va_P D vwCl [(om, .inr (6, [.int thr, .ref a1, .ref a2, .ref a3, .int sv, .ref a4, .ref a5, .ref a6, .int ln, .ref a7, .int bm, .int br, .int ck, .int sa, .ref a8, .int lm, .int rs, .int at_, .ref a9, .int tm, .long hs])), (a1, .inl (ca 0, 226, .inl (sF z r f j nt nl gl gt))), (a7, .inl (ca 0, 200, .inl fi)), (a8, .inl (ca 0, 40, .inl fe))] s.heap := hP
  have hKv := hK.1
  have hl := lv_entry ([.ref om, .int (bI bw), .int (nI q)]) (n := 3) (kk_le rfl)
  rw [lg_entry_eq]
  generalize (lg_sl ([.ref om, .int (bI bw), .int (nI q)]) ++ List.replicate (3 - (lg_sl ([.ref om, .int (bI bw), .int (nI q)])).length) Slot.unset).toArray = ls at hl ⊢
  have hl : lv_has ls 3 [(0, .ref om), (1, .int (bI bw)), (2, .int (nI q))] := hl
  have hiX6 : ∀ w ∈ u_ws RX6 TX6 21, w ∈ wsX6_reads := fun w h => by first | exact List.mem_cons_of_mem _ (List.mem_append_right _ h) | exact List.mem_cons_of_mem _ (List.mem_append_left _ (List.mem_append_right _ h)) | exact List.mem_cons_of_mem _ (List.mem_append_left _ (List.mem_append_left _ (List.mem_append_right _ h))) | exact List.mem_cons_of_mem _ (List.mem_append_left _ (List.mem_append_left _ (List.mem_append_left _ (List.mem_append_right _ h)))) | (revert w h; decide +kernel)
  have lk38 : (Cond.fieldLink RX6 38 "StripeSwipesModel" "thrown" "I").before _ s = true := hts _ (by decide +kernel)
  refine lv_aload_n hx hb dX6_reads_0 rfl (lv_at hl 0 rfl) ?_
  refine lv_iconst (v := nI 0) hx hb dX6_reads_1 (by decide) ?_
  refine va_put (D := D) (ci := 6) (v := .int (nI 0)) (ty := .int) (C := RX6) (T := TX6) (N := 21) hx hb hts hiX6 tyX6 tyX6_ok nmX6 hown hKv hP hD hS 0 rfl rfl 0 (by decide) lk38 (fun _ h9 => h9) rfl (by decide +kernel) rfl rfl (kk_le rfl) dX6_reads_2 (fun H locs hP hD hS => ?_)
  have hP : va_P D vwCl [(om, .inr (6, [.int (nI 0), .ref a1, .ref a2, .ref a3, .int sv, .ref a4, .ref a5, .ref a6, .int ln, .ref a7, .int bm, .int br, .int ck, .int sa, .ref a8, .int lm, .int rs, .int at_, .ref a9, .int tm, .long hs])), (a1, .inl (ca 0, 226, .inl (sF z r f j nt nl gl gt))), (a7, .inl (ca 0, 200, .inl fi)), (a8, .inl (ca 0, 40, .inl fe))] H := hP
  have hD : va_D A [(om, .inr (6, [.int (nI 0), .ref a1, .ref a2, .ref a3, .int sv, .ref a4, .ref a5, .ref a6, .int ln, .ref a7, .int bm, .int br, .int ck, .int sa, .ref a8, .int lm, .int rs, .int at_, .ref a9, .int tm, .long hs])), (a1, .inl (ca 0, 226, .inl (sF z r f j nt nl gl gt))), (a7, .inl (ca 0, 200, .inl fi)), (a8, .inl (ca 0, 40, .inl fe))] := hD
  refine lv_iload_n hx hb dX6_reads_5 rfl (lv_at hl 2 rfl) ?_
  refine lv_iconst (v := nI 0) hx hb dX6_reads_6 (by decide) ?_
  refine lv_iconst (v := nI 4) hx hb dX6_reads_7 (by decide) ?_
  refine vp_callSi (va_Run.run (va_runS (As := [.int (nI q), .int (nI 0), .int (nI 4)]) (rest := []) ⟨hx, hb, hml, hown, hts⟩ (kX6_in l (nI q) (nI 0) (nI 4)) (va_cwS 3 hts gX6_reads_X6_in rfl rfl rfl (by decide +kernel) ⟨kk_le rfl, kk_le rfl⟩) psN rfl rfl hl.1 rfl (lv_room (kk_le rfl)) dX6_reads_8 ⟨kk_le rfl, kk_le rfl⟩)) (fun r1 hr1 => ?_)
  subst hr1
  have e2 : (bI (inF (nI q) (nI 0) (nI 4)) : Int32) = bI true := congrArg bI ((inp_k (n := 5) rfl (by decide)).trans ((hasF_n (by omega) (by omega)).trans (decide_eq_true (by omega))))
  rw [e2]
  refine bi_if_ne (tgt := 20) hx hb dX6_reads_11 (by decide) (fun c3 => ?_) (fun c3 => ?_)
  · refine lv_aload_n hx hb dX6_reads_20 rfl (lv_at hl 0 rfl) ?_
    refine lv_iload_n hx hb dX6_reads_21 rfl (lv_at hl 1 rfl) ?_
    have hPc := hP
    have hDc := hD
    have hFc := va_free (wc := [(om, .inr (6, [.int (nI 0), .ref a1, .ref a2, .ref a3, .int sv, .ref a4, .ref a5, .ref a6, .int ln, .ref a7, .int bm, .int br, .int ck, .int sa, .ref a8, .int lm, .int rs, .int at_, .ref a9, .int tm, .long hs])), (a1, .inl (ca 0, 226, .inl (sF z r f j nt nl gl gt))), (a7, .inl (ca 0, 200, .inl fi)), (a8, .inl (ca 0, 40, .inl fe))]) hD hS hA [0, 1, 2, 3] rfl
    refine va_callv (va_runV (As := [.int (bI bw)]) (rest := []) ⟨hx, hb, hml, hown, hts⟩ (kX6_laysReading l D ca H.size om a1 a2 a3 a4 a5 a6 a7 a8 a9 (nI 0) sv ln bm br ck sa lm rs at_ tm hs z r f j nt nl gl gt fi fe bw (by first | rfl | assumption | omega | trivial | (exfalso; omega)) (by first | rfl | assumption | omega | trivial | (exfalso; omega)) (by first | rfl | assumption | omega | trivial | (exfalso; omega))) (cwV 1 hts gX6_reads_X6_laysReading rfl rfl rfl (by decide +kernel) ⟨kk_le rfl, kk_le rfl⟩) (pvM hK hPc (my_D_true hDc) (va_recv hKv hP (ci := 6) (q0 := 0) rfl rfl)) rfl rfl hl.1 rfl (lv_room (kk_le rfl)) dX6_reads_22 ⟨kk_le rfl, kk_le rfl⟩) hS (fun q _ h => hFc q h) hFc (fun u t H1 locs ht hvm hwv hBv hz1 hk1 hS => ?_)
    obtain ⟨hP1, hD1⟩ := hBv
    rw [ht] at hP1
    have hP1 : va_P D vwCl [(om, .inr (6, [.int (nI 0), .ref a1, .ref a2, .ref a3, .int sv, .ref a4, .ref a5, .ref a6, .int ln, .ref a7, .int (nI ((bitsT r f (lst (twF bw gt nt) nt)).length)), .int (bI (!(rdT r f (lst (twF bw gt nt) nt)).2.2)), .int (clkT r f (lst (twF bw gt nt) nt)), .int (stB (bitsT r f (lst (twF bw gt nt) nt))), .ref a8, .int (nI ((ltB (bitsT r f (lst (twF bw gt nt) nt))).length)), .int (rsT r f (lst (twF bw gt nt) nt)), .int at_, .ref a9, .int tm, .long hs])), (a1, .inl (ca 0, 226, .inl (sF z r f j nt nl gl gt))), (a7, .inl (ca 0, 200, .inl (apF fi 0 (bitsT r f (lst (twF bw gt nt) nt))))), (a8, .inl (ca 0, 40, .inl (apF fe 0 (ltB (bitsT r f (lst (twF bw gt nt) nt))))))] H1 := hP1
    have hD1 : va_D _ [(om, .inr (6, [.int (nI 0), .ref a1, .ref a2, .ref a3, .int sv, .ref a4, .ref a5, .ref a6, .int ln, .ref a7, .int (nI ((bitsT r f (lst (twF bw gt nt) nt)).length)), .int (bI (!(rdT r f (lst (twF bw gt nt) nt)).2.2)), .int (clkT r f (lst (twF bw gt nt) nt)), .int (stB (bitsT r f (lst (twF bw gt nt) nt))), .ref a8, .int (nI ((ltB (bitsT r f (lst (twF bw gt nt) nt))).length)), .int (rsT r f (lst (twF bw gt nt) nt)), .int at_, .ref a9, .int tm, .long hs])), (a1, .inl (ca 0, 226, .inl (sF z r f j nt nl gl gt))), (a7, .inl (ca 0, 200, .inl (apF fi 0 (bitsT r f (lst (twF bw gt nt) nt))))), (a8, .inl (ca 0, 40, .inl (apF fe 0 (ltB (bitsT r f (lst (twF bw gt nt) nt))))))] := hD1
    have hw4 := hwv
    have hP := hP1
    have hD := hD1.weaken (fun _ _ _ h => hFc _ h)
    generalize H1 = H at hP hS ⊢
    have hP : va_P D vwCl [(om, .inr (6, [.int (nI 0), .ref a1, .ref a2, .ref a3, .int sv, .ref a4, .ref a5, .ref a6, .int ln, .ref a7, .int (nI ((bitsT r f (lst (twF bw gt nt) nt)).length)), .int (bI (!(rdT r f (lst (twF bw gt nt) nt)).2.2)), .int (clkT r f (lst (twF bw gt nt) nt)), .int (stB (bitsT r f (lst (twF bw gt nt) nt))), .ref a8, .int (nI ((ltB (bitsT r f (lst (twF bw gt nt) nt))).length)), .int (rsT r f (lst (twF bw gt nt) nt)), .int at_, .ref a9, .int tm, .long hs])), (a1, .inl (ca 0, 226, .inl (sF z r f j nt nl gl gt))), (a7, .inl (ca 0, 200, .inl (apF fi 0 (bitsT r f (lst (twF bw gt nt) nt))))), (a8, .inl (ca 0, 40, .inl (apF fe 0 (ltB (bitsT r f (lst (twF bw gt nt) nt))))))] H := hP
    have hD : va_D A [(om, .inr (6, [.int (nI 0), .ref a1, .ref a2, .ref a3, .int sv, .ref a4, .ref a5, .ref a6, .int ln, .ref a7, .int (nI ((bitsT r f (lst (twF bw gt nt) nt)).length)), .int (bI (!(rdT r f (lst (twF bw gt nt) nt)).2.2)), .int (clkT r f (lst (twF bw gt nt) nt)), .int (stB (bitsT r f (lst (twF bw gt nt) nt))), .ref a8, .int (nI ((ltB (bitsT r f (lst (twF bw gt nt) nt))).length)), .int (rsT r f (lst (twF bw gt nt) nt)), .int at_, .ref a9, .int tm, .long hs])), (a1, .inl (ca 0, 226, .inl (sF z r f j nt nl gl gt))), (a7, .inl (ca 0, 200, .inl (apF fi 0 (bitsT r f (lst (twF bw gt nt) nt))))), (a8, .inl (ca 0, 40, .inl (apF fe 0 (ltB (bitsT r f (lst (twF bw gt nt) nt))))))] := hD
    refine lv_aload_n hx hb dX6_reads_25 rfl (lv_at hl 0 rfl) ?_
    refine lv_iload_n hx hb dX6_reads_26 rfl (lv_at hl 2 rfl) ?_
    refine vp_callSi (va_Run.run (va_runV (As := [.int (nI q)]) (rest := []) ⟨hx, hb, hml, hown, hts⟩ (kX6_tellsReading l D ca om a1 a2 a3 a4 a5 a6 a7 a8 a9 (nI 0) sv ln (nI ((bitsT r f (lst (twF bw gt nt) nt)).length)) (bI (!(rdT r f (lst (twF bw gt nt) nt)).2.2)) (clkT r f (lst (twF bw gt nt) nt)) (stB (bitsT r f (lst (twF bw gt nt) nt))) (nI ((ltB (bitsT r f (lst (twF bw gt nt) nt))).length)) (rsT r f (lst (twF bw gt nt) nt)) at_ tm hs q (by first | rfl | assumption | omega | trivial | (exfalso; omega))) (cwV 1 hts gX6_reads_X6_tellsReading rfl rfl rfl (by decide +kernel) ⟨kk_le rfl, kk_le rfl⟩) (pvR hK (hP.sub (ws' := [(om, .inr (6, [.int (nI 0), .ref a1, .ref a2, .ref a3, .int sv, .ref a4, .ref a5, .ref a6, .int ln, .ref a7, .int (nI ((bitsT r f (lst (twF bw gt nt) nt)).length)), .int (bI (!(rdT r f (lst (twF bw gt nt) nt)).2.2)), .int (clkT r f (lst (twF bw gt nt) nt)), .int (stB (bitsT r f (lst (twF bw gt nt) nt))), .ref a8, .int (nI ((ltB (bitsT r f (lst (twF bw gt nt) nt))).length)), .int (rsT r f (lst (twF bw gt nt) nt)), .int at_, .ref a9, .int tm, .long hs]))]) [0] rfl) (va_recv hKv hP (ci := 6) (q0 := 0) rfl rfl)) rfl rfl hl.1 rfl (lv_room (kk_le rfl)) dX6_reads_27 ⟨kk_le rfl, kk_le rfl⟩)) (fun r6 hr6 => ?_)
    subst hr6
    exact W.iret (v := tolF q (rsT r f (lst (twF bw gt nt) nt)) (nI ((bitsT r f (lst (twF bw gt nt) nt)).length)) (stB (bitsT r f (lst (twF bw gt nt) nt))) (nI ((ltB (bitsT r f (lst (twF bw gt nt) nt))).length)) (clkT r f (lst (twF bw gt nt) nt))) hx hb hr (fun t ht hW => ⟨⟨_, (), rfl, ⟨by rfl, by trivial⟩, by rw [ht]; exact hP, hD⟩, hS.F ht⟩) hS.2.2 dX6_reads_30
  · first | exact False.elim c3 | exact absurd c3 (by decide) | (exfalso; omega)
abbrev rm_kX6_reads_bad : Room := { frames := 1, cells := 0, slots := 0, locals := 22 }
set_option maxHeartbeats 4000000 in
set_option maxRecDepth 100000 in
theorem kX6_reads_bad (l : Launch) (D : va_G) (ca : Nat → ClassId) (sz : Nat) (om a1 a2 a3 a4 a5 a6 a7 a8 a9 : Nat) (thr sv ln bm br ck sa lm rs at_ tm : Int32) (hs : Int64) (z : Nat) (r f j : Int32) (nt nl : Nat) (gl gt : Nat → Int32) (fi fe : Nat → Int32) (bw : Bool) (x : Int32) (hnt : nt ≤ 200) (hnl : nl ≤ 20) (hz : z ≤ 30) (hbad : hasF 5 x = false) : Met l yX6_reads wsX6_reads rm_kX6_reads_bad (pcM D ca [.ref om, .int (bI bw), .int x] [(om, .inr (6, [.int thr, .ref a1, .ref a2, .ref a3, .int sv, .ref a4, .ref a5, .ref a6, .int ln, .ref a7, .int bm, .int br, .int ck, .int sa, .ref a8, .int lm, .int rs, .int at_, .ref a9, .int tm, .long hs])), (a1, .inl (ca 0, 226, .inl (sF z r f j nt nl gl gt))), (a7, .inl (ca 0, 200, .inl fi)), (a8, .inl (ca 0, 40, .inl fe))] sz) (va_Qi (fun (zr : Int32) (u : Unit) => zr = nI 0 ∧ True) (qB D (va_A [(om, .inr (6, [.int thr, .ref a1, .ref a2, .ref a3, .int sv, .ref a4, .ref a5, .ref a6, .int ln, .ref a7, .int bm, .int br, .int ck, .int sa, .ref a8, .int lm, .int rs, .int at_, .ref a9, .int tm, .long hs])), (a1, .inl (ca 0, 226, .inl (sF z r f j nt nl gl gt))), (a7, .inl (ca 0, 200, .inl fi)), (a8, .inl (ca 0, 40, .inl fe))] sz) (fun u : Unit => [(om, .inr (6, [.int (nI 1), .ref a1, .ref a2, .ref a3, .int sv, .ref a4, .ref a5, .ref a6, .int ln, .ref a7, .int bm, .int br, .int ck, .int sa, .ref a8, .int lm, .int rs, .int at_, .ref a9, .int tm, .long hs])), (a1, .inl (ca 0, 226, .inl (sF z r f j nt nl gl gt))), (a7, .inl (ca 0, 200, .inl fi)), (a8, .inl (ca 0, 40, .inl fe))])) (va_A [(om, .inr (6, [.int thr, .ref a1, .ref a2, .ref a3, .int sv, .ref a4, .ref a5, .ref a6, .int ln, .ref a7, .int bm, .int br, .int ck, .int sa, .ref a8, .int lm, .int rs, .int at_, .ref a9, .int tm, .long hs])), (a1, .inl (ca 0, 226, .inl (sF z r f j nt nl gl gt))), (a7, .inl (ca 0, 200, .inl fi)), (a8, .inl (ca 0, 40, .inl fe))] sz)) 0 0 (va_A [(om, .inr (6, [.int thr, .ref a1, .ref a2, .ref a3, .int sv, .ref a4, .ref a5, .ref a6, .int ln, .ref a7, .int bm, .int br, .int ck, .int sa, .ref a8, .int lm, .int rs, .int at_, .ref a9, .int tm, .long hs])), (a1, .inl (ca 0, 226, .inl (sF z r f j nt nl gl gt))), (a7, .inl (ca 0, 200, .inl fi)), (a8, .inl (ca 0, 40, .inl fe))] sz) := by
  refine Met.ofW (cc := cX6_reads) (maxL := 3) (ret := (some .int)) (by decide) rfl ?_
  intro p e s m args below meth c s₁ B hml hv
  obtain ⟨rfl, hsz, hP, hK, hD0⟩ := hv
  have hx := B.exec
  have hb := B.bytes
  have hr := B.returns
  have hts := atoms_spec (ws := wsX6_reads) B.pre
  have hown : s.vm.findClass RX6 = some m.cls := findClass_of_methodNamed B.named
  have hlocks := B.notSynchronized
  subst hsz
  have hD := hD0.self (sz := s.heap.size)
  generalize hAe : va_A [(om, .inr (6, [.int thr, .ref a1, .ref a2, .ref a3, .int sv, .ref a4, .ref a5, .ref a6, .int ln, .ref a7, .int bm, .int br, .int ck, .int sa, .ref a8, .int lm, .int rs, .int at_, .ref a9, .int tm, .long hs])), (a1, .inl (ca 0, 226, .inl (sF z r f j nt nl gl gt))), (a7, .inl (ca 0, 200, .inl fi)), (a8, .inl (ca 0, 40, .inl fe))] s.heap.size = A at hD ⊢
  have hA : ∀ q : Nat, s.heap.size ≤ q → A q := fun q h => by rw [← hAe]; exact Or.inr h
  have hS : va_S A s.heap s.heap [] := va_S.rf
  have hP : va_P D vwCl [(om, .inr (6, [.int thr, .ref a1, .ref a2, .ref a3, .int sv, .ref a4, .ref a5, .ref a6, .int ln, .ref a7, .int bm, .int br, .int ck, .int sa, .ref a8, .int lm, .int rs, .int at_, .ref a9, .int tm, .long hs])), (a1, .inl (ca 0, 226, .inl (sF z r f j nt nl gl gt))), (a7, .inl (ca 0, 200, .inl fi)), (a8, .inl (ca 0, 40, .inl fe))] s.heap := hP
  have hKv := hK.1
  have hl := lv_entry ([.ref om, .int (bI bw), .int x]) (n := 3) (kk_le rfl)
  rw [lg_entry_eq]
  generalize (lg_sl ([.ref om, .int (bI bw), .int x]) ++ List.replicate (3 - (lg_sl ([.ref om, .int (bI bw), .int x])).length) Slot.unset).toArray = ls at hl ⊢
  have hl : lv_has ls 3 [(0, .ref om), (1, .int (bI bw)), (2, .int x)] := hl
  have hiX6 : ∀ w ∈ u_ws RX6 TX6 21, w ∈ wsX6_reads := fun w h => by first | exact List.mem_cons_of_mem _ (List.mem_append_right _ h) | exact List.mem_cons_of_mem _ (List.mem_append_left _ (List.mem_append_right _ h)) | exact List.mem_cons_of_mem _ (List.mem_append_left _ (List.mem_append_left _ (List.mem_append_right _ h))) | exact List.mem_cons_of_mem _ (List.mem_append_left _ (List.mem_append_left _ (List.mem_append_left _ (List.mem_append_right _ h)))) | (revert w h; decide +kernel)
  have lk38 : (Cond.fieldLink RX6 38 "StripeSwipesModel" "thrown" "I").before _ s = true := hts _ (by decide +kernel)
  refine lv_aload_n hx hb dX6_reads_0 rfl (lv_at hl 0 rfl) ?_
  refine lv_iconst (v := nI 0) hx hb dX6_reads_1 (by decide) ?_
  refine va_put (D := D) (ci := 6) (v := .int (nI 0)) (ty := .int) (C := RX6) (T := TX6) (N := 21) hx hb hts hiX6 tyX6 tyX6_ok nmX6 hown hKv hP hD hS 0 rfl rfl 0 (by decide) lk38 (fun _ h9 => h9) rfl (by decide +kernel) rfl rfl (kk_le rfl) dX6_reads_2 (fun H locs hP hD hS => ?_)
  have hP : va_P D vwCl [(om, .inr (6, [.int (nI 0), .ref a1, .ref a2, .ref a3, .int sv, .ref a4, .ref a5, .ref a6, .int ln, .ref a7, .int bm, .int br, .int ck, .int sa, .ref a8, .int lm, .int rs, .int at_, .ref a9, .int tm, .long hs])), (a1, .inl (ca 0, 226, .inl (sF z r f j nt nl gl gt))), (a7, .inl (ca 0, 200, .inl fi)), (a8, .inl (ca 0, 40, .inl fe))] H := hP
  have hD : va_D A [(om, .inr (6, [.int (nI 0), .ref a1, .ref a2, .ref a3, .int sv, .ref a4, .ref a5, .ref a6, .int ln, .ref a7, .int bm, .int br, .int ck, .int sa, .ref a8, .int lm, .int rs, .int at_, .ref a9, .int tm, .long hs])), (a1, .inl (ca 0, 226, .inl (sF z r f j nt nl gl gt))), (a7, .inl (ca 0, 200, .inl fi)), (a8, .inl (ca 0, 40, .inl fe))] := hD
  refine lv_iload_n hx hb dX6_reads_5 rfl (lv_at hl 2 rfl) ?_
  refine lv_iconst (v := nI 0) hx hb dX6_reads_6 (by decide) ?_
  refine lv_iconst (v := nI 4) hx hb dX6_reads_7 (by decide) ?_
  refine vp_callSi (va_Run.run (va_runS (As := [.int x, .int (nI 0), .int (nI 4)]) (rest := []) ⟨hx, hb, hml, hown, hts⟩ (kX6_in l x (nI 0) (nI 4)) (va_cwS 3 hts gX6_reads_X6_in rfl rfl rfl (by decide +kernel) ⟨kk_le rfl, kk_le rfl⟩) psN rfl rfl hl.1 rfl (lv_room (kk_le rfl)) dX6_reads_8 ⟨kk_le rfl, kk_le rfl⟩)) (fun r1 hr1 => ?_)
  subst hr1
  have e2 : (bI (inF x (nI 0) (nI 4)) : Int32) = bI false := congrArg bI ((inp_k (n := 5) rfl (by decide)).trans hbad)
  rw [e2]
  refine bi_if_ne (tgt := 20) hx hb dX6_reads_11 (by decide) (fun c3 => ?_) (fun c3 => ?_)
  · first | exact False.elim c3 | exact absurd c3 (by decide) | (exfalso; omega)
  · refine lv_aload_n hx hb dX6_reads_14 rfl (lv_at hl 0 rfl) ?_
    refine lv_iconst (v := nI 1) hx hb dX6_reads_15 (by decide) ?_
    have hPc := hP.sub (ws' := [(om, .inr (6, [.int (nI 0), .ref a1, .ref a2, .ref a3, .int sv, .ref a4, .ref a5, .ref a6, .int ln, .ref a7, .int bm, .int br, .int ck, .int sa, .ref a8, .int lm, .int rs, .int at_, .ref a9, .int tm, .long hs]))]) [0] rfl
    have hDc := hD.sub (ws' := [(om, .inr (6, [.int (nI 0), .ref a1, .ref a2, .ref a3, .int sv, .ref a4, .ref a5, .ref a6, .int ln, .ref a7, .int bm, .int br, .int ck, .int sa, .ref a8, .int lm, .int rs, .int at_, .ref a9, .int tm, .long hs]))]) [0] (by decide) rfl
    have hFc := va_free (wc := [(om, .inr (6, [.int (nI 0), .ref a1, .ref a2, .ref a3, .int sv, .ref a4, .ref a5, .ref a6, .int ln, .ref a7, .int bm, .int br, .int ck, .int sa, .ref a8, .int lm, .int rs, .int at_, .ref a9, .int tm, .long hs]))]) hD hS hA [0] rfl
    refine va_calli (va_runV (As := [.int (nI 1)]) (rest := []) ⟨hx, hb, hml, hown, hts⟩ (kX6_fails l D ca H.size om a1 a2 a3 a4 a5 a6 a7 a8 a9 (nI 0) sv ln bm br ck sa lm rs at_ tm hs (nI 1)) (cwV 1 hts gX6_reads_X6_fails rfl rfl rfl (by decide +kernel) ⟨kk_le rfl, kk_le rfl⟩) (pvM hK hPc (my_D_true hDc) (va_recv hKv hP (ci := 6) (q0 := 0) rfl rfl)) rfl rfl hl.1 rfl (lv_room (kk_le rfl)) dX6_reads_16 ⟨kk_le rfl, kk_le rfl⟩) hS (fun q _ h => hFc q h) hFc (fun r4 u t H1 locs ht hvm hwv hBv hz1 hk1 hS => ?_)
    obtain ⟨hP1, hD1⟩ := hBv
    rw [ht] at hP1
    have hP1 : va_P D vwCl [(om, .inr (6, [.int (nI 1), .ref a1, .ref a2, .ref a3, .int sv, .ref a4, .ref a5, .ref a6, .int ln, .ref a7, .int bm, .int br, .int ck, .int sa, .ref a8, .int lm, .int rs, .int at_, .ref a9, .int tm, .long hs]))] H1 := hP1
    have hD1 : va_D _ [(om, .inr (6, [.int (nI 1), .ref a1, .ref a2, .ref a3, .int sv, .ref a4, .ref a5, .ref a6, .int ln, .ref a7, .int bm, .int br, .int ck, .int sa, .ref a8, .int lm, .int rs, .int at_, .ref a9, .int tm, .long hs]))] := hD1
    obtain ⟨hr4, hw4⟩ := hwv
    subst hr4
    obtain ⟨hP, hD⟩ := va_join (wr := [(a1, .inl (ca 0, 226, .inl (sF z r f j nt nl gl gt))), (a7, .inl (ca 0, 200, .inl fi)), (a8, .inl (ca 0, 40, .inl fe))]) (w1 := [(om, .inr (6, [.int (nI 1), .ref a1, .ref a2, .ref a3, .int sv, .ref a4, .ref a5, .ref a6, .int ln, .ref a7, .int bm, .int br, .int ck, .int sa, .ref a8, .int lm, .int rs, .int at_, .ref a9, .int tm, .long hs]))]) hP hD [0] [1, 2, 3] rfl rfl (by decide) (by decide) hk1 hFc hP1 hD1
    generalize H1 = H at hP hS ⊢
    have hP := hP.sub (ws' := [(om, .inr (6, [.int (nI 1), .ref a1, .ref a2, .ref a3, .int sv, .ref a4, .ref a5, .ref a6, .int ln, .ref a7, .int bm, .int br, .int ck, .int sa, .ref a8, .int lm, .int rs, .int at_, .ref a9, .int tm, .long hs])), (a1, .inl (ca 0, 226, .inl (sF z r f j nt nl gl gt))), (a7, .inl (ca 0, 200, .inl fi)), (a8, .inl (ca 0, 40, .inl fe))]) [3, 0, 1, 2] rfl
    have hD := hD.sub (ws' := [(om, .inr (6, [.int (nI 1), .ref a1, .ref a2, .ref a3, .int sv, .ref a4, .ref a5, .ref a6, .int ln, .ref a7, .int bm, .int br, .int ck, .int sa, .ref a8, .int lm, .int rs, .int at_, .ref a9, .int tm, .long hs])), (a1, .inl (ca 0, 226, .inl (sF z r f j nt nl gl gt))), (a7, .inl (ca 0, 200, .inl fi)), (a8, .inl (ca 0, 40, .inl fe))]) [3, 0, 1, 2] (by decide) rfl
    exact W.iret (v := nI 0) hx hb hr (fun t ht hW => ⟨⟨_, (), rfl, ⟨by rfl, by trivial⟩, by rw [ht]; exact hP, hD⟩, hS.F ht⟩) hS.2.2 dX6_reads_19
abbrev rm_kX6_bit_ok : Room := { frames := 5, cells := 0, slots := 0, locals := 106 }
set_option maxHeartbeats 4000000 in
set_option maxRecDepth 100000 in
theorem kX6_bit_ok (l : Launch) (D : va_G) (ca : Nat → ClassId) (sz : Nat) (om a1 a2 a3 a4 a5 a6 a7 a8 a9 : Nat) (thr sv ln bm br ck sa lm rs at_ tm : Int32) (hs : Int64) (z : Nat) (r f j : Int32) (nt nl : Nat) (gl gt : Nat → Int32) (fi fe : Nat → Int32) (bw : Bool) (q : Nat) (hnt : nt ≤ 200) (hnl : nl ≤ 20) (hz : z ≤ 30) (hq : q < 2147483648) : Met l yX6_bit wsX6_bit rm_kX6_bit_ok (pcM D ca [.ref om, .int (bI bw), .int (nI q)] [(om, .inr (6, [.int thr, .ref a1, .ref a2, .ref a3, .int sv, .ref a4, .ref a5, .ref a6, .int ln, .ref a7, .int bm, .int br, .int ck, .int sa, .ref a8, .int lm, .int rs, .int at_, .ref a9, .int tm, .long hs])), (a1, .inl (ca 0, 226, .inl (sF z r f j nt nl gl gt))), (a7, .inl (ca 0, 200, .inl fi)), (a8, .inl (ca 0, 40, .inl fe))] sz) (va_Qi (fun (zr : Int32) (u : Unit) => zr = (bitsT r f (lst (twF bw gt nt) nt)).getD q (-1) ∧ True) (qB D (va_A [(om, .inr (6, [.int thr, .ref a1, .ref a2, .ref a3, .int sv, .ref a4, .ref a5, .ref a6, .int ln, .ref a7, .int bm, .int br, .int ck, .int sa, .ref a8, .int lm, .int rs, .int at_, .ref a9, .int tm, .long hs])), (a1, .inl (ca 0, 226, .inl (sF z r f j nt nl gl gt))), (a7, .inl (ca 0, 200, .inl fi)), (a8, .inl (ca 0, 40, .inl fe))] sz) (fun u : Unit => [(om, .inr (6, [.int (nI 0), .ref a1, .ref a2, .ref a3, .int sv, .ref a4, .ref a5, .ref a6, .int ln, .ref a7, .int (nI ((bitsT r f (lst (twF bw gt nt) nt)).length)), .int (bI (!(rdT r f (lst (twF bw gt nt) nt)).2.2)), .int (clkT r f (lst (twF bw gt nt) nt)), .int (stB (bitsT r f (lst (twF bw gt nt) nt))), .ref a8, .int (nI ((ltB (bitsT r f (lst (twF bw gt nt) nt))).length)), .int (rsT r f (lst (twF bw gt nt) nt)), .int at_, .ref a9, .int tm, .long hs])), (a1, .inl (ca 0, 226, .inl (sF z r f j nt nl gl gt))), (a7, .inl (ca 0, 200, .inl (apF fi 0 (bitsT r f (lst (twF bw gt nt) nt))))), (a8, .inl (ca 0, 40, .inl (apF fe 0 (ltB (bitsT r f (lst (twF bw gt nt) nt))))))])) (va_A [(om, .inr (6, [.int thr, .ref a1, .ref a2, .ref a3, .int sv, .ref a4, .ref a5, .ref a6, .int ln, .ref a7, .int bm, .int br, .int ck, .int sa, .ref a8, .int lm, .int rs, .int at_, .ref a9, .int tm, .long hs])), (a1, .inl (ca 0, 226, .inl (sF z r f j nt nl gl gt))), (a7, .inl (ca 0, 200, .inl fi)), (a8, .inl (ca 0, 40, .inl fe))] sz)) 0 0 (va_A [(om, .inr (6, [.int thr, .ref a1, .ref a2, .ref a3, .int sv, .ref a4, .ref a5, .ref a6, .int ln, .ref a7, .int bm, .int br, .int ck, .int sa, .ref a8, .int lm, .int rs, .int at_, .ref a9, .int tm, .long hs])), (a1, .inl (ca 0, 226, .inl (sF z r f j nt nl gl gt))), (a7, .inl (ca 0, 200, .inl fi)), (a8, .inl (ca 0, 40, .inl fe))] sz) := by
  refine Met.ofW (cc := cX6_bit) (maxL := 3) (ret := (some .int)) (by decide) rfl ?_
  intro p e s m args below meth c s₁ B hml hv
  obtain ⟨rfl, hsz, hP, hK, hD0⟩ := hv
  have hx := B.exec
  have hb := B.bytes
  have hr := B.returns
  have hts := atoms_spec (ws := wsX6_bit) B.pre
  have hown : s.vm.findClass RX6 = some m.cls := findClass_of_methodNamed B.named
  have hlocks := B.notSynchronized
  subst hsz
  have hD := hD0.self (sz := s.heap.size)
  generalize hAe : va_A [(om, .inr (6, [.int thr, .ref a1, .ref a2, .ref a3, .int sv, .ref a4, .ref a5, .ref a6, .int ln, .ref a7, .int bm, .int br, .int ck, .int sa, .ref a8, .int lm, .int rs, .int at_, .ref a9, .int tm, .long hs])), (a1, .inl (ca 0, 226, .inl (sF z r f j nt nl gl gt))), (a7, .inl (ca 0, 200, .inl fi)), (a8, .inl (ca 0, 40, .inl fe))] s.heap.size = A at hD ⊢
  have hA : ∀ q : Nat, s.heap.size ≤ q → A q := fun q h => by rw [← hAe]; exact Or.inr h
  have hS : va_S A s.heap s.heap [] := va_S.rf
  have hP : va_P D vwCl [(om, .inr (6, [.int thr, .ref a1, .ref a2, .ref a3, .int sv, .ref a4, .ref a5, .ref a6, .int ln, .ref a7, .int bm, .int br, .int ck, .int sa, .ref a8, .int lm, .int rs, .int at_, .ref a9, .int tm, .long hs])), (a1, .inl (ca 0, 226, .inl (sF z r f j nt nl gl gt))), (a7, .inl (ca 0, 200, .inl fi)), (a8, .inl (ca 0, 40, .inl fe))] s.heap := hP
  have hKv := hK.1
  have hl := lv_entry ([.ref om, .int (bI bw), .int (nI q)]) (n := 3) (kk_le rfl)
  rw [lg_entry_eq]
  generalize (lg_sl ([.ref om, .int (bI bw), .int (nI q)]) ++ List.replicate (3 - (lg_sl ([.ref om, .int (bI bw), .int (nI q)])).length) Slot.unset).toArray = ls at hl ⊢
  have hl : lv_has ls 3 [(0, .ref om), (1, .int (bI bw)), (2, .int (nI q))] := hl
  have hBl : (bitsT r f (lst (twF bw gt nt) nt)).length ≤ nt := rdT_len r f (twF bw gt nt) nt
  have hlb := ltB_len (bitsT r f (lst (twF bw gt nt) nt)) (by omega)
  have hiX6 : ∀ w ∈ u_ws RX6 TX6 21, w ∈ wsX6_bit := fun w h => by first | exact List.mem_cons_of_mem _ (List.mem_append_right _ h) | exact List.mem_cons_of_mem _ (List.mem_append_left _ (List.mem_append_right _ h)) | exact List.mem_cons_of_mem _ (List.mem_append_left _ (List.mem_append_left _ (List.mem_append_right _ h))) | exact List.mem_cons_of_mem _ (List.mem_append_left _ (List.mem_append_left _ (List.mem_append_left _ (List.mem_append_right _ h)))) | (revert w h; decide +kernel)
  have lk38 : (Cond.fieldLink RX6 38 "StripeSwipesModel" "thrown" "I").before _ s = true := hts _ (by decide +kernel)
  have lk81 : (Cond.fieldLink RX6 81 "StripeSwipesModel" "bitMany" "I").before _ s = true := hts _ (by decide +kernel)
  have lk29 : (Cond.fieldLink RX6 29 "StripeSwipesModel" "bits" "[I").before _ s = true := hts _ (by decide +kernel)
  refine lv_aload_n hx hb dX6_bit_0 rfl (lv_at hl 0 rfl) ?_
  refine lv_iconst (v := nI 0) hx hb dX6_bit_1 (by decide) ?_
  refine va_put (D := D) (ci := 6) (v := .int (nI 0)) (ty := .int) (C := RX6) (T := TX6) (N := 21) hx hb hts hiX6 tyX6 tyX6_ok nmX6 hown hKv hP hD hS 0 rfl rfl 0 (by decide) lk38 (fun _ h9 => h9) rfl (by decide +kernel) rfl rfl (kk_le rfl) dX6_bit_2 (fun H locs hP hD hS => ?_)
  have hP : va_P D vwCl [(om, .inr (6, [.int (nI 0), .ref a1, .ref a2, .ref a3, .int sv, .ref a4, .ref a5, .ref a6, .int ln, .ref a7, .int bm, .int br, .int ck, .int sa, .ref a8, .int lm, .int rs, .int at_, .ref a9, .int tm, .long hs])), (a1, .inl (ca 0, 226, .inl (sF z r f j nt nl gl gt))), (a7, .inl (ca 0, 200, .inl fi)), (a8, .inl (ca 0, 40, .inl fe))] H := hP
  have hD : va_D A [(om, .inr (6, [.int (nI 0), .ref a1, .ref a2, .ref a3, .int sv, .ref a4, .ref a5, .ref a6, .int ln, .ref a7, .int bm, .int br, .int ck, .int sa, .ref a8, .int lm, .int rs, .int at_, .ref a9, .int tm, .long hs])), (a1, .inl (ca 0, 226, .inl (sF z r f j nt nl gl gt))), (a7, .inl (ca 0, 200, .inl fi)), (a8, .inl (ca 0, 40, .inl fe))] := hD
  refine lv_iload_n hx hb dX6_bit_5 rfl (lv_at hl 2 rfl) ?_
  refine ni_if_ge (tgt := 15) (by omega) hx hb dX6_bit_6 (by decide) (fun c1 => ?_) (fun c1 => ?_)
  · refine lv_aload_n hx hb dX6_bit_15 rfl (lv_at hl 0 rfl) ?_
    refine lv_iload_n hx hb dX6_bit_16 rfl (lv_at hl 1 rfl) ?_
    have hPc := hP
    have hDc := hD
    have hFc := va_free (wc := [(om, .inr (6, [.int (nI 0), .ref a1, .ref a2, .ref a3, .int sv, .ref a4, .ref a5, .ref a6, .int ln, .ref a7, .int bm, .int br, .int ck, .int sa, .ref a8, .int lm, .int rs, .int at_, .ref a9, .int tm, .long hs])), (a1, .inl (ca 0, 226, .inl (sF z r f j nt nl gl gt))), (a7, .inl (ca 0, 200, .inl fi)), (a8, .inl (ca 0, 40, .inl fe))]) hD hS hA [0, 1, 2, 3] rfl
    refine va_callv (va_runV (As := [.int (bI bw)]) (rest := []) ⟨hx, hb, hml, hown, hts⟩ (kX6_laysReading l D ca H.size om a1 a2 a3 a4 a5 a6 a7 a8 a9 (nI 0) sv ln bm br ck sa lm rs at_ tm hs z r f j nt nl gl gt fi fe bw (by first | rfl | assumption | omega | trivial | (exfalso; omega)) (by first | rfl | assumption | omega | trivial | (exfalso; omega)) (by first | rfl | assumption | omega | trivial | (exfalso; omega))) (cwV 1 hts gX6_bit_X6_laysReading rfl rfl rfl (by decide +kernel) ⟨kk_le rfl, kk_le rfl⟩) (pvM hK hPc (my_D_true hDc) (va_recv hKv hP (ci := 6) (q0 := 0) rfl rfl)) rfl rfl hl.1 rfl (lv_room (kk_le rfl)) dX6_bit_17 ⟨kk_le rfl, kk_le rfl⟩) hS (fun q _ h => hFc q h) hFc (fun u t H1 locs ht hvm hwv hBv hz1 hk1 hS => ?_)
    obtain ⟨hP1, hD1⟩ := hBv
    rw [ht] at hP1
    have hP1 : va_P D vwCl [(om, .inr (6, [.int (nI 0), .ref a1, .ref a2, .ref a3, .int sv, .ref a4, .ref a5, .ref a6, .int ln, .ref a7, .int (nI ((bitsT r f (lst (twF bw gt nt) nt)).length)), .int (bI (!(rdT r f (lst (twF bw gt nt) nt)).2.2)), .int (clkT r f (lst (twF bw gt nt) nt)), .int (stB (bitsT r f (lst (twF bw gt nt) nt))), .ref a8, .int (nI ((ltB (bitsT r f (lst (twF bw gt nt) nt))).length)), .int (rsT r f (lst (twF bw gt nt) nt)), .int at_, .ref a9, .int tm, .long hs])), (a1, .inl (ca 0, 226, .inl (sF z r f j nt nl gl gt))), (a7, .inl (ca 0, 200, .inl (apF fi 0 (bitsT r f (lst (twF bw gt nt) nt))))), (a8, .inl (ca 0, 40, .inl (apF fe 0 (ltB (bitsT r f (lst (twF bw gt nt) nt))))))] H1 := hP1
    have hD1 : va_D _ [(om, .inr (6, [.int (nI 0), .ref a1, .ref a2, .ref a3, .int sv, .ref a4, .ref a5, .ref a6, .int ln, .ref a7, .int (nI ((bitsT r f (lst (twF bw gt nt) nt)).length)), .int (bI (!(rdT r f (lst (twF bw gt nt) nt)).2.2)), .int (clkT r f (lst (twF bw gt nt) nt)), .int (stB (bitsT r f (lst (twF bw gt nt) nt))), .ref a8, .int (nI ((ltB (bitsT r f (lst (twF bw gt nt) nt))).length)), .int (rsT r f (lst (twF bw gt nt) nt)), .int at_, .ref a9, .int tm, .long hs])), (a1, .inl (ca 0, 226, .inl (sF z r f j nt nl gl gt))), (a7, .inl (ca 0, 200, .inl (apF fi 0 (bitsT r f (lst (twF bw gt nt) nt))))), (a8, .inl (ca 0, 40, .inl (apF fe 0 (ltB (bitsT r f (lst (twF bw gt nt) nt))))))] := hD1
    have hw2 := hwv
    have hP := hP1
    have hD := hD1.weaken (fun _ _ _ h => hFc _ h)
    generalize H1 = H at hP hS ⊢
    have hP : va_P D vwCl [(om, .inr (6, [.int (nI 0), .ref a1, .ref a2, .ref a3, .int sv, .ref a4, .ref a5, .ref a6, .int ln, .ref a7, .int (nI ((bitsT r f (lst (twF bw gt nt) nt)).length)), .int (bI (!(rdT r f (lst (twF bw gt nt) nt)).2.2)), .int (clkT r f (lst (twF bw gt nt) nt)), .int (stB (bitsT r f (lst (twF bw gt nt) nt))), .ref a8, .int (nI ((ltB (bitsT r f (lst (twF bw gt nt) nt))).length)), .int (rsT r f (lst (twF bw gt nt) nt)), .int at_, .ref a9, .int tm, .long hs])), (a1, .inl (ca 0, 226, .inl (sF z r f j nt nl gl gt))), (a7, .inl (ca 0, 200, .inl (apF fi 0 (bitsT r f (lst (twF bw gt nt) nt))))), (a8, .inl (ca 0, 40, .inl (apF fe 0 (ltB (bitsT r f (lst (twF bw gt nt) nt))))))] H := hP
    have hD : va_D A [(om, .inr (6, [.int (nI 0), .ref a1, .ref a2, .ref a3, .int sv, .ref a4, .ref a5, .ref a6, .int ln, .ref a7, .int (nI ((bitsT r f (lst (twF bw gt nt) nt)).length)), .int (bI (!(rdT r f (lst (twF bw gt nt) nt)).2.2)), .int (clkT r f (lst (twF bw gt nt) nt)), .int (stB (bitsT r f (lst (twF bw gt nt) nt))), .ref a8, .int (nI ((ltB (bitsT r f (lst (twF bw gt nt) nt))).length)), .int (rsT r f (lst (twF bw gt nt) nt)), .int at_, .ref a9, .int tm, .long hs])), (a1, .inl (ca 0, 226, .inl (sF z r f j nt nl gl gt))), (a7, .inl (ca 0, 200, .inl (apF fi 0 (bitsT r f (lst (twF bw gt nt) nt))))), (a8, .inl (ca 0, 40, .inl (apF fe 0 (ltB (bitsT r f (lst (twF bw gt nt) nt))))))] := hD
    refine lv_iload_n hx hb dX6_bit_20 rfl (lv_at hl 2 rfl) ?_
    refine lv_aload_n hx hb dX6_bit_21 rfl (lv_at hl 0 rfl) ?_
    refine va_get (D := D) (ci := 6) (C := RX6) (T := TX6) (N := 21) hx hb hts hiX6 hown hKv hP 0 rfl rfl 10 (by decide) lk81 (fun _ h9 => h9) rfl dX6_bit_22 ?_
    refine ni_icmp_ge (tgt := 37) (by omega) (by omega) hx hb dX6_bit_25 (by decide) (fun c4 => ?_) (fun c4 => ?_)
    · refine lv_iconst (v := (-1)) hx hb dX6_bit_37 (by decide) ?_
      exact W.iret (v := (-1)) hx hb hr (fun t ht hW => ⟨⟨_, (), rfl, ⟨by first | exact gd_in fi (bitsT r f (lst (twF bw gt nt) nt)) (by omega) | exact gd_out (bitsT r f (lst (twF bw gt nt) nt)) (by omega), by trivial⟩, by rw [ht]; exact hP, hD⟩, hS.F ht⟩) hS.2.2 dX6_bit_38
    · refine lv_aload_n hx hb dX6_bit_28 rfl (lv_at hl 0 rfl) ?_
      refine va_get (D := D) (ci := 6) (C := RX6) (T := TX6) (N := 21) hx hb hts hiX6 hown hKv hP 0 rfl rfl 9 (by decide) lk29 (fun _ h9 => h9) rfl dX6_bit_29 ?_
      refine lv_iload_n hx hb dX6_bit_32 rfl (lv_at hl 2 rfl) ?_
      refine my_iald hx hb hK hP 2 rfl (by omega) (by omega) dX6_bit_33 ?_
      refine lv_goto (tgt := 38) hx hb dX6_bit_34 (by decide) ?_
      exact W.iret (v := (apF fi 0 (bitsT r f (lst (twF bw gt nt) nt))) q) hx hb hr (fun t ht hW => ⟨⟨_, (), rfl, ⟨by first | exact gd_in fi (bitsT r f (lst (twF bw gt nt) nt)) (by omega) | exact gd_out (bitsT r f (lst (twF bw gt nt) nt)) (by omega), by trivial⟩, by rw [ht]; exact hP, hD⟩, hS.F ht⟩) hS.2.2 dX6_bit_38
  · exact c1.elim
abbrev rm_kX6_bit_bad : Room := { frames := 1, cells := 0, slots := 0, locals := 21 }
set_option maxHeartbeats 4000000 in
set_option maxRecDepth 100000 in
theorem kX6_bit_bad (l : Launch) (D : va_G) (ca : Nat → ClassId) (sz : Nat) (om a1 a2 a3 a4 a5 a6 a7 a8 a9 : Nat) (thr sv ln bm br ck sa lm rs at_ tm : Int32) (hs : Int64) (z : Nat) (r f j : Int32) (nt nl : Nat) (gl gt : Nat → Int32) (fi fe : Nat → Int32) (bw : Bool) (x : Int32) (hnt : nt ≤ 200) (hnl : nl ≤ 20) (hz : z ≤ 30) (hbad : x < 0) : Met l yX6_bit wsX6_bit rm_kX6_bit_bad (pcM D ca [.ref om, .int (bI bw), .int x] [(om, .inr (6, [.int thr, .ref a1, .ref a2, .ref a3, .int sv, .ref a4, .ref a5, .ref a6, .int ln, .ref a7, .int bm, .int br, .int ck, .int sa, .ref a8, .int lm, .int rs, .int at_, .ref a9, .int tm, .long hs])), (a1, .inl (ca 0, 226, .inl (sF z r f j nt nl gl gt))), (a7, .inl (ca 0, 200, .inl fi)), (a8, .inl (ca 0, 40, .inl fe))] sz) (va_Qi (fun (zr : Int32) (u : Unit) => zr = nI 0 ∧ True) (qB D (va_A [(om, .inr (6, [.int thr, .ref a1, .ref a2, .ref a3, .int sv, .ref a4, .ref a5, .ref a6, .int ln, .ref a7, .int bm, .int br, .int ck, .int sa, .ref a8, .int lm, .int rs, .int at_, .ref a9, .int tm, .long hs])), (a1, .inl (ca 0, 226, .inl (sF z r f j nt nl gl gt))), (a7, .inl (ca 0, 200, .inl fi)), (a8, .inl (ca 0, 40, .inl fe))] sz) (fun u : Unit => [(om, .inr (6, [.int (nI 1), .ref a1, .ref a2, .ref a3, .int sv, .ref a4, .ref a5, .ref a6, .int ln, .ref a7, .int bm, .int br, .int ck, .int sa, .ref a8, .int lm, .int rs, .int at_, .ref a9, .int tm, .long hs])), (a1, .inl (ca 0, 226, .inl (sF z r f j nt nl gl gt))), (a7, .inl (ca 0, 200, .inl fi)), (a8, .inl (ca 0, 40, .inl fe))])) (va_A [(om, .inr (6, [.int thr, .ref a1, .ref a2, .ref a3, .int sv, .ref a4, .ref a5, .ref a6, .int ln, .ref a7, .int bm, .int br, .int ck, .int sa, .ref a8, .int lm, .int rs, .int at_, .ref a9, .int tm, .long hs])), (a1, .inl (ca 0, 226, .inl (sF z r f j nt nl gl gt))), (a7, .inl (ca 0, 200, .inl fi)), (a8, .inl (ca 0, 40, .inl fe))] sz)) 0 0 (va_A [(om, .inr (6, [.int thr, .ref a1, .ref a2, .ref a3, .int sv, .ref a4, .ref a5, .ref a6, .int ln, .ref a7, .int bm, .int br, .int ck, .int sa, .ref a8, .int lm, .int rs, .int at_, .ref a9, .int tm, .long hs])), (a1, .inl (ca 0, 226, .inl (sF z r f j nt nl gl gt))), (a7, .inl (ca 0, 200, .inl fi)), (a8, .inl (ca 0, 40, .inl fe))] sz) := by
  refine Met.ofW (cc := cX6_bit) (maxL := 3) (ret := (some .int)) (by decide) rfl ?_
  intro p e s m args below meth c s₁ B hml hv
  obtain ⟨rfl, hsz, hP, hK, hD0⟩ := hv
  have hx := B.exec
  have hb := B.bytes
  have hr := B.returns
  have hts := atoms_spec (ws := wsX6_bit) B.pre
  have hown : s.vm.findClass RX6 = some m.cls := findClass_of_methodNamed B.named
  have hlocks := B.notSynchronized
  subst hsz
  have hD := hD0.self (sz := s.heap.size)
  generalize hAe : va_A [(om, .inr (6, [.int thr, .ref a1, .ref a2, .ref a3, .int sv, .ref a4, .ref a5, .ref a6, .int ln, .ref a7, .int bm, .int br, .int ck, .int sa, .ref a8, .int lm, .int rs, .int at_, .ref a9, .int tm, .long hs])), (a1, .inl (ca 0, 226, .inl (sF z r f j nt nl gl gt))), (a7, .inl (ca 0, 200, .inl fi)), (a8, .inl (ca 0, 40, .inl fe))] s.heap.size = A at hD ⊢
  have hA : ∀ q : Nat, s.heap.size ≤ q → A q := fun q h => by rw [← hAe]; exact Or.inr h
  have hS : va_S A s.heap s.heap [] := va_S.rf
  have hP : va_P D vwCl [(om, .inr (6, [.int thr, .ref a1, .ref a2, .ref a3, .int sv, .ref a4, .ref a5, .ref a6, .int ln, .ref a7, .int bm, .int br, .int ck, .int sa, .ref a8, .int lm, .int rs, .int at_, .ref a9, .int tm, .long hs])), (a1, .inl (ca 0, 226, .inl (sF z r f j nt nl gl gt))), (a7, .inl (ca 0, 200, .inl fi)), (a8, .inl (ca 0, 40, .inl fe))] s.heap := hP
  have hKv := hK.1
  have hl := lv_entry ([.ref om, .int (bI bw), .int x]) (n := 3) (kk_le rfl)
  rw [lg_entry_eq]
  generalize (lg_sl ([.ref om, .int (bI bw), .int x]) ++ List.replicate (3 - (lg_sl ([.ref om, .int (bI bw), .int x])).length) Slot.unset).toArray = ls at hl ⊢
  have hl : lv_has ls 3 [(0, .ref om), (1, .int (bI bw)), (2, .int x)] := hl
  have hiX6 : ∀ w ∈ u_ws RX6 TX6 21, w ∈ wsX6_bit := fun w h => by first | exact List.mem_cons_of_mem _ (List.mem_append_right _ h) | exact List.mem_cons_of_mem _ (List.mem_append_left _ (List.mem_append_right _ h)) | exact List.mem_cons_of_mem _ (List.mem_append_left _ (List.mem_append_left _ (List.mem_append_right _ h))) | exact List.mem_cons_of_mem _ (List.mem_append_left _ (List.mem_append_left _ (List.mem_append_left _ (List.mem_append_right _ h)))) | (revert w h; decide +kernel)
  have lk38 : (Cond.fieldLink RX6 38 "StripeSwipesModel" "thrown" "I").before _ s = true := hts _ (by decide +kernel)
  refine lv_aload_n hx hb dX6_bit_0 rfl (lv_at hl 0 rfl) ?_
  refine lv_iconst (v := nI 0) hx hb dX6_bit_1 (by decide) ?_
  refine va_put (D := D) (ci := 6) (v := .int (nI 0)) (ty := .int) (C := RX6) (T := TX6) (N := 21) hx hb hts hiX6 tyX6 tyX6_ok nmX6 hown hKv hP hD hS 0 rfl rfl 0 (by decide) lk38 (fun _ h9 => h9) rfl (by decide +kernel) rfl rfl (kk_le rfl) dX6_bit_2 (fun H locs hP hD hS => ?_)
  have hP : va_P D vwCl [(om, .inr (6, [.int (nI 0), .ref a1, .ref a2, .ref a3, .int sv, .ref a4, .ref a5, .ref a6, .int ln, .ref a7, .int bm, .int br, .int ck, .int sa, .ref a8, .int lm, .int rs, .int at_, .ref a9, .int tm, .long hs])), (a1, .inl (ca 0, 226, .inl (sF z r f j nt nl gl gt))), (a7, .inl (ca 0, 200, .inl fi)), (a8, .inl (ca 0, 40, .inl fe))] H := hP
  have hD : va_D A [(om, .inr (6, [.int (nI 0), .ref a1, .ref a2, .ref a3, .int sv, .ref a4, .ref a5, .ref a6, .int ln, .ref a7, .int bm, .int br, .int ck, .int sa, .ref a8, .int lm, .int rs, .int at_, .ref a9, .int tm, .long hs])), (a1, .inl (ca 0, 226, .inl (sF z r f j nt nl gl gt))), (a7, .inl (ca 0, 200, .inl fi)), (a8, .inl (ca 0, 40, .inl fe))] := hD
  refine lv_iload_n hx hb dX6_bit_5 rfl (lv_at hl 2 rfl) ?_
  refine lv_if_ge (tgt := 15) hx hb dX6_bit_6 (by decide) (fun c1 => ?_) (fun c1 => ?_)
  · exact absurd hbad (Int32.not_lt.mpr c1)
  · refine lv_aload_n hx hb dX6_bit_9 rfl (lv_at hl 0 rfl) ?_
    refine lv_iconst (v := nI 1) hx hb dX6_bit_10 (by decide) ?_
    have hPc := hP.sub (ws' := [(om, .inr (6, [.int (nI 0), .ref a1, .ref a2, .ref a3, .int sv, .ref a4, .ref a5, .ref a6, .int ln, .ref a7, .int bm, .int br, .int ck, .int sa, .ref a8, .int lm, .int rs, .int at_, .ref a9, .int tm, .long hs]))]) [0] rfl
    have hDc := hD.sub (ws' := [(om, .inr (6, [.int (nI 0), .ref a1, .ref a2, .ref a3, .int sv, .ref a4, .ref a5, .ref a6, .int ln, .ref a7, .int bm, .int br, .int ck, .int sa, .ref a8, .int lm, .int rs, .int at_, .ref a9, .int tm, .long hs]))]) [0] (by decide) rfl
    have hFc := va_free (wc := [(om, .inr (6, [.int (nI 0), .ref a1, .ref a2, .ref a3, .int sv, .ref a4, .ref a5, .ref a6, .int ln, .ref a7, .int bm, .int br, .int ck, .int sa, .ref a8, .int lm, .int rs, .int at_, .ref a9, .int tm, .long hs]))]) hD hS hA [0] rfl
    refine va_calli (va_runV (As := [.int (nI 1)]) (rest := []) ⟨hx, hb, hml, hown, hts⟩ (kX6_fails l D ca H.size om a1 a2 a3 a4 a5 a6 a7 a8 a9 (nI 0) sv ln bm br ck sa lm rs at_ tm hs (nI 1)) (cwV 1 hts gX6_bit_X6_fails rfl rfl rfl (by decide +kernel) ⟨kk_le rfl, kk_le rfl⟩) (pvM hK hPc (my_D_true hDc) (va_recv hKv hP (ci := 6) (q0 := 0) rfl rfl)) rfl rfl hl.1 rfl (lv_room (kk_le rfl)) dX6_bit_11 ⟨kk_le rfl, kk_le rfl⟩) hS (fun q _ h => hFc q h) hFc (fun r2 u t H1 locs ht hvm hwv hBv hz1 hk1 hS => ?_)
    obtain ⟨hP1, hD1⟩ := hBv
    rw [ht] at hP1
    have hP1 : va_P D vwCl [(om, .inr (6, [.int (nI 1), .ref a1, .ref a2, .ref a3, .int sv, .ref a4, .ref a5, .ref a6, .int ln, .ref a7, .int bm, .int br, .int ck, .int sa, .ref a8, .int lm, .int rs, .int at_, .ref a9, .int tm, .long hs]))] H1 := hP1
    have hD1 : va_D _ [(om, .inr (6, [.int (nI 1), .ref a1, .ref a2, .ref a3, .int sv, .ref a4, .ref a5, .ref a6, .int ln, .ref a7, .int bm, .int br, .int ck, .int sa, .ref a8, .int lm, .int rs, .int at_, .ref a9, .int tm, .long hs]))] := hD1
    obtain ⟨hr2, hw2⟩ := hwv
    subst hr2
    obtain ⟨hP, hD⟩ := va_join (wr := [(a1, .inl (ca 0, 226, .inl (sF z r f j nt nl gl gt))), (a7, .inl (ca 0, 200, .inl fi)), (a8, .inl (ca 0, 40, .inl fe))]) (w1 := [(om, .inr (6, [.int (nI 1), .ref a1, .ref a2, .ref a3, .int sv, .ref a4, .ref a5, .ref a6, .int ln, .ref a7, .int bm, .int br, .int ck, .int sa, .ref a8, .int lm, .int rs, .int at_, .ref a9, .int tm, .long hs]))]) hP hD [0] [1, 2, 3] rfl rfl (by decide) (by decide) hk1 hFc hP1 hD1
    generalize H1 = H at hP hS ⊢
    have hP := hP.sub (ws' := [(om, .inr (6, [.int (nI 1), .ref a1, .ref a2, .ref a3, .int sv, .ref a4, .ref a5, .ref a6, .int ln, .ref a7, .int bm, .int br, .int ck, .int sa, .ref a8, .int lm, .int rs, .int at_, .ref a9, .int tm, .long hs])), (a1, .inl (ca 0, 226, .inl (sF z r f j nt nl gl gt))), (a7, .inl (ca 0, 200, .inl fi)), (a8, .inl (ca 0, 40, .inl fe))]) [3, 0, 1, 2] rfl
    have hD := hD.sub (ws' := [(om, .inr (6, [.int (nI 1), .ref a1, .ref a2, .ref a3, .int sv, .ref a4, .ref a5, .ref a6, .int ln, .ref a7, .int bm, .int br, .int ck, .int sa, .ref a8, .int lm, .int rs, .int at_, .ref a9, .int tm, .long hs])), (a1, .inl (ca 0, 226, .inl (sF z r f j nt nl gl gt))), (a7, .inl (ca 0, 200, .inl fi)), (a8, .inl (ca 0, 40, .inl fe))]) [3, 0, 1, 2] (by decide) rfl
    exact W.iret (v := nI 0) hx hb hr (fun t ht hW => ⟨⟨_, (), rfl, ⟨by rfl, by trivial⟩, by rw [ht]; exact hP, hD⟩, hS.F ht⟩) hS.2.2 dX6_bit_14
abbrev rm_kX6_letter_ok : Room := { frames := 5, cells := 0, slots := 0, locals := 106 }
set_option maxHeartbeats 4000000 in
set_option maxRecDepth 100000 in
theorem kX6_letter_ok (l : Launch) (D : va_G) (ca : Nat → ClassId) (sz : Nat) (om a1 a2 a3 a4 a5 a6 a7 a8 a9 : Nat) (thr sv ln bm br ck sa lm rs at_ tm : Int32) (hs : Int64) (z : Nat) (r f j : Int32) (nt nl : Nat) (gl gt : Nat → Int32) (fi fe : Nat → Int32) (bw : Bool) (q : Nat) (hnt : nt ≤ 200) (hnl : nl ≤ 20) (hz : z ≤ 30) (hq : q < 2147483648) : Met l yX6_letter wsX6_letter rm_kX6_letter_ok (pcM D ca [.ref om, .int (bI bw), .int (nI q)] [(om, .inr (6, [.int thr, .ref a1, .ref a2, .ref a3, .int sv, .ref a4, .ref a5, .ref a6, .int ln, .ref a7, .int bm, .int br, .int ck, .int sa, .ref a8, .int lm, .int rs, .int at_, .ref a9, .int tm, .long hs])), (a1, .inl (ca 0, 226, .inl (sF z r f j nt nl gl gt))), (a7, .inl (ca 0, 200, .inl fi)), (a8, .inl (ca 0, 40, .inl fe))] sz) (va_Qi (fun (zr : Int32) (u : Unit) => zr = (ltB (bitsT r f (lst (twF bw gt nt) nt))).getD q (-1) ∧ True) (qB D (va_A [(om, .inr (6, [.int thr, .ref a1, .ref a2, .ref a3, .int sv, .ref a4, .ref a5, .ref a6, .int ln, .ref a7, .int bm, .int br, .int ck, .int sa, .ref a8, .int lm, .int rs, .int at_, .ref a9, .int tm, .long hs])), (a1, .inl (ca 0, 226, .inl (sF z r f j nt nl gl gt))), (a7, .inl (ca 0, 200, .inl fi)), (a8, .inl (ca 0, 40, .inl fe))] sz) (fun u : Unit => [(om, .inr (6, [.int (nI 0), .ref a1, .ref a2, .ref a3, .int sv, .ref a4, .ref a5, .ref a6, .int ln, .ref a7, .int (nI ((bitsT r f (lst (twF bw gt nt) nt)).length)), .int (bI (!(rdT r f (lst (twF bw gt nt) nt)).2.2)), .int (clkT r f (lst (twF bw gt nt) nt)), .int (stB (bitsT r f (lst (twF bw gt nt) nt))), .ref a8, .int (nI ((ltB (bitsT r f (lst (twF bw gt nt) nt))).length)), .int (rsT r f (lst (twF bw gt nt) nt)), .int at_, .ref a9, .int tm, .long hs])), (a1, .inl (ca 0, 226, .inl (sF z r f j nt nl gl gt))), (a7, .inl (ca 0, 200, .inl (apF fi 0 (bitsT r f (lst (twF bw gt nt) nt))))), (a8, .inl (ca 0, 40, .inl (apF fe 0 (ltB (bitsT r f (lst (twF bw gt nt) nt))))))])) (va_A [(om, .inr (6, [.int thr, .ref a1, .ref a2, .ref a3, .int sv, .ref a4, .ref a5, .ref a6, .int ln, .ref a7, .int bm, .int br, .int ck, .int sa, .ref a8, .int lm, .int rs, .int at_, .ref a9, .int tm, .long hs])), (a1, .inl (ca 0, 226, .inl (sF z r f j nt nl gl gt))), (a7, .inl (ca 0, 200, .inl fi)), (a8, .inl (ca 0, 40, .inl fe))] sz)) 0 0 (va_A [(om, .inr (6, [.int thr, .ref a1, .ref a2, .ref a3, .int sv, .ref a4, .ref a5, .ref a6, .int ln, .ref a7, .int bm, .int br, .int ck, .int sa, .ref a8, .int lm, .int rs, .int at_, .ref a9, .int tm, .long hs])), (a1, .inl (ca 0, 226, .inl (sF z r f j nt nl gl gt))), (a7, .inl (ca 0, 200, .inl fi)), (a8, .inl (ca 0, 40, .inl fe))] sz) := by
  refine Met.ofW (cc := cX6_letter) (maxL := 3) (ret := (some .int)) (by decide) rfl ?_
  intro p e s m args below meth c s₁ B hml hv
  obtain ⟨rfl, hsz, hP, hK, hD0⟩ := hv
  have hx := B.exec
  have hb := B.bytes
  have hr := B.returns
  have hts := atoms_spec (ws := wsX6_letter) B.pre
  have hown : s.vm.findClass RX6 = some m.cls := findClass_of_methodNamed B.named
  have hlocks := B.notSynchronized
  subst hsz
  have hD := hD0.self (sz := s.heap.size)
  generalize hAe : va_A [(om, .inr (6, [.int thr, .ref a1, .ref a2, .ref a3, .int sv, .ref a4, .ref a5, .ref a6, .int ln, .ref a7, .int bm, .int br, .int ck, .int sa, .ref a8, .int lm, .int rs, .int at_, .ref a9, .int tm, .long hs])), (a1, .inl (ca 0, 226, .inl (sF z r f j nt nl gl gt))), (a7, .inl (ca 0, 200, .inl fi)), (a8, .inl (ca 0, 40, .inl fe))] s.heap.size = A at hD ⊢
  have hA : ∀ q : Nat, s.heap.size ≤ q → A q := fun q h => by rw [← hAe]; exact Or.inr h
  have hS : va_S A s.heap s.heap [] := va_S.rf
  have hP : va_P D vwCl [(om, .inr (6, [.int thr, .ref a1, .ref a2, .ref a3, .int sv, .ref a4, .ref a5, .ref a6, .int ln, .ref a7, .int bm, .int br, .int ck, .int sa, .ref a8, .int lm, .int rs, .int at_, .ref a9, .int tm, .long hs])), (a1, .inl (ca 0, 226, .inl (sF z r f j nt nl gl gt))), (a7, .inl (ca 0, 200, .inl fi)), (a8, .inl (ca 0, 40, .inl fe))] s.heap := hP
  have hKv := hK.1
  have hl := lv_entry ([.ref om, .int (bI bw), .int (nI q)]) (n := 3) (kk_le rfl)
  rw [lg_entry_eq]
  generalize (lg_sl ([.ref om, .int (bI bw), .int (nI q)]) ++ List.replicate (3 - (lg_sl ([.ref om, .int (bI bw), .int (nI q)])).length) Slot.unset).toArray = ls at hl ⊢
  have hl : lv_has ls 3 [(0, .ref om), (1, .int (bI bw)), (2, .int (nI q))] := hl
  have hBl : (bitsT r f (lst (twF bw gt nt) nt)).length ≤ nt := rdT_len r f (twF bw gt nt) nt
  have hlb := ltB_len (bitsT r f (lst (twF bw gt nt) nt)) (by omega)
  have hiX6 : ∀ w ∈ u_ws RX6 TX6 21, w ∈ wsX6_letter := fun w h => by first | exact List.mem_cons_of_mem _ (List.mem_append_right _ h) | exact List.mem_cons_of_mem _ (List.mem_append_left _ (List.mem_append_right _ h)) | exact List.mem_cons_of_mem _ (List.mem_append_left _ (List.mem_append_left _ (List.mem_append_right _ h))) | exact List.mem_cons_of_mem _ (List.mem_append_left _ (List.mem_append_left _ (List.mem_append_left _ (List.mem_append_right _ h)))) | (revert w h; decide +kernel)
  have lk38 : (Cond.fieldLink RX6 38 "StripeSwipesModel" "thrown" "I").before _ s = true := hts _ (by decide +kernel)
  have lk102 : (Cond.fieldLink RX6 102 "StripeSwipesModel" "letterMany" "I").before _ s = true := hts _ (by decide +kernel)
  have lk32 : (Cond.fieldLink RX6 32 "StripeSwipesModel" "letters" "[I").before _ s = true := hts _ (by decide +kernel)
  refine lv_aload_n hx hb dX6_letter_0 rfl (lv_at hl 0 rfl) ?_
  refine lv_iconst (v := nI 0) hx hb dX6_letter_1 (by decide) ?_
  refine va_put (D := D) (ci := 6) (v := .int (nI 0)) (ty := .int) (C := RX6) (T := TX6) (N := 21) hx hb hts hiX6 tyX6 tyX6_ok nmX6 hown hKv hP hD hS 0 rfl rfl 0 (by decide) lk38 (fun _ h9 => h9) rfl (by decide +kernel) rfl rfl (kk_le rfl) dX6_letter_2 (fun H locs hP hD hS => ?_)
  have hP : va_P D vwCl [(om, .inr (6, [.int (nI 0), .ref a1, .ref a2, .ref a3, .int sv, .ref a4, .ref a5, .ref a6, .int ln, .ref a7, .int bm, .int br, .int ck, .int sa, .ref a8, .int lm, .int rs, .int at_, .ref a9, .int tm, .long hs])), (a1, .inl (ca 0, 226, .inl (sF z r f j nt nl gl gt))), (a7, .inl (ca 0, 200, .inl fi)), (a8, .inl (ca 0, 40, .inl fe))] H := hP
  have hD : va_D A [(om, .inr (6, [.int (nI 0), .ref a1, .ref a2, .ref a3, .int sv, .ref a4, .ref a5, .ref a6, .int ln, .ref a7, .int bm, .int br, .int ck, .int sa, .ref a8, .int lm, .int rs, .int at_, .ref a9, .int tm, .long hs])), (a1, .inl (ca 0, 226, .inl (sF z r f j nt nl gl gt))), (a7, .inl (ca 0, 200, .inl fi)), (a8, .inl (ca 0, 40, .inl fe))] := hD
  refine lv_iload_n hx hb dX6_letter_5 rfl (lv_at hl 2 rfl) ?_
  refine ni_if_ge (tgt := 15) (by omega) hx hb dX6_letter_6 (by decide) (fun c1 => ?_) (fun c1 => ?_)
  · refine lv_aload_n hx hb dX6_letter_15 rfl (lv_at hl 0 rfl) ?_
    refine lv_iload_n hx hb dX6_letter_16 rfl (lv_at hl 1 rfl) ?_
    have hPc := hP
    have hDc := hD
    have hFc := va_free (wc := [(om, .inr (6, [.int (nI 0), .ref a1, .ref a2, .ref a3, .int sv, .ref a4, .ref a5, .ref a6, .int ln, .ref a7, .int bm, .int br, .int ck, .int sa, .ref a8, .int lm, .int rs, .int at_, .ref a9, .int tm, .long hs])), (a1, .inl (ca 0, 226, .inl (sF z r f j nt nl gl gt))), (a7, .inl (ca 0, 200, .inl fi)), (a8, .inl (ca 0, 40, .inl fe))]) hD hS hA [0, 1, 2, 3] rfl
    refine va_callv (va_runV (As := [.int (bI bw)]) (rest := []) ⟨hx, hb, hml, hown, hts⟩ (kX6_laysReading l D ca H.size om a1 a2 a3 a4 a5 a6 a7 a8 a9 (nI 0) sv ln bm br ck sa lm rs at_ tm hs z r f j nt nl gl gt fi fe bw (by first | rfl | assumption | omega | trivial | (exfalso; omega)) (by first | rfl | assumption | omega | trivial | (exfalso; omega)) (by first | rfl | assumption | omega | trivial | (exfalso; omega))) (cwV 1 hts gX6_letter_X6_laysReading rfl rfl rfl (by decide +kernel) ⟨kk_le rfl, kk_le rfl⟩) (pvM hK hPc (my_D_true hDc) (va_recv hKv hP (ci := 6) (q0 := 0) rfl rfl)) rfl rfl hl.1 rfl (lv_room (kk_le rfl)) dX6_letter_17 ⟨kk_le rfl, kk_le rfl⟩) hS (fun q _ h => hFc q h) hFc (fun u t H1 locs ht hvm hwv hBv hz1 hk1 hS => ?_)
    obtain ⟨hP1, hD1⟩ := hBv
    rw [ht] at hP1
    have hP1 : va_P D vwCl [(om, .inr (6, [.int (nI 0), .ref a1, .ref a2, .ref a3, .int sv, .ref a4, .ref a5, .ref a6, .int ln, .ref a7, .int (nI ((bitsT r f (lst (twF bw gt nt) nt)).length)), .int (bI (!(rdT r f (lst (twF bw gt nt) nt)).2.2)), .int (clkT r f (lst (twF bw gt nt) nt)), .int (stB (bitsT r f (lst (twF bw gt nt) nt))), .ref a8, .int (nI ((ltB (bitsT r f (lst (twF bw gt nt) nt))).length)), .int (rsT r f (lst (twF bw gt nt) nt)), .int at_, .ref a9, .int tm, .long hs])), (a1, .inl (ca 0, 226, .inl (sF z r f j nt nl gl gt))), (a7, .inl (ca 0, 200, .inl (apF fi 0 (bitsT r f (lst (twF bw gt nt) nt))))), (a8, .inl (ca 0, 40, .inl (apF fe 0 (ltB (bitsT r f (lst (twF bw gt nt) nt))))))] H1 := hP1
    have hD1 : va_D _ [(om, .inr (6, [.int (nI 0), .ref a1, .ref a2, .ref a3, .int sv, .ref a4, .ref a5, .ref a6, .int ln, .ref a7, .int (nI ((bitsT r f (lst (twF bw gt nt) nt)).length)), .int (bI (!(rdT r f (lst (twF bw gt nt) nt)).2.2)), .int (clkT r f (lst (twF bw gt nt) nt)), .int (stB (bitsT r f (lst (twF bw gt nt) nt))), .ref a8, .int (nI ((ltB (bitsT r f (lst (twF bw gt nt) nt))).length)), .int (rsT r f (lst (twF bw gt nt) nt)), .int at_, .ref a9, .int tm, .long hs])), (a1, .inl (ca 0, 226, .inl (sF z r f j nt nl gl gt))), (a7, .inl (ca 0, 200, .inl (apF fi 0 (bitsT r f (lst (twF bw gt nt) nt))))), (a8, .inl (ca 0, 40, .inl (apF fe 0 (ltB (bitsT r f (lst (twF bw gt nt) nt))))))] := hD1
    have hw2 := hwv
    have hP := hP1
    have hD := hD1.weaken (fun _ _ _ h => hFc _ h)
    generalize H1 = H at hP hS ⊢
    have hP : va_P D vwCl [(om, .inr (6, [.int (nI 0), .ref a1, .ref a2, .ref a3, .int sv, .ref a4, .ref a5, .ref a6, .int ln, .ref a7, .int (nI ((bitsT r f (lst (twF bw gt nt) nt)).length)), .int (bI (!(rdT r f (lst (twF bw gt nt) nt)).2.2)), .int (clkT r f (lst (twF bw gt nt) nt)), .int (stB (bitsT r f (lst (twF bw gt nt) nt))), .ref a8, .int (nI ((ltB (bitsT r f (lst (twF bw gt nt) nt))).length)), .int (rsT r f (lst (twF bw gt nt) nt)), .int at_, .ref a9, .int tm, .long hs])), (a1, .inl (ca 0, 226, .inl (sF z r f j nt nl gl gt))), (a7, .inl (ca 0, 200, .inl (apF fi 0 (bitsT r f (lst (twF bw gt nt) nt))))), (a8, .inl (ca 0, 40, .inl (apF fe 0 (ltB (bitsT r f (lst (twF bw gt nt) nt))))))] H := hP
    have hD : va_D A [(om, .inr (6, [.int (nI 0), .ref a1, .ref a2, .ref a3, .int sv, .ref a4, .ref a5, .ref a6, .int ln, .ref a7, .int (nI ((bitsT r f (lst (twF bw gt nt) nt)).length)), .int (bI (!(rdT r f (lst (twF bw gt nt) nt)).2.2)), .int (clkT r f (lst (twF bw gt nt) nt)), .int (stB (bitsT r f (lst (twF bw gt nt) nt))), .ref a8, .int (nI ((ltB (bitsT r f (lst (twF bw gt nt) nt))).length)), .int (rsT r f (lst (twF bw gt nt) nt)), .int at_, .ref a9, .int tm, .long hs])), (a1, .inl (ca 0, 226, .inl (sF z r f j nt nl gl gt))), (a7, .inl (ca 0, 200, .inl (apF fi 0 (bitsT r f (lst (twF bw gt nt) nt))))), (a8, .inl (ca 0, 40, .inl (apF fe 0 (ltB (bitsT r f (lst (twF bw gt nt) nt))))))] := hD
    refine lv_iload_n hx hb dX6_letter_20 rfl (lv_at hl 2 rfl) ?_
    refine lv_aload_n hx hb dX6_letter_21 rfl (lv_at hl 0 rfl) ?_
    refine va_get (D := D) (ci := 6) (C := RX6) (T := TX6) (N := 21) hx hb hts hiX6 hown hKv hP 0 rfl rfl 15 (by decide) lk102 (fun _ h9 => h9) rfl dX6_letter_22 ?_
    refine ni_icmp_ge (tgt := 37) (by omega) (by omega) hx hb dX6_letter_25 (by decide) (fun c4 => ?_) (fun c4 => ?_)
    · refine lv_iconst (v := (-1)) hx hb dX6_letter_37 (by decide) ?_
      exact W.iret (v := (-1)) hx hb hr (fun t ht hW => ⟨⟨_, (), rfl, ⟨by first | exact gd_in fe (ltB (bitsT r f (lst (twF bw gt nt) nt))) (by omega) | exact gd_out (ltB (bitsT r f (lst (twF bw gt nt) nt))) (by omega), by trivial⟩, by rw [ht]; exact hP, hD⟩, hS.F ht⟩) hS.2.2 dX6_letter_38
    · refine lv_aload_n hx hb dX6_letter_28 rfl (lv_at hl 0 rfl) ?_
      refine va_get (D := D) (ci := 6) (C := RX6) (T := TX6) (N := 21) hx hb hts hiX6 hown hKv hP 0 rfl rfl 14 (by decide) lk32 (fun _ h9 => h9) rfl dX6_letter_29 ?_
      refine lv_iload_n hx hb dX6_letter_32 rfl (lv_at hl 2 rfl) ?_
      refine my_iald hx hb hK hP 3 rfl (by omega) (by omega) dX6_letter_33 ?_
      refine lv_goto (tgt := 38) hx hb dX6_letter_34 (by decide) ?_
      exact W.iret (v := (apF fe 0 (ltB (bitsT r f (lst (twF bw gt nt) nt)))) q) hx hb hr (fun t ht hW => ⟨⟨_, (), rfl, ⟨by first | exact gd_in fe (ltB (bitsT r f (lst (twF bw gt nt) nt))) (by omega) | exact gd_out (ltB (bitsT r f (lst (twF bw gt nt) nt))) (by omega), by trivial⟩, by rw [ht]; exact hP, hD⟩, hS.F ht⟩) hS.2.2 dX6_letter_38
  · exact c1.elim
abbrev rm_kX6_letter_bad : Room := { frames := 1, cells := 0, slots := 0, locals := 21 }
set_option maxHeartbeats 4000000 in
set_option maxRecDepth 100000 in
theorem kX6_letter_bad (l : Launch) (D : va_G) (ca : Nat → ClassId) (sz : Nat) (om a1 a2 a3 a4 a5 a6 a7 a8 a9 : Nat) (thr sv ln bm br ck sa lm rs at_ tm : Int32) (hs : Int64) (z : Nat) (r f j : Int32) (nt nl : Nat) (gl gt : Nat → Int32) (fi fe : Nat → Int32) (bw : Bool) (x : Int32) (hnt : nt ≤ 200) (hnl : nl ≤ 20) (hz : z ≤ 30) (hbad : x < 0) : Met l yX6_letter wsX6_letter rm_kX6_letter_bad (pcM D ca [.ref om, .int (bI bw), .int x] [(om, .inr (6, [.int thr, .ref a1, .ref a2, .ref a3, .int sv, .ref a4, .ref a5, .ref a6, .int ln, .ref a7, .int bm, .int br, .int ck, .int sa, .ref a8, .int lm, .int rs, .int at_, .ref a9, .int tm, .long hs])), (a1, .inl (ca 0, 226, .inl (sF z r f j nt nl gl gt))), (a7, .inl (ca 0, 200, .inl fi)), (a8, .inl (ca 0, 40, .inl fe))] sz) (va_Qi (fun (zr : Int32) (u : Unit) => zr = nI 0 ∧ True) (qB D (va_A [(om, .inr (6, [.int thr, .ref a1, .ref a2, .ref a3, .int sv, .ref a4, .ref a5, .ref a6, .int ln, .ref a7, .int bm, .int br, .int ck, .int sa, .ref a8, .int lm, .int rs, .int at_, .ref a9, .int tm, .long hs])), (a1, .inl (ca 0, 226, .inl (sF z r f j nt nl gl gt))), (a7, .inl (ca 0, 200, .inl fi)), (a8, .inl (ca 0, 40, .inl fe))] sz) (fun u : Unit => [(om, .inr (6, [.int (nI 1), .ref a1, .ref a2, .ref a3, .int sv, .ref a4, .ref a5, .ref a6, .int ln, .ref a7, .int bm, .int br, .int ck, .int sa, .ref a8, .int lm, .int rs, .int at_, .ref a9, .int tm, .long hs])), (a1, .inl (ca 0, 226, .inl (sF z r f j nt nl gl gt))), (a7, .inl (ca 0, 200, .inl fi)), (a8, .inl (ca 0, 40, .inl fe))])) (va_A [(om, .inr (6, [.int thr, .ref a1, .ref a2, .ref a3, .int sv, .ref a4, .ref a5, .ref a6, .int ln, .ref a7, .int bm, .int br, .int ck, .int sa, .ref a8, .int lm, .int rs, .int at_, .ref a9, .int tm, .long hs])), (a1, .inl (ca 0, 226, .inl (sF z r f j nt nl gl gt))), (a7, .inl (ca 0, 200, .inl fi)), (a8, .inl (ca 0, 40, .inl fe))] sz)) 0 0 (va_A [(om, .inr (6, [.int thr, .ref a1, .ref a2, .ref a3, .int sv, .ref a4, .ref a5, .ref a6, .int ln, .ref a7, .int bm, .int br, .int ck, .int sa, .ref a8, .int lm, .int rs, .int at_, .ref a9, .int tm, .long hs])), (a1, .inl (ca 0, 226, .inl (sF z r f j nt nl gl gt))), (a7, .inl (ca 0, 200, .inl fi)), (a8, .inl (ca 0, 40, .inl fe))] sz) := by
  refine Met.ofW (cc := cX6_letter) (maxL := 3) (ret := (some .int)) (by decide) rfl ?_
  intro p e s m args below meth c s₁ B hml hv
  obtain ⟨rfl, hsz, hP, hK, hD0⟩ := hv
  have hx := B.exec
  have hb := B.bytes
  have hr := B.returns
  have hts := atoms_spec (ws := wsX6_letter) B.pre
  have hown : s.vm.findClass RX6 = some m.cls := findClass_of_methodNamed B.named
  have hlocks := B.notSynchronized
  subst hsz
  have hD := hD0.self (sz := s.heap.size)
  generalize hAe : va_A [(om, .inr (6, [.int thr, .ref a1, .ref a2, .ref a3, .int sv, .ref a4, .ref a5, .ref a6, .int ln, .ref a7, .int bm, .int br, .int ck, .int sa, .ref a8, .int lm, .int rs, .int at_, .ref a9, .int tm, .long hs])), (a1, .inl (ca 0, 226, .inl (sF z r f j nt nl gl gt))), (a7, .inl (ca 0, 200, .inl fi)), (a8, .inl (ca 0, 40, .inl fe))] s.heap.size = A at hD ⊢
  have hA : ∀ q : Nat, s.heap.size ≤ q → A q := fun q h => by rw [← hAe]; exact Or.inr h
  have hS : va_S A s.heap s.heap [] := va_S.rf
  have hP : va_P D vwCl [(om, .inr (6, [.int thr, .ref a1, .ref a2, .ref a3, .int sv, .ref a4, .ref a5, .ref a6, .int ln, .ref a7, .int bm, .int br, .int ck, .int sa, .ref a8, .int lm, .int rs, .int at_, .ref a9, .int tm, .long hs])), (a1, .inl (ca 0, 226, .inl (sF z r f j nt nl gl gt))), (a7, .inl (ca 0, 200, .inl fi)), (a8, .inl (ca 0, 40, .inl fe))] s.heap := hP
  have hKv := hK.1
  have hl := lv_entry ([.ref om, .int (bI bw), .int x]) (n := 3) (kk_le rfl)
  rw [lg_entry_eq]
  generalize (lg_sl ([.ref om, .int (bI bw), .int x]) ++ List.replicate (3 - (lg_sl ([.ref om, .int (bI bw), .int x])).length) Slot.unset).toArray = ls at hl ⊢
  have hl : lv_has ls 3 [(0, .ref om), (1, .int (bI bw)), (2, .int x)] := hl
  have hiX6 : ∀ w ∈ u_ws RX6 TX6 21, w ∈ wsX6_letter := fun w h => by first | exact List.mem_cons_of_mem _ (List.mem_append_right _ h) | exact List.mem_cons_of_mem _ (List.mem_append_left _ (List.mem_append_right _ h)) | exact List.mem_cons_of_mem _ (List.mem_append_left _ (List.mem_append_left _ (List.mem_append_right _ h))) | exact List.mem_cons_of_mem _ (List.mem_append_left _ (List.mem_append_left _ (List.mem_append_left _ (List.mem_append_right _ h)))) | (revert w h; decide +kernel)
  have lk38 : (Cond.fieldLink RX6 38 "StripeSwipesModel" "thrown" "I").before _ s = true := hts _ (by decide +kernel)
  refine lv_aload_n hx hb dX6_letter_0 rfl (lv_at hl 0 rfl) ?_
  refine lv_iconst (v := nI 0) hx hb dX6_letter_1 (by decide) ?_
  refine va_put (D := D) (ci := 6) (v := .int (nI 0)) (ty := .int) (C := RX6) (T := TX6) (N := 21) hx hb hts hiX6 tyX6 tyX6_ok nmX6 hown hKv hP hD hS 0 rfl rfl 0 (by decide) lk38 (fun _ h9 => h9) rfl (by decide +kernel) rfl rfl (kk_le rfl) dX6_letter_2 (fun H locs hP hD hS => ?_)
  have hP : va_P D vwCl [(om, .inr (6, [.int (nI 0), .ref a1, .ref a2, .ref a3, .int sv, .ref a4, .ref a5, .ref a6, .int ln, .ref a7, .int bm, .int br, .int ck, .int sa, .ref a8, .int lm, .int rs, .int at_, .ref a9, .int tm, .long hs])), (a1, .inl (ca 0, 226, .inl (sF z r f j nt nl gl gt))), (a7, .inl (ca 0, 200, .inl fi)), (a8, .inl (ca 0, 40, .inl fe))] H := hP
  have hD : va_D A [(om, .inr (6, [.int (nI 0), .ref a1, .ref a2, .ref a3, .int sv, .ref a4, .ref a5, .ref a6, .int ln, .ref a7, .int bm, .int br, .int ck, .int sa, .ref a8, .int lm, .int rs, .int at_, .ref a9, .int tm, .long hs])), (a1, .inl (ca 0, 226, .inl (sF z r f j nt nl gl gt))), (a7, .inl (ca 0, 200, .inl fi)), (a8, .inl (ca 0, 40, .inl fe))] := hD
  refine lv_iload_n hx hb dX6_letter_5 rfl (lv_at hl 2 rfl) ?_
  refine lv_if_ge (tgt := 15) hx hb dX6_letter_6 (by decide) (fun c1 => ?_) (fun c1 => ?_)
  · exact absurd hbad (Int32.not_lt.mpr c1)
  · refine lv_aload_n hx hb dX6_letter_9 rfl (lv_at hl 0 rfl) ?_
    refine lv_iconst (v := nI 1) hx hb dX6_letter_10 (by decide) ?_
    have hPc := hP.sub (ws' := [(om, .inr (6, [.int (nI 0), .ref a1, .ref a2, .ref a3, .int sv, .ref a4, .ref a5, .ref a6, .int ln, .ref a7, .int bm, .int br, .int ck, .int sa, .ref a8, .int lm, .int rs, .int at_, .ref a9, .int tm, .long hs]))]) [0] rfl
    have hDc := hD.sub (ws' := [(om, .inr (6, [.int (nI 0), .ref a1, .ref a2, .ref a3, .int sv, .ref a4, .ref a5, .ref a6, .int ln, .ref a7, .int bm, .int br, .int ck, .int sa, .ref a8, .int lm, .int rs, .int at_, .ref a9, .int tm, .long hs]))]) [0] (by decide) rfl
    have hFc := va_free (wc := [(om, .inr (6, [.int (nI 0), .ref a1, .ref a2, .ref a3, .int sv, .ref a4, .ref a5, .ref a6, .int ln, .ref a7, .int bm, .int br, .int ck, .int sa, .ref a8, .int lm, .int rs, .int at_, .ref a9, .int tm, .long hs]))]) hD hS hA [0] rfl
    refine va_calli (va_runV (As := [.int (nI 1)]) (rest := []) ⟨hx, hb, hml, hown, hts⟩ (kX6_fails l D ca H.size om a1 a2 a3 a4 a5 a6 a7 a8 a9 (nI 0) sv ln bm br ck sa lm rs at_ tm hs (nI 1)) (cwV 1 hts gX6_letter_X6_fails rfl rfl rfl (by decide +kernel) ⟨kk_le rfl, kk_le rfl⟩) (pvM hK hPc (my_D_true hDc) (va_recv hKv hP (ci := 6) (q0 := 0) rfl rfl)) rfl rfl hl.1 rfl (lv_room (kk_le rfl)) dX6_letter_11 ⟨kk_le rfl, kk_le rfl⟩) hS (fun q _ h => hFc q h) hFc (fun r2 u t H1 locs ht hvm hwv hBv hz1 hk1 hS => ?_)
    obtain ⟨hP1, hD1⟩ := hBv
    rw [ht] at hP1
    have hP1 : va_P D vwCl [(om, .inr (6, [.int (nI 1), .ref a1, .ref a2, .ref a3, .int sv, .ref a4, .ref a5, .ref a6, .int ln, .ref a7, .int bm, .int br, .int ck, .int sa, .ref a8, .int lm, .int rs, .int at_, .ref a9, .int tm, .long hs]))] H1 := hP1
    have hD1 : va_D _ [(om, .inr (6, [.int (nI 1), .ref a1, .ref a2, .ref a3, .int sv, .ref a4, .ref a5, .ref a6, .int ln, .ref a7, .int bm, .int br, .int ck, .int sa, .ref a8, .int lm, .int rs, .int at_, .ref a9, .int tm, .long hs]))] := hD1
    obtain ⟨hr2, hw2⟩ := hwv
    subst hr2
    obtain ⟨hP, hD⟩ := va_join (wr := [(a1, .inl (ca 0, 226, .inl (sF z r f j nt nl gl gt))), (a7, .inl (ca 0, 200, .inl fi)), (a8, .inl (ca 0, 40, .inl fe))]) (w1 := [(om, .inr (6, [.int (nI 1), .ref a1, .ref a2, .ref a3, .int sv, .ref a4, .ref a5, .ref a6, .int ln, .ref a7, .int bm, .int br, .int ck, .int sa, .ref a8, .int lm, .int rs, .int at_, .ref a9, .int tm, .long hs]))]) hP hD [0] [1, 2, 3] rfl rfl (by decide) (by decide) hk1 hFc hP1 hD1
    generalize H1 = H at hP hS ⊢
    have hP := hP.sub (ws' := [(om, .inr (6, [.int (nI 1), .ref a1, .ref a2, .ref a3, .int sv, .ref a4, .ref a5, .ref a6, .int ln, .ref a7, .int bm, .int br, .int ck, .int sa, .ref a8, .int lm, .int rs, .int at_, .ref a9, .int tm, .long hs])), (a1, .inl (ca 0, 226, .inl (sF z r f j nt nl gl gt))), (a7, .inl (ca 0, 200, .inl fi)), (a8, .inl (ca 0, 40, .inl fe))]) [3, 0, 1, 2] rfl
    have hD := hD.sub (ws' := [(om, .inr (6, [.int (nI 1), .ref a1, .ref a2, .ref a3, .int sv, .ref a4, .ref a5, .ref a6, .int ln, .ref a7, .int bm, .int br, .int ck, .int sa, .ref a8, .int lm, .int rs, .int at_, .ref a9, .int tm, .long hs])), (a1, .inl (ca 0, 226, .inl (sF z r f j nt nl gl gt))), (a7, .inl (ca 0, 200, .inl fi)), (a8, .inl (ca 0, 40, .inl fe))]) [3, 0, 1, 2] (by decide) rfl
    exact W.iret (v := nI 0) hx hb hr (fun t ht hW => ⟨⟨_, (), rfl, ⟨by rfl, by trivial⟩, by rw [ht]; exact hP, hD⟩, hS.F ht⟩) hS.2.2 dX6_letter_14
abbrev rm_kX6_count_ok : Room := { frames := 2, cells := 0, slots := 0, locals := 47 }
set_option maxHeartbeats 4000000 in
set_option maxRecDepth 100000 in
theorem kX6_count_ok (l : Launch) (D : va_G) (ca : Nat → ClassId) (sz : Nat) (om a1 a2 a3 a4 a5 a6 a7 a8 a9 : Nat) (thr ln bm br ck sa lm rs at_ tm : Int32) (hs : Int64) (sv : Nat) (z : Nat) (r f j : Int32) (nt nl : Nat) (gl gt : Nat → Int32) (q : Nat) (hnt : nt ≤ 200) (hnl : nl ≤ 20) (hz : z ≤ 30) (hq : q < 7) (hpos : ∀ k, k < nt → ¬ gt k < nI 0) : Met l yX6_count wsX6_count rm_kX6_count_ok (pcM D ca [.ref om, .int (nI q)] [(om, .inr (6, [.int thr, .ref a1, .ref a2, .ref a3, .int (nI sv), .ref a4, .ref a5, .ref a6, .int ln, .ref a7, .int bm, .int br, .int ck, .int sa, .ref a8, .int lm, .int rs, .int at_, .ref a9, .int tm, .long hs])), (a1, .inl (ca 0, 226, .inl (sF z r f j nt nl gl gt)))] sz) (va_Qi (fun (zr : Int32) (u : Unit) => zr = cntT q (lst gt nt) (lst gl nl) sv ∧ True) (qB D (va_A [(om, .inr (6, [.int thr, .ref a1, .ref a2, .ref a3, .int (nI sv), .ref a4, .ref a5, .ref a6, .int ln, .ref a7, .int bm, .int br, .int ck, .int sa, .ref a8, .int lm, .int rs, .int at_, .ref a9, .int tm, .long hs])), (a1, .inl (ca 0, 226, .inl (sF z r f j nt nl gl gt)))] sz) (fun u : Unit => [(om, .inr (6, [.int (nI 0), .ref a1, .ref a2, .ref a3, .int (nI sv), .ref a4, .ref a5, .ref a6, .int ln, .ref a7, .int bm, .int br, .int ck, .int sa, .ref a8, .int lm, .int rs, .int at_, .ref a9, .int tm, .long hs])), (a1, .inl (ca 0, 226, .inl (sF z r f j nt nl gl gt)))])) (va_A [(om, .inr (6, [.int thr, .ref a1, .ref a2, .ref a3, .int (nI sv), .ref a4, .ref a5, .ref a6, .int ln, .ref a7, .int bm, .int br, .int ck, .int sa, .ref a8, .int lm, .int rs, .int at_, .ref a9, .int tm, .long hs])), (a1, .inl (ca 0, 226, .inl (sF z r f j nt nl gl gt)))] sz)) 0 0 (va_A [(om, .inr (6, [.int thr, .ref a1, .ref a2, .ref a3, .int (nI sv), .ref a4, .ref a5, .ref a6, .int ln, .ref a7, .int bm, .int br, .int ck, .int sa, .ref a8, .int lm, .int rs, .int at_, .ref a9, .int tm, .long hs])), (a1, .inl (ca 0, 226, .inl (sF z r f j nt nl gl gt)))] sz) := by
  refine Met.ofW (cc := cX6_count) (maxL := 2) (ret := (some .int)) (by decide) rfl ?_
  intro p e s m args below meth c s₁ B hml hv
  obtain ⟨rfl, hsz, hP, hK, hD0⟩ := hv
  have hx := B.exec
  have hb := B.bytes
  have hr := B.returns
  have hts := atoms_spec (ws := wsX6_count) B.pre
  have hown : s.vm.findClass RX6 = some m.cls := findClass_of_methodNamed B.named
  have hlocks := B.notSynchronized
  subst hsz
  have hD := hD0.self (sz := s.heap.size)
  generalize hAe : va_A [(om, .inr (6, [.int thr, .ref a1, .ref a2, .ref a3, .int (nI sv), .ref a4, .ref a5, .ref a6, .int ln, .ref a7, .int bm, .int br, .int ck, .int sa, .ref a8, .int lm, .int rs, .int at_, .ref a9, .int tm, .long hs])), (a1, .inl (ca 0, 226, .inl (sF z r f j nt nl gl gt)))] s.heap.size = A at hD ⊢
  have hA : ∀ q : Nat, s.heap.size ≤ q → A q := fun q h => by rw [← hAe]; exact Or.inr h
  have hS : va_S A s.heap s.heap [] := va_S.rf
  have hP : va_P D vwCl [(om, .inr (6, [.int thr, .ref a1, .ref a2, .ref a3, .int (nI sv), .ref a4, .ref a5, .ref a6, .int ln, .ref a7, .int bm, .int br, .int ck, .int sa, .ref a8, .int lm, .int rs, .int at_, .ref a9, .int tm, .long hs])), (a1, .inl (ca 0, 226, .inl (sF z r f j nt nl gl gt)))] s.heap := hP
  have hKv := hK.1
  have hl := lv_entry ([.ref om, .int (nI q)]) (n := 2) (kk_le rfl)
  rw [lg_entry_eq]
  generalize (lg_sl ([.ref om, .int (nI q)]) ++ List.replicate (2 - (lg_sl ([.ref om, .int (nI q)])).length) Slot.unset).toArray = ls at hl ⊢
  have hl : lv_has ls 2 [(0, .ref om), (1, .int (nI q))] := hl
  have hiX6 : ∀ w ∈ u_ws RX6 TX6 21, w ∈ wsX6_count := fun w h => by first | exact List.mem_cons_of_mem _ (List.mem_append_right _ h) | exact List.mem_cons_of_mem _ (List.mem_append_left _ (List.mem_append_right _ h)) | exact List.mem_cons_of_mem _ (List.mem_append_left _ (List.mem_append_left _ (List.mem_append_right _ h))) | exact List.mem_cons_of_mem _ (List.mem_append_left _ (List.mem_append_left _ (List.mem_append_left _ (List.mem_append_right _ h)))) | (revert w h; decide +kernel)
  have lk38 : (Cond.fieldLink RX6 38 "StripeSwipesModel" "thrown" "I").before _ s = true := hts _ (by decide +kernel)
  refine lv_aload_n hx hb dX6_count_0 rfl (lv_at hl 0 rfl) ?_
  refine lv_iconst (v := nI 0) hx hb dX6_count_1 (by decide) ?_
  refine va_put (D := D) (ci := 6) (v := .int (nI 0)) (ty := .int) (C := RX6) (T := TX6) (N := 21) hx hb hts hiX6 tyX6 tyX6_ok nmX6 hown hKv hP hD hS 0 rfl rfl 0 (by decide) lk38 (fun _ h9 => h9) rfl (by decide +kernel) rfl rfl (kk_le rfl) dX6_count_2 (fun H locs hP hD hS => ?_)
  have hP : va_P D vwCl [(om, .inr (6, [.int (nI 0), .ref a1, .ref a2, .ref a3, .int (nI sv), .ref a4, .ref a5, .ref a6, .int ln, .ref a7, .int bm, .int br, .int ck, .int sa, .ref a8, .int lm, .int rs, .int at_, .ref a9, .int tm, .long hs])), (a1, .inl (ca 0, 226, .inl (sF z r f j nt nl gl gt)))] H := hP
  have hD : va_D A [(om, .inr (6, [.int (nI 0), .ref a1, .ref a2, .ref a3, .int (nI sv), .ref a4, .ref a5, .ref a6, .int ln, .ref a7, .int bm, .int br, .int ck, .int sa, .ref a8, .int lm, .int rs, .int at_, .ref a9, .int tm, .long hs])), (a1, .inl (ca 0, 226, .inl (sF z r f j nt nl gl gt)))] := hD
  refine lv_iload_n hx hb dX6_count_5 rfl (lv_at hl 1 rfl) ?_
  refine lv_iconst (v := nI 0) hx hb dX6_count_6 (by decide) ?_
  refine lv_bipush (v := nI 6) hx hb dX6_count_7 (by decide) ?_
  refine vp_callSi (va_Run.run (va_runS (As := [.int (nI q), .int (nI 0), .int (nI 6)]) (rest := []) ⟨hx, hb, hml, hown, hts⟩ (kX6_in l (nI q) (nI 0) (nI 6)) (va_cwS 3 hts gX6_count_X6_in rfl rfl rfl (by decide +kernel) ⟨kk_le rfl, kk_le rfl⟩) psN rfl rfl hl.1 rfl (lv_room (kk_le rfl)) dX6_count_9 ⟨kk_le rfl, kk_le rfl⟩)) (fun r1 hr1 => ?_)
  subst hr1
  have e2 : (bI (inF (nI q) (nI 0) (nI 6)) : Int32) = bI true := congrArg bI ((inp_k (n := 7) rfl (by decide)).trans ((hasF_n (by omega) (by omega)).trans (decide_eq_true (by omega))))
  rw [e2]
  refine bi_if_eq (tgt := 23) hx hb dX6_count_12 (by decide) (fun c3 => ?_) (fun c3 => ?_)
  · first | exact False.elim c3 | exact absurd c3 (by decide) | (exfalso; omega)
  · refine lv_aload_n hx hb dX6_count_15 rfl (lv_at hl 0 rfl) ?_
    refine lv_iload_n hx hb dX6_count_16 rfl (lv_at hl 1 rfl) ?_
    refine vp_callSi (va_Run.run (va_runV (As := [.int (nI q)]) (rest := []) ⟨hx, hb, hml, hown, hts⟩ (kX6_counts l D ca om a1 a2 a3 a4 a5 a6 a7 a8 a9 (nI 0) ln bm br ck sa lm rs at_ tm hs z r f j nt nl gl gt sv q (by omega) (by omega) (by omega) (by omega) (by exact hpos)) (cwV 1 hts gX6_count_X6_counts rfl rfl rfl (by decide +kernel) ⟨kk_le rfl, kk_le rfl⟩) (pvR hK hP (va_recv hKv hP (ci := 6) (q0 := 0) rfl rfl)) rfl rfl hl.1 rfl (lv_room (kk_le rfl)) dX6_count_17 ⟨kk_le rfl, kk_le rfl⟩)) (fun r4 hr4 => ?_)
    subst hr4
    refine lv_goto (tgt := 28) hx hb dX6_count_20 (by decide) ?_
    exact W.iret (v := cntT q (lst gt nt) (lst gl nl) sv) hx hb hr (fun t ht hW => ⟨⟨_, (), rfl, ⟨by rfl, by trivial⟩, by rw [ht]; exact hP, hD⟩, hS.F ht⟩) hS.2.2 dX6_count_28
abbrev rm_kX6_count_bad : Room := { frames := 1, cells := 0, slots := 0, locals := 22 }
set_option maxHeartbeats 4000000 in
set_option maxRecDepth 100000 in
theorem kX6_count_bad (l : Launch) (D : va_G) (ca : Nat → ClassId) (sz : Nat) (om a1 a2 a3 a4 a5 a6 a7 a8 a9 : Nat) (thr sv ln bm br ck sa lm rs at_ tm : Int32) (hs : Int64) (z : Nat) (r f j : Int32) (nt nl : Nat) (gl gt : Nat → Int32) (x : Int32) (hnt : nt ≤ 200) (hnl : nl ≤ 20) (hz : z ≤ 30) (hbad : hasF 7 x = false) : Met l yX6_count wsX6_count rm_kX6_count_bad (pcM D ca [.ref om, .int x] [(om, .inr (6, [.int thr, .ref a1, .ref a2, .ref a3, .int sv, .ref a4, .ref a5, .ref a6, .int ln, .ref a7, .int bm, .int br, .int ck, .int sa, .ref a8, .int lm, .int rs, .int at_, .ref a9, .int tm, .long hs])), (a1, .inl (ca 0, 226, .inl (sF z r f j nt nl gl gt)))] sz) (va_Qi (fun (zr : Int32) (u : Unit) => zr = nI 0 ∧ True) (qB D (va_A [(om, .inr (6, [.int thr, .ref a1, .ref a2, .ref a3, .int sv, .ref a4, .ref a5, .ref a6, .int ln, .ref a7, .int bm, .int br, .int ck, .int sa, .ref a8, .int lm, .int rs, .int at_, .ref a9, .int tm, .long hs])), (a1, .inl (ca 0, 226, .inl (sF z r f j nt nl gl gt)))] sz) (fun u : Unit => [(om, .inr (6, [.int (nI 1), .ref a1, .ref a2, .ref a3, .int sv, .ref a4, .ref a5, .ref a6, .int ln, .ref a7, .int bm, .int br, .int ck, .int sa, .ref a8, .int lm, .int rs, .int at_, .ref a9, .int tm, .long hs])), (a1, .inl (ca 0, 226, .inl (sF z r f j nt nl gl gt)))])) (va_A [(om, .inr (6, [.int thr, .ref a1, .ref a2, .ref a3, .int sv, .ref a4, .ref a5, .ref a6, .int ln, .ref a7, .int bm, .int br, .int ck, .int sa, .ref a8, .int lm, .int rs, .int at_, .ref a9, .int tm, .long hs])), (a1, .inl (ca 0, 226, .inl (sF z r f j nt nl gl gt)))] sz)) 0 0 (va_A [(om, .inr (6, [.int thr, .ref a1, .ref a2, .ref a3, .int sv, .ref a4, .ref a5, .ref a6, .int ln, .ref a7, .int bm, .int br, .int ck, .int sa, .ref a8, .int lm, .int rs, .int at_, .ref a9, .int tm, .long hs])), (a1, .inl (ca 0, 226, .inl (sF z r f j nt nl gl gt)))] sz) := by
  refine Met.ofW (cc := cX6_count) (maxL := 2) (ret := (some .int)) (by decide) rfl ?_
  intro p e s m args below meth c s₁ B hml hv
  obtain ⟨rfl, hsz, hP, hK, hD0⟩ := hv
  have hx := B.exec
  have hb := B.bytes
  have hr := B.returns
  have hts := atoms_spec (ws := wsX6_count) B.pre
  have hown : s.vm.findClass RX6 = some m.cls := findClass_of_methodNamed B.named
  have hlocks := B.notSynchronized
  subst hsz
  have hD := hD0.self (sz := s.heap.size)
  generalize hAe : va_A [(om, .inr (6, [.int thr, .ref a1, .ref a2, .ref a3, .int sv, .ref a4, .ref a5, .ref a6, .int ln, .ref a7, .int bm, .int br, .int ck, .int sa, .ref a8, .int lm, .int rs, .int at_, .ref a9, .int tm, .long hs])), (a1, .inl (ca 0, 226, .inl (sF z r f j nt nl gl gt)))] s.heap.size = A at hD ⊢
  have hA : ∀ q : Nat, s.heap.size ≤ q → A q := fun q h => by rw [← hAe]; exact Or.inr h
  have hS : va_S A s.heap s.heap [] := va_S.rf
  have hP : va_P D vwCl [(om, .inr (6, [.int thr, .ref a1, .ref a2, .ref a3, .int sv, .ref a4, .ref a5, .ref a6, .int ln, .ref a7, .int bm, .int br, .int ck, .int sa, .ref a8, .int lm, .int rs, .int at_, .ref a9, .int tm, .long hs])), (a1, .inl (ca 0, 226, .inl (sF z r f j nt nl gl gt)))] s.heap := hP
  have hKv := hK.1
  have hl := lv_entry ([.ref om, .int x]) (n := 2) (kk_le rfl)
  rw [lg_entry_eq]
  generalize (lg_sl ([.ref om, .int x]) ++ List.replicate (2 - (lg_sl ([.ref om, .int x])).length) Slot.unset).toArray = ls at hl ⊢
  have hl : lv_has ls 2 [(0, .ref om), (1, .int x)] := hl
  have hiX6 : ∀ w ∈ u_ws RX6 TX6 21, w ∈ wsX6_count := fun w h => by first | exact List.mem_cons_of_mem _ (List.mem_append_right _ h) | exact List.mem_cons_of_mem _ (List.mem_append_left _ (List.mem_append_right _ h)) | exact List.mem_cons_of_mem _ (List.mem_append_left _ (List.mem_append_left _ (List.mem_append_right _ h))) | exact List.mem_cons_of_mem _ (List.mem_append_left _ (List.mem_append_left _ (List.mem_append_left _ (List.mem_append_right _ h)))) | (revert w h; decide +kernel)
  have lk38 : (Cond.fieldLink RX6 38 "StripeSwipesModel" "thrown" "I").before _ s = true := hts _ (by decide +kernel)
  refine lv_aload_n hx hb dX6_count_0 rfl (lv_at hl 0 rfl) ?_
  refine lv_iconst (v := nI 0) hx hb dX6_count_1 (by decide) ?_
  refine va_put (D := D) (ci := 6) (v := .int (nI 0)) (ty := .int) (C := RX6) (T := TX6) (N := 21) hx hb hts hiX6 tyX6 tyX6_ok nmX6 hown hKv hP hD hS 0 rfl rfl 0 (by decide) lk38 (fun _ h9 => h9) rfl (by decide +kernel) rfl rfl (kk_le rfl) dX6_count_2 (fun H locs hP hD hS => ?_)
  have hP : va_P D vwCl [(om, .inr (6, [.int (nI 0), .ref a1, .ref a2, .ref a3, .int sv, .ref a4, .ref a5, .ref a6, .int ln, .ref a7, .int bm, .int br, .int ck, .int sa, .ref a8, .int lm, .int rs, .int at_, .ref a9, .int tm, .long hs])), (a1, .inl (ca 0, 226, .inl (sF z r f j nt nl gl gt)))] H := hP
  have hD : va_D A [(om, .inr (6, [.int (nI 0), .ref a1, .ref a2, .ref a3, .int sv, .ref a4, .ref a5, .ref a6, .int ln, .ref a7, .int bm, .int br, .int ck, .int sa, .ref a8, .int lm, .int rs, .int at_, .ref a9, .int tm, .long hs])), (a1, .inl (ca 0, 226, .inl (sF z r f j nt nl gl gt)))] := hD
  refine lv_iload_n hx hb dX6_count_5 rfl (lv_at hl 1 rfl) ?_
  refine lv_iconst (v := nI 0) hx hb dX6_count_6 (by decide) ?_
  refine lv_bipush (v := nI 6) hx hb dX6_count_7 (by decide) ?_
  refine vp_callSi (va_Run.run (va_runS (As := [.int x, .int (nI 0), .int (nI 6)]) (rest := []) ⟨hx, hb, hml, hown, hts⟩ (kX6_in l x (nI 0) (nI 6)) (va_cwS 3 hts gX6_count_X6_in rfl rfl rfl (by decide +kernel) ⟨kk_le rfl, kk_le rfl⟩) psN rfl rfl hl.1 rfl (lv_room (kk_le rfl)) dX6_count_9 ⟨kk_le rfl, kk_le rfl⟩)) (fun r1 hr1 => ?_)
  subst hr1
  have e2 : (bI (inF x (nI 0) (nI 6)) : Int32) = bI false := congrArg bI ((inp_k (n := 7) rfl (by decide)).trans hbad)
  rw [e2]
  refine bi_if_eq (tgt := 23) hx hb dX6_count_12 (by decide) (fun c3 => ?_) (fun c3 => ?_)
  · refine lv_aload_n hx hb dX6_count_23 rfl (lv_at hl 0 rfl) ?_
    refine lv_iconst (v := nI 1) hx hb dX6_count_24 (by decide) ?_
    have hPc := hP.sub (ws' := [(om, .inr (6, [.int (nI 0), .ref a1, .ref a2, .ref a3, .int sv, .ref a4, .ref a5, .ref a6, .int ln, .ref a7, .int bm, .int br, .int ck, .int sa, .ref a8, .int lm, .int rs, .int at_, .ref a9, .int tm, .long hs]))]) [0] rfl
    have hDc := hD.sub (ws' := [(om, .inr (6, [.int (nI 0), .ref a1, .ref a2, .ref a3, .int sv, .ref a4, .ref a5, .ref a6, .int ln, .ref a7, .int bm, .int br, .int ck, .int sa, .ref a8, .int lm, .int rs, .int at_, .ref a9, .int tm, .long hs]))]) [0] (by decide) rfl
    have hFc := va_free (wc := [(om, .inr (6, [.int (nI 0), .ref a1, .ref a2, .ref a3, .int sv, .ref a4, .ref a5, .ref a6, .int ln, .ref a7, .int bm, .int br, .int ck, .int sa, .ref a8, .int lm, .int rs, .int at_, .ref a9, .int tm, .long hs]))]) hD hS hA [0] rfl
    refine va_calli (va_runV (As := [.int (nI 1)]) (rest := []) ⟨hx, hb, hml, hown, hts⟩ (kX6_fails l D ca H.size om a1 a2 a3 a4 a5 a6 a7 a8 a9 (nI 0) sv ln bm br ck sa lm rs at_ tm hs (nI 1)) (cwV 1 hts gX6_count_X6_fails rfl rfl rfl (by decide +kernel) ⟨kk_le rfl, kk_le rfl⟩) (pvM hK hPc (my_D_true hDc) (va_recv hKv hP (ci := 6) (q0 := 0) rfl rfl)) rfl rfl hl.1 rfl (lv_room (kk_le rfl)) dX6_count_25 ⟨kk_le rfl, kk_le rfl⟩) hS (fun q _ h => hFc q h) hFc (fun r4 u t H1 locs ht hvm hwv hBv hz1 hk1 hS => ?_)
    obtain ⟨hP1, hD1⟩ := hBv
    rw [ht] at hP1
    have hP1 : va_P D vwCl [(om, .inr (6, [.int (nI 1), .ref a1, .ref a2, .ref a3, .int sv, .ref a4, .ref a5, .ref a6, .int ln, .ref a7, .int bm, .int br, .int ck, .int sa, .ref a8, .int lm, .int rs, .int at_, .ref a9, .int tm, .long hs]))] H1 := hP1
    have hD1 : va_D _ [(om, .inr (6, [.int (nI 1), .ref a1, .ref a2, .ref a3, .int sv, .ref a4, .ref a5, .ref a6, .int ln, .ref a7, .int bm, .int br, .int ck, .int sa, .ref a8, .int lm, .int rs, .int at_, .ref a9, .int tm, .long hs]))] := hD1
    obtain ⟨hr4, hw4⟩ := hwv
    subst hr4
    obtain ⟨hP, hD⟩ := va_join (wr := [(a1, .inl (ca 0, 226, .inl (sF z r f j nt nl gl gt)))]) (w1 := [(om, .inr (6, [.int (nI 1), .ref a1, .ref a2, .ref a3, .int sv, .ref a4, .ref a5, .ref a6, .int ln, .ref a7, .int bm, .int br, .int ck, .int sa, .ref a8, .int lm, .int rs, .int at_, .ref a9, .int tm, .long hs]))]) hP hD [0] [1] rfl rfl (by decide) (by decide) hk1 hFc hP1 hD1
    generalize H1 = H at hP hS ⊢
    have hP := hP.sub (ws' := [(om, .inr (6, [.int (nI 1), .ref a1, .ref a2, .ref a3, .int sv, .ref a4, .ref a5, .ref a6, .int ln, .ref a7, .int bm, .int br, .int ck, .int sa, .ref a8, .int lm, .int rs, .int at_, .ref a9, .int tm, .long hs])), (a1, .inl (ca 0, 226, .inl (sF z r f j nt nl gl gt)))]) [1, 0] rfl
    have hD := hD.sub (ws' := [(om, .inr (6, [.int (nI 1), .ref a1, .ref a2, .ref a3, .int sv, .ref a4, .ref a5, .ref a6, .int ln, .ref a7, .int bm, .int br, .int ck, .int sa, .ref a8, .int lm, .int rs, .int at_, .ref a9, .int tm, .long hs])), (a1, .inl (ca 0, 226, .inl (sF z r f j nt nl gl gt)))]) [1, 0] (by decide) rfl
    exact W.iret (v := nI 0) hx hb hr (fun t ht hW => ⟨⟨_, (), rfl, ⟨by rfl, by trivial⟩, by rw [ht]; exact hP, hD⟩, hS.F ht⟩) hS.2.2 dX6_count_28
  · first | exact False.elim c3 | exact absurd c3 (by decide) | (exfalso; omega)
abbrev rm_kX6_setting_0 : Room := { frames := 1, cells := 0, slots := 0, locals := 22 }
set_option maxHeartbeats 4000000 in
set_option maxRecDepth 100000 in
theorem kX6_setting_0 (l : Launch) (D : va_G) (ca : Nat → ClassId) (sz : Nat) (om a1 a2 a3 a4 a5 a6 a7 a8 a9 : Nat) (thr sv ln bm br ck sa lm rs at_ tm : Int32) (hs : Int64) (z : Nat) (r f j : Int32) (nt nl : Nat) (gl gt : Nat → Int32) (hnt : nt ≤ 200) (hnl : nl ≤ 20) (hz : z ≤ 30) : Met l yX6_setting wsX6_setting rm_kX6_setting_0 (pcM D ca [.ref om, .int (nI 0)] [(om, .inr (6, [.int thr, .ref a1, .ref a2, .ref a3, .int sv, .ref a4, .ref a5, .ref a6, .int ln, .ref a7, .int bm, .int br, .int ck, .int sa, .ref a8, .int lm, .int rs, .int at_, .ref a9, .int tm, .long hs])), (a1, .inl (ca 0, 226, .inl (sF z r f j nt nl gl gt)))] sz) (va_Qi (fun (zr : Int32) (u : Unit) => zr = nI z ∧ True) (qB D (va_A [(om, .inr (6, [.int thr, .ref a1, .ref a2, .ref a3, .int sv, .ref a4, .ref a5, .ref a6, .int ln, .ref a7, .int bm, .int br, .int ck, .int sa, .ref a8, .int lm, .int rs, .int at_, .ref a9, .int tm, .long hs])), (a1, .inl (ca 0, 226, .inl (sF z r f j nt nl gl gt)))] sz) (fun u : Unit => [(om, .inr (6, [.int (nI 0), .ref a1, .ref a2, .ref a3, .int sv, .ref a4, .ref a5, .ref a6, .int ln, .ref a7, .int bm, .int br, .int ck, .int sa, .ref a8, .int lm, .int rs, .int at_, .ref a9, .int tm, .long hs])), (a1, .inl (ca 0, 226, .inl (sF z r f j nt nl gl gt)))])) (va_A [(om, .inr (6, [.int thr, .ref a1, .ref a2, .ref a3, .int sv, .ref a4, .ref a5, .ref a6, .int ln, .ref a7, .int bm, .int br, .int ck, .int sa, .ref a8, .int lm, .int rs, .int at_, .ref a9, .int tm, .long hs])), (a1, .inl (ca 0, 226, .inl (sF z r f j nt nl gl gt)))] sz)) 0 0 (va_A [(om, .inr (6, [.int thr, .ref a1, .ref a2, .ref a3, .int sv, .ref a4, .ref a5, .ref a6, .int ln, .ref a7, .int bm, .int br, .int ck, .int sa, .ref a8, .int lm, .int rs, .int at_, .ref a9, .int tm, .long hs])), (a1, .inl (ca 0, 226, .inl (sF z r f j nt nl gl gt)))] sz) := by
  refine Met.ofW (cc := cX6_setting) (maxL := 2) (ret := (some .int)) (by decide) rfl ?_
  intro p e s m args below meth c s₁ B hml hv
  obtain ⟨rfl, hsz, hP, hK, hD0⟩ := hv
  have hx := B.exec
  have hb := B.bytes
  have hr := B.returns
  have hts := atoms_spec (ws := wsX6_setting) B.pre
  have hown : s.vm.findClass RX6 = some m.cls := findClass_of_methodNamed B.named
  have hlocks := B.notSynchronized
  subst hsz
  have hD := hD0.self (sz := s.heap.size)
  generalize hAe : va_A [(om, .inr (6, [.int thr, .ref a1, .ref a2, .ref a3, .int sv, .ref a4, .ref a5, .ref a6, .int ln, .ref a7, .int bm, .int br, .int ck, .int sa, .ref a8, .int lm, .int rs, .int at_, .ref a9, .int tm, .long hs])), (a1, .inl (ca 0, 226, .inl (sF z r f j nt nl gl gt)))] s.heap.size = A at hD ⊢
  have hA : ∀ q : Nat, s.heap.size ≤ q → A q := fun q h => by rw [← hAe]; exact Or.inr h
  have hS : va_S A s.heap s.heap [] := va_S.rf
  have hP : va_P D vwCl [(om, .inr (6, [.int thr, .ref a1, .ref a2, .ref a3, .int sv, .ref a4, .ref a5, .ref a6, .int ln, .ref a7, .int bm, .int br, .int ck, .int sa, .ref a8, .int lm, .int rs, .int at_, .ref a9, .int tm, .long hs])), (a1, .inl (ca 0, 226, .inl (sF z r f j nt nl gl gt)))] s.heap := hP
  have hKv := hK.1
  have hl := lv_entry ([.ref om, .int (nI 0)]) (n := 2) (kk_le rfl)
  rw [lg_entry_eq]
  generalize (lg_sl ([.ref om, .int (nI 0)]) ++ List.replicate (2 - (lg_sl ([.ref om, .int (nI 0)])).length) Slot.unset).toArray = ls at hl ⊢
  have hl : lv_has ls 2 [(0, .ref om), (1, .int (nI 0))] := hl
  have hiX6 : ∀ w ∈ u_ws RX6 TX6 21, w ∈ wsX6_setting := fun w h => by first | exact List.mem_cons_of_mem _ (List.mem_append_right _ h) | exact List.mem_cons_of_mem _ (List.mem_append_left _ (List.mem_append_right _ h)) | exact List.mem_cons_of_mem _ (List.mem_append_left _ (List.mem_append_left _ (List.mem_append_right _ h))) | exact List.mem_cons_of_mem _ (List.mem_append_left _ (List.mem_append_left _ (List.mem_append_left _ (List.mem_append_right _ h)))) | (revert w h; decide +kernel)
  have lk38 : (Cond.fieldLink RX6 38 "StripeSwipesModel" "thrown" "I").before _ s = true := hts _ (by decide +kernel)
  have lk7 : (Cond.fieldLink RX6 7 "StripeSwipesModel" "s" "[I").before _ s = true := hts _ (by decide +kernel)
  refine lv_aload_n hx hb dX6_setting_0 rfl (lv_at hl 0 rfl) ?_
  refine lv_iconst (v := nI 0) hx hb dX6_setting_1 (by decide) ?_
  refine va_put (D := D) (ci := 6) (v := .int (nI 0)) (ty := .int) (C := RX6) (T := TX6) (N := 21) hx hb hts hiX6 tyX6 tyX6_ok nmX6 hown hKv hP hD hS 0 rfl rfl 0 (by decide) lk38 (fun _ h9 => h9) rfl (by decide +kernel) rfl rfl (kk_le rfl) dX6_setting_2 (fun H locs hP hD hS => ?_)
  have hP : va_P D vwCl [(om, .inr (6, [.int (nI 0), .ref a1, .ref a2, .ref a3, .int sv, .ref a4, .ref a5, .ref a6, .int ln, .ref a7, .int bm, .int br, .int ck, .int sa, .ref a8, .int lm, .int rs, .int at_, .ref a9, .int tm, .long hs])), (a1, .inl (ca 0, 226, .inl (sF z r f j nt nl gl gt)))] H := hP
  have hD : va_D A [(om, .inr (6, [.int (nI 0), .ref a1, .ref a2, .ref a3, .int sv, .ref a4, .ref a5, .ref a6, .int ln, .ref a7, .int bm, .int br, .int ck, .int sa, .ref a8, .int lm, .int rs, .int at_, .ref a9, .int tm, .long hs])), (a1, .inl (ca 0, 226, .inl (sF z r f j nt nl gl gt)))] := hD
  refine lv_iload_n hx hb dX6_setting_5 rfl (lv_at hl 1 rfl) ?_
  refine lv_iconst (v := nI 0) hx hb dX6_setting_6 (by decide) ?_
  refine lv_iconst (v := nI 3) hx hb dX6_setting_7 (by decide) ?_
  refine vp_callSi (va_Run.run (va_runS (As := [.int (nI 0), .int (nI 0), .int (nI 3)]) (rest := []) ⟨hx, hb, hml, hown, hts⟩ (kX6_in l (nI 0) (nI 0) (nI 3)) (va_cwS 3 hts gX6_setting_X6_in rfl rfl rfl (by decide +kernel) ⟨kk_le rfl, kk_le rfl⟩) psN rfl rfl hl.1 rfl (lv_room (kk_le rfl)) dX6_setting_8 ⟨kk_le rfl, kk_le rfl⟩)) (fun r1 hr1 => ?_)
  subst hr1
  have e2 : (bI (inF (nI 0) (nI 0) (nI 3)) : Int32) = bI true := congrArg bI (by decide)
  rw [e2]
  refine bi_if_eq (tgt := 23) hx hb dX6_setting_11 (by decide) (fun c3 => ?_) (fun c3 => ?_)
  · first | exact False.elim c3 | exact absurd c3 (by decide) | (exfalso; omega)
  · refine lv_aload_n hx hb dX6_setting_14 rfl (lv_at hl 0 rfl) ?_
    refine va_get (D := D) (ci := 6) (C := RX6) (T := TX6) (N := 21) hx hb hts hiX6 hown hKv hP 0 rfl rfl 1 (by decide) lk7 (fun _ h9 => h9) rfl dX6_setting_15 ?_
    refine lv_iload_n hx hb dX6_setting_18 rfl (lv_at hl 1 rfl) ?_
    refine my_iald hx hb hK hP 1 rfl (by omega) (by omega) dX6_setting_19 ?_
    rw [show sF z r f j nt nl gl gt 0 = nI z from rfl]
    refine lv_goto (tgt := 28) hx hb dX6_setting_20 (by decide) ?_
    exact W.iret (v := nI z) hx hb hr (fun t ht hW => ⟨⟨_, (), rfl, ⟨by rfl, by trivial⟩, by rw [ht]; exact hP, hD⟩, hS.F ht⟩) hS.2.2 dX6_setting_28
abbrev rm_kX6_setting_1 : Room := { frames := 1, cells := 0, slots := 0, locals := 22 }
set_option maxHeartbeats 4000000 in
set_option maxRecDepth 100000 in
theorem kX6_setting_1 (l : Launch) (D : va_G) (ca : Nat → ClassId) (sz : Nat) (om a1 a2 a3 a4 a5 a6 a7 a8 a9 : Nat) (thr sv ln bm br ck sa lm rs at_ tm : Int32) (hs : Int64) (z : Nat) (r f j : Int32) (nt nl : Nat) (gl gt : Nat → Int32) (hnt : nt ≤ 200) (hnl : nl ≤ 20) (hz : z ≤ 30) : Met l yX6_setting wsX6_setting rm_kX6_setting_1 (pcM D ca [.ref om, .int (nI 1)] [(om, .inr (6, [.int thr, .ref a1, .ref a2, .ref a3, .int sv, .ref a4, .ref a5, .ref a6, .int ln, .ref a7, .int bm, .int br, .int ck, .int sa, .ref a8, .int lm, .int rs, .int at_, .ref a9, .int tm, .long hs])), (a1, .inl (ca 0, 226, .inl (sF z r f j nt nl gl gt)))] sz) (va_Qi (fun (zr : Int32) (u : Unit) => zr = r ∧ True) (qB D (va_A [(om, .inr (6, [.int thr, .ref a1, .ref a2, .ref a3, .int sv, .ref a4, .ref a5, .ref a6, .int ln, .ref a7, .int bm, .int br, .int ck, .int sa, .ref a8, .int lm, .int rs, .int at_, .ref a9, .int tm, .long hs])), (a1, .inl (ca 0, 226, .inl (sF z r f j nt nl gl gt)))] sz) (fun u : Unit => [(om, .inr (6, [.int (nI 0), .ref a1, .ref a2, .ref a3, .int sv, .ref a4, .ref a5, .ref a6, .int ln, .ref a7, .int bm, .int br, .int ck, .int sa, .ref a8, .int lm, .int rs, .int at_, .ref a9, .int tm, .long hs])), (a1, .inl (ca 0, 226, .inl (sF z r f j nt nl gl gt)))])) (va_A [(om, .inr (6, [.int thr, .ref a1, .ref a2, .ref a3, .int sv, .ref a4, .ref a5, .ref a6, .int ln, .ref a7, .int bm, .int br, .int ck, .int sa, .ref a8, .int lm, .int rs, .int at_, .ref a9, .int tm, .long hs])), (a1, .inl (ca 0, 226, .inl (sF z r f j nt nl gl gt)))] sz)) 0 0 (va_A [(om, .inr (6, [.int thr, .ref a1, .ref a2, .ref a3, .int sv, .ref a4, .ref a5, .ref a6, .int ln, .ref a7, .int bm, .int br, .int ck, .int sa, .ref a8, .int lm, .int rs, .int at_, .ref a9, .int tm, .long hs])), (a1, .inl (ca 0, 226, .inl (sF z r f j nt nl gl gt)))] sz) := by
  refine Met.ofW (cc := cX6_setting) (maxL := 2) (ret := (some .int)) (by decide) rfl ?_
  intro p e s m args below meth c s₁ B hml hv
  obtain ⟨rfl, hsz, hP, hK, hD0⟩ := hv
  have hx := B.exec
  have hb := B.bytes
  have hr := B.returns
  have hts := atoms_spec (ws := wsX6_setting) B.pre
  have hown : s.vm.findClass RX6 = some m.cls := findClass_of_methodNamed B.named
  have hlocks := B.notSynchronized
  subst hsz
  have hD := hD0.self (sz := s.heap.size)
  generalize hAe : va_A [(om, .inr (6, [.int thr, .ref a1, .ref a2, .ref a3, .int sv, .ref a4, .ref a5, .ref a6, .int ln, .ref a7, .int bm, .int br, .int ck, .int sa, .ref a8, .int lm, .int rs, .int at_, .ref a9, .int tm, .long hs])), (a1, .inl (ca 0, 226, .inl (sF z r f j nt nl gl gt)))] s.heap.size = A at hD ⊢
  have hA : ∀ q : Nat, s.heap.size ≤ q → A q := fun q h => by rw [← hAe]; exact Or.inr h
  have hS : va_S A s.heap s.heap [] := va_S.rf
  have hP : va_P D vwCl [(om, .inr (6, [.int thr, .ref a1, .ref a2, .ref a3, .int sv, .ref a4, .ref a5, .ref a6, .int ln, .ref a7, .int bm, .int br, .int ck, .int sa, .ref a8, .int lm, .int rs, .int at_, .ref a9, .int tm, .long hs])), (a1, .inl (ca 0, 226, .inl (sF z r f j nt nl gl gt)))] s.heap := hP
  have hKv := hK.1
  have hl := lv_entry ([.ref om, .int (nI 1)]) (n := 2) (kk_le rfl)
  rw [lg_entry_eq]
  generalize (lg_sl ([.ref om, .int (nI 1)]) ++ List.replicate (2 - (lg_sl ([.ref om, .int (nI 1)])).length) Slot.unset).toArray = ls at hl ⊢
  have hl : lv_has ls 2 [(0, .ref om), (1, .int (nI 1))] := hl
  have hiX6 : ∀ w ∈ u_ws RX6 TX6 21, w ∈ wsX6_setting := fun w h => by first | exact List.mem_cons_of_mem _ (List.mem_append_right _ h) | exact List.mem_cons_of_mem _ (List.mem_append_left _ (List.mem_append_right _ h)) | exact List.mem_cons_of_mem _ (List.mem_append_left _ (List.mem_append_left _ (List.mem_append_right _ h))) | exact List.mem_cons_of_mem _ (List.mem_append_left _ (List.mem_append_left _ (List.mem_append_left _ (List.mem_append_right _ h)))) | (revert w h; decide +kernel)
  have lk38 : (Cond.fieldLink RX6 38 "StripeSwipesModel" "thrown" "I").before _ s = true := hts _ (by decide +kernel)
  have lk7 : (Cond.fieldLink RX6 7 "StripeSwipesModel" "s" "[I").before _ s = true := hts _ (by decide +kernel)
  refine lv_aload_n hx hb dX6_setting_0 rfl (lv_at hl 0 rfl) ?_
  refine lv_iconst (v := nI 0) hx hb dX6_setting_1 (by decide) ?_
  refine va_put (D := D) (ci := 6) (v := .int (nI 0)) (ty := .int) (C := RX6) (T := TX6) (N := 21) hx hb hts hiX6 tyX6 tyX6_ok nmX6 hown hKv hP hD hS 0 rfl rfl 0 (by decide) lk38 (fun _ h9 => h9) rfl (by decide +kernel) rfl rfl (kk_le rfl) dX6_setting_2 (fun H locs hP hD hS => ?_)
  have hP : va_P D vwCl [(om, .inr (6, [.int (nI 0), .ref a1, .ref a2, .ref a3, .int sv, .ref a4, .ref a5, .ref a6, .int ln, .ref a7, .int bm, .int br, .int ck, .int sa, .ref a8, .int lm, .int rs, .int at_, .ref a9, .int tm, .long hs])), (a1, .inl (ca 0, 226, .inl (sF z r f j nt nl gl gt)))] H := hP
  have hD : va_D A [(om, .inr (6, [.int (nI 0), .ref a1, .ref a2, .ref a3, .int sv, .ref a4, .ref a5, .ref a6, .int ln, .ref a7, .int bm, .int br, .int ck, .int sa, .ref a8, .int lm, .int rs, .int at_, .ref a9, .int tm, .long hs])), (a1, .inl (ca 0, 226, .inl (sF z r f j nt nl gl gt)))] := hD
  refine lv_iload_n hx hb dX6_setting_5 rfl (lv_at hl 1 rfl) ?_
  refine lv_iconst (v := nI 0) hx hb dX6_setting_6 (by decide) ?_
  refine lv_iconst (v := nI 3) hx hb dX6_setting_7 (by decide) ?_
  refine vp_callSi (va_Run.run (va_runS (As := [.int (nI 1), .int (nI 0), .int (nI 3)]) (rest := []) ⟨hx, hb, hml, hown, hts⟩ (kX6_in l (nI 1) (nI 0) (nI 3)) (va_cwS 3 hts gX6_setting_X6_in rfl rfl rfl (by decide +kernel) ⟨kk_le rfl, kk_le rfl⟩) psN rfl rfl hl.1 rfl (lv_room (kk_le rfl)) dX6_setting_8 ⟨kk_le rfl, kk_le rfl⟩)) (fun r1 hr1 => ?_)
  subst hr1
  have e2 : (bI (inF (nI 1) (nI 0) (nI 3)) : Int32) = bI true := congrArg bI (by decide)
  rw [e2]
  refine bi_if_eq (tgt := 23) hx hb dX6_setting_11 (by decide) (fun c3 => ?_) (fun c3 => ?_)
  · first | exact False.elim c3 | exact absurd c3 (by decide) | (exfalso; omega)
  · refine lv_aload_n hx hb dX6_setting_14 rfl (lv_at hl 0 rfl) ?_
    refine va_get (D := D) (ci := 6) (C := RX6) (T := TX6) (N := 21) hx hb hts hiX6 hown hKv hP 0 rfl rfl 1 (by decide) lk7 (fun _ h9 => h9) rfl dX6_setting_15 ?_
    refine lv_iload_n hx hb dX6_setting_18 rfl (lv_at hl 1 rfl) ?_
    refine my_iald hx hb hK hP 1 rfl (by omega) (by omega) dX6_setting_19 ?_
    rw [show sF z r f j nt nl gl gt 1 = r from rfl]
    refine lv_goto (tgt := 28) hx hb dX6_setting_20 (by decide) ?_
    exact W.iret (v := r) hx hb hr (fun t ht hW => ⟨⟨_, (), rfl, ⟨by rfl, by trivial⟩, by rw [ht]; exact hP, hD⟩, hS.F ht⟩) hS.2.2 dX6_setting_28
abbrev rm_kX6_setting_2 : Room := { frames := 1, cells := 0, slots := 0, locals := 22 }
set_option maxHeartbeats 4000000 in
set_option maxRecDepth 100000 in
theorem kX6_setting_2 (l : Launch) (D : va_G) (ca : Nat → ClassId) (sz : Nat) (om a1 a2 a3 a4 a5 a6 a7 a8 a9 : Nat) (thr sv ln bm br ck sa lm rs at_ tm : Int32) (hs : Int64) (z : Nat) (r f j : Int32) (nt nl : Nat) (gl gt : Nat → Int32) (hnt : nt ≤ 200) (hnl : nl ≤ 20) (hz : z ≤ 30) : Met l yX6_setting wsX6_setting rm_kX6_setting_2 (pcM D ca [.ref om, .int (nI 2)] [(om, .inr (6, [.int thr, .ref a1, .ref a2, .ref a3, .int sv, .ref a4, .ref a5, .ref a6, .int ln, .ref a7, .int bm, .int br, .int ck, .int sa, .ref a8, .int lm, .int rs, .int at_, .ref a9, .int tm, .long hs])), (a1, .inl (ca 0, 226, .inl (sF z r f j nt nl gl gt)))] sz) (va_Qi (fun (zr : Int32) (u : Unit) => zr = f ∧ True) (qB D (va_A [(om, .inr (6, [.int thr, .ref a1, .ref a2, .ref a3, .int sv, .ref a4, .ref a5, .ref a6, .int ln, .ref a7, .int bm, .int br, .int ck, .int sa, .ref a8, .int lm, .int rs, .int at_, .ref a9, .int tm, .long hs])), (a1, .inl (ca 0, 226, .inl (sF z r f j nt nl gl gt)))] sz) (fun u : Unit => [(om, .inr (6, [.int (nI 0), .ref a1, .ref a2, .ref a3, .int sv, .ref a4, .ref a5, .ref a6, .int ln, .ref a7, .int bm, .int br, .int ck, .int sa, .ref a8, .int lm, .int rs, .int at_, .ref a9, .int tm, .long hs])), (a1, .inl (ca 0, 226, .inl (sF z r f j nt nl gl gt)))])) (va_A [(om, .inr (6, [.int thr, .ref a1, .ref a2, .ref a3, .int sv, .ref a4, .ref a5, .ref a6, .int ln, .ref a7, .int bm, .int br, .int ck, .int sa, .ref a8, .int lm, .int rs, .int at_, .ref a9, .int tm, .long hs])), (a1, .inl (ca 0, 226, .inl (sF z r f j nt nl gl gt)))] sz)) 0 0 (va_A [(om, .inr (6, [.int thr, .ref a1, .ref a2, .ref a3, .int sv, .ref a4, .ref a5, .ref a6, .int ln, .ref a7, .int bm, .int br, .int ck, .int sa, .ref a8, .int lm, .int rs, .int at_, .ref a9, .int tm, .long hs])), (a1, .inl (ca 0, 226, .inl (sF z r f j nt nl gl gt)))] sz) := by
  refine Met.ofW (cc := cX6_setting) (maxL := 2) (ret := (some .int)) (by decide) rfl ?_
  intro p e s m args below meth c s₁ B hml hv
  obtain ⟨rfl, hsz, hP, hK, hD0⟩ := hv
  have hx := B.exec
  have hb := B.bytes
  have hr := B.returns
  have hts := atoms_spec (ws := wsX6_setting) B.pre
  have hown : s.vm.findClass RX6 = some m.cls := findClass_of_methodNamed B.named
  have hlocks := B.notSynchronized
  subst hsz
  have hD := hD0.self (sz := s.heap.size)
  generalize hAe : va_A [(om, .inr (6, [.int thr, .ref a1, .ref a2, .ref a3, .int sv, .ref a4, .ref a5, .ref a6, .int ln, .ref a7, .int bm, .int br, .int ck, .int sa, .ref a8, .int lm, .int rs, .int at_, .ref a9, .int tm, .long hs])), (a1, .inl (ca 0, 226, .inl (sF z r f j nt nl gl gt)))] s.heap.size = A at hD ⊢
  have hA : ∀ q : Nat, s.heap.size ≤ q → A q := fun q h => by rw [← hAe]; exact Or.inr h
  have hS : va_S A s.heap s.heap [] := va_S.rf
  have hP : va_P D vwCl [(om, .inr (6, [.int thr, .ref a1, .ref a2, .ref a3, .int sv, .ref a4, .ref a5, .ref a6, .int ln, .ref a7, .int bm, .int br, .int ck, .int sa, .ref a8, .int lm, .int rs, .int at_, .ref a9, .int tm, .long hs])), (a1, .inl (ca 0, 226, .inl (sF z r f j nt nl gl gt)))] s.heap := hP
  have hKv := hK.1
  have hl := lv_entry ([.ref om, .int (nI 2)]) (n := 2) (kk_le rfl)
  rw [lg_entry_eq]
  generalize (lg_sl ([.ref om, .int (nI 2)]) ++ List.replicate (2 - (lg_sl ([.ref om, .int (nI 2)])).length) Slot.unset).toArray = ls at hl ⊢
  have hl : lv_has ls 2 [(0, .ref om), (1, .int (nI 2))] := hl
  have hiX6 : ∀ w ∈ u_ws RX6 TX6 21, w ∈ wsX6_setting := fun w h => by first | exact List.mem_cons_of_mem _ (List.mem_append_right _ h) | exact List.mem_cons_of_mem _ (List.mem_append_left _ (List.mem_append_right _ h)) | exact List.mem_cons_of_mem _ (List.mem_append_left _ (List.mem_append_left _ (List.mem_append_right _ h))) | exact List.mem_cons_of_mem _ (List.mem_append_left _ (List.mem_append_left _ (List.mem_append_left _ (List.mem_append_right _ h)))) | (revert w h; decide +kernel)
  have lk38 : (Cond.fieldLink RX6 38 "StripeSwipesModel" "thrown" "I").before _ s = true := hts _ (by decide +kernel)
  have lk7 : (Cond.fieldLink RX6 7 "StripeSwipesModel" "s" "[I").before _ s = true := hts _ (by decide +kernel)
  refine lv_aload_n hx hb dX6_setting_0 rfl (lv_at hl 0 rfl) ?_
  refine lv_iconst (v := nI 0) hx hb dX6_setting_1 (by decide) ?_
  refine va_put (D := D) (ci := 6) (v := .int (nI 0)) (ty := .int) (C := RX6) (T := TX6) (N := 21) hx hb hts hiX6 tyX6 tyX6_ok nmX6 hown hKv hP hD hS 0 rfl rfl 0 (by decide) lk38 (fun _ h9 => h9) rfl (by decide +kernel) rfl rfl (kk_le rfl) dX6_setting_2 (fun H locs hP hD hS => ?_)
  have hP : va_P D vwCl [(om, .inr (6, [.int (nI 0), .ref a1, .ref a2, .ref a3, .int sv, .ref a4, .ref a5, .ref a6, .int ln, .ref a7, .int bm, .int br, .int ck, .int sa, .ref a8, .int lm, .int rs, .int at_, .ref a9, .int tm, .long hs])), (a1, .inl (ca 0, 226, .inl (sF z r f j nt nl gl gt)))] H := hP
  have hD : va_D A [(om, .inr (6, [.int (nI 0), .ref a1, .ref a2, .ref a3, .int sv, .ref a4, .ref a5, .ref a6, .int ln, .ref a7, .int bm, .int br, .int ck, .int sa, .ref a8, .int lm, .int rs, .int at_, .ref a9, .int tm, .long hs])), (a1, .inl (ca 0, 226, .inl (sF z r f j nt nl gl gt)))] := hD
  refine lv_iload_n hx hb dX6_setting_5 rfl (lv_at hl 1 rfl) ?_
  refine lv_iconst (v := nI 0) hx hb dX6_setting_6 (by decide) ?_
  refine lv_iconst (v := nI 3) hx hb dX6_setting_7 (by decide) ?_
  refine vp_callSi (va_Run.run (va_runS (As := [.int (nI 2), .int (nI 0), .int (nI 3)]) (rest := []) ⟨hx, hb, hml, hown, hts⟩ (kX6_in l (nI 2) (nI 0) (nI 3)) (va_cwS 3 hts gX6_setting_X6_in rfl rfl rfl (by decide +kernel) ⟨kk_le rfl, kk_le rfl⟩) psN rfl rfl hl.1 rfl (lv_room (kk_le rfl)) dX6_setting_8 ⟨kk_le rfl, kk_le rfl⟩)) (fun r1 hr1 => ?_)
  subst hr1
  have e2 : (bI (inF (nI 2) (nI 0) (nI 3)) : Int32) = bI true := congrArg bI (by decide)
  rw [e2]
  refine bi_if_eq (tgt := 23) hx hb dX6_setting_11 (by decide) (fun c3 => ?_) (fun c3 => ?_)
  · first | exact False.elim c3 | exact absurd c3 (by decide) | (exfalso; omega)
  · refine lv_aload_n hx hb dX6_setting_14 rfl (lv_at hl 0 rfl) ?_
    refine va_get (D := D) (ci := 6) (C := RX6) (T := TX6) (N := 21) hx hb hts hiX6 hown hKv hP 0 rfl rfl 1 (by decide) lk7 (fun _ h9 => h9) rfl dX6_setting_15 ?_
    refine lv_iload_n hx hb dX6_setting_18 rfl (lv_at hl 1 rfl) ?_
    refine my_iald hx hb hK hP 1 rfl (by omega) (by omega) dX6_setting_19 ?_
    rw [show sF z r f j nt nl gl gt 2 = f from rfl]
    refine lv_goto (tgt := 28) hx hb dX6_setting_20 (by decide) ?_
    exact W.iret (v := f) hx hb hr (fun t ht hW => ⟨⟨_, (), rfl, ⟨by rfl, by trivial⟩, by rw [ht]; exact hP, hD⟩, hS.F ht⟩) hS.2.2 dX6_setting_28
abbrev rm_kX6_setting_3 : Room := { frames := 1, cells := 0, slots := 0, locals := 22 }
set_option maxHeartbeats 4000000 in
set_option maxRecDepth 100000 in
theorem kX6_setting_3 (l : Launch) (D : va_G) (ca : Nat → ClassId) (sz : Nat) (om a1 a2 a3 a4 a5 a6 a7 a8 a9 : Nat) (thr sv ln bm br ck sa lm rs at_ tm : Int32) (hs : Int64) (z : Nat) (r f j : Int32) (nt nl : Nat) (gl gt : Nat → Int32) (hnt : nt ≤ 200) (hnl : nl ≤ 20) (hz : z ≤ 30) : Met l yX6_setting wsX6_setting rm_kX6_setting_3 (pcM D ca [.ref om, .int (nI 3)] [(om, .inr (6, [.int thr, .ref a1, .ref a2, .ref a3, .int sv, .ref a4, .ref a5, .ref a6, .int ln, .ref a7, .int bm, .int br, .int ck, .int sa, .ref a8, .int lm, .int rs, .int at_, .ref a9, .int tm, .long hs])), (a1, .inl (ca 0, 226, .inl (sF z r f j nt nl gl gt)))] sz) (va_Qi (fun (zr : Int32) (u : Unit) => zr = j ∧ True) (qB D (va_A [(om, .inr (6, [.int thr, .ref a1, .ref a2, .ref a3, .int sv, .ref a4, .ref a5, .ref a6, .int ln, .ref a7, .int bm, .int br, .int ck, .int sa, .ref a8, .int lm, .int rs, .int at_, .ref a9, .int tm, .long hs])), (a1, .inl (ca 0, 226, .inl (sF z r f j nt nl gl gt)))] sz) (fun u : Unit => [(om, .inr (6, [.int (nI 0), .ref a1, .ref a2, .ref a3, .int sv, .ref a4, .ref a5, .ref a6, .int ln, .ref a7, .int bm, .int br, .int ck, .int sa, .ref a8, .int lm, .int rs, .int at_, .ref a9, .int tm, .long hs])), (a1, .inl (ca 0, 226, .inl (sF z r f j nt nl gl gt)))])) (va_A [(om, .inr (6, [.int thr, .ref a1, .ref a2, .ref a3, .int sv, .ref a4, .ref a5, .ref a6, .int ln, .ref a7, .int bm, .int br, .int ck, .int sa, .ref a8, .int lm, .int rs, .int at_, .ref a9, .int tm, .long hs])), (a1, .inl (ca 0, 226, .inl (sF z r f j nt nl gl gt)))] sz)) 0 0 (va_A [(om, .inr (6, [.int thr, .ref a1, .ref a2, .ref a3, .int sv, .ref a4, .ref a5, .ref a6, .int ln, .ref a7, .int bm, .int br, .int ck, .int sa, .ref a8, .int lm, .int rs, .int at_, .ref a9, .int tm, .long hs])), (a1, .inl (ca 0, 226, .inl (sF z r f j nt nl gl gt)))] sz) := by
  refine Met.ofW (cc := cX6_setting) (maxL := 2) (ret := (some .int)) (by decide) rfl ?_
  intro p e s m args below meth c s₁ B hml hv
  obtain ⟨rfl, hsz, hP, hK, hD0⟩ := hv
  have hx := B.exec
  have hb := B.bytes
  have hr := B.returns
  have hts := atoms_spec (ws := wsX6_setting) B.pre
  have hown : s.vm.findClass RX6 = some m.cls := findClass_of_methodNamed B.named
  have hlocks := B.notSynchronized
  subst hsz
  have hD := hD0.self (sz := s.heap.size)
  generalize hAe : va_A [(om, .inr (6, [.int thr, .ref a1, .ref a2, .ref a3, .int sv, .ref a4, .ref a5, .ref a6, .int ln, .ref a7, .int bm, .int br, .int ck, .int sa, .ref a8, .int lm, .int rs, .int at_, .ref a9, .int tm, .long hs])), (a1, .inl (ca 0, 226, .inl (sF z r f j nt nl gl gt)))] s.heap.size = A at hD ⊢
  have hA : ∀ q : Nat, s.heap.size ≤ q → A q := fun q h => by rw [← hAe]; exact Or.inr h
  have hS : va_S A s.heap s.heap [] := va_S.rf
  have hP : va_P D vwCl [(om, .inr (6, [.int thr, .ref a1, .ref a2, .ref a3, .int sv, .ref a4, .ref a5, .ref a6, .int ln, .ref a7, .int bm, .int br, .int ck, .int sa, .ref a8, .int lm, .int rs, .int at_, .ref a9, .int tm, .long hs])), (a1, .inl (ca 0, 226, .inl (sF z r f j nt nl gl gt)))] s.heap := hP
  have hKv := hK.1
  have hl := lv_entry ([.ref om, .int (nI 3)]) (n := 2) (kk_le rfl)
  rw [lg_entry_eq]
  generalize (lg_sl ([.ref om, .int (nI 3)]) ++ List.replicate (2 - (lg_sl ([.ref om, .int (nI 3)])).length) Slot.unset).toArray = ls at hl ⊢
  have hl : lv_has ls 2 [(0, .ref om), (1, .int (nI 3))] := hl
  have hiX6 : ∀ w ∈ u_ws RX6 TX6 21, w ∈ wsX6_setting := fun w h => by first | exact List.mem_cons_of_mem _ (List.mem_append_right _ h) | exact List.mem_cons_of_mem _ (List.mem_append_left _ (List.mem_append_right _ h)) | exact List.mem_cons_of_mem _ (List.mem_append_left _ (List.mem_append_left _ (List.mem_append_right _ h))) | exact List.mem_cons_of_mem _ (List.mem_append_left _ (List.mem_append_left _ (List.mem_append_left _ (List.mem_append_right _ h)))) | (revert w h; decide +kernel)
  have lk38 : (Cond.fieldLink RX6 38 "StripeSwipesModel" "thrown" "I").before _ s = true := hts _ (by decide +kernel)
  have lk7 : (Cond.fieldLink RX6 7 "StripeSwipesModel" "s" "[I").before _ s = true := hts _ (by decide +kernel)
  refine lv_aload_n hx hb dX6_setting_0 rfl (lv_at hl 0 rfl) ?_
  refine lv_iconst (v := nI 0) hx hb dX6_setting_1 (by decide) ?_
  refine va_put (D := D) (ci := 6) (v := .int (nI 0)) (ty := .int) (C := RX6) (T := TX6) (N := 21) hx hb hts hiX6 tyX6 tyX6_ok nmX6 hown hKv hP hD hS 0 rfl rfl 0 (by decide) lk38 (fun _ h9 => h9) rfl (by decide +kernel) rfl rfl (kk_le rfl) dX6_setting_2 (fun H locs hP hD hS => ?_)
  have hP : va_P D vwCl [(om, .inr (6, [.int (nI 0), .ref a1, .ref a2, .ref a3, .int sv, .ref a4, .ref a5, .ref a6, .int ln, .ref a7, .int bm, .int br, .int ck, .int sa, .ref a8, .int lm, .int rs, .int at_, .ref a9, .int tm, .long hs])), (a1, .inl (ca 0, 226, .inl (sF z r f j nt nl gl gt)))] H := hP
  have hD : va_D A [(om, .inr (6, [.int (nI 0), .ref a1, .ref a2, .ref a3, .int sv, .ref a4, .ref a5, .ref a6, .int ln, .ref a7, .int bm, .int br, .int ck, .int sa, .ref a8, .int lm, .int rs, .int at_, .ref a9, .int tm, .long hs])), (a1, .inl (ca 0, 226, .inl (sF z r f j nt nl gl gt)))] := hD
  refine lv_iload_n hx hb dX6_setting_5 rfl (lv_at hl 1 rfl) ?_
  refine lv_iconst (v := nI 0) hx hb dX6_setting_6 (by decide) ?_
  refine lv_iconst (v := nI 3) hx hb dX6_setting_7 (by decide) ?_
  refine vp_callSi (va_Run.run (va_runS (As := [.int (nI 3), .int (nI 0), .int (nI 3)]) (rest := []) ⟨hx, hb, hml, hown, hts⟩ (kX6_in l (nI 3) (nI 0) (nI 3)) (va_cwS 3 hts gX6_setting_X6_in rfl rfl rfl (by decide +kernel) ⟨kk_le rfl, kk_le rfl⟩) psN rfl rfl hl.1 rfl (lv_room (kk_le rfl)) dX6_setting_8 ⟨kk_le rfl, kk_le rfl⟩)) (fun r1 hr1 => ?_)
  subst hr1
  have e2 : (bI (inF (nI 3) (nI 0) (nI 3)) : Int32) = bI true := congrArg bI (by decide)
  rw [e2]
  refine bi_if_eq (tgt := 23) hx hb dX6_setting_11 (by decide) (fun c3 => ?_) (fun c3 => ?_)
  · first | exact False.elim c3 | exact absurd c3 (by decide) | (exfalso; omega)
  · refine lv_aload_n hx hb dX6_setting_14 rfl (lv_at hl 0 rfl) ?_
    refine va_get (D := D) (ci := 6) (C := RX6) (T := TX6) (N := 21) hx hb hts hiX6 hown hKv hP 0 rfl rfl 1 (by decide) lk7 (fun _ h9 => h9) rfl dX6_setting_15 ?_
    refine lv_iload_n hx hb dX6_setting_18 rfl (lv_at hl 1 rfl) ?_
    refine my_iald hx hb hK hP 1 rfl (by omega) (by omega) dX6_setting_19 ?_
    rw [show sF z r f j nt nl gl gt 3 = j from rfl]
    refine lv_goto (tgt := 28) hx hb dX6_setting_20 (by decide) ?_
    exact W.iret (v := j) hx hb hr (fun t ht hW => ⟨⟨_, (), rfl, ⟨by rfl, by trivial⟩, by rw [ht]; exact hP, hD⟩, hS.F ht⟩) hS.2.2 dX6_setting_28
abbrev rm_kX6_setting_bad : Room := { frames := 1, cells := 0, slots := 0, locals := 22 }
set_option maxHeartbeats 4000000 in
set_option maxRecDepth 100000 in
theorem kX6_setting_bad (l : Launch) (D : va_G) (ca : Nat → ClassId) (sz : Nat) (om a1 a2 a3 a4 a5 a6 a7 a8 a9 : Nat) (thr sv ln bm br ck sa lm rs at_ tm : Int32) (hs : Int64) (z : Nat) (r f j : Int32) (nt nl : Nat) (gl gt : Nat → Int32) (x : Int32) (hnt : nt ≤ 200) (hnl : nl ≤ 20) (hz : z ≤ 30) (hbad : hasF 4 x = false) : Met l yX6_setting wsX6_setting rm_kX6_setting_bad (pcM D ca [.ref om, .int x] [(om, .inr (6, [.int thr, .ref a1, .ref a2, .ref a3, .int sv, .ref a4, .ref a5, .ref a6, .int ln, .ref a7, .int bm, .int br, .int ck, .int sa, .ref a8, .int lm, .int rs, .int at_, .ref a9, .int tm, .long hs])), (a1, .inl (ca 0, 226, .inl (sF z r f j nt nl gl gt)))] sz) (va_Qi (fun (zr : Int32) (u : Unit) => zr = nI 0 ∧ True) (qB D (va_A [(om, .inr (6, [.int thr, .ref a1, .ref a2, .ref a3, .int sv, .ref a4, .ref a5, .ref a6, .int ln, .ref a7, .int bm, .int br, .int ck, .int sa, .ref a8, .int lm, .int rs, .int at_, .ref a9, .int tm, .long hs])), (a1, .inl (ca 0, 226, .inl (sF z r f j nt nl gl gt)))] sz) (fun u : Unit => [(om, .inr (6, [.int (nI 1), .ref a1, .ref a2, .ref a3, .int sv, .ref a4, .ref a5, .ref a6, .int ln, .ref a7, .int bm, .int br, .int ck, .int sa, .ref a8, .int lm, .int rs, .int at_, .ref a9, .int tm, .long hs])), (a1, .inl (ca 0, 226, .inl (sF z r f j nt nl gl gt)))])) (va_A [(om, .inr (6, [.int thr, .ref a1, .ref a2, .ref a3, .int sv, .ref a4, .ref a5, .ref a6, .int ln, .ref a7, .int bm, .int br, .int ck, .int sa, .ref a8, .int lm, .int rs, .int at_, .ref a9, .int tm, .long hs])), (a1, .inl (ca 0, 226, .inl (sF z r f j nt nl gl gt)))] sz)) 0 0 (va_A [(om, .inr (6, [.int thr, .ref a1, .ref a2, .ref a3, .int sv, .ref a4, .ref a5, .ref a6, .int ln, .ref a7, .int bm, .int br, .int ck, .int sa, .ref a8, .int lm, .int rs, .int at_, .ref a9, .int tm, .long hs])), (a1, .inl (ca 0, 226, .inl (sF z r f j nt nl gl gt)))] sz) := by
  refine Met.ofW (cc := cX6_setting) (maxL := 2) (ret := (some .int)) (by decide) rfl ?_
  intro p e s m args below meth c s₁ B hml hv
  obtain ⟨rfl, hsz, hP, hK, hD0⟩ := hv
  have hx := B.exec
  have hb := B.bytes
  have hr := B.returns
  have hts := atoms_spec (ws := wsX6_setting) B.pre
  have hown : s.vm.findClass RX6 = some m.cls := findClass_of_methodNamed B.named
  have hlocks := B.notSynchronized
  subst hsz
  have hD := hD0.self (sz := s.heap.size)
  generalize hAe : va_A [(om, .inr (6, [.int thr, .ref a1, .ref a2, .ref a3, .int sv, .ref a4, .ref a5, .ref a6, .int ln, .ref a7, .int bm, .int br, .int ck, .int sa, .ref a8, .int lm, .int rs, .int at_, .ref a9, .int tm, .long hs])), (a1, .inl (ca 0, 226, .inl (sF z r f j nt nl gl gt)))] s.heap.size = A at hD ⊢
  have hA : ∀ q : Nat, s.heap.size ≤ q → A q := fun q h => by rw [← hAe]; exact Or.inr h
  have hS : va_S A s.heap s.heap [] := va_S.rf
  have hP : va_P D vwCl [(om, .inr (6, [.int thr, .ref a1, .ref a2, .ref a3, .int sv, .ref a4, .ref a5, .ref a6, .int ln, .ref a7, .int bm, .int br, .int ck, .int sa, .ref a8, .int lm, .int rs, .int at_, .ref a9, .int tm, .long hs])), (a1, .inl (ca 0, 226, .inl (sF z r f j nt nl gl gt)))] s.heap := hP
  have hKv := hK.1
  have hl := lv_entry ([.ref om, .int x]) (n := 2) (kk_le rfl)
  rw [lg_entry_eq]
  generalize (lg_sl ([.ref om, .int x]) ++ List.replicate (2 - (lg_sl ([.ref om, .int x])).length) Slot.unset).toArray = ls at hl ⊢
  have hl : lv_has ls 2 [(0, .ref om), (1, .int x)] := hl
  have hiX6 : ∀ w ∈ u_ws RX6 TX6 21, w ∈ wsX6_setting := fun w h => by first | exact List.mem_cons_of_mem _ (List.mem_append_right _ h) | exact List.mem_cons_of_mem _ (List.mem_append_left _ (List.mem_append_right _ h)) | exact List.mem_cons_of_mem _ (List.mem_append_left _ (List.mem_append_left _ (List.mem_append_right _ h))) | exact List.mem_cons_of_mem _ (List.mem_append_left _ (List.mem_append_left _ (List.mem_append_left _ (List.mem_append_right _ h)))) | (revert w h; decide +kernel)
  have lk38 : (Cond.fieldLink RX6 38 "StripeSwipesModel" "thrown" "I").before _ s = true := hts _ (by decide +kernel)
  refine lv_aload_n hx hb dX6_setting_0 rfl (lv_at hl 0 rfl) ?_
  refine lv_iconst (v := nI 0) hx hb dX6_setting_1 (by decide) ?_
  refine va_put (D := D) (ci := 6) (v := .int (nI 0)) (ty := .int) (C := RX6) (T := TX6) (N := 21) hx hb hts hiX6 tyX6 tyX6_ok nmX6 hown hKv hP hD hS 0 rfl rfl 0 (by decide) lk38 (fun _ h9 => h9) rfl (by decide +kernel) rfl rfl (kk_le rfl) dX6_setting_2 (fun H locs hP hD hS => ?_)
  have hP : va_P D vwCl [(om, .inr (6, [.int (nI 0), .ref a1, .ref a2, .ref a3, .int sv, .ref a4, .ref a5, .ref a6, .int ln, .ref a7, .int bm, .int br, .int ck, .int sa, .ref a8, .int lm, .int rs, .int at_, .ref a9, .int tm, .long hs])), (a1, .inl (ca 0, 226, .inl (sF z r f j nt nl gl gt)))] H := hP
  have hD : va_D A [(om, .inr (6, [.int (nI 0), .ref a1, .ref a2, .ref a3, .int sv, .ref a4, .ref a5, .ref a6, .int ln, .ref a7, .int bm, .int br, .int ck, .int sa, .ref a8, .int lm, .int rs, .int at_, .ref a9, .int tm, .long hs])), (a1, .inl (ca 0, 226, .inl (sF z r f j nt nl gl gt)))] := hD
  refine lv_iload_n hx hb dX6_setting_5 rfl (lv_at hl 1 rfl) ?_
  refine lv_iconst (v := nI 0) hx hb dX6_setting_6 (by decide) ?_
  refine lv_iconst (v := nI 3) hx hb dX6_setting_7 (by decide) ?_
  refine vp_callSi (va_Run.run (va_runS (As := [.int x, .int (nI 0), .int (nI 3)]) (rest := []) ⟨hx, hb, hml, hown, hts⟩ (kX6_in l x (nI 0) (nI 3)) (va_cwS 3 hts gX6_setting_X6_in rfl rfl rfl (by decide +kernel) ⟨kk_le rfl, kk_le rfl⟩) psN rfl rfl hl.1 rfl (lv_room (kk_le rfl)) dX6_setting_8 ⟨kk_le rfl, kk_le rfl⟩)) (fun r1 hr1 => ?_)
  subst hr1
  have e2 : (bI (inF x (nI 0) (nI 3)) : Int32) = bI false := congrArg bI ((inp_k (n := 4) rfl (by decide)).trans hbad)
  rw [e2]
  refine bi_if_eq (tgt := 23) hx hb dX6_setting_11 (by decide) (fun c3 => ?_) (fun c3 => ?_)
  · refine lv_aload_n hx hb dX6_setting_23 rfl (lv_at hl 0 rfl) ?_
    refine lv_iconst (v := nI 1) hx hb dX6_setting_24 (by decide) ?_
    have hPc := hP.sub (ws' := [(om, .inr (6, [.int (nI 0), .ref a1, .ref a2, .ref a3, .int sv, .ref a4, .ref a5, .ref a6, .int ln, .ref a7, .int bm, .int br, .int ck, .int sa, .ref a8, .int lm, .int rs, .int at_, .ref a9, .int tm, .long hs]))]) [0] rfl
    have hDc := hD.sub (ws' := [(om, .inr (6, [.int (nI 0), .ref a1, .ref a2, .ref a3, .int sv, .ref a4, .ref a5, .ref a6, .int ln, .ref a7, .int bm, .int br, .int ck, .int sa, .ref a8, .int lm, .int rs, .int at_, .ref a9, .int tm, .long hs]))]) [0] (by decide) rfl
    have hFc := va_free (wc := [(om, .inr (6, [.int (nI 0), .ref a1, .ref a2, .ref a3, .int sv, .ref a4, .ref a5, .ref a6, .int ln, .ref a7, .int bm, .int br, .int ck, .int sa, .ref a8, .int lm, .int rs, .int at_, .ref a9, .int tm, .long hs]))]) hD hS hA [0] rfl
    refine va_calli (va_runV (As := [.int (nI 1)]) (rest := []) ⟨hx, hb, hml, hown, hts⟩ (kX6_fails l D ca H.size om a1 a2 a3 a4 a5 a6 a7 a8 a9 (nI 0) sv ln bm br ck sa lm rs at_ tm hs (nI 1)) (cwV 1 hts gX6_setting_X6_fails rfl rfl rfl (by decide +kernel) ⟨kk_le rfl, kk_le rfl⟩) (pvM hK hPc (my_D_true hDc) (va_recv hKv hP (ci := 6) (q0 := 0) rfl rfl)) rfl rfl hl.1 rfl (lv_room (kk_le rfl)) dX6_setting_25 ⟨kk_le rfl, kk_le rfl⟩) hS (fun q _ h => hFc q h) hFc (fun r4 u t H1 locs ht hvm hwv hBv hz1 hk1 hS => ?_)
    obtain ⟨hP1, hD1⟩ := hBv
    rw [ht] at hP1
    have hP1 : va_P D vwCl [(om, .inr (6, [.int (nI 1), .ref a1, .ref a2, .ref a3, .int sv, .ref a4, .ref a5, .ref a6, .int ln, .ref a7, .int bm, .int br, .int ck, .int sa, .ref a8, .int lm, .int rs, .int at_, .ref a9, .int tm, .long hs]))] H1 := hP1
    have hD1 : va_D _ [(om, .inr (6, [.int (nI 1), .ref a1, .ref a2, .ref a3, .int sv, .ref a4, .ref a5, .ref a6, .int ln, .ref a7, .int bm, .int br, .int ck, .int sa, .ref a8, .int lm, .int rs, .int at_, .ref a9, .int tm, .long hs]))] := hD1
    obtain ⟨hr4, hw4⟩ := hwv
    subst hr4
    obtain ⟨hP, hD⟩ := va_join (wr := [(a1, .inl (ca 0, 226, .inl (sF z r f j nt nl gl gt)))]) (w1 := [(om, .inr (6, [.int (nI 1), .ref a1, .ref a2, .ref a3, .int sv, .ref a4, .ref a5, .ref a6, .int ln, .ref a7, .int bm, .int br, .int ck, .int sa, .ref a8, .int lm, .int rs, .int at_, .ref a9, .int tm, .long hs]))]) hP hD [0] [1] rfl rfl (by decide) (by decide) hk1 hFc hP1 hD1
    generalize H1 = H at hP hS ⊢
    have hP := hP.sub (ws' := [(om, .inr (6, [.int (nI 1), .ref a1, .ref a2, .ref a3, .int sv, .ref a4, .ref a5, .ref a6, .int ln, .ref a7, .int bm, .int br, .int ck, .int sa, .ref a8, .int lm, .int rs, .int at_, .ref a9, .int tm, .long hs])), (a1, .inl (ca 0, 226, .inl (sF z r f j nt nl gl gt)))]) [1, 0] rfl
    have hD := hD.sub (ws' := [(om, .inr (6, [.int (nI 1), .ref a1, .ref a2, .ref a3, .int sv, .ref a4, .ref a5, .ref a6, .int ln, .ref a7, .int bm, .int br, .int ck, .int sa, .ref a8, .int lm, .int rs, .int at_, .ref a9, .int tm, .long hs])), (a1, .inl (ca 0, 226, .inl (sF z r f j nt nl gl gt)))]) [1, 0] (by decide) rfl
    exact W.iret (v := nI 0) hx hb hr (fun t ht hW => ⟨⟨_, (), rfl, ⟨by rfl, by trivial⟩, by rw [ht]; exact hP, hD⟩, hS.F ht⟩) hS.2.2 dX6_setting_28
  · first | exact False.elim c3 | exact absurd c3 (by decide) | (exfalso; omega)
abbrev rm_kX6_isRight_ok : Room := { frames := 7, cells := 0, slots := 0, locals := 149 }
set_option maxHeartbeats 4000000 in
set_option maxRecDepth 100000 in
theorem kX6_isRight_ok (l : Launch) (D : va_G) (ca : Nat → ClassId) (sz : Nat) (om a1 a2 a3 a4 a5 a6 a7 a8 a9 : Nat) (thr sv ln bm br ck sa lm rs at_ tm : Int32) (hs : Int64) (z : Nat) (r f j : Int32) (nt nl : Nat) (gl gt : Nat → Int32) (fi fe : Nat → Int32) (hnt : nt ≤ 200) (hnl : nl ≤ 20) (hz : z ≤ 30) : Met l yX6_isRight wsX6_isRight rm_kX6_isRight_ok (pcM D ca [.ref om] [(om, .inr (6, [.int thr, .ref a1, .ref a2, .ref a3, .int sv, .ref a4, .ref a5, .ref a6, .int ln, .ref a7, .int bm, .int br, .int ck, .int sa, .ref a8, .int lm, .int rs, .int at_, .ref a9, .int tm, .long hs])), (a1, .inl (ca 0, 226, .inl (sF z r f j nt nl gl gt))), (a7, .inl (ca 0, 200, .inl fi)), (a8, .inl (ca 0, 40, .inl fe))] sz) (va_Qi (fun (zr : Int32) (u : Int32 × Int32 × Int32 × Int32 × Int32 × Int32 × (Nat → Int32) × (Nat → Int32)) => zr = rightT r f (lst gt nt) (lst gl nl) ∧ True) (qB D (va_A [(om, .inr (6, [.int thr, .ref a1, .ref a2, .ref a3, .int sv, .ref a4, .ref a5, .ref a6, .int ln, .ref a7, .int bm, .int br, .int ck, .int sa, .ref a8, .int lm, .int rs, .int at_, .ref a9, .int tm, .long hs])), (a1, .inl (ca 0, 226, .inl (sF z r f j nt nl gl gt))), (a7, .inl (ca 0, 200, .inl fi)), (a8, .inl (ca 0, 40, .inl fe))] sz) (fun u : Int32 × Int32 × Int32 × Int32 × Int32 × Int32 × (Nat → Int32) × (Nat → Int32) => [(om, .inr (6, [.int (nI 0), .ref a1, .ref a2, .ref a3, .int sv, .ref a4, .ref a5, .ref a6, .int ln, .ref a7, .int u.1, .int u.2.1, .int u.2.2.1, .int u.2.2.2.1, .ref a8, .int u.2.2.2.2.1, .int u.2.2.2.2.2.1, .int at_, .ref a9, .int tm, .long hs])), (a1, .inl (ca 0, 226, .inl (sF z r f j nt nl gl gt))), (a7, .inl (ca 0, 200, .inl u.2.2.2.2.2.2.1)), (a8, .inl (ca 0, 40, .inl u.2.2.2.2.2.2.2))])) (va_A [(om, .inr (6, [.int thr, .ref a1, .ref a2, .ref a3, .int sv, .ref a4, .ref a5, .ref a6, .int ln, .ref a7, .int bm, .int br, .int ck, .int sa, .ref a8, .int lm, .int rs, .int at_, .ref a9, .int tm, .long hs])), (a1, .inl (ca 0, 226, .inl (sF z r f j nt nl gl gt))), (a7, .inl (ca 0, 200, .inl fi)), (a8, .inl (ca 0, 40, .inl fe))] sz)) 0 0 (va_A [(om, .inr (6, [.int thr, .ref a1, .ref a2, .ref a3, .int sv, .ref a4, .ref a5, .ref a6, .int ln, .ref a7, .int bm, .int br, .int ck, .int sa, .ref a8, .int lm, .int rs, .int at_, .ref a9, .int tm, .long hs])), (a1, .inl (ca 0, 226, .inl (sF z r f j nt nl gl gt))), (a7, .inl (ca 0, 200, .inl fi)), (a8, .inl (ca 0, 40, .inl fe))] sz) := by
  refine Met.ofW (cc := cX6_isRight) (maxL := 1) (ret := (some .int)) (by decide) rfl ?_
  intro p e s m args below meth c s₁ B hml hv
  obtain ⟨rfl, hsz, hP, hK, hD0⟩ := hv
  have hx := B.exec
  have hb := B.bytes
  have hr := B.returns
  have hts := atoms_spec (ws := wsX6_isRight) B.pre
  have hown : s.vm.findClass RX6 = some m.cls := findClass_of_methodNamed B.named
  have hlocks := B.notSynchronized
  subst hsz
  have hD := hD0.self (sz := s.heap.size)
  generalize hAe : va_A [(om, .inr (6, [.int thr, .ref a1, .ref a2, .ref a3, .int sv, .ref a4, .ref a5, .ref a6, .int ln, .ref a7, .int bm, .int br, .int ck, .int sa, .ref a8, .int lm, .int rs, .int at_, .ref a9, .int tm, .long hs])), (a1, .inl (ca 0, 226, .inl (sF z r f j nt nl gl gt))), (a7, .inl (ca 0, 200, .inl fi)), (a8, .inl (ca 0, 40, .inl fe))] s.heap.size = A at hD ⊢
  have hA : ∀ q : Nat, s.heap.size ≤ q → A q := fun q h => by rw [← hAe]; exact Or.inr h
  have hS : va_S A s.heap s.heap [] := va_S.rf
  have hP : va_P D vwCl [(om, .inr (6, [.int thr, .ref a1, .ref a2, .ref a3, .int sv, .ref a4, .ref a5, .ref a6, .int ln, .ref a7, .int bm, .int br, .int ck, .int sa, .ref a8, .int lm, .int rs, .int at_, .ref a9, .int tm, .long hs])), (a1, .inl (ca 0, 226, .inl (sF z r f j nt nl gl gt))), (a7, .inl (ca 0, 200, .inl fi)), (a8, .inl (ca 0, 40, .inl fe))] s.heap := hP
  have hKv := hK.1
  have hl := lv_entry ([.ref om]) (n := 1) (kk_le rfl)
  rw [lg_entry_eq]
  generalize (lg_sl ([.ref om]) ++ List.replicate (1 - (lg_sl ([.ref om])).length) Slot.unset).toArray = ls at hl ⊢
  have hl : lv_has ls 1 [(0, .ref om)] := hl
  have hiX6 : ∀ w ∈ u_ws RX6 TX6 21, w ∈ wsX6_isRight := fun w h => by first | exact List.mem_cons_of_mem _ (List.mem_append_right _ h) | exact List.mem_cons_of_mem _ (List.mem_append_left _ (List.mem_append_right _ h)) | exact List.mem_cons_of_mem _ (List.mem_append_left _ (List.mem_append_left _ (List.mem_append_right _ h))) | exact List.mem_cons_of_mem _ (List.mem_append_left _ (List.mem_append_left _ (List.mem_append_left _ (List.mem_append_right _ h)))) | (revert w h; decide +kernel)
  have lk38 : (Cond.fieldLink RX6 38 "StripeSwipesModel" "thrown" "I").before _ s = true := hts _ (by decide +kernel)
  refine lv_aload_n hx hb dX6_isRight_0 rfl (lv_at hl 0 rfl) ?_
  refine lv_iconst (v := nI 0) hx hb dX6_isRight_1 (by decide) ?_
  refine va_put (D := D) (ci := 6) (v := .int (nI 0)) (ty := .int) (C := RX6) (T := TX6) (N := 21) hx hb hts hiX6 tyX6 tyX6_ok nmX6 hown hKv hP hD hS 0 rfl rfl 0 (by decide) lk38 (fun _ h9 => h9) rfl (by decide +kernel) rfl rfl (kk_le rfl) dX6_isRight_2 (fun H locs hP hD hS => ?_)
  have hP : va_P D vwCl [(om, .inr (6, [.int (nI 0), .ref a1, .ref a2, .ref a3, .int sv, .ref a4, .ref a5, .ref a6, .int ln, .ref a7, .int bm, .int br, .int ck, .int sa, .ref a8, .int lm, .int rs, .int at_, .ref a9, .int tm, .long hs])), (a1, .inl (ca 0, 226, .inl (sF z r f j nt nl gl gt))), (a7, .inl (ca 0, 200, .inl fi)), (a8, .inl (ca 0, 40, .inl fe))] H := hP
  have hD : va_D A [(om, .inr (6, [.int (nI 0), .ref a1, .ref a2, .ref a3, .int sv, .ref a4, .ref a5, .ref a6, .int ln, .ref a7, .int bm, .int br, .int ck, .int sa, .ref a8, .int lm, .int rs, .int at_, .ref a9, .int tm, .long hs])), (a1, .inl (ca 0, 226, .inl (sF z r f j nt nl gl gt))), (a7, .inl (ca 0, 200, .inl fi)), (a8, .inl (ca 0, 40, .inl fe))] := hD
  refine lv_aload_n hx hb dX6_isRight_5 rfl (lv_at hl 0 rfl) ?_
  have hPc := hP
  have hDc := hD
  have hFc := va_free (wc := [(om, .inr (6, [.int (nI 0), .ref a1, .ref a2, .ref a3, .int sv, .ref a4, .ref a5, .ref a6, .int ln, .ref a7, .int bm, .int br, .int ck, .int sa, .ref a8, .int lm, .int rs, .int at_, .ref a9, .int tm, .long hs])), (a1, .inl (ca 0, 226, .inl (sF z r f j nt nl gl gt))), (a7, .inl (ca 0, 200, .inl fi)), (a8, .inl (ca 0, 40, .inl fe))]) hD hS hA [0, 1, 2, 3] rfl
  refine va_calli (va_runV (As := []) (rest := []) ⟨hx, hb, hml, hown, hts⟩ (kX6_right l D ca H.size om a1 a2 a3 a4 a5 a6 a7 a8 a9 (nI 0) sv ln bm br ck sa lm rs at_ tm hs z r f j nt nl gl gt fi fe (by first | rfl | assumption | omega | trivial | (exfalso; omega)) (by first | rfl | assumption | omega | trivial | (exfalso; omega)) (by first | rfl | assumption | omega | trivial | (exfalso; omega))) (cwV 0 hts gX6_isRight_X6_right rfl rfl rfl (by decide +kernel) ⟨kk_le rfl, kk_le rfl⟩) (pvM hK hPc (my_D_true hDc) (va_recv hKv hP (ci := 6) (q0 := 0) rfl rfl)) rfl rfl hl.1 rfl (lv_room (kk_le rfl)) dX6_isRight_6 ⟨kk_le rfl, kk_le rfl⟩) hS (fun q _ h => hFc q h) hFc (fun r1 u t H1 locs ht hvm hwv hBv hz1 hk1 hS => ?_)
  obtain ⟨hP1, hD1⟩ := hBv
  rw [ht] at hP1
  obtain ⟨u1_0, u1_1, u1_2, u1_3, u1_4, u1_5, u1_6, u1_7⟩ := u
  have hP1 : va_P D vwCl [(om, .inr (6, [.int (nI 0), .ref a1, .ref a2, .ref a3, .int sv, .ref a4, .ref a5, .ref a6, .int ln, .ref a7, .int u1_0, .int u1_1, .int u1_2, .int u1_3, .ref a8, .int u1_4, .int u1_5, .int at_, .ref a9, .int tm, .long hs])), (a1, .inl (ca 0, 226, .inl (sF z r f j nt nl gl gt))), (a7, .inl (ca 0, 200, .inl u1_6)), (a8, .inl (ca 0, 40, .inl u1_7))] H1 := hP1
  have hD1 : va_D _ [(om, .inr (6, [.int (nI 0), .ref a1, .ref a2, .ref a3, .int sv, .ref a4, .ref a5, .ref a6, .int ln, .ref a7, .int u1_0, .int u1_1, .int u1_2, .int u1_3, .ref a8, .int u1_4, .int u1_5, .int at_, .ref a9, .int tm, .long hs])), (a1, .inl (ca 0, 226, .inl (sF z r f j nt nl gl gt))), (a7, .inl (ca 0, 200, .inl u1_6)), (a8, .inl (ca 0, 40, .inl u1_7))] := hD1
  obtain ⟨hr1, hw1⟩ := hwv
  subst hr1
  have hP := hP1
  have hD := hD1.weaken (fun _ _ _ h => hFc _ h)
  generalize H1 = H at hP hS ⊢
  have hP : va_P D vwCl [(om, .inr (6, [.int (nI 0), .ref a1, .ref a2, .ref a3, .int sv, .ref a4, .ref a5, .ref a6, .int ln, .ref a7, .int u1_0, .int u1_1, .int u1_2, .int u1_3, .ref a8, .int u1_4, .int u1_5, .int at_, .ref a9, .int tm, .long hs])), (a1, .inl (ca 0, 226, .inl (sF z r f j nt nl gl gt))), (a7, .inl (ca 0, 200, .inl u1_6)), (a8, .inl (ca 0, 40, .inl u1_7))] H := hP
  have hD : va_D A [(om, .inr (6, [.int (nI 0), .ref a1, .ref a2, .ref a3, .int sv, .ref a4, .ref a5, .ref a6, .int ln, .ref a7, .int u1_0, .int u1_1, .int u1_2, .int u1_3, .ref a8, .int u1_4, .int u1_5, .int at_, .ref a9, .int tm, .long hs])), (a1, .inl (ca 0, 226, .inl (sF z r f j nt nl gl gt))), (a7, .inl (ca 0, 200, .inl u1_6)), (a8, .inl (ca 0, 40, .inl u1_7))] := hD
  exact W.iret (v := rightT r f (lst gt nt) (lst gl nl)) hx hb hr (fun t ht hW => ⟨⟨_, (u1_0, u1_1, u1_2, u1_3, u1_4, u1_5, u1_6, u1_7), rfl, ⟨by rfl, by trivial⟩, by rw [ht]; exact hP, hD⟩, hS.F ht⟩) hS.2.2 dX6_isRight_9
abbrev rm_kX6_repair_ok : Room := { frames := 6, cells := 0, slots := 0, locals := 132 }
set_option maxHeartbeats 4000000 in
set_option maxRecDepth 100000 in
theorem kX6_repair_ok (l : Launch) (D : va_G) (ca : Nat → ClassId) (sz : Nat) (om a1 a2 a3 a4 a5 a6 a7 a8 a9 : Nat) (thr sv ln bm br ck sa lm rs at_ tm : Int32) (hs : Int64) (z : Nat) (r f j : Int32) (nt nl : Nat) (gl gt : Nat → Int32) (fi fe : Nat → Int32) (q : Nat) (hnt : nt ≤ 200) (hnl : nl ≤ 20) (hz : z ≤ 30) (hq : q < 2) : Met l yX6_repair wsX6_repair rm_kX6_repair_ok (pcM D ca [.ref om, .int (nI q)] [(om, .inr (6, [.int thr, .ref a1, .ref a2, .ref a3, .int sv, .ref a4, .ref a5, .ref a6, .int ln, .ref a7, .int bm, .int br, .int ck, .int sa, .ref a8, .int lm, .int rs, .int at_, .ref a9, .int tm, .long hs])), (a1, .inl (ca 0, 226, .inl (sF z r f j nt nl gl gt))), (a7, .inl (ca 0, 200, .inl fi)), (a8, .inl (ca 0, 40, .inl fe))] sz) (va_Qi (fun (zr : Int32) (u : Int32 × Int32 × Int32 × Int32 × Int32 × Int32 × (Nat → Int32) × (Nat → Int32)) => zr = repT r f (lst gt nt) q ∧ True) (qB D (va_A [(om, .inr (6, [.int thr, .ref a1, .ref a2, .ref a3, .int sv, .ref a4, .ref a5, .ref a6, .int ln, .ref a7, .int bm, .int br, .int ck, .int sa, .ref a8, .int lm, .int rs, .int at_, .ref a9, .int tm, .long hs])), (a1, .inl (ca 0, 226, .inl (sF z r f j nt nl gl gt))), (a7, .inl (ca 0, 200, .inl fi)), (a8, .inl (ca 0, 40, .inl fe))] sz) (fun u : Int32 × Int32 × Int32 × Int32 × Int32 × Int32 × (Nat → Int32) × (Nat → Int32) => [(om, .inr (6, [.int (nI 0), .ref a1, .ref a2, .ref a3, .int sv, .ref a4, .ref a5, .ref a6, .int ln, .ref a7, .int u.1, .int u.2.1, .int u.2.2.1, .int u.2.2.2.1, .ref a8, .int u.2.2.2.2.1, .int u.2.2.2.2.2.1, .int at_, .ref a9, .int tm, .long hs])), (a1, .inl (ca 0, 226, .inl (sF z r f j nt nl gl gt))), (a7, .inl (ca 0, 200, .inl u.2.2.2.2.2.2.1)), (a8, .inl (ca 0, 40, .inl u.2.2.2.2.2.2.2))])) (va_A [(om, .inr (6, [.int thr, .ref a1, .ref a2, .ref a3, .int sv, .ref a4, .ref a5, .ref a6, .int ln, .ref a7, .int bm, .int br, .int ck, .int sa, .ref a8, .int lm, .int rs, .int at_, .ref a9, .int tm, .long hs])), (a1, .inl (ca 0, 226, .inl (sF z r f j nt nl gl gt))), (a7, .inl (ca 0, 200, .inl fi)), (a8, .inl (ca 0, 40, .inl fe))] sz)) 0 0 (va_A [(om, .inr (6, [.int thr, .ref a1, .ref a2, .ref a3, .int sv, .ref a4, .ref a5, .ref a6, .int ln, .ref a7, .int bm, .int br, .int ck, .int sa, .ref a8, .int lm, .int rs, .int at_, .ref a9, .int tm, .long hs])), (a1, .inl (ca 0, 226, .inl (sF z r f j nt nl gl gt))), (a7, .inl (ca 0, 200, .inl fi)), (a8, .inl (ca 0, 40, .inl fe))] sz) := by
  refine Met.ofW (cc := cX6_repair) (maxL := 2) (ret := (some .int)) (by decide) rfl ?_
  intro p e s m args below meth c s₁ B hml hv
  obtain ⟨rfl, hsz, hP, hK, hD0⟩ := hv
  have hx := B.exec
  have hb := B.bytes
  have hr := B.returns
  have hts := atoms_spec (ws := wsX6_repair) B.pre
  have hown : s.vm.findClass RX6 = some m.cls := findClass_of_methodNamed B.named
  have hlocks := B.notSynchronized
  subst hsz
  have hD := hD0.self (sz := s.heap.size)
  generalize hAe : va_A [(om, .inr (6, [.int thr, .ref a1, .ref a2, .ref a3, .int sv, .ref a4, .ref a5, .ref a6, .int ln, .ref a7, .int bm, .int br, .int ck, .int sa, .ref a8, .int lm, .int rs, .int at_, .ref a9, .int tm, .long hs])), (a1, .inl (ca 0, 226, .inl (sF z r f j nt nl gl gt))), (a7, .inl (ca 0, 200, .inl fi)), (a8, .inl (ca 0, 40, .inl fe))] s.heap.size = A at hD ⊢
  have hA : ∀ q : Nat, s.heap.size ≤ q → A q := fun q h => by rw [← hAe]; exact Or.inr h
  have hS : va_S A s.heap s.heap [] := va_S.rf
  have hP : va_P D vwCl [(om, .inr (6, [.int thr, .ref a1, .ref a2, .ref a3, .int sv, .ref a4, .ref a5, .ref a6, .int ln, .ref a7, .int bm, .int br, .int ck, .int sa, .ref a8, .int lm, .int rs, .int at_, .ref a9, .int tm, .long hs])), (a1, .inl (ca 0, 226, .inl (sF z r f j nt nl gl gt))), (a7, .inl (ca 0, 200, .inl fi)), (a8, .inl (ca 0, 40, .inl fe))] s.heap := hP
  have hKv := hK.1
  have hl := lv_entry ([.ref om, .int (nI q)]) (n := 2) (kk_le rfl)
  rw [lg_entry_eq]
  generalize (lg_sl ([.ref om, .int (nI q)]) ++ List.replicate (2 - (lg_sl ([.ref om, .int (nI q)])).length) Slot.unset).toArray = ls at hl ⊢
  have hl : lv_has ls 2 [(0, .ref om), (1, .int (nI q))] := hl
  have hiX6 : ∀ w ∈ u_ws RX6 TX6 21, w ∈ wsX6_repair := fun w h => by first | exact List.mem_cons_of_mem _ (List.mem_append_right _ h) | exact List.mem_cons_of_mem _ (List.mem_append_left _ (List.mem_append_right _ h)) | exact List.mem_cons_of_mem _ (List.mem_append_left _ (List.mem_append_left _ (List.mem_append_right _ h))) | exact List.mem_cons_of_mem _ (List.mem_append_left _ (List.mem_append_left _ (List.mem_append_left _ (List.mem_append_right _ h)))) | (revert w h; decide +kernel)
  have lk38 : (Cond.fieldLink RX6 38 "StripeSwipesModel" "thrown" "I").before _ s = true := hts _ (by decide +kernel)
  refine lv_aload_n hx hb dX6_repair_0 rfl (lv_at hl 0 rfl) ?_
  refine lv_iconst (v := nI 0) hx hb dX6_repair_1 (by decide) ?_
  refine va_put (D := D) (ci := 6) (v := .int (nI 0)) (ty := .int) (C := RX6) (T := TX6) (N := 21) hx hb hts hiX6 tyX6 tyX6_ok nmX6 hown hKv hP hD hS 0 rfl rfl 0 (by decide) lk38 (fun _ h9 => h9) rfl (by decide +kernel) rfl rfl (kk_le rfl) dX6_repair_2 (fun H locs hP hD hS => ?_)
  have hP : va_P D vwCl [(om, .inr (6, [.int (nI 0), .ref a1, .ref a2, .ref a3, .int sv, .ref a4, .ref a5, .ref a6, .int ln, .ref a7, .int bm, .int br, .int ck, .int sa, .ref a8, .int lm, .int rs, .int at_, .ref a9, .int tm, .long hs])), (a1, .inl (ca 0, 226, .inl (sF z r f j nt nl gl gt))), (a7, .inl (ca 0, 200, .inl fi)), (a8, .inl (ca 0, 40, .inl fe))] H := hP
  have hD : va_D A [(om, .inr (6, [.int (nI 0), .ref a1, .ref a2, .ref a3, .int sv, .ref a4, .ref a5, .ref a6, .int ln, .ref a7, .int bm, .int br, .int ck, .int sa, .ref a8, .int lm, .int rs, .int at_, .ref a9, .int tm, .long hs])), (a1, .inl (ca 0, 226, .inl (sF z r f j nt nl gl gt))), (a7, .inl (ca 0, 200, .inl fi)), (a8, .inl (ca 0, 40, .inl fe))] := hD
  refine lv_iload_n hx hb dX6_repair_5 rfl (lv_at hl 1 rfl) ?_
  refine lv_iconst (v := nI 0) hx hb dX6_repair_6 (by decide) ?_
  refine lv_iconst (v := nI 1) hx hb dX6_repair_7 (by decide) ?_
  refine vp_callSi (va_Run.run (va_runS (As := [.int (nI q), .int (nI 0), .int (nI 1)]) (rest := []) ⟨hx, hb, hml, hown, hts⟩ (kX6_in l (nI q) (nI 0) (nI 1)) (va_cwS 3 hts gX6_repair_X6_in rfl rfl rfl (by decide +kernel) ⟨kk_le rfl, kk_le rfl⟩) psN rfl rfl hl.1 rfl (lv_room (kk_le rfl)) dX6_repair_8 ⟨kk_le rfl, kk_le rfl⟩)) (fun r1 hr1 => ?_)
  subst hr1
  have e2 : (bI (inF (nI q) (nI 0) (nI 1)) : Int32) = bI true := congrArg bI ((inp_k (n := 2) rfl (by decide)).trans ((hasF_n (by omega) (by omega)).trans (decide_eq_true (by omega))))
  rw [e2]
  refine bi_if_eq (tgt := 22) hx hb dX6_repair_11 (by decide) (fun c3 => ?_) (fun c3 => ?_)
  · first | exact False.elim c3 | exact absurd c3 (by decide) | (exfalso; omega)
  · refine lv_aload_n hx hb dX6_repair_14 rfl (lv_at hl 0 rfl) ?_
    refine lv_iload_n hx hb dX6_repair_15 rfl (lv_at hl 1 rfl) ?_
    have hPc := hP
    have hDc := hD
    have hFc := va_free (wc := [(om, .inr (6, [.int (nI 0), .ref a1, .ref a2, .ref a3, .int sv, .ref a4, .ref a5, .ref a6, .int ln, .ref a7, .int bm, .int br, .int ck, .int sa, .ref a8, .int lm, .int rs, .int at_, .ref a9, .int tm, .long hs])), (a1, .inl (ca 0, 226, .inl (sF z r f j nt nl gl gt))), (a7, .inl (ca 0, 200, .inl fi)), (a8, .inl (ca 0, 40, .inl fe))]) hD hS hA [0, 1, 2, 3] rfl
    refine va_calli (va_runV (As := [.int (nI q)]) (rest := []) ⟨hx, hb, hml, hown, hts⟩ (kX6_repairs l D ca H.size om a1 a2 a3 a4 a5 a6 a7 a8 a9 (nI 0) sv ln bm br ck sa lm rs at_ tm hs z r f j nt nl gl gt fi fe q (by first | rfl | assumption | omega | trivial | (exfalso; omega)) (by first | rfl | assumption | omega | trivial | (exfalso; omega)) (by first | rfl | assumption | omega | trivial | (exfalso; omega)) (by first | rfl | assumption | omega | trivial | (exfalso; omega))) (cwV 1 hts gX6_repair_X6_repairs rfl rfl rfl (by decide +kernel) ⟨kk_le rfl, kk_le rfl⟩) (pvM hK hPc (my_D_true hDc) (va_recv hKv hP (ci := 6) (q0 := 0) rfl rfl)) rfl rfl hl.1 rfl (lv_room (kk_le rfl)) dX6_repair_16 ⟨kk_le rfl, kk_le rfl⟩) hS (fun q _ h => hFc q h) hFc (fun r4 u t H1 locs ht hvm hwv hBv hz1 hk1 hS => ?_)
    obtain ⟨hP1, hD1⟩ := hBv
    rw [ht] at hP1
    obtain ⟨u4_0, u4_1, u4_2, u4_3, u4_4, u4_5, u4_6, u4_7⟩ := u
    have hP1 : va_P D vwCl [(om, .inr (6, [.int (nI 0), .ref a1, .ref a2, .ref a3, .int sv, .ref a4, .ref a5, .ref a6, .int ln, .ref a7, .int u4_0, .int u4_1, .int u4_2, .int u4_3, .ref a8, .int u4_4, .int u4_5, .int at_, .ref a9, .int tm, .long hs])), (a1, .inl (ca 0, 226, .inl (sF z r f j nt nl gl gt))), (a7, .inl (ca 0, 200, .inl u4_6)), (a8, .inl (ca 0, 40, .inl u4_7))] H1 := hP1
    have hD1 : va_D _ [(om, .inr (6, [.int (nI 0), .ref a1, .ref a2, .ref a3, .int sv, .ref a4, .ref a5, .ref a6, .int ln, .ref a7, .int u4_0, .int u4_1, .int u4_2, .int u4_3, .ref a8, .int u4_4, .int u4_5, .int at_, .ref a9, .int tm, .long hs])), (a1, .inl (ca 0, 226, .inl (sF z r f j nt nl gl gt))), (a7, .inl (ca 0, 200, .inl u4_6)), (a8, .inl (ca 0, 40, .inl u4_7))] := hD1
    obtain ⟨hr4, hw4⟩ := hwv
    subst hr4
    have hP := hP1
    have hD := hD1.weaken (fun _ _ _ h => hFc _ h)
    generalize H1 = H at hP hS ⊢
    have hP : va_P D vwCl [(om, .inr (6, [.int (nI 0), .ref a1, .ref a2, .ref a3, .int sv, .ref a4, .ref a5, .ref a6, .int ln, .ref a7, .int u4_0, .int u4_1, .int u4_2, .int u4_3, .ref a8, .int u4_4, .int u4_5, .int at_, .ref a9, .int tm, .long hs])), (a1, .inl (ca 0, 226, .inl (sF z r f j nt nl gl gt))), (a7, .inl (ca 0, 200, .inl u4_6)), (a8, .inl (ca 0, 40, .inl u4_7))] H := hP
    have hD : va_D A [(om, .inr (6, [.int (nI 0), .ref a1, .ref a2, .ref a3, .int sv, .ref a4, .ref a5, .ref a6, .int ln, .ref a7, .int u4_0, .int u4_1, .int u4_2, .int u4_3, .ref a8, .int u4_4, .int u4_5, .int at_, .ref a9, .int tm, .long hs])), (a1, .inl (ca 0, 226, .inl (sF z r f j nt nl gl gt))), (a7, .inl (ca 0, 200, .inl u4_6)), (a8, .inl (ca 0, 40, .inl u4_7))] := hD
    refine lv_goto (tgt := 27) hx hb dX6_repair_19 (by decide) ?_
    exact W.iret (v := repT r f (lst gt nt) q) hx hb hr (fun t ht hW => ⟨⟨_, (u4_0, u4_1, u4_2, u4_3, u4_4, u4_5, u4_6, u4_7), rfl, ⟨by rfl, by trivial⟩, by rw [ht]; exact hP, hD⟩, hS.F ht⟩) hS.2.2 dX6_repair_27
abbrev rm_kX6_repair_bad : Room := { frames := 1, cells := 0, slots := 0, locals := 22 }
set_option maxHeartbeats 4000000 in
set_option maxRecDepth 100000 in
theorem kX6_repair_bad (l : Launch) (D : va_G) (ca : Nat → ClassId) (sz : Nat) (om a1 a2 a3 a4 a5 a6 a7 a8 a9 : Nat) (thr sv ln bm br ck sa lm rs at_ tm : Int32) (hs : Int64) (z : Nat) (r f j : Int32) (nt nl : Nat) (gl gt : Nat → Int32) (fi fe : Nat → Int32) (x : Int32) (hnt : nt ≤ 200) (hnl : nl ≤ 20) (hz : z ≤ 30) (hbad : hasF 2 x = false) : Met l yX6_repair wsX6_repair rm_kX6_repair_bad (pcM D ca [.ref om, .int x] [(om, .inr (6, [.int thr, .ref a1, .ref a2, .ref a3, .int sv, .ref a4, .ref a5, .ref a6, .int ln, .ref a7, .int bm, .int br, .int ck, .int sa, .ref a8, .int lm, .int rs, .int at_, .ref a9, .int tm, .long hs])), (a1, .inl (ca 0, 226, .inl (sF z r f j nt nl gl gt))), (a7, .inl (ca 0, 200, .inl fi)), (a8, .inl (ca 0, 40, .inl fe))] sz) (va_Qi (fun (zr : Int32) (u : Unit) => zr = nI 0 ∧ True) (qB D (va_A [(om, .inr (6, [.int thr, .ref a1, .ref a2, .ref a3, .int sv, .ref a4, .ref a5, .ref a6, .int ln, .ref a7, .int bm, .int br, .int ck, .int sa, .ref a8, .int lm, .int rs, .int at_, .ref a9, .int tm, .long hs])), (a1, .inl (ca 0, 226, .inl (sF z r f j nt nl gl gt))), (a7, .inl (ca 0, 200, .inl fi)), (a8, .inl (ca 0, 40, .inl fe))] sz) (fun u : Unit => [(om, .inr (6, [.int (nI 1), .ref a1, .ref a2, .ref a3, .int sv, .ref a4, .ref a5, .ref a6, .int ln, .ref a7, .int bm, .int br, .int ck, .int sa, .ref a8, .int lm, .int rs, .int at_, .ref a9, .int tm, .long hs])), (a1, .inl (ca 0, 226, .inl (sF z r f j nt nl gl gt))), (a7, .inl (ca 0, 200, .inl fi)), (a8, .inl (ca 0, 40, .inl fe))])) (va_A [(om, .inr (6, [.int thr, .ref a1, .ref a2, .ref a3, .int sv, .ref a4, .ref a5, .ref a6, .int ln, .ref a7, .int bm, .int br, .int ck, .int sa, .ref a8, .int lm, .int rs, .int at_, .ref a9, .int tm, .long hs])), (a1, .inl (ca 0, 226, .inl (sF z r f j nt nl gl gt))), (a7, .inl (ca 0, 200, .inl fi)), (a8, .inl (ca 0, 40, .inl fe))] sz)) 0 0 (va_A [(om, .inr (6, [.int thr, .ref a1, .ref a2, .ref a3, .int sv, .ref a4, .ref a5, .ref a6, .int ln, .ref a7, .int bm, .int br, .int ck, .int sa, .ref a8, .int lm, .int rs, .int at_, .ref a9, .int tm, .long hs])), (a1, .inl (ca 0, 226, .inl (sF z r f j nt nl gl gt))), (a7, .inl (ca 0, 200, .inl fi)), (a8, .inl (ca 0, 40, .inl fe))] sz) := by
  refine Met.ofW (cc := cX6_repair) (maxL := 2) (ret := (some .int)) (by decide) rfl ?_
  intro p e s m args below meth c s₁ B hml hv
  obtain ⟨rfl, hsz, hP, hK, hD0⟩ := hv
  have hx := B.exec
  have hb := B.bytes
  have hr := B.returns
  have hts := atoms_spec (ws := wsX6_repair) B.pre
  have hown : s.vm.findClass RX6 = some m.cls := findClass_of_methodNamed B.named
  have hlocks := B.notSynchronized
  subst hsz
  have hD := hD0.self (sz := s.heap.size)
  generalize hAe : va_A [(om, .inr (6, [.int thr, .ref a1, .ref a2, .ref a3, .int sv, .ref a4, .ref a5, .ref a6, .int ln, .ref a7, .int bm, .int br, .int ck, .int sa, .ref a8, .int lm, .int rs, .int at_, .ref a9, .int tm, .long hs])), (a1, .inl (ca 0, 226, .inl (sF z r f j nt nl gl gt))), (a7, .inl (ca 0, 200, .inl fi)), (a8, .inl (ca 0, 40, .inl fe))] s.heap.size = A at hD ⊢
  have hA : ∀ q : Nat, s.heap.size ≤ q → A q := fun q h => by rw [← hAe]; exact Or.inr h
  have hS : va_S A s.heap s.heap [] := va_S.rf
  have hP : va_P D vwCl [(om, .inr (6, [.int thr, .ref a1, .ref a2, .ref a3, .int sv, .ref a4, .ref a5, .ref a6, .int ln, .ref a7, .int bm, .int br, .int ck, .int sa, .ref a8, .int lm, .int rs, .int at_, .ref a9, .int tm, .long hs])), (a1, .inl (ca 0, 226, .inl (sF z r f j nt nl gl gt))), (a7, .inl (ca 0, 200, .inl fi)), (a8, .inl (ca 0, 40, .inl fe))] s.heap := hP
  have hKv := hK.1
  have hl := lv_entry ([.ref om, .int x]) (n := 2) (kk_le rfl)
  rw [lg_entry_eq]
  generalize (lg_sl ([.ref om, .int x]) ++ List.replicate (2 - (lg_sl ([.ref om, .int x])).length) Slot.unset).toArray = ls at hl ⊢
  have hl : lv_has ls 2 [(0, .ref om), (1, .int x)] := hl
  have hiX6 : ∀ w ∈ u_ws RX6 TX6 21, w ∈ wsX6_repair := fun w h => by first | exact List.mem_cons_of_mem _ (List.mem_append_right _ h) | exact List.mem_cons_of_mem _ (List.mem_append_left _ (List.mem_append_right _ h)) | exact List.mem_cons_of_mem _ (List.mem_append_left _ (List.mem_append_left _ (List.mem_append_right _ h))) | exact List.mem_cons_of_mem _ (List.mem_append_left _ (List.mem_append_left _ (List.mem_append_left _ (List.mem_append_right _ h)))) | (revert w h; decide +kernel)
  have lk38 : (Cond.fieldLink RX6 38 "StripeSwipesModel" "thrown" "I").before _ s = true := hts _ (by decide +kernel)
  refine lv_aload_n hx hb dX6_repair_0 rfl (lv_at hl 0 rfl) ?_
  refine lv_iconst (v := nI 0) hx hb dX6_repair_1 (by decide) ?_
  refine va_put (D := D) (ci := 6) (v := .int (nI 0)) (ty := .int) (C := RX6) (T := TX6) (N := 21) hx hb hts hiX6 tyX6 tyX6_ok nmX6 hown hKv hP hD hS 0 rfl rfl 0 (by decide) lk38 (fun _ h9 => h9) rfl (by decide +kernel) rfl rfl (kk_le rfl) dX6_repair_2 (fun H locs hP hD hS => ?_)
  have hP : va_P D vwCl [(om, .inr (6, [.int (nI 0), .ref a1, .ref a2, .ref a3, .int sv, .ref a4, .ref a5, .ref a6, .int ln, .ref a7, .int bm, .int br, .int ck, .int sa, .ref a8, .int lm, .int rs, .int at_, .ref a9, .int tm, .long hs])), (a1, .inl (ca 0, 226, .inl (sF z r f j nt nl gl gt))), (a7, .inl (ca 0, 200, .inl fi)), (a8, .inl (ca 0, 40, .inl fe))] H := hP
  have hD : va_D A [(om, .inr (6, [.int (nI 0), .ref a1, .ref a2, .ref a3, .int sv, .ref a4, .ref a5, .ref a6, .int ln, .ref a7, .int bm, .int br, .int ck, .int sa, .ref a8, .int lm, .int rs, .int at_, .ref a9, .int tm, .long hs])), (a1, .inl (ca 0, 226, .inl (sF z r f j nt nl gl gt))), (a7, .inl (ca 0, 200, .inl fi)), (a8, .inl (ca 0, 40, .inl fe))] := hD
  refine lv_iload_n hx hb dX6_repair_5 rfl (lv_at hl 1 rfl) ?_
  refine lv_iconst (v := nI 0) hx hb dX6_repair_6 (by decide) ?_
  refine lv_iconst (v := nI 1) hx hb dX6_repair_7 (by decide) ?_
  refine vp_callSi (va_Run.run (va_runS (As := [.int x, .int (nI 0), .int (nI 1)]) (rest := []) ⟨hx, hb, hml, hown, hts⟩ (kX6_in l x (nI 0) (nI 1)) (va_cwS 3 hts gX6_repair_X6_in rfl rfl rfl (by decide +kernel) ⟨kk_le rfl, kk_le rfl⟩) psN rfl rfl hl.1 rfl (lv_room (kk_le rfl)) dX6_repair_8 ⟨kk_le rfl, kk_le rfl⟩)) (fun r1 hr1 => ?_)
  subst hr1
  have e2 : (bI (inF x (nI 0) (nI 1)) : Int32) = bI false := congrArg bI ((inp_k (n := 2) rfl (by decide)).trans hbad)
  rw [e2]
  refine bi_if_eq (tgt := 22) hx hb dX6_repair_11 (by decide) (fun c3 => ?_) (fun c3 => ?_)
  · refine lv_aload_n hx hb dX6_repair_22 rfl (lv_at hl 0 rfl) ?_
    refine lv_iconst (v := nI 1) hx hb dX6_repair_23 (by decide) ?_
    have hPc := hP.sub (ws' := [(om, .inr (6, [.int (nI 0), .ref a1, .ref a2, .ref a3, .int sv, .ref a4, .ref a5, .ref a6, .int ln, .ref a7, .int bm, .int br, .int ck, .int sa, .ref a8, .int lm, .int rs, .int at_, .ref a9, .int tm, .long hs]))]) [0] rfl
    have hDc := hD.sub (ws' := [(om, .inr (6, [.int (nI 0), .ref a1, .ref a2, .ref a3, .int sv, .ref a4, .ref a5, .ref a6, .int ln, .ref a7, .int bm, .int br, .int ck, .int sa, .ref a8, .int lm, .int rs, .int at_, .ref a9, .int tm, .long hs]))]) [0] (by decide) rfl
    have hFc := va_free (wc := [(om, .inr (6, [.int (nI 0), .ref a1, .ref a2, .ref a3, .int sv, .ref a4, .ref a5, .ref a6, .int ln, .ref a7, .int bm, .int br, .int ck, .int sa, .ref a8, .int lm, .int rs, .int at_, .ref a9, .int tm, .long hs]))]) hD hS hA [0] rfl
    refine va_calli (va_runV (As := [.int (nI 1)]) (rest := []) ⟨hx, hb, hml, hown, hts⟩ (kX6_fails l D ca H.size om a1 a2 a3 a4 a5 a6 a7 a8 a9 (nI 0) sv ln bm br ck sa lm rs at_ tm hs (nI 1)) (cwV 1 hts gX6_repair_X6_fails rfl rfl rfl (by decide +kernel) ⟨kk_le rfl, kk_le rfl⟩) (pvM hK hPc (my_D_true hDc) (va_recv hKv hP (ci := 6) (q0 := 0) rfl rfl)) rfl rfl hl.1 rfl (lv_room (kk_le rfl)) dX6_repair_24 ⟨kk_le rfl, kk_le rfl⟩) hS (fun q _ h => hFc q h) hFc (fun r4 u t H1 locs ht hvm hwv hBv hz1 hk1 hS => ?_)
    obtain ⟨hP1, hD1⟩ := hBv
    rw [ht] at hP1
    have hP1 : va_P D vwCl [(om, .inr (6, [.int (nI 1), .ref a1, .ref a2, .ref a3, .int sv, .ref a4, .ref a5, .ref a6, .int ln, .ref a7, .int bm, .int br, .int ck, .int sa, .ref a8, .int lm, .int rs, .int at_, .ref a9, .int tm, .long hs]))] H1 := hP1
    have hD1 : va_D _ [(om, .inr (6, [.int (nI 1), .ref a1, .ref a2, .ref a3, .int sv, .ref a4, .ref a5, .ref a6, .int ln, .ref a7, .int bm, .int br, .int ck, .int sa, .ref a8, .int lm, .int rs, .int at_, .ref a9, .int tm, .long hs]))] := hD1
    obtain ⟨hr4, hw4⟩ := hwv
    subst hr4
    obtain ⟨hP, hD⟩ := va_join (wr := [(a1, .inl (ca 0, 226, .inl (sF z r f j nt nl gl gt))), (a7, .inl (ca 0, 200, .inl fi)), (a8, .inl (ca 0, 40, .inl fe))]) (w1 := [(om, .inr (6, [.int (nI 1), .ref a1, .ref a2, .ref a3, .int sv, .ref a4, .ref a5, .ref a6, .int ln, .ref a7, .int bm, .int br, .int ck, .int sa, .ref a8, .int lm, .int rs, .int at_, .ref a9, .int tm, .long hs]))]) hP hD [0] [1, 2, 3] rfl rfl (by decide) (by decide) hk1 hFc hP1 hD1
    generalize H1 = H at hP hS ⊢
    have hP := hP.sub (ws' := [(om, .inr (6, [.int (nI 1), .ref a1, .ref a2, .ref a3, .int sv, .ref a4, .ref a5, .ref a6, .int ln, .ref a7, .int bm, .int br, .int ck, .int sa, .ref a8, .int lm, .int rs, .int at_, .ref a9, .int tm, .long hs])), (a1, .inl (ca 0, 226, .inl (sF z r f j nt nl gl gt))), (a7, .inl (ca 0, 200, .inl fi)), (a8, .inl (ca 0, 40, .inl fe))]) [3, 0, 1, 2] rfl
    have hD := hD.sub (ws' := [(om, .inr (6, [.int (nI 1), .ref a1, .ref a2, .ref a3, .int sv, .ref a4, .ref a5, .ref a6, .int ln, .ref a7, .int bm, .int br, .int ck, .int sa, .ref a8, .int lm, .int rs, .int at_, .ref a9, .int tm, .long hs])), (a1, .inl (ca 0, 226, .inl (sF z r f j nt nl gl gt))), (a7, .inl (ca 0, 200, .inl fi)), (a8, .inl (ca 0, 40, .inl fe))]) [3, 0, 1, 2] (by decide) rfl
    exact W.iret (v := nI 0) hx hb hr (fun t ht hW => ⟨⟨_, (), rfl, ⟨by rfl, by trivial⟩, by rw [ht]; exact hP, hD⟩, hS.F ht⟩) hS.2.2 dX6_repair_27
  · first | exact False.elim c3 | exact absurd c3 (by decide) | (exfalso; omega)
abbrev rm_kX6_ratios_ok : Room := { frames := 8, cells := 0, slots := 0, locals := 175 }
set_option maxHeartbeats 4000000 in
set_option maxRecDepth 100000 in
theorem kX6_ratios_ok (l : Launch) (D : va_G) (ca : Nat → ClassId) (sz : Nat) (om a1 a2 a3 a4 a5 a6 a7 a8 a9 : Nat) (thr sv ln bm br ck sa lm rs at_ tm : Int32) (hs : Int64) (z : Nat) (r f j : Int32) (nt nl : Nat) (gl gt : Nat → Int32) (fi fe : Nat → Int32) (q : Nat) (hnt : nt ≤ 200) (hnl : nl ≤ 20) (hz : z ≤ 30) (hq : q < 3) : Met l yX6_ratios wsX6_ratios rm_kX6_ratios_ok (pcM D ca [.ref om, .int (nI q)] [(om, .inr (6, [.int thr, .ref a1, .ref a2, .ref a3, .int sv, .ref a4, .ref a5, .ref a6, .int ln, .ref a7, .int bm, .int br, .int ck, .int sa, .ref a8, .int lm, .int rs, .int at_, .ref a9, .int tm, .long hs])), (a1, .inl (ca 0, 226, .inl (sF z r f j nt nl gl gt))), (a7, .inl (ca 0, 200, .inl fi)), (a8, .inl (ca 0, 40, .inl fe))] sz) (va_Qi (fun (zr : Int32) (u : Int32 × Int32 × Int32 × Int32 × Int32 × Int32 × (Nat → Int32) × (Nat → Int32)) => zr = tolR q (GLr f (lst gt nt) (lst gl nl) 46) ∧ True) (qB D (va_A [(om, .inr (6, [.int thr, .ref a1, .ref a2, .ref a3, .int sv, .ref a4, .ref a5, .ref a6, .int ln, .ref a7, .int bm, .int br, .int ck, .int sa, .ref a8, .int lm, .int rs, .int at_, .ref a9, .int tm, .long hs])), (a1, .inl (ca 0, 226, .inl (sF z r f j nt nl gl gt))), (a7, .inl (ca 0, 200, .inl fi)), (a8, .inl (ca 0, 40, .inl fe))] sz) (fun u : Int32 × Int32 × Int32 × Int32 × Int32 × Int32 × (Nat → Int32) × (Nat → Int32) => [(om, .inr (6, [.int (nI 0), .ref a1, .ref a2, .ref a3, .int sv, .ref a4, .ref a5, .ref a6, .int ln, .ref a7, .int u.1, .int u.2.1, .int u.2.2.1, .int u.2.2.2.1, .ref a8, .int u.2.2.2.2.1, .int u.2.2.2.2.2.1, .int at_, .ref a9, .int tm, .long hs])), (a1, .inl (ca 0, 226, .inl (sF z r f j nt nl gl gt))), (a7, .inl (ca 0, 200, .inl u.2.2.2.2.2.2.1)), (a8, .inl (ca 0, 40, .inl u.2.2.2.2.2.2.2))])) (va_A [(om, .inr (6, [.int thr, .ref a1, .ref a2, .ref a3, .int sv, .ref a4, .ref a5, .ref a6, .int ln, .ref a7, .int bm, .int br, .int ck, .int sa, .ref a8, .int lm, .int rs, .int at_, .ref a9, .int tm, .long hs])), (a1, .inl (ca 0, 226, .inl (sF z r f j nt nl gl gt))), (a7, .inl (ca 0, 200, .inl fi)), (a8, .inl (ca 0, 40, .inl fe))] sz)) 0 0 (va_A [(om, .inr (6, [.int thr, .ref a1, .ref a2, .ref a3, .int sv, .ref a4, .ref a5, .ref a6, .int ln, .ref a7, .int bm, .int br, .int ck, .int sa, .ref a8, .int lm, .int rs, .int at_, .ref a9, .int tm, .long hs])), (a1, .inl (ca 0, 226, .inl (sF z r f j nt nl gl gt))), (a7, .inl (ca 0, 200, .inl fi)), (a8, .inl (ca 0, 40, .inl fe))] sz) := by
  refine Met.ofW (cc := cX6_ratios) (maxL := 2) (ret := (some .int)) (by decide) rfl ?_
  intro p e s m args below meth c s₁ B hml hv
  obtain ⟨rfl, hsz, hP, hK, hD0⟩ := hv
  have hx := B.exec
  have hb := B.bytes
  have hr := B.returns
  have hts := atoms_spec (ws := wsX6_ratios) B.pre
  have hown : s.vm.findClass RX6 = some m.cls := findClass_of_methodNamed B.named
  have hlocks := B.notSynchronized
  subst hsz
  have hD := hD0.self (sz := s.heap.size)
  generalize hAe : va_A [(om, .inr (6, [.int thr, .ref a1, .ref a2, .ref a3, .int sv, .ref a4, .ref a5, .ref a6, .int ln, .ref a7, .int bm, .int br, .int ck, .int sa, .ref a8, .int lm, .int rs, .int at_, .ref a9, .int tm, .long hs])), (a1, .inl (ca 0, 226, .inl (sF z r f j nt nl gl gt))), (a7, .inl (ca 0, 200, .inl fi)), (a8, .inl (ca 0, 40, .inl fe))] s.heap.size = A at hD ⊢
  have hA : ∀ q : Nat, s.heap.size ≤ q → A q := fun q h => by rw [← hAe]; exact Or.inr h
  have hS : va_S A s.heap s.heap [] := va_S.rf
  have hP : va_P D vwCl [(om, .inr (6, [.int thr, .ref a1, .ref a2, .ref a3, .int sv, .ref a4, .ref a5, .ref a6, .int ln, .ref a7, .int bm, .int br, .int ck, .int sa, .ref a8, .int lm, .int rs, .int at_, .ref a9, .int tm, .long hs])), (a1, .inl (ca 0, 226, .inl (sF z r f j nt nl gl gt))), (a7, .inl (ca 0, 200, .inl fi)), (a8, .inl (ca 0, 40, .inl fe))] s.heap := hP
  have hKv := hK.1
  have hl := lv_entry ([.ref om, .int (nI q)]) (n := 2) (kk_le rfl)
  rw [lg_entry_eq]
  generalize (lg_sl ([.ref om, .int (nI q)]) ++ List.replicate (2 - (lg_sl ([.ref om, .int (nI q)])).length) Slot.unset).toArray = ls at hl ⊢
  have hl : lv_has ls 2 [(0, .ref om), (1, .int (nI q))] := hl
  have hiX6 : ∀ w ∈ u_ws RX6 TX6 21, w ∈ wsX6_ratios := fun w h => by first | exact List.mem_cons_of_mem _ (List.mem_append_right _ h) | exact List.mem_cons_of_mem _ (List.mem_append_left _ (List.mem_append_right _ h)) | exact List.mem_cons_of_mem _ (List.mem_append_left _ (List.mem_append_left _ (List.mem_append_right _ h))) | exact List.mem_cons_of_mem _ (List.mem_append_left _ (List.mem_append_left _ (List.mem_append_left _ (List.mem_append_right _ h)))) | (revert w h; decide +kernel)
  have lk38 : (Cond.fieldLink RX6 38 "StripeSwipesModel" "thrown" "I").before _ s = true := hts _ (by decide +kernel)
  refine lv_aload_n hx hb dX6_ratios_0 rfl (lv_at hl 0 rfl) ?_
  refine lv_iconst (v := nI 0) hx hb dX6_ratios_1 (by decide) ?_
  refine va_put (D := D) (ci := 6) (v := .int (nI 0)) (ty := .int) (C := RX6) (T := TX6) (N := 21) hx hb hts hiX6 tyX6 tyX6_ok nmX6 hown hKv hP hD hS 0 rfl rfl 0 (by decide) lk38 (fun _ h9 => h9) rfl (by decide +kernel) rfl rfl (kk_le rfl) dX6_ratios_2 (fun H locs hP hD hS => ?_)
  have hP : va_P D vwCl [(om, .inr (6, [.int (nI 0), .ref a1, .ref a2, .ref a3, .int sv, .ref a4, .ref a5, .ref a6, .int ln, .ref a7, .int bm, .int br, .int ck, .int sa, .ref a8, .int lm, .int rs, .int at_, .ref a9, .int tm, .long hs])), (a1, .inl (ca 0, 226, .inl (sF z r f j nt nl gl gt))), (a7, .inl (ca 0, 200, .inl fi)), (a8, .inl (ca 0, 40, .inl fe))] H := hP
  have hD : va_D A [(om, .inr (6, [.int (nI 0), .ref a1, .ref a2, .ref a3, .int sv, .ref a4, .ref a5, .ref a6, .int ln, .ref a7, .int bm, .int br, .int ck, .int sa, .ref a8, .int lm, .int rs, .int at_, .ref a9, .int tm, .long hs])), (a1, .inl (ca 0, 226, .inl (sF z r f j nt nl gl gt))), (a7, .inl (ca 0, 200, .inl fi)), (a8, .inl (ca 0, 40, .inl fe))] := hD
  refine lv_iload_n hx hb dX6_ratios_5 rfl (lv_at hl 1 rfl) ?_
  refine lv_iconst (v := nI 0) hx hb dX6_ratios_6 (by decide) ?_
  refine lv_iconst (v := nI 2) hx hb dX6_ratios_7 (by decide) ?_
  refine vp_callSi (va_Run.run (va_runS (As := [.int (nI q), .int (nI 0), .int (nI 2)]) (rest := []) ⟨hx, hb, hml, hown, hts⟩ (kX6_in l (nI q) (nI 0) (nI 2)) (va_cwS 3 hts gX6_ratios_X6_in rfl rfl rfl (by decide +kernel) ⟨kk_le rfl, kk_le rfl⟩) psN rfl rfl hl.1 rfl (lv_room (kk_le rfl)) dX6_ratios_8 ⟨kk_le rfl, kk_le rfl⟩)) (fun r1 hr1 => ?_)
  subst hr1
  have e2 : (bI (inF (nI q) (nI 0) (nI 2)) : Int32) = bI true := congrArg bI ((inp_k (n := 3) rfl (by decide)).trans ((hasF_n (by omega) (by omega)).trans (decide_eq_true (by omega))))
  rw [e2]
  refine bi_if_eq (tgt := 22) hx hb dX6_ratios_11 (by decide) (fun c3 => ?_) (fun c3 => ?_)
  · first | exact False.elim c3 | exact absurd c3 (by decide) | (exfalso; omega)
  · refine lv_aload_n hx hb dX6_ratios_14 rfl (lv_at hl 0 rfl) ?_
    refine lv_iload_n hx hb dX6_ratios_15 rfl (lv_at hl 1 rfl) ?_
    have hPc := hP
    have hDc := hD
    have hFc := va_free (wc := [(om, .inr (6, [.int (nI 0), .ref a1, .ref a2, .ref a3, .int sv, .ref a4, .ref a5, .ref a6, .int ln, .ref a7, .int bm, .int br, .int ck, .int sa, .ref a8, .int lm, .int rs, .int at_, .ref a9, .int tm, .long hs])), (a1, .inl (ca 0, 226, .inl (sF z r f j nt nl gl gt))), (a7, .inl (ca 0, 200, .inl fi)), (a8, .inl (ca 0, 40, .inl fe))]) hD hS hA [0, 1, 2, 3] rfl
    refine va_calli (va_runV (As := [.int (nI q)]) (rest := []) ⟨hx, hb, hml, hown, hts⟩ (kX6_ratiosBy l D ca H.size om a1 a2 a3 a4 a5 a6 a7 a8 a9 (nI 0) sv ln bm br ck sa lm rs at_ tm hs z r f j nt nl gl gt fi fe q (by first | rfl | assumption | omega | trivial | (exfalso; omega)) (by first | rfl | assumption | omega | trivial | (exfalso; omega)) (by first | rfl | assumption | omega | trivial | (exfalso; omega)) (by first | rfl | assumption | omega | trivial | (exfalso; omega))) (cwV 1 hts gX6_ratios_X6_ratiosBy rfl rfl rfl (by decide +kernel) ⟨kk_le rfl, kk_le rfl⟩) (pvM hK hPc (my_D_true hDc) (va_recv hKv hP (ci := 6) (q0 := 0) rfl rfl)) rfl rfl hl.1 rfl (lv_room (kk_le rfl)) dX6_ratios_16 ⟨kk_le rfl, kk_le rfl⟩) hS (fun q _ h => hFc q h) hFc (fun r4 u t H1 locs ht hvm hwv hBv hz1 hk1 hS => ?_)
    obtain ⟨hP1, hD1⟩ := hBv
    rw [ht] at hP1
    obtain ⟨u4_0, u4_1, u4_2, u4_3, u4_4, u4_5, u4_6, u4_7⟩ := u
    have hP1 : va_P D vwCl [(om, .inr (6, [.int (nI 0), .ref a1, .ref a2, .ref a3, .int sv, .ref a4, .ref a5, .ref a6, .int ln, .ref a7, .int u4_0, .int u4_1, .int u4_2, .int u4_3, .ref a8, .int u4_4, .int u4_5, .int at_, .ref a9, .int tm, .long hs])), (a1, .inl (ca 0, 226, .inl (sF z r f j nt nl gl gt))), (a7, .inl (ca 0, 200, .inl u4_6)), (a8, .inl (ca 0, 40, .inl u4_7))] H1 := hP1
    have hD1 : va_D _ [(om, .inr (6, [.int (nI 0), .ref a1, .ref a2, .ref a3, .int sv, .ref a4, .ref a5, .ref a6, .int ln, .ref a7, .int u4_0, .int u4_1, .int u4_2, .int u4_3, .ref a8, .int u4_4, .int u4_5, .int at_, .ref a9, .int tm, .long hs])), (a1, .inl (ca 0, 226, .inl (sF z r f j nt nl gl gt))), (a7, .inl (ca 0, 200, .inl u4_6)), (a8, .inl (ca 0, 40, .inl u4_7))] := hD1
    obtain ⟨hr4, hw4⟩ := hwv
    subst hr4
    have hP := hP1
    have hD := hD1.weaken (fun _ _ _ h => hFc _ h)
    generalize H1 = H at hP hS ⊢
    have hP : va_P D vwCl [(om, .inr (6, [.int (nI 0), .ref a1, .ref a2, .ref a3, .int sv, .ref a4, .ref a5, .ref a6, .int ln, .ref a7, .int u4_0, .int u4_1, .int u4_2, .int u4_3, .ref a8, .int u4_4, .int u4_5, .int at_, .ref a9, .int tm, .long hs])), (a1, .inl (ca 0, 226, .inl (sF z r f j nt nl gl gt))), (a7, .inl (ca 0, 200, .inl u4_6)), (a8, .inl (ca 0, 40, .inl u4_7))] H := hP
    have hD : va_D A [(om, .inr (6, [.int (nI 0), .ref a1, .ref a2, .ref a3, .int sv, .ref a4, .ref a5, .ref a6, .int ln, .ref a7, .int u4_0, .int u4_1, .int u4_2, .int u4_3, .ref a8, .int u4_4, .int u4_5, .int at_, .ref a9, .int tm, .long hs])), (a1, .inl (ca 0, 226, .inl (sF z r f j nt nl gl gt))), (a7, .inl (ca 0, 200, .inl u4_6)), (a8, .inl (ca 0, 40, .inl u4_7))] := hD
    refine lv_goto (tgt := 27) hx hb dX6_ratios_19 (by decide) ?_
    exact W.iret (v := tolR q (GLr f (lst gt nt) (lst gl nl) 46)) hx hb hr (fun t ht hW => ⟨⟨_, (u4_0, u4_1, u4_2, u4_3, u4_4, u4_5, u4_6, u4_7), rfl, ⟨by rfl, by trivial⟩, by rw [ht]; exact hP, hD⟩, hS.F ht⟩) hS.2.2 dX6_ratios_27
abbrev rm_kX6_ratios_bad : Room := { frames := 1, cells := 0, slots := 0, locals := 22 }
set_option maxHeartbeats 4000000 in
set_option maxRecDepth 100000 in
theorem kX6_ratios_bad (l : Launch) (D : va_G) (ca : Nat → ClassId) (sz : Nat) (om a1 a2 a3 a4 a5 a6 a7 a8 a9 : Nat) (thr sv ln bm br ck sa lm rs at_ tm : Int32) (hs : Int64) (z : Nat) (r f j : Int32) (nt nl : Nat) (gl gt : Nat → Int32) (fi fe : Nat → Int32) (x : Int32) (hnt : nt ≤ 200) (hnl : nl ≤ 20) (hz : z ≤ 30) (hbad : hasF 3 x = false) : Met l yX6_ratios wsX6_ratios rm_kX6_ratios_bad (pcM D ca [.ref om, .int x] [(om, .inr (6, [.int thr, .ref a1, .ref a2, .ref a3, .int sv, .ref a4, .ref a5, .ref a6, .int ln, .ref a7, .int bm, .int br, .int ck, .int sa, .ref a8, .int lm, .int rs, .int at_, .ref a9, .int tm, .long hs])), (a1, .inl (ca 0, 226, .inl (sF z r f j nt nl gl gt))), (a7, .inl (ca 0, 200, .inl fi)), (a8, .inl (ca 0, 40, .inl fe))] sz) (va_Qi (fun (zr : Int32) (u : Unit) => zr = nI 0 ∧ True) (qB D (va_A [(om, .inr (6, [.int thr, .ref a1, .ref a2, .ref a3, .int sv, .ref a4, .ref a5, .ref a6, .int ln, .ref a7, .int bm, .int br, .int ck, .int sa, .ref a8, .int lm, .int rs, .int at_, .ref a9, .int tm, .long hs])), (a1, .inl (ca 0, 226, .inl (sF z r f j nt nl gl gt))), (a7, .inl (ca 0, 200, .inl fi)), (a8, .inl (ca 0, 40, .inl fe))] sz) (fun u : Unit => [(om, .inr (6, [.int (nI 1), .ref a1, .ref a2, .ref a3, .int sv, .ref a4, .ref a5, .ref a6, .int ln, .ref a7, .int bm, .int br, .int ck, .int sa, .ref a8, .int lm, .int rs, .int at_, .ref a9, .int tm, .long hs])), (a1, .inl (ca 0, 226, .inl (sF z r f j nt nl gl gt))), (a7, .inl (ca 0, 200, .inl fi)), (a8, .inl (ca 0, 40, .inl fe))])) (va_A [(om, .inr (6, [.int thr, .ref a1, .ref a2, .ref a3, .int sv, .ref a4, .ref a5, .ref a6, .int ln, .ref a7, .int bm, .int br, .int ck, .int sa, .ref a8, .int lm, .int rs, .int at_, .ref a9, .int tm, .long hs])), (a1, .inl (ca 0, 226, .inl (sF z r f j nt nl gl gt))), (a7, .inl (ca 0, 200, .inl fi)), (a8, .inl (ca 0, 40, .inl fe))] sz)) 0 0 (va_A [(om, .inr (6, [.int thr, .ref a1, .ref a2, .ref a3, .int sv, .ref a4, .ref a5, .ref a6, .int ln, .ref a7, .int bm, .int br, .int ck, .int sa, .ref a8, .int lm, .int rs, .int at_, .ref a9, .int tm, .long hs])), (a1, .inl (ca 0, 226, .inl (sF z r f j nt nl gl gt))), (a7, .inl (ca 0, 200, .inl fi)), (a8, .inl (ca 0, 40, .inl fe))] sz) := by
  refine Met.ofW (cc := cX6_ratios) (maxL := 2) (ret := (some .int)) (by decide) rfl ?_
  intro p e s m args below meth c s₁ B hml hv
  obtain ⟨rfl, hsz, hP, hK, hD0⟩ := hv
  have hx := B.exec
  have hb := B.bytes
  have hr := B.returns
  have hts := atoms_spec (ws := wsX6_ratios) B.pre
  have hown : s.vm.findClass RX6 = some m.cls := findClass_of_methodNamed B.named
  have hlocks := B.notSynchronized
  subst hsz
  have hD := hD0.self (sz := s.heap.size)
  generalize hAe : va_A [(om, .inr (6, [.int thr, .ref a1, .ref a2, .ref a3, .int sv, .ref a4, .ref a5, .ref a6, .int ln, .ref a7, .int bm, .int br, .int ck, .int sa, .ref a8, .int lm, .int rs, .int at_, .ref a9, .int tm, .long hs])), (a1, .inl (ca 0, 226, .inl (sF z r f j nt nl gl gt))), (a7, .inl (ca 0, 200, .inl fi)), (a8, .inl (ca 0, 40, .inl fe))] s.heap.size = A at hD ⊢
  have hA : ∀ q : Nat, s.heap.size ≤ q → A q := fun q h => by rw [← hAe]; exact Or.inr h
  have hS : va_S A s.heap s.heap [] := va_S.rf
  have hP : va_P D vwCl [(om, .inr (6, [.int thr, .ref a1, .ref a2, .ref a3, .int sv, .ref a4, .ref a5, .ref a6, .int ln, .ref a7, .int bm, .int br, .int ck, .int sa, .ref a8, .int lm, .int rs, .int at_, .ref a9, .int tm, .long hs])), (a1, .inl (ca 0, 226, .inl (sF z r f j nt nl gl gt))), (a7, .inl (ca 0, 200, .inl fi)), (a8, .inl (ca 0, 40, .inl fe))] s.heap := hP
  have hKv := hK.1
  have hl := lv_entry ([.ref om, .int x]) (n := 2) (kk_le rfl)
  rw [lg_entry_eq]
  generalize (lg_sl ([.ref om, .int x]) ++ List.replicate (2 - (lg_sl ([.ref om, .int x])).length) Slot.unset).toArray = ls at hl ⊢
  have hl : lv_has ls 2 [(0, .ref om), (1, .int x)] := hl
  have hiX6 : ∀ w ∈ u_ws RX6 TX6 21, w ∈ wsX6_ratios := fun w h => by first | exact List.mem_cons_of_mem _ (List.mem_append_right _ h) | exact List.mem_cons_of_mem _ (List.mem_append_left _ (List.mem_append_right _ h)) | exact List.mem_cons_of_mem _ (List.mem_append_left _ (List.mem_append_left _ (List.mem_append_right _ h))) | exact List.mem_cons_of_mem _ (List.mem_append_left _ (List.mem_append_left _ (List.mem_append_left _ (List.mem_append_right _ h)))) | (revert w h; decide +kernel)
  have lk38 : (Cond.fieldLink RX6 38 "StripeSwipesModel" "thrown" "I").before _ s = true := hts _ (by decide +kernel)
  refine lv_aload_n hx hb dX6_ratios_0 rfl (lv_at hl 0 rfl) ?_
  refine lv_iconst (v := nI 0) hx hb dX6_ratios_1 (by decide) ?_
  refine va_put (D := D) (ci := 6) (v := .int (nI 0)) (ty := .int) (C := RX6) (T := TX6) (N := 21) hx hb hts hiX6 tyX6 tyX6_ok nmX6 hown hKv hP hD hS 0 rfl rfl 0 (by decide) lk38 (fun _ h9 => h9) rfl (by decide +kernel) rfl rfl (kk_le rfl) dX6_ratios_2 (fun H locs hP hD hS => ?_)
  have hP : va_P D vwCl [(om, .inr (6, [.int (nI 0), .ref a1, .ref a2, .ref a3, .int sv, .ref a4, .ref a5, .ref a6, .int ln, .ref a7, .int bm, .int br, .int ck, .int sa, .ref a8, .int lm, .int rs, .int at_, .ref a9, .int tm, .long hs])), (a1, .inl (ca 0, 226, .inl (sF z r f j nt nl gl gt))), (a7, .inl (ca 0, 200, .inl fi)), (a8, .inl (ca 0, 40, .inl fe))] H := hP
  have hD : va_D A [(om, .inr (6, [.int (nI 0), .ref a1, .ref a2, .ref a3, .int sv, .ref a4, .ref a5, .ref a6, .int ln, .ref a7, .int bm, .int br, .int ck, .int sa, .ref a8, .int lm, .int rs, .int at_, .ref a9, .int tm, .long hs])), (a1, .inl (ca 0, 226, .inl (sF z r f j nt nl gl gt))), (a7, .inl (ca 0, 200, .inl fi)), (a8, .inl (ca 0, 40, .inl fe))] := hD
  refine lv_iload_n hx hb dX6_ratios_5 rfl (lv_at hl 1 rfl) ?_
  refine lv_iconst (v := nI 0) hx hb dX6_ratios_6 (by decide) ?_
  refine lv_iconst (v := nI 2) hx hb dX6_ratios_7 (by decide) ?_
  refine vp_callSi (va_Run.run (va_runS (As := [.int x, .int (nI 0), .int (nI 2)]) (rest := []) ⟨hx, hb, hml, hown, hts⟩ (kX6_in l x (nI 0) (nI 2)) (va_cwS 3 hts gX6_ratios_X6_in rfl rfl rfl (by decide +kernel) ⟨kk_le rfl, kk_le rfl⟩) psN rfl rfl hl.1 rfl (lv_room (kk_le rfl)) dX6_ratios_8 ⟨kk_le rfl, kk_le rfl⟩)) (fun r1 hr1 => ?_)
  subst hr1
  have e2 : (bI (inF x (nI 0) (nI 2)) : Int32) = bI false := congrArg bI ((inp_k (n := 3) rfl (by decide)).trans hbad)
  rw [e2]
  refine bi_if_eq (tgt := 22) hx hb dX6_ratios_11 (by decide) (fun c3 => ?_) (fun c3 => ?_)
  · refine lv_aload_n hx hb dX6_ratios_22 rfl (lv_at hl 0 rfl) ?_
    refine lv_iconst (v := nI 1) hx hb dX6_ratios_23 (by decide) ?_
    have hPc := hP.sub (ws' := [(om, .inr (6, [.int (nI 0), .ref a1, .ref a2, .ref a3, .int sv, .ref a4, .ref a5, .ref a6, .int ln, .ref a7, .int bm, .int br, .int ck, .int sa, .ref a8, .int lm, .int rs, .int at_, .ref a9, .int tm, .long hs]))]) [0] rfl
    have hDc := hD.sub (ws' := [(om, .inr (6, [.int (nI 0), .ref a1, .ref a2, .ref a3, .int sv, .ref a4, .ref a5, .ref a6, .int ln, .ref a7, .int bm, .int br, .int ck, .int sa, .ref a8, .int lm, .int rs, .int at_, .ref a9, .int tm, .long hs]))]) [0] (by decide) rfl
    have hFc := va_free (wc := [(om, .inr (6, [.int (nI 0), .ref a1, .ref a2, .ref a3, .int sv, .ref a4, .ref a5, .ref a6, .int ln, .ref a7, .int bm, .int br, .int ck, .int sa, .ref a8, .int lm, .int rs, .int at_, .ref a9, .int tm, .long hs]))]) hD hS hA [0] rfl
    refine va_calli (va_runV (As := [.int (nI 1)]) (rest := []) ⟨hx, hb, hml, hown, hts⟩ (kX6_fails l D ca H.size om a1 a2 a3 a4 a5 a6 a7 a8 a9 (nI 0) sv ln bm br ck sa lm rs at_ tm hs (nI 1)) (cwV 1 hts gX6_ratios_X6_fails rfl rfl rfl (by decide +kernel) ⟨kk_le rfl, kk_le rfl⟩) (pvM hK hPc (my_D_true hDc) (va_recv hKv hP (ci := 6) (q0 := 0) rfl rfl)) rfl rfl hl.1 rfl (lv_room (kk_le rfl)) dX6_ratios_24 ⟨kk_le rfl, kk_le rfl⟩) hS (fun q _ h => hFc q h) hFc (fun r4 u t H1 locs ht hvm hwv hBv hz1 hk1 hS => ?_)
    obtain ⟨hP1, hD1⟩ := hBv
    rw [ht] at hP1
    have hP1 : va_P D vwCl [(om, .inr (6, [.int (nI 1), .ref a1, .ref a2, .ref a3, .int sv, .ref a4, .ref a5, .ref a6, .int ln, .ref a7, .int bm, .int br, .int ck, .int sa, .ref a8, .int lm, .int rs, .int at_, .ref a9, .int tm, .long hs]))] H1 := hP1
    have hD1 : va_D _ [(om, .inr (6, [.int (nI 1), .ref a1, .ref a2, .ref a3, .int sv, .ref a4, .ref a5, .ref a6, .int ln, .ref a7, .int bm, .int br, .int ck, .int sa, .ref a8, .int lm, .int rs, .int at_, .ref a9, .int tm, .long hs]))] := hD1
    obtain ⟨hr4, hw4⟩ := hwv
    subst hr4
    obtain ⟨hP, hD⟩ := va_join (wr := [(a1, .inl (ca 0, 226, .inl (sF z r f j nt nl gl gt))), (a7, .inl (ca 0, 200, .inl fi)), (a8, .inl (ca 0, 40, .inl fe))]) (w1 := [(om, .inr (6, [.int (nI 1), .ref a1, .ref a2, .ref a3, .int sv, .ref a4, .ref a5, .ref a6, .int ln, .ref a7, .int bm, .int br, .int ck, .int sa, .ref a8, .int lm, .int rs, .int at_, .ref a9, .int tm, .long hs]))]) hP hD [0] [1, 2, 3] rfl rfl (by decide) (by decide) hk1 hFc hP1 hD1
    generalize H1 = H at hP hS ⊢
    have hP := hP.sub (ws' := [(om, .inr (6, [.int (nI 1), .ref a1, .ref a2, .ref a3, .int sv, .ref a4, .ref a5, .ref a6, .int ln, .ref a7, .int bm, .int br, .int ck, .int sa, .ref a8, .int lm, .int rs, .int at_, .ref a9, .int tm, .long hs])), (a1, .inl (ca 0, 226, .inl (sF z r f j nt nl gl gt))), (a7, .inl (ca 0, 200, .inl fi)), (a8, .inl (ca 0, 40, .inl fe))]) [3, 0, 1, 2] rfl
    have hD := hD.sub (ws' := [(om, .inr (6, [.int (nI 1), .ref a1, .ref a2, .ref a3, .int sv, .ref a4, .ref a5, .ref a6, .int ln, .ref a7, .int bm, .int br, .int ck, .int sa, .ref a8, .int lm, .int rs, .int at_, .ref a9, .int tm, .long hs])), (a1, .inl (ca 0, 226, .inl (sF z r f j nt nl gl gt))), (a7, .inl (ca 0, 200, .inl fi)), (a8, .inl (ca 0, 40, .inl fe))]) [3, 0, 1, 2] (by decide) rfl
    exact W.iret (v := nI 0) hx hb hr (fun t ht hW => ⟨⟨_, (), rfl, ⟨by rfl, by trivial⟩, by rw [ht]; exact hP, hD⟩, hS.F ht⟩) hS.2.2 dX6_ratios_27
  · first | exact False.elim c3 | exact absurd c3 (by decide) | (exfalso; omega)
abbrev rm_kX6_greatestJerk_ok : Room := { frames := 7, cells := 0, slots := 0, locals := 151 }
set_option maxHeartbeats 4000000 in
set_option maxRecDepth 100000 in
theorem kX6_greatestJerk_ok (l : Launch) (D : va_G) (ca : Nat → ClassId) (sz : Nat) (om a1 a2 a3 a4 a5 a6 a7 a8 a9 : Nat) (thr sv ln bm br ck sa lm rs at_ tm : Int32) (hs : Int64) (z : Nat) (r f j : Int32) (nt nl : Nat) (gl gt : Nat → Int32) (fa fi fe : Nat → Int32) (hnt : nt ≤ 200) (hnl : nl ≤ 20) (hz : z ≤ 30) : Met l yX6_greatestJerk wsX6_greatestJerk rm_kX6_greatestJerk_ok (pcM D ca [.ref om] [(om, .inr (6, [.int thr, .ref a1, .ref a2, .ref a3, .int sv, .ref a4, .ref a5, .ref a6, .int ln, .ref a7, .int bm, .int br, .int ck, .int sa, .ref a8, .int lm, .int rs, .int at_, .ref a9, .int tm, .long hs])), (a1, .inl (ca 0, 226, .inl (sF z r f j nt nl gl gt))), (a2, .inl (ca 0, 226, .inl fa)), (a7, .inl (ca 0, 200, .inl fi)), (a8, .inl (ca 0, 40, .inl fe))] sz) (va_Qi (fun (zr : Int32) (u : Int32 × Int32 × Int32 × Int32 × Int32 × Int32 × (Nat → Int32) × (Nat → Int32) × (Nat → Int32)) => zr = jkT z r f (lst gl nl) ∧ True) (qB D (va_A [(om, .inr (6, [.int thr, .ref a1, .ref a2, .ref a3, .int sv, .ref a4, .ref a5, .ref a6, .int ln, .ref a7, .int bm, .int br, .int ck, .int sa, .ref a8, .int lm, .int rs, .int at_, .ref a9, .int tm, .long hs])), (a1, .inl (ca 0, 226, .inl (sF z r f j nt nl gl gt))), (a2, .inl (ca 0, 226, .inl fa)), (a7, .inl (ca 0, 200, .inl fi)), (a8, .inl (ca 0, 40, .inl fe))] sz) (fun u : Int32 × Int32 × Int32 × Int32 × Int32 × Int32 × (Nat → Int32) × (Nat → Int32) × (Nat → Int32) => [(om, .inr (6, [.int (nI 0), .ref a1, .ref a2, .ref a3, .int sv, .ref a4, .ref a5, .ref a6, .int ln, .ref a7, .int u.1, .int u.2.1, .int u.2.2.1, .int u.2.2.2.1, .ref a8, .int u.2.2.2.2.1, .int u.2.2.2.2.2.1, .int at_, .ref a9, .int tm, .long hs])), (a1, .inl (ca 0, 226, .inl (sF z r f j nt nl gl gt))), (a2, .inl (ca 0, 226, .inl u.2.2.2.2.2.2.1)), (a7, .inl (ca 0, 200, .inl u.2.2.2.2.2.2.2.1)), (a8, .inl (ca 0, 40, .inl u.2.2.2.2.2.2.2.2))])) (va_A [(om, .inr (6, [.int thr, .ref a1, .ref a2, .ref a3, .int sv, .ref a4, .ref a5, .ref a6, .int ln, .ref a7, .int bm, .int br, .int ck, .int sa, .ref a8, .int lm, .int rs, .int at_, .ref a9, .int tm, .long hs])), (a1, .inl (ca 0, 226, .inl (sF z r f j nt nl gl gt))), (a2, .inl (ca 0, 226, .inl fa)), (a7, .inl (ca 0, 200, .inl fi)), (a8, .inl (ca 0, 40, .inl fe))] sz)) 0 0 (va_A [(om, .inr (6, [.int thr, .ref a1, .ref a2, .ref a3, .int sv, .ref a4, .ref a5, .ref a6, .int ln, .ref a7, .int bm, .int br, .int ck, .int sa, .ref a8, .int lm, .int rs, .int at_, .ref a9, .int tm, .long hs])), (a1, .inl (ca 0, 226, .inl (sF z r f j nt nl gl gt))), (a2, .inl (ca 0, 226, .inl fa)), (a7, .inl (ca 0, 200, .inl fi)), (a8, .inl (ca 0, 40, .inl fe))] sz) := by
  refine Met.ofW (cc := cX6_greatestJerk) (maxL := 1) (ret := (some .int)) (by decide) rfl ?_
  intro p e s m args below meth c s₁ B hml hv
  obtain ⟨rfl, hsz, hP, hK, hD0⟩ := hv
  have hx := B.exec
  have hb := B.bytes
  have hr := B.returns
  have hts := atoms_spec (ws := wsX6_greatestJerk) B.pre
  have hown : s.vm.findClass RX6 = some m.cls := findClass_of_methodNamed B.named
  have hlocks := B.notSynchronized
  subst hsz
  have hD := hD0.self (sz := s.heap.size)
  generalize hAe : va_A [(om, .inr (6, [.int thr, .ref a1, .ref a2, .ref a3, .int sv, .ref a4, .ref a5, .ref a6, .int ln, .ref a7, .int bm, .int br, .int ck, .int sa, .ref a8, .int lm, .int rs, .int at_, .ref a9, .int tm, .long hs])), (a1, .inl (ca 0, 226, .inl (sF z r f j nt nl gl gt))), (a2, .inl (ca 0, 226, .inl fa)), (a7, .inl (ca 0, 200, .inl fi)), (a8, .inl (ca 0, 40, .inl fe))] s.heap.size = A at hD ⊢
  have hA : ∀ q : Nat, s.heap.size ≤ q → A q := fun q h => by rw [← hAe]; exact Or.inr h
  have hS : va_S A s.heap s.heap [] := va_S.rf
  have hP : va_P D vwCl [(om, .inr (6, [.int thr, .ref a1, .ref a2, .ref a3, .int sv, .ref a4, .ref a5, .ref a6, .int ln, .ref a7, .int bm, .int br, .int ck, .int sa, .ref a8, .int lm, .int rs, .int at_, .ref a9, .int tm, .long hs])), (a1, .inl (ca 0, 226, .inl (sF z r f j nt nl gl gt))), (a2, .inl (ca 0, 226, .inl fa)), (a7, .inl (ca 0, 200, .inl fi)), (a8, .inl (ca 0, 40, .inl fe))] s.heap := hP
  have hKv := hK.1
  have hl := lv_entry ([.ref om]) (n := 1) (kk_le rfl)
  rw [lg_entry_eq]
  generalize (lg_sl ([.ref om]) ++ List.replicate (1 - (lg_sl ([.ref om])).length) Slot.unset).toArray = ls at hl ⊢
  have hl : lv_has ls 1 [(0, .ref om)] := hl
  have hiX6 : ∀ w ∈ u_ws RX6 TX6 21, w ∈ wsX6_greatestJerk := fun w h => by first | exact List.mem_cons_of_mem _ (List.mem_append_right _ h) | exact List.mem_cons_of_mem _ (List.mem_append_left _ (List.mem_append_right _ h)) | exact List.mem_cons_of_mem _ (List.mem_append_left _ (List.mem_append_left _ (List.mem_append_right _ h))) | exact List.mem_cons_of_mem _ (List.mem_append_left _ (List.mem_append_left _ (List.mem_append_left _ (List.mem_append_right _ h)))) | (revert w h; decide +kernel)
  have lk38 : (Cond.fieldLink RX6 38 "StripeSwipesModel" "thrown" "I").before _ s = true := hts _ (by decide +kernel)
  refine lv_aload_n hx hb dX6_greatestJerk_0 rfl (lv_at hl 0 rfl) ?_
  refine lv_iconst (v := nI 0) hx hb dX6_greatestJerk_1 (by decide) ?_
  refine va_put (D := D) (ci := 6) (v := .int (nI 0)) (ty := .int) (C := RX6) (T := TX6) (N := 21) hx hb hts hiX6 tyX6 tyX6_ok nmX6 hown hKv hP hD hS 0 rfl rfl 0 (by decide) lk38 (fun _ h9 => h9) rfl (by decide +kernel) rfl rfl (kk_le rfl) dX6_greatestJerk_2 (fun H locs hP hD hS => ?_)
  have hP : va_P D vwCl [(om, .inr (6, [.int (nI 0), .ref a1, .ref a2, .ref a3, .int sv, .ref a4, .ref a5, .ref a6, .int ln, .ref a7, .int bm, .int br, .int ck, .int sa, .ref a8, .int lm, .int rs, .int at_, .ref a9, .int tm, .long hs])), (a1, .inl (ca 0, 226, .inl (sF z r f j nt nl gl gt))), (a2, .inl (ca 0, 226, .inl fa)), (a7, .inl (ca 0, 200, .inl fi)), (a8, .inl (ca 0, 40, .inl fe))] H := hP
  have hD : va_D A [(om, .inr (6, [.int (nI 0), .ref a1, .ref a2, .ref a3, .int sv, .ref a4, .ref a5, .ref a6, .int ln, .ref a7, .int bm, .int br, .int ck, .int sa, .ref a8, .int lm, .int rs, .int at_, .ref a9, .int tm, .long hs])), (a1, .inl (ca 0, 226, .inl (sF z r f j nt nl gl gt))), (a2, .inl (ca 0, 226, .inl fa)), (a7, .inl (ca 0, 200, .inl fi)), (a8, .inl (ca 0, 40, .inl fe))] := hD
  refine lv_aload_n hx hb dX6_greatestJerk_5 rfl (lv_at hl 0 rfl) ?_
  have hPc := hP
  have hDc := hD
  have hFc := va_free (wc := [(om, .inr (6, [.int (nI 0), .ref a1, .ref a2, .ref a3, .int sv, .ref a4, .ref a5, .ref a6, .int ln, .ref a7, .int bm, .int br, .int ck, .int sa, .ref a8, .int lm, .int rs, .int at_, .ref a9, .int tm, .long hs])), (a1, .inl (ca 0, 226, .inl (sF z r f j nt nl gl gt))), (a2, .inl (ca 0, 226, .inl fa)), (a7, .inl (ca 0, 200, .inl fi)), (a8, .inl (ca 0, 40, .inl fe))]) hD hS hA [0, 1, 2, 3, 4] rfl
  refine va_calli (va_runV (As := []) (rest := []) ⟨hx, hb, hml, hown, hts⟩ (kX6_mostJerk l D ca H.size om a1 a2 a3 a4 a5 a6 a7 a8 a9 (nI 0) sv ln bm br ck sa lm rs at_ tm hs z r f j nt nl gl gt fa fi fe (by first | rfl | assumption | omega | trivial | (exfalso; omega)) (by first | rfl | assumption | omega | trivial | (exfalso; omega)) (by first | rfl | assumption | omega | trivial | (exfalso; omega))) (cwV 0 hts gX6_greatestJerk_X6_mostJerk rfl rfl rfl (by decide +kernel) ⟨kk_le rfl, kk_le rfl⟩) (pvM hK hPc (my_D_true hDc) (va_recv hKv hP (ci := 6) (q0 := 0) rfl rfl)) rfl rfl hl.1 rfl (lv_room (kk_le rfl)) dX6_greatestJerk_6 ⟨kk_le rfl, kk_le rfl⟩) hS (fun q _ h => hFc q h) hFc (fun r1 u t H1 locs ht hvm hwv hBv hz1 hk1 hS => ?_)
  obtain ⟨hP1, hD1⟩ := hBv
  rw [ht] at hP1
  obtain ⟨u1_0, u1_1, u1_2, u1_3, u1_4, u1_5, u1_6, u1_7, u1_8⟩ := u
  have hP1 : va_P D vwCl [(om, .inr (6, [.int (nI 0), .ref a1, .ref a2, .ref a3, .int sv, .ref a4, .ref a5, .ref a6, .int ln, .ref a7, .int u1_0, .int u1_1, .int u1_2, .int u1_3, .ref a8, .int u1_4, .int u1_5, .int at_, .ref a9, .int tm, .long hs])), (a1, .inl (ca 0, 226, .inl (sF z r f j nt nl gl gt))), (a2, .inl (ca 0, 226, .inl u1_6)), (a7, .inl (ca 0, 200, .inl u1_7)), (a8, .inl (ca 0, 40, .inl u1_8))] H1 := hP1
  have hD1 : va_D _ [(om, .inr (6, [.int (nI 0), .ref a1, .ref a2, .ref a3, .int sv, .ref a4, .ref a5, .ref a6, .int ln, .ref a7, .int u1_0, .int u1_1, .int u1_2, .int u1_3, .ref a8, .int u1_4, .int u1_5, .int at_, .ref a9, .int tm, .long hs])), (a1, .inl (ca 0, 226, .inl (sF z r f j nt nl gl gt))), (a2, .inl (ca 0, 226, .inl u1_6)), (a7, .inl (ca 0, 200, .inl u1_7)), (a8, .inl (ca 0, 40, .inl u1_8))] := hD1
  obtain ⟨hr1, hw1⟩ := hwv
  subst hr1
  have hP := hP1
  have hD := hD1.weaken (fun _ _ _ h => hFc _ h)
  generalize H1 = H at hP hS ⊢
  have hP : va_P D vwCl [(om, .inr (6, [.int (nI 0), .ref a1, .ref a2, .ref a3, .int sv, .ref a4, .ref a5, .ref a6, .int ln, .ref a7, .int u1_0, .int u1_1, .int u1_2, .int u1_3, .ref a8, .int u1_4, .int u1_5, .int at_, .ref a9, .int tm, .long hs])), (a1, .inl (ca 0, 226, .inl (sF z r f j nt nl gl gt))), (a2, .inl (ca 0, 226, .inl u1_6)), (a7, .inl (ca 0, 200, .inl u1_7)), (a8, .inl (ca 0, 40, .inl u1_8))] H := hP
  have hD : va_D A [(om, .inr (6, [.int (nI 0), .ref a1, .ref a2, .ref a3, .int sv, .ref a4, .ref a5, .ref a6, .int ln, .ref a7, .int u1_0, .int u1_1, .int u1_2, .int u1_3, .ref a8, .int u1_4, .int u1_5, .int at_, .ref a9, .int tm, .long hs])), (a1, .inl (ca 0, 226, .inl (sF z r f j nt nl gl gt))), (a2, .inl (ca 0, 226, .inl u1_6)), (a7, .inl (ca 0, 200, .inl u1_7)), (a8, .inl (ca 0, 40, .inl u1_8))] := hD
  exact W.iret (v := jkT z r f (lst gl nl)) hx hb hr (fun t ht hW => ⟨⟨_, (u1_0, u1_1, u1_2, u1_3, u1_4, u1_5, u1_6, u1_7, u1_8), rfl, ⟨by rfl, by trivial⟩, by rw [ht]; exact hP, hD⟩, hS.F ht⟩) hS.2.2 dX6_greatestJerk_9
abbrev rm_kX6_shortShare_ok : Room := { frames := 2, cells := 0, slots := 0, locals := 49 }
set_option maxHeartbeats 4000000 in
set_option maxRecDepth 100000 in
theorem kX6_shortShare_ok (l : Launch) (D : va_G) (ca : Nat → ClassId) (sz : Nat) (om a1 a2 a3 a4 a5 a6 a7 a8 a9 : Nat) (thr sv ln bm br ck sa lm rs at_ tm : Int32) (hs : Int64) (z : Nat) (r f j : Int32) (nt nl : Nat) (gl gt : Nat → Int32) (hnt : nt ≤ 200) (hnl : nl ≤ 20) (hz : z ≤ 30) (hpos : ∀ k, k < nt → ¬ gt k < nI 0) : Met l yX6_shortShare wsX6_shortShare rm_kX6_shortShare_ok (pcM D ca [.ref om] [(om, .inr (6, [.int thr, .ref a1, .ref a2, .ref a3, .int sv, .ref a4, .ref a5, .ref a6, .int ln, .ref a7, .int bm, .int br, .int ck, .int sa, .ref a8, .int lm, .int rs, .int at_, .ref a9, .int tm, .long hs])), (a1, .inl (ca 0, 226, .inl (sF z r f j nt nl gl gt)))] sz) (va_Qd (fun (zr : UInt64) (u : Unit) => zr = shT r (lst gt nt) ∧ True) (qB D (va_A [(om, .inr (6, [.int thr, .ref a1, .ref a2, .ref a3, .int sv, .ref a4, .ref a5, .ref a6, .int ln, .ref a7, .int bm, .int br, .int ck, .int sa, .ref a8, .int lm, .int rs, .int at_, .ref a9, .int tm, .long hs])), (a1, .inl (ca 0, 226, .inl (sF z r f j nt nl gl gt)))] sz) (fun u : Unit => [(om, .inr (6, [.int (nI 0), .ref a1, .ref a2, .ref a3, .int sv, .ref a4, .ref a5, .ref a6, .int ln, .ref a7, .int bm, .int br, .int ck, .int sa, .ref a8, .int lm, .int rs, .int at_, .ref a9, .int tm, .long hs])), (a1, .inl (ca 0, 226, .inl (sF z r f j nt nl gl gt)))])) (va_A [(om, .inr (6, [.int thr, .ref a1, .ref a2, .ref a3, .int sv, .ref a4, .ref a5, .ref a6, .int ln, .ref a7, .int bm, .int br, .int ck, .int sa, .ref a8, .int lm, .int rs, .int at_, .ref a9, .int tm, .long hs])), (a1, .inl (ca 0, 226, .inl (sF z r f j nt nl gl gt)))] sz)) 0 0 (va_A [(om, .inr (6, [.int thr, .ref a1, .ref a2, .ref a3, .int sv, .ref a4, .ref a5, .ref a6, .int ln, .ref a7, .int bm, .int br, .int ck, .int sa, .ref a8, .int lm, .int rs, .int at_, .ref a9, .int tm, .long hs])), (a1, .inl (ca 0, 226, .inl (sF z r f j nt nl gl gt)))] sz) := by
  refine Met.ofW (cc := cX6_shortShare) (maxL := 1) (ret := (some .double)) (by decide) rfl ?_
  intro p e s m args below meth c s₁ B hml hv
  obtain ⟨rfl, hsz, hP, hK, hD0⟩ := hv
  have hx := B.exec
  have hb := B.bytes
  have hr := B.returns
  have hts := atoms_spec (ws := wsX6_shortShare) B.pre
  have hown : s.vm.findClass RX6 = some m.cls := findClass_of_methodNamed B.named
  have hlocks := B.notSynchronized
  subst hsz
  have hD := hD0.self (sz := s.heap.size)
  generalize hAe : va_A [(om, .inr (6, [.int thr, .ref a1, .ref a2, .ref a3, .int sv, .ref a4, .ref a5, .ref a6, .int ln, .ref a7, .int bm, .int br, .int ck, .int sa, .ref a8, .int lm, .int rs, .int at_, .ref a9, .int tm, .long hs])), (a1, .inl (ca 0, 226, .inl (sF z r f j nt nl gl gt)))] s.heap.size = A at hD ⊢
  have hA : ∀ q : Nat, s.heap.size ≤ q → A q := fun q h => by rw [← hAe]; exact Or.inr h
  have hS : va_S A s.heap s.heap [] := va_S.rf
  have hP : va_P D vwCl [(om, .inr (6, [.int thr, .ref a1, .ref a2, .ref a3, .int sv, .ref a4, .ref a5, .ref a6, .int ln, .ref a7, .int bm, .int br, .int ck, .int sa, .ref a8, .int lm, .int rs, .int at_, .ref a9, .int tm, .long hs])), (a1, .inl (ca 0, 226, .inl (sF z r f j nt nl gl gt)))] s.heap := hP
  have hKv := hK.1
  have hl := lv_entry ([.ref om]) (n := 1) (kk_le rfl)
  rw [lg_entry_eq]
  generalize (lg_sl ([.ref om]) ++ List.replicate (1 - (lg_sl ([.ref om])).length) Slot.unset).toArray = ls at hl ⊢
  have hl : lv_has ls 1 [(0, .ref om)] := hl
  have hiX6 : ∀ w ∈ u_ws RX6 TX6 21, w ∈ wsX6_shortShare := fun w h => by first | exact List.mem_cons_of_mem _ (List.mem_append_right _ h) | exact List.mem_cons_of_mem _ (List.mem_append_left _ (List.mem_append_right _ h)) | exact List.mem_cons_of_mem _ (List.mem_append_left _ (List.mem_append_left _ (List.mem_append_right _ h))) | exact List.mem_cons_of_mem _ (List.mem_append_left _ (List.mem_append_left _ (List.mem_append_left _ (List.mem_append_right _ h)))) | (revert w h; decide +kernel)
  have lk38 : (Cond.fieldLink RX6 38 "StripeSwipesModel" "thrown" "I").before _ s = true := hts _ (by decide +kernel)
  refine lv_aload_n hx hb dX6_shortShare_0 rfl (lv_at hl 0 rfl) ?_
  refine lv_iconst (v := nI 0) hx hb dX6_shortShare_1 (by decide) ?_
  refine va_put (D := D) (ci := 6) (v := .int (nI 0)) (ty := .int) (C := RX6) (T := TX6) (N := 21) hx hb hts hiX6 tyX6 tyX6_ok nmX6 hown hKv hP hD hS 0 rfl rfl 0 (by decide) lk38 (fun _ h9 => h9) rfl (by decide +kernel) rfl rfl (kk_le rfl) dX6_shortShare_2 (fun H locs hP hD hS => ?_)
  have hP : va_P D vwCl [(om, .inr (6, [.int (nI 0), .ref a1, .ref a2, .ref a3, .int sv, .ref a4, .ref a5, .ref a6, .int ln, .ref a7, .int bm, .int br, .int ck, .int sa, .ref a8, .int lm, .int rs, .int at_, .ref a9, .int tm, .long hs])), (a1, .inl (ca 0, 226, .inl (sF z r f j nt nl gl gt)))] H := hP
  have hD : va_D A [(om, .inr (6, [.int (nI 0), .ref a1, .ref a2, .ref a3, .int sv, .ref a4, .ref a5, .ref a6, .int ln, .ref a7, .int bm, .int br, .int ck, .int sa, .ref a8, .int lm, .int rs, .int at_, .ref a9, .int tm, .long hs])), (a1, .inl (ca 0, 226, .inl (sF z r f j nt nl gl gt)))] := hD
  refine lv_aload_n hx hb dX6_shortShare_5 rfl (lv_at hl 0 rfl) ?_
  refine vp_callSd (va_Run.run (va_runV (As := []) (rest := []) ⟨hx, hb, hml, hown, hts⟩ (kX6_share l D ca om a1 a2 a3 a4 a5 a6 a7 a8 a9 (nI 0) sv ln bm br ck sa lm rs at_ tm hs z r f j nt nl gl gt (by omega) (by omega) (by omega) (by exact hpos)) (cwV 0 hts gX6_shortShare_X6_share rfl rfl rfl (by decide +kernel) ⟨kk_le rfl, kk_le rfl⟩) (pvR hK hP (va_recv hKv hP (ci := 6) (q0 := 0) rfl rfl)) rfl rfl hl.1 rfl (lv_room (kk_le rfl)) dX6_shortShare_6 ⟨kk_le rfl, kk_le rfl⟩)) (fun r1 hr1 => ?_)
  subst hr1
  exact W.dret (v := shT r (lst gt nt)) hx hb hr (fun t ht hW => ⟨⟨_, (), rfl, ⟨by rfl, by trivial⟩, by rw [ht]; exact hP, hD⟩, hS.F ht⟩) hS.2.2 dX6_shortShare_9
abbrev rm_kX6_append_ok : Room := { frames := 1, cells := 0, slots := 0, locals := 22 }
set_option maxHeartbeats 4000000 in
set_option maxRecDepth 100000 in
theorem kX6_append_ok (l : Launch) (D : va_G) (ca : Nat → ClassId) (sz : Nat) (om a1 a2 a3 a4 a5 a6 a7 a8 a9 : Nat) (thr sv bm br ck sa lm rs at_ tm : Int32) (hs : Int64) (ln : Nat) (fb : Nat → Int32) (v : Int32) (hln : ln < 40) (hin : inF v (nI 33) (nI 126) = true) : Met l yX6_append wsX6_append rm_kX6_append_ok (pcM D ca [.ref om, .int v] [(om, .inr (6, [.int thr, .ref a1, .ref a2, .ref a3, .int sv, .ref a4, .ref a5, .ref a6, .int (nI ln), .ref a7, .int bm, .int br, .int ck, .int sa, .ref a8, .int lm, .int rs, .int at_, .ref a9, .int tm, .long hs])), (a6, .inl (ca 0, 40, .inl fb))] sz) (va_Qi (fun (zr : Int32) (u : Unit) => zr = nI (ln + 1) ∧ True) (qB D (va_A [(om, .inr (6, [.int thr, .ref a1, .ref a2, .ref a3, .int sv, .ref a4, .ref a5, .ref a6, .int (nI ln), .ref a7, .int bm, .int br, .int ck, .int sa, .ref a8, .int lm, .int rs, .int at_, .ref a9, .int tm, .long hs])), (a6, .inl (ca 0, 40, .inl fb))] sz) (fun u : Unit => [(om, .inr (6, [.int (nI 0), .ref a1, .ref a2, .ref a3, .int sv, .ref a4, .ref a5, .ref a6, .int (nI (ln + 1)), .ref a7, .int bm, .int br, .int ck, .int sa, .ref a8, .int lm, .int rs, .int at_, .ref a9, .int tm, .long hs])), (a6, .inl (ca 0, 40, .inl (upd fb ln v)))])) (va_A [(om, .inr (6, [.int thr, .ref a1, .ref a2, .ref a3, .int sv, .ref a4, .ref a5, .ref a6, .int (nI ln), .ref a7, .int bm, .int br, .int ck, .int sa, .ref a8, .int lm, .int rs, .int at_, .ref a9, .int tm, .long hs])), (a6, .inl (ca 0, 40, .inl fb))] sz)) 0 0 (va_A [(om, .inr (6, [.int thr, .ref a1, .ref a2, .ref a3, .int sv, .ref a4, .ref a5, .ref a6, .int (nI ln), .ref a7, .int bm, .int br, .int ck, .int sa, .ref a8, .int lm, .int rs, .int at_, .ref a9, .int tm, .long hs])), (a6, .inl (ca 0, 40, .inl fb))] sz) := by
  refine Met.ofW (cc := cX6_append) (maxL := 2) (ret := (some .int)) (by decide) rfl ?_
  intro p e s m args below meth c s₁ B hml hv
  obtain ⟨rfl, hsz, hP, hK, hD0⟩ := hv
  have hx := B.exec
  have hb := B.bytes
  have hr := B.returns
  have hts := atoms_spec (ws := wsX6_append) B.pre
  have hown : s.vm.findClass RX6 = some m.cls := findClass_of_methodNamed B.named
  have hlocks := B.notSynchronized
  subst hsz
  have hD := hD0.self (sz := s.heap.size)
  generalize hAe : va_A [(om, .inr (6, [.int thr, .ref a1, .ref a2, .ref a3, .int sv, .ref a4, .ref a5, .ref a6, .int (nI ln), .ref a7, .int bm, .int br, .int ck, .int sa, .ref a8, .int lm, .int rs, .int at_, .ref a9, .int tm, .long hs])), (a6, .inl (ca 0, 40, .inl fb))] s.heap.size = A at hD ⊢
  have hA : ∀ q : Nat, s.heap.size ≤ q → A q := fun q h => by rw [← hAe]; exact Or.inr h
  have hS : va_S A s.heap s.heap [] := va_S.rf
  have hP : va_P D vwCl [(om, .inr (6, [.int thr, .ref a1, .ref a2, .ref a3, .int sv, .ref a4, .ref a5, .ref a6, .int (nI ln), .ref a7, .int bm, .int br, .int ck, .int sa, .ref a8, .int lm, .int rs, .int at_, .ref a9, .int tm, .long hs])), (a6, .inl (ca 0, 40, .inl fb))] s.heap := hP
  have hKv := hK.1
  have hl := lv_entry ([.ref om, .int v]) (n := 2) (kk_le rfl)
  rw [lg_entry_eq]
  generalize (lg_sl ([.ref om, .int v]) ++ List.replicate (2 - (lg_sl ([.ref om, .int v])).length) Slot.unset).toArray = ls at hl ⊢
  have hl : lv_has ls 2 [(0, .ref om), (1, .int v)] := hl
  have hiX6 : ∀ w ∈ u_ws RX6 TX6 21, w ∈ wsX6_append := fun w h => by first | exact List.mem_cons_of_mem _ (List.mem_append_right _ h) | exact List.mem_cons_of_mem _ (List.mem_append_left _ (List.mem_append_right _ h)) | exact List.mem_cons_of_mem _ (List.mem_append_left _ (List.mem_append_left _ (List.mem_append_right _ h))) | exact List.mem_cons_of_mem _ (List.mem_append_left _ (List.mem_append_left _ (List.mem_append_left _ (List.mem_append_right _ h)))) | (revert w h; decide +kernel)
  have lk38 : (Cond.fieldLink RX6 38 "StripeSwipesModel" "thrown" "I").before _ s = true := hts _ (by decide +kernel)
  have lk136 : (Cond.fieldLink RX6 136 "StripeSwipesModel" "length" "I").before _ s = true := hts _ (by decide +kernel)
  have lk26 : (Cond.fieldLink RX6 26 "StripeSwipesModel" "buffer" "[I").before _ s = true := hts _ (by decide +kernel)
  refine lv_aload_n hx hb dX6_append_0 rfl (lv_at hl 0 rfl) ?_
  refine lv_iconst (v := nI 0) hx hb dX6_append_1 (by decide) ?_
  refine va_put (D := D) (ci := 6) (v := .int (nI 0)) (ty := .int) (C := RX6) (T := TX6) (N := 21) hx hb hts hiX6 tyX6 tyX6_ok nmX6 hown hKv hP hD hS 0 rfl rfl 0 (by decide) lk38 (fun _ h9 => h9) rfl (by decide +kernel) rfl rfl (kk_le rfl) dX6_append_2 (fun H locs hP hD hS => ?_)
  have hP : va_P D vwCl [(om, .inr (6, [.int (nI 0), .ref a1, .ref a2, .ref a3, .int sv, .ref a4, .ref a5, .ref a6, .int (nI ln), .ref a7, .int bm, .int br, .int ck, .int sa, .ref a8, .int lm, .int rs, .int at_, .ref a9, .int tm, .long hs])), (a6, .inl (ca 0, 40, .inl fb))] H := hP
  have hD : va_D A [(om, .inr (6, [.int (nI 0), .ref a1, .ref a2, .ref a3, .int sv, .ref a4, .ref a5, .ref a6, .int (nI ln), .ref a7, .int bm, .int br, .int ck, .int sa, .ref a8, .int lm, .int rs, .int at_, .ref a9, .int tm, .long hs])), (a6, .inl (ca 0, 40, .inl fb))] := hD
  refine lv_iload_n hx hb dX6_append_5 rfl (lv_at hl 1 rfl) ?_
  refine lv_bipush (v := nI 33) hx hb dX6_append_6 (by decide) ?_
  refine lv_bipush (v := nI 126) hx hb dX6_append_8 (by decide) ?_
  refine vp_callSi (va_Run.run (va_runS (As := [.int v, .int (nI 33), .int (nI 126)]) (rest := []) ⟨hx, hb, hml, hown, hts⟩ (kX6_in l v (nI 33) (nI 126)) (va_cwS 3 hts gX6_append_X6_in rfl rfl rfl (by decide +kernel) ⟨kk_le rfl, kk_le rfl⟩) psN rfl rfl hl.1 rfl (lv_room (kk_le rfl)) dX6_append_10 ⟨kk_le rfl, kk_le rfl⟩)) (fun r1 hr1 => ?_)
  subst hr1
  have e2 : (bI (inF v (nI 33) (nI 126)) : Int32) = bI true := congrArg bI (hin)
  rw [e2]
  refine bi_if_ne (tgt := 22) hx hb dX6_append_13 (by decide) (fun c3 => ?_) (fun c3 => ?_)
  · refine lv_aload_n hx hb dX6_append_22 rfl (lv_at hl 0 rfl) ?_
    refine va_get (D := D) (ci := 6) (C := RX6) (T := TX6) (N := 21) hx hb hts hiX6 hown hKv hP 0 rfl rfl 8 (by decide) lk136 (fun _ h9 => h9) rfl dX6_append_23 ?_
    refine lv_bipush (v := nI 40) hx hb dX6_append_26 (by decide) ?_
    refine ni_icmp_ne (tgt := 37) (by omega) (by omega) hx hb dX6_append_28 (by decide) (fun c4 => ?_) (fun c4 => ?_)
    · refine lv_aload_n hx hb dX6_append_37 rfl (lv_at hl 0 rfl) ?_
      refine va_get (D := D) (ci := 6) (C := RX6) (T := TX6) (N := 21) hx hb hts hiX6 hown hKv hP 0 rfl rfl 7 (by decide) lk26 (fun _ h9 => h9) rfl dX6_append_38 ?_
      refine lv_aload_n hx hb dX6_append_41 rfl (lv_at hl 0 rfl) ?_
      refine va_get (D := D) (ci := 6) (C := RX6) (T := TX6) (N := 21) hx hb hts hiX6 hown hKv hP 0 rfl rfl 8 (by decide) lk136 (fun _ h9 => h9) rfl dX6_append_42 ?_
      refine lv_iload_n hx hb dX6_append_45 rfl (lv_at hl 1 rfl) ?_
      refine my_iast hx hb hK hP hD hS 1 rfl (by omega) (by omega) dX6_append_46 (fun H locs hP hD hS => ?_)
      have hP : va_P D vwCl [(om, .inr (6, [.int (nI 0), .ref a1, .ref a2, .ref a3, .int sv, .ref a4, .ref a5, .ref a6, .int (nI ln), .ref a7, .int bm, .int br, .int ck, .int sa, .ref a8, .int lm, .int rs, .int at_, .ref a9, .int tm, .long hs])), (a6, .inl (ca 0, 40, .inl (upd fb ln v)))] H := hP
      have hD : va_D A [(om, .inr (6, [.int (nI 0), .ref a1, .ref a2, .ref a3, .int sv, .ref a4, .ref a5, .ref a6, .int (nI ln), .ref a7, .int bm, .int br, .int ck, .int sa, .ref a8, .int lm, .int rs, .int at_, .ref a9, .int tm, .long hs])), (a6, .inl (ca 0, 40, .inl (upd fb ln v)))] := hD
      refine lv_aload_n hx hb dX6_append_47 rfl (lv_at hl 0 rfl) ?_
      refine lv_dup hx hb dX6_append_48 rfl ?_
      refine va_get (D := D) (ci := 6) (C := RX6) (T := TX6) (N := 21) hx hb hts hiX6 hown hKv hP 0 rfl rfl 8 (by decide) lk136 (fun _ h9 => h9) rfl dX6_append_49 ?_
      refine lv_iconst (v := nI 1) hx hb dX6_append_52 (by decide) ?_
      refine ni_iadd hx hb dX6_append_53 ?_
      refine va_put (D := D) (ci := 6) (v := .int (nI (ln + 1))) (ty := .int) (C := RX6) (T := TX6) (N := 21) hx hb hts hiX6 tyX6 tyX6_ok nmX6 hown hKv hP hD hS 0 rfl rfl 8 (by decide) lk136 (fun _ h9 => h9) rfl (by decide +kernel) rfl rfl (kk_le rfl) dX6_append_54 (fun H locs hP hD hS => ?_)
      have hP : va_P D vwCl [(om, .inr (6, [.int (nI 0), .ref a1, .ref a2, .ref a3, .int sv, .ref a4, .ref a5, .ref a6, .int (nI (ln + 1)), .ref a7, .int bm, .int br, .int ck, .int sa, .ref a8, .int lm, .int rs, .int at_, .ref a9, .int tm, .long hs])), (a6, .inl (ca 0, 40, .inl (upd fb ln v)))] H := hP
      have hD : va_D A [(om, .inr (6, [.int (nI 0), .ref a1, .ref a2, .ref a3, .int sv, .ref a4, .ref a5, .ref a6, .int (nI (ln + 1)), .ref a7, .int bm, .int br, .int ck, .int sa, .ref a8, .int lm, .int rs, .int at_, .ref a9, .int tm, .long hs])), (a6, .inl (ca 0, 40, .inl (upd fb ln v)))] := hD
      refine lv_aload_n hx hb dX6_append_57 rfl (lv_at hl 0 rfl) ?_
      refine va_get (D := D) (ci := 6) (C := RX6) (T := TX6) (N := 21) hx hb hts hiX6 hown hKv hP 0 rfl rfl 8 (by decide) lk136 (fun _ h9 => h9) rfl dX6_append_58 ?_
      exact W.iret (v := nI (ln + 1)) hx hb hr (fun t ht hW => ⟨⟨_, (), rfl, ⟨by rfl, by trivial⟩, by rw [ht]; exact hP, hD⟩, hS.F ht⟩) hS.2.2 dX6_append_61
    · exact absurd c4 (by omega)
  · first | exact False.elim c3 | exact absurd c3 (by decide) | (exfalso; omega)
abbrev rm_kX6_append_bad : Room := { frames := 1, cells := 0, slots := 0, locals := 22 }
set_option maxHeartbeats 4000000 in
set_option maxRecDepth 100000 in
theorem kX6_append_bad (l : Launch) (D : va_G) (ca : Nat → ClassId) (sz : Nat) (om a1 a2 a3 a4 a5 a6 a7 a8 a9 : Nat) (thr sv bm br ck sa lm rs at_ tm : Int32) (hs : Int64) (ln : Nat) (fb : Nat → Int32) (v : Int32) (hbad : inF v (nI 33) (nI 126) = false) : Met l yX6_append wsX6_append rm_kX6_append_bad (pcM D ca [.ref om, .int v] [(om, .inr (6, [.int thr, .ref a1, .ref a2, .ref a3, .int sv, .ref a4, .ref a5, .ref a6, .int (nI ln), .ref a7, .int bm, .int br, .int ck, .int sa, .ref a8, .int lm, .int rs, .int at_, .ref a9, .int tm, .long hs])), (a6, .inl (ca 0, 40, .inl fb))] sz) (va_Qi (fun (zr : Int32) (u : Unit) => zr = nI 0 ∧ True) (qB D (va_A [(om, .inr (6, [.int thr, .ref a1, .ref a2, .ref a3, .int sv, .ref a4, .ref a5, .ref a6, .int (nI ln), .ref a7, .int bm, .int br, .int ck, .int sa, .ref a8, .int lm, .int rs, .int at_, .ref a9, .int tm, .long hs])), (a6, .inl (ca 0, 40, .inl fb))] sz) (fun u : Unit => [(om, .inr (6, [.int (nI 1), .ref a1, .ref a2, .ref a3, .int sv, .ref a4, .ref a5, .ref a6, .int (nI ln), .ref a7, .int bm, .int br, .int ck, .int sa, .ref a8, .int lm, .int rs, .int at_, .ref a9, .int tm, .long hs])), (a6, .inl (ca 0, 40, .inl fb))])) (va_A [(om, .inr (6, [.int thr, .ref a1, .ref a2, .ref a3, .int sv, .ref a4, .ref a5, .ref a6, .int (nI ln), .ref a7, .int bm, .int br, .int ck, .int sa, .ref a8, .int lm, .int rs, .int at_, .ref a9, .int tm, .long hs])), (a6, .inl (ca 0, 40, .inl fb))] sz)) 0 0 (va_A [(om, .inr (6, [.int thr, .ref a1, .ref a2, .ref a3, .int sv, .ref a4, .ref a5, .ref a6, .int (nI ln), .ref a7, .int bm, .int br, .int ck, .int sa, .ref a8, .int lm, .int rs, .int at_, .ref a9, .int tm, .long hs])), (a6, .inl (ca 0, 40, .inl fb))] sz) := by
  refine Met.ofW (cc := cX6_append) (maxL := 2) (ret := (some .int)) (by decide) rfl ?_
  intro p e s m args below meth c s₁ B hml hv
  obtain ⟨rfl, hsz, hP, hK, hD0⟩ := hv
  have hx := B.exec
  have hb := B.bytes
  have hr := B.returns
  have hts := atoms_spec (ws := wsX6_append) B.pre
  have hown : s.vm.findClass RX6 = some m.cls := findClass_of_methodNamed B.named
  have hlocks := B.notSynchronized
  subst hsz
  have hD := hD0.self (sz := s.heap.size)
  generalize hAe : va_A [(om, .inr (6, [.int thr, .ref a1, .ref a2, .ref a3, .int sv, .ref a4, .ref a5, .ref a6, .int (nI ln), .ref a7, .int bm, .int br, .int ck, .int sa, .ref a8, .int lm, .int rs, .int at_, .ref a9, .int tm, .long hs])), (a6, .inl (ca 0, 40, .inl fb))] s.heap.size = A at hD ⊢
  have hA : ∀ q : Nat, s.heap.size ≤ q → A q := fun q h => by rw [← hAe]; exact Or.inr h
  have hS : va_S A s.heap s.heap [] := va_S.rf
  have hP : va_P D vwCl [(om, .inr (6, [.int thr, .ref a1, .ref a2, .ref a3, .int sv, .ref a4, .ref a5, .ref a6, .int (nI ln), .ref a7, .int bm, .int br, .int ck, .int sa, .ref a8, .int lm, .int rs, .int at_, .ref a9, .int tm, .long hs])), (a6, .inl (ca 0, 40, .inl fb))] s.heap := hP
  have hKv := hK.1
  have hl := lv_entry ([.ref om, .int v]) (n := 2) (kk_le rfl)
  rw [lg_entry_eq]
  generalize (lg_sl ([.ref om, .int v]) ++ List.replicate (2 - (lg_sl ([.ref om, .int v])).length) Slot.unset).toArray = ls at hl ⊢
  have hl : lv_has ls 2 [(0, .ref om), (1, .int v)] := hl
  have hiX6 : ∀ w ∈ u_ws RX6 TX6 21, w ∈ wsX6_append := fun w h => by first | exact List.mem_cons_of_mem _ (List.mem_append_right _ h) | exact List.mem_cons_of_mem _ (List.mem_append_left _ (List.mem_append_right _ h)) | exact List.mem_cons_of_mem _ (List.mem_append_left _ (List.mem_append_left _ (List.mem_append_right _ h))) | exact List.mem_cons_of_mem _ (List.mem_append_left _ (List.mem_append_left _ (List.mem_append_left _ (List.mem_append_right _ h)))) | (revert w h; decide +kernel)
  have lk38 : (Cond.fieldLink RX6 38 "StripeSwipesModel" "thrown" "I").before _ s = true := hts _ (by decide +kernel)
  refine lv_aload_n hx hb dX6_append_0 rfl (lv_at hl 0 rfl) ?_
  refine lv_iconst (v := nI 0) hx hb dX6_append_1 (by decide) ?_
  refine va_put (D := D) (ci := 6) (v := .int (nI 0)) (ty := .int) (C := RX6) (T := TX6) (N := 21) hx hb hts hiX6 tyX6 tyX6_ok nmX6 hown hKv hP hD hS 0 rfl rfl 0 (by decide) lk38 (fun _ h9 => h9) rfl (by decide +kernel) rfl rfl (kk_le rfl) dX6_append_2 (fun H locs hP hD hS => ?_)
  have hP : va_P D vwCl [(om, .inr (6, [.int (nI 0), .ref a1, .ref a2, .ref a3, .int sv, .ref a4, .ref a5, .ref a6, .int (nI ln), .ref a7, .int bm, .int br, .int ck, .int sa, .ref a8, .int lm, .int rs, .int at_, .ref a9, .int tm, .long hs])), (a6, .inl (ca 0, 40, .inl fb))] H := hP
  have hD : va_D A [(om, .inr (6, [.int (nI 0), .ref a1, .ref a2, .ref a3, .int sv, .ref a4, .ref a5, .ref a6, .int (nI ln), .ref a7, .int bm, .int br, .int ck, .int sa, .ref a8, .int lm, .int rs, .int at_, .ref a9, .int tm, .long hs])), (a6, .inl (ca 0, 40, .inl fb))] := hD
  refine lv_iload_n hx hb dX6_append_5 rfl (lv_at hl 1 rfl) ?_
  refine lv_bipush (v := nI 33) hx hb dX6_append_6 (by decide) ?_
  refine lv_bipush (v := nI 126) hx hb dX6_append_8 (by decide) ?_
  refine vp_callSi (va_Run.run (va_runS (As := [.int v, .int (nI 33), .int (nI 126)]) (rest := []) ⟨hx, hb, hml, hown, hts⟩ (kX6_in l v (nI 33) (nI 126)) (va_cwS 3 hts gX6_append_X6_in rfl rfl rfl (by decide +kernel) ⟨kk_le rfl, kk_le rfl⟩) psN rfl rfl hl.1 rfl (lv_room (kk_le rfl)) dX6_append_10 ⟨kk_le rfl, kk_le rfl⟩)) (fun r1 hr1 => ?_)
  subst hr1
  have e2 : (bI (inF v (nI 33) (nI 126)) : Int32) = bI false := congrArg bI (hbad)
  rw [e2]
  refine bi_if_ne (tgt := 22) hx hb dX6_append_13 (by decide) (fun c3 => ?_) (fun c3 => ?_)
  · first | exact False.elim c3 | exact absurd c3 (by decide) | (exfalso; omega)
  · refine lv_aload_n hx hb dX6_append_16 rfl (lv_at hl 0 rfl) ?_
    refine lv_iconst (v := nI 1) hx hb dX6_append_17 (by decide) ?_
    have hPc := hP.sub (ws' := [(om, .inr (6, [.int (nI 0), .ref a1, .ref a2, .ref a3, .int sv, .ref a4, .ref a5, .ref a6, .int (nI ln), .ref a7, .int bm, .int br, .int ck, .int sa, .ref a8, .int lm, .int rs, .int at_, .ref a9, .int tm, .long hs]))]) [0] rfl
    have hDc := hD.sub (ws' := [(om, .inr (6, [.int (nI 0), .ref a1, .ref a2, .ref a3, .int sv, .ref a4, .ref a5, .ref a6, .int (nI ln), .ref a7, .int bm, .int br, .int ck, .int sa, .ref a8, .int lm, .int rs, .int at_, .ref a9, .int tm, .long hs]))]) [0] (by decide) rfl
    have hFc := va_free (wc := [(om, .inr (6, [.int (nI 0), .ref a1, .ref a2, .ref a3, .int sv, .ref a4, .ref a5, .ref a6, .int (nI ln), .ref a7, .int bm, .int br, .int ck, .int sa, .ref a8, .int lm, .int rs, .int at_, .ref a9, .int tm, .long hs]))]) hD hS hA [0] rfl
    refine va_calli (va_runV (As := [.int (nI 1)]) (rest := []) ⟨hx, hb, hml, hown, hts⟩ (kX6_fails l D ca H.size om a1 a2 a3 a4 a5 a6 a7 a8 a9 (nI 0) sv (nI ln) bm br ck sa lm rs at_ tm hs (nI 1)) (cwV 1 hts gX6_append_X6_fails rfl rfl rfl (by decide +kernel) ⟨kk_le rfl, kk_le rfl⟩) (pvM hK hPc (my_D_true hDc) (va_recv hKv hP (ci := 6) (q0 := 0) rfl rfl)) rfl rfl hl.1 rfl (lv_room (kk_le rfl)) dX6_append_18 ⟨kk_le rfl, kk_le rfl⟩) hS (fun q _ h => hFc q h) hFc (fun r4 u t H1 locs ht hvm hwv hBv hz1 hk1 hS => ?_)
    obtain ⟨hP1, hD1⟩ := hBv
    rw [ht] at hP1
    have hP1 : va_P D vwCl [(om, .inr (6, [.int (nI 1), .ref a1, .ref a2, .ref a3, .int sv, .ref a4, .ref a5, .ref a6, .int (nI ln), .ref a7, .int bm, .int br, .int ck, .int sa, .ref a8, .int lm, .int rs, .int at_, .ref a9, .int tm, .long hs]))] H1 := hP1
    have hD1 : va_D _ [(om, .inr (6, [.int (nI 1), .ref a1, .ref a2, .ref a3, .int sv, .ref a4, .ref a5, .ref a6, .int (nI ln), .ref a7, .int bm, .int br, .int ck, .int sa, .ref a8, .int lm, .int rs, .int at_, .ref a9, .int tm, .long hs]))] := hD1
    obtain ⟨hr4, hw4⟩ := hwv
    subst hr4
    obtain ⟨hP, hD⟩ := va_join (wr := [(a6, .inl (ca 0, 40, .inl fb))]) (w1 := [(om, .inr (6, [.int (nI 1), .ref a1, .ref a2, .ref a3, .int sv, .ref a4, .ref a5, .ref a6, .int (nI ln), .ref a7, .int bm, .int br, .int ck, .int sa, .ref a8, .int lm, .int rs, .int at_, .ref a9, .int tm, .long hs]))]) hP hD [0] [1] rfl rfl (by decide) (by decide) hk1 hFc hP1 hD1
    generalize H1 = H at hP hS ⊢
    have hP := hP.sub (ws' := [(om, .inr (6, [.int (nI 1), .ref a1, .ref a2, .ref a3, .int sv, .ref a4, .ref a5, .ref a6, .int (nI ln), .ref a7, .int bm, .int br, .int ck, .int sa, .ref a8, .int lm, .int rs, .int at_, .ref a9, .int tm, .long hs])), (a6, .inl (ca 0, 40, .inl fb))]) [1, 0] rfl
    have hD := hD.sub (ws' := [(om, .inr (6, [.int (nI 1), .ref a1, .ref a2, .ref a3, .int sv, .ref a4, .ref a5, .ref a6, .int (nI ln), .ref a7, .int bm, .int br, .int ck, .int sa, .ref a8, .int lm, .int rs, .int at_, .ref a9, .int tm, .long hs])), (a6, .inl (ca 0, 40, .inl fb))]) [1, 0] (by decide) rfl
    exact W.iret (v := nI 0) hx hb hr (fun t ht hW => ⟨⟨_, (), rfl, ⟨by rfl, by trivial⟩, by rw [ht]; exact hP, hD⟩, hS.F ht⟩) hS.2.2 dX6_append_21
abbrev rm_kX6_append_full : Room := { frames := 1, cells := 0, slots := 0, locals := 22 }
set_option maxHeartbeats 4000000 in
set_option maxRecDepth 100000 in
theorem kX6_append_full (l : Launch) (D : va_G) (ca : Nat → ClassId) (sz : Nat) (om a1 a2 a3 a4 a5 a6 a7 a8 a9 : Nat) (thr sv bm br ck sa lm rs at_ tm : Int32) (hs : Int64) (ln : Nat) (fb : Nat → Int32) (v : Int32) (hln : ln = 40) (hin : inF v (nI 33) (nI 126) = true) : Met l yX6_append wsX6_append rm_kX6_append_full (pcM D ca [.ref om, .int v] [(om, .inr (6, [.int thr, .ref a1, .ref a2, .ref a3, .int sv, .ref a4, .ref a5, .ref a6, .int (nI ln), .ref a7, .int bm, .int br, .int ck, .int sa, .ref a8, .int lm, .int rs, .int at_, .ref a9, .int tm, .long hs])), (a6, .inl (ca 0, 40, .inl fb))] sz) (va_Qi (fun (zr : Int32) (u : Unit) => zr = nI 0 ∧ True) (qB D (va_A [(om, .inr (6, [.int thr, .ref a1, .ref a2, .ref a3, .int sv, .ref a4, .ref a5, .ref a6, .int (nI ln), .ref a7, .int bm, .int br, .int ck, .int sa, .ref a8, .int lm, .int rs, .int at_, .ref a9, .int tm, .long hs])), (a6, .inl (ca 0, 40, .inl fb))] sz) (fun u : Unit => [(om, .inr (6, [.int (nI 2), .ref a1, .ref a2, .ref a3, .int sv, .ref a4, .ref a5, .ref a6, .int (nI ln), .ref a7, .int bm, .int br, .int ck, .int sa, .ref a8, .int lm, .int rs, .int at_, .ref a9, .int tm, .long hs])), (a6, .inl (ca 0, 40, .inl fb))])) (va_A [(om, .inr (6, [.int thr, .ref a1, .ref a2, .ref a3, .int sv, .ref a4, .ref a5, .ref a6, .int (nI ln), .ref a7, .int bm, .int br, .int ck, .int sa, .ref a8, .int lm, .int rs, .int at_, .ref a9, .int tm, .long hs])), (a6, .inl (ca 0, 40, .inl fb))] sz)) 0 0 (va_A [(om, .inr (6, [.int thr, .ref a1, .ref a2, .ref a3, .int sv, .ref a4, .ref a5, .ref a6, .int (nI ln), .ref a7, .int bm, .int br, .int ck, .int sa, .ref a8, .int lm, .int rs, .int at_, .ref a9, .int tm, .long hs])), (a6, .inl (ca 0, 40, .inl fb))] sz) := by
  refine Met.ofW (cc := cX6_append) (maxL := 2) (ret := (some .int)) (by decide) rfl ?_
  intro p e s m args below meth c s₁ B hml hv
  obtain ⟨rfl, hsz, hP, hK, hD0⟩ := hv
  have hx := B.exec
  have hb := B.bytes
  have hr := B.returns
  have hts := atoms_spec (ws := wsX6_append) B.pre
  have hown : s.vm.findClass RX6 = some m.cls := findClass_of_methodNamed B.named
  have hlocks := B.notSynchronized
  subst hsz
  have hD := hD0.self (sz := s.heap.size)
  generalize hAe : va_A [(om, .inr (6, [.int thr, .ref a1, .ref a2, .ref a3, .int sv, .ref a4, .ref a5, .ref a6, .int (nI ln), .ref a7, .int bm, .int br, .int ck, .int sa, .ref a8, .int lm, .int rs, .int at_, .ref a9, .int tm, .long hs])), (a6, .inl (ca 0, 40, .inl fb))] s.heap.size = A at hD ⊢
  have hA : ∀ q : Nat, s.heap.size ≤ q → A q := fun q h => by rw [← hAe]; exact Or.inr h
  have hS : va_S A s.heap s.heap [] := va_S.rf
  have hP : va_P D vwCl [(om, .inr (6, [.int thr, .ref a1, .ref a2, .ref a3, .int sv, .ref a4, .ref a5, .ref a6, .int (nI ln), .ref a7, .int bm, .int br, .int ck, .int sa, .ref a8, .int lm, .int rs, .int at_, .ref a9, .int tm, .long hs])), (a6, .inl (ca 0, 40, .inl fb))] s.heap := hP
  have hKv := hK.1
  have hl := lv_entry ([.ref om, .int v]) (n := 2) (kk_le rfl)
  rw [lg_entry_eq]
  generalize (lg_sl ([.ref om, .int v]) ++ List.replicate (2 - (lg_sl ([.ref om, .int v])).length) Slot.unset).toArray = ls at hl ⊢
  have hl : lv_has ls 2 [(0, .ref om), (1, .int v)] := hl
  have hiX6 : ∀ w ∈ u_ws RX6 TX6 21, w ∈ wsX6_append := fun w h => by first | exact List.mem_cons_of_mem _ (List.mem_append_right _ h) | exact List.mem_cons_of_mem _ (List.mem_append_left _ (List.mem_append_right _ h)) | exact List.mem_cons_of_mem _ (List.mem_append_left _ (List.mem_append_left _ (List.mem_append_right _ h))) | exact List.mem_cons_of_mem _ (List.mem_append_left _ (List.mem_append_left _ (List.mem_append_left _ (List.mem_append_right _ h)))) | (revert w h; decide +kernel)
  have lk38 : (Cond.fieldLink RX6 38 "StripeSwipesModel" "thrown" "I").before _ s = true := hts _ (by decide +kernel)
  have lk136 : (Cond.fieldLink RX6 136 "StripeSwipesModel" "length" "I").before _ s = true := hts _ (by decide +kernel)
  refine lv_aload_n hx hb dX6_append_0 rfl (lv_at hl 0 rfl) ?_
  refine lv_iconst (v := nI 0) hx hb dX6_append_1 (by decide) ?_
  refine va_put (D := D) (ci := 6) (v := .int (nI 0)) (ty := .int) (C := RX6) (T := TX6) (N := 21) hx hb hts hiX6 tyX6 tyX6_ok nmX6 hown hKv hP hD hS 0 rfl rfl 0 (by decide) lk38 (fun _ h9 => h9) rfl (by decide +kernel) rfl rfl (kk_le rfl) dX6_append_2 (fun H locs hP hD hS => ?_)
  have hP : va_P D vwCl [(om, .inr (6, [.int (nI 0), .ref a1, .ref a2, .ref a3, .int sv, .ref a4, .ref a5, .ref a6, .int (nI ln), .ref a7, .int bm, .int br, .int ck, .int sa, .ref a8, .int lm, .int rs, .int at_, .ref a9, .int tm, .long hs])), (a6, .inl (ca 0, 40, .inl fb))] H := hP
  have hD : va_D A [(om, .inr (6, [.int (nI 0), .ref a1, .ref a2, .ref a3, .int sv, .ref a4, .ref a5, .ref a6, .int (nI ln), .ref a7, .int bm, .int br, .int ck, .int sa, .ref a8, .int lm, .int rs, .int at_, .ref a9, .int tm, .long hs])), (a6, .inl (ca 0, 40, .inl fb))] := hD
  refine lv_iload_n hx hb dX6_append_5 rfl (lv_at hl 1 rfl) ?_
  refine lv_bipush (v := nI 33) hx hb dX6_append_6 (by decide) ?_
  refine lv_bipush (v := nI 126) hx hb dX6_append_8 (by decide) ?_
  refine vp_callSi (va_Run.run (va_runS (As := [.int v, .int (nI 33), .int (nI 126)]) (rest := []) ⟨hx, hb, hml, hown, hts⟩ (kX6_in l v (nI 33) (nI 126)) (va_cwS 3 hts gX6_append_X6_in rfl rfl rfl (by decide +kernel) ⟨kk_le rfl, kk_le rfl⟩) psN rfl rfl hl.1 rfl (lv_room (kk_le rfl)) dX6_append_10 ⟨kk_le rfl, kk_le rfl⟩)) (fun r1 hr1 => ?_)
  subst hr1
  have e2 : (bI (inF v (nI 33) (nI 126)) : Int32) = bI true := congrArg bI (hin)
  rw [e2]
  refine bi_if_ne (tgt := 22) hx hb dX6_append_13 (by decide) (fun c3 => ?_) (fun c3 => ?_)
  · refine lv_aload_n hx hb dX6_append_22 rfl (lv_at hl 0 rfl) ?_
    refine va_get (D := D) (ci := 6) (C := RX6) (T := TX6) (N := 21) hx hb hts hiX6 hown hKv hP 0 rfl rfl 8 (by decide) lk136 (fun _ h9 => h9) rfl dX6_append_23 ?_
    refine lv_bipush (v := nI 40) hx hb dX6_append_26 (by decide) ?_
    refine ni_icmp_ne (tgt := 37) (by omega) (by omega) hx hb dX6_append_28 (by decide) (fun c4 => ?_) (fun c4 => ?_)
    · exact absurd hln (by omega)
    · refine lv_aload_n hx hb dX6_append_31 rfl (lv_at hl 0 rfl) ?_
      refine lv_iconst (v := nI 2) hx hb dX6_append_32 (by decide) ?_
      have hPc := hP.sub (ws' := [(om, .inr (6, [.int (nI 0), .ref a1, .ref a2, .ref a3, .int sv, .ref a4, .ref a5, .ref a6, .int (nI ln), .ref a7, .int bm, .int br, .int ck, .int sa, .ref a8, .int lm, .int rs, .int at_, .ref a9, .int tm, .long hs]))]) [0] rfl
      have hDc := hD.sub (ws' := [(om, .inr (6, [.int (nI 0), .ref a1, .ref a2, .ref a3, .int sv, .ref a4, .ref a5, .ref a6, .int (nI ln), .ref a7, .int bm, .int br, .int ck, .int sa, .ref a8, .int lm, .int rs, .int at_, .ref a9, .int tm, .long hs]))]) [0] (by decide) rfl
      have hFc := va_free (wc := [(om, .inr (6, [.int (nI 0), .ref a1, .ref a2, .ref a3, .int sv, .ref a4, .ref a5, .ref a6, .int (nI ln), .ref a7, .int bm, .int br, .int ck, .int sa, .ref a8, .int lm, .int rs, .int at_, .ref a9, .int tm, .long hs]))]) hD hS hA [0] rfl
      refine va_calli (va_runV (As := [.int (nI 2)]) (rest := []) ⟨hx, hb, hml, hown, hts⟩ (kX6_fails l D ca H.size om a1 a2 a3 a4 a5 a6 a7 a8 a9 (nI 0) sv (nI ln) bm br ck sa lm rs at_ tm hs (nI 2)) (cwV 1 hts gX6_append_X6_fails rfl rfl rfl (by decide +kernel) ⟨kk_le rfl, kk_le rfl⟩) (pvM hK hPc (my_D_true hDc) (va_recv hKv hP (ci := 6) (q0 := 0) rfl rfl)) rfl rfl hl.1 rfl (lv_room (kk_le rfl)) dX6_append_33 ⟨kk_le rfl, kk_le rfl⟩) hS (fun q _ h => hFc q h) hFc (fun r5 u t H1 locs ht hvm hwv hBv hz1 hk1 hS => ?_)
      obtain ⟨hP1, hD1⟩ := hBv
      rw [ht] at hP1
      have hP1 : va_P D vwCl [(om, .inr (6, [.int (nI 2), .ref a1, .ref a2, .ref a3, .int sv, .ref a4, .ref a5, .ref a6, .int (nI ln), .ref a7, .int bm, .int br, .int ck, .int sa, .ref a8, .int lm, .int rs, .int at_, .ref a9, .int tm, .long hs]))] H1 := hP1
      have hD1 : va_D _ [(om, .inr (6, [.int (nI 2), .ref a1, .ref a2, .ref a3, .int sv, .ref a4, .ref a5, .ref a6, .int (nI ln), .ref a7, .int bm, .int br, .int ck, .int sa, .ref a8, .int lm, .int rs, .int at_, .ref a9, .int tm, .long hs]))] := hD1
      obtain ⟨hr5, hw5⟩ := hwv
      subst hr5
      obtain ⟨hP, hD⟩ := va_join (wr := [(a6, .inl (ca 0, 40, .inl fb))]) (w1 := [(om, .inr (6, [.int (nI 2), .ref a1, .ref a2, .ref a3, .int sv, .ref a4, .ref a5, .ref a6, .int (nI ln), .ref a7, .int bm, .int br, .int ck, .int sa, .ref a8, .int lm, .int rs, .int at_, .ref a9, .int tm, .long hs]))]) hP hD [0] [1] rfl rfl (by decide) (by decide) hk1 hFc hP1 hD1
      generalize H1 = H at hP hS ⊢
      have hP := hP.sub (ws' := [(om, .inr (6, [.int (nI 2), .ref a1, .ref a2, .ref a3, .int sv, .ref a4, .ref a5, .ref a6, .int (nI ln), .ref a7, .int bm, .int br, .int ck, .int sa, .ref a8, .int lm, .int rs, .int at_, .ref a9, .int tm, .long hs])), (a6, .inl (ca 0, 40, .inl fb))]) [1, 0] rfl
      have hD := hD.sub (ws' := [(om, .inr (6, [.int (nI 2), .ref a1, .ref a2, .ref a3, .int sv, .ref a4, .ref a5, .ref a6, .int (nI ln), .ref a7, .int bm, .int br, .int ck, .int sa, .ref a8, .int lm, .int rs, .int at_, .ref a9, .int tm, .long hs])), (a6, .inl (ca 0, 40, .inl fb))]) [1, 0] (by decide) rfl
      exact W.iret (v := nI 0) hx hb hr (fun t ht hW => ⟨⟨_, (), rfl, ⟨by rfl, by trivial⟩, by rw [ht]; exact hP, hD⟩, hS.F ht⟩) hS.2.2 dX6_append_36
  · first | exact False.elim c3 | exact absurd c3 (by decide) | (exfalso; omega)
abbrev rm_kX6_clearBuffer_ok : Room := { frames := 0, cells := 0, slots := 0, locals := 0 }
set_option maxHeartbeats 4000000 in
set_option maxRecDepth 100000 in
theorem kX6_clearBuffer_ok (l : Launch) (D : va_G) (ca : Nat → ClassId) (sz : Nat) (om a1 a2 a3 a4 a5 a6 a7 a8 a9 : Nat) (thr sv bm br ck sa lm rs at_ tm : Int32) (hs : Int64) (ln : Nat) (hln : ln ≤ 40) : Met l yX6_clearBuffer wsX6_clearBuffer rm_kX6_clearBuffer_ok (pcM D ca [.ref om] [(om, .inr (6, [.int thr, .ref a1, .ref a2, .ref a3, .int sv, .ref a4, .ref a5, .ref a6, .int (nI ln), .ref a7, .int bm, .int br, .int ck, .int sa, .ref a8, .int lm, .int rs, .int at_, .ref a9, .int tm, .long hs]))] sz) (va_Qi (fun (zr : Int32) (u : Unit) => zr = nI ln ∧ True) (qB D (va_A [(om, .inr (6, [.int thr, .ref a1, .ref a2, .ref a3, .int sv, .ref a4, .ref a5, .ref a6, .int (nI ln), .ref a7, .int bm, .int br, .int ck, .int sa, .ref a8, .int lm, .int rs, .int at_, .ref a9, .int tm, .long hs]))] sz) (fun u : Unit => [(om, .inr (6, [.int (nI 0), .ref a1, .ref a2, .ref a3, .int sv, .ref a4, .ref a5, .ref a6, .int (nI 0), .ref a7, .int bm, .int br, .int ck, .int sa, .ref a8, .int lm, .int rs, .int at_, .ref a9, .int tm, .long hs]))])) (va_A [(om, .inr (6, [.int thr, .ref a1, .ref a2, .ref a3, .int sv, .ref a4, .ref a5, .ref a6, .int (nI ln), .ref a7, .int bm, .int br, .int ck, .int sa, .ref a8, .int lm, .int rs, .int at_, .ref a9, .int tm, .long hs]))] sz)) 0 0 (va_A [(om, .inr (6, [.int thr, .ref a1, .ref a2, .ref a3, .int sv, .ref a4, .ref a5, .ref a6, .int (nI ln), .ref a7, .int bm, .int br, .int ck, .int sa, .ref a8, .int lm, .int rs, .int at_, .ref a9, .int tm, .long hs]))] sz) := by
  refine Met.ofW (cc := cX6_clearBuffer) (maxL := 2) (ret := (some .int)) (by decide) rfl ?_
  intro p e s m args below meth c s₁ B hml hv
  obtain ⟨rfl, hsz, hP, hK, hD0⟩ := hv
  have hx := B.exec
  have hb := B.bytes
  have hr := B.returns
  have hts := atoms_spec (ws := wsX6_clearBuffer) B.pre
  have hown : s.vm.findClass RX6 = some m.cls := findClass_of_methodNamed B.named
  have hlocks := B.notSynchronized
  subst hsz
  have hD := hD0.self (sz := s.heap.size)
  generalize hAe : va_A [(om, .inr (6, [.int thr, .ref a1, .ref a2, .ref a3, .int sv, .ref a4, .ref a5, .ref a6, .int (nI ln), .ref a7, .int bm, .int br, .int ck, .int sa, .ref a8, .int lm, .int rs, .int at_, .ref a9, .int tm, .long hs]))] s.heap.size = A at hD ⊢
  have hA : ∀ q : Nat, s.heap.size ≤ q → A q := fun q h => by rw [← hAe]; exact Or.inr h
  have hS : va_S A s.heap s.heap [] := va_S.rf
  have hP : va_P D vwCl [(om, .inr (6, [.int thr, .ref a1, .ref a2, .ref a3, .int sv, .ref a4, .ref a5, .ref a6, .int (nI ln), .ref a7, .int bm, .int br, .int ck, .int sa, .ref a8, .int lm, .int rs, .int at_, .ref a9, .int tm, .long hs]))] s.heap := hP
  have hKv := hK.1
  have hl := lv_entry ([.ref om]) (n := 2) (kk_le rfl)
  rw [lg_entry_eq]
  generalize (lg_sl ([.ref om]) ++ List.replicate (2 - (lg_sl ([.ref om])).length) Slot.unset).toArray = ls at hl ⊢
  have hl : lv_has ls 2 [(0, .ref om)] := hl
  have hiX6 : ∀ w ∈ u_ws RX6 TX6 21, w ∈ wsX6_clearBuffer := fun w h => by first | exact List.mem_cons_of_mem _ (List.mem_append_right _ h) | exact List.mem_cons_of_mem _ (List.mem_append_left _ (List.mem_append_right _ h)) | exact List.mem_cons_of_mem _ (List.mem_append_left _ (List.mem_append_left _ (List.mem_append_right _ h))) | exact List.mem_cons_of_mem _ (List.mem_append_left _ (List.mem_append_left _ (List.mem_append_left _ (List.mem_append_right _ h)))) | (revert w h; decide +kernel)
  have lk38 : (Cond.fieldLink RX6 38 "StripeSwipesModel" "thrown" "I").before _ s = true := hts _ (by decide +kernel)
  have lk136 : (Cond.fieldLink RX6 136 "StripeSwipesModel" "length" "I").before _ s = true := hts _ (by decide +kernel)
  refine lv_aload_n hx hb dX6_clearBuffer_0 rfl (lv_at hl 0 rfl) ?_
  refine lv_iconst (v := nI 0) hx hb dX6_clearBuffer_1 (by decide) ?_
  refine va_put (D := D) (ci := 6) (v := .int (nI 0)) (ty := .int) (C := RX6) (T := TX6) (N := 21) hx hb hts hiX6 tyX6 tyX6_ok nmX6 hown hKv hP hD hS 0 rfl rfl 0 (by decide) lk38 (fun _ h9 => h9) rfl (by decide +kernel) rfl rfl (kk_le rfl) dX6_clearBuffer_2 (fun H locs hP hD hS => ?_)
  have hP : va_P D vwCl [(om, .inr (6, [.int (nI 0), .ref a1, .ref a2, .ref a3, .int sv, .ref a4, .ref a5, .ref a6, .int (nI ln), .ref a7, .int bm, .int br, .int ck, .int sa, .ref a8, .int lm, .int rs, .int at_, .ref a9, .int tm, .long hs]))] H := hP
  have hD : va_D A [(om, .inr (6, [.int (nI 0), .ref a1, .ref a2, .ref a3, .int sv, .ref a4, .ref a5, .ref a6, .int (nI ln), .ref a7, .int bm, .int br, .int ck, .int sa, .ref a8, .int lm, .int rs, .int at_, .ref a9, .int tm, .long hs]))] := hD
  refine lv_aload_n hx hb dX6_clearBuffer_5 rfl (lv_at hl 0 rfl) ?_
  refine va_get (D := D) (ci := 6) (C := RX6) (T := TX6) (N := 21) hx hb hts hiX6 hown hKv hP 0 rfl rfl 8 (by decide) lk136 (fun _ h9 => h9) rfl dX6_clearBuffer_6 ?_
  refine lv_istore_n (lv' := [(1, .int (nI ln)), (0, .ref om)]) hx hb dX6_clearBuffer_9 rfl hl (by decide) rfl (fun ls hl => ?_)
  refine lv_aload_n hx hb dX6_clearBuffer_10 rfl (lv_at hl 1 rfl) ?_
  refine lv_iconst (v := nI 0) hx hb dX6_clearBuffer_11 (by decide) ?_
  refine va_put (D := D) (ci := 6) (v := .int (nI 0)) (ty := .int) (C := RX6) (T := TX6) (N := 21) hx hb hts hiX6 tyX6 tyX6_ok nmX6 hown hKv hP hD hS 0 rfl rfl 8 (by decide) lk136 (fun _ h9 => h9) rfl (by decide +kernel) rfl rfl (kk_le rfl) dX6_clearBuffer_12 (fun H locs hP hD hS => ?_)
  have hP : va_P D vwCl [(om, .inr (6, [.int (nI 0), .ref a1, .ref a2, .ref a3, .int sv, .ref a4, .ref a5, .ref a6, .int (nI 0), .ref a7, .int bm, .int br, .int ck, .int sa, .ref a8, .int lm, .int rs, .int at_, .ref a9, .int tm, .long hs]))] H := hP
  have hD : va_D A [(om, .inr (6, [.int (nI 0), .ref a1, .ref a2, .ref a3, .int sv, .ref a4, .ref a5, .ref a6, .int (nI 0), .ref a7, .int bm, .int br, .int ck, .int sa, .ref a8, .int lm, .int rs, .int at_, .ref a9, .int tm, .long hs]))] := hD
  refine lv_iload_n hx hb dX6_clearBuffer_15 rfl (lv_at hl 0 rfl) ?_
  exact W.iret (v := nI ln) hx hb hr (fun t ht hW => ⟨⟨_, (), rfl, ⟨by rfl, by trivial⟩, by rw [ht]; exact hP, hD⟩, hS.F ht⟩) hS.2.2 dX6_clearBuffer_16
abbrev rm_kX6_firstError_ok : Room := { frames := 3, cells := 0, slots := 0, locals := 62 }
set_option maxHeartbeats 4000000 in
set_option maxRecDepth 100000 in
theorem kX6_firstError_ok (l : Launch) (D : va_G) (ca : Nat → ClassId) (sz : Nat) (om a1 a2 a3 a4 a5 a6 a7 a8 a9 : Nat) (thr sv bm br ck sa lm rs at_ tm : Int32) (hs : Int64) (ln : Nat) (fb ft : Nat → Int32) (hln : ln ≤ 40) : Met l yX6_firstError wsX6_firstError rm_kX6_firstError_ok (pcM D ca [.ref om] [(om, .inr (6, [.int thr, .ref a1, .ref a2, .ref a3, .int sv, .ref a4, .ref a5, .ref a6, .int (nI ln), .ref a7, .int bm, .int br, .int ck, .int sa, .ref a8, .int lm, .int rs, .int at_, .ref a9, .int tm, .long hs])), (a6, .inl (ca 0, 40, .inl fb)), (a9, .inl (ca 0, 20, .inl ft))] sz) (va_Qi (fun (zr : Int32) (u : Unit) => zr = nI (erN fb ln) ∧ True) (qB D (va_A [(om, .inr (6, [.int thr, .ref a1, .ref a2, .ref a3, .int sv, .ref a4, .ref a5, .ref a6, .int (nI ln), .ref a7, .int bm, .int br, .int ck, .int sa, .ref a8, .int lm, .int rs, .int at_, .ref a9, .int tm, .long hs])), (a6, .inl (ca 0, 40, .inl fb)), (a9, .inl (ca 0, 20, .inl ft))] sz) (fun u : Unit => [(om, .inr (6, [.int (nI 0), .ref a1, .ref a2, .ref a3, .int sv, .ref a4, .ref a5, .ref a6, .int (nI ln), .ref a7, .int bm, .int br, .int ck, .int sa, .ref a8, .int lm, .int rs, .int (nI (erN fb ln)), .ref a9, .int (nI (erN fb ln)), .long hs])), (a6, .inl (ca 0, 40, .inl fb)), (a9, .inl (ca 0, 20, .inl (apF ft 0 (lcL fb (erN fb ln)))))])) (va_A [(om, .inr (6, [.int thr, .ref a1, .ref a2, .ref a3, .int sv, .ref a4, .ref a5, .ref a6, .int (nI ln), .ref a7, .int bm, .int br, .int ck, .int sa, .ref a8, .int lm, .int rs, .int at_, .ref a9, .int tm, .long hs])), (a6, .inl (ca 0, 40, .inl fb)), (a9, .inl (ca 0, 20, .inl ft))] sz)) 0 0 (va_A [(om, .inr (6, [.int thr, .ref a1, .ref a2, .ref a3, .int sv, .ref a4, .ref a5, .ref a6, .int (nI ln), .ref a7, .int bm, .int br, .int ck, .int sa, .ref a8, .int lm, .int rs, .int at_, .ref a9, .int tm, .long hs])), (a6, .inl (ca 0, 40, .inl fb)), (a9, .inl (ca 0, 20, .inl ft))] sz) := by
  refine Met.ofW (cc := cX6_firstError) (maxL := 1) (ret := (some .int)) (by decide) rfl ?_
  intro p e s m args below meth c s₁ B hml hv
  obtain ⟨rfl, hsz, hP, hK, hD0⟩ := hv
  have hx := B.exec
  have hb := B.bytes
  have hr := B.returns
  have hts := atoms_spec (ws := wsX6_firstError) B.pre
  have hown : s.vm.findClass RX6 = some m.cls := findClass_of_methodNamed B.named
  have hlocks := B.notSynchronized
  subst hsz
  have hD := hD0.self (sz := s.heap.size)
  generalize hAe : va_A [(om, .inr (6, [.int thr, .ref a1, .ref a2, .ref a3, .int sv, .ref a4, .ref a5, .ref a6, .int (nI ln), .ref a7, .int bm, .int br, .int ck, .int sa, .ref a8, .int lm, .int rs, .int at_, .ref a9, .int tm, .long hs])), (a6, .inl (ca 0, 40, .inl fb)), (a9, .inl (ca 0, 20, .inl ft))] s.heap.size = A at hD ⊢
  have hA : ∀ q : Nat, s.heap.size ≤ q → A q := fun q h => by rw [← hAe]; exact Or.inr h
  have hS : va_S A s.heap s.heap [] := va_S.rf
  have hP : va_P D vwCl [(om, .inr (6, [.int thr, .ref a1, .ref a2, .ref a3, .int sv, .ref a4, .ref a5, .ref a6, .int (nI ln), .ref a7, .int bm, .int br, .int ck, .int sa, .ref a8, .int lm, .int rs, .int at_, .ref a9, .int tm, .long hs])), (a6, .inl (ca 0, 40, .inl fb)), (a9, .inl (ca 0, 20, .inl ft))] s.heap := hP
  have hKv := hK.1
  have hl := lv_entry ([.ref om]) (n := 1) (kk_le rfl)
  rw [lg_entry_eq]
  generalize (lg_sl ([.ref om]) ++ List.replicate (1 - (lg_sl ([.ref om])).length) Slot.unset).toArray = ls at hl ⊢
  have hl : lv_has ls 1 [(0, .ref om)] := hl
  have hiX6 : ∀ w ∈ u_ws RX6 TX6 21, w ∈ wsX6_firstError := fun w h => by first | exact List.mem_cons_of_mem _ (List.mem_append_right _ h) | exact List.mem_cons_of_mem _ (List.mem_append_left _ (List.mem_append_right _ h)) | exact List.mem_cons_of_mem _ (List.mem_append_left _ (List.mem_append_left _ (List.mem_append_right _ h))) | exact List.mem_cons_of_mem _ (List.mem_append_left _ (List.mem_append_left _ (List.mem_append_left _ (List.mem_append_right _ h)))) | (revert w h; decide +kernel)
  have lk38 : (Cond.fieldLink RX6 38 "StripeSwipesModel" "thrown" "I").before _ s = true := hts _ (by decide +kernel)
  refine lv_aload_n hx hb dX6_firstError_0 rfl (lv_at hl 0 rfl) ?_
  refine lv_iconst (v := nI 0) hx hb dX6_firstError_1 (by decide) ?_
  refine va_put (D := D) (ci := 6) (v := .int (nI 0)) (ty := .int) (C := RX6) (T := TX6) (N := 21) hx hb hts hiX6 tyX6 tyX6_ok nmX6 hown hKv hP hD hS 0 rfl rfl 0 (by decide) lk38 (fun _ h9 => h9) rfl (by decide +kernel) rfl rfl (kk_le rfl) dX6_firstError_2 (fun H locs hP hD hS => ?_)
  have hP : va_P D vwCl [(om, .inr (6, [.int (nI 0), .ref a1, .ref a2, .ref a3, .int sv, .ref a4, .ref a5, .ref a6, .int (nI ln), .ref a7, .int bm, .int br, .int ck, .int sa, .ref a8, .int lm, .int rs, .int at_, .ref a9, .int tm, .long hs])), (a6, .inl (ca 0, 40, .inl fb)), (a9, .inl (ca 0, 20, .inl ft))] H := hP
  have hD : va_D A [(om, .inr (6, [.int (nI 0), .ref a1, .ref a2, .ref a3, .int sv, .ref a4, .ref a5, .ref a6, .int (nI ln), .ref a7, .int bm, .int br, .int ck, .int sa, .ref a8, .int lm, .int rs, .int at_, .ref a9, .int tm, .long hs])), (a6, .inl (ca 0, 40, .inl fb)), (a9, .inl (ca 0, 20, .inl ft))] := hD
  refine lv_aload_n hx hb dX6_firstError_5 rfl (lv_at hl 0 rfl) ?_
  have hPc := hP
  have hDc := hD
  have hFc := va_free (wc := [(om, .inr (6, [.int (nI 0), .ref a1, .ref a2, .ref a3, .int sv, .ref a4, .ref a5, .ref a6, .int (nI ln), .ref a7, .int bm, .int br, .int ck, .int sa, .ref a8, .int lm, .int rs, .int at_, .ref a9, .int tm, .long hs])), (a6, .inl (ca 0, 40, .inl fb)), (a9, .inl (ca 0, 20, .inl ft))]) hD hS hA [0, 1, 2] rfl
  refine va_calli (va_runV (As := []) (rest := []) ⟨hx, hb, hml, hown, hts⟩ (kX6_readsBuffer l D ca H.size om a1 a2 a3 a4 a5 a6 a7 a8 a9 (nI 0) sv bm br ck sa lm rs at_ tm hs ln fb ft (by first | rfl | assumption | omega | trivial | (exfalso; omega))) (cwV 0 hts gX6_firstError_X6_readsBuffer rfl rfl rfl (by decide +kernel) ⟨kk_le rfl, kk_le rfl⟩) (pvM hK hPc (my_D_true hDc) (va_recv hKv hP (ci := 6) (q0 := 0) rfl rfl)) rfl rfl hl.1 rfl (lv_room (kk_le rfl)) dX6_firstError_6 ⟨kk_le rfl, kk_le rfl⟩) hS (fun q _ h => hFc q h) hFc (fun r1 u t H1 locs ht hvm hwv hBv hz1 hk1 hS => ?_)
  obtain ⟨hP1, hD1⟩ := hBv
  rw [ht] at hP1
  have hP1 : va_P D vwCl [(om, .inr (6, [.int (nI 0), .ref a1, .ref a2, .ref a3, .int sv, .ref a4, .ref a5, .ref a6, .int (nI ln), .ref a7, .int bm, .int br, .int ck, .int sa, .ref a8, .int lm, .int rs, .int (nI (erN fb ln)), .ref a9, .int (nI (erN fb ln)), .long hs])), (a6, .inl (ca 0, 40, .inl fb)), (a9, .inl (ca 0, 20, .inl (apF ft 0 (lcL fb (erN fb ln)))))] H1 := hP1
  have hD1 : va_D _ [(om, .inr (6, [.int (nI 0), .ref a1, .ref a2, .ref a3, .int sv, .ref a4, .ref a5, .ref a6, .int (nI ln), .ref a7, .int bm, .int br, .int ck, .int sa, .ref a8, .int lm, .int rs, .int (nI (erN fb ln)), .ref a9, .int (nI (erN fb ln)), .long hs])), (a6, .inl (ca 0, 40, .inl fb)), (a9, .inl (ca 0, 20, .inl (apF ft 0 (lcL fb (erN fb ln)))))] := hD1
  obtain ⟨hr1, hw1⟩ := hwv
  subst hr1
  have hP := hP1
  have hD := hD1.weaken (fun _ _ _ h => hFc _ h)
  generalize H1 = H at hP hS ⊢
  have hP : va_P D vwCl [(om, .inr (6, [.int (nI 0), .ref a1, .ref a2, .ref a3, .int sv, .ref a4, .ref a5, .ref a6, .int (nI ln), .ref a7, .int bm, .int br, .int ck, .int sa, .ref a8, .int lm, .int rs, .int (nI (erN fb ln)), .ref a9, .int (nI (erN fb ln)), .long hs])), (a6, .inl (ca 0, 40, .inl fb)), (a9, .inl (ca 0, 20, .inl (apF ft 0 (lcL fb (erN fb ln)))))] H := hP
  have hD : va_D A [(om, .inr (6, [.int (nI 0), .ref a1, .ref a2, .ref a3, .int sv, .ref a4, .ref a5, .ref a6, .int (nI ln), .ref a7, .int bm, .int br, .int ck, .int sa, .ref a8, .int lm, .int rs, .int (nI (erN fb ln)), .ref a9, .int (nI (erN fb ln)), .long hs])), (a6, .inl (ca 0, 40, .inl fb)), (a9, .inl (ca 0, 20, .inl (apF ft 0 (lcL fb (erN fb ln)))))] := hD
  exact W.iret (v := nI (erN fb ln)) hx hb hr (fun t ht hW => ⟨⟨_, (), rfl, ⟨by rfl, by trivial⟩, by rw [ht]; exact hP, hD⟩, hS.F ht⟩) hS.2.2 dX6_firstError_9
