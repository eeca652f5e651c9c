theorem st_s {args : Array Value} {s : State} {own tx : String} {k : Nat} (h1 : (Cond.stringRef own k tx).before args s = true) (h2 : (Cond.exactly (.string own k) "java/lang/String").before args s = true) : ∃ a : Nat, vk_R own k tx a s := by
  obtain ⟨a, c, cA, kA, q1, -⟩ := Cond.exactly_spec h2
  exact ⟨a, vk_R.of h1 q1⟩
theorem st_arr {args : Array Value} {s : State} {ty : FieldType} (h : (Cond.arrayClass ty).before args s = true) : ∃ cA, ArrOfT s cA ty ∧ s.vm.findClass ("[" ++ ty.toString) = some cA := by
  obtain ⟨c, k, comp, h1, h2, h3⟩ := Cond.arrayClass_spec h
  exact ⟨c, fun n z => ⟨fun k h => (by cases h), k, h2, comp, h3⟩, h1⟩
theorem st_arq {args : Array Value} {s : State} {C : String} (h : (Cond.arrayOver (.object C)).before args s = true) : ∃ cA, ArrOfT s cA (.object C) ∧ va_RA s cA (.object C) := by
  obtain ⟨comp, c, k, h1, h2, h3, h4, h5⟩ := Cond.arrayOver_spec h
  exact ⟨c, fun n z => ⟨fun k h => (by cases h), k, h3, comp, h4⟩, k, comp, h3, h4, h1, h5⟩
set_option maxRecDepth 100000 in
theorem st_NW {b : Nat} {s : State} (hgv : (Jvm.Cond.and given_1 narrow_1).before #[Value.ref b] s = true) (hts : ∀ w ∈ lw_tbl, w.before #[Value.ref b] s = true) : NW s := by
  have hs := flat_of_before _ hgv
  exact ⟨va_Nw.of rfl (hts (.fieldLinkNest "StripeSwipes$State" 23 "StripeSwipes" "FIRST_VALUES" "[I" "StripeSwipes") (by decide +kernel)),
    va_Nw.of rfl (hts (.fieldLinkNest "StripeSwipes" 113 "StripeSwipes$State" "times" "LStripeSwipes$Row;" "StripeSwipes") (by decide +kernel)),
    va_Nw.of rfl (hts (.fieldLinkNest "StripeSwipes" 106 "StripeSwipes$State" "letters" "LStripeSwipes$Row;" "StripeSwipes") (by decide +kernel)),
    va_Nw.of rfl (hts (.fieldLinkNest "StripeSwipes" 148 "StripeSwipes$State" "settings" "LStripeSwipes$Row;" "StripeSwipes") (by decide +kernel)),
    va_Nw.of rfl (hts (.fieldLinkNest "StripeSwipes" 196 "StripeSwipes$Reading" "bits" "LStripeSwipes$Row;" "StripeSwipes") (by decide +kernel)),
    va_Nw.of rfl (hts (.fieldLinkNest "StripeSwipes" 199 "StripeSwipes$Reading" "letters" "LStripeSwipes$Row;" "StripeSwipes") (by decide +kernel)),
    va_Nw.of rfl (hts (.methodLinkNest "StripeSwipes" 22 yX0_init "StripeSwipes") (by decide +kernel)),
    va_Nw.of rfl (hts (.methodLinkNest "StripeSwipes" 38 yX1_init "StripeSwipes") (by decide +kernel)),
    va_Nw.of rfl (hts (.methodLinkNest "StripeSwipes" 45 yX4_init "StripeSwipes") (by decide +kernel)),
    va_Nw.of rfl (hts (.methodLinkNest "StripeSwipes$Reading" 91 yX5_checkOf "StripeSwipes") (by decide +kernel)),
    va_Nw.of rfl (hts (.methodLinkNest "StripeSwipes$Stripe" 37 yX5_checkOf "StripeSwipes") (by decide +kernel)),
    st_s (hts (.stringRef "StripeSwipes" 119 "no card was written") (by decide +kernel)) (hs (.exactly (.string "StripeSwipes" 119) "java/lang/String") (by decide +kernel)),
    st_s (hts (.stringRef "StripeSwipes" 126 "there are not both times") (by decide +kernel)) (hs (.exactly (.string "StripeSwipes" 126) "java/lang/String") (by decide +kernel)),
    st_s (hts (.stringRef "StripeSwipes" 139 "there is no such time") (by decide +kernel)) (hs (.exactly (.string "StripeSwipes" 139) "java/lang/String") (by decide +kernel)),
    st_s (hts (.stringRef "StripeSwipes" 141 "the time is out of range") (by decide +kernel)) (hs (.exactly (.string "StripeSwipes" 141) "java/lang/String") (by decide +kernel)),
    st_s (hts (.stringRef "StripeSwipes" 143 "the row is full") (by decide +kernel)) (hs (.exactly (.string "StripeSwipes" 143) "java/lang/String") (by decide +kernel)),
    st_s (hts (.stringRef "StripeSwipes" 151 "there is no such setting") (by decide +kernel)) (hs (.exactly (.string "StripeSwipes" 151) "java/lang/String") (by decide +kernel)),
    st_s (hts (.stringRef "StripeSwipes" 164 "the value is out of range") (by decide +kernel)) (hs (.exactly (.string "StripeSwipes" 164) "java/lang/String") (by decide +kernel)),
    st_s (hts (.stringRef "StripeSwipes" 166 "the code is out of range") (by decide +kernel)) (hs (.exactly (.string "StripeSwipes" 166) "java/lang/String") (by decide +kernel)),
    st_s (hts (.stringRef "StripeSwipes" 168 "the buffer is full") (by decide +kernel)) (hs (.exactly (.string "StripeSwipes" 168) "java/lang/String") (by decide +kernel)),
    st_s (hts (.stringRef "StripeSwipes" 170 "there is no such slot") (by decide +kernel)) (hs (.exactly (.string "StripeSwipes" 170) "java/lang/String") (by decide +kernel)),
    st_s (hts (.stringRef "StripeSwipes" 174 "the slot is empty") (by decide +kernel)) (hs (.exactly (.string "StripeSwipes" 174) "java/lang/String") (by decide +kernel)),
    st_s (hts (.stringRef "StripeSwipes" 180 "no state is saved") (by decide +kernel)) (hs (.exactly (.string "StripeSwipes" 180) "java/lang/String") (by decide +kernel)),
    st_s (hts (.stringRef "StripeSwipes" 185 "the place is below 0") (by decide +kernel)) (hs (.exactly (.string "StripeSwipes" 185) "java/lang/String") (by decide +kernel)),
    st_s (hts (.stringRef "StripeSwipes" 187 "there is no such number") (by decide +kernel)) (hs (.exactly (.string "StripeSwipes" 187) "java/lang/String") (by decide +kernel)),
    st_s (hts (.stringRef "StripeSwipes" 68 "the buffer does not tell a card") (by decide +kernel)) (hs (.exactly (.string "StripeSwipes" 68) "java/lang/String") (by decide +kernel)),
    st_s (hts (.stringRef "StripeSwipes" 99 "the row would have too many times") (by decide +kernel)) (hs (.exactly (.string "StripeSwipes" 99) "java/lang/String") (by decide +kernel)),
    va_AO.of (hts (.arrayOver (.object RX3)) (by decide +kernel)),
    va_Nw.of rfl (by first | exact hts (.castable "java/lang/IllegalArgumentException" "java/lang/IllegalArgumentException") (by decide +kernel) | exact hs (.castable "java/lang/IllegalArgumentException" "java/lang/IllegalArgumentException") (by decide +kernel)),
    va_Nw.of rfl (by first | exact hts (.castable "java/lang/IllegalStateException" "java/lang/IllegalStateException") (by decide +kernel) | exact hs (.castable "java/lang/IllegalStateException" "java/lang/IllegalStateException") (by decide +kernel)),
    va_Nw.of rfl (by first | exact hts (.castable "java/lang/IndexOutOfBoundsException" "java/lang/IndexOutOfBoundsException") (by decide +kernel) | exact hs (.castable "java/lang/IndexOutOfBoundsException" "java/lang/IndexOutOfBoundsException") (by decide +kernel))⟩
set_option maxRecDepth 100000 in
theorem st_ZZ {b : Nat} {s : State} (hgv : (Jvm.Cond.and given_1 narrow_1).before #[Value.ref b] s = true) (hts : ∀ w ∈ lw_tbl, w.before #[Value.ref b] s = true) : ZZ (fun q : Nat => s.heap.size ≤ q) s s.heap := by
  have hs := flat_of_before _ hgv
  have hA : ∀ a : Nat, a < s.heap.size → ¬ (fun q : Nat => s.heap.size ≤ q) a := fun a h => Nat.not_le.mpr h
  refine ⟨?_, ?_, ?_, vx_Zqof (hts (.laysStatic Bundle.tN "UNASSIGNED_STACK" Bundle.steD) (by decide +kernel)) (hts (.initialized Bundle.tN) (by decide +kernel)) (hs (.isRef (.static Bundle.tN "UNASSIGNED_STACK" Bundle.steD)) (by decide +kernel)) hA, vx_Zqof (hts (.laysStatic Bundle.tN "SUPPRESSED_SENTINEL" Bundle.listD) (by decide +kernel)) (hts (.initialized Bundle.tN) (by decide +kernel)) (hs (.isRef (.static Bundle.tN "SUPPRESSED_SENTINEL" Bundle.listD)) (by decide +kernel)) hA⟩
  · have hel : ∀ j : Nat, j < 4 → (Term.elem (.static "StripeSwipes" "FIRST_VALUES" "[I") (.int (Int32.ofNat j))).eval #[Value.ref b] s none [] s = some (.int (firstF j)) := by
      intro j hj
      rcases (show j = 0 ∨ j = 1 ∨ j = 2 ∨ j = 3 by omega) with e | e | e | e <;> subst e
      · exact va_eqt (hs (.eq (.elem (.static "StripeSwipes" "FIRST_VALUES" "[I") (.int 0)) (.int 10)) (by decide +kernel))
      · exact va_eqt (hs (.eq (.elem (.static "StripeSwipes" "FIRST_VALUES" "[I") (.int 1)) (.int 75)) (by decide +kernel))
      · exact va_eqt (hs (.eq (.elem (.static "StripeSwipes" "FIRST_VALUES" "[I") (.int 2)) (.int 50)) (by decide +kernel))
      · exact va_eqt (hs (.eq (.elem (.static "StripeSwipes" "FIRST_VALUES" "[I") (.int 3)) (.int 0)) (by decide +kernel))
    obtain ⟨t, h1, h2⟩ := va_Tof (tm := (.static "StripeSwipes" "FIRST_VALUES" "[I")) (ty := .int) (N := 4) (f := fun j => .int (firstF j)) (by decide) (hs (.arrayOf (.static "StripeSwipes" "FIRST_VALUES" "[I") .int) (by decide +kernel)) (va_eqt (hs (.eq (.length (.static "StripeSwipes" "FIRST_VALUES" "[I")) (.int 4)) (by decide +kernel))) hel hA
    exact ⟨t, va_Zof (hts (.laysStatic "StripeSwipes" "FIRST_VALUES" "[I") (by decide +kernel)) (hts (.initialized "StripeSwipes") (by decide +kernel)) h1 hA, h2⟩
  · have hel : ∀ j : Nat, j < 4 → (Term.elem (.static "StripeSwipes" "LEAST_VALUES" "[I") (.int (Int32.ofNat j))).eval #[Value.ref b] s none [] s = some (.int (leastF j)) := by
      intro j hj
      rcases (show j = 0 ∨ j = 1 ∨ j = 2 ∨ j = 3 by omega) with e | e | e | e <;> subst e
      · exact va_eqt (hs (.eq (.elem (.static "StripeSwipes" "LEAST_VALUES" "[I") (.int 0)) (.int 5)) (by decide +kernel))
      · exact va_eqt (hs (.eq (.elem (.static "StripeSwipes" "LEAST_VALUES" "[I") (.int 1)) (.int 50)) (by decide +kernel))
      · exact va_eqt (hs (.eq (.elem (.static "StripeSwipes" "LEAST_VALUES" "[I") (.int 2)) (.int 0)) (by decide +kernel))
      · exact va_eqt (hs (.eq (.elem (.static "StripeSwipes" "LEAST_VALUES" "[I") (.int 3)) (.int 0)) (by decide +kernel))
    obtain ⟨t, h1, h2⟩ := va_Tof (tm := (.static "StripeSwipes" "LEAST_VALUES" "[I")) (ty := .int) (N := 4) (f := fun j => .int (leastF j)) (by decide) (hs (.arrayOf (.static "StripeSwipes" "LEAST_VALUES" "[I") .int) (by decide +kernel)) (va_eqt (hs (.eq (.length (.static "StripeSwipes" "LEAST_VALUES" "[I")) (.int 4)) (by decide +kernel))) hel hA
    exact ⟨t, va_Zof (hts (.laysStatic "StripeSwipes" "LEAST_VALUES" "[I") (by decide +kernel)) (hts (.initialized "StripeSwipes") (by decide +kernel)) h1 hA, h2⟩
  · have hel : ∀ j : Nat, j < 4 → (Term.elem (.static "StripeSwipes" "MOST_VALUES" "[I") (.int (Int32.ofNat j))).eval #[Value.ref b] s none [] s = some (.int (mostF j)) := by
      intro j hj
      rcases (show j = 0 ∨ j = 1 ∨ j = 2 ∨ j = 3 by omega) with e | e | e | e <;> subst e
      · exact va_eqt (hs (.eq (.elem (.static "StripeSwipes" "MOST_VALUES" "[I") (.int 0)) (.int 30)) (by decide +kernel))
      · exact va_eqt (hs (.eq (.elem (.static "StripeSwipes" "MOST_VALUES" "[I") (.int 1)) (.int 95)) (by decide +kernel))
      · exact va_eqt (hs (.eq (.elem (.static "StripeSwipes" "MOST_VALUES" "[I") (.int 2)) (.int 100)) (by decide +kernel))
      · exact va_eqt (hs (.eq (.elem (.static "StripeSwipes" "MOST_VALUES" "[I") (.int 3)) (.int 40)) (by decide +kernel))
    obtain ⟨t, h1, h2⟩ := va_Tof (tm := (.static "StripeSwipes" "MOST_VALUES" "[I")) (ty := .int) (N := 4) (f := fun j => .int (mostF j)) (by decide) (hs (.arrayOf (.static "StripeSwipes" "MOST_VALUES" "[I") .int) (by decide +kernel)) (va_eqt (hs (.eq (.length (.static "StripeSwipes" "MOST_VALUES" "[I")) (.int 4)) (by decide +kernel))) hel hA
    exact ⟨t, va_Zof (hts (.laysStatic "StripeSwipes" "MOST_VALUES" "[I") (by decide +kernel)) (hts (.initialized "StripeSwipes") (by decide +kernel)) h1 hA, h2⟩
set_option maxRecDepth 100000 in
theorem st_K {b : Nat} {s : State} (hts : ∀ w ∈ lw_tbl, w.before #[Value.ref b] s = true) (hNW : NW s) : ∃ (D : va_G) (ca : Nat → ClassId), KK D ca s := by
  obtain ⟨c0, i0, k0⟩ := u_known (C := RX0) (T := TX0) (N := 2) (n := 2) hts inX0 (hts (.instantiable RX0 2) (by decide +kernel))
  obtain ⟨c1, i1, k1⟩ := u_known (C := RX1) (T := TX1) (N := 5) (n := 5) hts inX1 (hts (.instantiable RX1 5) (by decide +kernel))
  obtain ⟨c2, i2, k2⟩ := u_known (C := RX2) (T := TX2) (N := 2) (n := 2) hts inX2 (hts (.instantiable RX2 2) (by decide +kernel))
  obtain ⟨c3, i3, k3⟩ := u_known (C := RX3) (T := TX3) (N := 3) (n := 3) hts inX3 (hts (.instantiable RX3 3) (by decide +kernel))
  obtain ⟨c4, i4, k4⟩ := u_known (C := RX4) (T := TX4) (N := 1) (n := 1) hts inX4 (hts (.instantiable RX4 1) (by decide +kernel))
  obtain ⟨c5, i5, k5⟩ := u_known (C := RX5) (T := TX5) (N := 9) (n := 9) hts inX5 (hts (.instantiable RX5 9) (by decide +kernel))
  obtain ⟨aI, aI1, aI2⟩ := st_arr (hts (.arrayClass .int) (by decide +kernel))
  obtain ⟨aZ, aZ1, aZ2⟩ := st_arr (hts (.arrayClass .byte) (by decide +kernel))
  obtain ⟨aQ, aQ1, aQ2⟩ := st_arq (C := RX3) (va_AO.use hNW.ao : (Cond.arrayOver (.object RX3)).before #[] s = true)
  refine ⟨(fun k => if k = 0 then c0 else if k = 1 then c1 else if k = 2 then c2 else if k = 3 then c3 else if k = 4 then c4 else c5, fun k => if k = 0 then i0 else if k = 1 then i1 else if k = 2 then i2 else if k = 3 then i3 else if k = 4 then i4 else i5), fun k => if k = 0 then aI else if k = 1 then aZ else aQ, ⟨fun k q hq => ?_, fun k q hq => ?_⟩, hNW⟩
  · match k, hq with
    | 0, hq => cases hq; exact k0
    | 1, hq => cases hq; exact k1
    | 2, hq => cases hq; exact k2
    | 3, hq => cases hq; exact k3
    | 4, hq => cases hq; exact k4
    | 5, hq => cases hq; exact k5
    | k + 6, hq => cases hq
  · match k, hq with
    | 0, hq => cases hq; exact ⟨aI1, aI2⟩
    | 1, hq => cases hq; exact ⟨aZ1, aZ2⟩
    | 2, hq => cases hq; exact ⟨aQ1, aQ2⟩
    | k + 3, hq => cases hq
