theorem my_P_kept {D : va_G} {cl : List vw_C} {ws : va_W} {H H1 : Heap} (hP : va_P D cl ws H) (h : ∀ q : Nat, q < H.size → H1[q]? = H[q]?) : va_P D cl ws H1 := my_P_iff.mpr fun x hx => (my_P_iff.mp hP x hx).kept (h _ (my_P_iff.mp hP x hx).lt)
theorem my_F_kept {A : Nat → Prop} {s t : State} {H : Heap} {locs : List Loc} (hS : va_S A s.heap H locs) (h1 : H.size ≤ t.heap.size) (h : ∀ q : Nat, q < H.size → t.heap[q]? = H[q]?) : va_F A s t :=
  ⟨Nat.le_trans hS.1 h1, fun q hq hA => (h q (Nat.lt_of_lt_of_le hq hS.1)).trans (hS.2.1 q hq hA)⟩
abbrev tN2 : List String := ["java/lang/RuntimeException", "java/lang/Exception"]
theorem tgX66 : ∀ w ∈ Cond.classLink RX5 66 "java/lang/IllegalArgumentException" :: Cond.initialized "java/lang/IllegalArgumentException" :: vx_atS RX5 70 "java/lang/IllegalArgumentException" ["java/lang/RuntimeException", "java/lang/Exception"], vx_ot w = true := List.all_eq_true.mp (by decide +kernel)
theorem tgX97 : ∀ w ∈ Cond.classLink RX5 97 "java/lang/IllegalStateException" :: Cond.initialized "java/lang/IllegalStateException" :: vx_atS RX5 101 "java/lang/IllegalStateException" ["java/lang/RuntimeException", "java/lang/Exception"], vx_ot w = true := List.all_eq_true.mp (by decide +kernel)
theorem tgX124 : ∀ w ∈ Cond.classLink RX5 124 "java/lang/IndexOutOfBoundsException" :: Cond.initialized "java/lang/IndexOutOfBoundsException" :: vx_atS RX5 128 "java/lang/IndexOutOfBoundsException" ["java/lang/RuntimeException", "java/lang/Exception"], vx_ot w = true := List.all_eq_true.mp (by decide +kernel)
theorem tbX66 : ∀ w ∈ (vx_atS RX5 70 "java/lang/IllegalArgumentException" ["java/lang/RuntimeException", "java/lang/Exception"]).filter (fun w => !goodWord w), w ∈ [Cond.castable "java/lang/IllegalArgumentException" "java/lang/IllegalArgumentException", Cond.declares (Bundle.initS "java/lang/RuntimeException"), Cond.declares (Bundle.initS "java/lang/Exception"), Cond.declares (Bundle.initS "java/lang/Throwable")] := by decide +kernel
theorem tbX97 : ∀ w ∈ (vx_atS RX5 101 "java/lang/IllegalStateException" ["java/lang/RuntimeException", "java/lang/Exception"]).filter (fun w => !goodWord w), w ∈ [Cond.castable "java/lang/IllegalStateException" "java/lang/IllegalStateException", Cond.declares (Bundle.initS "java/lang/RuntimeException"), Cond.declares (Bundle.initS "java/lang/Exception"), Cond.declares (Bundle.initS "java/lang/Throwable")] := by decide +kernel
theorem tbX124 : ∀ w ∈ (vx_atS RX5 128 "java/lang/IndexOutOfBoundsException" ["java/lang/RuntimeException", "java/lang/Exception"]).filter (fun w => !goodWord w), w ∈ [Cond.castable "java/lang/IndexOutOfBoundsException" "java/lang/IndexOutOfBoundsException", Cond.declares (Bundle.initS "java/lang/RuntimeException"), Cond.declares (Bundle.initS "java/lang/Exception"), Cond.declares (Bundle.initS "java/lang/Throwable")] := by decide +kernel
theorem dc_of {args : Array Value} {s : State} {y : MethodName} {bytes : ByteArray} {maxL : Nat} {ret : Option FieldType} (h1 : (Cond.instanceMethod y).before args s = true) (h2 : (Cond.code y bytes maxL ret).before args s = true) : (Cond.declares y).before args s = true := by
  obtain ⟨m, meth, a1, a2, a3, -⟩ := Cond.instanceMethod_spec h1
  obtain ⟨meth', c, b1, b2, b3, b4, b5, b6, b7, b8⟩ := Cond.code_spec a1 h2
  cases Option.some.inj (a2.symm.trans b1)
  simp [Cond.before, Cond.holds, Cond.value, a1, a2, a3, b8]
theorem taX66 {args : Array Value} {s : State} (h1 : ∀ w ∈ (vx_atS RX5 70 "java/lang/IllegalArgumentException" ["java/lang/RuntimeException", "java/lang/Exception"]).filter goodWord, w.before args s = true) (hc : (Cond.castable "java/lang/IllegalArgumentException" "java/lang/IllegalArgumentException").before args s = true) : ∀ w ∈ vx_atS RX5 70 "java/lang/IllegalArgumentException" ["java/lang/RuntimeException", "java/lang/Exception"], w.before args s = true :=
  vx_hat h1 tbX66 (vx_c hc (vx_c (dc_of (y := Bundle.initS "java/lang/RuntimeException") (bytes := Bundle.six) (maxL := 2) (ret := none) (h1 _ (by decide +kernel)) (h1 _ (by decide +kernel))) (vx_c (dc_of (y := Bundle.initS "java/lang/Exception") (bytes := Bundle.six) (maxL := 2) (ret := none) (h1 _ (by decide +kernel)) (h1 _ (by decide +kernel))) (vx_c (dc_of (y := Bundle.initS "java/lang/Throwable") (bytes := LibCode.Throwable.InitS.code) (maxL := 2) (ret := none) (h1 _ (by decide +kernel)) (h1 _ (by decide +kernel))) vx_n))))
theorem taX97 {args : Array Value} {s : State} (h1 : ∀ w ∈ (vx_atS RX5 101 "java/lang/IllegalStateException" ["java/lang/RuntimeException", "java/lang/Exception"]).filter goodWord, w.before args s = true) (hc : (Cond.castable "java/lang/IllegalStateException" "java/lang/IllegalStateException").before args s = true) : ∀ w ∈ vx_atS RX5 101 "java/lang/IllegalStateException" ["java/lang/RuntimeException", "java/lang/Exception"], w.before args s = true :=
  vx_hat h1 tbX97 (vx_c hc (vx_c (dc_of (y := Bundle.initS "java/lang/RuntimeException") (bytes := Bundle.six) (maxL := 2) (ret := none) (h1 _ (by decide +kernel)) (h1 _ (by decide +kernel))) (vx_c (dc_of (y := Bundle.initS "java/lang/Exception") (bytes := Bundle.six) (maxL := 2) (ret := none) (h1 _ (by decide +kernel)) (h1 _ (by decide +kernel))) (vx_c (dc_of (y := Bundle.initS "java/lang/Throwable") (bytes := LibCode.Throwable.InitS.code) (maxL := 2) (ret := none) (h1 _ (by decide +kernel)) (h1 _ (by decide +kernel))) vx_n))))
theorem taX124 {args : Array Value} {s : State} (h1 : ∀ w ∈ (vx_atS RX5 128 "java/lang/IndexOutOfBoundsException" ["java/lang/RuntimeException", "java/lang/Exception"]).filter goodWord, w.before args s = true) (hc : (Cond.castable "java/lang/IndexOutOfBoundsException" "java/lang/IndexOutOfBoundsException").before args s = true) : ∀ w ∈ vx_atS RX5 128 "java/lang/IndexOutOfBoundsException" ["java/lang/RuntimeException", "java/lang/Exception"], w.before args s = true :=
  vx_hat h1 tbX124 (vx_c hc (vx_c (dc_of (y := Bundle.initS "java/lang/RuntimeException") (bytes := Bundle.six) (maxL := 2) (ret := none) (h1 _ (by decide +kernel)) (h1 _ (by decide +kernel))) (vx_c (dc_of (y := Bundle.initS "java/lang/Exception") (bytes := Bundle.six) (maxL := 2) (ret := none) (h1 _ (by decide +kernel)) (h1 _ (by decide +kernel))) (vx_c (dc_of (y := Bundle.initS "java/lang/Throwable") (bytes := LibCode.Throwable.InitS.code) (maxL := 2) (ret := none) (h1 _ (by decide +kernel)) (h1 _ (by decide +kernel))) vx_n))))
theorem hF_lt {n : Nat} {x : Int32} (h : hasF n x = false) (h0 : 0 ≤ x) (h1 : x < nI n) : False := by
  rw [hasF_in (Int32.not_lt.mpr h0) (Int32.not_le.mpr h1)] at h; cases h
theorem nI_toI {k : Nat} (h : k < 2147483648) : (nI k).toInt = k := nI_toInt h
theorem hF_le {n k : Nat} {x : Int32} (h : hasF n x = false) (h0 : 0 ≤ x) (h1 : x ≤ nI k) (e : n = k + 1) (hk : k < 1000) : False := by
  refine hF_lt h h0 (Int32.lt_iff_toInt_lt.mpr ?_)
  have h2 := Int32.le_iff_toInt_le.mp h1
  rw [nI_toInt (by omega)] at h2 ⊢
  omega
theorem hF_jn {nt : Nat} {x : Int32} (h : hasF (nt - 1) x = false) (ht : nt ≤ 200) (h0 : 0 ≤ x) (h1 : x < nI nt - nI 1) : False := by
  rcases Nat.eq_zero_or_pos nt with q | q
  · subst q
    have h2 := Int32.lt_iff_toInt_lt.mp h1
    have h3 := Int32.le_iff_toInt_le.mp h0
    rw [show (nI 0 - nI 1).toInt = -1 from by decide] at h2
    rw [show (0 : Int32).toInt = 0 from by decide] at h3
    omega
  · obtain ⟨k, rfl⟩ : ∃ k, nt = k + 1 := ⟨nt - 1, by omega⟩
    rw [show nI (k + 1) - nI 1 = nI k from by rw [← nI_add, Int32.add_sub_cancel]] at h1
    exact hF_lt h h0 h1
theorem hF_out {n : Nat} {x : Int32} (h : hasF n x = false) (hn : n < 1000) : x.toInt < 0 ∨ (n : Int) ≤ x.toInt := by
  by_cases h0 : x < 0
  · left; have h2 := Int32.lt_iff_toInt_lt.mp h0; rw [show (0 : Int32).toInt = 0 from by decide] at h2; exact h2
  · right
    by_cases h1 : nI n ≤ x
    · have h2 := Int32.le_iff_toInt_le.mp h1; rw [nI_toInt (by omega)] at h2; exact h2
    · rw [hasF_in h0 h1] at h; cases h
theorem okSet_lm {q : Nat} (v : Int32) (h : q < 4) : okSet q v = inF v (leastF q) (mostF q) := by
  rcases (show q = 0 ∨ q = 1 ∨ q = 2 ∨ q = 3 by omega) with e | e | e | e <;> subst e <;> rfl
theorem inF_no {v lo hi : Int32} (h : inF v lo hi = false) (h1 : ¬ v < lo) (h2 : ¬ hi < v) : False := by rw [inF_in h1 h2] at h; cases h
abbrev rm_kX5_time_bad : Room := { frames := 6, cells := 1, slots := 6, locals := 90 }
set_option maxHeartbeats 4000000 in
set_option maxRecDepth 100000 in
theorem kX5_time_bad (l : Launch) (hnst : l.stackTraces = false) (D : va_G) (ca : Nat → ClassId) (sz : Nat) (oc : Nat) (x : Int32) (hbad : x < 0) : vx_Met l yX5_time wsX5_time rm_kX5_time_bad (pcZ D ca [.ref oc, .int x] [] sz) (va_Qi (fun (zr : Int32) (u : Unit) => False) (fun _ _ => True) (va_A [] sz)) (vx_X (fun _ : Unit => True) (fun E _ t => E = "java/lang/IllegalArgumentException" ∧ va_P D vwCl [] t.heap ∧ va_D (va_A [] sz) []) (va_A [] sz)) 1 6 (va_A [] sz) := by
  refine vx_ofW (cc := cX5_time) (maxL := 2) (ret := (some .int)) (by decide) rfl ?_
  intro p e s m args below meth c s₁ B hml hnt9 hv
  obtain ⟨rfl, hsz, hP, hK, hD0, hZ⟩ := hv
  have hx := B.exec
  have hb := B.bytes
  have hr := B.returns
  have hts := atoms_spec (ws := wsX5_time) B.pre
  have hown : s.vm.findClass RX5 = some m.cls := findClass_of_methodNamed B.named
  have hlocks := B.notSynchronized
  subst hsz
  have hD := hD0.self (sz := s.heap.size)
  generalize hAe : va_A [] s.heap.size = A at hD hZ ⊢
  have hA : ∀ q : Nat, s.heap.size ≤ q → A q := fun q h => by rw [← hAe]; exact Or.inr h
  have hS : va_S A s.heap s.heap [] := va_S.rf
  have hP : va_P D vwCl [] s.heap := hP
  have hKv := hK.1
  have hl := lv_entry ([.ref oc, .int x]) (n := 2) (kk_le rfl)
  rw [lg_entry_eq]
  generalize (lg_sl ([.ref oc, .int x]) ++ List.replicate (2 - (lg_sl ([.ref oc, .int x])).length) Slot.unset).toArray = ls at hl ⊢
  have hl : lv_has ls 2 [(0, .ref oc), (1, .int x)] := hl
  refine lv_iload_n hx hb dX5_time_0 rfl (lv_at hl 1 rfl) ?_
  refine lv_if_ge (tgt := 14) hx hb dX5_time_1 (by decide) (fun c1 => ?_) (fun c1 => ?_)
  · exact (Int32.not_le.mpr hbad c1).elim
  · obtain ⟨sa9, hst9⟩ := hK.2.s185
    exact vx_throwS (names := ["java/lang/RuntimeException", "java/lang/Exception"]) (A := A) hx hb hnst hown (by decide +kernel) (by decide +kernel) (hts (.classLink RX5 66 "java/lang/IllegalArgumentException") (by decide +kernel)) (hts (.initialized "java/lang/IllegalArgumentException") (by decide +kernel)) hst9 (taX66 (fun w h => hts w (by first | exact List.mem_cons_of_mem _ (List.mem_append_right _ h) | exact List.mem_cons_of_mem _ (List.mem_append_left _ (List.mem_append_right _ h)) | exact List.mem_cons_of_mem _ (List.mem_append_left _ (List.mem_append_left _ (List.mem_append_right _ h))) | exact List.mem_cons_of_mem _ (List.mem_append_left _ (List.mem_append_left _ (List.mem_append_left _ (List.mem_append_right _ h)))))) (va_Nw.use rfl hK.2.cIllegalArgumentException)) tgX66 hZ.2.2.2.1 hZ.2.2.2.2 hS (hl.1.trans hml.symm) dX5_time_4 dX5_time_7 dX5_time_8 dX5_time_10 dX5_time_13 (fun x h => (hnt9 x h).elim) (by decide) (by decide) (by decide) (by decide) hlocks (fun t _ h1 h2 => ⟨(), trivial, ⟨rfl, my_P_kept hP h2, hD⟩, my_F_kept hS h1 h2⟩) hS.2.2 (by decide) (by decide)
abbrev rm_kX5_written_bad : Room := { frames := 6, cells := 1, slots := 6, locals := 90 }
set_option maxHeartbeats 4000000 in
set_option maxRecDepth 100000 in
theorem kX5_written_bad (l : Launch) (hnst : l.stackTraces = false) (D : va_G) (ca : Nat → ClassId) (sz : Nat) (oc : Nat) (x : Int32) (hbad : x < 0) : vx_Met l yX5_written wsX5_written rm_kX5_written_bad (pcZ D ca [.ref oc, .int x] [] sz) (va_Qi (fun (zr : Int32) (u : Unit) => False) (fun _ _ => True) (va_A [] sz)) (vx_X (fun _ : Unit => True) (fun E _ t => E = "java/lang/IllegalArgumentException" ∧ va_P D vwCl [] t.heap ∧ va_D (va_A [] sz) []) (va_A [] sz)) 1 6 (va_A [] sz) := by
  refine vx_ofW (cc := cX5_written) (maxL := 2) (ret := (some .int)) (by decide) rfl ?_
  intro p e s m args below meth c s₁ B hml hnt9 hv
  obtain ⟨rfl, hsz, hP, hK, hD0, hZ⟩ := hv
  have hx := B.exec
  have hb := B.bytes
  have hr := B.returns
  have hts := atoms_spec (ws := wsX5_written) B.pre
  have hown : s.vm.findClass RX5 = some m.cls := findClass_of_methodNamed B.named
  have hlocks := B.notSynchronized
  subst hsz
  have hD := hD0.self (sz := s.heap.size)
  generalize hAe : va_A [] s.heap.size = A at hD hZ ⊢
  have hA : ∀ q : Nat, s.heap.size ≤ q → A q := fun q h => by rw [← hAe]; exact Or.inr h
  have hS : va_S A s.heap s.heap [] := va_S.rf
  have hP : va_P D vwCl [] s.heap := hP
  have hKv := hK.1
  have hl := lv_entry ([.ref oc, .int x]) (n := 2) (kk_le rfl)
  rw [lg_entry_eq]
  generalize (lg_sl ([.ref oc, .int x]) ++ List.replicate (2 - (lg_sl ([.ref oc, .int x])).length) Slot.unset).toArray = ls at hl ⊢
  have hl : lv_has ls 2 [(0, .ref oc), (1, .int x)] := hl
  refine lv_iload_n hx hb dX5_written_0 rfl (lv_at hl 1 rfl) ?_
  refine lv_if_ge (tgt := 14) hx hb dX5_written_1 (by decide) (fun c1 => ?_) (fun c1 => ?_)
  · exact (Int32.not_le.mpr hbad c1).elim
  · obtain ⟨sa9, hst9⟩ := hK.2.s185
    exact vx_throwS (names := ["java/lang/RuntimeException", "java/lang/Exception"]) (A := A) hx hb hnst hown (by decide +kernel) (by decide +kernel) (hts (.classLink RX5 66 "java/lang/IllegalArgumentException") (by decide +kernel)) (hts (.initialized "java/lang/IllegalArgumentException") (by decide +kernel)) hst9 (taX66 (fun w h => hts w (by first | exact List.mem_cons_of_mem _ (List.mem_append_right _ h) | exact List.mem_cons_of_mem _ (List.mem_append_left _ (List.mem_append_right _ h)) | exact List.mem_cons_of_mem _ (List.mem_append_left _ (List.mem_append_left _ (List.mem_append_right _ h))) | exact List.mem_cons_of_mem _ (List.mem_append_left _ (List.mem_append_left _ (List.mem_append_left _ (List.mem_append_right _ h)))))) (va_Nw.use rfl hK.2.cIllegalArgumentException)) tgX66 hZ.2.2.2.1 hZ.2.2.2.2 hS (hl.1.trans hml.symm) dX5_written_4 dX5_written_7 dX5_written_8 dX5_written_10 dX5_written_13 (fun x h => (hnt9 x h).elim) (by decide) (by decide) (by decide) (by decide) hlocks (fun t _ h1 h2 => ⟨(), trivial, ⟨rfl, my_P_kept hP h2, hD⟩, my_F_kept hS h1 h2⟩) hS.2.2 (by decide) (by decide)
abbrev rm_kX5_bit_bad : Room := { frames := 6, cells := 1, slots := 6, locals := 90 }
set_option maxHeartbeats 4000000 in
set_option maxRecDepth 100000 in
theorem kX5_bit_bad (l : Launch) (hnst : l.stackTraces = false) (D : va_G) (ca : Nat → ClassId) (sz : Nat) (oc : Nat) (bw : Bool) (x : Int32) (hbad : x < 0) : vx_Met l yX5_bit wsX5_bit rm_kX5_bit_bad (pcZ D ca [.ref oc, .int (bI bw), .int x] [] sz) (va_Qi (fun (zr : Int32) (u : Unit) => False) (fun _ _ => True) (va_A [] sz)) (vx_X (fun _ : Unit => True) (fun E _ t => E = "java/lang/IllegalArgumentException" ∧ va_P D vwCl [] t.heap ∧ va_D (va_A [] sz) []) (va_A [] sz)) 1 6 (va_A [] sz) := by
  refine vx_ofW (cc := cX5_bit) (maxL := 3) (ret := (some .int)) (by decide) rfl ?_
  intro p e s m args below meth c s₁ B hml hnt9 hv
  obtain ⟨rfl, hsz, hP, hK, hD0, hZ⟩ := hv
  have hx := B.exec
  have hb := B.bytes
  have hr := B.returns
  have hts := atoms_spec (ws := wsX5_bit) B.pre
  have hown : s.vm.findClass RX5 = some m.cls := findClass_of_methodNamed B.named
  have hlocks := B.notSynchronized
  subst hsz
  have hD := hD0.self (sz := s.heap.size)
  generalize hAe : va_A [] s.heap.size = A at hD hZ ⊢
  have hA : ∀ q : Nat, s.heap.size ≤ q → A q := fun q h => by rw [← hAe]; exact Or.inr h
  have hS : va_S A s.heap s.heap [] := va_S.rf
  have hP : va_P D vwCl [] s.heap := hP
  have hKv := hK.1
  have hl := lv_entry ([.ref oc, .int (bI bw), .int x]) (n := 3) (kk_le rfl)
  rw [lg_entry_eq]
  generalize (lg_sl ([.ref oc, .int (bI bw), .int x]) ++ List.replicate (3 - (lg_sl ([.ref oc, .int (bI bw), .int x])).length) Slot.unset).toArray = ls at hl ⊢
  have hl : lv_has ls 3 [(0, .ref oc), (1, .int (bI bw)), (2, .int x)] := hl
  refine lv_iload_n hx hb dX5_bit_0 rfl (lv_at hl 2 rfl) ?_
  refine lv_if_ge (tgt := 14) hx hb dX5_bit_1 (by decide) (fun c1 => ?_) (fun c1 => ?_)
  · exact (Int32.not_le.mpr hbad c1).elim
  · obtain ⟨sa9, hst9⟩ := hK.2.s185
    exact vx_throwS (names := ["java/lang/RuntimeException", "java/lang/Exception"]) (A := A) hx hb hnst hown (by decide +kernel) (by decide +kernel) (hts (.classLink RX5 66 "java/lang/IllegalArgumentException") (by decide +kernel)) (hts (.initialized "java/lang/IllegalArgumentException") (by decide +kernel)) hst9 (taX66 (fun w h => hts w (by first | exact List.mem_cons_of_mem _ (List.mem_append_right _ h) | exact List.mem_cons_of_mem _ (List.mem_append_left _ (List.mem_append_right _ h)) | exact List.mem_cons_of_mem _ (List.mem_append_left _ (List.mem_append_left _ (List.mem_append_right _ h))) | exact List.mem_cons_of_mem _ (List.mem_append_left _ (List.mem_append_left _ (List.mem_append_left _ (List.mem_append_right _ h)))))) (va_Nw.use rfl hK.2.cIllegalArgumentException)) tgX66 hZ.2.2.2.1 hZ.2.2.2.2 hS (hl.1.trans hml.symm) dX5_bit_4 dX5_bit_7 dX5_bit_8 dX5_bit_10 dX5_bit_13 (fun x h => (hnt9 x h).elim) (by decide) (by decide) (by decide) (by decide) hlocks (fun t _ h1 h2 => ⟨(), trivial, ⟨rfl, my_P_kept hP h2, hD⟩, my_F_kept hS h1 h2⟩) hS.2.2 (by decide) (by decide)
abbrev rm_kX5_letter_bad : Room := { frames := 6, cells := 1, slots := 6, locals := 90 }
set_option maxHeartbeats 4000000 in
set_option maxRecDepth 100000 in
theorem kX5_letter_bad (l : Launch) (hnst : l.stackTraces = false) (D : va_G) (ca : Nat → ClassId) (sz : Nat) (oc : Nat) (bw : Bool) (x : Int32) (hbad : x < 0) : vx_Met l yX5_letter wsX5_letter rm_kX5_letter_bad (pcZ D ca [.ref oc, .int (bI bw), .int x] [] sz) (va_Qi (fun (zr : Int32) (u : Unit) => False) (fun _ _ => True) (va_A [] sz)) (vx_X (fun _ : Unit => True) (fun E _ t => E = "java/lang/IllegalArgumentException" ∧ va_P D vwCl [] t.heap ∧ va_D (va_A [] sz) []) (va_A [] sz)) 1 6 (va_A [] sz) := by
  refine vx_ofW (cc := cX5_letter) (maxL := 3) (ret := (some .int)) (by decide) rfl ?_
  intro p e s m args below meth c s₁ B hml hnt9 hv
  obtain ⟨rfl, hsz, hP, hK, hD0, hZ⟩ := hv
  have hx := B.exec
  have hb := B.bytes
  have hr := B.returns
  have hts := atoms_spec (ws := wsX5_letter) B.pre
  have hown : s.vm.findClass RX5 = some m.cls := findClass_of_methodNamed B.named
  have hlocks := B.notSynchronized
  subst hsz
  have hD := hD0.self (sz := s.heap.size)
  generalize hAe : va_A [] s.heap.size = A at hD hZ ⊢
  have hA : ∀ q : Nat, s.heap.size ≤ q → A q := fun q h => by rw [← hAe]; exact Or.inr h
  have hS : va_S A s.heap s.heap [] := va_S.rf
  have hP : va_P D vwCl [] s.heap := hP
  have hKv := hK.1
  have hl := lv_entry ([.ref oc, .int (bI bw), .int x]) (n := 3) (kk_le rfl)
  rw [lg_entry_eq]
  generalize (lg_sl ([.ref oc, .int (bI bw), .int x]) ++ List.replicate (3 - (lg_sl ([.ref oc, .int (bI bw), .int x])).length) Slot.unset).toArray = ls at hl ⊢
  have hl : lv_has ls 3 [(0, .ref oc), (1, .int (bI bw)), (2, .int x)] := hl
  refine lv_iload_n hx hb dX5_letter_0 rfl (lv_at hl 2 rfl) ?_
  refine lv_if_ge (tgt := 14) hx hb dX5_letter_1 (by decide) (fun c1 => ?_) (fun c1 => ?_)
  · exact (Int32.not_le.mpr hbad c1).elim
  · obtain ⟨sa9, hst9⟩ := hK.2.s185
    exact vx_throwS (names := ["java/lang/RuntimeException", "java/lang/Exception"]) (A := A) hx hb hnst hown (by decide +kernel) (by decide +kernel) (hts (.classLink RX5 66 "java/lang/IllegalArgumentException") (by decide +kernel)) (hts (.initialized "java/lang/IllegalArgumentException") (by decide +kernel)) hst9 (taX66 (fun w h => hts w (by first | exact List.mem_cons_of_mem _ (List.mem_append_right _ h) | exact List.mem_cons_of_mem _ (List.mem_append_left _ (List.mem_append_right _ h)) | exact List.mem_cons_of_mem _ (List.mem_append_left _ (List.mem_append_left _ (List.mem_append_right _ h))) | exact List.mem_cons_of_mem _ (List.mem_append_left _ (List.mem_append_left _ (List.mem_append_left _ (List.mem_append_right _ h)))))) (va_Nw.use rfl hK.2.cIllegalArgumentException)) tgX66 hZ.2.2.2.1 hZ.2.2.2.2 hS (hl.1.trans hml.symm) dX5_letter_4 dX5_letter_7 dX5_letter_8 dX5_letter_10 dX5_letter_13 (fun x h => (hnt9 x h).elim) (by decide) (by decide) (by decide) (by decide) hlocks (fun t _ h1 h2 => ⟨(), trivial, ⟨rfl, my_P_kept hP h2, hD⟩, my_F_kept hS h1 h2⟩) hS.2.2 (by decide) (by decide)
abbrev rm_kX5_reads_bad : Room := { frames := 6, cells := 1, slots := 6, locals := 90 }
set_option maxHeartbeats 4000000 in
set_option maxRecDepth 100000 in
theorem kX5_reads_bad (l : Launch) (hnst : l.stackTraces = false) (D : va_G) (ca : Nat → ClassId) (sz : Nat) (oc : Nat) (bw : Bool) (x : Int32) (hbad : hasF 5 x = false) : vx_Met l yX5_reads wsX5_reads rm_kX5_reads_bad (pcZ D ca [.ref oc, .int (bI bw), .int x] [] sz) (va_Qi (fun (zr : Int32) (u : Unit) => False) (fun _ _ => True) (va_A [] sz)) (vx_X (fun _ : Unit => True) (fun E _ t => E = "java/lang/IllegalArgumentException" ∧ va_P D vwCl [] t.heap ∧ va_D (va_A [] sz) []) (va_A [] sz)) 1 6 (va_A [] sz) := by
  refine vx_ofW (cc := cX5_reads) (maxL := 3) (ret := (some .int)) (by decide) rfl ?_
  intro p e s m args below meth c s₁ B hml hnt9 hv
  obtain ⟨rfl, hsz, hP, hK, hD0, hZ⟩ := hv
  have hx := B.exec
  have hb := B.bytes
  have hr := B.returns
  have hts := atoms_spec (ws := wsX5_reads) B.pre
  have hown : s.vm.findClass RX5 = some m.cls := findClass_of_methodNamed B.named
  have hlocks := B.notSynchronized
  subst hsz
  have hD := hD0.self (sz := s.heap.size)
  generalize hAe : va_A [] s.heap.size = A at hD hZ ⊢
  have hA : ∀ q : Nat, s.heap.size ≤ q → A q := fun q h => by rw [← hAe]; exact Or.inr h
  have hS : va_S A s.heap s.heap [] := va_S.rf
  have hP : va_P D vwCl [] s.heap := hP
  have hKv := hK.1
  have hl := lv_entry ([.ref oc, .int (bI bw), .int x]) (n := 3) (kk_le rfl)
  rw [lg_entry_eq]
  generalize (lg_sl ([.ref oc, .int (bI bw), .int x]) ++ List.replicate (3 - (lg_sl ([.ref oc, .int (bI bw), .int x])).length) Slot.unset).toArray = ls at hl ⊢
  have hl : lv_has ls 3 [(0, .ref oc), (1, .int (bI bw)), (2, .int x)] := hl
  refine lv_iload_n hx hb dX5_reads_0 rfl (lv_at hl 2 rfl) ?_
  refine lv_if_lt (tgt := 9) hx hb dX5_reads_1 (by decide) (fun c1 => ?_) (fun c1 => ?_)
  · obtain ⟨sa9, hst9⟩ := hK.2.s187
    exact vx_throwS (names := ["java/lang/RuntimeException", "java/lang/Exception"]) (A := A) hx hb hnst hown (by decide +kernel) (by decide +kernel) (hts (.classLink RX5 66 "java/lang/IllegalArgumentException") (by decide +kernel)) (hts (.initialized "java/lang/IllegalArgumentException") (by decide +kernel)) hst9 (taX66 (fun w h => hts w (by first | exact List.mem_cons_of_mem _ (List.mem_append_right _ h) | exact List.mem_cons_of_mem _ (List.mem_append_left _ (List.mem_append_right _ h)) | exact List.mem_cons_of_mem _ (List.mem_append_left _ (List.mem_append_left _ (List.mem_append_right _ h))) | exact List.mem_cons_of_mem _ (List.mem_append_left _ (List.mem_append_left _ (List.mem_append_left _ (List.mem_append_right _ h)))))) (va_Nw.use rfl hK.2.cIllegalArgumentException)) tgX66 hZ.2.2.2.1 hZ.2.2.2.2 hS (hl.1.trans hml.symm) dX5_reads_9 dX5_reads_12 dX5_reads_13 dX5_reads_15 dX5_reads_18 (fun x h => (hnt9 x h).elim) (by decide) (by decide) (by decide) (by decide) hlocks (fun t _ h1 h2 => ⟨(), trivial, ⟨rfl, my_P_kept hP h2, hD⟩, my_F_kept hS h1 h2⟩) hS.2.2 (by decide) (by decide)
  · have hx0 : (0 : Int32) ≤ x := by first | exact c1 | exact Int32.not_lt.mp c1
    refine lv_iload_n hx hb dX5_reads_4 rfl (lv_at hl 2 rfl) ?_
    refine lv_iconst (v := nI 4) hx hb dX5_reads_5 (by decide) ?_
    refine lv_icmp_le (tgt := 19) hx hb dX5_reads_6 (by decide) (fun c2 => ?_) (fun c2 => ?_)
    · exact (hF_le hbad hx0 (by first | exact c2 | exact Int32.not_lt.mp c2) rfl (by decide)).elim
    · obtain ⟨sa9, hst9⟩ := hK.2.s187
      exact vx_throwS (names := ["java/lang/RuntimeException", "java/lang/Exception"]) (A := A) hx hb hnst hown (by decide +kernel) (by decide +kernel) (hts (.classLink RX5 66 "java/lang/IllegalArgumentException") (by decide +kernel)) (hts (.initialized "java/lang/IllegalArgumentException") (by decide +kernel)) hst9 (taX66 (fun w h => hts w (by first | exact List.mem_cons_of_mem _ (List.mem_append_right _ h) | exact List.mem_cons_of_mem _ (List.mem_append_left _ (List.mem_append_right _ h)) | exact List.mem_cons_of_mem _ (List.mem_append_left _ (List.mem_append_left _ (List.mem_append_right _ h))) | exact List.mem_cons_of_mem _ (List.mem_append_left _ (List.mem_append_left _ (List.mem_append_left _ (List.mem_append_right _ h)))))) (va_Nw.use rfl hK.2.cIllegalArgumentException)) tgX66 hZ.2.2.2.1 hZ.2.2.2.2 hS (hl.1.trans hml.symm) dX5_reads_9 dX5_reads_12 dX5_reads_13 dX5_reads_15 dX5_reads_18 (fun x h => (hnt9 x h).elim) (by decide) (by decide) (by decide) (by decide) hlocks (fun t _ h1 h2 => ⟨(), trivial, ⟨rfl, my_P_kept hP h2, hD⟩, my_F_kept hS h1 h2⟩) hS.2.2 (by decide) (by decide)
abbrev rm_kX5_ratios_bad : Room := { frames := 6, cells := 1, slots := 6, locals := 90 }
set_option maxHeartbeats 4000000 in
set_option maxRecDepth 100000 in
theorem kX5_ratios_bad (l : Launch) (hnst : l.stackTraces = false) (D : va_G) (ca : Nat → ClassId) (sz : Nat) (oc : Nat) (x : Int32) (hbad : hasF 3 x = false) : vx_Met l yX5_ratios wsX5_ratios rm_kX5_ratios_bad (pcZ D ca [.ref oc, .int x] [] sz) (va_Qi (fun (zr : Int32) (u : Unit) => False) (fun _ _ => True) (va_A [] sz)) (vx_X (fun _ : Unit => True) (fun E _ t => E = "java/lang/IllegalArgumentException" ∧ va_P D vwCl [] t.heap ∧ va_D (va_A [] sz) []) (va_A [] sz)) 1 6 (va_A [] sz) := by
  refine vx_ofW (cc := cX5_ratios) (maxL := 2) (ret := (some .int)) (by decide) rfl ?_
  intro p e s m args below meth c s₁ B hml hnt9 hv
  obtain ⟨rfl, hsz, hP, hK, hD0, hZ⟩ := hv
  have hx := B.exec
  have hb := B.bytes
  have hr := B.returns
  have hts := atoms_spec (ws := wsX5_ratios) B.pre
  have hown : s.vm.findClass RX5 = some m.cls := findClass_of_methodNamed B.named
  have hlocks := B.notSynchronized
  subst hsz
  have hD := hD0.self (sz := s.heap.size)
  generalize hAe : va_A [] s.heap.size = A at hD hZ ⊢
  have hA : ∀ q : Nat, s.heap.size ≤ q → A q := fun q h => by rw [← hAe]; exact Or.inr h
  have hS : va_S A s.heap s.heap [] := va_S.rf
  have hP : va_P D vwCl [] s.heap := hP
  have hKv := hK.1
  have hl := lv_entry ([.ref oc, .int x]) (n := 2) (kk_le rfl)
  rw [lg_entry_eq]
  generalize (lg_sl ([.ref oc, .int x]) ++ List.replicate (2 - (lg_sl ([.ref oc, .int x])).length) Slot.unset).toArray = ls at hl ⊢
  have hl : lv_has ls 2 [(0, .ref oc), (1, .int x)] := hl
  refine lv_iload_n hx hb dX5_ratios_0 rfl (lv_at hl 1 rfl) ?_
  refine lv_if_lt (tgt := 9) hx hb dX5_ratios_1 (by decide) (fun c1 => ?_) (fun c1 => ?_)
  · obtain ⟨sa9, hst9⟩ := hK.2.s187
    exact vx_throwS (names := ["java/lang/RuntimeException", "java/lang/Exception"]) (A := A) hx hb hnst hown (by decide +kernel) (by decide +kernel) (hts (.classLink RX5 66 "java/lang/IllegalArgumentException") (by decide +kernel)) (hts (.initialized "java/lang/IllegalArgumentException") (by decide +kernel)) hst9 (taX66 (fun w h => hts w (by first | exact List.mem_cons_of_mem _ (List.mem_append_right _ h) | exact List.mem_cons_of_mem _ (List.mem_append_left _ (List.mem_append_right _ h)) | exact List.mem_cons_of_mem _ (List.mem_append_left _ (List.mem_append_left _ (List.mem_append_right _ h))) | exact List.mem_cons_of_mem _ (List.mem_append_left _ (List.mem_append_left _ (List.mem_append_left _ (List.mem_append_right _ h)))))) (va_Nw.use rfl hK.2.cIllegalArgumentException)) tgX66 hZ.2.2.2.1 hZ.2.2.2.2 hS (hl.1.trans hml.symm) dX5_ratios_9 dX5_ratios_12 dX5_ratios_13 dX5_ratios_15 dX5_ratios_18 (fun x h => (hnt9 x h).elim) (by decide) (by decide) (by decide) (by decide) hlocks (fun t _ h1 h2 => ⟨(), trivial, ⟨rfl, my_P_kept hP h2, hD⟩, my_F_kept hS h1 h2⟩) hS.2.2 (by decide) (by decide)
  · have hx0 : (0 : Int32) ≤ x := by first | exact c1 | exact Int32.not_lt.mp c1
    refine lv_iload_n hx hb dX5_ratios_4 rfl (lv_at hl 1 rfl) ?_
    refine lv_iconst (v := nI 2) hx hb dX5_ratios_5 (by decide) ?_
    refine lv_icmp_le (tgt := 19) hx hb dX5_ratios_6 (by decide) (fun c2 => ?_) (fun c2 => ?_)
    · exact (hF_le hbad hx0 (by first | exact c2 | exact Int32.not_lt.mp c2) rfl (by decide)).elim
    · obtain ⟨sa9, hst9⟩ := hK.2.s187
      exact vx_throwS (names := ["java/lang/RuntimeException", "java/lang/Exception"]) (A := A) hx hb hnst hown (by decide +kernel) (by decide +kernel) (hts (.classLink RX5 66 "java/lang/IllegalArgumentException") (by decide +kernel)) (hts (.initialized "java/lang/IllegalArgumentException") (by decide +kernel)) hst9 (taX66 (fun w h => hts w (by first | exact List.mem_cons_of_mem _ (List.mem_append_right _ h) | exact List.mem_cons_of_mem _ (List.mem_append_left _ (List.mem_append_right _ h)) | exact List.mem_cons_of_mem _ (List.mem_append_left _ (List.mem_append_left _ (List.mem_append_right _ h))) | exact List.mem_cons_of_mem _ (List.mem_append_left _ (List.mem_append_left _ (List.mem_append_left _ (List.mem_append_right _ h)))))) (va_Nw.use rfl hK.2.cIllegalArgumentException)) tgX66 hZ.2.2.2.1 hZ.2.2.2.2 hS (hl.1.trans hml.symm) dX5_ratios_9 dX5_ratios_12 dX5_ratios_13 dX5_ratios_15 dX5_ratios_18 (fun x h => (hnt9 x h).elim) (by decide) (by decide) (by decide) (by decide) hlocks (fun t _ h1 h2 => ⟨(), trivial, ⟨rfl, my_P_kept hP h2, hD⟩, my_F_kept hS h1 h2⟩) hS.2.2 (by decide) (by decide)
abbrev rm_kX5_repair_bad : Room := { frames := 6, cells := 1, slots := 6, locals := 90 }
set_option maxHeartbeats 4000000 in
set_option maxRecDepth 100000 in
theorem kX5_repair_bad (l : Launch) (hnst : l.stackTraces = false) (D : va_G) (ca : Nat → ClassId) (sz : Nat) (oc : Nat) (x : Int32) (hbad : hasF 2 x = false) : vx_Met l yX5_repair wsX5_repair rm_kX5_repair_bad (pcZ D ca [.ref oc, .int x] [] sz) (va_Qi (fun (zr : Int32) (u : Unit) => False) (fun _ _ => True) (va_A [] sz)) (vx_X (fun _ : Unit => True) (fun E _ t => E = "java/lang/IllegalArgumentException" ∧ va_P D vwCl [] t.heap ∧ va_D (va_A [] sz) []) (va_A [] sz)) 1 6 (va_A [] sz) := by
  refine vx_ofW (cc := cX5_repair) (maxL := 3) (ret := (some .int)) (by decide) rfl ?_
  intro p e s m args below meth c s₁ B hml hnt9 hv
  obtain ⟨rfl, hsz, hP, hK, hD0, hZ⟩ := hv
  have hx := B.exec
  have hb := B.bytes
  have hr := B.returns
  have hts := atoms_spec (ws := wsX5_repair) B.pre
  have hown : s.vm.findClass RX5 = some m.cls := findClass_of_methodNamed B.named
  have hlocks := B.notSynchronized
  subst hsz
  have hD := hD0.self (sz := s.heap.size)
  generalize hAe : va_A [] s.heap.size = A at hD hZ ⊢
  have hA : ∀ q : Nat, s.heap.size ≤ q → A q := fun q h => by rw [← hAe]; exact Or.inr h
  have hS : va_S A s.heap s.heap [] := va_S.rf
  have hP : va_P D vwCl [] s.heap := hP
  have hKv := hK.1
  have hl := lv_entry ([.ref oc, .int x]) (n := 3) (kk_le rfl)
  rw [lg_entry_eq]
  generalize (lg_sl ([.ref oc, .int x]) ++ List.replicate (3 - (lg_sl ([.ref oc, .int x])).length) Slot.unset).toArray = ls at hl ⊢
  have hl : lv_has ls 3 [(0, .ref oc), (1, .int x)] := hl
  refine lv_iload_n hx hb dX5_repair_0 rfl (lv_at hl 1 rfl) ?_
  refine lv_if_eq (tgt := 19) hx hb dX5_repair_1 (by decide) (fun c1 => ?_) (fun c1 => ?_)
  · exact ((by subst c1; exact absurd hbad (by decide) : False)).elim
  · refine lv_iload_n hx hb dX5_repair_4 rfl (lv_at hl 1 rfl) ?_
    refine lv_iconst (v := nI 1) hx hb dX5_repair_5 (by decide) ?_
    refine lv_icmp_eq (tgt := 19) hx hb dX5_repair_6 (by decide) (fun c2 => ?_) (fun c2 => ?_)
    · exact ((by subst c2; exact absurd hbad (by decide) : False)).elim
    · obtain ⟨sa9, hst9⟩ := hK.2.s187
      exact vx_throwS (names := ["java/lang/RuntimeException", "java/lang/Exception"]) (A := A) hx hb hnst hown (by decide +kernel) (by decide +kernel) (hts (.classLink RX5 66 "java/lang/IllegalArgumentException") (by decide +kernel)) (hts (.initialized "java/lang/IllegalArgumentException") (by decide +kernel)) hst9 (taX66 (fun w h => hts w (by first | exact List.mem_cons_of_mem _ (List.mem_append_right _ h) | exact List.mem_cons_of_mem _ (List.mem_append_left _ (List.mem_append_right _ h)) | exact List.mem_cons_of_mem _ (List.mem_append_left _ (List.mem_append_left _ (List.mem_append_right _ h))) | exact List.mem_cons_of_mem _ (List.mem_append_left _ (List.mem_append_left _ (List.mem_append_left _ (List.mem_append_right _ h)))))) (va_Nw.use rfl hK.2.cIllegalArgumentException)) tgX66 hZ.2.2.2.1 hZ.2.2.2.2 hS (hl.1.trans hml.symm) dX5_repair_9 dX5_repair_12 dX5_repair_13 dX5_repair_15 dX5_repair_18 (fun x h => (hnt9 x h).elim) (by decide) (by decide) (by decide) (by decide) hlocks (fun t _ h1 h2 => ⟨(), trivial, ⟨rfl, my_P_kept hP h2, hD⟩, my_F_kept hS h1 h2⟩) hS.2.2 (by decide) (by decide)
abbrev rm_kX5_count_bad : Room := { frames := 6, cells := 1, slots := 6, locals := 90 }
set_option maxHeartbeats 4000000 in
set_option maxRecDepth 100000 in
theorem kX5_count_bad (l : Launch) (hnst : l.stackTraces = false) (D : va_G) (ca : Nat → ClassId) (sz : Nat) (oc : Nat) (x : Int32) (hbad : hasF 7 x = false) : vx_Met l yX5_count wsX5_count rm_kX5_count_bad (pcZ D ca [.ref oc, .int x] [] sz) (va_Qi (fun (zr : Int32) (u : Unit) => False) (fun _ _ => True) (va_A [] sz)) (vx_X (fun _ : Unit => True) (fun E _ t => E = "java/lang/IllegalArgumentException" ∧ va_P D vwCl [] t.heap ∧ va_D (va_A [] sz) []) (va_A [] sz)) 1 6 (va_A [] sz) := by
  refine vx_ofW (cc := cX5_count) (maxL := 2) (ret := (some .int)) (by decide) rfl ?_
  intro p e s m args below meth c s₁ B hml hnt9 hv
  obtain ⟨rfl, hsz, hP, hK, hD0, hZ⟩ := hv
  have hx := B.exec
  have hb := B.bytes
  have hr := B.returns
  have hts := atoms_spec (ws := wsX5_count) B.pre
  have hown : s.vm.findClass RX5 = some m.cls := findClass_of_methodNamed B.named
  have hlocks := B.notSynchronized
  subst hsz
  have hD := hD0.self (sz := s.heap.size)
  generalize hAe : va_A [] s.heap.size = A at hD hZ ⊢
  have hA : ∀ q : Nat, s.heap.size ≤ q → A q := fun q h => by rw [← hAe]; exact Or.inr h
  have hS : va_S A s.heap s.heap [] := va_S.rf
  have hP : va_P D vwCl [] s.heap := hP
  have hKv := hK.1
  have hl := lv_entry ([.ref oc, .int x]) (n := 2) (kk_le rfl)
  rw [lg_entry_eq]
  generalize (lg_sl ([.ref oc, .int x]) ++ List.replicate (2 - (lg_sl ([.ref oc, .int x])).length) Slot.unset).toArray = ls at hl ⊢
  have hl : lv_has ls 2 [(0, .ref oc), (1, .int x)] := hl
  refine lv_iload_n hx hb dX5_count_0 rfl (lv_at hl 1 rfl) ?_
  refine lv_tableOut (tgt := 135) hx hb dX5_count_1 (by rcases hF_out hbad (by decide) with h | h; exact Or.inl (by omega); exact Or.inr (by omega)) (by decide) ?_
  obtain ⟨sa9, hst9⟩ := hK.2.s187
  exact vx_throwS (names := ["java/lang/RuntimeException", "java/lang/Exception"]) (A := A) hx hb hnst hown (by decide +kernel) (by decide +kernel) (hts (.classLink RX5 66 "java/lang/IllegalArgumentException") (by decide +kernel)) (hts (.initialized "java/lang/IllegalArgumentException") (by decide +kernel)) hst9 (taX66 (fun w h => hts w (by first | exact List.mem_cons_of_mem _ (List.mem_append_right _ h) | exact List.mem_cons_of_mem _ (List.mem_append_left _ (List.mem_append_right _ h)) | exact List.mem_cons_of_mem _ (List.mem_append_left _ (List.mem_append_left _ (List.mem_append_right _ h))) | exact List.mem_cons_of_mem _ (List.mem_append_left _ (List.mem_append_left _ (List.mem_append_left _ (List.mem_append_right _ h)))))) (va_Nw.use rfl hK.2.cIllegalArgumentException)) tgX66 hZ.2.2.2.1 hZ.2.2.2.2 hS (hl.1.trans hml.symm) dX5_count_135 dX5_count_138 dX5_count_139 dX5_count_141 dX5_count_144 (fun x h => (hnt9 x h).elim) (by decide) (by decide) (by decide) (by decide) hlocks (fun t _ h1 h2 => ⟨(), trivial, ⟨rfl, my_P_kept hP h2, hD⟩, my_F_kept hS h1 h2⟩) hS.2.2 (by decide) (by decide)
abbrev rm_kX5_setting_bad : Room := { frames := 6, cells := 1, slots := 6, locals := 90 }
set_option maxHeartbeats 4000000 in
set_option maxRecDepth 100000 in
theorem kX5_setting_bad (l : Launch) (hnst : l.stackTraces = false) (D : va_G) (ca : Nat → ClassId) (sz : Nat) (oc os osl ohi obu ord osp onw otr ogd : Nat) (t1 l1 g1 : Nat) (g2 : Nat) (z : Nat) (r f j : Int32) (x : Int32) (hbad : hasF 4 x = false) : vx_Met l yX5_setting wsX5_setting rm_kX5_setting_bad (pcZ D ca [.ref oc, .int x] [(oc, .inr (5, [.ref os, .ref osl, .ref ohi, .ref obu, .ref ord, .ref osp, .ref onw, .ref otr, .ref ogd])), (os, .inr (3, [.ref t1, .ref l1, .ref g1])), (g1, .inr (2, [.ref g2, .int (nI 4)])), (g2, .inl (ca 0, 4, .inl (seF z r f j)))] sz) (va_Qi (fun (zr : Int32) (u : Unit) => False) (fun _ _ => True) (va_A [(oc, .inr (5, [.ref os, .ref osl, .ref ohi, .ref obu, .ref ord, .ref osp, .ref onw, .ref otr, .ref ogd])), (os, .inr (3, [.ref t1, .ref l1, .ref g1])), (g1, .inr (2, [.ref g2, .int (nI 4)])), (g2, .inl (ca 0, 4, .inl (seF z r f j)))] sz)) (vx_X (fun _ : Unit => True) (fun E _ t => E = "java/lang/IndexOutOfBoundsException" ∧ va_P D vwCl [(oc, .inr (5, [.ref os, .ref osl, .ref ohi, .ref obu, .ref ord, .ref osp, .ref onw, .ref otr, .ref ogd])), (os, .inr (3, [.ref t1, .ref l1, .ref g1])), (g1, .inr (2, [.ref g2, .int (nI 4)])), (g2, .inl (ca 0, 4, .inl (seF z r f j)))] t.heap ∧ va_D (va_A [(oc, .inr (5, [.ref os, .ref osl, .ref ohi, .ref obu, .ref ord, .ref osp, .ref onw, .ref otr, .ref ogd])), (os, .inr (3, [.ref t1, .ref l1, .ref g1])), (g1, .inr (2, [.ref g2, .int (nI 4)])), (g2, .inl (ca 0, 4, .inl (seF z r f j)))] sz) [(oc, .inr (5, [.ref os, .ref osl, .ref ohi, .ref obu, .ref ord, .ref osp, .ref onw, .ref otr, .ref ogd])), (os, .inr (3, [.ref t1, .ref l1, .ref g1])), (g1, .inr (2, [.ref g2, .int (nI 4)])), (g2, .inl (ca 0, 4, .inl (seF z r f j)))]) (va_A [(oc, .inr (5, [.ref os, .ref osl, .ref ohi, .ref obu, .ref ord, .ref osp, .ref onw, .ref otr, .ref ogd])), (os, .inr (3, [.ref t1, .ref l1, .ref g1])), (g1, .inr (2, [.ref g2, .int (nI 4)])), (g2, .inl (ca 0, 4, .inl (seF z r f j)))] sz)) 1 6 (va_A [(oc, .inr (5, [.ref os, .ref osl, .ref ohi, .ref obu, .ref ord, .ref osp, .ref onw, .ref otr, .ref ogd])), (os, .inr (3, [.ref t1, .ref l1, .ref g1])), (g1, .inr (2, [.ref g2, .int (nI 4)])), (g2, .inl (ca 0, 4, .inl (seF z r f j)))] sz) := by
  refine vx_ofW (cc := cX5_setting) (maxL := 2) (ret := (some .int)) (by decide) rfl ?_
  intro p e s m args below meth c s₁ B hml hnt9 hv
  obtain ⟨rfl, hsz, hP, hK, hD0, hZ⟩ := hv
  have hx := B.exec
  have hb := B.bytes
  have hr := B.returns
  have hts := atoms_spec (ws := wsX5_setting) B.pre
  have hown : s.vm.findClass RX5 = some m.cls := findClass_of_methodNamed B.named
  have hlocks := B.notSynchronized
  subst hsz
  have hD := hD0.self (sz := s.heap.size)
  generalize hAe : va_A [(oc, .inr (5, [.ref os, .ref osl, .ref ohi, .ref obu, .ref ord, .ref osp, .ref onw, .ref otr, .ref ogd])), (os, .inr (3, [.ref t1, .ref l1, .ref g1])), (g1, .inr (2, [.ref g2, .int (nI 4)])), (g2, .inl (ca 0, 4, .inl (seF z r f j)))] s.heap.size = A at hD hZ ⊢
  have hA : ∀ q : Nat, s.heap.size ≤ q → A q := fun q h => by rw [← hAe]; exact Or.inr h
  have hS : va_S A s.heap s.heap [] := va_S.rf
  have hP : va_P D vwCl [(oc, .inr (5, [.ref os, .ref osl, .ref ohi, .ref obu, .ref ord, .ref osp, .ref onw, .ref otr, .ref ogd])), (os, .inr (3, [.ref t1, .ref l1, .ref g1])), (g1, .inr (2, [.ref g2, .int (nI 4)])), (g2, .inl (ca 0, 4, .inl (seF z r f j)))] s.heap := hP
  have hKv := hK.1
  have hl := lv_entry ([.ref oc, .int x]) (n := 2) (kk_le rfl)
  rw [lg_entry_eq]
  generalize (lg_sl ([.ref oc, .int x]) ++ List.replicate (2 - (lg_sl ([.ref oc, .int x])).length) Slot.unset).toArray = ls at hl ⊢
  have hl : lv_has ls 2 [(0, .ref oc), (1, .int x)] := hl
  have hiX5 : ∀ w ∈ u_ws RX5 TX5 9, w ∈ wsX5_setting := fun w h => by first | exact List.mem_cons_of_mem _ (List.mem_append_right _ h) | exact List.mem_cons_of_mem _ (List.mem_append_left _ (List.mem_append_right _ h)) | exact List.mem_cons_of_mem _ (List.mem_append_left _ (List.mem_append_left _ (List.mem_append_right _ h))) | exact List.mem_cons_of_mem _ (List.mem_append_left _ (List.mem_append_left _ (List.mem_append_left _ (List.mem_append_right _ h)))) | (revert w h; decide +kernel)
  have lk10 : (Cond.fieldLink RX5 10 "StripeSwipes" "state" "LStripeSwipes$State;").before _ s = true := hts _ (by decide +kernel)
  have hiX3 : ∀ w ∈ u_ws RX3 TX3 3, w ∈ wsX5_setting := fun w h => by first | exact List.mem_cons_of_mem _ (List.mem_append_right _ h) | exact List.mem_cons_of_mem _ (List.mem_append_left _ (List.mem_append_right _ h)) | exact List.mem_cons_of_mem _ (List.mem_append_left _ (List.mem_append_left _ (List.mem_append_right _ h))) | exact List.mem_cons_of_mem _ (List.mem_append_left _ (List.mem_append_left _ (List.mem_append_left _ (List.mem_append_right _ h)))) | (revert w h; decide +kernel)
  have lk148 : (Cond.fieldLinkNest "StripeSwipes" 148 "StripeSwipes$State" "settings" "LStripeSwipes$Row;" "StripeSwipes").before ([.ref oc, .int x] : List Value).toArray s = true := va_Nw.use rfl hK.2.f148
  refine lv_aload_n hx hb dX5_setting_0 rfl (lv_at hl 0 rfl) ?_
  refine va_get (D := D) (ci := 5) (C := RX5) (T := TX5) (N := 9) hx hb hts hiX5 hown hKv hP 0 rfl rfl 0 (by decide) lk10 (fun _ h9 => h9) rfl dX5_setting_1 ?_
  refine va_getN (D := D) (ci := 3) (C := RX3) (T := TX3) (N := 3) hx hb hts hiX3 hown hKv hP 1 rfl rfl 2 (by decide) lk148 (fun _ h9 => h9) rfl dX5_setting_4 ?_
  refine lv_iload_n hx hb dX5_setting_7 rfl (lv_at hl 1 rfl) ?_
  refine vp_callSi (va_Run.run (va_runV (As := [.int x]) (rest := []) ⟨hx, hb, hml, hown, hts⟩ (kX2_has l D ca g1 g2 4 (seF z r f j) 4 x (by first | rfl | assumption | omega | trivial | (exfalso; omega)) (by first | rfl | assumption | omega | trivial | (exfalso; omega))) (cwV 1 hts gX5_setting_X2_has rfl rfl rfl (by decide +kernel) ⟨kk_le rfl, kk_le rfl⟩) (pvR hK (hP.sub (ws' := [(g1, .inr (2, [.ref g2, .int (nI 4)])), (g2, .inl (ca 0, 4, .inl (seF z r f j)))]) [2, 3] rfl) (va_recv hKv hP (ci := 2) (q0 := 2) rfl rfl)) rfl rfl hl.1 rfl (lv_room (kk_le rfl)) dX5_setting_8 ⟨kk_le rfl, kk_le rfl⟩)) (fun r1 hr1 => ?_)
  subst hr1
  have e2 : (bI (hasF 4 x) : Int32) = bI false := congrArg bI hbad
  rw [e2]
  refine bi_if_ne (tgt := 24) hx hb dX5_setting_11 (by decide) (fun c3 => ?_) (fun c3 => ?_)
  · first | exact False.elim c3 | exact absurd c3 (by decide) | (exfalso; omega)
  · obtain ⟨sa9, hst9⟩ := hK.2.s151
    exact vx_throwS (names := ["java/lang/RuntimeException", "java/lang/Exception"]) (A := A) hx hb hnst hown (by decide +kernel) (by decide +kernel) (hts (.classLink RX5 124 "java/lang/IndexOutOfBoundsException") (by decide +kernel)) (hts (.initialized "java/lang/IndexOutOfBoundsException") (by decide +kernel)) hst9 (taX124 (fun w h => hts w (by first | exact List.mem_cons_of_mem _ (List.mem_append_right _ h) | exact List.mem_cons_of_mem _ (List.mem_append_left _ (List.mem_append_right _ h)) | exact List.mem_cons_of_mem _ (List.mem_append_left _ (List.mem_append_left _ (List.mem_append_right _ h))) | exact List.mem_cons_of_mem _ (List.mem_append_left _ (List.mem_append_left _ (List.mem_append_left _ (List.mem_append_right _ h)))))) (va_Nw.use rfl hK.2.cIndexOutOfBoundsException)) tgX124 hZ.2.2.2.1 hZ.2.2.2.2 hS (hl.1.trans hml.symm) dX5_setting_14 dX5_setting_17 dX5_setting_18 dX5_setting_20 dX5_setting_23 (fun x h => (hnt9 x h).elim) (by decide) (by decide) (by decide) (by decide) hlocks (fun t _ h1 h2 => ⟨(), trivial, ⟨rfl, my_P_kept hP h2, hD⟩, my_F_kept hS h1 h2⟩) hS.2.2 (by decide) (by decide)
abbrev rm_kX5_append_bad : Room := { frames := 6, cells := 1, slots := 6, locals := 90 }
set_option maxHeartbeats 4000000 in
set_option maxRecDepth 100000 in
theorem kX5_append_bad (l : Launch) (hnst : l.stackTraces = false) (D : va_G) (ca : Nat → ClassId) (sz : Nat) (oc : Nat) (v : Int32) (hbad : inF v (nI 33) (nI 126) = false) : vx_Met l yX5_append wsX5_append rm_kX5_append_bad (pcZ D ca [.ref oc, .int v] [] sz) (va_Qi (fun (zr : Int32) (u : Unit) => False) (fun _ _ => True) (va_A [] sz)) (vx_X (fun _ : Unit => True) (fun E _ t => E = "java/lang/IllegalArgumentException" ∧ va_P D vwCl [] t.heap ∧ va_D (va_A [] sz) []) (va_A [] sz)) 1 6 (va_A [] sz) := by
  refine vx_ofW (cc := cX5_append) (maxL := 2) (ret := (some .int)) (by decide) rfl ?_
  intro p e s m args below meth c s₁ B hml hnt9 hv
  obtain ⟨rfl, hsz, hP, hK, hD0, hZ⟩ := hv
  have hx := B.exec
  have hb := B.bytes
  have hr := B.returns
  have hts := atoms_spec (ws := wsX5_append) B.pre
  have hown : s.vm.findClass RX5 = some m.cls := findClass_of_methodNamed B.named
  have hlocks := B.notSynchronized
  subst hsz
  have hD := hD0.self (sz := s.heap.size)
  generalize hAe : va_A [] s.heap.size = A at hD hZ ⊢
  have hA : ∀ q : Nat, s.heap.size ≤ q → A q := fun q h => by rw [← hAe]; exact Or.inr h
  have hS : va_S A s.heap s.heap [] := va_S.rf
  have hP : va_P D vwCl [] s.heap := hP
  have hKv := hK.1
  have hl := lv_entry ([.ref oc, .int v]) (n := 2) (kk_le rfl)
  rw [lg_entry_eq]
  generalize (lg_sl ([.ref oc, .int v]) ++ List.replicate (2 - (lg_sl ([.ref oc, .int v])).length) Slot.unset).toArray = ls at hl ⊢
  have hl : lv_has ls 2 [(0, .ref oc), (1, .int v)] := hl
  refine lv_iload_n hx hb dX5_append_0 rfl (lv_at hl 1 rfl) ?_
  refine lv_bipush (v := nI 33) hx hb dX5_append_1 (by decide) ?_
  refine lv_icmp_lt (tgt := 12) hx hb dX5_append_3 (by decide) (fun c1 => ?_) (fun c1 => ?_)
  · obtain ⟨sa9, hst9⟩ := hK.2.s166
    exact vx_throwS (names := ["java/lang/RuntimeException", "java/lang/Exception"]) (A := A) hx hb hnst hown (by decide +kernel) (by decide +kernel) (hts (.classLink RX5 66 "java/lang/IllegalArgumentException") (by decide +kernel)) (hts (.initialized "java/lang/IllegalArgumentException") (by decide +kernel)) hst9 (taX66 (fun w h => hts w (by first | exact List.mem_cons_of_mem _ (List.mem_append_right _ h) | exact List.mem_cons_of_mem _ (List.mem_append_left _ (List.mem_append_right _ h)) | exact List.mem_cons_of_mem _ (List.mem_append_left _ (List.mem_append_left _ (List.mem_append_right _ h))) | exact List.mem_cons_of_mem _ (List.mem_append_left _ (List.mem_append_left _ (List.mem_append_left _ (List.mem_append_right _ h)))))) (va_Nw.use rfl hK.2.cIllegalArgumentException)) tgX66 hZ.2.2.2.1 hZ.2.2.2.2 hS (hl.1.trans hml.symm) dX5_append_12 dX5_append_15 dX5_append_16 dX5_append_18 dX5_append_21 (fun x h => (hnt9 x h).elim) (by decide) (by decide) (by decide) (by decide) hlocks (fun t _ h1 h2 => ⟨(), trivial, ⟨rfl, my_P_kept hP h2, hD⟩, my_F_kept hS h1 h2⟩) hS.2.2 (by decide) (by decide)
  · refine lv_iload_n hx hb dX5_append_6 rfl (lv_at hl 1 rfl) ?_
    refine lv_bipush (v := nI 126) hx hb dX5_append_7 (by decide) ?_
    refine lv_icmp_le (tgt := 22) hx hb dX5_append_9 (by decide) (fun c2 => ?_) (fun c2 => ?_)
    · exact (inF_no hbad (by assumption) (Int32.not_lt.mpr (by assumption))).elim
    · obtain ⟨sa9, hst9⟩ := hK.2.s166
      exact vx_throwS (names := ["java/lang/RuntimeException", "java/lang/Exception"]) (A := A) hx hb hnst hown (by decide +kernel) (by decide +kernel) (hts (.classLink RX5 66 "java/lang/IllegalArgumentException") (by decide +kernel)) (hts (.initialized "java/lang/IllegalArgumentException") (by decide +kernel)) hst9 (taX66 (fun w h => hts w (by first | exact List.mem_cons_of_mem _ (List.mem_append_right _ h) | exact List.mem_cons_of_mem _ (List.mem_append_left _ (List.mem_append_right _ h)) | exact List.mem_cons_of_mem _ (List.mem_append_left _ (List.mem_append_left _ (List.mem_append_right _ h))) | exact List.mem_cons_of_mem _ (List.mem_append_left _ (List.mem_append_left _ (List.mem_append_left _ (List.mem_append_right _ h)))))) (va_Nw.use rfl hK.2.cIllegalArgumentException)) tgX66 hZ.2.2.2.1 hZ.2.2.2.2 hS (hl.1.trans hml.symm) dX5_append_12 dX5_append_15 dX5_append_16 dX5_append_18 dX5_append_21 (fun x h => (hnt9 x h).elim) (by decide) (by decide) (by decide) (by decide) hlocks (fun t _ h1 h2 => ⟨(), trivial, ⟨rfl, my_P_kept hP h2, hD⟩, my_F_kept hS h1 h2⟩) hS.2.2 (by decide) (by decide)
abbrev rm_kX5_append_full : Room := { frames := 6, cells := 1, slots := 6, locals := 90 }
set_option maxHeartbeats 4000000 in
set_option maxRecDepth 100000 in
theorem kX5_append_full (l : Launch) (hnst : l.stackTraces = false) (D : va_G) (ca : Nat → ClassId) (sz : Nat) (oc os osl ohi obu ord osp onw otr ogd : Nat) (bua : Nat) (fb : Nat → Int32) (ln : Nat) (v : Int32) (hin : inF v (nI 33) (nI 126) = true) (hfull : ln = 40) : vx_Met l yX5_append wsX5_append rm_kX5_append_full (pcZ D ca [.ref oc, .int v] [(oc, .inr (5, [.ref os, .ref osl, .ref ohi, .ref obu, .ref ord, .ref osp, .ref onw, .ref otr, .ref ogd])), (obu, .inr (2, [.ref bua, .int (nI ln)])), (bua, .inl (ca 0, 40, .inl fb))] sz) (va_Qi (fun (zr : Int32) (u : Unit) => False) (fun _ _ => True) (va_A [(oc, .inr (5, [.ref os, .ref osl, .ref ohi, .ref obu, .ref ord, .ref osp, .ref onw, .ref otr, .ref ogd])), (obu, .inr (2, [.ref bua, .int (nI ln)])), (bua, .inl (ca 0, 40, .inl fb))] sz)) (vx_X (fun _ : Unit => True) (fun E _ t => E = "java/lang/IllegalStateException" ∧ va_P D vwCl [(oc, .inr (5, [.ref os, .ref osl, .ref ohi, .ref obu, .ref ord, .ref osp, .ref onw, .ref otr, .ref ogd])), (obu, .inr (2, [.ref bua, .int (nI ln)])), (bua, .inl (ca 0, 40, .inl fb))] t.heap ∧ va_D (va_A [(oc, .inr (5, [.ref os, .ref osl, .ref ohi, .ref obu, .ref ord, .ref osp, .ref onw, .ref otr, .ref ogd])), (obu, .inr (2, [.ref bua, .int (nI ln)])), (bua, .inl (ca 0, 40, .inl fb))] sz) [(oc, .inr (5, [.ref os, .ref osl, .ref ohi, .ref obu, .ref ord, .ref osp, .ref onw, .ref otr, .ref ogd])), (obu, .inr (2, [.ref bua, .int (nI ln)])), (bua, .inl (ca 0, 40, .inl fb))]) (va_A [(oc, .inr (5, [.ref os, .ref osl, .ref ohi, .ref obu, .ref ord, .ref osp, .ref onw, .ref otr, .ref ogd])), (obu, .inr (2, [.ref bua, .int (nI ln)])), (bua, .inl (ca 0, 40, .inl fb))] sz)) 1 6 (va_A [(oc, .inr (5, [.ref os, .ref osl, .ref ohi, .ref obu, .ref ord, .ref osp, .ref onw, .ref otr, .ref ogd])), (obu, .inr (2, [.ref bua, .int (nI ln)])), (bua, .inl (ca 0, 40, .inl fb))] sz) := by
  refine vx_ofW (cc := cX5_append) (maxL := 2) (ret := (some .int)) (by decide) rfl ?_
  intro p e s m args below meth c s₁ B hml hnt9 hv
  obtain ⟨rfl, hsz, hP, hK, hD0, hZ⟩ := hv
  have hx := B.exec
  have hb := B.bytes
  have hr := B.returns
  have hts := atoms_spec (ws := wsX5_append) B.pre
  have hown : s.vm.findClass RX5 = some m.cls := findClass_of_methodNamed B.named
  have hlocks := B.notSynchronized
  subst hsz
  have hD := hD0.self (sz := s.heap.size)
  generalize hAe : va_A [(oc, .inr (5, [.ref os, .ref osl, .ref ohi, .ref obu, .ref ord, .ref osp, .ref onw, .ref otr, .ref ogd])), (obu, .inr (2, [.ref bua, .int (nI ln)])), (bua, .inl (ca 0, 40, .inl fb))] s.heap.size = A at hD hZ ⊢
  have hA : ∀ q : Nat, s.heap.size ≤ q → A q := fun q h => by rw [← hAe]; exact Or.inr h
  have hS : va_S A s.heap s.heap [] := va_S.rf
  have hP : va_P D vwCl [(oc, .inr (5, [.ref os, .ref osl, .ref ohi, .ref obu, .ref ord, .ref osp, .ref onw, .ref otr, .ref ogd])), (obu, .inr (2, [.ref bua, .int (nI ln)])), (bua, .inl (ca 0, 40, .inl fb))] s.heap := hP
  have hKv := hK.1
  have hl := lv_entry ([.ref oc, .int v]) (n := 2) (kk_le rfl)
  rw [lg_entry_eq]
  generalize (lg_sl ([.ref oc, .int v]) ++ List.replicate (2 - (lg_sl ([.ref oc, .int v])).length) Slot.unset).toArray = ls at hl ⊢
  have hl : lv_has ls 2 [(0, .ref oc), (1, .int v)] := hl
  have hiX5 : ∀ w ∈ u_ws RX5 TX5 9, w ∈ wsX5_append := fun w h => by first | exact List.mem_cons_of_mem _ (List.mem_append_right _ h) | exact List.mem_cons_of_mem _ (List.mem_append_left _ (List.mem_append_right _ h)) | exact List.mem_cons_of_mem _ (List.mem_append_left _ (List.mem_append_left _ (List.mem_append_right _ h))) | exact List.mem_cons_of_mem _ (List.mem_append_left _ (List.mem_append_left _ (List.mem_append_left _ (List.mem_append_right _ h)))) | (revert w h; decide +kernel)
  have lk32 : (Cond.fieldLink RX5 32 "StripeSwipes" "buffer" "LStripeSwipes$Row;").before _ s = true := hts _ (by decide +kernel)
  refine lv_iload_n hx hb dX5_append_0 rfl (lv_at hl 1 rfl) ?_
  refine lv_bipush (v := nI 33) hx hb dX5_append_1 (by decide) ?_
  refine lv_icmp_lt (tgt := 12) hx hb dX5_append_3 (by decide) (fun c1 => ?_) (fun c1 => ?_)
  · exact absurd c1 (inF_iff.mp hin).1
  · refine lv_iload_n hx hb dX5_append_6 rfl (lv_at hl 1 rfl) ?_
    refine lv_bipush (v := nI 126) hx hb dX5_append_7 (by decide) ?_
    refine lv_icmp_le (tgt := 22) hx hb dX5_append_9 (by decide) (fun c2 => ?_) (fun c2 => ?_)
    · refine lv_aload_n hx hb dX5_append_22 rfl (lv_at hl 0 rfl) ?_
      refine va_get (D := D) (ci := 5) (C := RX5) (T := TX5) (N := 9) hx hb hts hiX5 hown hKv hP 0 rfl rfl 3 (by decide) lk32 (fun _ h9 => h9) rfl dX5_append_23 ?_
      refine vp_callSi (va_Run.run (va_runV (As := []) (rest := []) ⟨hx, hb, hml, hown, hts⟩ (kX2_size l D ca obu bua 40 fb ln (by first | rfl | assumption | omega | trivial | (exfalso; omega)) (by first | rfl | assumption | omega | trivial | (exfalso; omega))) (cwV 0 hts gX5_append_X2_size rfl rfl rfl (by decide +kernel) ⟨kk_le rfl, kk_le rfl⟩) (pvR hK (hP.sub (ws' := [(obu, .inr (2, [.ref bua, .int (nI ln)])), (bua, .inl (ca 0, 40, .inl fb))]) [1, 2] rfl) (va_recv hKv hP (ci := 2) (q0 := 1) rfl rfl)) rfl rfl hl.1 rfl (lv_room (kk_le rfl)) dX5_append_26 ⟨kk_le rfl, kk_le rfl⟩)) (fun r3 hr3 => ?_)
      subst hr3
      refine lv_bipush (v := nI 40) hx hb dX5_append_29 (by decide) ?_
      refine ni_icmp_lt (tgt := 44) (by omega) (by omega) hx hb dX5_append_31 (by decide) (fun c4 => ?_) (fun c4 => ?_)
      · exact absurd c4 (by omega)
      · obtain ⟨sa9, hst9⟩ := hK.2.s168
        exact vx_throwS (names := ["java/lang/RuntimeException", "java/lang/Exception"]) (A := A) hx hb hnst hown (by decide +kernel) (by decide +kernel) (hts (.classLink RX5 97 "java/lang/IllegalStateException") (by decide +kernel)) (hts (.initialized "java/lang/IllegalStateException") (by decide +kernel)) hst9 (taX97 (fun w h => hts w (by first | exact List.mem_cons_of_mem _ (List.mem_append_right _ h) | exact List.mem_cons_of_mem _ (List.mem_append_left _ (List.mem_append_right _ h)) | exact List.mem_cons_of_mem _ (List.mem_append_left _ (List.mem_append_left _ (List.mem_append_right _ h))) | exact List.mem_cons_of_mem _ (List.mem_append_left _ (List.mem_append_left _ (List.mem_append_left _ (List.mem_append_right _ h)))))) (va_Nw.use rfl hK.2.cIllegalStateException)) tgX97 hZ.2.2.2.1 hZ.2.2.2.2 hS (hl.1.trans hml.symm) dX5_append_34 dX5_append_37 dX5_append_38 dX5_append_40 dX5_append_43 (fun x h => (hnt9 x h).elim) (by decide) (by decide) (by decide) (by decide) hlocks (fun t _ h1 h2 => ⟨(), trivial, ⟨rfl, my_P_kept hP h2, hD⟩, my_F_kept hS h1 h2⟩) hS.2.2 (by decide) (by decide)
    · exact absurd (Int32.not_le.mp c2) (inF_iff.mp hin).2
abbrev rm_kX5_swipe_bad : Room := { frames := 6, cells := 1, slots := 6, locals := 90 }
set_option maxHeartbeats 4000000 in
set_option maxRecDepth 100000 in
theorem kX5_swipe_bad (l : Launch) (hnst : l.stackTraces = false) (D : va_G) (ca : Nat → ClassId) (sz : Nat) (oc os osl ohi obu ord osp onw otr ogd : Nat) (t1 l1 g1 : Nat) (l2 : Nat) (nl : Nat) (gl : Nat → Int32) (hnl : nl ≤ 20) (hbad : nl = 0) : vx_Met l yX5_swipe wsX5_swipe rm_kX5_swipe_bad (pcZ D ca [.ref oc] [(oc, .inr (5, [.ref os, .ref osl, .ref ohi, .ref obu, .ref ord, .ref osp, .ref onw, .ref otr, .ref ogd])), (os, .inr (3, [.ref t1, .ref l1, .ref g1])), (l1, .inr (2, [.ref l2, .int (nI nl)])), (l2, .inl (ca 0, 20, .inl gl))] sz) (va_Qi (fun (zr : Int32) (u : Unit) => False) (fun _ _ => True) (va_A [(oc, .inr (5, [.ref os, .ref osl, .ref ohi, .ref obu, .ref ord, .ref osp, .ref onw, .ref otr, .ref ogd])), (os, .inr (3, [.ref t1, .ref l1, .ref g1])), (l1, .inr (2, [.ref l2, .int (nI nl)])), (l2, .inl (ca 0, 20, .inl gl))] sz)) (vx_X (fun _ : Unit => True) (fun E _ t => E = "java/lang/IllegalStateException" ∧ va_P D vwCl [(oc, .inr (5, [.ref os, .ref osl, .ref ohi, .ref obu, .ref ord, .ref osp, .ref onw, .ref otr, .ref ogd])), (os, .inr (3, [.ref t1, .ref l1, .ref g1])), (l1, .inr (2, [.ref l2, .int (nI nl)])), (l2, .inl (ca 0, 20, .inl gl))] t.heap ∧ va_D (va_A [(oc, .inr (5, [.ref os, .ref osl, .ref ohi, .ref obu, .ref ord, .ref osp, .ref onw, .ref otr, .ref ogd])), (os, .inr (3, [.ref t1, .ref l1, .ref g1])), (l1, .inr (2, [.ref l2, .int (nI nl)])), (l2, .inl (ca 0, 20, .inl gl))] sz) [(oc, .inr (5, [.ref os, .ref osl, .ref ohi, .ref obu, .ref ord, .ref osp, .ref onw, .ref otr, .ref ogd])), (os, .inr (3, [.ref t1, .ref l1, .ref g1])), (l1, .inr (2, [.ref l2, .int (nI nl)])), (l2, .inl (ca 0, 20, .inl gl))]) (va_A [(oc, .inr (5, [.ref os, .ref osl, .ref ohi, .ref obu, .ref ord, .ref osp, .ref onw, .ref otr, .ref ogd])), (os, .inr (3, [.ref t1, .ref l1, .ref g1])), (l1, .inr (2, [.ref l2, .int (nI nl)])), (l2, .inl (ca 0, 20, .inl gl))] sz)) 1 6 (va_A [(oc, .inr (5, [.ref os, .ref osl, .ref ohi, .ref obu, .ref ord, .ref osp, .ref onw, .ref otr, .ref ogd])), (os, .inr (3, [.ref t1, .ref l1, .ref g1])), (l1, .inr (2, [.ref l2, .int (nI nl)])), (l2, .inl (ca 0, 20, .inl gl))] sz) := by
  refine vx_ofW (cc := cX5_swipe) (maxL := 1) (ret := (some .int)) (by decide) rfl ?_
  intro p e s m args below meth c s₁ B hml hnt9 hv
  obtain ⟨rfl, hsz, hP, hK, hD0, hZ⟩ := hv
  have hx := B.exec
  have hb := B.bytes
  have hr := B.returns
  have hts := atoms_spec (ws := wsX5_swipe) B.pre
  have hown : s.vm.findClass RX5 = some m.cls := findClass_of_methodNamed B.named
  have hlocks := B.notSynchronized
  subst hsz
  have hD := hD0.self (sz := s.heap.size)
  generalize hAe : va_A [(oc, .inr (5, [.ref os, .ref osl, .ref ohi, .ref obu, .ref ord, .ref osp, .ref onw, .ref otr, .ref ogd])), (os, .inr (3, [.ref t1, .ref l1, .ref g1])), (l1, .inr (2, [.ref l2, .int (nI nl)])), (l2, .inl (ca 0, 20, .inl gl))] s.heap.size = A at hD hZ ⊢
  have hA : ∀ q : Nat, s.heap.size ≤ q → A q := fun q h => by rw [← hAe]; exact Or.inr h
  have hS : va_S A s.heap s.heap [] := va_S.rf
  have hP : va_P D vwCl [(oc, .inr (5, [.ref os, .ref osl, .ref ohi, .ref obu, .ref ord, .ref osp, .ref onw, .ref otr, .ref ogd])), (os, .inr (3, [.ref t1, .ref l1, .ref g1])), (l1, .inr (2, [.ref l2, .int (nI nl)])), (l2, .inl (ca 0, 20, .inl gl))] s.heap := hP
  have hKv := hK.1
  have hl := lv_entry ([.ref oc]) (n := 1) (kk_le rfl)
  rw [lg_entry_eq]
  generalize (lg_sl ([.ref oc]) ++ List.replicate (1 - (lg_sl ([.ref oc])).length) Slot.unset).toArray = ls at hl ⊢
  have hl : lv_has ls 1 [(0, .ref oc)] := hl
  have hiX5 : ∀ w ∈ u_ws RX5 TX5 9, w ∈ wsX5_swipe := fun w h => by first | exact List.mem_cons_of_mem _ (List.mem_append_right _ h) | exact List.mem_cons_of_mem _ (List.mem_append_left _ (List.mem_append_right _ h)) | exact List.mem_cons_of_mem _ (List.mem_append_left _ (List.mem_append_left _ (List.mem_append_right _ h))) | exact List.mem_cons_of_mem _ (List.mem_append_left _ (List.mem_append_left _ (List.mem_append_left _ (List.mem_append_right _ h)))) | (revert w h; decide +kernel)
  have lk10 : (Cond.fieldLink RX5 10 "StripeSwipes" "state" "LStripeSwipes$State;").before _ s = true := hts _ (by decide +kernel)
  have hiX3 : ∀ w ∈ u_ws RX3 TX3 3, w ∈ wsX5_swipe := fun w h => by first | exact List.mem_cons_of_mem _ (List.mem_append_right _ h) | exact List.mem_cons_of_mem _ (List.mem_append_left _ (List.mem_append_right _ h)) | exact List.mem_cons_of_mem _ (List.mem_append_left _ (List.mem_append_left _ (List.mem_append_right _ h))) | exact List.mem_cons_of_mem _ (List.mem_append_left _ (List.mem_append_left _ (List.mem_append_left _ (List.mem_append_right _ h)))) | (revert w h; decide +kernel)
  have lk106 : (Cond.fieldLinkNest "StripeSwipes" 106 "StripeSwipes$State" "letters" "LStripeSwipes$Row;" "StripeSwipes").before ([.ref oc] : List Value).toArray s = true := va_Nw.use rfl hK.2.f106
  refine lv_aload_n hx hb dX5_swipe_0 rfl (lv_at hl 0 rfl) ?_
  refine va_get (D := D) (ci := 5) (C := RX5) (T := TX5) (N := 9) hx hb hts hiX5 hown hKv hP 0 rfl rfl 0 (by decide) lk10 (fun _ h9 => h9) rfl dX5_swipe_1 ?_
  refine va_getN (D := D) (ci := 3) (C := RX3) (T := TX3) (N := 3) hx hb hts hiX3 hown hKv hP 1 rfl rfl 1 (by decide) lk106 (fun _ h9 => h9) rfl dX5_swipe_4 ?_
  refine vp_callSi (va_Run.run (va_runV (As := []) (rest := []) ⟨hx, hb, hml, hown, hts⟩ (kX2_size l D ca l1 l2 20 gl nl (by first | rfl | assumption | omega | trivial | (exfalso; omega)) (by first | rfl | assumption | omega | trivial | (exfalso; omega))) (cwV 0 hts gX5_swipe_X2_size rfl rfl rfl (by decide +kernel) ⟨kk_le rfl, kk_le rfl⟩) (pvR hK (hP.sub (ws' := [(l1, .inr (2, [.ref l2, .int (nI nl)])), (l2, .inl (ca 0, 20, .inl gl))]) [2, 3] rfl) (va_recv hKv hP (ci := 2) (q0 := 2) rfl rfl)) rfl rfl hl.1 rfl (lv_room (kk_le rfl)) dX5_swipe_7 ⟨kk_le rfl, kk_le rfl⟩)) (fun r1 hr1 => ?_)
  subst hr1
  refine ni_if_ne (tgt := 23) (by omega) hx hb dX5_swipe_10 (by decide) (fun c2 => ?_) (fun c2 => ?_)
  · exact absurd c2 (by omega)
  · obtain ⟨sa9, hst9⟩ := hK.2.s119
    exact vx_throwS (names := ["java/lang/RuntimeException", "java/lang/Exception"]) (A := A) hx hb hnst hown (by decide +kernel) (by decide +kernel) (hts (.classLink RX5 97 "java/lang/IllegalStateException") (by decide +kernel)) (hts (.initialized "java/lang/IllegalStateException") (by decide +kernel)) hst9 (taX97 (fun w h => hts w (by first | exact List.mem_cons_of_mem _ (List.mem_append_right _ h) | exact List.mem_cons_of_mem _ (List.mem_append_left _ (List.mem_append_right _ h)) | exact List.mem_cons_of_mem _ (List.mem_append_left _ (List.mem_append_left _ (List.mem_append_right _ h))) | exact List.mem_cons_of_mem _ (List.mem_append_left _ (List.mem_append_left _ (List.mem_append_left _ (List.mem_append_right _ h)))))) (va_Nw.use rfl hK.2.cIllegalStateException)) tgX97 hZ.2.2.2.1 hZ.2.2.2.2 hS (hl.1.trans hml.symm) dX5_swipe_13 dX5_swipe_16 dX5_swipe_17 dX5_swipe_19 dX5_swipe_22 (fun x h => (hnt9 x h).elim) (by decide) (by decide) (by decide) (by decide) hlocks (fun t _ h1 h2 => ⟨(), trivial, ⟨rfl, my_P_kept hP h2, hD⟩, my_F_kept hS h1 h2⟩) hS.2.2 (by decide) (by decide)
abbrev rm_kX5_swipe_bad2 : Room := { frames := 6, cells := 1, slots := 6, locals := 90 }
set_option maxHeartbeats 4000000 in
set_option maxRecDepth 100000 in
theorem kX5_swipe_bad2 (l : Launch) (hnst : l.stackTraces = false) (D : va_G) (ca : Nat → ClassId) (sz : Nat) (oc os osl ohi obu ord osp onw otr ogd : Nat) (t1 l1 g1 : Nat) (l2 : Nat) (g2 : Nat) (z : Nat) (r f j : Int32) (nl : Nat) (gl : Nat → Int32) (s1 s2 : Nat) (fp : Nat → Int32) (pn : Nat) (hnl : nl ≤ 20) (hz : z ≤ 30) (hpn : pn ≤ 200) (h0 : 0 < nl) (hbad : 200 < (2 * z + 5 * (nl + 3)) + onesN (strp z (lst gl nl))) : vx_Met l yX5_swipe wsX5_swipe rm_kX5_swipe_bad2 (pcZ D ca [.ref oc] [(oc, .inr (5, [.ref os, .ref osl, .ref ohi, .ref obu, .ref ord, .ref osp, .ref onw, .ref otr, .ref ogd])), (os, .inr (3, [.ref t1, .ref l1, .ref g1])), (l1, .inr (2, [.ref l2, .int (nI nl)])), (l2, .inl (ca 0, 20, .inl gl)), (g1, .inr (2, [.ref g2, .int (nI 4)])), (g2, .inl (ca 0, 4, .inl (seF z r f j))), (osp, .inr (4, [.ref s1])), (s1, .inr (2, [.ref s2, .int (nI pn)])), (s2, .inl (ca 0, 200, .inl fp))] sz) (va_Qi (fun (zr : Int32) (u : Unit) => False) (fun _ _ => True) (va_A [(oc, .inr (5, [.ref os, .ref osl, .ref ohi, .ref obu, .ref ord, .ref osp, .ref onw, .ref otr, .ref ogd])), (os, .inr (3, [.ref t1, .ref l1, .ref g1])), (l1, .inr (2, [.ref l2, .int (nI nl)])), (l2, .inl (ca 0, 20, .inl gl)), (g1, .inr (2, [.ref g2, .int (nI 4)])), (g2, .inl (ca 0, 4, .inl (seF z r f j))), (osp, .inr (4, [.ref s1])), (s1, .inr (2, [.ref s2, .int (nI pn)])), (s2, .inl (ca 0, 200, .inl fp))] sz)) (vx_X (fun _ : Unit => True) (fun E _ t => E = "java/lang/IllegalStateException" ∧ va_P D vwCl [(oc, .inr (5, [.ref os, .ref osl, .ref ohi, .ref obu, .ref ord, .ref osp, .ref onw, .ref otr, .ref ogd])), (os, .inr (3, [.ref t1, .ref l1, .ref g1])), (l1, .inr (2, [.ref l2, .int (nI nl)])), (l2, .inl (ca 0, 20, .inl gl)), (g1, .inr (2, [.ref g2, .int (nI 4)])), (g2, .inl (ca 0, 4, .inl (seF z r f j))), (osp, .inr (4, [.ref s1])), (s1, .inr (2, [.ref s2, .int (nI ((strp z (lst gl nl)).length))])), (s2, .inl (ca 0, 200, .inl (apF fp 0 (strp z (lst gl nl)))))] t.heap ∧ va_D (va_A [(oc, .inr (5, [.ref os, .ref osl, .ref ohi, .ref obu, .ref ord, .ref osp, .ref onw, .ref otr, .ref ogd])), (os, .inr (3, [.ref t1, .ref l1, .ref g1])), (l1, .inr (2, [.ref l2, .int (nI nl)])), (l2, .inl (ca 0, 20, .inl gl)), (g1, .inr (2, [.ref g2, .int (nI 4)])), (g2, .inl (ca 0, 4, .inl (seF z r f j))), (osp, .inr (4, [.ref s1])), (s1, .inr (2, [.ref s2, .int (nI pn)])), (s2, .inl (ca 0, 200, .inl fp))] sz) [(oc, .inr (5, [.ref os, .ref osl, .ref ohi, .ref obu, .ref ord, .ref osp, .ref onw, .ref otr, .ref ogd])), (os, .inr (3, [.ref t1, .ref l1, .ref g1])), (l1, .inr (2, [.ref l2, .int (nI nl)])), (l2, .inl (ca 0, 20, .inl gl)), (g1, .inr (2, [.ref g2, .int (nI 4)])), (g2, .inl (ca 0, 4, .inl (seF z r f j))), (osp, .inr (4, [.ref s1])), (s1, .inr (2, [.ref s2, .int (nI ((strp z (lst gl nl)).length))])), (s2, .inl (ca 0, 200, .inl (apF fp 0 (strp z (lst gl nl)))))]) (va_A [(oc, .inr (5, [.ref os, .ref osl, .ref ohi, .ref obu, .ref ord, .ref osp, .ref onw, .ref otr, .ref ogd])), (os, .inr (3, [.ref t1, .ref l1, .ref g1])), (l1, .inr (2, [.ref l2, .int (nI nl)])), (l2, .inl (ca 0, 20, .inl gl)), (g1, .inr (2, [.ref g2, .int (nI 4)])), (g2, .inl (ca 0, 4, .inl (seF z r f j))), (osp, .inr (4, [.ref s1])), (s1, .inr (2, [.ref s2, .int (nI pn)])), (s2, .inl (ca 0, 200, .inl fp))] sz)) 1 6 (va_A [(oc, .inr (5, [.ref os, .ref osl, .ref ohi, .ref obu, .ref ord, .ref osp, .ref onw, .ref otr, .ref ogd])), (os, .inr (3, [.ref t1, .ref l1, .ref g1])), (l1, .inr (2, [.ref l2, .int (nI nl)])), (l2, .inl (ca 0, 20, .inl gl)), (g1, .inr (2, [.ref g2, .int (nI 4)])), (g2, .inl (ca 0, 4, .inl (seF z r f j))), (osp, .inr (4, [.ref s1])), (s1, .inr (2, [.ref s2, .int (nI pn)])), (s2, .inl (ca 0, 200, .inl fp))] sz) := by
  refine vx_ofW (cc := cX5_swipe) (maxL := 1) (ret := (some .int)) (by decide) rfl ?_
  intro p e s m args below meth c s₁ B hml hnt9 hv
  obtain ⟨rfl, hsz, hP, hK, hD0, hZ⟩ := hv
  have hx := B.exec
  have hb := B.bytes
  have hr := B.returns
  have hts := atoms_spec (ws := wsX5_swipe) B.pre
  have hown : s.vm.findClass RX5 = some m.cls := findClass_of_methodNamed B.named
  have hlocks := B.notSynchronized
  subst hsz
  have hD := hD0.self (sz := s.heap.size)
  generalize hAe : va_A [(oc, .inr (5, [.ref os, .ref osl, .ref ohi, .ref obu, .ref ord, .ref osp, .ref onw, .ref otr, .ref ogd])), (os, .inr (3, [.ref t1, .ref l1, .ref g1])), (l1, .inr (2, [.ref l2, .int (nI nl)])), (l2, .inl (ca 0, 20, .inl gl)), (g1, .inr (2, [.ref g2, .int (nI 4)])), (g2, .inl (ca 0, 4, .inl (seF z r f j))), (osp, .inr (4, [.ref s1])), (s1, .inr (2, [.ref s2, .int (nI pn)])), (s2, .inl (ca 0, 200, .inl fp))] s.heap.size = A at hD hZ ⊢
  have hA : ∀ q : Nat, s.heap.size ≤ q → A q := fun q h => by rw [← hAe]; exact Or.inr h
  have hS : va_S A s.heap s.heap [] := va_S.rf
  have hP : va_P D vwCl [(oc, .inr (5, [.ref os, .ref osl, .ref ohi, .ref obu, .ref ord, .ref osp, .ref onw, .ref otr, .ref ogd])), (os, .inr (3, [.ref t1, .ref l1, .ref g1])), (l1, .inr (2, [.ref l2, .int (nI nl)])), (l2, .inl (ca 0, 20, .inl gl)), (g1, .inr (2, [.ref g2, .int (nI 4)])), (g2, .inl (ca 0, 4, .inl (seF z r f j))), (osp, .inr (4, [.ref s1])), (s1, .inr (2, [.ref s2, .int (nI pn)])), (s2, .inl (ca 0, 200, .inl fp))] s.heap := hP
  have hKv := hK.1
  have hl := lv_entry ([.ref oc]) (n := 1) (kk_le rfl)
  rw [lg_entry_eq]
  generalize (lg_sl ([.ref oc]) ++ List.replicate (1 - (lg_sl ([.ref oc])).length) Slot.unset).toArray = ls at hl ⊢
  have hl : lv_has ls 1 [(0, .ref oc)] := hl
  have hSl : (strp z (lst gl nl)).length = 2 * z + 5 * (nl + 3) := by rw [strp_len, lst_len]
  have hon9 := onesN_le (strp z (lst gl nl))
  have hiX5 : ∀ w ∈ u_ws RX5 TX5 9, w ∈ wsX5_swipe := fun w h => by first | exact List.mem_cons_of_mem _ (List.mem_append_right _ h) | exact List.mem_cons_of_mem _ (List.mem_append_left _ (List.mem_append_right _ h)) | exact List.mem_cons_of_mem _ (List.mem_append_left _ (List.mem_append_left _ (List.mem_append_right _ h))) | exact List.mem_cons_of_mem _ (List.mem_append_left _ (List.mem_append_left _ (List.mem_append_left _ (List.mem_append_right _ h)))) | (revert w h; decide +kernel)
  have lk10 : (Cond.fieldLink RX5 10 "StripeSwipes" "state" "LStripeSwipes$State;").before _ s = true := hts _ (by decide +kernel)
  have hiX3 : ∀ w ∈ u_ws RX3 TX3 3, w ∈ wsX5_swipe := fun w h => by first | exact List.mem_cons_of_mem _ (List.mem_append_right _ h) | exact List.mem_cons_of_mem _ (List.mem_append_left _ (List.mem_append_right _ h)) | exact List.mem_cons_of_mem _ (List.mem_append_left _ (List.mem_append_left _ (List.mem_append_right _ h))) | exact List.mem_cons_of_mem _ (List.mem_append_left _ (List.mem_append_left _ (List.mem_append_left _ (List.mem_append_right _ h)))) | (revert w h; decide +kernel)
  have lk106 : (Cond.fieldLinkNest "StripeSwipes" 106 "StripeSwipes$State" "letters" "LStripeSwipes$Row;" "StripeSwipes").before ([.ref oc] : List Value).toArray s = true := va_Nw.use rfl hK.2.f106
  have lk46 : (Cond.fieldLink RX5 46 "StripeSwipes" "stripe" "LStripeSwipes$Stripe;").before _ s = true := hts _ (by decide +kernel)
  refine lv_aload_n hx hb dX5_swipe_0 rfl (lv_at hl 0 rfl) ?_
  refine va_get (D := D) (ci := 5) (C := RX5) (T := TX5) (N := 9) hx hb hts hiX5 hown hKv hP 0 rfl rfl 0 (by decide) lk10 (fun _ h9 => h9) rfl dX5_swipe_1 ?_
  refine va_getN (D := D) (ci := 3) (C := RX3) (T := TX3) (N := 3) hx hb hts hiX3 hown hKv hP 1 rfl rfl 1 (by decide) lk106 (fun _ h9 => h9) rfl dX5_swipe_4 ?_
  refine vp_callSi (va_Run.run (va_runV (As := []) (rest := []) ⟨hx, hb, hml, hown, hts⟩ (kX2_size l D ca l1 l2 20 gl nl (by first | rfl | assumption | omega | trivial | (exfalso; omega)) (by first | rfl | assumption | omega | trivial | (exfalso; omega))) (cwV 0 hts gX5_swipe_X2_size rfl rfl rfl (by decide +kernel) ⟨kk_le rfl, kk_le rfl⟩) (pvR hK (hP.sub (ws' := [(l1, .inr (2, [.ref l2, .int (nI nl)])), (l2, .inl (ca 0, 20, .inl gl))]) [2, 3] rfl) (va_recv hKv hP (ci := 2) (q0 := 2) rfl rfl)) rfl rfl hl.1 rfl (lv_room (kk_le rfl)) dX5_swipe_7 ⟨kk_le rfl, kk_le rfl⟩)) (fun r1 hr1 => ?_)
  subst hr1
  refine ni_if_ne (tgt := 23) (by omega) hx hb dX5_swipe_10 (by decide) (fun c2 => ?_) (fun c2 => ?_)
  · refine lv_aload_n hx hb dX5_swipe_23 rfl (lv_at hl 0 rfl) ?_
    refine va_get (D := D) (ci := 5) (C := RX5) (T := TX5) (N := 9) hx hb hts hiX5 hown hKv hP 0 rfl rfl 5 (by decide) lk46 (fun _ h9 => h9) rfl dX5_swipe_24 ?_
    refine lv_aload_n hx hb dX5_swipe_27 rfl (lv_at hl 0 rfl) ?_
    refine va_get (D := D) (ci := 5) (C := RX5) (T := TX5) (N := 9) hx hb hts hiX5 hown hKv hP 0 rfl rfl 0 (by decide) lk10 (fun _ h9 => h9) rfl dX5_swipe_28 ?_
    refine va_getN (D := D) (ci := 3) (C := RX3) (T := TX3) (N := 3) hx hb hts hiX3 hown hKv hP 1 rfl rfl 1 (by decide) lk106 (fun _ h9 => h9) rfl dX5_swipe_31 ?_
    refine lv_aload_n hx hb dX5_swipe_34 rfl (lv_at hl 0 rfl) ?_
    refine lv_iconst (v := nI 0) hx hb dX5_swipe_35 (by decide) ?_
    refine vp_callSi (va_Run.run (va_runV (As := [.int (nI 0)]) (rest := [.ref l1, .ref osp]) ⟨hx, hb, hml, hown, hts⟩ (kX5_value_0 l D ca oc os osl ohi obu ord osp onw otr ogd t1 l1 g1 g2 z r f j) (cwV 1 hts gX5_swipe_X5_value rfl rfl rfl (by decide +kernel) ⟨kk_le rfl, kk_le rfl⟩) (pvR hK (hP.sub (ws' := [(oc, .inr (5, [.ref os, .ref osl, .ref ohi, .ref obu, .ref ord, .ref osp, .ref onw, .ref otr, .ref ogd])), (os, .inr (3, [.ref t1, .ref l1, .ref g1])), (g1, .inr (2, [.ref g2, .int (nI 4)])), (g2, .inl (ca 0, 4, .inl (seF z r f j)))]) [0, 1, 4, 5] rfl) (va_recv hKv hP (ci := 5) (q0 := 0) rfl rfl)) rfl rfl hl.1 rfl (lv_room (kk_le rfl)) dX5_swipe_36 ⟨kk_le rfl, kk_le rfl⟩)) (fun r3 hr3 => ?_)
    subst hr3
    have hPc := hP.sub (ws' := [(osp, .inr (4, [.ref s1])), (s1, .inr (2, [.ref s2, .int (nI pn)])), (s2, .inl (ca 0, 200, .inl fp)), (l1, .inr (2, [.ref l2, .int (nI nl)])), (l2, .inl (ca 0, 20, .inl gl))]) [6, 7, 8, 2, 3] rfl
    have hDc := hD.sub (ws' := [(osp, .inr (4, [.ref s1])), (s1, .inr (2, [.ref s2, .int (nI pn)])), (s2, .inl (ca 0, 200, .inl fp)), (l1, .inr (2, [.ref l2, .int (nI nl)])), (l2, .inl (ca 0, 20, .inl gl))]) [6, 7, 8, 2, 3] (by decide) rfl
    have hFc := va_free (wc := [(osp, .inr (4, [.ref s1])), (s1, .inr (2, [.ref s2, .int (nI pn)])), (s2, .inl (ca 0, 200, .inl fp)), (l1, .inr (2, [.ref l2, .int (nI nl)])), (l2, .inl (ca 0, 20, .inl gl))]) hD hS hA [6, 7, 8, 2, 3] rfl
    refine va_callv (va_runV (As := [.ref l1, .int (nI z)]) (rest := []) ⟨hx, hb, hml, hown, hts⟩ (kX4_layOut l D ca s.heap.size osp s1 s2 200 fp pn l1 l2 20 gl nl z (by first | rfl | assumption | omega | trivial | (exfalso; omega)) (by first | rfl | assumption | omega | trivial | (exfalso; omega)) (by first | rfl | assumption | omega | trivial | (exfalso; omega)) (by first | rfl | assumption | omega | trivial | (exfalso; omega)) (by first | rfl | assumption | omega | trivial | (exfalso; omega))) (cwV 2 hts gX5_swipe_X4_layOut rfl rfl rfl (by decide +kernel) ⟨kk_le rfl, kk_le rfl⟩) (pvM hK hPc (my_D_true hDc) (va_recv hKv hP (ci := 4) (q0 := 6) rfl rfl)) rfl rfl hl.1 rfl (lv_room (kk_le rfl)) dX5_swipe_39 ⟨kk_le rfl, kk_le rfl⟩) hS (fun q _ h => hFc q h) hFc (fun u t H1 locs ht hvm hwv hBv hz1 hk1 hS => ?_)
    obtain ⟨hP1, hD1⟩ := hBv
    rw [ht] at hP1
    have hP1 : va_P D vwCl [(osp, .inr (4, [.ref s1])), (s1, .inr (2, [.ref s2, .int (nI ((strp z (lst gl nl)).length))])), (s2, .inl (ca 0, 200, .inl (apF fp 0 (strp z (lst gl nl))))), (l1, .inr (2, [.ref l2, .int (nI nl)])), (l2, .inl (ca 0, 20, .inl gl))] H1 := hP1
    have hD1 : va_D _ [(osp, .inr (4, [.ref s1])), (s1, .inr (2, [.ref s2, .int (nI ((strp z (lst gl nl)).length))])), (s2, .inl (ca 0, 200, .inl (apF fp 0 (strp z (lst gl nl))))), (l1, .inr (2, [.ref l2, .int (nI nl)])), (l2, .inl (ca 0, 20, .inl gl))] := hD1
    have hw4 := hwv
    obtain ⟨hP, hD⟩ := va_join (wr := [(oc, .inr (5, [.ref os, .ref osl, .ref ohi, .ref obu, .ref ord, .ref osp, .ref onw, .ref otr, .ref ogd])), (os, .inr (3, [.ref t1, .ref l1, .ref g1])), (g1, .inr (2, [.ref g2, .int (nI 4)])), (g2, .inl (ca 0, 4, .inl (seF z r f j)))]) (w1 := [(osp, .inr (4, [.ref s1])), (s1, .inr (2, [.ref s2, .int (nI ((strp z (lst gl nl)).length))])), (s2, .inl (ca 0, 200, .inl (apF fp 0 (strp z (lst gl nl))))), (l1, .inr (2, [.ref l2, .int (nI nl)])), (l2, .inl (ca 0, 20, .inl gl))]) hP hD [6, 7, 8, 2, 3] [0, 1, 4, 5] rfl rfl (by decide) (by decide) hk1 hFc hP1 hD1
    generalize H1 = H at hP hS ⊢
    have hP := hP.sub (ws' := [(oc, .inr (5, [.ref os, .ref osl, .ref ohi, .ref obu, .ref ord, .ref osp, .ref onw, .ref otr, .ref ogd])), (os, .inr (3, [.ref t1, .ref l1, .ref g1])), (l1, .inr (2, [.ref l2, .int (nI nl)])), (l2, .inl (ca 0, 20, .inl gl)), (g1, .inr (2, [.ref g2, .int (nI 4)])), (g2, .inl (ca 0, 4, .inl (seF z r f j))), (osp, .inr (4, [.ref s1])), (s1, .inr (2, [.ref s2, .int (nI ((strp z (lst gl nl)).length))])), (s2, .inl (ca 0, 200, .inl (apF fp 0 (strp z (lst gl nl)))))]) [0, 1, 7, 8, 2, 3, 4, 5, 6] rfl
    have hD := hD.sub (ws' := [(oc, .inr (5, [.ref os, .ref osl, .ref ohi, .ref obu, .ref ord, .ref osp, .ref onw, .ref otr, .ref ogd])), (os, .inr (3, [.ref t1, .ref l1, .ref g1])), (l1, .inr (2, [.ref l2, .int (nI nl)])), (l2, .inl (ca 0, 20, .inl gl)), (g1, .inr (2, [.ref g2, .int (nI 4)])), (g2, .inl (ca 0, 4, .inl (seF z r f j))), (osp, .inr (4, [.ref s1])), (s1, .inr (2, [.ref s2, .int (nI ((strp z (lst gl nl)).length))])), (s2, .inl (ca 0, 200, .inl (apF fp 0 (strp z (lst gl nl)))))]) [0, 1, 7, 8, 2, 3, 4, 5, 6] (by decide) rfl
    refine lv_aload_n hx hb dX5_swipe_42 rfl (lv_at hl 0 rfl) ?_
    refine va_get (D := D) (ci := 5) (C := RX5) (T := TX5) (N := 9) hx hb hts hiX5 hown hKv hP 0 rfl rfl 5 (by decide) lk46 (fun _ h9 => h9) rfl dX5_swipe_43 ?_
    refine vp_callSi (va_Run.run (va_runV (As := []) (rest := []) ⟨hx, hb, hml, hown, hts⟩ (kX4_timesNeeded l D ca osp s1 s2 200 (apF fp 0 (strp z (lst gl nl))) ((strp z (lst gl nl)).length) (by omega) (by omega) (by (rw [apF_lst]; exact is01_strp z (lst gl nl)))) (cwV 0 hts gX5_swipe_X4_timesNeeded rfl rfl rfl (by decide +kernel) ⟨kk_le rfl, kk_le rfl⟩) (pvR hK (hP.sub (ws' := [(osp, .inr (4, [.ref s1])), (s1, .inr (2, [.ref s2, .int (nI ((strp z (lst gl nl)).length))])), (s2, .inl (ca 0, 200, .inl (apF fp 0 (strp z (lst gl nl)))))]) [6, 7, 8] rfl) (va_recv hKv hP (ci := 4) (q0 := 6) rfl rfl)) rfl rfl hl.1 rfl (lv_room (kk_le rfl)) dX5_swipe_46 ⟨kk_le rfl, kk_le rfl⟩)) (fun r6 hr6 => ?_)
    subst hr6
    have e7 : (nI (((strp z (lst gl nl)).length) + onesN (lst (apF fp 0 (strp z (lst gl nl))) ((strp z (lst gl nl)).length))) : Int32) = nI ((strp z (lst gl nl)).length + onesN (strp z (lst gl nl))) := by rw [apF_lst]
    rw [e7]
    refine lv_sipush (v := nI 200) hx hb dX5_swipe_49 (by decide) ?_
    refine ni_icmp_le (tgt := 65) (by omega) (by omega) hx hb dX5_swipe_52 (by decide) (fun c8 => ?_) (fun c8 => ?_)
    · exact absurd c8 (by omega)
    · obtain ⟨sa9, hst9⟩ := hK.2.s99
      exact vx_throwS (names := ["java/lang/RuntimeException", "java/lang/Exception"]) (A := A) hx hb hnst hown (by decide +kernel) (by decide +kernel) (hts (.classLink RX5 97 "java/lang/IllegalStateException") (by decide +kernel)) (hts (.initialized "java/lang/IllegalStateException") (by decide +kernel)) hst9 (taX97 (fun w h => hts w (by first | exact List.mem_cons_of_mem _ (List.mem_append_right _ h) | exact List.mem_cons_of_mem _ (List.mem_append_left _ (List.mem_append_right _ h)) | exact List.mem_cons_of_mem _ (List.mem_append_left _ (List.mem_append_left _ (List.mem_append_right _ h))) | exact List.mem_cons_of_mem _ (List.mem_append_left _ (List.mem_append_left _ (List.mem_append_left _ (List.mem_append_right _ h)))))) (va_Nw.use rfl hK.2.cIllegalStateException)) tgX97 hZ.2.2.2.1 hZ.2.2.2.2 hS (hl.1.trans hml.symm) dX5_swipe_55 dX5_swipe_58 dX5_swipe_59 dX5_swipe_61 dX5_swipe_64 (fun x h => (hnt9 x h).elim) (by decide) (by decide) (by decide) (by decide) hlocks (fun t _ h1 h2 => ⟨(), trivial, ⟨rfl, my_P_kept hP h2, hD⟩, my_F_kept hS h1 h2⟩) hS.2.2 (by decide) (by decide)
  · exact absurd c2 (by omega)
abbrev rm_kX5_join_bad : Room := { frames := 6, cells := 1, slots := 6, locals := 90 }
set_option maxHeartbeats 4000000 in
set_option maxRecDepth 100000 in
theorem kX5_join_bad (l : Launch) (hnst : l.stackTraces = false) (D : va_G) (ca : Nat → ClassId) (sz : Nat) (oc os osl ohi obu ord osp onw otr ogd : Nat) (t1 l1 g1 : Nat) (t2 : Nat) (nt : Nat) (gt : Nat → Int32) (x : Int32) (hnt : nt ≤ 200) (hbad : hasF (nt - 1) x = false) : vx_Met l yX5_join wsX5_join rm_kX5_join_bad (pcZ D ca [.ref oc, .int x] [(oc, .inr (5, [.ref os, .ref osl, .ref ohi, .ref obu, .ref ord, .ref osp, .ref onw, .ref otr, .ref ogd])), (os, .inr (3, [.ref t1, .ref l1, .ref g1])), (t1, .inr (2, [.ref t2, .int (nI nt)])), (t2, .inl (ca 0, 200, .inl gt))] sz) (va_Qi (fun (zr : Int32) (u : Unit) => False) (fun _ _ => True) (va_A [(oc, .inr (5, [.ref os, .ref osl, .ref ohi, .ref obu, .ref ord, .ref osp, .ref onw, .ref otr, .ref ogd])), (os, .inr (3, [.ref t1, .ref l1, .ref g1])), (t1, .inr (2, [.ref t2, .int (nI nt)])), (t2, .inl (ca 0, 200, .inl gt))] sz)) (vx_X (fun _ : Unit => True) (fun E _ t => E = "java/lang/IndexOutOfBoundsException" ∧ va_P D vwCl [(oc, .inr (5, [.ref os, .ref osl, .ref ohi, .ref obu, .ref ord, .ref osp, .ref onw, .ref otr, .ref ogd])), (os, .inr (3, [.ref t1, .ref l1, .ref g1])), (t1, .inr (2, [.ref t2, .int (nI nt)])), (t2, .inl (ca 0, 200, .inl gt))] t.heap ∧ va_D (va_A [(oc, .inr (5, [.ref os, .ref osl, .ref ohi, .ref obu, .ref ord, .ref osp, .ref onw, .ref otr, .ref ogd])), (os, .inr (3, [.ref t1, .ref l1, .ref g1])), (t1, .inr (2, [.ref t2, .int (nI nt)])), (t2, .inl (ca 0, 200, .inl gt))] sz) [(oc, .inr (5, [.ref os, .ref osl, .ref ohi, .ref obu, .ref ord, .ref osp, .ref onw, .ref otr, .ref ogd])), (os, .inr (3, [.ref t1, .ref l1, .ref g1])), (t1, .inr (2, [.ref t2, .int (nI nt)])), (t2, .inl (ca 0, 200, .inl gt))]) (va_A [(oc, .inr (5, [.ref os, .ref osl, .ref ohi, .ref obu, .ref ord, .ref osp, .ref onw, .ref otr, .ref ogd])), (os, .inr (3, [.ref t1, .ref l1, .ref g1])), (t1, .inr (2, [.ref t2, .int (nI nt)])), (t2, .inl (ca 0, 200, .inl gt))] sz)) 1 6 (va_A [(oc, .inr (5, [.ref os, .ref osl, .ref ohi, .ref obu, .ref ord, .ref osp, .ref onw, .ref otr, .ref ogd])), (os, .inr (3, [.ref t1, .ref l1, .ref g1])), (t1, .inr (2, [.ref t2, .int (nI nt)])), (t2, .inl (ca 0, 200, .inl gt))] sz) := by
  refine vx_ofW (cc := cX5_join) (maxL := 3) (ret := (some .int)) (by decide) rfl ?_
  intro p e s m args below meth c s₁ B hml hnt9 hv
  obtain ⟨rfl, hsz, hP, hK, hD0, hZ⟩ := hv
  have hx := B.exec
  have hb := B.bytes
  have hr := B.returns
  have hts := atoms_spec (ws := wsX5_join) B.pre
  have hown : s.vm.findClass RX5 = some m.cls := findClass_of_methodNamed B.named
  have hlocks := B.notSynchronized
  subst hsz
  have hD := hD0.self (sz := s.heap.size)
  generalize hAe : va_A [(oc, .inr (5, [.ref os, .ref osl, .ref ohi, .ref obu, .ref ord, .ref osp, .ref onw, .ref otr, .ref ogd])), (os, .inr (3, [.ref t1, .ref l1, .ref g1])), (t1, .inr (2, [.ref t2, .int (nI nt)])), (t2, .inl (ca 0, 200, .inl gt))] s.heap.size = A at hD hZ ⊢
  have hA : ∀ q : Nat, s.heap.size ≤ q → A q := fun q h => by rw [← hAe]; exact Or.inr h
  have hS : va_S A s.heap s.heap [] := va_S.rf
  have hP : va_P D vwCl [(oc, .inr (5, [.ref os, .ref osl, .ref ohi, .ref obu, .ref ord, .ref osp, .ref onw, .ref otr, .ref ogd])), (os, .inr (3, [.ref t1, .ref l1, .ref g1])), (t1, .inr (2, [.ref t2, .int (nI nt)])), (t2, .inl (ca 0, 200, .inl gt))] s.heap := hP
  have hKv := hK.1
  have hl := lv_entry ([.ref oc, .int x]) (n := 3) (kk_le rfl)
  rw [lg_entry_eq]
  generalize (lg_sl ([.ref oc, .int x]) ++ List.replicate (3 - (lg_sl ([.ref oc, .int x])).length) Slot.unset).toArray = ls at hl ⊢
  have hl : lv_has ls 3 [(0, .ref oc), (1, .int x)] := hl
  have hiX5 : ∀ w ∈ u_ws RX5 TX5 9, w ∈ wsX5_join := fun w h => by first | exact List.mem_cons_of_mem _ (List.mem_append_right _ h) | exact List.mem_cons_of_mem _ (List.mem_append_left _ (List.mem_append_right _ h)) | exact List.mem_cons_of_mem _ (List.mem_append_left _ (List.mem_append_left _ (List.mem_append_right _ h))) | exact List.mem_cons_of_mem _ (List.mem_append_left _ (List.mem_append_left _ (List.mem_append_left _ (List.mem_append_right _ h)))) | (revert w h; decide +kernel)
  have lk10 : (Cond.fieldLink RX5 10 "StripeSwipes" "state" "LStripeSwipes$State;").before _ s = true := hts _ (by decide +kernel)
  have hiX3 : ∀ w ∈ u_ws RX3 TX3 3, w ∈ wsX5_join := fun w h => by first | exact List.mem_cons_of_mem _ (List.mem_append_right _ h) | exact List.mem_cons_of_mem _ (List.mem_append_left _ (List.mem_append_right _ h)) | exact List.mem_cons_of_mem _ (List.mem_append_left _ (List.mem_append_left _ (List.mem_append_right _ h))) | exact List.mem_cons_of_mem _ (List.mem_append_left _ (List.mem_append_left _ (List.mem_append_left _ (List.mem_append_right _ h)))) | (revert w h; decide +kernel)
  have lk113 : (Cond.fieldLinkNest "StripeSwipes" 113 "StripeSwipes$State" "times" "LStripeSwipes$Row;" "StripeSwipes").before ([.ref oc, .int x] : List Value).toArray s = true := va_Nw.use rfl hK.2.f113
  refine lv_iload_n hx hb dX5_join_0 rfl (lv_at hl 1 rfl) ?_
  refine lv_if_lt (tgt := 20) hx hb dX5_join_1 (by decide) (fun c1 => ?_) (fun c1 => ?_)
  · obtain ⟨sa9, hst9⟩ := hK.2.s126
    exact vx_throwS (names := ["java/lang/RuntimeException", "java/lang/Exception"]) (A := A) hx hb hnst hown (by decide +kernel) (by decide +kernel) (hts (.classLink RX5 124 "java/lang/IndexOutOfBoundsException") (by decide +kernel)) (hts (.initialized "java/lang/IndexOutOfBoundsException") (by decide +kernel)) hst9 (taX124 (fun w h => hts w (by first | exact List.mem_cons_of_mem _ (List.mem_append_right _ h) | exact List.mem_cons_of_mem _ (List.mem_append_left _ (List.mem_append_right _ h)) | exact List.mem_cons_of_mem _ (List.mem_append_left _ (List.mem_append_left _ (List.mem_append_right _ h))) | exact List.mem_cons_of_mem _ (List.mem_append_left _ (List.mem_append_left _ (List.mem_append_left _ (List.mem_append_right _ h)))))) (va_Nw.use rfl hK.2.cIndexOutOfBoundsException)) tgX124 hZ.2.2.2.1 hZ.2.2.2.2 hS (hl.1.trans hml.symm) dX5_join_20 dX5_join_23 dX5_join_24 dX5_join_26 dX5_join_29 (fun x h => (hnt9 x h).elim) (by decide) (by decide) (by decide) (by decide) hlocks (fun t _ h1 h2 => ⟨(), trivial, ⟨rfl, my_P_kept hP h2, hD⟩, my_F_kept hS h1 h2⟩) hS.2.2 (by decide) (by decide)
  · have hx0 : (0 : Int32) ≤ x := by first | exact c1 | exact Int32.not_lt.mp c1
    refine lv_iload_n hx hb dX5_join_4 rfl (lv_at hl 1 rfl) ?_
    refine lv_aload_n hx hb dX5_join_5 rfl (lv_at hl 0 rfl) ?_
    refine va_get (D := D) (ci := 5) (C := RX5) (T := TX5) (N := 9) hx hb hts hiX5 hown hKv hP 0 rfl rfl 0 (by decide) lk10 (fun _ h9 => h9) rfl dX5_join_6 ?_
    refine va_getN (D := D) (ci := 3) (C := RX3) (T := TX3) (N := 3) hx hb hts hiX3 hown hKv hP 1 rfl rfl 0 (by decide) lk113 (fun _ h9 => h9) rfl dX5_join_9 ?_
    refine vp_callSi (va_Run.run (va_runV (As := []) (rest := [.int x]) ⟨hx, hb, hml, hown, hts⟩ (kX2_size l D ca t1 t2 200 gt nt (by first | rfl | assumption | omega | trivial | (exfalso; omega)) (by first | rfl | assumption | omega | trivial | (exfalso; omega))) (cwV 0 hts gX5_join_X2_size rfl rfl rfl (by decide +kernel) ⟨kk_le rfl, kk_le rfl⟩) (pvR hK (hP.sub (ws' := [(t1, .inr (2, [.ref t2, .int (nI nt)])), (t2, .inl (ca 0, 200, .inl gt))]) [2, 3] rfl) (va_recv hKv hP (ci := 2) (q0 := 2) rfl rfl)) rfl rfl hl.1 rfl (lv_room (kk_le rfl)) dX5_join_12 ⟨kk_le rfl, kk_le rfl⟩)) (fun r2 hr2 => ?_)
    subst hr2
    refine lv_iconst (v := nI 1) hx hb dX5_join_15 (by decide) ?_
    refine lv_isub hx hb dX5_join_16 ?_
    refine lv_icmp_lt (tgt := 30) hx hb dX5_join_17 (by decide) (fun c3 => ?_) (fun c3 => ?_)
    · exact (hF_jn hbad hnt hx0 (by first | exact c3 | exact Int32.not_le.mp c3)).elim
    · obtain ⟨sa9, hst9⟩ := hK.2.s126
      exact vx_throwS (names := ["java/lang/RuntimeException", "java/lang/Exception"]) (A := A) hx hb hnst hown (by decide +kernel) (by decide +kernel) (hts (.classLink RX5 124 "java/lang/IndexOutOfBoundsException") (by decide +kernel)) (hts (.initialized "java/lang/IndexOutOfBoundsException") (by decide +kernel)) hst9 (taX124 (fun w h => hts w (by first | exact List.mem_cons_of_mem _ (List.mem_append_right _ h) | exact List.mem_cons_of_mem _ (List.mem_append_left _ (List.mem_append_right _ h)) | exact List.mem_cons_of_mem _ (List.mem_append_left _ (List.mem_append_left _ (List.mem_append_right _ h))) | exact List.mem_cons_of_mem _ (List.mem_append_left _ (List.mem_append_left _ (List.mem_append_left _ (List.mem_append_right _ h)))))) (va_Nw.use rfl hK.2.cIndexOutOfBoundsException)) tgX124 hZ.2.2.2.1 hZ.2.2.2.2 hS (hl.1.trans hml.symm) dX5_join_20 dX5_join_23 dX5_join_24 dX5_join_26 dX5_join_29 (fun x h => (hnt9 x h).elim) (by decide) (by decide) (by decide) (by decide) hlocks (fun t _ h1 h2 => ⟨(), trivial, ⟨rfl, my_P_kept hP h2, hD⟩, my_F_kept hS h1 h2⟩) hS.2.2 (by decide) (by decide)
abbrev rm_kX5_scratch_bad : Room := { frames := 6, cells := 1, slots := 6, locals := 90 }
set_option maxHeartbeats 4000000 in
set_option maxRecDepth 100000 in
theorem kX5_scratch_bad (l : Launch) (hnst : l.stackTraces = false) (D : va_G) (ca : Nat → ClassId) (sz : Nat) (oc os osl ohi obu ord osp onw otr ogd : Nat) (t1 l1 g1 : Nat) (t2 : Nat) (nt : Nat) (gt : Nat → Int32) (x : Int32) (v : Int32) (hnt : nt ≤ 200) (hbad : hasF nt x = false) : vx_Met l yX5_scratch wsX5_scratch rm_kX5_scratch_bad (pcZ D ca [.ref oc, .int x, .int v] [(oc, .inr (5, [.ref os, .ref osl, .ref ohi, .ref obu, .ref ord, .ref osp, .ref onw, .ref otr, .ref ogd])), (os, .inr (3, [.ref t1, .ref l1, .ref g1])), (t1, .inr (2, [.ref t2, .int (nI nt)])), (t2, .inl (ca 0, 200, .inl gt))] sz) (va_Qi (fun (zr : Int32) (u : Unit) => False) (fun _ _ => True) (va_A [(oc, .inr (5, [.ref os, .ref osl, .ref ohi, .ref obu, .ref ord, .ref osp, .ref onw, .ref otr, .ref ogd])), (os, .inr (3, [.ref t1, .ref l1, .ref g1])), (t1, .inr (2, [.ref t2, .int (nI nt)])), (t2, .inl (ca 0, 200, .inl gt))] sz)) (vx_X (fun _ : Unit => True) (fun E _ t => E = "java/lang/IndexOutOfBoundsException" ∧ va_P D vwCl [(oc, .inr (5, [.ref os, .ref osl, .ref ohi, .ref obu, .ref ord, .ref osp, .ref onw, .ref otr, .ref ogd])), (os, .inr (3, [.ref t1, .ref l1, .ref g1])), (t1, .inr (2, [.ref t2, .int (nI nt)])), (t2, .inl (ca 0, 200, .inl gt))] t.heap ∧ va_D (va_A [(oc, .inr (5, [.ref os, .ref osl, .ref ohi, .ref obu, .ref ord, .ref osp, .ref onw, .ref otr, .ref ogd])), (os, .inr (3, [.ref t1, .ref l1, .ref g1])), (t1, .inr (2, [.ref t2, .int (nI nt)])), (t2, .inl (ca 0, 200, .inl gt))] sz) [(oc, .inr (5, [.ref os, .ref osl, .ref ohi, .ref obu, .ref ord, .ref osp, .ref onw, .ref otr, .ref ogd])), (os, .inr (3, [.ref t1, .ref l1, .ref g1])), (t1, .inr (2, [.ref t2, .int (nI nt)])), (t2, .inl (ca 0, 200, .inl gt))]) (va_A [(oc, .inr (5, [.ref os, .ref osl, .ref ohi, .ref obu, .ref ord, .ref osp, .ref onw, .ref otr, .ref ogd])), (os, .inr (3, [.ref t1, .ref l1, .ref g1])), (t1, .inr (2, [.ref t2, .int (nI nt)])), (t2, .inl (ca 0, 200, .inl gt))] sz)) 1 6 (va_A [(oc, .inr (5, [.ref os, .ref osl, .ref ohi, .ref obu, .ref ord, .ref osp, .ref onw, .ref otr, .ref ogd])), (os, .inr (3, [.ref t1, .ref l1, .ref g1])), (t1, .inr (2, [.ref t2, .int (nI nt)])), (t2, .inl (ca 0, 200, .inl gt))] sz) := by
  refine vx_ofW (cc := cX5_scratch) (maxL := 4) (ret := (some .int)) (by decide) rfl ?_
  intro p e s m args below meth c s₁ B hml hnt9 hv
  obtain ⟨rfl, hsz, hP, hK, hD0, hZ⟩ := hv
  have hx := B.exec
  have hb := B.bytes
  have hr := B.returns
  have hts := atoms_spec (ws := wsX5_scratch) B.pre
  have hown : s.vm.findClass RX5 = some m.cls := findClass_of_methodNamed B.named
  have hlocks := B.notSynchronized
  subst hsz
  have hD := hD0.self (sz := s.heap.size)
  generalize hAe : va_A [(oc, .inr (5, [.ref os, .ref osl, .ref ohi, .ref obu, .ref ord, .ref osp, .ref onw, .ref otr, .ref ogd])), (os, .inr (3, [.ref t1, .ref l1, .ref g1])), (t1, .inr (2, [.ref t2, .int (nI nt)])), (t2, .inl (ca 0, 200, .inl gt))] s.heap.size = A at hD hZ ⊢
  have hA : ∀ q : Nat, s.heap.size ≤ q → A q := fun q h => by rw [← hAe]; exact Or.inr h
  have hS : va_S A s.heap s.heap [] := va_S.rf
  have hP : va_P D vwCl [(oc, .inr (5, [.ref os, .ref osl, .ref ohi, .ref obu, .ref ord, .ref osp, .ref onw, .ref otr, .ref ogd])), (os, .inr (3, [.ref t1, .ref l1, .ref g1])), (t1, .inr (2, [.ref t2, .int (nI nt)])), (t2, .inl (ca 0, 200, .inl gt))] s.heap := hP
  have hKv := hK.1
  have hl := lv_entry ([.ref oc, .int x, .int v]) (n := 4) (kk_le rfl)
  rw [lg_entry_eq]
  generalize (lg_sl ([.ref oc, .int x, .int v]) ++ List.replicate (4 - (lg_sl ([.ref oc, .int x, .int v])).length) Slot.unset).toArray = ls at hl ⊢
  have hl : lv_has ls 4 [(0, .ref oc), (1, .int x), (2, .int v)] := hl
  have hiX5 : ∀ w ∈ u_ws RX5 TX5 9, w ∈ wsX5_scratch := fun w h => by first | exact List.mem_cons_of_mem _ (List.mem_append_right _ h) | exact List.mem_cons_of_mem _ (List.mem_append_left _ (List.mem_append_right _ h)) | exact List.mem_cons_of_mem _ (List.mem_append_left _ (List.mem_append_left _ (List.mem_append_right _ h))) | exact List.mem_cons_of_mem _ (List.mem_append_left _ (List.mem_append_left _ (List.mem_append_left _ (List.mem_append_right _ h)))) | (revert w h; decide +kernel)
  have lk10 : (Cond.fieldLink RX5 10 "StripeSwipes" "state" "LStripeSwipes$State;").before _ s = true := hts _ (by decide +kernel)
  have hiX3 : ∀ w ∈ u_ws RX3 TX3 3, w ∈ wsX5_scratch := fun w h => by first | exact List.mem_cons_of_mem _ (List.mem_append_right _ h) | exact List.mem_cons_of_mem _ (List.mem_append_left _ (List.mem_append_right _ h)) | exact List.mem_cons_of_mem _ (List.mem_append_left _ (List.mem_append_left _ (List.mem_append_right _ h))) | exact List.mem_cons_of_mem _ (List.mem_append_left _ (List.mem_append_left _ (List.mem_append_left _ (List.mem_append_right _ h)))) | (revert w h; decide +kernel)
  have lk113 : (Cond.fieldLinkNest "StripeSwipes" 113 "StripeSwipes$State" "times" "LStripeSwipes$Row;" "StripeSwipes").before ([.ref oc, .int x, .int v] : List Value).toArray s = true := va_Nw.use rfl hK.2.f113
  refine lv_aload_n hx hb dX5_scratch_0 rfl (lv_at hl 0 rfl) ?_
  refine va_get (D := D) (ci := 5) (C := RX5) (T := TX5) (N := 9) hx hb hts hiX5 hown hKv hP 0 rfl rfl 0 (by decide) lk10 (fun _ h9 => h9) rfl dX5_scratch_1 ?_
  refine va_getN (D := D) (ci := 3) (C := RX3) (T := TX3) (N := 3) hx hb hts hiX3 hown hKv hP 1 rfl rfl 0 (by decide) lk113 (fun _ h9 => h9) rfl dX5_scratch_4 ?_
  refine lv_iload_n hx hb dX5_scratch_7 rfl (lv_at hl 1 rfl) ?_
  refine vp_callSi (va_Run.run (va_runV (As := [.int x]) (rest := []) ⟨hx, hb, hml, hown, hts⟩ (kX2_has l D ca t1 t2 200 gt nt x (by first | rfl | assumption | omega | trivial | (exfalso; omega)) (by first | rfl | assumption | omega | trivial | (exfalso; omega))) (cwV 1 hts gX5_scratch_X2_has rfl rfl rfl (by decide +kernel) ⟨kk_le rfl, kk_le rfl⟩) (pvR hK (hP.sub (ws' := [(t1, .inr (2, [.ref t2, .int (nI nt)])), (t2, .inl (ca 0, 200, .inl gt))]) [2, 3] rfl) (va_recv hKv hP (ci := 2) (q0 := 2) rfl rfl)) rfl rfl hl.1 rfl (lv_room (kk_le rfl)) dX5_scratch_8 ⟨kk_le rfl, kk_le rfl⟩)) (fun r1 hr1 => ?_)
  subst hr1
  have e2 : (bI (hasF nt x) : Int32) = bI false := congrArg bI hbad
  rw [e2]
  refine bi_if_ne (tgt := 24) hx hb dX5_scratch_11 (by decide) (fun c3 => ?_) (fun c3 => ?_)
  · first | exact False.elim c3 | exact absurd c3 (by decide) | (exfalso; omega)
  · obtain ⟨sa9, hst9⟩ := hK.2.s139
    exact vx_throwS (names := ["java/lang/RuntimeException", "java/lang/Exception"]) (A := A) hx hb hnst hown (by decide +kernel) (by decide +kernel) (hts (.classLink RX5 124 "java/lang/IndexOutOfBoundsException") (by decide +kernel)) (hts (.initialized "java/lang/IndexOutOfBoundsException") (by decide +kernel)) hst9 (taX124 (fun w h => hts w (by first | exact List.mem_cons_of_mem _ (List.mem_append_right _ h) | exact List.mem_cons_of_mem _ (List.mem_append_left _ (List.mem_append_right _ h)) | exact List.mem_cons_of_mem _ (List.mem_append_left _ (List.mem_append_left _ (List.mem_append_right _ h))) | exact List.mem_cons_of_mem _ (List.mem_append_left _ (List.mem_append_left _ (List.mem_append_left _ (List.mem_append_right _ h)))))) (va_Nw.use rfl hK.2.cIndexOutOfBoundsException)) tgX124 hZ.2.2.2.1 hZ.2.2.2.2 hS (hl.1.trans hml.symm) dX5_scratch_14 dX5_scratch_17 dX5_scratch_18 dX5_scratch_20 dX5_scratch_23 (fun x h => (hnt9 x h).elim) (by decide) (by decide) (by decide) (by decide) hlocks (fun t _ h1 h2 => ⟨(), trivial, ⟨rfl, my_P_kept hP h2, hD⟩, my_F_kept hS h1 h2⟩) hS.2.2 (by decide) (by decide)
abbrev rm_kX5_change_bad : Room := { frames := 6, cells := 1, slots := 6, locals := 90 }
set_option maxHeartbeats 4000000 in
set_option maxRecDepth 100000 in
theorem kX5_change_bad (l : Launch) (hnst : l.stackTraces = false) (D : va_G) (ca : Nat → ClassId) (sz : Nat) (oc os osl ohi obu ord osp onw otr ogd : Nat) (t1 l1 g1 : Nat) (t2 : Nat) (nt : Nat) (gt : Nat → Int32) (x : Int32) (v : Int32) (hnt : nt ≤ 200) (hbad : hasF nt x = false) : vx_Met l yX5_change wsX5_change rm_kX5_change_bad (pcZ D ca [.ref oc, .int x, .int v] [(oc, .inr (5, [.ref os, .ref osl, .ref ohi, .ref obu, .ref ord, .ref osp, .ref onw, .ref otr, .ref ogd])), (os, .inr (3, [.ref t1, .ref l1, .ref g1])), (t1, .inr (2, [.ref t2, .int (nI nt)])), (t2, .inl (ca 0, 200, .inl gt))] sz) (va_Qi (fun (zr : Int32) (u : Unit) => False) (fun _ _ => True) (va_A [(oc, .inr (5, [.ref os, .ref osl, .ref ohi, .ref obu, .ref ord, .ref osp, .ref onw, .ref otr, .ref ogd])), (os, .inr (3, [.ref t1, .ref l1, .ref g1])), (t1, .inr (2, [.ref t2, .int (nI nt)])), (t2, .inl (ca 0, 200, .inl gt))] sz)) (vx_X (fun _ : Unit => True) (fun E _ t => E = "java/lang/IndexOutOfBoundsException" ∧ va_P D vwCl [(oc, .inr (5, [.ref os, .ref osl, .ref ohi, .ref obu, .ref ord, .ref osp, .ref onw, .ref otr, .ref ogd])), (os, .inr (3, [.ref t1, .ref l1, .ref g1])), (t1, .inr (2, [.ref t2, .int (nI nt)])), (t2, .inl (ca 0, 200, .inl gt))] t.heap ∧ va_D (va_A [(oc, .inr (5, [.ref os, .ref osl, .ref ohi, .ref obu, .ref ord, .ref osp, .ref onw, .ref otr, .ref ogd])), (os, .inr (3, [.ref t1, .ref l1, .ref g1])), (t1, .inr (2, [.ref t2, .int (nI nt)])), (t2, .inl (ca 0, 200, .inl gt))] sz) [(oc, .inr (5, [.ref os, .ref osl, .ref ohi, .ref obu, .ref ord, .ref osp, .ref onw, .ref otr, .ref ogd])), (os, .inr (3, [.ref t1, .ref l1, .ref g1])), (t1, .inr (2, [.ref t2, .int (nI nt)])), (t2, .inl (ca 0, 200, .inl gt))]) (va_A [(oc, .inr (5, [.ref os, .ref osl, .ref ohi, .ref obu, .ref ord, .ref osp, .ref onw, .ref otr, .ref ogd])), (os, .inr (3, [.ref t1, .ref l1, .ref g1])), (t1, .inr (2, [.ref t2, .int (nI nt)])), (t2, .inl (ca 0, 200, .inl gt))] sz)) 1 6 (va_A [(oc, .inr (5, [.ref os, .ref osl, .ref ohi, .ref obu, .ref ord, .ref osp, .ref onw, .ref otr, .ref ogd])), (os, .inr (3, [.ref t1, .ref l1, .ref g1])), (t1, .inr (2, [.ref t2, .int (nI nt)])), (t2, .inl (ca 0, 200, .inl gt))] sz) := by
  refine vx_ofW (cc := cX5_change) (maxL := 4) (ret := (some .int)) (by decide) rfl ?_
  intro p e s m args below meth c s₁ B hml hnt9 hv
  obtain ⟨rfl, hsz, hP, hK, hD0, hZ⟩ := hv
  have hx := B.exec
  have hb := B.bytes
  have hr := B.returns
  have hts := atoms_spec (ws := wsX5_change) B.pre
  have hown : s.vm.findClass RX5 = some m.cls := findClass_of_methodNamed B.named
  have hlocks := B.notSynchronized
  subst hsz
  have hD := hD0.self (sz := s.heap.size)
  generalize hAe : va_A [(oc, .inr (5, [.ref os, .ref osl, .ref ohi, .ref obu, .ref ord, .ref osp, .ref onw, .ref otr, .ref ogd])), (os, .inr (3, [.ref t1, .ref l1, .ref g1])), (t1, .inr (2, [.ref t2, .int (nI nt)])), (t2, .inl (ca 0, 200, .inl gt))] s.heap.size = A at hD hZ ⊢
  have hA : ∀ q : Nat, s.heap.size ≤ q → A q := fun q h => by rw [← hAe]; exact Or.inr h
  have hS : va_S A s.heap s.heap [] := va_S.rf
  have hP : va_P D vwCl [(oc, .inr (5, [.ref os, .ref osl, .ref ohi, .ref obu, .ref ord, .ref osp, .ref onw, .ref otr, .ref ogd])), (os, .inr (3, [.ref t1, .ref l1, .ref g1])), (t1, .inr (2, [.ref t2, .int (nI nt)])), (t2, .inl (ca 0, 200, .inl gt))] s.heap := hP
  have hKv := hK.1
  have hl := lv_entry ([.ref oc, .int x, .int v]) (n := 4) (kk_le rfl)
  rw [lg_entry_eq]
  generalize (lg_sl ([.ref oc, .int x, .int v]) ++ List.replicate (4 - (lg_sl ([.ref oc, .int x, .int v])).length) Slot.unset).toArray = ls at hl ⊢
  have hl : lv_has ls 4 [(0, .ref oc), (1, .int x), (2, .int v)] := hl
  have hiX5 : ∀ w ∈ u_ws RX5 TX5 9, w ∈ wsX5_change := fun w h => by first | exact List.mem_cons_of_mem _ (List.mem_append_right _ h) | exact List.mem_cons_of_mem _ (List.mem_append_left _ (List.mem_append_right _ h)) | exact List.mem_cons_of_mem _ (List.mem_append_left _ (List.mem_append_left _ (List.mem_append_right _ h))) | exact List.mem_cons_of_mem _ (List.mem_append_left _ (List.mem_append_left _ (List.mem_append_left _ (List.mem_append_right _ h)))) | (revert w h; decide +kernel)
  have lk10 : (Cond.fieldLink RX5 10 "StripeSwipes" "state" "LStripeSwipes$State;").before _ s = true := hts _ (by decide +kernel)
  have hiX3 : ∀ w ∈ u_ws RX3 TX3 3, w ∈ wsX5_change := fun w h => by first | exact List.mem_cons_of_mem _ (List.mem_append_right _ h) | exact List.mem_cons_of_mem _ (List.mem_append_left _ (List.mem_append_right _ h)) | exact List.mem_cons_of_mem _ (List.mem_append_left _ (List.mem_append_left _ (List.mem_append_right _ h))) | exact List.mem_cons_of_mem _ (List.mem_append_left _ (List.mem_append_left _ (List.mem_append_left _ (List.mem_append_right _ h)))) | (revert w h; decide +kernel)
  have lk113 : (Cond.fieldLinkNest "StripeSwipes" 113 "StripeSwipes$State" "times" "LStripeSwipes$Row;" "StripeSwipes").before ([.ref oc, .int x, .int v] : List Value).toArray s = true := va_Nw.use rfl hK.2.f113
  refine lv_aload_n hx hb dX5_change_0 rfl (lv_at hl 0 rfl) ?_
  refine va_get (D := D) (ci := 5) (C := RX5) (T := TX5) (N := 9) hx hb hts hiX5 hown hKv hP 0 rfl rfl 0 (by decide) lk10 (fun _ h9 => h9) rfl dX5_change_1 ?_
  refine va_getN (D := D) (ci := 3) (C := RX3) (T := TX3) (N := 3) hx hb hts hiX3 hown hKv hP 1 rfl rfl 0 (by decide) lk113 (fun _ h9 => h9) rfl dX5_change_4 ?_
  refine lv_iload_n hx hb dX5_change_7 rfl (lv_at hl 1 rfl) ?_
  refine vp_callSi (va_Run.run (va_runV (As := [.int x]) (rest := []) ⟨hx, hb, hml, hown, hts⟩ (kX2_has l D ca t1 t2 200 gt nt x (by first | rfl | assumption | omega | trivial | (exfalso; omega)) (by first | rfl | assumption | omega | trivial | (exfalso; omega))) (cwV 1 hts gX5_change_X2_has rfl rfl rfl (by decide +kernel) ⟨kk_le rfl, kk_le rfl⟩) (pvR hK (hP.sub (ws' := [(t1, .inr (2, [.ref t2, .int (nI nt)])), (t2, .inl (ca 0, 200, .inl gt))]) [2, 3] rfl) (va_recv hKv hP (ci := 2) (q0 := 2) rfl rfl)) rfl rfl hl.1 rfl (lv_room (kk_le rfl)) dX5_change_8 ⟨kk_le rfl, kk_le rfl⟩)) (fun r1 hr1 => ?_)
  subst hr1
  have e2 : (bI (hasF nt x) : Int32) = bI false := congrArg bI hbad
  rw [e2]
  refine bi_if_ne (tgt := 24) hx hb dX5_change_11 (by decide) (fun c3 => ?_) (fun c3 => ?_)
  · first | exact False.elim c3 | exact absurd c3 (by decide) | (exfalso; omega)
  · obtain ⟨sa9, hst9⟩ := hK.2.s139
    exact vx_throwS (names := ["java/lang/RuntimeException", "java/lang/Exception"]) (A := A) hx hb hnst hown (by decide +kernel) (by decide +kernel) (hts (.classLink RX5 124 "java/lang/IndexOutOfBoundsException") (by decide +kernel)) (hts (.initialized "java/lang/IndexOutOfBoundsException") (by decide +kernel)) hst9 (taX124 (fun w h => hts w (by first | exact List.mem_cons_of_mem _ (List.mem_append_right _ h) | exact List.mem_cons_of_mem _ (List.mem_append_left _ (List.mem_append_right _ h)) | exact List.mem_cons_of_mem _ (List.mem_append_left _ (List.mem_append_left _ (List.mem_append_right _ h))) | exact List.mem_cons_of_mem _ (List.mem_append_left _ (List.mem_append_left _ (List.mem_append_left _ (List.mem_append_right _ h)))))) (va_Nw.use rfl hK.2.cIndexOutOfBoundsException)) tgX124 hZ.2.2.2.1 hZ.2.2.2.2 hS (hl.1.trans hml.symm) dX5_change_14 dX5_change_17 dX5_change_18 dX5_change_20 dX5_change_23 (fun x h => (hnt9 x h).elim) (by decide) (by decide) (by decide) (by decide) hlocks (fun t _ h1 h2 => ⟨(), trivial, ⟨rfl, my_P_kept hP h2, hD⟩, my_F_kept hS h1 h2⟩) hS.2.2 (by decide) (by decide)
abbrev rm_kX5_scratch_bad2 : Room := { frames := 6, cells := 1, slots := 6, locals := 90 }
set_option maxHeartbeats 4000000 in
set_option maxRecDepth 100000 in
theorem kX5_scratch_bad2 (l : Launch) (hnst : l.stackTraces = false) (D : va_G) (ca : Nat → ClassId) (sz : Nat) (oc os osl ohi obu ord osp onw otr ogd : Nat) (t1 l1 g1 : Nat) (t2 : Nat) (nt : Nat) (gt : Nat → Int32) (q : Nat) (v : Int32) (hnt : nt ≤ 200) (hq : q < nt) (hbad : v < nI 1 ∨ ¬ v < gt q) : vx_Met l yX5_scratch wsX5_scratch rm_kX5_scratch_bad2 (pcZ D ca [.ref oc, .int (nI q), .int v] [(oc, .inr (5, [.ref os, .ref osl, .ref ohi, .ref obu, .ref ord, .ref osp, .ref onw, .ref otr, .ref ogd])), (os, .inr (3, [.ref t1, .ref l1, .ref g1])), (t1, .inr (2, [.ref t2, .int (nI nt)])), (t2, .inl (ca 0, 200, .inl gt))] sz) (va_Qi (fun (zr : Int32) (u : Unit) => False) (fun _ _ => True) (va_A [(oc, .inr (5, [.ref os, .ref osl, .ref ohi, .ref obu, .ref ord, .ref osp, .ref onw, .ref otr, .ref ogd])), (os, .inr (3, [.ref t1, .ref l1, .ref g1])), (t1, .inr (2, [.ref t2, .int (nI nt)])), (t2, .inl (ca 0, 200, .inl gt))] sz)) (vx_X (fun _ : Unit => True) (fun E _ t => E = "java/lang/IllegalArgumentException" ∧ va_P D vwCl [(oc, .inr (5, [.ref os, .ref osl, .ref ohi, .ref obu, .ref ord, .ref osp, .ref onw, .ref otr, .ref ogd])), (os, .inr (3, [.ref t1, .ref l1, .ref g1])), (t1, .inr (2, [.ref t2, .int (nI nt)])), (t2, .inl (ca 0, 200, .inl gt))] t.heap ∧ va_D (va_A [(oc, .inr (5, [.ref os, .ref osl, .ref ohi, .ref obu, .ref ord, .ref osp, .ref onw, .ref otr, .ref ogd])), (os, .inr (3, [.ref t1, .ref l1, .ref g1])), (t1, .inr (2, [.ref t2, .int (nI nt)])), (t2, .inl (ca 0, 200, .inl gt))] sz) [(oc, .inr (5, [.ref os, .ref osl, .ref ohi, .ref obu, .ref ord, .ref osp, .ref onw, .ref otr, .ref ogd])), (os, .inr (3, [.ref t1, .ref l1, .ref g1])), (t1, .inr (2, [.ref t2, .int (nI nt)])), (t2, .inl (ca 0, 200, .inl gt))]) (va_A [(oc, .inr (5, [.ref os, .ref osl, .ref ohi, .ref obu, .ref ord, .ref osp, .ref onw, .ref otr, .ref ogd])), (os, .inr (3, [.ref t1, .ref l1, .ref g1])), (t1, .inr (2, [.ref t2, .int (nI nt)])), (t2, .inl (ca 0, 200, .inl gt))] sz)) 1 6 (va_A [(oc, .inr (5, [.ref os, .ref osl, .ref ohi, .ref obu, .ref ord, .ref osp, .ref onw, .ref otr, .ref ogd])), (os, .inr (3, [.ref t1, .ref l1, .ref g1])), (t1, .inr (2, [.ref t2, .int (nI nt)])), (t2, .inl (ca 0, 200, .inl gt))] sz) := by
  refine vx_ofW (cc := cX5_scratch) (maxL := 4) (ret := (some .int)) (by decide) rfl ?_
  intro p e s m args below meth c s₁ B hml hnt9 hv
  obtain ⟨rfl, hsz, hP, hK, hD0, hZ⟩ := hv
  have hx := B.exec
  have hb := B.bytes
  have hr := B.returns
  have hts := atoms_spec (ws := wsX5_scratch) B.pre
  have hown : s.vm.findClass RX5 = some m.cls := findClass_of_methodNamed B.named
  have hlocks := B.notSynchronized
  subst hsz
  have hD := hD0.self (sz := s.heap.size)
  generalize hAe : va_A [(oc, .inr (5, [.ref os, .ref osl, .ref ohi, .ref obu, .ref ord, .ref osp, .ref onw, .ref otr, .ref ogd])), (os, .inr (3, [.ref t1, .ref l1, .ref g1])), (t1, .inr (2, [.ref t2, .int (nI nt)])), (t2, .inl (ca 0, 200, .inl gt))] s.heap.size = A at hD hZ ⊢
  have hA : ∀ q : Nat, s.heap.size ≤ q → A q := fun q h => by rw [← hAe]; exact Or.inr h
  have hS : va_S A s.heap s.heap [] := va_S.rf
  have hP : va_P D vwCl [(oc, .inr (5, [.ref os, .ref osl, .ref ohi, .ref obu, .ref ord, .ref osp, .ref onw, .ref otr, .ref ogd])), (os, .inr (3, [.ref t1, .ref l1, .ref g1])), (t1, .inr (2, [.ref t2, .int (nI nt)])), (t2, .inl (ca 0, 200, .inl gt))] s.heap := hP
  have hKv := hK.1
  have hl := lv_entry ([.ref oc, .int (nI q), .int v]) (n := 4) (kk_le rfl)
  rw [lg_entry_eq]
  generalize (lg_sl ([.ref oc, .int (nI q), .int v]) ++ List.replicate (4 - (lg_sl ([.ref oc, .int (nI q), .int v])).length) Slot.unset).toArray = ls at hl ⊢
  have hl : lv_has ls 4 [(0, .ref oc), (1, .int (nI q)), (2, .int v)] := hl
  have hiX5 : ∀ w ∈ u_ws RX5 TX5 9, w ∈ wsX5_scratch := fun w h => by first | exact List.mem_cons_of_mem _ (List.mem_append_right _ h) | exact List.mem_cons_of_mem _ (List.mem_append_left _ (List.mem_append_right _ h)) | exact List.mem_cons_of_mem _ (List.mem_append_left _ (List.mem_append_left _ (List.mem_append_right _ h))) | exact List.mem_cons_of_mem _ (List.mem_append_left _ (List.mem_append_left _ (List.mem_append_left _ (List.mem_append_right _ h)))) | (revert w h; decide +kernel)
  have lk10 : (Cond.fieldLink RX5 10 "StripeSwipes" "state" "LStripeSwipes$State;").before _ s = true := hts _ (by decide +kernel)
  have hiX3 : ∀ w ∈ u_ws RX3 TX3 3, w ∈ wsX5_scratch := fun w h => by first | exact List.mem_cons_of_mem _ (List.mem_append_right _ h) | exact List.mem_cons_of_mem _ (List.mem_append_left _ (List.mem_append_right _ h)) | exact List.mem_cons_of_mem _ (List.mem_append_left _ (List.mem_append_left _ (List.mem_append_right _ h))) | exact List.mem_cons_of_mem _ (List.mem_append_left _ (List.mem_append_left _ (List.mem_append_left _ (List.mem_append_right _ h)))) | (revert w h; decide +kernel)
  have lk113 : (Cond.fieldLinkNest "StripeSwipes" 113 "StripeSwipes$State" "times" "LStripeSwipes$Row;" "StripeSwipes").before ([.ref oc, .int (nI q), .int v] : List Value).toArray s = true := va_Nw.use rfl hK.2.f113
  refine lv_aload_n hx hb dX5_scratch_0 rfl (lv_at hl 0 rfl) ?_
  refine va_get (D := D) (ci := 5) (C := RX5) (T := TX5) (N := 9) hx hb hts hiX5 hown hKv hP 0 rfl rfl 0 (by decide) lk10 (fun _ h9 => h9) rfl dX5_scratch_1 ?_
  refine va_getN (D := D) (ci := 3) (C := RX3) (T := TX3) (N := 3) hx hb hts hiX3 hown hKv hP 1 rfl rfl 0 (by decide) lk113 (fun _ h9 => h9) rfl dX5_scratch_4 ?_
  refine lv_iload_n hx hb dX5_scratch_7 rfl (lv_at hl 1 rfl) ?_
  refine vp_callSi (va_Run.run (va_runV (As := [.int (nI q)]) (rest := []) ⟨hx, hb, hml, hown, hts⟩ (kX2_has_n l D ca t1 t2 200 gt nt q (by first | rfl | assumption | omega | trivial | (exfalso; omega)) (by first | rfl | assumption | omega | trivial | (exfalso; omega)) (by first | rfl | assumption | omega | trivial | (exfalso; omega))) (cwV 1 hts gX5_scratch_X2_has rfl rfl rfl (by decide +kernel) ⟨kk_le rfl, kk_le rfl⟩) (pvR hK (hP.sub (ws' := [(t1, .inr (2, [.ref t2, .int (nI nt)])), (t2, .inl (ca 0, 200, .inl gt))]) [2, 3] rfl) (va_recv hKv hP (ci := 2) (q0 := 2) rfl rfl)) rfl rfl hl.1 rfl (lv_room (kk_le rfl)) dX5_scratch_8 ⟨kk_le rfl, kk_le rfl⟩)) (fun r1 hr1 => ?_)
  subst hr1
  have e2 : (bI (decide (q < nt)) : Int32) = bI true := congrArg bI (decide_eq_true hq)
  rw [e2]
  refine bi_if_ne (tgt := 24) hx hb dX5_scratch_11 (by decide) (fun c3 => ?_) (fun c3 => ?_)
  · refine lv_aload_n hx hb dX5_scratch_24 rfl (lv_at hl 0 rfl) ?_
    refine va_get (D := D) (ci := 5) (C := RX5) (T := TX5) (N := 9) hx hb hts hiX5 hown hKv hP 0 rfl rfl 0 (by decide) lk10 (fun _ h9 => h9) rfl dX5_scratch_25 ?_
    refine va_getN (D := D) (ci := 3) (C := RX3) (T := TX3) (N := 3) hx hb hts hiX3 hown hKv hP 1 rfl rfl 0 (by decide) lk113 (fun _ h9 => h9) rfl dX5_scratch_28 ?_
    refine lv_iload_n hx hb dX5_scratch_31 rfl (lv_at hl 1 rfl) ?_
    refine vp_callSi (va_Run.run (va_runV (As := [.int (nI q)]) (rest := []) ⟨hx, hb, hml, hown, hts⟩ (kX2_at_in l D ca t1 t2 200 gt nt q (by first | rfl | assumption | omega | trivial | (exfalso; omega)) (by first | rfl | assumption | omega | trivial | (exfalso; omega)) (by first | rfl | assumption | omega | trivial | (exfalso; omega))) (cwV 1 hts gX5_scratch_X2_at rfl rfl rfl (by decide +kernel) ⟨kk_le rfl, kk_le rfl⟩) (pvR hK (hP.sub (ws' := [(t1, .inr (2, [.ref t2, .int (nI nt)])), (t2, .inl (ca 0, 200, .inl gt))]) [2, 3] rfl) (va_recv hKv hP (ci := 2) (q0 := 2) rfl rfl)) rfl rfl hl.1 rfl (lv_room (kk_le rfl)) dX5_scratch_32 ⟨kk_le rfl, kk_le rfl⟩)) (fun r4 hr4 => ?_)
    subst hr4
    refine lv_istore_n (lv' := [(3, .int (gt q)), (0, .ref oc), (1, .int (nI q)), (2, .int v)]) hx hb dX5_scratch_35 rfl hl (by decide) rfl (fun ls hl => ?_)
    refine lv_iload_n hx hb dX5_scratch_36 rfl (lv_at hl 3 rfl) ?_
    refine lv_iconst (v := nI 1) hx hb dX5_scratch_37 (by decide) ?_
    refine lv_icmp_lt (tgt := 46) hx hb dX5_scratch_38 (by decide) (fun c5 => ?_) (fun c5 => ?_)
    · obtain ⟨sa9, hst9⟩ := hK.2.s141
      exact vx_throwS (names := ["java/lang/RuntimeException", "java/lang/Exception"]) (A := A) hx hb hnst hown (by decide +kernel) (by decide +kernel) (hts (.classLink RX5 66 "java/lang/IllegalArgumentException") (by decide +kernel)) (hts (.initialized "java/lang/IllegalArgumentException") (by decide +kernel)) hst9 (taX66 (fun w h => hts w (by first | exact List.mem_cons_of_mem _ (List.mem_append_right _ h) | exact List.mem_cons_of_mem _ (List.mem_append_left _ (List.mem_append_right _ h)) | exact List.mem_cons_of_mem _ (List.mem_append_left _ (List.mem_append_left _ (List.mem_append_right _ h))) | exact List.mem_cons_of_mem _ (List.mem_append_left _ (List.mem_append_left _ (List.mem_append_left _ (List.mem_append_right _ h)))))) (va_Nw.use rfl hK.2.cIllegalArgumentException)) tgX66 hZ.2.2.2.1 hZ.2.2.2.2 hS (hl.1.trans hml.symm) dX5_scratch_46 dX5_scratch_49 dX5_scratch_50 dX5_scratch_52 dX5_scratch_55 (fun x h => (hnt9 x h).elim) (by decide) (by decide) (by decide) (by decide) hlocks (fun t _ h1 h2 => ⟨(), trivial, ⟨rfl, my_P_kept hP h2, hD⟩, my_F_kept hS h1 h2⟩) hS.2.2 (by decide) (by decide)
    · refine lv_iload_n hx hb dX5_scratch_41 rfl (lv_at hl 3 rfl) ?_
      refine lv_iload_n hx hb dX5_scratch_42 rfl (lv_at hl 0 rfl) ?_
      refine lv_icmp_lt (tgt := 56) hx hb dX5_scratch_43 (by decide) (fun c6 => ?_) (fun c6 => ?_)
      · exact (hbad.elim (by assumption) (fun h => h c6)).elim
      · obtain ⟨sa9, hst9⟩ := hK.2.s141
        exact vx_throwS (names := ["java/lang/RuntimeException", "java/lang/Exception"]) (A := A) hx hb hnst hown (by decide +kernel) (by decide +kernel) (hts (.classLink RX5 66 "java/lang/IllegalArgumentException") (by decide +kernel)) (hts (.initialized "java/lang/IllegalArgumentException") (by decide +kernel)) hst9 (taX66 (fun w h => hts w (by first | exact List.mem_cons_of_mem _ (List.mem_append_right _ h) | exact List.mem_cons_of_mem _ (List.mem_append_left _ (List.mem_append_right _ h)) | exact List.mem_cons_of_mem _ (List.mem_append_left _ (List.mem_append_left _ (List.mem_append_right _ h))) | exact List.mem_cons_of_mem _ (List.mem_append_left _ (List.mem_append_left _ (List.mem_append_left _ (List.mem_append_right _ h)))))) (va_Nw.use rfl hK.2.cIllegalArgumentException)) tgX66 hZ.2.2.2.1 hZ.2.2.2.2 hS (hl.1.trans hml.symm) dX5_scratch_46 dX5_scratch_49 dX5_scratch_50 dX5_scratch_52 dX5_scratch_55 (fun x h => (hnt9 x h).elim) (by decide) (by decide) (by decide) (by decide) hlocks (fun t _ h1 h2 => ⟨(), trivial, ⟨rfl, my_P_kept hP h2, hD⟩, my_F_kept hS h1 h2⟩) hS.2.2 (by decide) (by decide)
  · first | exact False.elim c3 | exact absurd c3 (by decide) | (exfalso; omega)
abbrev rm_kX5_scratch_bad3 : Room := { frames := 6, cells := 1, slots := 6, locals := 90 }
set_option maxHeartbeats 4000000 in
set_option maxRecDepth 100000 in
theorem kX5_scratch_bad3 (l : Launch) (hnst : l.stackTraces = false) (D : va_G) (ca : Nat → ClassId) (sz : Nat) (oc os osl ohi obu ord osp onw otr ogd : Nat) (t1 l1 g1 : Nat) (t2 : Nat) (nt : Nat) (gt : Nat → Int32) (q : Nat) (v : Int32) (hnt : nt ≤ 200) (hq : q < nt) (hv1 : ¬ v < nI 1) (hv2 : v < gt q) (hbad : nt = 200) : vx_Met l yX5_scratch wsX5_scratch rm_kX5_scratch_bad3 (pcZ D ca [.ref oc, .int (nI q), .int v] [(oc, .inr (5, [.ref os, .ref osl, .ref ohi, .ref obu, .ref ord, .ref osp, .ref onw, .ref otr, .ref ogd])), (os, .inr (3, [.ref t1, .ref l1, .ref g1])), (t1, .inr (2, [.ref t2, .int (nI nt)])), (t2, .inl (ca 0, 200, .inl gt))] sz) (va_Qi (fun (zr : Int32) (u : Unit) => False) (fun _ _ => True) (va_A [(oc, .inr (5, [.ref os, .ref osl, .ref ohi, .ref obu, .ref ord, .ref osp, .ref onw, .ref otr, .ref ogd])), (os, .inr (3, [.ref t1, .ref l1, .ref g1])), (t1, .inr (2, [.ref t2, .int (nI nt)])), (t2, .inl (ca 0, 200, .inl gt))] sz)) (vx_X (fun _ : Unit => True) (fun E _ t => E = "java/lang/IllegalStateException" ∧ va_P D vwCl [(oc, .inr (5, [.ref os, .ref osl, .ref ohi, .ref obu, .ref ord, .ref osp, .ref onw, .ref otr, .ref ogd])), (os, .inr (3, [.ref t1, .ref l1, .ref g1])), (t1, .inr (2, [.ref t2, .int (nI nt)])), (t2, .inl (ca 0, 200, .inl gt))] t.heap ∧ va_D (va_A [(oc, .inr (5, [.ref os, .ref osl, .ref ohi, .ref obu, .ref ord, .ref osp, .ref onw, .ref otr, .ref ogd])), (os, .inr (3, [.ref t1, .ref l1, .ref g1])), (t1, .inr (2, [.ref t2, .int (nI nt)])), (t2, .inl (ca 0, 200, .inl gt))] sz) [(oc, .inr (5, [.ref os, .ref osl, .ref ohi, .ref obu, .ref ord, .ref osp, .ref onw, .ref otr, .ref ogd])), (os, .inr (3, [.ref t1, .ref l1, .ref g1])), (t1, .inr (2, [.ref t2, .int (nI nt)])), (t2, .inl (ca 0, 200, .inl gt))]) (va_A [(oc, .inr (5, [.ref os, .ref osl, .ref ohi, .ref obu, .ref ord, .ref osp, .ref onw, .ref otr, .ref ogd])), (os, .inr (3, [.ref t1, .ref l1, .ref g1])), (t1, .inr (2, [.ref t2, .int (nI nt)])), (t2, .inl (ca 0, 200, .inl gt))] sz)) 1 6 (va_A [(oc, .inr (5, [.ref os, .ref osl, .ref ohi, .ref obu, .ref ord, .ref osp, .ref onw, .ref otr, .ref ogd])), (os, .inr (3, [.ref t1, .ref l1, .ref g1])), (t1, .inr (2, [.ref t2, .int (nI nt)])), (t2, .inl (ca 0, 200, .inl gt))] sz) := by
  refine vx_ofW (cc := cX5_scratch) (maxL := 4) (ret := (some .int)) (by decide) rfl ?_
  intro p e s m args below meth c s₁ B hml hnt9 hv
  obtain ⟨rfl, hsz, hP, hK, hD0, hZ⟩ := hv
  have hx := B.exec
  have hb := B.bytes
  have hr := B.returns
  have hts := atoms_spec (ws := wsX5_scratch) B.pre
  have hown : s.vm.findClass RX5 = some m.cls := findClass_of_methodNamed B.named
  have hlocks := B.notSynchronized
  subst hsz
  have hD := hD0.self (sz := s.heap.size)
  generalize hAe : va_A [(oc, .inr (5, [.ref os, .ref osl, .ref ohi, .ref obu, .ref ord, .ref osp, .ref onw, .ref otr, .ref ogd])), (os, .inr (3, [.ref t1, .ref l1, .ref g1])), (t1, .inr (2, [.ref t2, .int (nI nt)])), (t2, .inl (ca 0, 200, .inl gt))] s.heap.size = A at hD hZ ⊢
  have hA : ∀ q : Nat, s.heap.size ≤ q → A q := fun q h => by rw [← hAe]; exact Or.inr h
  have hS : va_S A s.heap s.heap [] := va_S.rf
  have hP : va_P D vwCl [(oc, .inr (5, [.ref os, .ref osl, .ref ohi, .ref obu, .ref ord, .ref osp, .ref onw, .ref otr, .ref ogd])), (os, .inr (3, [.ref t1, .ref l1, .ref g1])), (t1, .inr (2, [.ref t2, .int (nI nt)])), (t2, .inl (ca 0, 200, .inl gt))] s.heap := hP
  have hKv := hK.1
  have hl := lv_entry ([.ref oc, .int (nI q), .int v]) (n := 4) (kk_le rfl)
  rw [lg_entry_eq]
  generalize (lg_sl ([.ref oc, .int (nI q), .int v]) ++ List.replicate (4 - (lg_sl ([.ref oc, .int (nI q), .int v])).length) Slot.unset).toArray = ls at hl ⊢
  have hl : lv_has ls 4 [(0, .ref oc), (1, .int (nI q)), (2, .int v)] := hl
  have hiX5 : ∀ w ∈ u_ws RX5 TX5 9, w ∈ wsX5_scratch := fun w h => by first | exact List.mem_cons_of_mem _ (List.mem_append_right _ h) | exact List.mem_cons_of_mem _ (List.mem_append_left _ (List.mem_append_right _ h)) | exact List.mem_cons_of_mem _ (List.mem_append_left _ (List.mem_append_left _ (List.mem_append_right _ h))) | exact List.mem_cons_of_mem _ (List.mem_append_left _ (List.mem_append_left _ (List.mem_append_left _ (List.mem_append_right _ h)))) | (revert w h; decide +kernel)
  have lk10 : (Cond.fieldLink RX5 10 "StripeSwipes" "state" "LStripeSwipes$State;").before _ s = true := hts _ (by decide +kernel)
  have hiX3 : ∀ w ∈ u_ws RX3 TX3 3, w ∈ wsX5_scratch := fun w h => by first | exact List.mem_cons_of_mem _ (List.mem_append_right _ h) | exact List.mem_cons_of_mem _ (List.mem_append_left _ (List.mem_append_right _ h)) | exact List.mem_cons_of_mem _ (List.mem_append_left _ (List.mem_append_left _ (List.mem_append_right _ h))) | exact List.mem_cons_of_mem _ (List.mem_append_left _ (List.mem_append_left _ (List.mem_append_left _ (List.mem_append_right _ h)))) | (revert w h; decide +kernel)
  have lk113 : (Cond.fieldLinkNest "StripeSwipes" 113 "StripeSwipes$State" "times" "LStripeSwipes$Row;" "StripeSwipes").before ([.ref oc, .int (nI q), .int v] : List Value).toArray s = true := va_Nw.use rfl hK.2.f113
  refine lv_aload_n hx hb dX5_scratch_0 rfl (lv_at hl 0 rfl) ?_
  refine va_get (D := D) (ci := 5) (C := RX5) (T := TX5) (N := 9) hx hb hts hiX5 hown hKv hP 0 rfl rfl 0 (by decide) lk10 (fun _ h9 => h9) rfl dX5_scratch_1 ?_
  refine va_getN (D := D) (ci := 3) (C := RX3) (T := TX3) (N := 3) hx hb hts hiX3 hown hKv hP 1 rfl rfl 0 (by decide) lk113 (fun _ h9 => h9) rfl dX5_scratch_4 ?_
  refine lv_iload_n hx hb dX5_scratch_7 rfl (lv_at hl 1 rfl) ?_
  refine vp_callSi (va_Run.run (va_runV (As := [.int (nI q)]) (rest := []) ⟨hx, hb, hml, hown, hts⟩ (kX2_has_n l D ca t1 t2 200 gt nt q (by first | rfl | assumption | omega | trivial | (exfalso; omega)) (by first | rfl | assumption | omega | trivial | (exfalso; omega)) (by first | rfl | assumption | omega | trivial | (exfalso; omega))) (cwV 1 hts gX5_scratch_X2_has rfl rfl rfl (by decide +kernel) ⟨kk_le rfl, kk_le rfl⟩) (pvR hK (hP.sub (ws' := [(t1, .inr (2, [.ref t2, .int (nI nt)])), (t2, .inl (ca 0, 200, .inl gt))]) [2, 3] rfl) (va_recv hKv hP (ci := 2) (q0 := 2) rfl rfl)) rfl rfl hl.1 rfl (lv_room (kk_le rfl)) dX5_scratch_8 ⟨kk_le rfl, kk_le rfl⟩)) (fun r1 hr1 => ?_)
  subst hr1
  have e2 : (bI (decide (q < nt)) : Int32) = bI true := congrArg bI (decide_eq_true hq)
  rw [e2]
  refine bi_if_ne (tgt := 24) hx hb dX5_scratch_11 (by decide) (fun c3 => ?_) (fun c3 => ?_)
  · refine lv_aload_n hx hb dX5_scratch_24 rfl (lv_at hl 0 rfl) ?_
    refine va_get (D := D) (ci := 5) (C := RX5) (T := TX5) (N := 9) hx hb hts hiX5 hown hKv hP 0 rfl rfl 0 (by decide) lk10 (fun _ h9 => h9) rfl dX5_scratch_25 ?_
    refine va_getN (D := D) (ci := 3) (C := RX3) (T := TX3) (N := 3) hx hb hts hiX3 hown hKv hP 1 rfl rfl 0 (by decide) lk113 (fun _ h9 => h9) rfl dX5_scratch_28 ?_
    refine lv_iload_n hx hb dX5_scratch_31 rfl (lv_at hl 1 rfl) ?_
    refine vp_callSi (va_Run.run (va_runV (As := [.int (nI q)]) (rest := []) ⟨hx, hb, hml, hown, hts⟩ (kX2_at_in l D ca t1 t2 200 gt nt q (by first | rfl | assumption | omega | trivial | (exfalso; omega)) (by first | rfl | assumption | omega | trivial | (exfalso; omega)) (by first | rfl | assumption | omega | trivial | (exfalso; omega))) (cwV 1 hts gX5_scratch_X2_at rfl rfl rfl (by decide +kernel) ⟨kk_le rfl, kk_le rfl⟩) (pvR hK (hP.sub (ws' := [(t1, .inr (2, [.ref t2, .int (nI nt)])), (t2, .inl (ca 0, 200, .inl gt))]) [2, 3] rfl) (va_recv hKv hP (ci := 2) (q0 := 2) rfl rfl)) rfl rfl hl.1 rfl (lv_room (kk_le rfl)) dX5_scratch_32 ⟨kk_le rfl, kk_le rfl⟩)) (fun r4 hr4 => ?_)
    subst hr4
    refine lv_istore_n (lv' := [(3, .int (gt q)), (0, .ref oc), (1, .int (nI q)), (2, .int v)]) hx hb dX5_scratch_35 rfl hl (by decide) rfl (fun ls hl => ?_)
    refine lv_iload_n hx hb dX5_scratch_36 rfl (lv_at hl 3 rfl) ?_
    refine lv_iconst (v := nI 1) hx hb dX5_scratch_37 (by decide) ?_
    refine lv_icmp_lt (tgt := 46) hx hb dX5_scratch_38 (by decide) (fun c5 => ?_) (fun c5 => ?_)
    · exact absurd c5 hv1
    · refine lv_iload_n hx hb dX5_scratch_41 rfl (lv_at hl 3 rfl) ?_
      refine lv_iload_n hx hb dX5_scratch_42 rfl (lv_at hl 0 rfl) ?_
      refine lv_icmp_lt (tgt := 56) hx hb dX5_scratch_43 (by decide) (fun c6 => ?_) (fun c6 => ?_)
      · refine lv_aload_n hx hb dX5_scratch_56 rfl (lv_at hl 1 rfl) ?_
        refine va_get (D := D) (ci := 5) (C := RX5) (T := TX5) (N := 9) hx hb hts hiX5 hown hKv hP 0 rfl rfl 0 (by decide) lk10 (fun _ h9 => h9) rfl dX5_scratch_57 ?_
        refine va_getN (D := D) (ci := 3) (C := RX3) (T := TX3) (N := 3) hx hb hts hiX3 hown hKv hP 1 rfl rfl 0 (by decide) lk113 (fun _ h9 => h9) rfl dX5_scratch_60 ?_
        refine vp_callSi (va_Run.run (va_runV (As := []) (rest := []) ⟨hx, hb, hml, hown, hts⟩ (kX2_size l D ca t1 t2 200 gt nt (by first | rfl | assumption | omega | trivial | (exfalso; omega)) (by first | rfl | assumption | omega | trivial | (exfalso; omega))) (cwV 0 hts gX5_scratch_X2_size rfl rfl rfl (by decide +kernel) ⟨kk_le rfl, kk_le rfl⟩) (pvR hK (hP.sub (ws' := [(t1, .inr (2, [.ref t2, .int (nI nt)])), (t2, .inl (ca 0, 200, .inl gt))]) [2, 3] rfl) (va_recv hKv hP (ci := 2) (q0 := 2) rfl rfl)) rfl rfl hl.1 rfl (lv_room (kk_le rfl)) dX5_scratch_63 ⟨kk_le rfl, kk_le rfl⟩)) (fun r7 hr7 => ?_)
        subst hr7
        refine lv_sipush (v := nI 200) hx hb dX5_scratch_66 (by decide) ?_
        refine ni_icmp_lt (tgt := 82) (by omega) (by omega) hx hb dX5_scratch_69 (by decide) (fun c8 => ?_) (fun c8 => ?_)
        · exact absurd c8 (by omega)
        · obtain ⟨sa9, hst9⟩ := hK.2.s143
          exact vx_throwS (names := ["java/lang/RuntimeException", "java/lang/Exception"]) (A := A) hx hb hnst hown (by decide +kernel) (by decide +kernel) (hts (.classLink RX5 97 "java/lang/IllegalStateException") (by decide +kernel)) (hts (.initialized "java/lang/IllegalStateException") (by decide +kernel)) hst9 (taX97 (fun w h => hts w (by first | exact List.mem_cons_of_mem _ (List.mem_append_right _ h) | exact List.mem_cons_of_mem _ (List.mem_append_left _ (List.mem_append_right _ h)) | exact List.mem_cons_of_mem _ (List.mem_append_left _ (List.mem_append_left _ (List.mem_append_right _ h))) | exact List.mem_cons_of_mem _ (List.mem_append_left _ (List.mem_append_left _ (List.mem_append_left _ (List.mem_append_right _ h)))))) (va_Nw.use rfl hK.2.cIllegalStateException)) tgX97 hZ.2.2.2.1 hZ.2.2.2.2 hS (hl.1.trans hml.symm) dX5_scratch_72 dX5_scratch_75 dX5_scratch_76 dX5_scratch_78 dX5_scratch_81 (fun x h => (hnt9 x h).elim) (by decide) (by decide) (by decide) (by decide) hlocks (fun t _ h1 h2 => ⟨(), trivial, ⟨rfl, my_P_kept hP h2, hD⟩, my_F_kept hS h1 h2⟩) hS.2.2 (by decide) (by decide)
      · exact absurd hv2 c6
  · first | exact False.elim c3 | exact absurd c3 (by decide) | (exfalso; omega)
abbrev rm_kX5_change_bad2 : Room := { frames := 6, cells := 1, slots := 6, locals := 90 }
set_option maxHeartbeats 4000000 in
set_option maxRecDepth 100000 in
theorem kX5_change_bad2 (l : Launch) (hnst : l.stackTraces = false) (D : va_G) (ca : Nat → ClassId) (sz : Nat) (oc os osl ohi obu ord osp onw otr ogd : Nat) (t1 l1 g1 : Nat) (t2 : Nat) (nt : Nat) (gt : Nat → Int32) (q : Nat) (v : Int32) (hnt : nt ≤ 200) (hq : q < nt) (hbad : inF v (nI 1) (nI 999) = false) : vx_Met l yX5_change wsX5_change rm_kX5_change_bad2 (pcZ D ca [.ref oc, .int (nI q), .int v] [(oc, .inr (5, [.ref os, .ref osl, .ref ohi, .ref obu, .ref ord, .ref osp, .ref onw, .ref otr, .ref ogd])), (os, .inr (3, [.ref t1, .ref l1, .ref g1])), (t1, .inr (2, [.ref t2, .int (nI nt)])), (t2, .inl (ca 0, 200, .inl gt))] sz) (va_Qi (fun (zr : Int32) (u : Unit) => False) (fun _ _ => True) (va_A [(oc, .inr (5, [.ref os, .ref osl, .ref ohi, .ref obu, .ref ord, .ref osp, .ref onw, .ref otr, .ref ogd])), (os, .inr (3, [.ref t1, .ref l1, .ref g1])), (t1, .inr (2, [.ref t2, .int (nI nt)])), (t2, .inl (ca 0, 200, .inl gt))] sz)) (vx_X (fun _ : Unit => True) (fun E _ t => E = "java/lang/IllegalArgumentException" ∧ va_P D vwCl [(oc, .inr (5, [.ref os, .ref osl, .ref ohi, .ref obu, .ref ord, .ref osp, .ref onw, .ref otr, .ref ogd])), (os, .inr (3, [.ref t1, .ref l1, .ref g1])), (t1, .inr (2, [.ref t2, .int (nI nt)])), (t2, .inl (ca 0, 200, .inl gt))] t.heap ∧ va_D (va_A [(oc, .inr (5, [.ref os, .ref osl, .ref ohi, .ref obu, .ref ord, .ref osp, .ref onw, .ref otr, .ref ogd])), (os, .inr (3, [.ref t1, .ref l1, .ref g1])), (t1, .inr (2, [.ref t2, .int (nI nt)])), (t2, .inl (ca 0, 200, .inl gt))] sz) [(oc, .inr (5, [.ref os, .ref osl, .ref ohi, .ref obu, .ref ord, .ref osp, .ref onw, .ref otr, .ref ogd])), (os, .inr (3, [.ref t1, .ref l1, .ref g1])), (t1, .inr (2, [.ref t2, .int (nI nt)])), (t2, .inl (ca 0, 200, .inl gt))]) (va_A [(oc, .inr (5, [.ref os, .ref osl, .ref ohi, .ref obu, .ref ord, .ref osp, .ref onw, .ref otr, .ref ogd])), (os, .inr (3, [.ref t1, .ref l1, .ref g1])), (t1, .inr (2, [.ref t2, .int (nI nt)])), (t2, .inl (ca 0, 200, .inl gt))] sz)) 1 6 (va_A [(oc, .inr (5, [.ref os, .ref osl, .ref ohi, .ref obu, .ref ord, .ref osp, .ref onw, .ref otr, .ref ogd])), (os, .inr (3, [.ref t1, .ref l1, .ref g1])), (t1, .inr (2, [.ref t2, .int (nI nt)])), (t2, .inl (ca 0, 200, .inl gt))] sz) := by
  refine vx_ofW (cc := cX5_change) (maxL := 4) (ret := (some .int)) (by decide) rfl ?_
  intro p e s m args below meth c s₁ B hml hnt9 hv
  obtain ⟨rfl, hsz, hP, hK, hD0, hZ⟩ := hv
  have hx := B.exec
  have hb := B.bytes
  have hr := B.returns
  have hts := atoms_spec (ws := wsX5_change) B.pre
  have hown : s.vm.findClass RX5 = some m.cls := findClass_of_methodNamed B.named
  have hlocks := B.notSynchronized
  subst hsz
  have hD := hD0.self (sz := s.heap.size)
  generalize hAe : va_A [(oc, .inr (5, [.ref os, .ref osl, .ref ohi, .ref obu, .ref ord, .ref osp, .ref onw, .ref otr, .ref ogd])), (os, .inr (3, [.ref t1, .ref l1, .ref g1])), (t1, .inr (2, [.ref t2, .int (nI nt)])), (t2, .inl (ca 0, 200, .inl gt))] s.heap.size = A at hD hZ ⊢
  have hA : ∀ q : Nat, s.heap.size ≤ q → A q := fun q h => by rw [← hAe]; exact Or.inr h
  have hS : va_S A s.heap s.heap [] := va_S.rf
  have hP : va_P D vwCl [(oc, .inr (5, [.ref os, .ref osl, .ref ohi, .ref obu, .ref ord, .ref osp, .ref onw, .ref otr, .ref ogd])), (os, .inr (3, [.ref t1, .ref l1, .ref g1])), (t1, .inr (2, [.ref t2, .int (nI nt)])), (t2, .inl (ca 0, 200, .inl gt))] s.heap := hP
  have hKv := hK.1
  have hl := lv_entry ([.ref oc, .int (nI q), .int v]) (n := 4) (kk_le rfl)
  rw [lg_entry_eq]
  generalize (lg_sl ([.ref oc, .int (nI q), .int v]) ++ List.replicate (4 - (lg_sl ([.ref oc, .int (nI q), .int v])).length) Slot.unset).toArray = ls at hl ⊢
  have hl : lv_has ls 4 [(0, .ref oc), (1, .int (nI q)), (2, .int v)] := hl
  have hiX5 : ∀ w ∈ u_ws RX5 TX5 9, w ∈ wsX5_change := fun w h => by first | exact List.mem_cons_of_mem _ (List.mem_append_right _ h) | exact List.mem_cons_of_mem _ (List.mem_append_left _ (List.mem_append_right _ h)) | exact List.mem_cons_of_mem _ (List.mem_append_left _ (List.mem_append_left _ (List.mem_append_right _ h))) | exact List.mem_cons_of_mem _ (List.mem_append_left _ (List.mem_append_left _ (List.mem_append_left _ (List.mem_append_right _ h)))) | (revert w h; decide +kernel)
  have lk10 : (Cond.fieldLink RX5 10 "StripeSwipes" "state" "LStripeSwipes$State;").before _ s = true := hts _ (by decide +kernel)
  have hiX3 : ∀ w ∈ u_ws RX3 TX3 3, w ∈ wsX5_change := fun w h => by first | exact List.mem_cons_of_mem _ (List.mem_append_right _ h) | exact List.mem_cons_of_mem _ (List.mem_append_left _ (List.mem_append_right _ h)) | exact List.mem_cons_of_mem _ (List.mem_append_left _ (List.mem_append_left _ (List.mem_append_right _ h))) | exact List.mem_cons_of_mem _ (List.mem_append_left _ (List.mem_append_left _ (List.mem_append_left _ (List.mem_append_right _ h)))) | (revert w h; decide +kernel)
  have lk113 : (Cond.fieldLinkNest "StripeSwipes" 113 "StripeSwipes$State" "times" "LStripeSwipes$Row;" "StripeSwipes").before ([.ref oc, .int (nI q), .int v] : List Value).toArray s = true := va_Nw.use rfl hK.2.f113
  refine lv_aload_n hx hb dX5_change_0 rfl (lv_at hl 0 rfl) ?_
  refine va_get (D := D) (ci := 5) (C := RX5) (T := TX5) (N := 9) hx hb hts hiX5 hown hKv hP 0 rfl rfl 0 (by decide) lk10 (fun _ h9 => h9) rfl dX5_change_1 ?_
  refine va_getN (D := D) (ci := 3) (C := RX3) (T := TX3) (N := 3) hx hb hts hiX3 hown hKv hP 1 rfl rfl 0 (by decide) lk113 (fun _ h9 => h9) rfl dX5_change_4 ?_
  refine lv_iload_n hx hb dX5_change_7 rfl (lv_at hl 1 rfl) ?_
  refine vp_callSi (va_Run.run (va_runV (As := [.int (nI q)]) (rest := []) ⟨hx, hb, hml, hown, hts⟩ (kX2_has_n l D ca t1 t2 200 gt nt q (by first | rfl | assumption | omega | trivial | (exfalso; omega)) (by first | rfl | assumption | omega | trivial | (exfalso; omega)) (by first | rfl | assumption | omega | trivial | (exfalso; omega))) (cwV 1 hts gX5_change_X2_has rfl rfl rfl (by decide +kernel) ⟨kk_le rfl, kk_le rfl⟩) (pvR hK (hP.sub (ws' := [(t1, .inr (2, [.ref t2, .int (nI nt)])), (t2, .inl (ca 0, 200, .inl gt))]) [2, 3] rfl) (va_recv hKv hP (ci := 2) (q0 := 2) rfl rfl)) rfl rfl hl.1 rfl (lv_room (kk_le rfl)) dX5_change_8 ⟨kk_le rfl, kk_le rfl⟩)) (fun r1 hr1 => ?_)
  subst hr1
  have e2 : (bI (decide (q < nt)) : Int32) = bI true := congrArg bI (decide_eq_true hq)
  rw [e2]
  refine bi_if_ne (tgt := 24) hx hb dX5_change_11 (by decide) (fun c3 => ?_) (fun c3 => ?_)
  · refine lv_iload_n hx hb dX5_change_24 rfl (lv_at hl 2 rfl) ?_
    refine lv_iconst (v := nI 1) hx hb dX5_change_25 (by decide) ?_
    refine lv_icmp_lt (tgt := 36) hx hb dX5_change_26 (by decide) (fun c4 => ?_) (fun c4 => ?_)
    · obtain ⟨sa9, hst9⟩ := hK.2.s141
      exact vx_throwS (names := ["java/lang/RuntimeException", "java/lang/Exception"]) (A := A) hx hb hnst hown (by decide +kernel) (by decide +kernel) (hts (.classLink RX5 66 "java/lang/IllegalArgumentException") (by decide +kernel)) (hts (.initialized "java/lang/IllegalArgumentException") (by decide +kernel)) hst9 (taX66 (fun w h => hts w (by first | exact List.mem_cons_of_mem _ (List.mem_append_right _ h) | exact List.mem_cons_of_mem _ (List.mem_append_left _ (List.mem_append_right _ h)) | exact List.mem_cons_of_mem _ (List.mem_append_left _ (List.mem_append_left _ (List.mem_append_right _ h))) | exact List.mem_cons_of_mem _ (List.mem_append_left _ (List.mem_append_left _ (List.mem_append_left _ (List.mem_append_right _ h)))))) (va_Nw.use rfl hK.2.cIllegalArgumentException)) tgX66 hZ.2.2.2.1 hZ.2.2.2.2 hS (hl.1.trans hml.symm) dX5_change_36 dX5_change_39 dX5_change_40 dX5_change_42 dX5_change_45 (fun x h => (hnt9 x h).elim) (by decide) (by decide) (by decide) (by decide) hlocks (fun t _ h1 h2 => ⟨(), trivial, ⟨rfl, my_P_kept hP h2, hD⟩, my_F_kept hS h1 h2⟩) hS.2.2 (by decide) (by decide)
    · refine lv_iload_n hx hb dX5_change_29 rfl (lv_at hl 2 rfl) ?_
      refine lv_sipush (v := nI 999) hx hb dX5_change_30 (by decide) ?_
      refine lv_icmp_le (tgt := 46) hx hb dX5_change_33 (by decide) (fun c5 => ?_) (fun c5 => ?_)
      · exact (inF_no hbad (by assumption) (Int32.not_lt.mpr (by assumption))).elim
      · obtain ⟨sa9, hst9⟩ := hK.2.s141
        exact vx_throwS (names := ["java/lang/RuntimeException", "java/lang/Exception"]) (A := A) hx hb hnst hown (by decide +kernel) (by decide +kernel) (hts (.classLink RX5 66 "java/lang/IllegalArgumentException") (by decide +kernel)) (hts (.initialized "java/lang/IllegalArgumentException") (by decide +kernel)) hst9 (taX66 (fun w h => hts w (by first | exact List.mem_cons_of_mem _ (List.mem_append_right _ h) | exact List.mem_cons_of_mem _ (List.mem_append_left _ (List.mem_append_right _ h)) | exact List.mem_cons_of_mem _ (List.mem_append_left _ (List.mem_append_left _ (List.mem_append_right _ h))) | exact List.mem_cons_of_mem _ (List.mem_append_left _ (List.mem_append_left _ (List.mem_append_left _ (List.mem_append_right _ h)))))) (va_Nw.use rfl hK.2.cIllegalArgumentException)) tgX66 hZ.2.2.2.1 hZ.2.2.2.2 hS (hl.1.trans hml.symm) dX5_change_36 dX5_change_39 dX5_change_40 dX5_change_42 dX5_change_45 (fun x h => (hnt9 x h).elim) (by decide) (by decide) (by decide) (by decide) hlocks (fun t _ h1 h2 => ⟨(), trivial, ⟨rfl, my_P_kept hP h2, hD⟩, my_F_kept hS h1 h2⟩) hS.2.2 (by decide) (by decide)
  · first | exact False.elim c3 | exact absurd c3 (by decide) | (exfalso; omega)
abbrev rm_kX5_set_bad : Room := { frames := 6, cells := 1, slots := 6, locals := 90 }
set_option maxHeartbeats 4000000 in
set_option maxRecDepth 100000 in
theorem kX5_set_bad (l : Launch) (hnst : l.stackTraces = false) (D : va_G) (ca : Nat → ClassId) (sz : Nat) (oc os osl ohi obu ord osp onw otr ogd : Nat) (t1 l1 g1 : Nat) (g2 : Nat) (z : Nat) (r f j : Int32) (x : Int32) (v : Int32) (hbad : hasF 4 x = false) : vx_Met l yX5_set wsX5_set rm_kX5_set_bad (pcZ D ca [.ref oc, .int x, .int v] [(oc, .inr (5, [.ref os, .ref osl, .ref ohi, .ref obu, .ref ord, .ref osp, .ref onw, .ref otr, .ref ogd])), (os, .inr (3, [.ref t1, .ref l1, .ref g1])), (g1, .inr (2, [.ref g2, .int (nI 4)])), (g2, .inl (ca 0, 4, .inl (seF z r f j)))] sz) (va_Qi (fun (zr : Int32) (u : Unit) => False) (fun _ _ => True) (va_A [(oc, .inr (5, [.ref os, .ref osl, .ref ohi, .ref obu, .ref ord, .ref osp, .ref onw, .ref otr, .ref ogd])), (os, .inr (3, [.ref t1, .ref l1, .ref g1])), (g1, .inr (2, [.ref g2, .int (nI 4)])), (g2, .inl (ca 0, 4, .inl (seF z r f j)))] sz)) (vx_X (fun _ : Unit => True) (fun E _ t => E = "java/lang/IndexOutOfBoundsException" ∧ va_P D vwCl [(oc, .inr (5, [.ref os, .ref osl, .ref ohi, .ref obu, .ref ord, .ref osp, .ref onw, .ref otr, .ref ogd])), (os, .inr (3, [.ref t1, .ref l1, .ref g1])), (g1, .inr (2, [.ref g2, .int (nI 4)])), (g2, .inl (ca 0, 4, .inl (seF z r f j)))] t.heap ∧ va_D (va_A [(oc, .inr (5, [.ref os, .ref osl, .ref ohi, .ref obu, .ref ord, .ref osp, .ref onw, .ref otr, .ref ogd])), (os, .inr (3, [.ref t1, .ref l1, .ref g1])), (g1, .inr (2, [.ref g2, .int (nI 4)])), (g2, .inl (ca 0, 4, .inl (seF z r f j)))] sz) [(oc, .inr (5, [.ref os, .ref osl, .ref ohi, .ref obu, .ref ord, .ref osp, .ref onw, .ref otr, .ref ogd])), (os, .inr (3, [.ref t1, .ref l1, .ref g1])), (g1, .inr (2, [.ref g2, .int (nI 4)])), (g2, .inl (ca 0, 4, .inl (seF z r f j)))]) (va_A [(oc, .inr (5, [.ref os, .ref osl, .ref ohi, .ref obu, .ref ord, .ref osp, .ref onw, .ref otr, .ref ogd])), (os, .inr (3, [.ref t1, .ref l1, .ref g1])), (g1, .inr (2, [.ref g2, .int (nI 4)])), (g2, .inl (ca 0, 4, .inl (seF z r f j)))] sz)) 1 6 (va_A [(oc, .inr (5, [.ref os, .ref osl, .ref ohi, .ref obu, .ref ord, .ref osp, .ref onw, .ref otr, .ref ogd])), (os, .inr (3, [.ref t1, .ref l1, .ref g1])), (g1, .inr (2, [.ref g2, .int (nI 4)])), (g2, .inl (ca 0, 4, .inl (seF z r f j)))] sz) := by
  refine vx_ofW (cc := cX5_set) (maxL := 4) (ret := (some .int)) (by decide) rfl ?_
  intro p e s m args below meth c s₁ B hml hnt9 hv
  obtain ⟨rfl, hsz, hP, hK, hD0, hZ⟩ := hv
  have hx := B.exec
  have hb := B.bytes
  have hr := B.returns
  have hts := atoms_spec (ws := wsX5_set) B.pre
  have hown : s.vm.findClass RX5 = some m.cls := findClass_of_methodNamed B.named
  have hlocks := B.notSynchronized
  subst hsz
  have hD := hD0.self (sz := s.heap.size)
  generalize hAe : va_A [(oc, .inr (5, [.ref os, .ref osl, .ref ohi, .ref obu, .ref ord, .ref osp, .ref onw, .ref otr, .ref ogd])), (os, .inr (3, [.ref t1, .ref l1, .ref g1])), (g1, .inr (2, [.ref g2, .int (nI 4)])), (g2, .inl (ca 0, 4, .inl (seF z r f j)))] s.heap.size = A at hD hZ ⊢
  have hA : ∀ q : Nat, s.heap.size ≤ q → A q := fun q h => by rw [← hAe]; exact Or.inr h
  have hS : va_S A s.heap s.heap [] := va_S.rf
  have hP : va_P D vwCl [(oc, .inr (5, [.ref os, .ref osl, .ref ohi, .ref obu, .ref ord, .ref osp, .ref onw, .ref otr, .ref ogd])), (os, .inr (3, [.ref t1, .ref l1, .ref g1])), (g1, .inr (2, [.ref g2, .int (nI 4)])), (g2, .inl (ca 0, 4, .inl (seF z r f j)))] s.heap := hP
  have hKv := hK.1
  have hl := lv_entry ([.ref oc, .int x, .int v]) (n := 4) (kk_le rfl)
  rw [lg_entry_eq]
  generalize (lg_sl ([.ref oc, .int x, .int v]) ++ List.replicate (4 - (lg_sl ([.ref oc, .int x, .int v])).length) Slot.unset).toArray = ls at hl ⊢
  have hl : lv_has ls 4 [(0, .ref oc), (1, .int x), (2, .int v)] := hl
  have hiX5 : ∀ w ∈ u_ws RX5 TX5 9, w ∈ wsX5_set := fun w h => by first | exact List.mem_cons_of_mem _ (List.mem_append_right _ h) | exact List.mem_cons_of_mem _ (List.mem_append_left _ (List.mem_append_right _ h)) | exact List.mem_cons_of_mem _ (List.mem_append_left _ (List.mem_append_left _ (List.mem_append_right _ h))) | exact List.mem_cons_of_mem _ (List.mem_append_left _ (List.mem_append_left _ (List.mem_append_left _ (List.mem_append_right _ h)))) | (revert w h; decide +kernel)
  have lk10 : (Cond.fieldLink RX5 10 "StripeSwipes" "state" "LStripeSwipes$State;").before _ s = true := hts _ (by decide +kernel)
  have hiX3 : ∀ w ∈ u_ws RX3 TX3 3, w ∈ wsX5_set := fun w h => by first | exact List.mem_cons_of_mem _ (List.mem_append_right _ h) | exact List.mem_cons_of_mem _ (List.mem_append_left _ (List.mem_append_right _ h)) | exact List.mem_cons_of_mem _ (List.mem_append_left _ (List.mem_append_left _ (List.mem_append_right _ h))) | exact List.mem_cons_of_mem _ (List.mem_append_left _ (List.mem_append_left _ (List.mem_append_left _ (List.mem_append_right _ h)))) | (revert w h; decide +kernel)
  have lk148 : (Cond.fieldLinkNest "StripeSwipes" 148 "StripeSwipes$State" "settings" "LStripeSwipes$Row;" "StripeSwipes").before ([.ref oc, .int x, .int v] : List Value).toArray s = true := va_Nw.use rfl hK.2.f148
  refine lv_aload_n hx hb dX5_set_0 rfl (lv_at hl 0 rfl) ?_
  refine va_get (D := D) (ci := 5) (C := RX5) (T := TX5) (N := 9) hx hb hts hiX5 hown hKv hP 0 rfl rfl 0 (by decide) lk10 (fun _ h9 => h9) rfl dX5_set_1 ?_
  refine va_getN (D := D) (ci := 3) (C := RX3) (T := TX3) (N := 3) hx hb hts hiX3 hown hKv hP 1 rfl rfl 2 (by decide) lk148 (fun _ h9 => h9) rfl dX5_set_4 ?_
  refine lv_iload_n hx hb dX5_set_7 rfl (lv_at hl 1 rfl) ?_
  refine vp_callSi (va_Run.run (va_runV (As := [.int x]) (rest := []) ⟨hx, hb, hml, hown, hts⟩ (kX2_has l D ca g1 g2 4 (seF z r f j) 4 x (by first | rfl | assumption | omega | trivial | (exfalso; omega)) (by first | rfl | assumption | omega | trivial | (exfalso; omega))) (cwV 1 hts gX5_set_X2_has rfl rfl rfl (by decide +kernel) ⟨kk_le rfl, kk_le rfl⟩) (pvR hK (hP.sub (ws' := [(g1, .inr (2, [.ref g2, .int (nI 4)])), (g2, .inl (ca 0, 4, .inl (seF z r f j)))]) [2, 3] rfl) (va_recv hKv hP (ci := 2) (q0 := 2) rfl rfl)) rfl rfl hl.1 rfl (lv_room (kk_le rfl)) dX5_set_8 ⟨kk_le rfl, kk_le rfl⟩)) (fun r1 hr1 => ?_)
  subst hr1
  have e2 : (bI (hasF 4 x) : Int32) = bI false := congrArg bI hbad
  rw [e2]
  refine bi_if_ne (tgt := 24) hx hb dX5_set_11 (by decide) (fun c3 => ?_) (fun c3 => ?_)
  · first | exact False.elim c3 | exact absurd c3 (by decide) | (exfalso; omega)
  · obtain ⟨sa9, hst9⟩ := hK.2.s151
    exact vx_throwS (names := ["java/lang/RuntimeException", "java/lang/Exception"]) (A := A) hx hb hnst hown (by decide +kernel) (by decide +kernel) (hts (.classLink RX5 124 "java/lang/IndexOutOfBoundsException") (by decide +kernel)) (hts (.initialized "java/lang/IndexOutOfBoundsException") (by decide +kernel)) hst9 (taX124 (fun w h => hts w (by first | exact List.mem_cons_of_mem _ (List.mem_append_right _ h) | exact List.mem_cons_of_mem _ (List.mem_append_left _ (List.mem_append_right _ h)) | exact List.mem_cons_of_mem _ (List.mem_append_left _ (List.mem_append_left _ (List.mem_append_right _ h))) | exact List.mem_cons_of_mem _ (List.mem_append_left _ (List.mem_append_left _ (List.mem_append_left _ (List.mem_append_right _ h)))))) (va_Nw.use rfl hK.2.cIndexOutOfBoundsException)) tgX124 hZ.2.2.2.1 hZ.2.2.2.2 hS (hl.1.trans hml.symm) dX5_set_14 dX5_set_17 dX5_set_18 dX5_set_20 dX5_set_23 (fun x h => (hnt9 x h).elim) (by decide) (by decide) (by decide) (by decide) hlocks (fun t _ h1 h2 => ⟨(), trivial, ⟨rfl, my_P_kept hP h2, hD⟩, my_F_kept hS h1 h2⟩) hS.2.2 (by decide) (by decide)
abbrev rm_kX5_set_bad2 : Room := { frames := 6, cells := 1, slots := 6, locals := 90 }
set_option maxHeartbeats 4000000 in
set_option maxRecDepth 100000 in
theorem kX5_set_bad2 (l : Launch) (hnst : l.stackTraces = false) (D : va_G) (ca : Nat → ClassId) (sz : Nat) (oc os osl ohi obu ord osp onw otr ogd : Nat) (t1 l1 g1 : Nat) (g2 : Nat) (z : Nat) (r f j : Int32) (q : Nat) (v : Int32) (hq : q < 4) (hbad : okSet q v = false) : vx_Met l yX5_set wsX5_set rm_kX5_set_bad2 (pcZ D ca [.ref oc, .int (nI q), .int v] [(oc, .inr (5, [.ref os, .ref osl, .ref ohi, .ref obu, .ref ord, .ref osp, .ref onw, .ref otr, .ref ogd])), (os, .inr (3, [.ref t1, .ref l1, .ref g1])), (g1, .inr (2, [.ref g2, .int (nI 4)])), (g2, .inl (ca 0, 4, .inl (seF z r f j)))] sz) (va_Qi (fun (zr : Int32) (u : Unit) => False) (fun _ _ => True) (va_A [(oc, .inr (5, [.ref os, .ref osl, .ref ohi, .ref obu, .ref ord, .ref osp, .ref onw, .ref otr, .ref ogd])), (os, .inr (3, [.ref t1, .ref l1, .ref g1])), (g1, .inr (2, [.ref g2, .int (nI 4)])), (g2, .inl (ca 0, 4, .inl (seF z r f j)))] sz)) (vx_X (fun _ : Unit => True) (fun E _ t => E = "java/lang/IllegalArgumentException" ∧ va_P D vwCl [(oc, .inr (5, [.ref os, .ref osl, .ref ohi, .ref obu, .ref ord, .ref osp, .ref onw, .ref otr, .ref ogd])), (os, .inr (3, [.ref t1, .ref l1, .ref g1])), (g1, .inr (2, [.ref g2, .int (nI 4)])), (g2, .inl (ca 0, 4, .inl (seF z r f j)))] t.heap ∧ va_D (va_A [(oc, .inr (5, [.ref os, .ref osl, .ref ohi, .ref obu, .ref ord, .ref osp, .ref onw, .ref otr, .ref ogd])), (os, .inr (3, [.ref t1, .ref l1, .ref g1])), (g1, .inr (2, [.ref g2, .int (nI 4)])), (g2, .inl (ca 0, 4, .inl (seF z r f j)))] sz) [(oc, .inr (5, [.ref os, .ref osl, .ref ohi, .ref obu, .ref ord, .ref osp, .ref onw, .ref otr, .ref ogd])), (os, .inr (3, [.ref t1, .ref l1, .ref g1])), (g1, .inr (2, [.ref g2, .int (nI 4)])), (g2, .inl (ca 0, 4, .inl (seF z r f j)))]) (va_A [(oc, .inr (5, [.ref os, .ref osl, .ref ohi, .ref obu, .ref ord, .ref osp, .ref onw, .ref otr, .ref ogd])), (os, .inr (3, [.ref t1, .ref l1, .ref g1])), (g1, .inr (2, [.ref g2, .int (nI 4)])), (g2, .inl (ca 0, 4, .inl (seF z r f j)))] sz)) 1 6 (va_A [(oc, .inr (5, [.ref os, .ref osl, .ref ohi, .ref obu, .ref ord, .ref osp, .ref onw, .ref otr, .ref ogd])), (os, .inr (3, [.ref t1, .ref l1, .ref g1])), (g1, .inr (2, [.ref g2, .int (nI 4)])), (g2, .inl (ca 0, 4, .inl (seF z r f j)))] sz) := by
  refine vx_ofW (cc := cX5_set) (maxL := 4) (ret := (some .int)) (by decide) rfl ?_
  intro p e s m args below meth c s₁ B hml hnt9 hv
  obtain ⟨rfl, hsz, hP, hK, hD0, hZ⟩ := hv
  have hx := B.exec
  have hb := B.bytes
  have hr := B.returns
  have hts := atoms_spec (ws := wsX5_set) B.pre
  have hown : s.vm.findClass RX5 = some m.cls := findClass_of_methodNamed B.named
  have hlocks := B.notSynchronized
  subst hsz
  have hD := hD0.self (sz := s.heap.size)
  generalize hAe : va_A [(oc, .inr (5, [.ref os, .ref osl, .ref ohi, .ref obu, .ref ord, .ref osp, .ref onw, .ref otr, .ref ogd])), (os, .inr (3, [.ref t1, .ref l1, .ref g1])), (g1, .inr (2, [.ref g2, .int (nI 4)])), (g2, .inl (ca 0, 4, .inl (seF z r f j)))] s.heap.size = A at hD hZ ⊢
  have hA : ∀ q : Nat, s.heap.size ≤ q → A q := fun q h => by rw [← hAe]; exact Or.inr h
  have hS : va_S A s.heap s.heap [] := va_S.rf
  have hP : va_P D vwCl [(oc, .inr (5, [.ref os, .ref osl, .ref ohi, .ref obu, .ref ord, .ref osp, .ref onw, .ref otr, .ref ogd])), (os, .inr (3, [.ref t1, .ref l1, .ref g1])), (g1, .inr (2, [.ref g2, .int (nI 4)])), (g2, .inl (ca 0, 4, .inl (seF z r f j)))] s.heap := hP
  have hKv := hK.1
  have hl := lv_entry ([.ref oc, .int (nI q), .int v]) (n := 4) (kk_le rfl)
  rw [lg_entry_eq]
  generalize (lg_sl ([.ref oc, .int (nI q), .int v]) ++ List.replicate (4 - (lg_sl ([.ref oc, .int (nI q), .int v])).length) Slot.unset).toArray = ls at hl ⊢
  have hl : lv_has ls 4 [(0, .ref oc), (1, .int (nI q)), (2, .int v)] := hl
  rw [okSet_lm v hq] at hbad
  have hiX5 : ∀ w ∈ u_ws RX5 TX5 9, w ∈ wsX5_set := fun w h => by first | exact List.mem_cons_of_mem _ (List.mem_append_right _ h) | exact List.mem_cons_of_mem _ (List.mem_append_left _ (List.mem_append_right _ h)) | exact List.mem_cons_of_mem _ (List.mem_append_left _ (List.mem_append_left _ (List.mem_append_right _ h))) | exact List.mem_cons_of_mem _ (List.mem_append_left _ (List.mem_append_left _ (List.mem_append_left _ (List.mem_append_right _ h)))) | (revert w h; decide +kernel)
  have lk10 : (Cond.fieldLink RX5 10 "StripeSwipes" "state" "LStripeSwipes$State;").before _ s = true := hts _ (by decide +kernel)
  have hiX3 : ∀ w ∈ u_ws RX3 TX3 3, w ∈ wsX5_set := fun w h => by first | exact List.mem_cons_of_mem _ (List.mem_append_right _ h) | exact List.mem_cons_of_mem _ (List.mem_append_left _ (List.mem_append_right _ h)) | exact List.mem_cons_of_mem _ (List.mem_append_left _ (List.mem_append_left _ (List.mem_append_right _ h))) | exact List.mem_cons_of_mem _ (List.mem_append_left _ (List.mem_append_left _ (List.mem_append_left _ (List.mem_append_right _ h)))) | (revert w h; decide +kernel)
  have lk148 : (Cond.fieldLinkNest "StripeSwipes" 148 "StripeSwipes$State" "settings" "LStripeSwipes$Row;" "StripeSwipes").before ([.ref oc, .int (nI q), .int v] : List Value).toArray s = true := va_Nw.use rfl hK.2.f148
  have lk153 : (Cond.fieldLink RX5 153 "StripeSwipes" "LEAST_VALUES" "[I").before _ s = true := hts _ (by decide +kernel)
  have lk161 : (Cond.fieldLink RX5 161 "StripeSwipes" "MOST_VALUES" "[I").before _ s = true := hts _ (by decide +kernel)
  refine lv_aload_n hx hb dX5_set_0 rfl (lv_at hl 0 rfl) ?_
  refine va_get (D := D) (ci := 5) (C := RX5) (T := TX5) (N := 9) hx hb hts hiX5 hown hKv hP 0 rfl rfl 0 (by decide) lk10 (fun _ h9 => h9) rfl dX5_set_1 ?_
  refine va_getN (D := D) (ci := 3) (C := RX3) (T := TX3) (N := 3) hx hb hts hiX3 hown hKv hP 1 rfl rfl 2 (by decide) lk148 (fun _ h9 => h9) rfl dX5_set_4 ?_
  refine lv_iload_n hx hb dX5_set_7 rfl (lv_at hl 1 rfl) ?_
  refine vp_callSi (va_Run.run (va_runV (As := [.int (nI q)]) (rest := []) ⟨hx, hb, hml, hown, hts⟩ (kX2_has_n l D ca g1 g2 4 (seF z r f j) 4 q (by first | rfl | assumption | omega | trivial | (exfalso; omega)) (by first | rfl | assumption | omega | trivial | (exfalso; omega)) (by first | rfl | assumption | omega | trivial | (exfalso; omega))) (cwV 1 hts gX5_set_X2_has rfl rfl rfl (by decide +kernel) ⟨kk_le rfl, kk_le rfl⟩) (pvR hK (hP.sub (ws' := [(g1, .inr (2, [.ref g2, .int (nI 4)])), (g2, .inl (ca 0, 4, .inl (seF z r f j)))]) [2, 3] rfl) (va_recv hKv hP (ci := 2) (q0 := 2) rfl rfl)) rfl rfl hl.1 rfl (lv_room (kk_le rfl)) dX5_set_8 ⟨kk_le rfl, kk_le rfl⟩)) (fun r1 hr1 => ?_)
  subst hr1
  have e2 : (bI (decide (q < 4)) : Int32) = bI true := congrArg bI (decide_eq_true hq)
  rw [e2]
  refine bi_if_ne (tgt := 24) hx hb dX5_set_11 (by decide) (fun c3 => ?_) (fun c3 => ?_)
  · refine lv_iload_n hx hb dX5_set_24 rfl (lv_at hl 2 rfl) ?_
    obtain ⟨tb4, hztb4, httb4⟩ := hZ.2.1
    refine va_gets hx hb hztb4 hS hown lk153 (fun _ h9 => h9) dX5_set_25 ?_
    refine lv_iload_n hx hb dX5_set_28 rfl (lv_at hl 1 rfl) ?_
    refine vp_callSi (va_Run.run (va_runS (As := [.ref tb4, .int (nI q)]) (rest := [.int v]) ⟨hx, hb, hml, hown, hts⟩ (kX5_entry l tb4 leastF q (by omega)) (va_cwS 2 hts gX5_set_X5_entry rfl rfl rfl (by decide +kernel) ⟨kk_le rfl, kk_le rfl⟩) (psT httb4 hS) rfl rfl hl.1 rfl (lv_room (kk_le rfl)) dX5_set_29 ⟨kk_le rfl, kk_le rfl⟩)) (fun r5 hr5 => ?_)
    subst hr5
    refine lv_icmp_lt (tgt := 46) hx hb dX5_set_32 (by decide) (fun c6 => ?_) (fun c6 => ?_)
    · obtain ⟨sa9, hst9⟩ := hK.2.s164
      exact vx_throwS (names := ["java/lang/RuntimeException", "java/lang/Exception"]) (A := A) hx hb hnst hown (by decide +kernel) (by decide +kernel) (hts (.classLink RX5 66 "java/lang/IllegalArgumentException") (by decide +kernel)) (hts (.initialized "java/lang/IllegalArgumentException") (by decide +kernel)) hst9 (taX66 (fun w h => hts w (by first | exact List.mem_cons_of_mem _ (List.mem_append_right _ h) | exact List.mem_cons_of_mem _ (List.mem_append_left _ (List.mem_append_right _ h)) | exact List.mem_cons_of_mem _ (List.mem_append_left _ (List.mem_append_left _ (List.mem_append_right _ h))) | exact List.mem_cons_of_mem _ (List.mem_append_left _ (List.mem_append_left _ (List.mem_append_left _ (List.mem_append_right _ h)))))) (va_Nw.use rfl hK.2.cIllegalArgumentException)) tgX66 hZ.2.2.2.1 hZ.2.2.2.2 hS (hl.1.trans hml.symm) dX5_set_46 dX5_set_49 dX5_set_50 dX5_set_52 dX5_set_55 (fun x h => (hnt9 x h).elim) (by decide) (by decide) (by decide) (by decide) hlocks (fun t _ h1 h2 => ⟨(), trivial, ⟨rfl, my_P_kept hP h2, hD⟩, my_F_kept hS h1 h2⟩) hS.2.2 (by decide) (by decide)
    · refine lv_iload_n hx hb dX5_set_35 rfl (lv_at hl 2 rfl) ?_
      obtain ⟨tb7, hztb7, httb7⟩ := hZ.2.2.1
      refine va_gets hx hb hztb7 hS hown lk161 (fun _ h9 => h9) dX5_set_36 ?_
      refine lv_iload_n hx hb dX5_set_39 rfl (lv_at hl 1 rfl) ?_
      refine vp_callSi (va_Run.run (va_runS (As := [.ref tb7, .int (nI q)]) (rest := [.int v]) ⟨hx, hb, hml, hown, hts⟩ (kX5_entry l tb7 mostF q (by omega)) (va_cwS 2 hts gX5_set_X5_entry rfl rfl rfl (by decide +kernel) ⟨kk_le rfl, kk_le rfl⟩) (psT httb7 hS) rfl rfl hl.1 rfl (lv_room (kk_le rfl)) dX5_set_40 ⟨kk_le rfl, kk_le rfl⟩)) (fun r8 hr8 => ?_)
      subst hr8
      refine lv_icmp_le (tgt := 56) hx hb dX5_set_43 (by decide) (fun c9 => ?_) (fun c9 => ?_)
      · exact (inF_no hbad (by assumption) (Int32.not_lt.mpr (by assumption))).elim
      · obtain ⟨sa9, hst9⟩ := hK.2.s164
        exact vx_throwS (names := ["java/lang/RuntimeException", "java/lang/Exception"]) (A := A) hx hb hnst hown (by decide +kernel) (by decide +kernel) (hts (.classLink RX5 66 "java/lang/IllegalArgumentException") (by decide +kernel)) (hts (.initialized "java/lang/IllegalArgumentException") (by decide +kernel)) hst9 (taX66 (fun w h => hts w (by first | exact List.mem_cons_of_mem _ (List.mem_append_right _ h) | exact List.mem_cons_of_mem _ (List.mem_append_left _ (List.mem_append_right _ h)) | exact List.mem_cons_of_mem _ (List.mem_append_left _ (List.mem_append_left _ (List.mem_append_right _ h))) | exact List.mem_cons_of_mem _ (List.mem_append_left _ (List.mem_append_left _ (List.mem_append_left _ (List.mem_append_right _ h)))))) (va_Nw.use rfl hK.2.cIllegalArgumentException)) tgX66 hZ.2.2.2.1 hZ.2.2.2.2 hS (hl.1.trans hml.symm) dX5_set_46 dX5_set_49 dX5_set_50 dX5_set_52 dX5_set_55 (fun x h => (hnt9 x h).elim) (by decide) (by decide) (by decide) (by decide) hlocks (fun t _ h1 h2 => ⟨(), trivial, ⟨rfl, my_P_kept hP h2, hD⟩, my_F_kept hS h1 h2⟩) hS.2.2 (by decide) (by decide)
  · first | exact False.elim c3 | exact absurd c3 (by decide) | (exfalso; omega)
abbrev rm_kX5_keep_bad : Room := { frames := 6, cells := 1, slots := 6, locals := 90 }
set_option maxHeartbeats 4000000 in
set_option maxRecDepth 100000 in
theorem kX5_keep_bad (l : Launch) (hnst : l.stackTraces = false) (D : va_G) (ca : Nat → ClassId) (sz : Nat) (oc os osl ohi obu ord osp onw otr ogd : Nat) (qs : Nat → Option Nat) (x : Int32) (hbad : hasF 2 x = false) : vx_Met l yX5_keep wsX5_keep rm_kX5_keep_bad (pcZ D ca [.ref oc, .int x] [(oc, .inr (5, [.ref os, .ref osl, .ref ohi, .ref obu, .ref ord, .ref osp, .ref onw, .ref otr, .ref ogd])), (osl, .inl (ca 2, 2, .inr (.inr (.inr (.inr qs)))))] sz) (va_Qi (fun (zr : Int32) (u : Unit) => False) (fun _ _ => True) (va_A [(oc, .inr (5, [.ref os, .ref osl, .ref ohi, .ref obu, .ref ord, .ref osp, .ref onw, .ref otr, .ref ogd])), (osl, .inl (ca 2, 2, .inr (.inr (.inr (.inr qs)))))] sz)) (vx_X (fun _ : Unit => True) (fun E _ t => E = "java/lang/IllegalArgumentException" ∧ va_P D vwCl [(oc, .inr (5, [.ref os, .ref osl, .ref ohi, .ref obu, .ref ord, .ref osp, .ref onw, .ref otr, .ref ogd])), (osl, .inl (ca 2, 2, .inr (.inr (.inr (.inr qs)))))] t.heap ∧ va_D (va_A [(oc, .inr (5, [.ref os, .ref osl, .ref ohi, .ref obu, .ref ord, .ref osp, .ref onw, .ref otr, .ref ogd])), (osl, .inl (ca 2, 2, .inr (.inr (.inr (.inr qs)))))] sz) [(oc, .inr (5, [.ref os, .ref osl, .ref ohi, .ref obu, .ref ord, .ref osp, .ref onw, .ref otr, .ref ogd])), (osl, .inl (ca 2, 2, .inr (.inr (.inr (.inr qs)))))]) (va_A [(oc, .inr (5, [.ref os, .ref osl, .ref ohi, .ref obu, .ref ord, .ref osp, .ref onw, .ref otr, .ref ogd])), (osl, .inl (ca 2, 2, .inr (.inr (.inr (.inr qs)))))] sz)) 1 6 (va_A [(oc, .inr (5, [.ref os, .ref osl, .ref ohi, .ref obu, .ref ord, .ref osp, .ref onw, .ref otr, .ref ogd])), (osl, .inl (ca 2, 2, .inr (.inr (.inr (.inr qs)))))] sz) := by
  refine vx_ofW (cc := cX5_keep) (maxL := 3) (ret := (some .int)) (by decide) rfl ?_
  intro p e s m args below meth c s₁ B hml hnt9 hv
  obtain ⟨rfl, hsz, hP, hK, hD0, hZ⟩ := hv
  have hx := B.exec
  have hb := B.bytes
  have hr := B.returns
  have hts := atoms_spec (ws := wsX5_keep) B.pre
  have hown : s.vm.findClass RX5 = some m.cls := findClass_of_methodNamed B.named
  have hlocks := B.notSynchronized
  subst hsz
  have hD := hD0.self (sz := s.heap.size)
  generalize hAe : va_A [(oc, .inr (5, [.ref os, .ref osl, .ref ohi, .ref obu, .ref ord, .ref osp, .ref onw, .ref otr, .ref ogd])), (osl, .inl (ca 2, 2, .inr (.inr (.inr (.inr qs)))))] s.heap.size = A at hD hZ ⊢
  have hA : ∀ q : Nat, s.heap.size ≤ q → A q := fun q h => by rw [← hAe]; exact Or.inr h
  have hS : va_S A s.heap s.heap [] := va_S.rf
  have hP : va_P D vwCl [(oc, .inr (5, [.ref os, .ref osl, .ref ohi, .ref obu, .ref ord, .ref osp, .ref onw, .ref otr, .ref ogd])), (osl, .inl (ca 2, 2, .inr (.inr (.inr (.inr qs)))))] s.heap := hP
  have hKv := hK.1
  have hl := lv_entry ([.ref oc, .int x]) (n := 3) (kk_le rfl)
  rw [lg_entry_eq]
  generalize (lg_sl ([.ref oc, .int x]) ++ List.replicate (3 - (lg_sl ([.ref oc, .int x])).length) Slot.unset).toArray = ls at hl ⊢
  have hl : lv_has ls 3 [(0, .ref oc), (1, .int x)] := hl
  have hiX5 : ∀ w ∈ u_ws RX5 TX5 9, w ∈ wsX5_keep := fun w h => by first | exact List.mem_cons_of_mem _ (List.mem_append_right _ h) | exact List.mem_cons_of_mem _ (List.mem_append_left _ (List.mem_append_right _ h)) | exact List.mem_cons_of_mem _ (List.mem_append_left _ (List.mem_append_left _ (List.mem_append_right _ h))) | exact List.mem_cons_of_mem _ (List.mem_append_left _ (List.mem_append_left _ (List.mem_append_left _ (List.mem_append_right _ h)))) | (revert w h; decide +kernel)
  have lk16 : (Cond.fieldLink RX5 16 "StripeSwipes" "slots" "[LStripeSwipes$State;").before _ s = true := hts _ (by decide +kernel)
  refine lv_iload_n hx hb dX5_keep_0 rfl (lv_at hl 1 rfl) ?_
  refine lv_if_lt (tgt := 13) hx hb dX5_keep_1 (by decide) (fun c1 => ?_) (fun c1 => ?_)
  · obtain ⟨sa9, hst9⟩ := hK.2.s170
    exact vx_throwS (names := ["java/lang/RuntimeException", "java/lang/Exception"]) (A := A) hx hb hnst hown (by decide +kernel) (by decide +kernel) (hts (.classLink RX5 66 "java/lang/IllegalArgumentException") (by decide +kernel)) (hts (.initialized "java/lang/IllegalArgumentException") (by decide +kernel)) hst9 (taX66 (fun w h => hts w (by first | exact List.mem_cons_of_mem _ (List.mem_append_right _ h) | exact List.mem_cons_of_mem _ (List.mem_append_left _ (List.mem_append_right _ h)) | exact List.mem_cons_of_mem _ (List.mem_append_left _ (List.mem_append_left _ (List.mem_append_right _ h))) | exact List.mem_cons_of_mem _ (List.mem_append_left _ (List.mem_append_left _ (List.mem_append_left _ (List.mem_append_right _ h)))))) (va_Nw.use rfl hK.2.cIllegalArgumentException)) tgX66 hZ.2.2.2.1 hZ.2.2.2.2 hS (hl.1.trans hml.symm) dX5_keep_13 dX5_keep_16 dX5_keep_17 dX5_keep_19 dX5_keep_22 (fun x h => (hnt9 x h).elim) (by decide) (by decide) (by decide) (by decide) hlocks (fun t _ h1 h2 => ⟨(), trivial, ⟨rfl, my_P_kept hP h2, hD⟩, my_F_kept hS h1 h2⟩) hS.2.2 (by decide) (by decide)
  · have hx0 : (0 : Int32) ≤ x := by first | exact c1 | exact Int32.not_lt.mp c1
    refine lv_iload_n hx hb dX5_keep_4 rfl (lv_at hl 1 rfl) ?_
    refine lv_aload_n hx hb dX5_keep_5 rfl (lv_at hl 0 rfl) ?_
    refine va_get (D := D) (ci := 5) (C := RX5) (T := TX5) (N := 9) hx hb hts hiX5 hown hKv hP 0 rfl rfl 1 (by decide) lk16 (fun _ h9 => h9) rfl dX5_keep_6 ?_
    refine va_alen (v := nI 2) hx hb hKv hP 1 2 rfl rfl rfl dX5_keep_9 ?_
    refine lv_icmp_lt (tgt := 23) hx hb dX5_keep_10 (by decide) (fun c2 => ?_) (fun c2 => ?_)
    · exact (hF_lt hbad hx0 (by first | exact c2 | exact Int32.not_le.mp c2)).elim
    · obtain ⟨sa9, hst9⟩ := hK.2.s170
      exact vx_throwS (names := ["java/lang/RuntimeException", "java/lang/Exception"]) (A := A) hx hb hnst hown (by decide +kernel) (by decide +kernel) (hts (.classLink RX5 66 "java/lang/IllegalArgumentException") (by decide +kernel)) (hts (.initialized "java/lang/IllegalArgumentException") (by decide +kernel)) hst9 (taX66 (fun w h => hts w (by first | exact List.mem_cons_of_mem _ (List.mem_append_right _ h) | exact List.mem_cons_of_mem _ (List.mem_append_left _ (List.mem_append_right _ h)) | exact List.mem_cons_of_mem _ (List.mem_append_left _ (List.mem_append_left _ (List.mem_append_right _ h))) | exact List.mem_cons_of_mem _ (List.mem_append_left _ (List.mem_append_left _ (List.mem_append_left _ (List.mem_append_right _ h)))))) (va_Nw.use rfl hK.2.cIllegalArgumentException)) tgX66 hZ.2.2.2.1 hZ.2.2.2.2 hS (hl.1.trans hml.symm) dX5_keep_13 dX5_keep_16 dX5_keep_17 dX5_keep_19 dX5_keep_22 (fun x h => (hnt9 x h).elim) (by decide) (by decide) (by decide) (by decide) hlocks (fun t _ h1 h2 => ⟨(), trivial, ⟨rfl, my_P_kept hP h2, hD⟩, my_F_kept hS h1 h2⟩) hS.2.2 (by decide) (by decide)
abbrev rm_kX5_goBack_bad : Room := { frames := 6, cells := 1, slots := 6, locals := 90 }
set_option maxHeartbeats 4000000 in
set_option maxRecDepth 100000 in
theorem kX5_goBack_bad (l : Launch) (hnst : l.stackTraces = false) (D : va_G) (ca : Nat → ClassId) (sz : Nat) (oc os osl ohi obu ord osp onw otr ogd : Nat) (qs : Nat → Option Nat) (x : Int32) (hbad : hasF 2 x = false) : vx_Met l yX5_goBack wsX5_goBack rm_kX5_goBack_bad (pcZ D ca [.ref oc, .int x] [(oc, .inr (5, [.ref os, .ref osl, .ref ohi, .ref obu, .ref ord, .ref osp, .ref onw, .ref otr, .ref ogd])), (osl, .inl (ca 2, 2, .inr (.inr (.inr (.inr qs)))))] sz) (va_Qi (fun (zr : Int32) (u : Unit) => False) (fun _ _ => True) (va_A [(oc, .inr (5, [.ref os, .ref osl, .ref ohi, .ref obu, .ref ord, .ref osp, .ref onw, .ref otr, .ref ogd])), (osl, .inl (ca 2, 2, .inr (.inr (.inr (.inr qs)))))] sz)) (vx_X (fun _ : Unit => True) (fun E _ t => E = "java/lang/IllegalArgumentException" ∧ va_P D vwCl [(oc, .inr (5, [.ref os, .ref osl, .ref ohi, .ref obu, .ref ord, .ref osp, .ref onw, .ref otr, .ref ogd])), (osl, .inl (ca 2, 2, .inr (.inr (.inr (.inr qs)))))] t.heap ∧ va_D (va_A [(oc, .inr (5, [.ref os, .ref osl, .ref ohi, .ref obu, .ref ord, .ref osp, .ref onw, .ref otr, .ref ogd])), (osl, .inl (ca 2, 2, .inr (.inr (.inr (.inr qs)))))] sz) [(oc, .inr (5, [.ref os, .ref osl, .ref ohi, .ref obu, .ref ord, .ref osp, .ref onw, .ref otr, .ref ogd])), (osl, .inl (ca 2, 2, .inr (.inr (.inr (.inr qs)))))]) (va_A [(oc, .inr (5, [.ref os, .ref osl, .ref ohi, .ref obu, .ref ord, .ref osp, .ref onw, .ref otr, .ref ogd])), (osl, .inl (ca 2, 2, .inr (.inr (.inr (.inr qs)))))] sz)) 1 6 (va_A [(oc, .inr (5, [.ref os, .ref osl, .ref ohi, .ref obu, .ref ord, .ref osp, .ref onw, .ref otr, .ref ogd])), (osl, .inl (ca 2, 2, .inr (.inr (.inr (.inr qs)))))] sz) := by
  refine vx_ofW (cc := cX5_goBack) (maxL := 3) (ret := (some .int)) (by decide) rfl ?_
  intro p e s m args below meth c s₁ B hml hnt9 hv
  obtain ⟨rfl, hsz, hP, hK, hD0, hZ⟩ := hv
  have hx := B.exec
  have hb := B.bytes
  have hr := B.returns
  have hts := atoms_spec (ws := wsX5_goBack) B.pre
  have hown : s.vm.findClass RX5 = some m.cls := findClass_of_methodNamed B.named
  have hlocks := B.notSynchronized
  subst hsz
  have hD := hD0.self (sz := s.heap.size)
  generalize hAe : va_A [(oc, .inr (5, [.ref os, .ref osl, .ref ohi, .ref obu, .ref ord, .ref osp, .ref onw, .ref otr, .ref ogd])), (osl, .inl (ca 2, 2, .inr (.inr (.inr (.inr qs)))))] s.heap.size = A at hD hZ ⊢
  have hA : ∀ q : Nat, s.heap.size ≤ q → A q := fun q h => by rw [← hAe]; exact Or.inr h
  have hS : va_S A s.heap s.heap [] := va_S.rf
  have hP : va_P D vwCl [(oc, .inr (5, [.ref os, .ref osl, .ref ohi, .ref obu, .ref ord, .ref osp, .ref onw, .ref otr, .ref ogd])), (osl, .inl (ca 2, 2, .inr (.inr (.inr (.inr qs)))))] s.heap := hP
  have hKv := hK.1
  have hl := lv_entry ([.ref oc, .int x]) (n := 3) (kk_le rfl)
  rw [lg_entry_eq]
  generalize (lg_sl ([.ref oc, .int x]) ++ List.replicate (3 - (lg_sl ([.ref oc, .int x])).length) Slot.unset).toArray = ls at hl ⊢
  have hl : lv_has ls 3 [(0, .ref oc), (1, .int x)] := hl
  have hiX5 : ∀ w ∈ u_ws RX5 TX5 9, w ∈ wsX5_goBack := fun w h => by first | exact List.mem_cons_of_mem _ (List.mem_append_right _ h) | exact List.mem_cons_of_mem _ (List.mem_append_left _ (List.mem_append_right _ h)) | exact List.mem_cons_of_mem _ (List.mem_append_left _ (List.mem_append_left _ (List.mem_append_right _ h))) | exact List.mem_cons_of_mem _ (List.mem_append_left _ (List.mem_append_left _ (List.mem_append_left _ (List.mem_append_right _ h)))) | (revert w h; decide +kernel)
  have lk16 : (Cond.fieldLink RX5 16 "StripeSwipes" "slots" "[LStripeSwipes$State;").before _ s = true := hts _ (by decide +kernel)
  refine lv_iload_n hx hb dX5_goBack_0 rfl (lv_at hl 1 rfl) ?_
  refine lv_if_lt (tgt := 13) hx hb dX5_goBack_1 (by decide) (fun c1 => ?_) (fun c1 => ?_)
  · obtain ⟨sa9, hst9⟩ := hK.2.s170
    exact vx_throwS (names := ["java/lang/RuntimeException", "java/lang/Exception"]) (A := A) hx hb hnst hown (by decide +kernel) (by decide +kernel) (hts (.classLink RX5 66 "java/lang/IllegalArgumentException") (by decide +kernel)) (hts (.initialized "java/lang/IllegalArgumentException") (by decide +kernel)) hst9 (taX66 (fun w h => hts w (by first | exact List.mem_cons_of_mem _ (List.mem_append_right _ h) | exact List.mem_cons_of_mem _ (List.mem_append_left _ (List.mem_append_right _ h)) | exact List.mem_cons_of_mem _ (List.mem_append_left _ (List.mem_append_left _ (List.mem_append_right _ h))) | exact List.mem_cons_of_mem _ (List.mem_append_left _ (List.mem_append_left _ (List.mem_append_left _ (List.mem_append_right _ h)))))) (va_Nw.use rfl hK.2.cIllegalArgumentException)) tgX66 hZ.2.2.2.1 hZ.2.2.2.2 hS (hl.1.trans hml.symm) dX5_goBack_13 dX5_goBack_16 dX5_goBack_17 dX5_goBack_19 dX5_goBack_22 (fun x h => (hnt9 x h).elim) (by decide) (by decide) (by decide) (by decide) hlocks (fun t _ h1 h2 => ⟨(), trivial, ⟨rfl, my_P_kept hP h2, hD⟩, my_F_kept hS h1 h2⟩) hS.2.2 (by decide) (by decide)
  · have hx0 : (0 : Int32) ≤ x := by first | exact c1 | exact Int32.not_lt.mp c1
    refine lv_iload_n hx hb dX5_goBack_4 rfl (lv_at hl 1 rfl) ?_
    refine lv_aload_n hx hb dX5_goBack_5 rfl (lv_at hl 0 rfl) ?_
    refine va_get (D := D) (ci := 5) (C := RX5) (T := TX5) (N := 9) hx hb hts hiX5 hown hKv hP 0 rfl rfl 1 (by decide) lk16 (fun _ h9 => h9) rfl dX5_goBack_6 ?_
    refine va_alen (v := nI 2) hx hb hKv hP 1 2 rfl rfl rfl dX5_goBack_9 ?_
    refine lv_icmp_lt (tgt := 23) hx hb dX5_goBack_10 (by decide) (fun c2 => ?_) (fun c2 => ?_)
    · exact (hF_lt hbad hx0 (by first | exact c2 | exact Int32.not_le.mp c2)).elim
    · obtain ⟨sa9, hst9⟩ := hK.2.s170
      exact vx_throwS (names := ["java/lang/RuntimeException", "java/lang/Exception"]) (A := A) hx hb hnst hown (by decide +kernel) (by decide +kernel) (hts (.classLink RX5 66 "java/lang/IllegalArgumentException") (by decide +kernel)) (hts (.initialized "java/lang/IllegalArgumentException") (by decide +kernel)) hst9 (taX66 (fun w h => hts w (by first | exact List.mem_cons_of_mem _ (List.mem_append_right _ h) | exact List.mem_cons_of_mem _ (List.mem_append_left _ (List.mem_append_right _ h)) | exact List.mem_cons_of_mem _ (List.mem_append_left _ (List.mem_append_left _ (List.mem_append_right _ h))) | exact List.mem_cons_of_mem _ (List.mem_append_left _ (List.mem_append_left _ (List.mem_append_left _ (List.mem_append_right _ h)))))) (va_Nw.use rfl hK.2.cIllegalArgumentException)) tgX66 hZ.2.2.2.1 hZ.2.2.2.2 hS (hl.1.trans hml.symm) dX5_goBack_13 dX5_goBack_16 dX5_goBack_17 dX5_goBack_19 dX5_goBack_22 (fun x h => (hnt9 x h).elim) (by decide) (by decide) (by decide) (by decide) hlocks (fun t _ h1 h2 => ⟨(), trivial, ⟨rfl, my_P_kept hP h2, hD⟩, my_F_kept hS h1 h2⟩) hS.2.2 (by decide) (by decide)
abbrev rm_kX5_goBack_bad2 : Room := { frames := 6, cells := 1, slots := 6, locals := 90 }
set_option maxHeartbeats 4000000 in
set_option maxRecDepth 100000 in
theorem kX5_goBack_bad2 (l : Launch) (hnst : l.stackTraces = false) (D : va_G) (ca : Nat → ClassId) (sz : Nat) (oc os osl ohi obu ord osp onw otr ogd : Nat) (qs : Nat → Option Nat) (q : Nat) (hq : q < 2) (hs9 : qs q = none) : vx_Met l yX5_goBack wsX5_goBack rm_kX5_goBack_bad2 (pcZ D ca [.ref oc, .int (nI q)] [(oc, .inr (5, [.ref os, .ref osl, .ref ohi, .ref obu, .ref ord, .ref osp, .ref onw, .ref otr, .ref ogd])), (osl, .inl (ca 2, 2, .inr (.inr (.inr (.inr qs)))))] sz) (va_Qi (fun (zr : Int32) (u : Unit) => False) (fun _ _ => True) (va_A [(oc, .inr (5, [.ref os, .ref osl, .ref ohi, .ref obu, .ref ord, .ref osp, .ref onw, .ref otr, .ref ogd])), (osl, .inl (ca 2, 2, .inr (.inr (.inr (.inr qs)))))] sz)) (vx_X (fun _ : Unit => True) (fun E _ t => E = "java/lang/IllegalStateException" ∧ va_P D vwCl [(oc, .inr (5, [.ref os, .ref osl, .ref ohi, .ref obu, .ref ord, .ref osp, .ref onw, .ref otr, .ref ogd])), (osl, .inl (ca 2, 2, .inr (.inr (.inr (.inr qs)))))] t.heap ∧ va_D (va_A [(oc, .inr (5, [.ref os, .ref osl, .ref ohi, .ref obu, .ref ord, .ref osp, .ref onw, .ref otr, .ref ogd])), (osl, .inl (ca 2, 2, .inr (.inr (.inr (.inr qs)))))] sz) [(oc, .inr (5, [.ref os, .ref osl, .ref ohi, .ref obu, .ref ord, .ref osp, .ref onw, .ref otr, .ref ogd])), (osl, .inl (ca 2, 2, .inr (.inr (.inr (.inr qs)))))]) (va_A [(oc, .inr (5, [.ref os, .ref osl, .ref ohi, .ref obu, .ref ord, .ref osp, .ref onw, .ref otr, .ref ogd])), (osl, .inl (ca 2, 2, .inr (.inr (.inr (.inr qs)))))] sz)) 1 6 (va_A [(oc, .inr (5, [.ref os, .ref osl, .ref ohi, .ref obu, .ref ord, .ref osp, .ref onw, .ref otr, .ref ogd])), (osl, .inl (ca 2, 2, .inr (.inr (.inr (.inr qs)))))] sz) := by
  refine vx_ofW (cc := cX5_goBack) (maxL := 3) (ret := (some .int)) (by decide) rfl ?_
  intro p e s m args below meth c s₁ B hml hnt9 hv
  obtain ⟨rfl, hsz, hP, hK, hD0, hZ⟩ := hv
  have hx := B.exec
  have hb := B.bytes
  have hr := B.returns
  have hts := atoms_spec (ws := wsX5_goBack) B.pre
  have hown : s.vm.findClass RX5 = some m.cls := findClass_of_methodNamed B.named
  have hlocks := B.notSynchronized
  subst hsz
  have hD := hD0.self (sz := s.heap.size)
  generalize hAe : va_A [(oc, .inr (5, [.ref os, .ref osl, .ref ohi, .ref obu, .ref ord, .ref osp, .ref onw, .ref otr, .ref ogd])), (osl, .inl (ca 2, 2, .inr (.inr (.inr (.inr qs)))))] s.heap.size = A at hD hZ ⊢
  have hA : ∀ q : Nat, s.heap.size ≤ q → A q := fun q h => by rw [← hAe]; exact Or.inr h
  have hS : va_S A s.heap s.heap [] := va_S.rf
  have hP : va_P D vwCl [(oc, .inr (5, [.ref os, .ref osl, .ref ohi, .ref obu, .ref ord, .ref osp, .ref onw, .ref otr, .ref ogd])), (osl, .inl (ca 2, 2, .inr (.inr (.inr (.inr qs)))))] s.heap := hP
  have hKv := hK.1
  have hl := lv_entry ([.ref oc, .int (nI q)]) (n := 3) (kk_le rfl)
  rw [lg_entry_eq]
  generalize (lg_sl ([.ref oc, .int (nI q)]) ++ List.replicate (3 - (lg_sl ([.ref oc, .int (nI q)])).length) Slot.unset).toArray = ls at hl ⊢
  have hl : lv_has ls 3 [(0, .ref oc), (1, .int (nI q))] := hl
  have hiX5 : ∀ w ∈ u_ws RX5 TX5 9, w ∈ wsX5_goBack := fun w h => by first | exact List.mem_cons_of_mem _ (List.mem_append_right _ h) | exact List.mem_cons_of_mem _ (List.mem_append_left _ (List.mem_append_right _ h)) | exact List.mem_cons_of_mem _ (List.mem_append_left _ (List.mem_append_left _ (List.mem_append_right _ h))) | exact List.mem_cons_of_mem _ (List.mem_append_left _ (List.mem_append_left _ (List.mem_append_left _ (List.mem_append_right _ h)))) | (revert w h; decide +kernel)
  have lk16 : (Cond.fieldLink RX5 16 "StripeSwipes" "slots" "[LStripeSwipes$State;").before _ s = true := hts _ (by decide +kernel)
  refine lv_iload_n hx hb dX5_goBack_0 rfl (lv_at hl 1 rfl) ?_
  refine ni_if_lt (tgt := 13) (by omega) hx hb dX5_goBack_1 (by decide) (fun c1 => ?_) (fun c1 => ?_)
  · exact c1.elim
  · refine lv_iload_n hx hb dX5_goBack_4 rfl (lv_at hl 1 rfl) ?_
    refine lv_aload_n hx hb dX5_goBack_5 rfl (lv_at hl 0 rfl) ?_
    refine va_get (D := D) (ci := 5) (C := RX5) (T := TX5) (N := 9) hx hb hts hiX5 hown hKv hP 0 rfl rfl 1 (by decide) lk16 (fun _ h9 => h9) rfl dX5_goBack_6 ?_
    refine va_alen (v := nI 2) hx hb hKv hP 1 2 rfl rfl rfl dX5_goBack_9 ?_
    refine ni_icmp_lt (tgt := 23) (by omega) (by omega) hx hb dX5_goBack_10 (by decide) (fun c2 => ?_) (fun c2 => ?_)
    · refine lv_aload_n hx hb dX5_goBack_23 rfl (lv_at hl 0 rfl) ?_
      refine va_get (D := D) (ci := 5) (C := RX5) (T := TX5) (N := 9) hx hb hts hiX5 hown hKv hP 0 rfl rfl 1 (by decide) lk16 (fun _ h9 => h9) rfl dX5_goBack_24 ?_
      refine lv_iload_n hx hb dX5_goBack_27 rfl (lv_at hl 1 rfl) ?_
      refine my_aldq hx hb hK hP 1 rfl (by omega) (by omega) dX5_goBack_28 ?_
      rw [show va_rf (qs q) = Value.null from by rw [hs9]; rfl]
      refine lv_astore_nN (lv' := [(2, .null), (0, .ref oc), (1, .int (nI q))]) hx hb dX5_goBack_29 rfl hl (by decide) rfl (fun ls hl => ?_)
      refine lv_aload_nN hx hb dX5_goBack_30 rfl (lv_at hl 0 rfl) ?_
      refine lv_ifnonnullN hx hb dX5_goBack_31 ?_
      obtain ⟨sa9, hst9⟩ := hK.2.s174
      exact vx_throwS (names := ["java/lang/RuntimeException", "java/lang/Exception"]) (A := A) hx hb hnst hown (by decide +kernel) (by decide +kernel) (hts (.classLink RX5 97 "java/lang/IllegalStateException") (by decide +kernel)) (hts (.initialized "java/lang/IllegalStateException") (by decide +kernel)) hst9 (taX97 (fun w h => hts w (by first | exact List.mem_cons_of_mem _ (List.mem_append_right _ h) | exact List.mem_cons_of_mem _ (List.mem_append_left _ (List.mem_append_right _ h)) | exact List.mem_cons_of_mem _ (List.mem_append_left _ (List.mem_append_left _ (List.mem_append_right _ h))) | exact List.mem_cons_of_mem _ (List.mem_append_left _ (List.mem_append_left _ (List.mem_append_left _ (List.mem_append_right _ h)))))) (va_Nw.use rfl hK.2.cIllegalStateException)) tgX97 hZ.2.2.2.1 hZ.2.2.2.2 hS (hl.1.trans hml.symm) dX5_goBack_34 dX5_goBack_37 dX5_goBack_38 dX5_goBack_40 dX5_goBack_43 (fun x h => (hnt9 x h).elim) (by decide) (by decide) (by decide) (by decide) hlocks (fun t _ h1 h2 => ⟨(), trivial, ⟨rfl, my_P_kept hP h2, hD⟩, my_F_kept hS h1 h2⟩) hS.2.2 (by decide) (by decide)
    · exact absurd c2 (by omega)
abbrev rm_kX0_takeLatest_no : Room := { frames := 0, cells := 0, slots := 0, locals := 0 }
set_option maxHeartbeats 4000000 in
set_option maxRecDepth 100000 in
theorem kX0_takeLatest_no (l : Launch) (D : va_G) (ca : Nat → ClassId) (h ha : Nat) (qf : Nat → Option Nat) (dp : Nat) (hdp : dp = 0) : Met l yX0_takeLatest wsX0_takeLatest rm_kX0_takeLatest_no (pcR D ca [.ref h] [(h, .inr (0, [.ref ha, .int (nI dp)]))]) (va_Sq (fun zr : Option Nat => zr = none)) 0 0 (fun _ => False) := by
  refine Met.ofW (cc := cX0_takeLatest) (maxL := 1) (ret := (some (.object "StripeSwipes$State"))) (by decide) rfl ?_
  intro p e s m args below meth c s₁ B hml hv
  obtain ⟨rfl, hP, hK⟩ := hv
  have hx := B.exec
  have hb := B.bytes
  have hr := B.returns
  have hts := atoms_spec (ws := wsX0_takeLatest) B.pre
  have hown : s.vm.findClass RX0 = some m.cls := findClass_of_methodNamed B.named
  have hlocks := B.notSynchronized
  have hKv := hK.1
  have hl := lv_entry ([.ref h]) (n := 1) (kk_le rfl)
  rw [lg_entry_eq]
  generalize (lg_sl ([.ref h]) ++ List.replicate (1 - (lg_sl ([.ref h])).length) Slot.unset).toArray = ls at hl ⊢
  have hl : lv_has ls 1 [(0, .ref h)] := hl
  have hiX0 : ∀ w ∈ u_ws RX0 TX0 2, w ∈ wsX0_takeLatest := fun w h => by first | exact List.mem_cons_of_mem _ (List.mem_append_right _ h) | exact List.mem_cons_of_mem _ (List.mem_append_left _ (List.mem_append_right _ h)) | exact List.mem_cons_of_mem _ (List.mem_append_left _ (List.mem_append_left _ (List.mem_append_right _ h))) | exact List.mem_cons_of_mem _ (List.mem_append_left _ (List.mem_append_left _ (List.mem_append_left _ (List.mem_append_right _ h)))) | (revert w h; decide +kernel)
  have lk17 : (Cond.fieldLink RX0 17 "StripeSwipes$History" "depth" "I").before _ s = true := hts _ (by decide +kernel)
  refine lv_aload_n hx hb dX0_takeLatest_0 rfl (lv_at hl 0 rfl) ?_
  refine va_get (D := D) (ci := 0) (C := RX0) (T := TX0) (N := 2) hx hb hts hiX0 hown hKv hP 0 rfl rfl 1 (by decide) lk17 (fun _ h9 => h9) rfl dX0_takeLatest_1 ?_
  refine ni_if_le (tgt := 19) (by omega) hx hb dX0_takeLatest_4 (by decide) (fun c1 => ?_) (fun c1 => ?_)
  · refine lv_null hx hb dX0_takeLatest_19 ?_
    exact W.aret (v := .null) hx hb hr (Or.inl ⟨_, rfl⟩) (Or.inl rfl) (fun t ht _ => ⟨none, rfl, by rfl, ht⟩) (fun _ h => nomatch h) dX0_takeLatest_20
  · exact absurd c1 (by omega)
abbrev rm_kX5_undo_bad : Room := { frames := 6, cells := 1, slots := 6, locals := 90 }
set_option maxHeartbeats 4000000 in
set_option maxRecDepth 100000 in
theorem kX5_undo_bad (l : Launch) (hnst : l.stackTraces = false) (D : va_G) (ca : Nat → ClassId) (sz : Nat) (oc os osl ohi obu ord osp onw otr ogd : Nat) (oha : Nat) (dp : Nat) (hdp : dp = 0) : vx_Met l yX5_undo wsX5_undo rm_kX5_undo_bad (pcZ D ca [.ref oc] [(oc, .inr (5, [.ref os, .ref osl, .ref ohi, .ref obu, .ref ord, .ref osp, .ref onw, .ref otr, .ref ogd])), (ohi, .inr (0, [.ref oha, .int (nI dp)]))] sz) (va_Qi (fun (zr : Int32) (u : Unit) => False) (fun _ _ => True) (va_A [(oc, .inr (5, [.ref os, .ref osl, .ref ohi, .ref obu, .ref ord, .ref osp, .ref onw, .ref otr, .ref ogd])), (ohi, .inr (0, [.ref oha, .int (nI dp)]))] sz)) (vx_X (fun _ : Unit => True) (fun E _ t => E = "java/lang/IllegalStateException" ∧ va_P D vwCl [(oc, .inr (5, [.ref os, .ref osl, .ref ohi, .ref obu, .ref ord, .ref osp, .ref onw, .ref otr, .ref ogd])), (ohi, .inr (0, [.ref oha, .int (nI dp)]))] t.heap ∧ va_D (va_A [(oc, .inr (5, [.ref os, .ref osl, .ref ohi, .ref obu, .ref ord, .ref osp, .ref onw, .ref otr, .ref ogd])), (ohi, .inr (0, [.ref oha, .int (nI dp)]))] sz) [(oc, .inr (5, [.ref os, .ref osl, .ref ohi, .ref obu, .ref ord, .ref osp, .ref onw, .ref otr, .ref ogd])), (ohi, .inr (0, [.ref oha, .int (nI dp)]))]) (va_A [(oc, .inr (5, [.ref os, .ref osl, .ref ohi, .ref obu, .ref ord, .ref osp, .ref onw, .ref otr, .ref ogd])), (ohi, .inr (0, [.ref oha, .int (nI dp)]))] sz)) 1 6 (va_A [(oc, .inr (5, [.ref os, .ref osl, .ref ohi, .ref obu, .ref ord, .ref osp, .ref onw, .ref otr, .ref ogd])), (ohi, .inr (0, [.ref oha, .int (nI dp)]))] sz) := by
  refine vx_ofW (cc := cX5_undo) (maxL := 2) (ret := (some .int)) (by decide) rfl ?_
  intro p e s m args below meth c s₁ B hml hnt9 hv
  obtain ⟨rfl, hsz, hP, hK, hD0, hZ⟩ := hv
  have hx := B.exec
  have hb := B.bytes
  have hr := B.returns
  have hts := atoms_spec (ws := wsX5_undo) B.pre
  have hown : s.vm.findClass RX5 = some m.cls := findClass_of_methodNamed B.named
  have hlocks := B.notSynchronized
  subst hsz
  have hD := hD0.self (sz := s.heap.size)
  generalize hAe : va_A [(oc, .inr (5, [.ref os, .ref osl, .ref ohi, .ref obu, .ref ord, .ref osp, .ref onw, .ref otr, .ref ogd])), (ohi, .inr (0, [.ref oha, .int (nI dp)]))] s.heap.size = A at hD hZ ⊢
  have hA : ∀ q : Nat, s.heap.size ≤ q → A q := fun q h => by rw [← hAe]; exact Or.inr h
  have hS : va_S A s.heap s.heap [] := va_S.rf
  have hP : va_P D vwCl [(oc, .inr (5, [.ref os, .ref osl, .ref ohi, .ref obu, .ref ord, .ref osp, .ref onw, .ref otr, .ref ogd])), (ohi, .inr (0, [.ref oha, .int (nI dp)]))] s.heap := hP
  have hKv := hK.1
  have hl := lv_entry ([.ref oc]) (n := 2) (kk_le rfl)
  rw [lg_entry_eq]
  generalize (lg_sl ([.ref oc]) ++ List.replicate (2 - (lg_sl ([.ref oc])).length) Slot.unset).toArray = ls at hl ⊢
  have hl : lv_has ls 2 [(0, .ref oc)] := hl
  have hiX5 : ∀ w ∈ u_ws RX5 TX5 9, w ∈ wsX5_undo := fun w h => by first | exact List.mem_cons_of_mem _ (List.mem_append_right _ h) | exact List.mem_cons_of_mem _ (List.mem_append_left _ (List.mem_append_right _ h)) | exact List.mem_cons_of_mem _ (List.mem_append_left _ (List.mem_append_left _ (List.mem_append_right _ h))) | exact List.mem_cons_of_mem _ (List.mem_append_left _ (List.mem_append_left _ (List.mem_append_left _ (List.mem_append_right _ h)))) | (revert w h; decide +kernel)
  have lk23 : (Cond.fieldLink RX5 23 "StripeSwipes" "history" "LStripeSwipes$History;").before _ s = true := hts _ (by decide +kernel)
  refine lv_aload_n hx hb dX5_undo_0 rfl (lv_at hl 0 rfl) ?_
  refine va_get (D := D) (ci := 5) (C := RX5) (T := TX5) (N := 9) hx hb hts hiX5 hown hKv hP 0 rfl rfl 2 (by decide) lk23 (fun _ h9 => h9) rfl dX5_undo_1 ?_
  refine va_csq (va_Run.run (va_runV (As := []) (rest := []) ⟨hx, hb, hml, hown, hts⟩ (kX0_takeLatest_no l D ca ohi oha (fun _ => none) dp (by first | rfl | assumption | omega | trivial | (exfalso; omega))) (cwV 0 hts gX5_undo_X0_takeLatest rfl rfl rfl (by decide +kernel) ⟨kk_le rfl, kk_le rfl⟩) (pvR hK (hP.sub (ws' := [(ohi, .inr (0, [.ref oha, .int (nI dp)]))]) [1] rfl) (va_recv hKv hP (ci := 0) (q0 := 1) rfl rfl)) rfl rfl hl.1 rfl (lv_room (kk_le rfl)) dX5_undo_4 ⟨kk_le rfl, kk_le rfl⟩)) (fun r1 hr1 => ?_)
  have hr1 := hr1.symm
  subst hr1
  rw [show va_rf none = Value.null from rfl]
  refine lv_astore_nN (lv' := [(1, .null), (0, .ref oc)]) hx hb dX5_undo_7 rfl hl (by decide) rfl (fun ls hl => ?_)
  refine lv_aload_nN hx hb dX5_undo_8 rfl (lv_at hl 0 rfl) ?_
  refine lv_ifnonnullN hx hb dX5_undo_9 ?_
  obtain ⟨sa9, hst9⟩ := hK.2.s180
  exact vx_throwS (names := ["java/lang/RuntimeException", "java/lang/Exception"]) (A := A) hx hb hnst hown (by decide +kernel) (by decide +kernel) (hts (.classLink RX5 97 "java/lang/IllegalStateException") (by decide +kernel)) (hts (.initialized "java/lang/IllegalStateException") (by decide +kernel)) hst9 (taX97 (fun w h => hts w (by first | exact List.mem_cons_of_mem _ (List.mem_append_right _ h) | exact List.mem_cons_of_mem _ (List.mem_append_left _ (List.mem_append_right _ h)) | exact List.mem_cons_of_mem _ (List.mem_append_left _ (List.mem_append_left _ (List.mem_append_right _ h))) | exact List.mem_cons_of_mem _ (List.mem_append_left _ (List.mem_append_left _ (List.mem_append_left _ (List.mem_append_right _ h)))))) (va_Nw.use rfl hK.2.cIllegalStateException)) tgX97 hZ.2.2.2.1 hZ.2.2.2.2 hS (hl.1.trans hml.symm) dX5_undo_12 dX5_undo_15 dX5_undo_16 dX5_undo_18 dX5_undo_21 (fun x h => (hnt9 x h).elim) (by decide) (by decide) (by decide) (by decide) hlocks (fun t _ h1 h2 => ⟨(), trivial, ⟨rfl, my_P_kept hP h2, hD⟩, my_F_kept hS h1 h2⟩) hS.2.2 (by decide) (by decide)
abbrev rm_kX5_write_bad : Room := { frames := 6, cells := 1, slots := 6, locals := 90 }
set_option maxHeartbeats 4000000 in
set_option maxRecDepth 100000 in
theorem kX5_write_bad (l : Launch) (hnst : l.stackTraces = false) (D : va_G) (ca : Nat → ClassId) (sz : Nat) (oc os osl ohi obu ord osp onw otr ogd : Nat) (bua : Nat) (fb : Nat → Int32) (ln : Nat) (hln : ln ≤ 40) (hbad : erN fb ln < ln ∨ ln = 0) : vx_Met l yX5_write wsX5_write rm_kX5_write_bad (pcZ D ca [.ref oc] [(oc, .inr (5, [.ref os, .ref osl, .ref ohi, .ref obu, .ref ord, .ref osp, .ref onw, .ref otr, .ref ogd])), (obu, .inr (2, [.ref bua, .int (nI ln)])), (bua, .inl (ca 0, 40, .inl fb))] sz) (va_Qi (fun (zr : Int32) (u : Unit) => False) (fun _ _ => True) (va_A [(oc, .inr (5, [.ref os, .ref osl, .ref ohi, .ref obu, .ref ord, .ref osp, .ref onw, .ref otr, .ref ogd])), (obu, .inr (2, [.ref bua, .int (nI ln)])), (bua, .inl (ca 0, 40, .inl fb))] sz)) (vx_X (fun _ : Unit => True) (fun E _ t => E = "java/lang/IllegalArgumentException" ∧ va_P D vwCl [(oc, .inr (5, [.ref os, .ref osl, .ref ohi, .ref obu, .ref ord, .ref osp, .ref onw, .ref otr, .ref ogd])), (obu, .inr (2, [.ref bua, .int (nI ln)])), (bua, .inl (ca 0, 40, .inl fb))] t.heap ∧ va_D (va_A [(oc, .inr (5, [.ref os, .ref osl, .ref ohi, .ref obu, .ref ord, .ref osp, .ref onw, .ref otr, .ref ogd])), (obu, .inr (2, [.ref bua, .int (nI ln)])), (bua, .inl (ca 0, 40, .inl fb))] sz) [(oc, .inr (5, [.ref os, .ref osl, .ref ohi, .ref obu, .ref ord, .ref osp, .ref onw, .ref otr, .ref ogd])), (obu, .inr (2, [.ref bua, .int (nI ln)])), (bua, .inl (ca 0, 40, .inl fb))]) (va_A [(oc, .inr (5, [.ref os, .ref osl, .ref ohi, .ref obu, .ref ord, .ref osp, .ref onw, .ref otr, .ref ogd])), (obu, .inr (2, [.ref bua, .int (nI ln)])), (bua, .inl (ca 0, 40, .inl fb))] sz)) 1 6 (va_A [(oc, .inr (5, [.ref os, .ref osl, .ref ohi, .ref obu, .ref ord, .ref osp, .ref onw, .ref otr, .ref ogd])), (obu, .inr (2, [.ref bua, .int (nI ln)])), (bua, .inl (ca 0, 40, .inl fb))] sz) := by
  refine vx_ofW (cc := cX5_write) (maxL := 2) (ret := (some .int)) (by decide) rfl ?_
  intro p e s m args below meth c s₁ B hml hnt9 hv
  obtain ⟨rfl, hsz, hP, hK, hD0, hZ⟩ := hv
  have hx := B.exec
  have hb := B.bytes
  have hr := B.returns
  have hts := atoms_spec (ws := wsX5_write) B.pre
  have hown : s.vm.findClass RX5 = some m.cls := findClass_of_methodNamed B.named
  have hlocks := B.notSynchronized
  subst hsz
  have hD := hD0.self (sz := s.heap.size)
  generalize hAe : va_A [(oc, .inr (5, [.ref os, .ref osl, .ref ohi, .ref obu, .ref ord, .ref osp, .ref onw, .ref otr, .ref ogd])), (obu, .inr (2, [.ref bua, .int (nI ln)])), (bua, .inl (ca 0, 40, .inl fb))] s.heap.size = A at hD hZ ⊢
  have hA : ∀ q : Nat, s.heap.size ≤ q → A q := fun q h => by rw [← hAe]; exact Or.inr h
  have hS : va_S A s.heap s.heap [] := va_S.rf
  have hP : va_P D vwCl [(oc, .inr (5, [.ref os, .ref osl, .ref ohi, .ref obu, .ref ord, .ref osp, .ref onw, .ref otr, .ref ogd])), (obu, .inr (2, [.ref bua, .int (nI ln)])), (bua, .inl (ca 0, 40, .inl fb))] s.heap := hP
  have hKv := hK.1
  have hl := lv_entry ([.ref oc]) (n := 2) (kk_le rfl)
  rw [lg_entry_eq]
  generalize (lg_sl ([.ref oc]) ++ List.replicate (2 - (lg_sl ([.ref oc])).length) Slot.unset).toArray = ls at hl ⊢
  have hl : lv_has ls 2 [(0, .ref oc)] := hl
  have hiX5 : ∀ w ∈ u_ws RX5 TX5 9, w ∈ wsX5_write := fun w h => by first | exact List.mem_cons_of_mem _ (List.mem_append_right _ h) | exact List.mem_cons_of_mem _ (List.mem_append_left _ (List.mem_append_right _ h)) | exact List.mem_cons_of_mem _ (List.mem_append_left _ (List.mem_append_left _ (List.mem_append_right _ h))) | exact List.mem_cons_of_mem _ (List.mem_append_left _ (List.mem_append_left _ (List.mem_append_left _ (List.mem_append_right _ h)))) | (revert w h; decide +kernel)
  have lk32 : (Cond.fieldLink RX5 32 "StripeSwipes" "buffer" "LStripeSwipes$Row;").before _ s = true := hts _ (by decide +kernel)
  refine lv_aload_n hx hb dX5_write_0 rfl (lv_at hl 0 rfl) ?_
  refine va_get (D := D) (ci := 5) (C := RX5) (T := TX5) (N := 9) hx hb hts hiX5 hown hKv hP 0 rfl rfl 3 (by decide) lk32 (fun _ h9 => h9) rfl dX5_write_1 ?_
  refine vp_callSi (va_Run.run (va_runV (As := []) (rest := []) ⟨hx, hb, hml, hown, hts⟩ (kX2_size l D ca obu bua 40 fb ln (by first | rfl | assumption | omega | trivial | (exfalso; omega)) (by first | rfl | assumption | omega | trivial | (exfalso; omega))) (cwV 0 hts gX5_write_X2_size rfl rfl rfl (by decide +kernel) ⟨kk_le rfl, kk_le rfl⟩) (pvR hK (hP.sub (ws' := [(obu, .inr (2, [.ref bua, .int (nI ln)])), (bua, .inl (ca 0, 40, .inl fb))]) [1, 2] rfl) (va_recv hKv hP (ci := 2) (q0 := 1) rfl rfl)) rfl rfl hl.1 rfl (lv_room (kk_le rfl)) dX5_write_4 ⟨kk_le rfl, kk_le rfl⟩)) (fun r1 hr1 => ?_)
  subst hr1
  refine ni_if_eq (tgt := 24) (by omega) hx hb dX5_write_7 (by decide) (fun c2 => ?_) (fun c2 => ?_)
  · obtain ⟨sa9, hst9⟩ := hK.2.s68
    exact vx_throwS (names := ["java/lang/RuntimeException", "java/lang/Exception"]) (A := A) hx hb hnst hown (by decide +kernel) (by decide +kernel) (hts (.classLink RX5 66 "java/lang/IllegalArgumentException") (by decide +kernel)) (hts (.initialized "java/lang/IllegalArgumentException") (by decide +kernel)) hst9 (taX66 (fun w h => hts w (by first | exact List.mem_cons_of_mem _ (List.mem_append_right _ h) | exact List.mem_cons_of_mem _ (List.mem_append_left _ (List.mem_append_right _ h)) | exact List.mem_cons_of_mem _ (List.mem_append_left _ (List.mem_append_left _ (List.mem_append_right _ h))) | exact List.mem_cons_of_mem _ (List.mem_append_left _ (List.mem_append_left _ (List.mem_append_left _ (List.mem_append_right _ h)))))) (va_Nw.use rfl hK.2.cIllegalArgumentException)) tgX66 hZ.2.2.2.1 hZ.2.2.2.2 hS (hl.1.trans hml.symm) dX5_write_24 dX5_write_27 dX5_write_28 dX5_write_30 dX5_write_33 (fun x h => (hnt9 x h).elim) (by decide) (by decide) (by decide) (by decide) hlocks (fun t _ h1 h2 => ⟨(), trivial, ⟨rfl, my_P_kept hP h2, hD⟩, my_F_kept hS h1 h2⟩) hS.2.2 (by decide) (by decide)
  · refine lv_aload_n hx hb dX5_write_10 rfl (lv_at hl 0 rfl) ?_
    refine vp_callSi (va_Run.run (va_runV (As := []) (rest := []) ⟨hx, hb, hml, hown, hts⟩ (kX5_errorPlace l D ca oc os osl ohi obu ord osp onw otr ogd bua fb ln (by first | rfl | assumption | omega | trivial | (exfalso; omega))) (cwV 0 hts gX5_write_X5_errorPlace rfl rfl rfl (by decide +kernel) ⟨kk_le rfl, kk_le rfl⟩) (pvR hK hP (va_recv hKv hP (ci := 5) (q0 := 0) rfl rfl)) rfl rfl hl.1 rfl (lv_room (kk_le rfl)) dX5_write_11 ⟨kk_le rfl, kk_le rfl⟩)) (fun r3 hr3 => ?_)
    subst hr3
    refine lv_aload_n hx hb dX5_write_14 rfl (lv_at hl 0 rfl) ?_
    refine va_get (D := D) (ci := 5) (C := RX5) (T := TX5) (N := 9) hx hb hts hiX5 hown hKv hP 0 rfl rfl 3 (by decide) lk32 (fun _ h9 => h9) rfl dX5_write_15 ?_
    refine vp_callSi (va_Run.run (va_runV (As := []) (rest := [.int (nI (erN fb ln))]) ⟨hx, hb, hml, hown, hts⟩ (kX2_size l D ca obu bua 40 fb ln (by first | rfl | assumption | omega | trivial | (exfalso; omega)) (by first | rfl | assumption | omega | trivial | (exfalso; omega))) (cwV 0 hts gX5_write_X2_size rfl rfl rfl (by decide +kernel) ⟨kk_le rfl, kk_le rfl⟩) (pvR hK (hP.sub (ws' := [(obu, .inr (2, [.ref bua, .int (nI ln)])), (bua, .inl (ca 0, 40, .inl fb))]) [1, 2] rfl) (va_recv hKv hP (ci := 2) (q0 := 1) rfl rfl)) rfl rfl hl.1 rfl (lv_room (kk_le rfl)) dX5_write_18 ⟨kk_le rfl, kk_le rfl⟩)) (fun r4 hr4 => ?_)
    subst hr4
    refine ni_icmp_ge (tgt := 34) (by omega) (by omega) hx hb dX5_write_21 (by decide) (fun c5 => ?_) (fun c5 => ?_)
    · exact absurd c5 (by omega)
    · obtain ⟨sa9, hst9⟩ := hK.2.s68
      exact vx_throwS (names := ["java/lang/RuntimeException", "java/lang/Exception"]) (A := A) hx hb hnst hown (by decide +kernel) (by decide +kernel) (hts (.classLink RX5 66 "java/lang/IllegalArgumentException") (by decide +kernel)) (hts (.initialized "java/lang/IllegalArgumentException") (by decide +kernel)) hst9 (taX66 (fun w h => hts w (by first | exact List.mem_cons_of_mem _ (List.mem_append_right _ h) | exact List.mem_cons_of_mem _ (List.mem_append_left _ (List.mem_append_right _ h)) | exact List.mem_cons_of_mem _ (List.mem_append_left _ (List.mem_append_left _ (List.mem_append_right _ h))) | exact List.mem_cons_of_mem _ (List.mem_append_left _ (List.mem_append_left _ (List.mem_append_left _ (List.mem_append_right _ h)))))) (va_Nw.use rfl hK.2.cIllegalArgumentException)) tgX66 hZ.2.2.2.1 hZ.2.2.2.2 hS (hl.1.trans hml.symm) dX5_write_24 dX5_write_27 dX5_write_28 dX5_write_30 dX5_write_33 (fun x h => (hnt9 x h).elim) (by decide) (by decide) (by decide) (by decide) hlocks (fun t _ h1 h2 => ⟨(), trivial, ⟨rfl, my_P_kept hP h2, hD⟩, my_F_kept hS h1 h2⟩) hS.2.2 (by decide) (by decide)
abbrev rm_kX5_write_bad2 : Room := { frames := 6, cells := 1, slots := 6, locals := 90 }
set_option maxHeartbeats 4000000 in
set_option maxRecDepth 100000 in
theorem kX5_write_bad2 (l : Launch) (hnst : l.stackTraces = false) (D : va_G) (ca : Nat → ClassId) (sz : Nat) (oc os osl ohi obu ord osp onw otr ogd : Nat) (t1 l1 g1 : Nat) (g2 : Nat) (z : Nat) (r f j : Int32) (s1 s2 : Nat) (fp : Nat → Int32) (pn : Nat) (bua : Nat) (fb : Nat → Int32) (ln : Nat) (nwa : Nat) (fw : Nat → Int32) (wn : Nat) (hz : z ≤ 30) (hpn : pn ≤ 200) (hwn : wn ≤ 20) (hln : ln ≤ 40) (hl0 : 0 < ln) (her : erN fb ln = ln) (hbad : 200 < (2 * z + 5 * (ln + 3)) + onesN (strp z (lcL fb ln))) : vx_Met l yX5_write wsX5_write rm_kX5_write_bad2 (pcZ D ca [.ref oc] [(oc, .inr (5, [.ref os, .ref osl, .ref ohi, .ref obu, .ref ord, .ref osp, .ref onw, .ref otr, .ref ogd])), (os, .inr (3, [.ref t1, .ref l1, .ref g1])), (g1, .inr (2, [.ref g2, .int (nI 4)])), (g2, .inl (ca 0, 4, .inl (seF z r f j))), (osp, .inr (4, [.ref s1])), (s1, .inr (2, [.ref s2, .int (nI pn)])), (s2, .inl (ca 0, 200, .inl fp)), (obu, .inr (2, [.ref bua, .int (nI ln)])), (bua, .inl (ca 0, 40, .inl fb)), (onw, .inr (2, [.ref nwa, .int (nI wn)])), (nwa, .inl (ca 0, 20, .inl fw))] sz) (va_Qi (fun (zr : Int32) (u : Unit) => False) (fun _ _ => True) (va_A [(oc, .inr (5, [.ref os, .ref osl, .ref ohi, .ref obu, .ref ord, .ref osp, .ref onw, .ref otr, .ref ogd])), (os, .inr (3, [.ref t1, .ref l1, .ref g1])), (g1, .inr (2, [.ref g2, .int (nI 4)])), (g2, .inl (ca 0, 4, .inl (seF z r f j))), (osp, .inr (4, [.ref s1])), (s1, .inr (2, [.ref s2, .int (nI pn)])), (s2, .inl (ca 0, 200, .inl fp)), (obu, .inr (2, [.ref bua, .int (nI ln)])), (bua, .inl (ca 0, 40, .inl fb)), (onw, .inr (2, [.ref nwa, .int (nI wn)])), (nwa, .inl (ca 0, 20, .inl fw))] sz)) (vx_X (fun _ : Unit => True) (fun E _ t => E = "java/lang/IllegalStateException" ∧ va_P D vwCl [(oc, .inr (5, [.ref os, .ref osl, .ref ohi, .ref obu, .ref ord, .ref osp, .ref onw, .ref otr, .ref ogd])), (os, .inr (3, [.ref t1, .ref l1, .ref g1])), (g1, .inr (2, [.ref g2, .int (nI 4)])), (g2, .inl (ca 0, 4, .inl (seF z r f j))), (osp, .inr (4, [.ref s1])), (s1, .inr (2, [.ref s2, .int (nI ((strp z (lcL fb ln)).length))])), (s2, .inl (ca 0, 200, .inl (apF fp 0 (strp z (lcL fb ln))))), (obu, .inr (2, [.ref bua, .int (nI ln)])), (bua, .inl (ca 0, 40, .inl fb)), (onw, .inr (2, [.ref nwa, .int (nI ln)])), (nwa, .inl (ca 0, 20, .inl (apF fw 0 (lcL fb ln))))] t.heap ∧ va_D (va_A [(oc, .inr (5, [.ref os, .ref osl, .ref ohi, .ref obu, .ref ord, .ref osp, .ref onw, .ref otr, .ref ogd])), (os, .inr (3, [.ref t1, .ref l1, .ref g1])), (g1, .inr (2, [.ref g2, .int (nI 4)])), (g2, .inl (ca 0, 4, .inl (seF z r f j))), (osp, .inr (4, [.ref s1])), (s1, .inr (2, [.ref s2, .int (nI pn)])), (s2, .inl (ca 0, 200, .inl fp)), (obu, .inr (2, [.ref bua, .int (nI ln)])), (bua, .inl (ca 0, 40, .inl fb)), (onw, .inr (2, [.ref nwa, .int (nI wn)])), (nwa, .inl (ca 0, 20, .inl fw))] sz) [(oc, .inr (5, [.ref os, .ref osl, .ref ohi, .ref obu, .ref ord, .ref osp, .ref onw, .ref otr, .ref ogd])), (os, .inr (3, [.ref t1, .ref l1, .ref g1])), (g1, .inr (2, [.ref g2, .int (nI 4)])), (g2, .inl (ca 0, 4, .inl (seF z r f j))), (osp, .inr (4, [.ref s1])), (s1, .inr (2, [.ref s2, .int (nI ((strp z (lcL fb ln)).length))])), (s2, .inl (ca 0, 200, .inl (apF fp 0 (strp z (lcL fb ln))))), (obu, .inr (2, [.ref bua, .int (nI ln)])), (bua, .inl (ca 0, 40, .inl fb)), (onw, .inr (2, [.ref nwa, .int (nI ln)])), (nwa, .inl (ca 0, 20, .inl (apF fw 0 (lcL fb ln))))]) (va_A [(oc, .inr (5, [.ref os, .ref osl, .ref ohi, .ref obu, .ref ord, .ref osp, .ref onw, .ref otr, .ref ogd])), (os, .inr (3, [.ref t1, .ref l1, .ref g1])), (g1, .inr (2, [.ref g2, .int (nI 4)])), (g2, .inl (ca 0, 4, .inl (seF z r f j))), (osp, .inr (4, [.ref s1])), (s1, .inr (2, [.ref s2, .int (nI pn)])), (s2, .inl (ca 0, 200, .inl fp)), (obu, .inr (2, [.ref bua, .int (nI ln)])), (bua, .inl (ca 0, 40, .inl fb)), (onw, .inr (2, [.ref nwa, .int (nI wn)])), (nwa, .inl (ca 0, 20, .inl fw))] sz)) 1 6 (va_A [(oc, .inr (5, [.ref os, .ref osl, .ref ohi, .ref obu, .ref ord, .ref osp, .ref onw, .ref otr, .ref ogd])), (os, .inr (3, [.ref t1, .ref l1, .ref g1])), (g1, .inr (2, [.ref g2, .int (nI 4)])), (g2, .inl (ca 0, 4, .inl (seF z r f j))), (osp, .inr (4, [.ref s1])), (s1, .inr (2, [.ref s2, .int (nI pn)])), (s2, .inl (ca 0, 200, .inl fp)), (obu, .inr (2, [.ref bua, .int (nI ln)])), (bua, .inl (ca 0, 40, .inl fb)), (onw, .inr (2, [.ref nwa, .int (nI wn)])), (nwa, .inl (ca 0, 20, .inl fw))] sz) := by
  refine vx_ofW (cc := cX5_write) (maxL := 2) (ret := (some .int)) (by decide) rfl ?_
  intro p e s m args below meth c s₁ B hml hnt9 hv
  obtain ⟨rfl, hsz, hP, hK, hD0, hZ⟩ := hv
  have hx := B.exec
  have hb := B.bytes
  have hr := B.returns
  have hts := atoms_spec (ws := wsX5_write) B.pre
  have hown : s.vm.findClass RX5 = some m.cls := findClass_of_methodNamed B.named
  have hlocks := B.notSynchronized
  subst hsz
  have hD := hD0.self (sz := s.heap.size)
  generalize hAe : va_A [(oc, .inr (5, [.ref os, .ref osl, .ref ohi, .ref obu, .ref ord, .ref osp, .ref onw, .ref otr, .ref ogd])), (os, .inr (3, [.ref t1, .ref l1, .ref g1])), (g1, .inr (2, [.ref g2, .int (nI 4)])), (g2, .inl (ca 0, 4, .inl (seF z r f j))), (osp, .inr (4, [.ref s1])), (s1, .inr (2, [.ref s2, .int (nI pn)])), (s2, .inl (ca 0, 200, .inl fp)), (obu, .inr (2, [.ref bua, .int (nI ln)])), (bua, .inl (ca 0, 40, .inl fb)), (onw, .inr (2, [.ref nwa, .int (nI wn)])), (nwa, .inl (ca 0, 20, .inl fw))] s.heap.size = A at hD hZ ⊢
  have hA : ∀ q : Nat, s.heap.size ≤ q → A q := fun q h => by rw [← hAe]; exact Or.inr h
  have hS : va_S A s.heap s.heap [] := va_S.rf
  have hP : va_P D vwCl [(oc, .inr (5, [.ref os, .ref osl, .ref ohi, .ref obu, .ref ord, .ref osp, .ref onw, .ref otr, .ref ogd])), (os, .inr (3, [.ref t1, .ref l1, .ref g1])), (g1, .inr (2, [.ref g2, .int (nI 4)])), (g2, .inl (ca 0, 4, .inl (seF z r f j))), (osp, .inr (4, [.ref s1])), (s1, .inr (2, [.ref s2, .int (nI pn)])), (s2, .inl (ca 0, 200, .inl fp)), (obu, .inr (2, [.ref bua, .int (nI ln)])), (bua, .inl (ca 0, 40, .inl fb)), (onw, .inr (2, [.ref nwa, .int (nI wn)])), (nwa, .inl (ca 0, 20, .inl fw))] s.heap := hP
  have hKv := hK.1
  have hl := lv_entry ([.ref oc]) (n := 2) (kk_le rfl)
  rw [lg_entry_eq]
  generalize (lg_sl ([.ref oc]) ++ List.replicate (2 - (lg_sl ([.ref oc])).length) Slot.unset).toArray = ls at hl ⊢
  have hl : lv_has ls 2 [(0, .ref oc)] := hl
  generalize hQz : vx_MQ below _ _ _ _ _ _ _ = Qz
  obtain ⟨h40, h20⟩ := erN_le fb ln (by omega)
  rw [her] at h20
  have hSl : (strp z (lcL fb ln)).length = 2 * z + 5 * (ln + 3) := by rw [strp_len, show (lcL fb ln).length = ln from lst_len _ _]
  have hon9 := onesN_le (strp z (lcL fb ln))
  have hiX5 : ∀ w ∈ u_ws RX5 TX5 9, w ∈ wsX5_write := fun w h => by first | exact List.mem_cons_of_mem _ (List.mem_append_right _ h) | exact List.mem_cons_of_mem _ (List.mem_append_left _ (List.mem_append_right _ h)) | exact List.mem_cons_of_mem _ (List.mem_append_left _ (List.mem_append_left _ (List.mem_append_right _ h))) | exact List.mem_cons_of_mem _ (List.mem_append_left _ (List.mem_append_left _ (List.mem_append_left _ (List.mem_append_right _ h)))) | (revert w h; decide +kernel)
  have lk32 : (Cond.fieldLink RX5 32 "StripeSwipes" "buffer" "LStripeSwipes$Row;").before _ s = true := hts _ (by decide +kernel)
  have lk50 : (Cond.fieldLink RX5 50 "StripeSwipes" "newLetters" "LStripeSwipes$Row;").before _ s = true := hts _ (by decide +kernel)
  have lk46 : (Cond.fieldLink RX5 46 "StripeSwipes" "stripe" "LStripeSwipes$Stripe;").before _ s = true := hts _ (by decide +kernel)
  refine lv_aload_n hx hb dX5_write_0 rfl (lv_at hl 0 rfl) ?_
  refine va_get (D := D) (ci := 5) (C := RX5) (T := TX5) (N := 9) hx hb hts hiX5 hown hKv hP 0 rfl rfl 3 (by decide) lk32 (fun _ h9 => h9) rfl dX5_write_1 ?_
  refine vp_callSi (va_Run.run (va_runV (As := []) (rest := []) ⟨hx, hb, hml, hown, hts⟩ (kX2_size l D ca obu bua 40 fb ln (by first | rfl | assumption | omega | trivial | (exfalso; omega)) (by first | rfl | assumption | omega | trivial | (exfalso; omega))) (cwV 0 hts gX5_write_X2_size rfl rfl rfl (by decide +kernel) ⟨kk_le rfl, kk_le rfl⟩) (pvR hK (hP.sub (ws' := [(obu, .inr (2, [.ref bua, .int (nI ln)])), (bua, .inl (ca 0, 40, .inl fb))]) [7, 8] rfl) (va_recv hKv hP (ci := 2) (q0 := 7) rfl rfl)) rfl rfl hl.1 rfl (lv_room (kk_le rfl)) dX5_write_4 ⟨kk_le rfl, kk_le rfl⟩)) (fun r1 hr1 => ?_)
  subst hr1
  refine ni_if_eq (tgt := 24) (by omega) hx hb dX5_write_7 (by decide) (fun c2 => ?_) (fun c2 => ?_)
  · exact absurd c2 (by omega)
  · refine lv_aload_n hx hb dX5_write_10 rfl (lv_at hl 0 rfl) ?_
    refine vp_callSi (va_Run.run (va_runV (As := []) (rest := []) ⟨hx, hb, hml, hown, hts⟩ (kX5_errorPlace l D ca oc os osl ohi obu ord osp onw otr ogd bua fb ln (by first | rfl | assumption | omega | trivial | (exfalso; omega))) (cwV 0 hts gX5_write_X5_errorPlace rfl rfl rfl (by decide +kernel) ⟨kk_le rfl, kk_le rfl⟩) (pvR hK (hP.sub (ws' := [(oc, .inr (5, [.ref os, .ref osl, .ref ohi, .ref obu, .ref ord, .ref osp, .ref onw, .ref otr, .ref ogd])), (obu, .inr (2, [.ref bua, .int (nI ln)])), (bua, .inl (ca 0, 40, .inl fb))]) [0, 7, 8] rfl) (va_recv hKv hP (ci := 5) (q0 := 0) rfl rfl)) rfl rfl hl.1 rfl (lv_room (kk_le rfl)) dX5_write_11 ⟨kk_le rfl, kk_le rfl⟩)) (fun r3 hr3 => ?_)
    subst hr3
    have e4 : (nI (erN fb ln) : Int32) = nI ln := congrArg nI her
    rw [e4]
    refine lv_aload_n hx hb dX5_write_14 rfl (lv_at hl 0 rfl) ?_
    refine va_get (D := D) (ci := 5) (C := RX5) (T := TX5) (N := 9) hx hb hts hiX5 hown hKv hP 0 rfl rfl 3 (by decide) lk32 (fun _ h9 => h9) rfl dX5_write_15 ?_
    refine vp_callSi (va_Run.run (va_runV (As := []) (rest := [.int (nI ln)]) ⟨hx, hb, hml, hown, hts⟩ (kX2_size l D ca obu bua 40 fb ln (by first | rfl | assumption | omega | trivial | (exfalso; omega)) (by first | rfl | assumption | omega | trivial | (exfalso; omega))) (cwV 0 hts gX5_write_X2_size rfl rfl rfl (by decide +kernel) ⟨kk_le rfl, kk_le rfl⟩) (pvR hK (hP.sub (ws' := [(obu, .inr (2, [.ref bua, .int (nI ln)])), (bua, .inl (ca 0, 40, .inl fb))]) [7, 8] rfl) (va_recv hKv hP (ci := 2) (q0 := 7) rfl rfl)) rfl rfl hl.1 rfl (lv_room (kk_le rfl)) dX5_write_18 ⟨kk_le rfl, kk_le rfl⟩)) (fun r5 hr5 => ?_)
    subst hr5
    refine ni_icmp_ge (tgt := 34) (by omega) (by omega) hx hb dX5_write_21 (by decide) (fun c6 => ?_) (fun c6 => ?_)
    · refine lv_aload_n hx hb dX5_write_34 rfl (lv_at hl 0 rfl) ?_
      refine va_get (D := D) (ci := 5) (C := RX5) (T := TX5) (N := 9) hx hb hts hiX5 hown hKv hP 0 rfl rfl 6 (by decide) lk50 (fun _ h9 => h9) rfl dX5_write_35 ?_
      have hPc := hP.sub (ws' := [(onw, .inr (2, [.ref nwa, .int (nI wn)])), (nwa, .inl (ca 0, 20, .inl fw))]) [9, 10] rfl
      have hDc := hD.sub (ws' := [(onw, .inr (2, [.ref nwa, .int (nI wn)])), (nwa, .inl (ca 0, 20, .inl fw))]) [9, 10] (by decide) rfl
      have hFc := va_free (wc := [(onw, .inr (2, [.ref nwa, .int (nI wn)])), (nwa, .inl (ca 0, 20, .inl fw))]) hD hS hA [9, 10] rfl
      refine va_callv (va_runV (As := []) (rest := []) ⟨hx, hb, hml, hown, hts⟩ (kX2_empty l D ca s.heap.size onw nwa 20 fw wn (by first | rfl | assumption | omega | trivial | (exfalso; omega)) (by first | rfl | assumption | omega | trivial | (exfalso; omega))) (cwV 0 hts gX5_write_X2_empty rfl rfl rfl (by decide +kernel) ⟨kk_le rfl, kk_le rfl⟩) (pvM hK hPc (my_D_true hDc) (va_recv hKv hP (ci := 2) (q0 := 9) rfl rfl)) rfl rfl hl.1 rfl (lv_room (kk_le rfl)) dX5_write_38 ⟨kk_le rfl, kk_le rfl⟩) hS (fun q _ h => hFc q h) hFc (fun u t H1 locs ht hvm hwv hBv hz1 hk1 hS => ?_)
      obtain ⟨hP1, hD1⟩ := hBv
      rw [ht] at hP1
      have hP1 : va_P D vwCl [(onw, .inr (2, [.ref nwa, .int (nI 0)])), (nwa, .inl (ca 0, 20, .inl fw))] H1 := hP1
      have hD1 : va_D _ [(onw, .inr (2, [.ref nwa, .int (nI 0)])), (nwa, .inl (ca 0, 20, .inl fw))] := hD1
      have hw7 := hwv
      obtain ⟨hP, hD⟩ := va_join (wr := [(oc, .inr (5, [.ref os, .ref osl, .ref ohi, .ref obu, .ref ord, .ref osp, .ref onw, .ref otr, .ref ogd])), (os, .inr (3, [.ref t1, .ref l1, .ref g1])), (g1, .inr (2, [.ref g2, .int (nI 4)])), (g2, .inl (ca 0, 4, .inl (seF z r f j))), (osp, .inr (4, [.ref s1])), (s1, .inr (2, [.ref s2, .int (nI pn)])), (s2, .inl (ca 0, 200, .inl fp)), (obu, .inr (2, [.ref bua, .int (nI ln)])), (bua, .inl (ca 0, 40, .inl fb))]) (w1 := [(onw, .inr (2, [.ref nwa, .int (nI 0)])), (nwa, .inl (ca 0, 20, .inl fw))]) hP hD [9, 10] [0, 1, 2, 3, 4, 5, 6, 7, 8] rfl rfl (by decide) (by decide) hk1 hFc hP1 hD1
      generalize H1 = H at hP hS ⊢
      have hP := hP.sub (ws' := [(oc, .inr (5, [.ref os, .ref osl, .ref ohi, .ref obu, .ref ord, .ref osp, .ref onw, .ref otr, .ref ogd])), (os, .inr (3, [.ref t1, .ref l1, .ref g1])), (g1, .inr (2, [.ref g2, .int (nI 4)])), (g2, .inl (ca 0, 4, .inl (seF z r f j))), (osp, .inr (4, [.ref s1])), (s1, .inr (2, [.ref s2, .int (nI pn)])), (s2, .inl (ca 0, 200, .inl fp)), (obu, .inr (2, [.ref bua, .int (nI ln)])), (bua, .inl (ca 0, 40, .inl fb)), (onw, .inr (2, [.ref nwa, .int (nI 0)])), (nwa, .inl (ca 0, 20, .inl fw))]) [0, 1, 2, 3, 4, 5, 6, 7, 8, 9, 10] rfl
      have hD := hD.sub (ws' := [(oc, .inr (5, [.ref os, .ref osl, .ref ohi, .ref obu, .ref ord, .ref osp, .ref onw, .ref otr, .ref ogd])), (os, .inr (3, [.ref t1, .ref l1, .ref g1])), (g1, .inr (2, [.ref g2, .int (nI 4)])), (g2, .inl (ca 0, 4, .inl (seF z r f j))), (osp, .inr (4, [.ref s1])), (s1, .inr (2, [.ref s2, .int (nI pn)])), (s2, .inl (ca 0, 200, .inl fp)), (obu, .inr (2, [.ref bua, .int (nI ln)])), (bua, .inl (ca 0, 40, .inl fb)), (onw, .inr (2, [.ref nwa, .int (nI 0)])), (nwa, .inl (ca 0, 20, .inl fw))]) [0, 1, 2, 3, 4, 5, 6, 7, 8, 9, 10] (by decide) rfl
      refine lv_iconst (v := nI 0) hx hb dX5_write_41 (by decide) ?_
      refine lv_istore_n (lv' := [(1, .int (nI 0)), (0, .ref oc)]) hx hb dX5_write_42 rfl hl (by decide) rfl (fun ls hl => ?_)
      have lp43_8 : ∀ (k1 : Nat) (i : Nat), ln - i < k1 → (i ≤ ln) → ∀ (H : Heap) (locs : List Loc), va_P D vwCl [(oc, .inr (5, [.ref os, .ref osl, .ref ohi, .ref obu, .ref ord, .ref osp, .ref onw, .ref otr, .ref ogd])), (os, .inr (3, [.ref t1, .ref l1, .ref g1])), (g1, .inr (2, [.ref g2, .int (nI 4)])), (g2, .inl (ca 0, 4, .inl (seF z r f j))), (osp, .inr (4, [.ref s1])), (s1, .inr (2, [.ref s2, .int (nI pn)])), (s2, .inl (ca 0, 200, .inl fp)), (obu, .inr (2, [.ref bua, .int (nI ln)])), (bua, .inl (ca 0, 40, .inl fb)), (onw, .inr (2, [.ref nwa, .int (nI i)])), (nwa, .inl (ca 0, 20, .inl (apF fw 0 (lcL fb i))))] H → va_D A [(oc, .inr (5, [.ref os, .ref osl, .ref ohi, .ref obu, .ref ord, .ref osp, .ref onw, .ref otr, .ref ogd])), (os, .inr (3, [.ref t1, .ref l1, .ref g1])), (g1, .inr (2, [.ref g2, .int (nI 4)])), (g2, .inl (ca 0, 4, .inl (seF z r f j))), (osp, .inr (4, [.ref s1])), (s1, .inr (2, [.ref s2, .int (nI pn)])), (s2, .inl (ca 0, 200, .inl fp)), (obu, .inr (2, [.ref bua, .int (nI ln)])), (bua, .inl (ca 0, 40, .inl fb)), (onw, .inr (2, [.ref nwa, .int (nI i)])), (nwa, .inl (ca 0, 20, .inl (apF fw 0 (lcL fb i))))] → va_S A s.heap H locs → ∀ (ls : Array Slot), lv_has ls 2 [(1, .int (nI i)), (0, .ref oc)] → W p l e rm_kX5_write_bad2 s m ([.ref oc] : List Value).toArray below meth c H locs 0 0 Qz (F0 m 43 ls []) := by
        intro k1
        induction k1 with
        | zero => intro i hm1; exact absurd hm1 (Nat.not_lt_zero _)
        | succ k1 ih1 =>
          intro i hm1 hi H locs hP hD hS ls hl
          refine lv_iload_n hx hb dX5_write_43 rfl (lv_at hl 0 rfl) ?_
          refine lv_aload_n hx hb dX5_write_44 rfl (lv_at hl 1 rfl) ?_
          refine va_get (D := D) (ci := 5) (C := RX5) (T := TX5) (N := 9) hx hb hts hiX5 hown hKv hP 0 rfl rfl 3 (by decide) lk32 (fun _ h9 => h9) rfl dX5_write_45 ?_
          refine vp_callSi (va_Run.run (va_runV (As := []) (rest := [.int (nI i)]) ⟨hx, hb, hml, hown, hts⟩ (kX2_size l D ca obu bua 40 fb ln (by first | rfl | assumption | omega | trivial | (exfalso; omega)) (by first | rfl | assumption | omega | trivial | (exfalso; omega))) (cwV 0 hts gX5_write_X2_size rfl rfl rfl (by decide +kernel) ⟨kk_le rfl, kk_le rfl⟩) (pvR hK (hP.sub (ws' := [(obu, .inr (2, [.ref bua, .int (nI ln)])), (bua, .inl (ca 0, 40, .inl fb))]) [7, 8] rfl) (va_recv hKv hP (ci := 2) (q0 := 7) rfl rfl)) rfl rfl hl.1 rfl (lv_room (kk_le rfl)) dX5_write_48 ⟨kk_le rfl, kk_le rfl⟩)) (fun r10 hr10 => ?_)
          subst hr10
          refine ni_icmp_ge (tgt := 79) (by omega) (by omega) hx hb dX5_write_51 (by decide) (fun c11 => ?_) (fun c11 => ?_)
          · have hi9 : ln = i := by omega
            subst hi9
            refine lv_aload_n hx hb dX5_write_79 rfl (lv_at hl 1 rfl) ?_
            refine va_get (D := D) (ci := 5) (C := RX5) (T := TX5) (N := 9) hx hb hts hiX5 hown hKv hP 0 rfl rfl 5 (by decide) lk46 (fun _ h9 => h9) rfl dX5_write_80 ?_
            refine lv_aload_n hx hb dX5_write_83 rfl (lv_at hl 1 rfl) ?_
            refine va_get (D := D) (ci := 5) (C := RX5) (T := TX5) (N := 9) hx hb hts hiX5 hown hKv hP 0 rfl rfl 6 (by decide) lk50 (fun _ h9 => h9) rfl dX5_write_84 ?_
            refine lv_aload_n hx hb dX5_write_87 rfl (lv_at hl 1 rfl) ?_
            refine lv_iconst (v := nI 0) hx hb dX5_write_88 (by decide) ?_
            refine vp_callSi (va_Run.run (va_runV (As := [.int (nI 0)]) (rest := [.ref onw, .ref osp]) ⟨hx, hb, hml, hown, hts⟩ (kX5_value_0 l D ca oc os osl ohi obu ord osp onw otr ogd t1 l1 g1 g2 z r f j) (cwV 1 hts gX5_write_X5_value rfl rfl rfl (by decide +kernel) ⟨kk_le rfl, kk_le rfl⟩) (pvR hK (hP.sub (ws' := [(oc, .inr (5, [.ref os, .ref osl, .ref ohi, .ref obu, .ref ord, .ref osp, .ref onw, .ref otr, .ref ogd])), (os, .inr (3, [.ref t1, .ref l1, .ref g1])), (g1, .inr (2, [.ref g2, .int (nI 4)])), (g2, .inl (ca 0, 4, .inl (seF z r f j)))]) [0, 1, 2, 3] rfl) (va_recv hKv hP (ci := 5) (q0 := 0) rfl rfl)) rfl rfl hl.1 rfl (lv_room (kk_le rfl)) dX5_write_89 ⟨kk_le rfl, kk_le rfl⟩)) (fun r12 hr12 => ?_)
            subst hr12
            have hPc := hP.sub (ws' := [(osp, .inr (4, [.ref s1])), (s1, .inr (2, [.ref s2, .int (nI pn)])), (s2, .inl (ca 0, 200, .inl fp)), (onw, .inr (2, [.ref nwa, .int (nI ln)])), (nwa, .inl (ca 0, 20, .inl (apF fw 0 (lcL fb ln))))]) [4, 5, 6, 9, 10] rfl
            have hDc := hD.sub (ws' := [(osp, .inr (4, [.ref s1])), (s1, .inr (2, [.ref s2, .int (nI pn)])), (s2, .inl (ca 0, 200, .inl fp)), (onw, .inr (2, [.ref nwa, .int (nI ln)])), (nwa, .inl (ca 0, 20, .inl (apF fw 0 (lcL fb ln))))]) [4, 5, 6, 9, 10] (by decide) rfl
            have hFc := va_free (wc := [(osp, .inr (4, [.ref s1])), (s1, .inr (2, [.ref s2, .int (nI pn)])), (s2, .inl (ca 0, 200, .inl fp)), (onw, .inr (2, [.ref nwa, .int (nI ln)])), (nwa, .inl (ca 0, 20, .inl (apF fw 0 (lcL fb ln))))]) hD hS hA [4, 5, 6, 9, 10] rfl
            refine va_callv (va_runV (As := [.ref onw, .int (nI z)]) (rest := []) ⟨hx, hb, hml, hown, hts⟩ (kX4_layOut l D ca H.size osp s1 s2 200 fp pn onw nwa 20 (apF fw 0 (lcL fb ln)) ln z (by first | rfl | assumption | omega | trivial | (exfalso; omega)) (by first | rfl | assumption | omega | trivial | (exfalso; omega)) (by first | rfl | assumption | omega | trivial | (exfalso; omega)) (by first | rfl | assumption | omega | trivial | (exfalso; omega)) (by first | rfl | assumption | omega | trivial | (exfalso; omega))) (cwV 2 hts gX5_write_X4_layOut rfl rfl rfl (by decide +kernel) ⟨kk_le rfl, kk_le rfl⟩) (pvM hK hPc (my_D_true hDc) (va_recv hKv hP (ci := 4) (q0 := 4) rfl rfl)) rfl rfl hl.1 rfl (lv_room (kk_le rfl)) dX5_write_92 ⟨kk_le rfl, kk_le rfl⟩) hS (fun q _ h => hFc q h) hFc (fun u t H1 locs ht hvm hwv hBv hz1 hk1 hS => ?_)
            obtain ⟨hP1, hD1⟩ := hBv
            rw [ht] at hP1
            have hP1 : va_P D vwCl [(osp, .inr (4, [.ref s1])), (s1, .inr (2, [.ref s2, .int (nI ((strp z (lst (apF fw 0 (lcL fb ln)) ln)).length))])), (s2, .inl (ca 0, 200, .inl (apF fp 0 (strp z (lst (apF fw 0 (lcL fb ln)) ln))))), (onw, .inr (2, [.ref nwa, .int (nI ln)])), (nwa, .inl (ca 0, 20, .inl (apF fw 0 (lcL fb ln))))] H1 := hP1
            have hD1 : va_D _ [(osp, .inr (4, [.ref s1])), (s1, .inr (2, [.ref s2, .int (nI ((strp z (lst (apF fw 0 (lcL fb ln)) ln)).length))])), (s2, .inl (ca 0, 200, .inl (apF fp 0 (strp z (lst (apF fw 0 (lcL fb ln)) ln))))), (onw, .inr (2, [.ref nwa, .int (nI ln)])), (nwa, .inl (ca 0, 20, .inl (apF fw 0 (lcL fb ln))))] := hD1
            have hw13 := hwv
            obtain ⟨hP, hD⟩ := va_join (wr := [(oc, .inr (5, [.ref os, .ref osl, .ref ohi, .ref obu, .ref ord, .ref osp, .ref onw, .ref otr, .ref ogd])), (os, .inr (3, [.ref t1, .ref l1, .ref g1])), (g1, .inr (2, [.ref g2, .int (nI 4)])), (g2, .inl (ca 0, 4, .inl (seF z r f j))), (obu, .inr (2, [.ref bua, .int (nI ln)])), (bua, .inl (ca 0, 40, .inl fb))]) (w1 := [(osp, .inr (4, [.ref s1])), (s1, .inr (2, [.ref s2, .int (nI ((strp z (lst (apF fw 0 (lcL fb ln)) ln)).length))])), (s2, .inl (ca 0, 200, .inl (apF fp 0 (strp z (lst (apF fw 0 (lcL fb ln)) ln))))), (onw, .inr (2, [.ref nwa, .int (nI ln)])), (nwa, .inl (ca 0, 20, .inl (apF fw 0 (lcL fb ln))))]) hP hD [4, 5, 6, 9, 10] [0, 1, 2, 3, 7, 8] rfl rfl (by decide) (by decide) hk1 hFc hP1 hD1
            generalize H1 = H at hP hS ⊢
            have hP := hP.sub (ws' := [(oc, .inr (5, [.ref os, .ref osl, .ref ohi, .ref obu, .ref ord, .ref osp, .ref onw, .ref otr, .ref ogd])), (os, .inr (3, [.ref t1, .ref l1, .ref g1])), (g1, .inr (2, [.ref g2, .int (nI 4)])), (g2, .inl (ca 0, 4, .inl (seF z r f j))), (osp, .inr (4, [.ref s1])), (s1, .inr (2, [.ref s2, .int (nI ((strp z (lst (apF fw 0 (lcL fb ln)) ln)).length))])), (s2, .inl (ca 0, 200, .inl (apF fp 0 (strp z (lst (apF fw 0 (lcL fb ln)) ln))))), (obu, .inr (2, [.ref bua, .int (nI ln)])), (bua, .inl (ca 0, 40, .inl fb)), (onw, .inr (2, [.ref nwa, .int (nI ln)])), (nwa, .inl (ca 0, 20, .inl (apF fw 0 (lcL fb ln))))]) [0, 1, 2, 3, 6, 7, 8, 4, 5, 9, 10] rfl
            have hD := hD.sub (ws' := [(oc, .inr (5, [.ref os, .ref osl, .ref ohi, .ref obu, .ref ord, .ref osp, .ref onw, .ref otr, .ref ogd])), (os, .inr (3, [.ref t1, .ref l1, .ref g1])), (g1, .inr (2, [.ref g2, .int (nI 4)])), (g2, .inl (ca 0, 4, .inl (seF z r f j))), (osp, .inr (4, [.ref s1])), (s1, .inr (2, [.ref s2, .int (nI ((strp z (lst (apF fw 0 (lcL fb ln)) ln)).length))])), (s2, .inl (ca 0, 200, .inl (apF fp 0 (strp z (lst (apF fw 0 (lcL fb ln)) ln))))), (obu, .inr (2, [.ref bua, .int (nI ln)])), (bua, .inl (ca 0, 40, .inl fb)), (onw, .inr (2, [.ref nwa, .int (nI ln)])), (nwa, .inl (ca 0, 20, .inl (apF fw 0 (lcL fb ln))))]) [0, 1, 2, 3, 6, 7, 8, 4, 5, 9, 10] (by decide) rfl
            have e15 : (nI ((strp z (lst (apF fw 0 (lcL fb ln)) ln)).length) : Int32) = nI ((strp z (lcL fb ln)).length) := by rw [nw_lst]
            have hP : va_P D vwCl [(oc, .inr (5, [.ref os, .ref osl, .ref ohi, .ref obu, .ref ord, .ref osp, .ref onw, .ref otr, .ref ogd])), (os, .inr (3, [.ref t1, .ref l1, .ref g1])), (g1, .inr (2, [.ref g2, .int (nI 4)])), (g2, .inl (ca 0, 4, .inl (seF z r f j))), (osp, .inr (4, [.ref s1])), (s1, .inr (2, [.ref s2, .int (nI ((strp z (lcL fb ln)).length))])), (s2, .inl (ca 0, 200, .inl (apF fp 0 (strp z (lst (apF fw 0 (lcL fb ln)) ln))))), (obu, .inr (2, [.ref bua, .int (nI ln)])), (bua, .inl (ca 0, 40, .inl fb)), (onw, .inr (2, [.ref nwa, .int (nI ln)])), (nwa, .inl (ca 0, 20, .inl (apF fw 0 (lcL fb ln))))] H := Eq.mp (congrArg (fun z9 : Int32 => va_P D vwCl [(oc, .inr (5, [.ref os, .ref osl, .ref ohi, .ref obu, .ref ord, .ref osp, .ref onw, .ref otr, .ref ogd])), (os, .inr (3, [.ref t1, .ref l1, .ref g1])), (g1, .inr (2, [.ref g2, .int (nI 4)])), (g2, .inl (ca 0, 4, .inl (seF z r f j))), (osp, .inr (4, [.ref s1])), (s1, .inr (2, [.ref s2, .int z9])), (s2, .inl (ca 0, 200, .inl (apF fp 0 (strp z (lst (apF fw 0 (lcL fb ln)) ln))))), (obu, .inr (2, [.ref bua, .int (nI ln)])), (bua, .inl (ca 0, 40, .inl fb)), (onw, .inr (2, [.ref nwa, .int (nI ln)])), (nwa, .inl (ca 0, 20, .inl (apF fw 0 (lcL fb ln))))] H) e15) hP
            have hD : va_D A [(oc, .inr (5, [.ref os, .ref osl, .ref ohi, .ref obu, .ref ord, .ref osp, .ref onw, .ref otr, .ref ogd])), (os, .inr (3, [.ref t1, .ref l1, .ref g1])), (g1, .inr (2, [.ref g2, .int (nI 4)])), (g2, .inl (ca 0, 4, .inl (seF z r f j))), (osp, .inr (4, [.ref s1])), (s1, .inr (2, [.ref s2, .int (nI ((strp z (lcL fb ln)).length))])), (s2, .inl (ca 0, 200, .inl (apF fp 0 (strp z (lst (apF fw 0 (lcL fb ln)) ln))))), (obu, .inr (2, [.ref bua, .int (nI ln)])), (bua, .inl (ca 0, 40, .inl fb)), (onw, .inr (2, [.ref nwa, .int (nI ln)])), (nwa, .inl (ca 0, 20, .inl (apF fw 0 (lcL fb ln))))] := Eq.mp (congrArg (fun z9 : Int32 => va_D A [(oc, .inr (5, [.ref os, .ref osl, .ref ohi, .ref obu, .ref ord, .ref osp, .ref onw, .ref otr, .ref ogd])), (os, .inr (3, [.ref t1, .ref l1, .ref g1])), (g1, .inr (2, [.ref g2, .int (nI 4)])), (g2, .inl (ca 0, 4, .inl (seF z r f j))), (osp, .inr (4, [.ref s1])), (s1, .inr (2, [.ref s2, .int z9])), (s2, .inl (ca 0, 200, .inl (apF fp 0 (strp z (lst (apF fw 0 (lcL fb ln)) ln))))), (obu, .inr (2, [.ref bua, .int (nI ln)])), (bua, .inl (ca 0, 40, .inl fb)), (onw, .inr (2, [.ref nwa, .int (nI ln)])), (nwa, .inl (ca 0, 20, .inl (apF fw 0 (lcL fb ln))))]) e15) hD
            have e16 : (apF fp 0 (strp z (lst (apF fw 0 (lcL fb ln)) ln)) : Nat → Int32) = apF fp 0 (strp z (lcL fb ln)) := by rw [nw_lst]
            have hP : va_P D vwCl [(oc, .inr (5, [.ref os, .ref osl, .ref ohi, .ref obu, .ref ord, .ref osp, .ref onw, .ref otr, .ref ogd])), (os, .inr (3, [.ref t1, .ref l1, .ref g1])), (g1, .inr (2, [.ref g2, .int (nI 4)])), (g2, .inl (ca 0, 4, .inl (seF z r f j))), (osp, .inr (4, [.ref s1])), (s1, .inr (2, [.ref s2, .int (nI ((strp z (lcL fb ln)).length))])), (s2, .inl (ca 0, 200, .inl (apF fp 0 (strp z (lcL fb ln))))), (obu, .inr (2, [.ref bua, .int (nI ln)])), (bua, .inl (ca 0, 40, .inl fb)), (onw, .inr (2, [.ref nwa, .int (nI ln)])), (nwa, .inl (ca 0, 20, .inl (apF fw 0 (lcL fb ln))))] H := Eq.mp (congrArg (fun z9 : Nat → Int32 => va_P D vwCl [(oc, .inr (5, [.ref os, .ref osl, .ref ohi, .ref obu, .ref ord, .ref osp, .ref onw, .ref otr, .ref ogd])), (os, .inr (3, [.ref t1, .ref l1, .ref g1])), (g1, .inr (2, [.ref g2, .int (nI 4)])), (g2, .inl (ca 0, 4, .inl (seF z r f j))), (osp, .inr (4, [.ref s1])), (s1, .inr (2, [.ref s2, .int (nI ((strp z (lcL fb ln)).length))])), (s2, .inl (ca 0, 200, .inl z9)), (obu, .inr (2, [.ref bua, .int (nI ln)])), (bua, .inl (ca 0, 40, .inl fb)), (onw, .inr (2, [.ref nwa, .int (nI ln)])), (nwa, .inl (ca 0, 20, .inl (apF fw 0 (lcL fb ln))))] H) e16) hP
            have hD : va_D A [(oc, .inr (5, [.ref os, .ref osl, .ref ohi, .ref obu, .ref ord, .ref osp, .ref onw, .ref otr, .ref ogd])), (os, .inr (3, [.ref t1, .ref l1, .ref g1])), (g1, .inr (2, [.ref g2, .int (nI 4)])), (g2, .inl (ca 0, 4, .inl (seF z r f j))), (osp, .inr (4, [.ref s1])), (s1, .inr (2, [.ref s2, .int (nI ((strp z (lcL fb ln)).length))])), (s2, .inl (ca 0, 200, .inl (apF fp 0 (strp z (lcL fb ln))))), (obu, .inr (2, [.ref bua, .int (nI ln)])), (bua, .inl (ca 0, 40, .inl fb)), (onw, .inr (2, [.ref nwa, .int (nI ln)])), (nwa, .inl (ca 0, 20, .inl (apF fw 0 (lcL fb ln))))] := Eq.mp (congrArg (fun z9 : Nat → Int32 => va_D A [(oc, .inr (5, [.ref os, .ref osl, .ref ohi, .ref obu, .ref ord, .ref osp, .ref onw, .ref otr, .ref ogd])), (os, .inr (3, [.ref t1, .ref l1, .ref g1])), (g1, .inr (2, [.ref g2, .int (nI 4)])), (g2, .inl (ca 0, 4, .inl (seF z r f j))), (osp, .inr (4, [.ref s1])), (s1, .inr (2, [.ref s2, .int (nI ((strp z (lcL fb ln)).length))])), (s2, .inl (ca 0, 200, .inl z9)), (obu, .inr (2, [.ref bua, .int (nI ln)])), (bua, .inl (ca 0, 40, .inl fb)), (onw, .inr (2, [.ref nwa, .int (nI ln)])), (nwa, .inl (ca 0, 20, .inl (apF fw 0 (lcL fb ln))))]) e16) hD
            refine lv_aload_n hx hb dX5_write_95 rfl (lv_at hl 1 rfl) ?_
            refine va_get (D := D) (ci := 5) (C := RX5) (T := TX5) (N := 9) hx hb hts hiX5 hown hKv hP 0 rfl rfl 5 (by decide) lk46 (fun _ h9 => h9) rfl dX5_write_96 ?_
            refine vp_callSi (va_Run.run (va_runV (As := []) (rest := []) ⟨hx, hb, hml, hown, hts⟩ (kX4_timesNeeded l D ca osp s1 s2 200 (apF fp 0 (strp z (lcL fb ln))) ((strp z (lcL fb ln)).length) (by omega) (by omega) (by (rw [apF_lst]; exact is01_strp z (lcL fb ln)))) (cwV 0 hts gX5_write_X4_timesNeeded rfl rfl rfl (by decide +kernel) ⟨kk_le rfl, kk_le rfl⟩) (pvR hK (hP.sub (ws' := [(osp, .inr (4, [.ref s1])), (s1, .inr (2, [.ref s2, .int (nI ((strp z (lcL fb ln)).length))])), (s2, .inl (ca 0, 200, .inl (apF fp 0 (strp z (lcL fb ln)))))]) [4, 5, 6] rfl) (va_recv hKv hP (ci := 4) (q0 := 4) rfl rfl)) rfl rfl hl.1 rfl (lv_room (kk_le rfl)) dX5_write_99 ⟨kk_le rfl, kk_le rfl⟩)) (fun r17 hr17 => ?_)
            subst hr17
            have e18 : (nI (((strp z (lcL fb ln)).length) + onesN (lst (apF fp 0 (strp z (lcL fb ln))) ((strp z (lcL fb ln)).length))) : Int32) = nI ((strp z (lcL fb ln)).length + onesN (strp z (lcL fb ln))) := by rw [apF_lst]
            rw [e18]
            refine lv_sipush (v := nI 200) hx hb dX5_write_102 (by decide) ?_
            refine ni_icmp_le (tgt := 118) (by omega) (by omega) hx hb dX5_write_105 (by decide) (fun c19 => ?_) (fun c19 => ?_)
            · exact absurd c19 (by omega)
            · subst hQz
              obtain ⟨sa9, hst9⟩ := hK.2.s99
              exact vx_throwS (names := ["java/lang/RuntimeException", "java/lang/Exception"]) (A := A) hx hb hnst hown (by decide +kernel) (by decide +kernel) (hts (.classLink RX5 97 "java/lang/IllegalStateException") (by decide +kernel)) (hts (.initialized "java/lang/IllegalStateException") (by decide +kernel)) hst9 (taX97 (fun w h => hts w (by first | exact List.mem_cons_of_mem _ (List.mem_append_right _ h) | exact List.mem_cons_of_mem _ (List.mem_append_left _ (List.mem_append_right _ h)) | exact List.mem_cons_of_mem _ (List.mem_append_left _ (List.mem_append_left _ (List.mem_append_right _ h))) | exact List.mem_cons_of_mem _ (List.mem_append_left _ (List.mem_append_left _ (List.mem_append_left _ (List.mem_append_right _ h)))))) (va_Nw.use rfl hK.2.cIllegalStateException)) tgX97 hZ.2.2.2.1 hZ.2.2.2.2 hS (hl.1.trans hml.symm) dX5_write_108 dX5_write_111 dX5_write_112 dX5_write_114 dX5_write_117 (fun x h => (hnt9 x h).elim) (by decide) (by decide) (by decide) (by decide) hlocks (fun t _ h1 h2 => ⟨(), trivial, ⟨rfl, my_P_kept hP h2, hD⟩, my_F_kept hS h1 h2⟩) hS.2.2 (by decide) (by decide)
          · refine lv_aload_n hx hb dX5_write_54 rfl (lv_at hl 1 rfl) ?_
            refine va_get (D := D) (ci := 5) (C := RX5) (T := TX5) (N := 9) hx hb hts hiX5 hown hKv hP 0 rfl rfl 6 (by decide) lk50 (fun _ h9 => h9) rfl dX5_write_55 ?_
            refine lv_aload_n hx hb dX5_write_58 rfl (lv_at hl 1 rfl) ?_
            refine va_get (D := D) (ci := 5) (C := RX5) (T := TX5) (N := 9) hx hb hts hiX5 hown hKv hP 0 rfl rfl 3 (by decide) lk32 (fun _ h9 => h9) rfl dX5_write_59 ?_
            refine lv_iload_n hx hb dX5_write_62 rfl (lv_at hl 0 rfl) ?_
            refine vp_callSi (va_Run.run (va_runV (As := [.int (nI i)]) (rest := [.ref onw]) ⟨hx, hb, hml, hown, hts⟩ (kX2_at_in l D ca obu bua 40 fb ln i (by first | rfl | assumption | omega | trivial | (exfalso; omega)) (by first | rfl | assumption | omega | trivial | (exfalso; omega)) (by first | rfl | assumption | omega | trivial | (exfalso; omega))) (cwV 1 hts gX5_write_X2_at rfl rfl rfl (by decide +kernel) ⟨kk_le rfl, kk_le rfl⟩) (pvR hK (hP.sub (ws' := [(obu, .inr (2, [.ref bua, .int (nI ln)])), (bua, .inl (ca 0, 40, .inl fb))]) [7, 8] rfl) (va_recv hKv hP (ci := 2) (q0 := 7) rfl rfl)) rfl rfl hl.1 rfl (lv_room (kk_le rfl)) dX5_write_63 ⟨kk_le rfl, kk_le rfl⟩)) (fun r20 hr20 => ?_)
            subst hr20
            refine vp_callSi (va_Run.run (va_runS (As := [.int (fb i)]) (rest := [.ref onw]) ⟨hx, hb, hml, hown, hts⟩ (kX5_letterOfCode l (fb i)) (va_cwS 1 hts gX5_write_X5_letterOfCode rfl rfl rfl (by decide +kernel) ⟨kk_le rfl, kk_le rfl⟩) psN rfl rfl hl.1 rfl (lv_room (kk_le rfl)) dX5_write_66 ⟨kk_le rfl, kk_le rfl⟩)) (fun r21 hr21 => ?_)
            subst hr21
            have hPc := hP.sub (ws' := [(onw, .inr (2, [.ref nwa, .int (nI i)])), (nwa, .inl (ca 0, 20, .inl (apF fw 0 (lcL fb i))))]) [9, 10] rfl
            have hDc := hD.sub (ws' := [(onw, .inr (2, [.ref nwa, .int (nI i)])), (nwa, .inl (ca 0, 20, .inl (apF fw 0 (lcL fb i))))]) [9, 10] (by decide) rfl
            have hFc := va_free (wc := [(onw, .inr (2, [.ref nwa, .int (nI i)])), (nwa, .inl (ca 0, 20, .inl (apF fw 0 (lcL fb i))))]) hD hS hA [9, 10] rfl
            refine va_calli (va_runV (As := [.int (lcode (fb i))]) (rest := []) ⟨hx, hb, hml, hown, hts⟩ (kX2_add l D ca H.size onw nwa 20 (apF fw 0 (lcL fb i)) i (lcode (fb i)) (by first | rfl | assumption | omega | trivial | (exfalso; omega)) (by first | rfl | assumption | omega | trivial | (exfalso; omega))) (cwV 1 hts gX5_write_X2_add rfl rfl rfl (by decide +kernel) ⟨kk_le rfl, kk_le rfl⟩) (pvM hK hPc (my_D_true hDc) (va_recv hKv hP (ci := 2) (q0 := 9) rfl rfl)) rfl rfl hl.1 rfl (lv_room (kk_le rfl)) dX5_write_69 ⟨kk_le rfl, kk_le rfl⟩) hS (fun q _ h => hFc q h) hFc (fun r22 u t H1 locs ht hvm hwv hBv hz1 hk1 hS => ?_)
            obtain ⟨hP1, hD1⟩ := hBv
            rw [ht] at hP1
            have hP1 : va_P D vwCl [(onw, .inr (2, [.ref nwa, .int (nI (i + 1))])), (nwa, .inl (ca 0, 20, .inl (upd (apF fw 0 (lcL fb i)) i (lcode (fb i)))))] H1 := hP1
            have hD1 : va_D _ [(onw, .inr (2, [.ref nwa, .int (nI (i + 1))])), (nwa, .inl (ca 0, 20, .inl (upd (apF fw 0 (lcL fb i)) i (lcode (fb i)))))] := hD1
            obtain ⟨hr22, hw22⟩ := hwv
            subst hr22
            obtain ⟨hP, hD⟩ := va_join (wr := [(oc, .inr (5, [.ref os, .ref osl, .ref ohi, .ref obu, .ref ord, .ref osp, .ref onw, .ref otr, .ref ogd])), (os, .inr (3, [.ref t1, .ref l1, .ref g1])), (g1, .inr (2, [.ref g2, .int (nI 4)])), (g2, .inl (ca 0, 4, .inl (seF z r f j))), (osp, .inr (4, [.ref s1])), (s1, .inr (2, [.ref s2, .int (nI pn)])), (s2, .inl (ca 0, 200, .inl fp)), (obu, .inr (2, [.ref bua, .int (nI ln)])), (bua, .inl (ca 0, 40, .inl fb))]) (w1 := [(onw, .inr (2, [.ref nwa, .int (nI (i + 1))])), (nwa, .inl (ca 0, 20, .inl (upd (apF fw 0 (lcL fb i)) i (lcode (fb i)))))]) hP hD [9, 10] [0, 1, 2, 3, 4, 5, 6, 7, 8] rfl rfl (by decide) (by decide) hk1 hFc hP1 hD1
            generalize H1 = H at hP hS ⊢
            have hP := hP.sub (ws' := [(oc, .inr (5, [.ref os, .ref osl, .ref ohi, .ref obu, .ref ord, .ref osp, .ref onw, .ref otr, .ref ogd])), (os, .inr (3, [.ref t1, .ref l1, .ref g1])), (g1, .inr (2, [.ref g2, .int (nI 4)])), (g2, .inl (ca 0, 4, .inl (seF z r f j))), (osp, .inr (4, [.ref s1])), (s1, .inr (2, [.ref s2, .int (nI pn)])), (s2, .inl (ca 0, 200, .inl fp)), (obu, .inr (2, [.ref bua, .int (nI ln)])), (bua, .inl (ca 0, 40, .inl fb)), (onw, .inr (2, [.ref nwa, .int (nI (i + 1))])), (nwa, .inl (ca 0, 20, .inl (upd (apF fw 0 (lcL fb i)) i (lcode (fb i)))))]) [0, 1, 2, 3, 4, 5, 6, 7, 8, 9, 10] rfl
            have hD := hD.sub (ws' := [(oc, .inr (5, [.ref os, .ref osl, .ref ohi, .ref obu, .ref ord, .ref osp, .ref onw, .ref otr, .ref ogd])), (os, .inr (3, [.ref t1, .ref l1, .ref g1])), (g1, .inr (2, [.ref g2, .int (nI 4)])), (g2, .inl (ca 0, 4, .inl (seF z r f j))), (osp, .inr (4, [.ref s1])), (s1, .inr (2, [.ref s2, .int (nI pn)])), (s2, .inl (ca 0, 200, .inl fp)), (obu, .inr (2, [.ref bua, .int (nI ln)])), (bua, .inl (ca 0, 40, .inl fb)), (onw, .inr (2, [.ref nwa, .int (nI (i + 1))])), (nwa, .inl (ca 0, 20, .inl (upd (apF fw 0 (lcL fb i)) i (lcode (fb i)))))]) [0, 1, 2, 3, 4, 5, 6, 7, 8, 9, 10] (by decide) rfl
            refine lv_pop hx hb dX5_write_72 rfl ?_
            refine lv_iinc (v := nI (i + 1)) (lv' := [(1, .int (nI (i + 1))), (0, .ref oc)]) hx hb dX5_write_73 hl (k := 0) rfl (ni_inc _ _ (by decide)) (by decide) rfl (fun ls hl => ?_)
            refine lv_goto (tgt := 43) hx hb dX5_write_76 (by decide) ?_
            have e24 : (upd (apF fw 0 (lcL fb i)) i (lcode (fb i)) : Nat → Int32) = apF fw 0 (lcL fb (i + 1)) := by exact nw_step fw fb i
            have hP : va_P D vwCl [(oc, .inr (5, [.ref os, .ref osl, .ref ohi, .ref obu, .ref ord, .ref osp, .ref onw, .ref otr, .ref ogd])), (os, .inr (3, [.ref t1, .ref l1, .ref g1])), (g1, .inr (2, [.ref g2, .int (nI 4)])), (g2, .inl (ca 0, 4, .inl (seF z r f j))), (osp, .inr (4, [.ref s1])), (s1, .inr (2, [.ref s2, .int (nI pn)])), (s2, .inl (ca 0, 200, .inl fp)), (obu, .inr (2, [.ref bua, .int (nI ln)])), (bua, .inl (ca 0, 40, .inl fb)), (onw, .inr (2, [.ref nwa, .int (nI (i + 1))])), (nwa, .inl (ca 0, 20, .inl (apF fw 0 (lcL fb (i + 1)))))] H := Eq.mp (congrArg (fun z9 : Nat → Int32 => va_P D vwCl [(oc, .inr (5, [.ref os, .ref osl, .ref ohi, .ref obu, .ref ord, .ref osp, .ref onw, .ref otr, .ref ogd])), (os, .inr (3, [.ref t1, .ref l1, .ref g1])), (g1, .inr (2, [.ref g2, .int (nI 4)])), (g2, .inl (ca 0, 4, .inl (seF z r f j))), (osp, .inr (4, [.ref s1])), (s1, .inr (2, [.ref s2, .int (nI pn)])), (s2, .inl (ca 0, 200, .inl fp)), (obu, .inr (2, [.ref bua, .int (nI ln)])), (bua, .inl (ca 0, 40, .inl fb)), (onw, .inr (2, [.ref nwa, .int (nI (i + 1))])), (nwa, .inl (ca 0, 20, .inl z9))] H) e24) hP
            have hD : va_D A [(oc, .inr (5, [.ref os, .ref osl, .ref ohi, .ref obu, .ref ord, .ref osp, .ref onw, .ref otr, .ref ogd])), (os, .inr (3, [.ref t1, .ref l1, .ref g1])), (g1, .inr (2, [.ref g2, .int (nI 4)])), (g2, .inl (ca 0, 4, .inl (seF z r f j))), (osp, .inr (4, [.ref s1])), (s1, .inr (2, [.ref s2, .int (nI pn)])), (s2, .inl (ca 0, 200, .inl fp)), (obu, .inr (2, [.ref bua, .int (nI ln)])), (bua, .inl (ca 0, 40, .inl fb)), (onw, .inr (2, [.ref nwa, .int (nI (i + 1))])), (nwa, .inl (ca 0, 20, .inl (apF fw 0 (lcL fb (i + 1)))))] := Eq.mp (congrArg (fun z9 : Nat → Int32 => va_D A [(oc, .inr (5, [.ref os, .ref osl, .ref ohi, .ref obu, .ref ord, .ref osp, .ref onw, .ref otr, .ref ogd])), (os, .inr (3, [.ref t1, .ref l1, .ref g1])), (g1, .inr (2, [.ref g2, .int (nI 4)])), (g2, .inl (ca 0, 4, .inl (seF z r f j))), (osp, .inr (4, [.ref s1])), (s1, .inr (2, [.ref s2, .int (nI pn)])), (s2, .inl (ca 0, 200, .inl fp)), (obu, .inr (2, [.ref bua, .int (nI ln)])), (bua, .inl (ca 0, 40, .inl fb)), (onw, .inr (2, [.ref nwa, .int (nI (i + 1))])), (nwa, .inl (ca 0, 20, .inl z9))]) e24) hD
            exact ih1 (i + 1) (by omega) (by omega) _ _ hP hD hS ls (lv_sub hl [0, 1] rfl)
      have e25 : (fw : Nat → Int32) = apF fw 0 (lcL fb 0) := by exact (apF_0 fw 0).symm
      have hP : va_P D vwCl [(oc, .inr (5, [.ref os, .ref osl, .ref ohi, .ref obu, .ref ord, .ref osp, .ref onw, .ref otr, .ref ogd])), (os, .inr (3, [.ref t1, .ref l1, .ref g1])), (g1, .inr (2, [.ref g2, .int (nI 4)])), (g2, .inl (ca 0, 4, .inl (seF z r f j))), (osp, .inr (4, [.ref s1])), (s1, .inr (2, [.ref s2, .int (nI pn)])), (s2, .inl (ca 0, 200, .inl fp)), (obu, .inr (2, [.ref bua, .int (nI ln)])), (bua, .inl (ca 0, 40, .inl fb)), (onw, .inr (2, [.ref nwa, .int (nI 0)])), (nwa, .inl (ca 0, 20, .inl (apF fw 0 (lcL fb 0))))] H := Eq.mp (congrArg (fun z9 : Nat → Int32 => va_P D vwCl [(oc, .inr (5, [.ref os, .ref osl, .ref ohi, .ref obu, .ref ord, .ref osp, .ref onw, .ref otr, .ref ogd])), (os, .inr (3, [.ref t1, .ref l1, .ref g1])), (g1, .inr (2, [.ref g2, .int (nI 4)])), (g2, .inl (ca 0, 4, .inl (seF z r f j))), (osp, .inr (4, [.ref s1])), (s1, .inr (2, [.ref s2, .int (nI pn)])), (s2, .inl (ca 0, 200, .inl fp)), (obu, .inr (2, [.ref bua, .int (nI ln)])), (bua, .inl (ca 0, 40, .inl fb)), (onw, .inr (2, [.ref nwa, .int (nI 0)])), (nwa, .inl (ca 0, 20, .inl z9))] H) e25) hP
      have hD : va_D A [(oc, .inr (5, [.ref os, .ref osl, .ref ohi, .ref obu, .ref ord, .ref osp, .ref onw, .ref otr, .ref ogd])), (os, .inr (3, [.ref t1, .ref l1, .ref g1])), (g1, .inr (2, [.ref g2, .int (nI 4)])), (g2, .inl (ca 0, 4, .inl (seF z r f j))), (osp, .inr (4, [.ref s1])), (s1, .inr (2, [.ref s2, .int (nI pn)])), (s2, .inl (ca 0, 200, .inl fp)), (obu, .inr (2, [.ref bua, .int (nI ln)])), (bua, .inl (ca 0, 40, .inl fb)), (onw, .inr (2, [.ref nwa, .int (nI 0)])), (nwa, .inl (ca 0, 20, .inl (apF fw 0 (lcL fb 0))))] := Eq.mp (congrArg (fun z9 : Nat → Int32 => va_D A [(oc, .inr (5, [.ref os, .ref osl, .ref ohi, .ref obu, .ref ord, .ref osp, .ref onw, .ref otr, .ref ogd])), (os, .inr (3, [.ref t1, .ref l1, .ref g1])), (g1, .inr (2, [.ref g2, .int (nI 4)])), (g2, .inl (ca 0, 4, .inl (seF z r f j))), (osp, .inr (4, [.ref s1])), (s1, .inr (2, [.ref s2, .int (nI pn)])), (s2, .inl (ca 0, 200, .inl fp)), (obu, .inr (2, [.ref bua, .int (nI ln)])), (bua, .inl (ca 0, 40, .inl fb)), (onw, .inr (2, [.ref nwa, .int (nI 0)])), (nwa, .inl (ca 0, 20, .inl z9))]) e25) hD
      exact lp43_8 ((ln - 0) + 1) 0 (by omega) (by omega) _ _ hP hD hS ls (lv_sub hl [0, 1] rfl)
    · exact absurd c6 (by omega)
