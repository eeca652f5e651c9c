def firstF : Nat → Int32 := fun k => if k = 0 then nI 10 else if k = 1 then nI 75 else if k = 2 then nI 50 else nI 0
def leastF : Nat → Int32 := fun k => if k = 0 then nI 5 else if k = 1 then nI 50 else if k = 2 then nI 0 else nI 0
def mostF : Nat → Int32 := fun k => if k = 0 then nI 30 else if k = 1 then nI 95 else if k = 2 then nI 100 else nI 40
/-- a table of the class, outside what may be written -/
def Z1 (n : String) (f : Nat → Int32) (A : Nat → Prop) (U : State) (H : Heap) : Prop := ∃ t : Nat, va_Z "StripeSwipes" n "[I" (.ref t) A U H ∧ va_T .int t 4 (fun j => .int (f j)) A U H
theorem Z1.moved {n : String} {f : Nat → Int32} {A : Nat → Prop} {u U : State} {H : Heap} (hvm : u.vm.Alike U.vm) (h : Z1 n f A u H) : Z1 n f A U H := by
  obtain ⟨t, h1, h2⟩ := h
  exact ⟨t, h1.moved hvm, h2.moved hvm⟩
theorem Z1.kept {n : String} {f : Nat → Int32} {A : Nat → Prop} {U : State} {H H1 : Heap} (h : Z1 n f A U H) (hq : ∀ a : Nat, a < H.size → ¬ A a → H1[a]? = H[a]?) : Z1 n f A U H1 := by
  obtain ⟨t, h1, h2⟩ := h
  exact ⟨t, h1.kept hq, h2.kept hq⟩
theorem Z1.narrow {n : String} {f : Nat → Int32} {A B : Nat → Prop} {U : State} {H : Heap} (h : Z1 n f A U H) (hAB : ∀ q, B q → A q) : Z1 n f B U H := by
  obtain ⟨t, h1, h2⟩ := h
  exact ⟨t, h1.narrow hAB, h2.narrow hAB⟩
/-- the tables, and what a throw needs -/
def ZZ (A : Nat → Prop) (U : State) (H : Heap) : Prop := Z1 "FIRST_VALUES" firstF A U H ∧ Z1 "LEAST_VALUES" leastF A U H ∧ Z1 "MOST_VALUES" mostF A U H ∧ vx_Zq Bundle.tN "UNASSIGNED_STACK" Bundle.steD A U H ∧ vx_Zq Bundle.tN "SUPPRESSED_SENTINEL" Bundle.listD A U H
theorem ZZ.moved {A : Nat → Prop} {u U : State} {H : Heap} (hvm : u.vm.Alike U.vm) (h : ZZ A u H) : ZZ A U H := ⟨h.1.moved hvm, h.2.1.moved hvm, h.2.2.1.moved hvm, h.2.2.2.1.moved hvm, h.2.2.2.2.moved hvm⟩
theorem ZZ.kept {A : Nat → Prop} {U : State} {H H1 : Heap} (h : ZZ A U H) (hq : ∀ a : Nat, a < H.size → ¬ A a → H1[a]? = H[a]?) : ZZ A U H1 := ⟨h.1.kept hq, h.2.1.kept hq, h.2.2.1.kept hq, h.2.2.2.1.kept hq, h.2.2.2.2.kept hq⟩
theorem ZZ.narrow {A B : Nat → Prop} {U : State} {H : Heap} (h : ZZ A U H) (hAB : ∀ q, B q → A q) : ZZ B U H := ⟨h.1.narrow hAB, h.2.1.narrow hAB, h.2.2.1.narrow hAB, h.2.2.2.1.narrow hAB, h.2.2.2.2.narrow hAB⟩
theorem ZZ.at {A B : Nat → Prop} {s : State} {H : Heap} {locs : List Loc} (h : ZZ A s s.heap) (hS : va_S A s.heap H locs) (hAB : ∀ q, B q → A q) : ZZ B s H := (h.kept fun a h1 h2 => hS.2.1 a h1 h2).narrow hAB
abbrev pcZ (D : va_G) (ca : Nat → ClassId) (av : List Value) (wc : va_W) (sz : Nat) : Array Value → State → Prop := va_Pc av (fun U => U.heap.size = sz ∧ va_P D vwCl wc U.heap ∧ KK D ca U ∧ va_D (fun _ => True) wc ∧ ZZ (va_A wc sz) U U.heap)
theorem pvZ {D : va_G} {ca : Nat → ClassId} {s : State} {H : Heap} {C : String} {b : Nat} {As : List Value} {wc : va_W} (hK : KK D ca s) (hP : va_P D vwCl wc H) (hD : va_D (fun _ => True) wc) (hZ : ZZ (va_A wc H.size) s H) (hr : ∃ cell : Cell, H[b]? = some cell ∧ cell.vm.isStatics = false ∧ s.vm.findClass C = some cell.cls) : PreV s H C b (pcZ D ca (.ref b :: As) wc H.size) As :=
  ⟨fun a U g mk q => by obtain ⟨q0, q1, qP, qK, qD, qZ⟩ := q; exact ⟨q0, q1, qP, qK.call, qD, ZZ.moved (u := U) (U := U.calling g mk a) (Vm.Alike.refl U.vm) qZ⟩, hr, fun U hU hW => ⟨rfl, by rw [hU], by rw [hU]; exact hP, hK.warm hW, hD, by rw [hU]; exact hZ.moved hW.alike⟩⟩
theorem psZ {D : va_G} {ca : Nat → ClassId} {s : State} {H : Heap} {As : List Value} {wc : va_W} (hK : KK D ca s) (hP : va_P D vwCl wc H) (hD : va_D (fun _ => True) wc) (hZ : ZZ (va_A wc H.size) s H) : PreS s H (pcZ D ca As wc H.size) As :=
  ⟨fun a U g mk q => by obtain ⟨q0, q1, qP, qK, qD, qZ⟩ := q; exact ⟨q0, q1, qP, qK.call, qD, ZZ.moved (u := U) (U := U.calling g mk a) (Vm.Alike.refl U.vm) qZ⟩, fun U hU hW => ⟨rfl, by rw [hU], by rw [hU]; exact hP, hK.warm hW, hD, by rw [hU]; exact hZ.moved hW.alike⟩⟩
/-- an array made new is of the known class -/
theorem my_ci {D : va_G} {ca : Nat → ClassId} {s : State} {cA : ClassId} (hK9 : va_K D vwCl (tyG ca ++ [(cA, .int)]) s) (hK : KK D ca s) : cA = ca 0 :=
  Option.some.inj ((show s.vm.findClass ("[" ++ (FieldType.int).toString) = some cA from (hK9.2 3 _ rfl).2).symm.trans (show s.vm.findClass ("[" ++ (FieldType.int).toString) = some (ca 0) from (hK.1.2 0 _ rfl).2))
theorem my_cq {D : va_G} {ca : Nat → ClassId} {s : State} {cA : ClassId} (hK9 : va_K D vwCl (tyG ca ++ [(cA, .object RX3)]) s) (hK : KK D ca s) : cA = ca 2 := by
  obtain ⟨kA, comp, f2, f3, f4, f1⟩ := (hK9.2 3 _ rfl).2
  obtain ⟨kB, comp2, g2, g3, g4, g1⟩ := (hK.1.2 2 _ rfl).2
  exact Option.some.inj (f1.symm.trans g1)
def rotQ (qf : Nat → Option Nat) : Nat → Option Nat := fun k => if k < 5 then qf (k + 1) else if k = 5 then qf 0 else qf k
theorem rot_end {qf : Nat → Option Nat} {s0 s1 s2 s3 s4 s5 : Nat} (h0 : qf 0 = some s0) (h1 : qf 1 = some s1) (h2 : qf 2 = some s2) (h3 : qf 3 = some s3) (h4 : qf 4 = some s4) (h5 : qf 5 = some s5) :
    va_up (va_up (va_up (va_up (va_up (va_up qf 0 (some s1)) 1 (some s2)) 2 (some s3)) 3 (some s4)) 4 (some s5)) 5 (some s0) = rotQ qf := by
  funext k
  unfold rotQ va_up
  rcases (show k = 0 ∨ k = 1 ∨ k = 2 ∨ k = 3 ∨ k = 4 ∨ k = 5 ∨ 5 < k by omega) with q | q | q | q | q | q | q
  · subst q; exact h1.symm
  · subst q; exact h2.symm
  · subst q; exact h3.symm
  · subst q; exact h4.symm
  · subst q; exact h5.symm
  · subst q; exact h0.symm
  · rw [if_neg (by omega), if_neg (by omega), if_neg (by omega), if_neg (by omega), if_neg (by omega), if_neg (by omega), if_neg (by omega), if_neg (by omega)]
abbrev rm_kX2_init_200 : Room := { frames := 1, cells := 1, slots := 200, locals := 40 }
set_option maxHeartbeats 4000000 in
set_option maxRecDepth 100000 in
theorem kX2_init_200 (l : Launch) (D : va_G) (ca : Nat → ClassId) (sz : Nat) (q : Nat) : Met l yX2_init wsX2_init rm_kX2_init_200 (pcM D ca [.ref q, .int (nI 200)] [(q, .inr (2, [.null, .int (nI 0)]))] sz) (va_Qv (fun (u : Nat) => True) (qB D (va_A [(q, .inr (2, [.null, .int (nI 0)]))] sz) (fun u : Nat => [(q, .inr (2, [.ref u, .int (nI 0)])), (u, .inl (ca 0, 200, .inl (fun _ => 0)))])) (va_A [(q, .inr (2, [.null, .int (nI 0)]))] sz)) 1 200 (va_A [(q, .inr (2, [.null, .int (nI 0)]))] sz) := by
  refine Met.ofW (cc := cX2_init) (maxL := 2) (ret := none) (by decide) rfl ?_
  intro p e s m args below meth c s₁ B hml hv
  obtain ⟨rfl, hsz, hP, hK, hD0⟩ := hv
  have hx := B.exec
  have hb := B.bytes
  have hr := B.returns
  have hts := atoms_spec (ws := wsX2_init) B.pre
  have hown : s.vm.findClass RX2 = some m.cls := findClass_of_methodNamed B.named
  have hlocks := B.notSynchronized
  subst hsz
  have hD := hD0.self (sz := s.heap.size)
  generalize hAe : va_A [(q, .inr (2, [.null, .int (nI 0)]))] s.heap.size = A at hD ⊢
  have hA : ∀ q : Nat, s.heap.size ≤ q → A q := fun q h => by rw [← hAe]; exact Or.inr h
  have hS : va_S A s.heap s.heap [] := va_S.rf
  have hP : va_P D vwCl [(q, .inr (2, [.null, .int (nI 0)]))] s.heap := hP
  have hKv := hK.1
  have hl := lv_entry ([.ref q, .int (nI 200)]) (n := 2) (kk_le rfl)
  rw [lg_entry_eq]
  generalize (lg_sl ([.ref q, .int (nI 200)]) ++ List.replicate (2 - (lg_sl ([.ref q, .int (nI 200)])).length) Slot.unset).toArray = ls at hl ⊢
  have hl : lv_has ls 2 [(0, .ref q), (1, .int (nI 200))] := hl
  have hiX2 : ∀ w ∈ u_ws RX2 TX2 2, w ∈ wsX2_init := fun w h => by first | exact List.mem_cons_of_mem _ (List.mem_append_right _ h) | exact List.mem_cons_of_mem _ (List.mem_append_left _ (List.mem_append_right _ h)) | exact List.mem_cons_of_mem _ (List.mem_append_left _ (List.mem_append_left _ (List.mem_append_right _ h))) | exact List.mem_cons_of_mem _ (List.mem_append_left _ (List.mem_append_left _ (List.mem_append_left _ (List.mem_append_right _ h)))) | (revert w h; decide +kernel)
  have lk9 : (Cond.fieldLink RX2 9 "StripeSwipes$Row" "size" "I").before _ s = true := hts _ (by decide +kernel)
  have lm15 : (Cond.methodLink RX2 15 Lib.Math.max.name).before _ s = true := hts _ (by decide +kernel)
  have ls_max : (Cond.static Lib.Math.max.name).before _ s = true := hts _ (by decide +kernel)
  have li_math : (Cond.initialized "java/lang/Math").before _ s = true := hts _ (by decide +kernel)
  have lco_max : (Cond.code Lib.Math.max.name Lib.Math.max.code 2 (some .int)).before _ s = true := hts _ (by decide +kernel)
  have lk21 : (Cond.fieldLink RX2 21 "StripeSwipes$Row" "items" "[I").before _ s = true := hts _ (by decide +kernel)
  have hin : meth.name = "<init>" := (name_of_methodNamed B.named B.method).1
  refine lv_aload_n hx hb dX2_init_0 rfl (lv_at hl 0 rfl) ?_
  refine W.objInit hx hb hown (hts (.methodLink RX2 3 objectInit) (by decide +kernel)) (hts (.instanceMethod objectInit) (by decide +kernel)) (hts (.code objectInit ⟨#[0xb1]⟩ 1 none) (by decide +kernel)) rfl (by rw [hml]; exact hl.1) rfl dX2_init_1 (kk_le rfl) (kk_le rfl) ?_
  refine W.eq (g2 := F0 m 4 ls []) rfl ?_
  refine lv_aload_n hx hb dX2_init_4 rfl (lv_at hl 0 rfl) ?_
  refine lv_iconst (v := nI 0) hx hb dX2_init_5 (by decide) ?_
  refine va_put (D := D) (ci := 2) (v := .int (nI 0)) (ty := .int) (C := RX2) (T := TX2) (N := 2) hx hb hts hiX2 tyX2 tyX2_ok nmX2 hown hKv hP hD hS 0 rfl rfl 1 (by decide) lk9 (fun _ h9 => h9) rfl (by decide +kernel) rfl rfl (kk_le rfl) dX2_init_6 (fun H locs hP hD hS => ?_)
  have hP : va_P D vwCl [(q, .inr (2, [.null, .int (nI 0)]))] H := hP
  have hD : va_D A [(q, .inr (2, [.null, .int (nI 0)]))] := hD
  refine lv_aload_n hx hb dX2_init_9 rfl (lv_at hl 0 rfl) ?_
  refine lv_iconst (v := nI 0) hx hb dX2_init_10 (by decide) ?_
  refine lv_iload_n hx hb dX2_init_11 rfl (lv_at hl 1 rfl) ?_
  refine va_mmax hx hb (hml.trans hl.1.symm) hown lm15 ls_max li_math lco_max (kk_le rfl) (kk_le rfl) (kk_le rfl) (kk_le rfl) dX2_init_12 ?_
  rw [ni_max (by omega) (by omega)]
  rw [show (max 0 200 : Nat) = 200 from rfl]
  refine va_newa (atype := .int) (ty := .int) (a0 := (200, .inl (fun _ => 0))) (N' := 200) hx hb (hts _ (by decide +kernel)) rfl hKv hP hD hS hA (fun _ => by rfl) (by decide) (by decide) (by decide) (kk_le rfl) (kk_le rfl) dX2_init_15 (fun qn1 cA9 H hK9 hP hD hS => ?_)
  obtain rfl : cA9 = ca 0 := my_ci hK9 hK
  have hP : va_P D vwCl [(q, .inr (2, [.null, .int (nI 0)])), (qn1, .inl (ca 0, 200, .inl (fun _ => 0)))] H := hP
  have hD : va_D A [(q, .inr (2, [.null, .int (nI 0)])), (qn1, .inl (ca 0, 200, .inl (fun _ => 0)))] := hD
  refine va_putF (D := D) (ci := 2) (v := .ref qn1) (ty := .array .int) (C := RX2) (T := TX2) (N := 2) hx hb hts hiX2 tyX2 tyX2_ok nmX2 hown hKv hP hD hS 0 rfl rfl 0 (by decide) lk21 (fun _ h9 => h9) rfl hin rfl (by decide +kernel) rfl rfl (kk_le rfl) dX2_init_17 (fun H locs hP hD hS => ?_)
  have hP : va_P D vwCl [(q, .inr (2, [.ref qn1, .int (nI 0)])), (qn1, .inl (ca 0, 200, .inl (fun _ => 0)))] H := hP
  have hD : va_D A [(q, .inr (2, [.ref qn1, .int (nI 0)])), (qn1, .inl (ca 0, 200, .inl (fun _ => 0)))] := hD
  refine W.widen (k := 1) (n := 200) (kk_le rfl) (kk_le rfl) ?_
  exact W.vret hx hb hr (fun t ht hW => ⟨⟨qn1, rfl, by trivial, by rw [ht]; exact hP, hD⟩, hS.F ht⟩) hS.2.2 dX2_init_20
abbrev rm_kX2_init_20 : Room := { frames := 1, cells := 1, slots := 20, locals := 40 }
set_option maxHeartbeats 4000000 in
set_option maxRecDepth 100000 in
theorem kX2_init_20 (l : Launch) (D : va_G) (ca : Nat → ClassId) (sz : Nat) (q : Nat) : Met l yX2_init wsX2_init rm_kX2_init_20 (pcM D ca [.ref q, .int (nI 20)] [(q, .inr (2, [.null, .int (nI 0)]))] sz) (va_Qv (fun (u : Nat) => True) (qB D (va_A [(q, .inr (2, [.null, .int (nI 0)]))] sz) (fun u : Nat => [(q, .inr (2, [.ref u, .int (nI 0)])), (u, .inl (ca 0, 20, .inl (fun _ => 0)))])) (va_A [(q, .inr (2, [.null, .int (nI 0)]))] sz)) 1 20 (va_A [(q, .inr (2, [.null, .int (nI 0)]))] sz) := by
  refine Met.ofW (cc := cX2_init) (maxL := 2) (ret := none) (by decide) rfl ?_
  intro p e s m args below meth c s₁ B hml hv
  obtain ⟨rfl, hsz, hP, hK, hD0⟩ := hv
  have hx := B.exec
  have hb := B.bytes
  have hr := B.returns
  have hts := atoms_spec (ws := wsX2_init) B.pre
  have hown : s.vm.findClass RX2 = some m.cls := findClass_of_methodNamed B.named
  have hlocks := B.notSynchronized
  subst hsz
  have hD := hD0.self (sz := s.heap.size)
  generalize hAe : va_A [(q, .inr (2, [.null, .int (nI 0)]))] s.heap.size = A at hD ⊢
  have hA : ∀ q : Nat, s.heap.size ≤ q → A q := fun q h => by rw [← hAe]; exact Or.inr h
  have hS : va_S A s.heap s.heap [] := va_S.rf
  have hP : va_P D vwCl [(q, .inr (2, [.null, .int (nI 0)]))] s.heap := hP
  have hKv := hK.1
  have hl := lv_entry ([.ref q, .int (nI 20)]) (n := 2) (kk_le rfl)
  rw [lg_entry_eq]
  generalize (lg_sl ([.ref q, .int (nI 20)]) ++ List.replicate (2 - (lg_sl ([.ref q, .int (nI 20)])).length) Slot.unset).toArray = ls at hl ⊢
  have hl : lv_has ls 2 [(0, .ref q), (1, .int (nI 20))] := hl
  have hiX2 : ∀ w ∈ u_ws RX2 TX2 2, w ∈ wsX2_init := fun w h => by first | exact List.mem_cons_of_mem _ (List.mem_append_right _ h) | exact List.mem_cons_of_mem _ (List.mem_append_left _ (List.mem_append_right _ h)) | exact List.mem_cons_of_mem _ (List.mem_append_left _ (List.mem_append_left _ (List.mem_append_right _ h))) | exact List.mem_cons_of_mem _ (List.mem_append_left _ (List.mem_append_left _ (List.mem_append_left _ (List.mem_append_right _ h)))) | (revert w h; decide +kernel)
  have lk9 : (Cond.fieldLink RX2 9 "StripeSwipes$Row" "size" "I").before _ s = true := hts _ (by decide +kernel)
  have lm15 : (Cond.methodLink RX2 15 Lib.Math.max.name).before _ s = true := hts _ (by decide +kernel)
  have ls_max : (Cond.static Lib.Math.max.name).before _ s = true := hts _ (by decide +kernel)
  have li_math : (Cond.initialized "java/lang/Math").before _ s = true := hts _ (by decide +kernel)
  have lco_max : (Cond.code Lib.Math.max.name Lib.Math.max.code 2 (some .int)).before _ s = true := hts _ (by decide +kernel)
  have lk21 : (Cond.fieldLink RX2 21 "StripeSwipes$Row" "items" "[I").before _ s = true := hts _ (by decide +kernel)
  have hin : meth.name = "<init>" := (name_of_methodNamed B.named B.method).1
  refine lv_aload_n hx hb dX2_init_0 rfl (lv_at hl 0 rfl) ?_
  refine W.objInit hx hb hown (hts (.methodLink RX2 3 objectInit) (by decide +kernel)) (hts (.instanceMethod objectInit) (by decide +kernel)) (hts (.code objectInit ⟨#[0xb1]⟩ 1 none) (by decide +kernel)) rfl (by rw [hml]; exact hl.1) rfl dX2_init_1 (kk_le rfl) (kk_le rfl) ?_
  refine W.eq (g2 := F0 m 4 ls []) rfl ?_
  refine lv_aload_n hx hb dX2_init_4 rfl (lv_at hl 0 rfl) ?_
  refine lv_iconst (v := nI 0) hx hb dX2_init_5 (by decide) ?_
  refine va_put (D := D) (ci := 2) (v := .int (nI 0)) (ty := .int) (C := RX2) (T := TX2) (N := 2) hx hb hts hiX2 tyX2 tyX2_ok nmX2 hown hKv hP hD hS 0 rfl rfl 1 (by decide) lk9 (fun _ h9 => h9) rfl (by decide +kernel) rfl rfl (kk_le rfl) dX2_init_6 (fun H locs hP hD hS => ?_)
  have hP : va_P D vwCl [(q, .inr (2, [.null, .int (nI 0)]))] H := hP
  have hD : va_D A [(q, .inr (2, [.null, .int (nI 0)]))] := hD
  refine lv_aload_n hx hb dX2_init_9 rfl (lv_at hl 0 rfl) ?_
  refine lv_iconst (v := nI 0) hx hb dX2_init_10 (by decide) ?_
  refine lv_iload_n hx hb dX2_init_11 rfl (lv_at hl 1 rfl) ?_
  refine va_mmax hx hb (hml.trans hl.1.symm) hown lm15 ls_max li_math lco_max (kk_le rfl) (kk_le rfl) (kk_le rfl) (kk_le rfl) dX2_init_12 ?_
  rw [ni_max (by omega) (by omega)]
  rw [show (max 0 20 : Nat) = 20 from rfl]
  refine va_newa (atype := .int) (ty := .int) (a0 := (20, .inl (fun _ => 0))) (N' := 20) hx hb (hts _ (by decide +kernel)) rfl hKv hP hD hS hA (fun _ => by rfl) (by decide) (by decide) (by decide) (kk_le rfl) (kk_le rfl) dX2_init_15 (fun qn1 cA9 H hK9 hP hD hS => ?_)
  obtain rfl : cA9 = ca 0 := my_ci hK9 hK
  have hP : va_P D vwCl [(q, .inr (2, [.null, .int (nI 0)])), (qn1, .inl (ca 0, 20, .inl (fun _ => 0)))] H := hP
  have hD : va_D A [(q, .inr (2, [.null, .int (nI 0)])), (qn1, .inl (ca 0, 20, .inl (fun _ => 0)))] := hD
  refine va_putF (D := D) (ci := 2) (v := .ref qn1) (ty := .array .int) (C := RX2) (T := TX2) (N := 2) hx hb hts hiX2 tyX2 tyX2_ok nmX2 hown hKv hP hD hS 0 rfl rfl 0 (by decide) lk21 (fun _ h9 => h9) rfl hin rfl (by decide +kernel) rfl rfl (kk_le rfl) dX2_init_17 (fun H locs hP hD hS => ?_)
  have hP : va_P D vwCl [(q, .inr (2, [.ref qn1, .int (nI 0)])), (qn1, .inl (ca 0, 20, .inl (fun _ => 0)))] H := hP
  have hD : va_D A [(q, .inr (2, [.ref qn1, .int (nI 0)])), (qn1, .inl (ca 0, 20, .inl (fun _ => 0)))] := hD
  refine W.widen (k := 1) (n := 20) (kk_le rfl) (kk_le rfl) ?_
  exact W.vret hx hb hr (fun t ht hW => ⟨⟨qn1, rfl, by trivial, by rw [ht]; exact hP, hD⟩, hS.F ht⟩) hS.2.2 dX2_init_20
abbrev rm_kX2_init_4 : Room := { frames := 1, cells := 1, slots := 4, locals := 40 }
set_option maxHeartbeats 4000000 in
set_option maxRecDepth 100000 in
theorem kX2_init_4 (l : Launch) (D : va_G) (ca : Nat → ClassId) (sz : Nat) (q : Nat) : Met l yX2_init wsX2_init rm_kX2_init_4 (pcM D ca [.ref q, .int (nI 4)] [(q, .inr (2, [.null, .int (nI 0)]))] sz) (va_Qv (fun (u : Nat) => True) (qB D (va_A [(q, .inr (2, [.null, .int (nI 0)]))] sz) (fun u : Nat => [(q, .inr (2, [.ref u, .int (nI 0)])), (u, .inl (ca 0, 4, .inl (fun _ => 0)))])) (va_A [(q, .inr (2, [.null, .int (nI 0)]))] sz)) 1 4 (va_A [(q, .inr (2, [.null, .int (nI 0)]))] sz) := by
  refine Met.ofW (cc := cX2_init) (maxL := 2) (ret := none) (by decide) rfl ?_
  intro p e s m args below meth c s₁ B hml hv
  obtain ⟨rfl, hsz, hP, hK, hD0⟩ := hv
  have hx := B.exec
  have hb := B.bytes
  have hr := B.returns
  have hts := atoms_spec (ws := wsX2_init) B.pre
  have hown : s.vm.findClass RX2 = some m.cls := findClass_of_methodNamed B.named
  have hlocks := B.notSynchronized
  subst hsz
  have hD := hD0.self (sz := s.heap.size)
  generalize hAe : va_A [(q, .inr (2, [.null, .int (nI 0)]))] s.heap.size = A at hD ⊢
  have hA : ∀ q : Nat, s.heap.size ≤ q → A q := fun q h => by rw [← hAe]; exact Or.inr h
  have hS : va_S A s.heap s.heap [] := va_S.rf
  have hP : va_P D vwCl [(q, .inr (2, [.null, .int (nI 0)]))] s.heap := hP
  have hKv := hK.1
  have hl := lv_entry ([.ref q, .int (nI 4)]) (n := 2) (kk_le rfl)
  rw [lg_entry_eq]
  generalize (lg_sl ([.ref q, .int (nI 4)]) ++ List.replicate (2 - (lg_sl ([.ref q, .int (nI 4)])).length) Slot.unset).toArray = ls at hl ⊢
  have hl : lv_has ls 2 [(0, .ref q), (1, .int (nI 4))] := hl
  have hiX2 : ∀ w ∈ u_ws RX2 TX2 2, w ∈ wsX2_init := fun w h => by first | exact List.mem_cons_of_mem _ (List.mem_append_right _ h) | exact List.mem_cons_of_mem _ (List.mem_append_left _ (List.mem_append_right _ h)) | exact List.mem_cons_of_mem _ (List.mem_append_left _ (List.mem_append_left _ (List.mem_append_right _ h))) | exact List.mem_cons_of_mem _ (List.mem_append_left _ (List.mem_append_left _ (List.mem_append_left _ (List.mem_append_right _ h)))) | (revert w h; decide +kernel)
  have lk9 : (Cond.fieldLink RX2 9 "StripeSwipes$Row" "size" "I").before _ s = true := hts _ (by decide +kernel)
  have lm15 : (Cond.methodLink RX2 15 Lib.Math.max.name).before _ s = true := hts _ (by decide +kernel)
  have ls_max : (Cond.static Lib.Math.max.name).before _ s = true := hts _ (by decide +kernel)
  have li_math : (Cond.initialized "java/lang/Math").before _ s = true := hts _ (by decide +kernel)
  have lco_max : (Cond.code Lib.Math.max.name Lib.Math.max.code 2 (some .int)).before _ s = true := hts _ (by decide +kernel)
  have lk21 : (Cond.fieldLink RX2 21 "StripeSwipes$Row" "items" "[I").before _ s = true := hts _ (by decide +kernel)
  have hin : meth.name = "<init>" := (name_of_methodNamed B.named B.method).1
  refine lv_aload_n hx hb dX2_init_0 rfl (lv_at hl 0 rfl) ?_
  refine W.objInit hx hb hown (hts (.methodLink RX2 3 objectInit) (by decide +kernel)) (hts (.instanceMethod objectInit) (by decide +kernel)) (hts (.code objectInit ⟨#[0xb1]⟩ 1 none) (by decide +kernel)) rfl (by rw [hml]; exact hl.1) rfl dX2_init_1 (kk_le rfl) (kk_le rfl) ?_
  refine W.eq (g2 := F0 m 4 ls []) rfl ?_
  refine lv_aload_n hx hb dX2_init_4 rfl (lv_at hl 0 rfl) ?_
  refine lv_iconst (v := nI 0) hx hb dX2_init_5 (by decide) ?_
  refine va_put (D := D) (ci := 2) (v := .int (nI 0)) (ty := .int) (C := RX2) (T := TX2) (N := 2) hx hb hts hiX2 tyX2 tyX2_ok nmX2 hown hKv hP hD hS 0 rfl rfl 1 (by decide) lk9 (fun _ h9 => h9) rfl (by decide +kernel) rfl rfl (kk_le rfl) dX2_init_6 (fun H locs hP hD hS => ?_)
  have hP : va_P D vwCl [(q, .inr (2, [.null, .int (nI 0)]))] H := hP
  have hD : va_D A [(q, .inr (2, [.null, .int (nI 0)]))] := hD
  refine lv_aload_n hx hb dX2_init_9 rfl (lv_at hl 0 rfl) ?_
  refine lv_iconst (v := nI 0) hx hb dX2_init_10 (by decide) ?_
  refine lv_iload_n hx hb dX2_init_11 rfl (lv_at hl 1 rfl) ?_
  refine va_mmax hx hb (hml.trans hl.1.symm) hown lm15 ls_max li_math lco_max (kk_le rfl) (kk_le rfl) (kk_le rfl) (kk_le rfl) dX2_init_12 ?_
  rw [ni_max (by omega) (by omega)]
  rw [show (max 0 4 : Nat) = 4 from rfl]
  refine va_newa (atype := .int) (ty := .int) (a0 := (4, .inl (fun _ => 0))) (N' := 4) hx hb (hts _ (by decide +kernel)) rfl hKv hP hD hS hA (fun _ => by rfl) (by decide) (by decide) (by decide) (kk_le rfl) (kk_le rfl) dX2_init_15 (fun qn1 cA9 H hK9 hP hD hS => ?_)
  obtain rfl : cA9 = ca 0 := my_ci hK9 hK
  have hP : va_P D vwCl [(q, .inr (2, [.null, .int (nI 0)])), (qn1, .inl (ca 0, 4, .inl (fun _ => 0)))] H := hP
  have hD : va_D A [(q, .inr (2, [.null, .int (nI 0)])), (qn1, .inl (ca 0, 4, .inl (fun _ => 0)))] := hD
  refine va_putF (D := D) (ci := 2) (v := .ref qn1) (ty := .array .int) (C := RX2) (T := TX2) (N := 2) hx hb hts hiX2 tyX2 tyX2_ok nmX2 hown hKv hP hD hS 0 rfl rfl 0 (by decide) lk21 (fun _ h9 => h9) rfl hin rfl (by decide +kernel) rfl rfl (kk_le rfl) dX2_init_17 (fun H locs hP hD hS => ?_)
  have hP : va_P D vwCl [(q, .inr (2, [.ref qn1, .int (nI 0)])), (qn1, .inl (ca 0, 4, .inl (fun _ => 0)))] H := hP
  have hD : va_D A [(q, .inr (2, [.ref qn1, .int (nI 0)])), (qn1, .inl (ca 0, 4, .inl (fun _ => 0)))] := hD
  refine W.widen (k := 1) (n := 4) (kk_le rfl) (kk_le rfl) ?_
  exact W.vret hx hb hr (fun t ht hW => ⟨⟨qn1, rfl, by trivial, by rw [ht]; exact hP, hD⟩, hS.F ht⟩) hS.2.2 dX2_init_20
abbrev rm_kX2_init_40 : Room := { frames := 1, cells := 1, slots := 40, locals := 40 }
set_option maxHeartbeats 4000000 in
set_option maxRecDepth 100000 in
theorem kX2_init_40 (l : Launch) (D : va_G) (ca : Nat → ClassId) (sz : Nat) (q : Nat) : Met l yX2_init wsX2_init rm_kX2_init_40 (pcM D ca [.ref q, .int (nI 40)] [(q, .inr (2, [.null, .int (nI 0)]))] sz) (va_Qv (fun (u : Nat) => True) (qB D (va_A [(q, .inr (2, [.null, .int (nI 0)]))] sz) (fun u : Nat => [(q, .inr (2, [.ref u, .int (nI 0)])), (u, .inl (ca 0, 40, .inl (fun _ => 0)))])) (va_A [(q, .inr (2, [.null, .int (nI 0)]))] sz)) 1 40 (va_A [(q, .inr (2, [.null, .int (nI 0)]))] sz) := by
  refine Met.ofW (cc := cX2_init) (maxL := 2) (ret := none) (by decide) rfl ?_
  intro p e s m args below meth c s₁ B hml hv
  obtain ⟨rfl, hsz, hP, hK, hD0⟩ := hv
  have hx := B.exec
  have hb := B.bytes
  have hr := B.returns
  have hts := atoms_spec (ws := wsX2_init) B.pre
  have hown : s.vm.findClass RX2 = some m.cls := findClass_of_methodNamed B.named
  have hlocks := B.notSynchronized
  subst hsz
  have hD := hD0.self (sz := s.heap.size)
  generalize hAe : va_A [(q, .inr (2, [.null, .int (nI 0)]))] s.heap.size = A at hD ⊢
  have hA : ∀ q : Nat, s.heap.size ≤ q → A q := fun q h => by rw [← hAe]; exact Or.inr h
  have hS : va_S A s.heap s.heap [] := va_S.rf
  have hP : va_P D vwCl [(q, .inr (2, [.null, .int (nI 0)]))] s.heap := hP
  have hKv := hK.1
  have hl := lv_entry ([.ref q, .int (nI 40)]) (n := 2) (kk_le rfl)
  rw [lg_entry_eq]
  generalize (lg_sl ([.ref q, .int (nI 40)]) ++ List.replicate (2 - (lg_sl ([.ref q, .int (nI 40)])).length) Slot.unset).toArray = ls at hl ⊢
  have hl : lv_has ls 2 [(0, .ref q), (1, .int (nI 40))] := hl
  have hiX2 : ∀ w ∈ u_ws RX2 TX2 2, w ∈ wsX2_init := fun w h => by first | exact List.mem_cons_of_mem _ (List.mem_append_right _ h) | exact List.mem_cons_of_mem _ (List.mem_append_left _ (List.mem_append_right _ h)) | exact List.mem_cons_of_mem _ (List.mem_append_left _ (List.mem_append_left _ (List.mem_append_right _ h))) | exact List.mem_cons_of_mem _ (List.mem_append_left _ (List.mem_append_left _ (List.mem_append_left _ (List.mem_append_right _ h)))) | (revert w h; decide +kernel)
  have lk9 : (Cond.fieldLink RX2 9 "StripeSwipes$Row" "size" "I").before _ s = true := hts _ (by decide +kernel)
  have lm15 : (Cond.methodLink RX2 15 Lib.Math.max.name).before _ s = true := hts _ (by decide +kernel)
  have ls_max : (Cond.static Lib.Math.max.name).before _ s = true := hts _ (by decide +kernel)
  have li_math : (Cond.initialized "java/lang/Math").before _ s = true := hts _ (by decide +kernel)
  have lco_max : (Cond.code Lib.Math.max.name Lib.Math.max.code 2 (some .int)).before _ s = true := hts _ (by decide +kernel)
  have lk21 : (Cond.fieldLink RX2 21 "StripeSwipes$Row" "items" "[I").before _ s = true := hts _ (by decide +kernel)
  have hin : meth.name = "<init>" := (name_of_methodNamed B.named B.method).1
  refine lv_aload_n hx hb dX2_init_0 rfl (lv_at hl 0 rfl) ?_
  refine W.objInit hx hb hown (hts (.methodLink RX2 3 objectInit) (by decide +kernel)) (hts (.instanceMethod objectInit) (by decide +kernel)) (hts (.code objectInit ⟨#[0xb1]⟩ 1 none) (by decide +kernel)) rfl (by rw [hml]; exact hl.1) rfl dX2_init_1 (kk_le rfl) (kk_le rfl) ?_
  refine W.eq (g2 := F0 m 4 ls []) rfl ?_
  refine lv_aload_n hx hb dX2_init_4 rfl (lv_at hl 0 rfl) ?_
  refine lv_iconst (v := nI 0) hx hb dX2_init_5 (by decide) ?_
  refine va_put (D := D) (ci := 2) (v := .int (nI 0)) (ty := .int) (C := RX2) (T := TX2) (N := 2) hx hb hts hiX2 tyX2 tyX2_ok nmX2 hown hKv hP hD hS 0 rfl rfl 1 (by decide) lk9 (fun _ h9 => h9) rfl (by decide +kernel) rfl rfl (kk_le rfl) dX2_init_6 (fun H locs hP hD hS => ?_)
  have hP : va_P D vwCl [(q, .inr (2, [.null, .int (nI 0)]))] H := hP
  have hD : va_D A [(q, .inr (2, [.null, .int (nI 0)]))] := hD
  refine lv_aload_n hx hb dX2_init_9 rfl (lv_at hl 0 rfl) ?_
  refine lv_iconst (v := nI 0) hx hb dX2_init_10 (by decide) ?_
  refine lv_iload_n hx hb dX2_init_11 rfl (lv_at hl 1 rfl) ?_
  refine va_mmax hx hb (hml.trans hl.1.symm) hown lm15 ls_max li_math lco_max (kk_le rfl) (kk_le rfl) (kk_le rfl) (kk_le rfl) dX2_init_12 ?_
  rw [ni_max (by omega) (by omega)]
  rw [show (max 0 40 : Nat) = 40 from rfl]
  refine va_newa (atype := .int) (ty := .int) (a0 := (40, .inl (fun _ => 0))) (N' := 40) hx hb (hts _ (by decide +kernel)) rfl hKv hP hD hS hA (fun _ => by rfl) (by decide) (by decide) (by decide) (kk_le rfl) (kk_le rfl) dX2_init_15 (fun qn1 cA9 H hK9 hP hD hS => ?_)
  obtain rfl : cA9 = ca 0 := my_ci hK9 hK
  have hP : va_P D vwCl [(q, .inr (2, [.null, .int (nI 0)])), (qn1, .inl (ca 0, 40, .inl (fun _ => 0)))] H := hP
  have hD : va_D A [(q, .inr (2, [.null, .int (nI 0)])), (qn1, .inl (ca 0, 40, .inl (fun _ => 0)))] := hD
  refine va_putF (D := D) (ci := 2) (v := .ref qn1) (ty := .array .int) (C := RX2) (T := TX2) (N := 2) hx hb hts hiX2 tyX2 tyX2_ok nmX2 hown hKv hP hD hS 0 rfl rfl 0 (by decide) lk21 (fun _ h9 => h9) rfl hin rfl (by decide +kernel) rfl rfl (kk_le rfl) dX2_init_17 (fun H locs hP hD hS => ?_)
  have hP : va_P D vwCl [(q, .inr (2, [.ref qn1, .int (nI 0)])), (qn1, .inl (ca 0, 40, .inl (fun _ => 0)))] H := hP
  have hD : va_D A [(q, .inr (2, [.ref qn1, .int (nI 0)])), (qn1, .inl (ca 0, 40, .inl (fun _ => 0)))] := hD
  refine W.widen (k := 1) (n := 40) (kk_le rfl) (kk_le rfl) ?_
  exact W.vret hx hb hr (fun t ht hW => ⟨⟨qn1, rfl, by trivial, by rw [ht]; exact hP, hD⟩, hS.F ht⟩) hS.2.2 dX2_init_20
abbrev rm_kX2_init_46 : Room := { frames := 1, cells := 1, slots := 46, locals := 40 }
set_option maxHeartbeats 4000000 in
set_option maxRecDepth 100000 in
theorem kX2_init_46 (l : Launch) (D : va_G) (ca : Nat → ClassId) (sz : Nat) (q : Nat) : Met l yX2_init wsX2_init rm_kX2_init_46 (pcM D ca [.ref q, .int (nI 46)] [(q, .inr (2, [.null, .int (nI 0)]))] sz) (va_Qv (fun (u : Nat) => True) (qB D (va_A [(q, .inr (2, [.null, .int (nI 0)]))] sz) (fun u : Nat => [(q, .inr (2, [.ref u, .int (nI 0)])), (u, .inl (ca 0, 46, .inl (fun _ => 0)))])) (va_A [(q, .inr (2, [.null, .int (nI 0)]))] sz)) 1 46 (va_A [(q, .inr (2, [.null, .int (nI 0)]))] sz) := by
  refine Met.ofW (cc := cX2_init) (maxL := 2) (ret := none) (by decide) rfl ?_
  intro p e s m args below meth c s₁ B hml hv
  obtain ⟨rfl, hsz, hP, hK, hD0⟩ := hv
  have hx := B.exec
  have hb := B.bytes
  have hr := B.returns
  have hts := atoms_spec (ws := wsX2_init) B.pre
  have hown : s.vm.findClass RX2 = some m.cls := findClass_of_methodNamed B.named
  have hlocks := B.notSynchronized
  subst hsz
  have hD := hD0.self (sz := s.heap.size)
  generalize hAe : va_A [(q, .inr (2, [.null, .int (nI 0)]))] s.heap.size = A at hD ⊢
  have hA : ∀ q : Nat, s.heap.size ≤ q → A q := fun q h => by rw [← hAe]; exact Or.inr h
  have hS : va_S A s.heap s.heap [] := va_S.rf
  have hP : va_P D vwCl [(q, .inr (2, [.null, .int (nI 0)]))] s.heap := hP
  have hKv := hK.1
  have hl := lv_entry ([.ref q, .int (nI 46)]) (n := 2) (kk_le rfl)
  rw [lg_entry_eq]
  generalize (lg_sl ([.ref q, .int (nI 46)]) ++ List.replicate (2 - (lg_sl ([.ref q, .int (nI 46)])).length) Slot.unset).toArray = ls at hl ⊢
  have hl : lv_has ls 2 [(0, .ref q), (1, .int (nI 46))] := hl
  have hiX2 : ∀ w ∈ u_ws RX2 TX2 2, w ∈ wsX2_init := fun w h => by first | exact List.mem_cons_of_mem _ (List.mem_append_right _ h) | exact List.mem_cons_of_mem _ (List.mem_append_left _ (List.mem_append_right _ h)) | exact List.mem_cons_of_mem _ (List.mem_append_left _ (List.mem_append_left _ (List.mem_append_right _ h))) | exact List.mem_cons_of_mem _ (List.mem_append_left _ (List.mem_append_left _ (List.mem_append_left _ (List.mem_append_right _ h)))) | (revert w h; decide +kernel)
  have lk9 : (Cond.fieldLink RX2 9 "StripeSwipes$Row" "size" "I").before _ s = true := hts _ (by decide +kernel)
  have lm15 : (Cond.methodLink RX2 15 Lib.Math.max.name).before _ s = true := hts _ (by decide +kernel)
  have ls_max : (Cond.static Lib.Math.max.name).before _ s = true := hts _ (by decide +kernel)
  have li_math : (Cond.initialized "java/lang/Math").before _ s = true := hts _ (by decide +kernel)
  have lco_max : (Cond.code Lib.Math.max.name Lib.Math.max.code 2 (some .int)).before _ s = true := hts _ (by decide +kernel)
  have lk21 : (Cond.fieldLink RX2 21 "StripeSwipes$Row" "items" "[I").before _ s = true := hts _ (by decide +kernel)
  have hin : meth.name = "<init>" := (name_of_methodNamed B.named B.method).1
  refine lv_aload_n hx hb dX2_init_0 rfl (lv_at hl 0 rfl) ?_
  refine W.objInit hx hb hown (hts (.methodLink RX2 3 objectInit) (by decide +kernel)) (hts (.instanceMethod objectInit) (by decide +kernel)) (hts (.code objectInit ⟨#[0xb1]⟩ 1 none) (by decide +kernel)) rfl (by rw [hml]; exact hl.1) rfl dX2_init_1 (kk_le rfl) (kk_le rfl) ?_
  refine W.eq (g2 := F0 m 4 ls []) rfl ?_
  refine lv_aload_n hx hb dX2_init_4 rfl (lv_at hl 0 rfl) ?_
  refine lv_iconst (v := nI 0) hx hb dX2_init_5 (by decide) ?_
  refine va_put (D := D) (ci := 2) (v := .int (nI 0)) (ty := .int) (C := RX2) (T := TX2) (N := 2) hx hb hts hiX2 tyX2 tyX2_ok nmX2 hown hKv hP hD hS 0 rfl rfl 1 (by decide) lk9 (fun _ h9 => h9) rfl (by decide +kernel) rfl rfl (kk_le rfl) dX2_init_6 (fun H locs hP hD hS => ?_)
  have hP : va_P D vwCl [(q, .inr (2, [.null, .int (nI 0)]))] H := hP
  have hD : va_D A [(q, .inr (2, [.null, .int (nI 0)]))] := hD
  refine lv_aload_n hx hb dX2_init_9 rfl (lv_at hl 0 rfl) ?_
  refine lv_iconst (v := nI 0) hx hb dX2_init_10 (by decide) ?_
  refine lv_iload_n hx hb dX2_init_11 rfl (lv_at hl 1 rfl) ?_
  refine va_mmax hx hb (hml.trans hl.1.symm) hown lm15 ls_max li_math lco_max (kk_le rfl) (kk_le rfl) (kk_le rfl) (kk_le rfl) dX2_init_12 ?_
  rw [ni_max (by omega) (by omega)]
  rw [show (max 0 46 : Nat) = 46 from rfl]
  refine va_newa (atype := .int) (ty := .int) (a0 := (46, .inl (fun _ => 0))) (N' := 46) hx hb (hts _ (by decide +kernel)) rfl hKv hP hD hS hA (fun _ => by rfl) (by decide) (by decide) (by decide) (kk_le rfl) (kk_le rfl) dX2_init_15 (fun qn1 cA9 H hK9 hP hD hS => ?_)
  obtain rfl : cA9 = ca 0 := my_ci hK9 hK
  have hP : va_P D vwCl [(q, .inr (2, [.null, .int (nI 0)])), (qn1, .inl (ca 0, 46, .inl (fun _ => 0)))] H := hP
  have hD : va_D A [(q, .inr (2, [.null, .int (nI 0)])), (qn1, .inl (ca 0, 46, .inl (fun _ => 0)))] := hD
  refine va_putF (D := D) (ci := 2) (v := .ref qn1) (ty := .array .int) (C := RX2) (T := TX2) (N := 2) hx hb hts hiX2 tyX2 tyX2_ok nmX2 hown hKv hP hD hS 0 rfl rfl 0 (by decide) lk21 (fun _ h9 => h9) rfl hin rfl (by decide +kernel) rfl rfl (kk_le rfl) dX2_init_17 (fun H locs hP hD hS => ?_)
  have hP : va_P D vwCl [(q, .inr (2, [.ref qn1, .int (nI 0)])), (qn1, .inl (ca 0, 46, .inl (fun _ => 0)))] H := hP
  have hD : va_D A [(q, .inr (2, [.ref qn1, .int (nI 0)])), (qn1, .inl (ca 0, 46, .inl (fun _ => 0)))] := hD
  refine W.widen (k := 1) (n := 46) (kk_le rfl) (kk_le rfl) ?_
  exact W.vret hx hb hr (fun t ht hW => ⟨⟨qn1, rfl, by trivial, by rw [ht]; exact hP, hD⟩, hS.F ht⟩) hS.2.2 dX2_init_20
abbrev rm_kX4_init : Room := { frames := 2, cells := 2, slots := 202, locals := 61 }
set_option maxHeartbeats 4000000 in
set_option maxRecDepth 100000 in
theorem kX4_init (l : Launch) (D : va_G) (ca : Nat → ClassId) (sz : Nat) (q : Nat) : Met l yX4_init wsX4_init rm_kX4_init (pcM D ca [.ref q] [(q, .inr (4, [.null]))] sz) (va_Qv (fun (u : Nat × Nat) => True) (qB D (va_A [(q, .inr (4, [.null]))] sz) (fun u : Nat × Nat => [(q, .inr (4, [.ref u.1])), (u.1, .inr (2, [.ref u.2, .int (nI 0)])), (u.2, .inl (ca 0, 200, .inl (fun _ => 0)))])) (va_A [(q, .inr (4, [.null]))] sz)) 2 202 (va_A [(q, .inr (4, [.null]))] sz) := by
  refine Met.ofW (cc := cX4_init) (maxL := 1) (ret := none) (by decide) rfl ?_
  intro p e s m args below meth c s₁ B hml hv
  obtain ⟨rfl, hsz, hP, hK, hD0⟩ := hv
  have hx := B.exec
  have hb := B.bytes
  have hr := B.returns
  have hts := atoms_spec (ws := wsX4_init) B.pre
  have hown : s.vm.findClass RX4 = some m.cls := findClass_of_methodNamed B.named
  have hlocks := B.notSynchronized
  subst hsz
  have hD := hD0.self (sz := s.heap.size)
  generalize hAe : va_A [(q, .inr (4, [.null]))] s.heap.size = A at hD ⊢
  have hA : ∀ q : Nat, s.heap.size ≤ q → A q := fun q h => by rw [← hAe]; exact Or.inr h
  have hS : va_S A s.heap s.heap [] := va_S.rf
  have hP : va_P D vwCl [(q, .inr (4, [.null]))] s.heap := hP
  have hKv := hK.1
  have hl := lv_entry ([.ref q]) (n := 1) (kk_le rfl)
  rw [lg_entry_eq]
  generalize (lg_sl ([.ref q]) ++ List.replicate (1 - (lg_sl ([.ref q])).length) Slot.unset).toArray = ls at hl ⊢
  have hl : lv_has ls 1 [(0, .ref q)] := hl
  have hiX2 : ∀ w ∈ u_ws RX2 TX2 2, w ∈ wsX4_init := fun w h => by first | exact List.mem_cons_of_mem _ (List.mem_append_right _ h) | exact List.mem_cons_of_mem _ (List.mem_append_left _ (List.mem_append_right _ h)) | exact List.mem_cons_of_mem _ (List.mem_append_left _ (List.mem_append_left _ (List.mem_append_right _ h))) | exact List.mem_cons_of_mem _ (List.mem_append_left _ (List.mem_append_left _ (List.mem_append_left _ (List.mem_append_right _ h)))) | (revert w h; decide +kernel)
  have hiX4 : ∀ w ∈ u_ws RX4 TX4 1, w ∈ wsX4_init := fun w h => by first | exact List.mem_cons_of_mem _ (List.mem_append_right _ h) | exact List.mem_cons_of_mem _ (List.mem_append_left _ (List.mem_append_right _ h)) | exact List.mem_cons_of_mem _ (List.mem_append_left _ (List.mem_append_left _ (List.mem_append_right _ h))) | exact List.mem_cons_of_mem _ (List.mem_append_left _ (List.mem_append_left _ (List.mem_append_left _ (List.mem_append_right _ h)))) | (revert w h; decide +kernel)
  have lk14 : (Cond.fieldLink RX4 14 "StripeSwipes$Stripe" "bits" "LStripeSwipes$Row;").before _ s = true := hts _ (by decide +kernel)
  have hin : meth.name = "<init>" := (name_of_methodNamed B.named B.method).1
  refine lv_aload_n hx hb dX4_init_0 rfl (lv_at hl 0 rfl) ?_
  refine W.objInit hx hb hown (hts (.methodLink RX4 3 objectInit) (by decide +kernel)) (hts (.instanceMethod objectInit) (by decide +kernel)) (hts (.code objectInit ⟨#[0xb1]⟩ 1 none) (by decide +kernel)) rfl (by rw [hml]; exact hl.1) rfl dX4_init_1 (kk_le rfl) (kk_le rfl) ?_
  refine W.eq (g2 := F0 m 4 ls []) rfl ?_
  refine lv_aload_n hx hb dX4_init_4 rfl (lv_at hl 0 rfl) ?_
  refine va_new (ci := 2) (fs := [.null, .int (nI 0)]) (C := RX2) (T := TX2) (N := 2) hx hb hts hiX2 tyX2 tyX2_ok hown (hts (.classLink RX4 9 RX2) (by decide +kernel)) (hts (.instantiable RX2 2) (by decide +kernel)) (hts (.initialized RX2) (by decide +kernel)) hKv hP hD hS hA rfl (fun j9 hj9 => by rcases (show j9 = 0 ∨ j9 = 1 by omega) with rfl | rfl <;> rfl) (kk_le rfl) (kk_le rfl) dX4_init_5 (fun qn1 H hP hD hS => ?_)
  have hP : va_P D vwCl [(q, .inr (4, [.null])), (qn1, .inr (2, [.null, .int (nI 0)]))] H := hP
  have hD : va_D A [(q, .inr (4, [.null])), (qn1, .inr (2, [.null, .int (nI 0)]))] := hD
  refine lv_dup hx hb dX4_init_8 rfl ?_
  refine lv_sipush (v := nI 200) hx hb dX4_init_9 (by decide) ?_
  have hPc := hP.sub (ws' := [(qn1, .inr (2, [.null, .int (nI 0)]))]) [1] rfl
  have hDc := hD.sub (ws' := [(qn1, .inr (2, [.null, .int (nI 0)]))]) [1] (by decide) rfl
  have hFc := va_free (wc := [(qn1, .inr (2, [.null, .int (nI 0)]))]) hD hS hA [1] rfl
  refine va_callv (va_runI (As := [.int (nI 200)]) (rest := [.ref qn1, .ref q]) ⟨hx, hb, hml, hown, hts⟩ (kX2_init_200 l D ca H.size qn1) (cwI 1 hts gX4_init_X2_init rfl rfl rfl (hts (.initialized RX2) (by decide +kernel)) (hts (.methodLink RX4 11 yX2_init) (by decide +kernel)) (hts (.instanceMethod yX2_init) (by decide +kernel)) rfl (by decide +kernel) ⟨kk_le rfl, kk_le rfl⟩) (psM hK hPc (my_D_true hDc)) rfl rfl hl.1 rfl (lv_room (kk_le rfl)) dX4_init_12 ⟨kk_le rfl, kk_le rfl⟩) hS (fun q _ h => hFc q h) hFc (fun u t H1 locs ht hvm hwv hBv hz1 hk1 hS => ?_)
  obtain ⟨hP1, hD1⟩ := hBv
  rw [ht] at hP1
  obtain ⟨uw2, rfl⟩ : ∃ z9, z9 = u := ⟨_, rfl⟩
  have hP1 : va_P D vwCl [(qn1, .inr (2, [.ref uw2, .int (nI 0)])), (uw2, .inl (ca 0, 200, .inl (fun _ => 0)))] H1 := hP1
  have hD1 : va_D _ [(qn1, .inr (2, [.ref uw2, .int (nI 0)])), (uw2, .inl (ca 0, 200, .inl (fun _ => 0)))] := hD1
  have hw2 := hwv
  obtain ⟨hP, hD⟩ := va_join (wr := [(q, .inr (4, [.null]))]) (w1 := [(qn1, .inr (2, [.ref uw2, .int (nI 0)])), (uw2, .inl (ca 0, 200, .inl (fun _ => 0)))]) hP hD [1] [0] rfl rfl (by decide) (by decide) hk1 hFc hP1 hD1
  generalize H1 = H at hP hS ⊢
  have hP := hP.sub (ws' := [(q, .inr (4, [.null])), (qn1, .inr (2, [.ref uw2, .int (nI 0)])), (uw2, .inl (ca 0, 200, .inl (fun _ => 0)))]) [0, 1, 2] rfl
  have hD := hD.sub (ws' := [(q, .inr (4, [.null])), (qn1, .inr (2, [.ref uw2, .int (nI 0)])), (uw2, .inl (ca 0, 200, .inl (fun _ => 0)))]) [0, 1, 2] (by decide) rfl
  refine va_putF (D := D) (ci := 4) (v := .ref qn1) (ty := .object "StripeSwipes$Row") (C := RX4) (T := TX4) (N := 1) hx hb hts hiX4 tyX4 tyX4_ok nmX4 hown hKv hP hD hS 0 rfl rfl 0 (by decide) lk14 (fun _ h9 => h9) rfl hin rfl (by decide +kernel) rfl rfl (kk_le rfl) dX4_init_15 (fun H locs hP hD hS => ?_)
  have hP : va_P D vwCl [(q, .inr (4, [.ref qn1])), (qn1, .inr (2, [.ref uw2, .int (nI 0)])), (uw2, .inl (ca 0, 200, .inl (fun _ => 0)))] H := hP
  have hD : va_D A [(q, .inr (4, [.ref qn1])), (qn1, .inr (2, [.ref uw2, .int (nI 0)])), (uw2, .inl (ca 0, 200, .inl (fun _ => 0)))] := hD
  refine W.widen (k := 2) (n := 202) (kk_le rfl) (kk_le rfl) ?_
  exact W.vret hx hb hr (fun t ht hW => ⟨⟨(qn1, uw2), rfl, by trivial, by rw [ht]; exact hP, hD⟩, hS.F ht⟩) hS.2.2 dX4_init_18
abbrev rm_kX1_init : Room := { frames := 2, cells := 4, slots := 244, locals := 61 }
set_option maxHeartbeats 4000000 in
set_option maxRecDepth 100000 in
theorem kX1_init (l : Launch) (D : va_G) (ca : Nat → ClassId) (sz : Nat) (q : Nat) : Met l yX1_init wsX1_init rm_kX1_init (pcM D ca [.ref q] [(q, .inr (1, [.null, .null, .int (nI 0), .int (nI 0), .int (nI 0)]))] sz) (va_Qv (fun (u : Nat × Nat × Nat × Nat) => True) (qB D (va_A [(q, .inr (1, [.null, .null, .int (nI 0), .int (nI 0), .int (nI 0)]))] sz) (fun u : Nat × Nat × Nat × Nat => [(q, .inr (1, [.ref u.1, .ref u.2.2.1, .int (nI 1), .int (-1), .int (nI 0)])), (u.1, .inr (2, [.ref u.2.1, .int (nI 0)])), (u.2.1, .inl (ca 0, 200, .inl (fun _ => 0))), (u.2.2.1, .inr (2, [.ref u.2.2.2, .int (nI 0)])), (u.2.2.2, .inl (ca 0, 40, .inl (fun _ => 0)))])) (va_A [(q, .inr (1, [.null, .null, .int (nI 0), .int (nI 0), .int (nI 0)]))] sz)) 4 244 (va_A [(q, .inr (1, [.null, .null, .int (nI 0), .int (nI 0), .int (nI 0)]))] sz) := by
  refine Met.ofW (cc := cX1_init) (maxL := 1) (ret := none) (by decide) rfl ?_
  intro p e s m args below meth c s₁ B hml hv
  obtain ⟨rfl, hsz, hP, hK, hD0⟩ := hv
  have hx := B.exec
  have hb := B.bytes
  have hr := B.returns
  have hts := atoms_spec (ws := wsX1_init) B.pre
  have hown : s.vm.findClass RX1 = some m.cls := findClass_of_methodNamed B.named
  have hlocks := B.notSynchronized
  subst hsz
  have hD := hD0.self (sz := s.heap.size)
  generalize hAe : va_A [(q, .inr (1, [.null, .null, .int (nI 0), .int (nI 0), .int (nI 0)]))] s.heap.size = A at hD ⊢
  have hA : ∀ q : Nat, s.heap.size ≤ q → A q := fun q h => by rw [← hAe]; exact Or.inr h
  have hS : va_S A s.heap s.heap [] := va_S.rf
  have hP : va_P D vwCl [(q, .inr (1, [.null, .null, .int (nI 0), .int (nI 0), .int (nI 0)]))] s.heap := hP
  have hKv := hK.1
  have hl := lv_entry ([.ref q]) (n := 1) (kk_le rfl)
  rw [lg_entry_eq]
  generalize (lg_sl ([.ref q]) ++ List.replicate (1 - (lg_sl ([.ref q])).length) Slot.unset).toArray = ls at hl ⊢
  have hl : lv_has ls 1 [(0, .ref q)] := hl
  have hiX2 : ∀ w ∈ u_ws RX2 TX2 2, w ∈ wsX1_init := fun w h => by first | exact List.mem_cons_of_mem _ (List.mem_append_right _ h) | exact List.mem_cons_of_mem _ (List.mem_append_left _ (List.mem_append_right _ h)) | exact List.mem_cons_of_mem _ (List.mem_append_left _ (List.mem_append_left _ (List.mem_append_right _ h))) | exact List.mem_cons_of_mem _ (List.mem_append_left _ (List.mem_append_left _ (List.mem_append_left _ (List.mem_append_right _ h)))) | (revert w h; decide +kernel)
  have hiX1 : ∀ w ∈ u_ws RX1 TX1 5, w ∈ wsX1_init := fun w h => by first | exact List.mem_cons_of_mem _ (List.mem_append_right _ h) | exact List.mem_cons_of_mem _ (List.mem_append_left _ (List.mem_append_right _ h)) | exact List.mem_cons_of_mem _ (List.mem_append_left _ (List.mem_append_left _ (List.mem_append_right _ h))) | exact List.mem_cons_of_mem _ (List.mem_append_left _ (List.mem_append_left _ (List.mem_append_left _ (List.mem_append_right _ h)))) | (revert w h; decide +kernel)
  have lk14 : (Cond.fieldLink RX1 14 "StripeSwipes$Reading" "bits" "LStripeSwipes$Row;").before _ s = true := hts _ (by decide +kernel)
  have hin : meth.name = "<init>" := (name_of_methodNamed B.named B.method).1
  have lk20 : (Cond.fieldLink RX1 20 "StripeSwipes$Reading" "letters" "LStripeSwipes$Row;").before _ s = true := hts _ (by decide +kernel)
  have lk23 : (Cond.fieldLink RX1 23 "StripeSwipes$Reading" "reason" "I").before _ s = true := hts _ (by decide +kernel)
  have lk27 : (Cond.fieldLink RX1 27 "StripeSwipes$Reading" "start" "I").before _ s = true := hts _ (by decide +kernel)
  have lk30 : (Cond.fieldLink RX1 30 "StripeSwipes$Reading" "clock" "I").before _ s = true := hts _ (by decide +kernel)
  refine lv_aload_n hx hb dX1_init_0 rfl (lv_at hl 0 rfl) ?_
  refine W.objInit hx hb hown (hts (.methodLink RX1 3 objectInit) (by decide +kernel)) (hts (.instanceMethod objectInit) (by decide +kernel)) (hts (.code objectInit ⟨#[0xb1]⟩ 1 none) (by decide +kernel)) rfl (by rw [hml]; exact hl.1) rfl dX1_init_1 (kk_le rfl) (kk_le rfl) ?_
  refine W.eq (g2 := F0 m 4 ls []) rfl ?_
  refine lv_aload_n hx hb dX1_init_4 rfl (lv_at hl 0 rfl) ?_
  refine va_new (ci := 2) (fs := [.null, .int (nI 0)]) (C := RX2) (T := TX2) (N := 2) hx hb hts hiX2 tyX2 tyX2_ok hown (hts (.classLink RX1 9 RX2) (by decide +kernel)) (hts (.instantiable RX2 2) (by decide +kernel)) (hts (.initialized RX2) (by decide +kernel)) hKv hP hD hS hA rfl (fun j9 hj9 => by rcases (show j9 = 0 ∨ j9 = 1 by omega) with rfl | rfl <;> rfl) (kk_le rfl) (kk_le rfl) dX1_init_5 (fun qn1 H hP hD hS => ?_)
  have hP : va_P D vwCl [(q, .inr (1, [.null, .null, .int (nI 0), .int (nI 0), .int (nI 0)])), (qn1, .inr (2, [.null, .int (nI 0)]))] H := hP
  have hD : va_D A [(q, .inr (1, [.null, .null, .int (nI 0), .int (nI 0), .int (nI 0)])), (qn1, .inr (2, [.null, .int (nI 0)]))] := hD
  refine lv_dup hx hb dX1_init_8 rfl ?_
  refine lv_sipush (v := nI 200) hx hb dX1_init_9 (by decide) ?_
  have hPc := hP.sub (ws' := [(qn1, .inr (2, [.null, .int (nI 0)]))]) [1] rfl
  have hDc := hD.sub (ws' := [(qn1, .inr (2, [.null, .int (nI 0)]))]) [1] (by decide) rfl
  have hFc := va_free (wc := [(qn1, .inr (2, [.null, .int (nI 0)]))]) hD hS hA [1] rfl
  refine va_callv (va_runI (As := [.int (nI 200)]) (rest := [.ref qn1, .ref q]) ⟨hx, hb, hml, hown, hts⟩ (kX2_init_200 l D ca H.size qn1) (cwI 1 hts gX1_init_X2_init rfl rfl rfl (hts (.initialized RX2) (by decide +kernel)) (hts (.methodLink RX1 11 yX2_init) (by decide +kernel)) (hts (.instanceMethod yX2_init) (by decide +kernel)) rfl (by decide +kernel) ⟨kk_le rfl, kk_le rfl⟩) (psM hK hPc (my_D_true hDc)) rfl rfl hl.1 rfl (lv_room (kk_le rfl)) dX1_init_12 ⟨kk_le rfl, kk_le rfl⟩) hS (fun q _ h => hFc q h) hFc (fun u t H1 locs ht hvm hwv hBv hz1 hk1 hS => ?_)
  obtain ⟨hP1, hD1⟩ := hBv
  rw [ht] at hP1
  obtain ⟨uw2, rfl⟩ : ∃ z9, z9 = u := ⟨_, rfl⟩
  have hP1 : va_P D vwCl [(qn1, .inr (2, [.ref uw2, .int (nI 0)])), (uw2, .inl (ca 0, 200, .inl (fun _ => 0)))] H1 := hP1
  have hD1 : va_D _ [(qn1, .inr (2, [.ref uw2, .int (nI 0)])), (uw2, .inl (ca 0, 200, .inl (fun _ => 0)))] := hD1
  have hw2 := hwv
  obtain ⟨hP, hD⟩ := va_join (wr := [(q, .inr (1, [.null, .null, .int (nI 0), .int (nI 0), .int (nI 0)]))]) (w1 := [(qn1, .inr (2, [.ref uw2, .int (nI 0)])), (uw2, .inl (ca 0, 200, .inl (fun _ => 0)))]) hP hD [1] [0] rfl rfl (by decide) (by decide) hk1 hFc hP1 hD1
  generalize H1 = H at hP hS ⊢
  have hP := hP.sub (ws' := [(q, .inr (1, [.null, .null, .int (nI 0), .int (nI 0), .int (nI 0)])), (qn1, .inr (2, [.ref uw2, .int (nI 0)])), (uw2, .inl (ca 0, 200, .inl (fun _ => 0)))]) [0, 1, 2] rfl
  have hD := hD.sub (ws' := [(q, .inr (1, [.null, .null, .int (nI 0), .int (nI 0), .int (nI 0)])), (qn1, .inr (2, [.ref uw2, .int (nI 0)])), (uw2, .inl (ca 0, 200, .inl (fun _ => 0)))]) [0, 1, 2] (by decide) rfl
  refine va_putF (D := D) (ci := 1) (v := .ref qn1) (ty := .object "StripeSwipes$Row") (C := RX1) (T := TX1) (N := 5) hx hb hts hiX1 tyX1 tyX1_ok nmX1 hown hKv hP hD hS 0 rfl rfl 0 (by decide) lk14 (fun _ h9 => h9) rfl hin rfl (by decide +kernel) rfl rfl (kk_le rfl) dX1_init_15 (fun H locs hP hD hS => ?_)
  have hP : va_P D vwCl [(q, .inr (1, [.ref qn1, .null, .int (nI 0), .int (nI 0), .int (nI 0)])), (qn1, .inr (2, [.ref uw2, .int (nI 0)])), (uw2, .inl (ca 0, 200, .inl (fun _ => 0)))] H := hP
  have hD : va_D A [(q, .inr (1, [.ref qn1, .null, .int (nI 0), .int (nI 0), .int (nI 0)])), (qn1, .inr (2, [.ref uw2, .int (nI 0)])), (uw2, .inl (ca 0, 200, .inl (fun _ => 0)))] := hD
  refine lv_aload_n hx hb dX1_init_18 rfl (lv_at hl 0 rfl) ?_
  refine va_new (ci := 2) (fs := [.null, .int (nI 0)]) (C := RX2) (T := TX2) (N := 2) hx hb hts hiX2 tyX2 tyX2_ok hown (hts (.classLink RX1 9 RX2) (by decide +kernel)) (hts (.instantiable RX2 2) (by decide +kernel)) (hts (.initialized RX2) (by decide +kernel)) hKv hP hD hS hA rfl (fun j9 hj9 => by rcases (show j9 = 0 ∨ j9 = 1 by omega) with rfl | rfl <;> rfl) (kk_le rfl) (kk_le rfl) dX1_init_19 (fun qn4 H hP hD hS => ?_)
  have hP : va_P D vwCl [(q, .inr (1, [.ref qn1, .null, .int (nI 0), .int (nI 0), .int (nI 0)])), (qn1, .inr (2, [.ref uw2, .int (nI 0)])), (uw2, .inl (ca 0, 200, .inl (fun _ => 0))), (qn4, .inr (2, [.null, .int (nI 0)]))] H := hP
  have hD : va_D A [(q, .inr (1, [.ref qn1, .null, .int (nI 0), .int (nI 0), .int (nI 0)])), (qn1, .inr (2, [.ref uw2, .int (nI 0)])), (uw2, .inl (ca 0, 200, .inl (fun _ => 0))), (qn4, .inr (2, [.null, .int (nI 0)]))] := hD
  refine lv_dup hx hb dX1_init_22 rfl ?_
  refine lv_bipush (v := nI 40) hx hb dX1_init_23 (by decide) ?_
  have hPc := hP.sub (ws' := [(qn4, .inr (2, [.null, .int (nI 0)]))]) [3] rfl
  have hDc := hD.sub (ws' := [(qn4, .inr (2, [.null, .int (nI 0)]))]) [3] (by decide) rfl
  have hFc := va_free (wc := [(qn4, .inr (2, [.null, .int (nI 0)]))]) hD hS hA [3] rfl
  refine va_callv (va_runI (As := [.int (nI 40)]) (rest := [.ref qn4, .ref q]) ⟨hx, hb, hml, hown, hts⟩ (kX2_init_40 l D ca H.size qn4) (cwI 1 hts gX1_init_X2_init rfl rfl rfl (hts (.initialized RX2) (by decide +kernel)) (hts (.methodLink RX1 11 yX2_init) (by decide +kernel)) (hts (.instanceMethod yX2_init) (by decide +kernel)) rfl (by decide +kernel) ⟨kk_le rfl, kk_le rfl⟩) (psM hK hPc (my_D_true hDc)) rfl rfl hl.1 rfl (lv_room (kk_le rfl)) dX1_init_25 ⟨kk_le rfl, kk_le rfl⟩) hS (fun q _ h => hFc q h) hFc (fun u t H1 locs ht hvm hwv hBv hz1 hk1 hS => ?_)
  obtain ⟨hP1, hD1⟩ := hBv
  rw [ht] at hP1
  obtain ⟨uw5, rfl⟩ : ∃ z9, z9 = u := ⟨_, rfl⟩
  have hP1 : va_P D vwCl [(qn4, .inr (2, [.ref uw5, .int (nI 0)])), (uw5, .inl (ca 0, 40, .inl (fun _ => 0)))] H1 := hP1
  have hD1 : va_D _ [(qn4, .inr (2, [.ref uw5, .int (nI 0)])), (uw5, .inl (ca 0, 40, .inl (fun _ => 0)))] := hD1
  have hw5 := hwv
  obtain ⟨hP, hD⟩ := va_join (wr := [(q, .inr (1, [.ref qn1, .null, .int (nI 0), .int (nI 0), .int (nI 0)])), (qn1, .inr (2, [.ref uw2, .int (nI 0)])), (uw2, .inl (ca 0, 200, .inl (fun _ => 0)))]) (w1 := [(qn4, .inr (2, [.ref uw5, .int (nI 0)])), (uw5, .inl (ca 0, 40, .inl (fun _ => 0)))]) hP hD [3] [0, 1, 2] rfl rfl (by decide) (by decide) hk1 hFc hP1 hD1
  generalize H1 = H at hP hS ⊢
  have hP := hP.sub (ws' := [(q, .inr (1, [.ref qn1, .null, .int (nI 0), .int (nI 0), .int (nI 0)])), (qn1, .inr (2, [.ref uw2, .int (nI 0)])), (uw2, .inl (ca 0, 200, .inl (fun _ => 0))), (qn4, .inr (2, [.ref uw5, .int (nI 0)])), (uw5, .inl (ca 0, 40, .inl (fun _ => 0)))]) [0, 1, 2, 3, 4] rfl
  have hD := hD.sub (ws' := [(q, .inr (1, [.ref qn1, .null, .int (nI 0), .int (nI 0), .int (nI 0)])), (qn1, .inr (2, [.ref uw2, .int (nI 0)])), (uw2, .inl (ca 0, 200, .inl (fun _ => 0))), (qn4, .inr (2, [.ref uw5, .int (nI 0)])), (uw5, .inl (ca 0, 40, .inl (fun _ => 0)))]) [0, 1, 2, 3, 4] (by decide) rfl
  refine va_putF (D := D) (ci := 1) (v := .ref qn4) (ty := .object "StripeSwipes$Row") (C := RX1) (T := TX1) (N := 5) hx hb hts hiX1 tyX1 tyX1_ok nmX1 hown hKv hP hD hS 0 rfl rfl 1 (by decide) lk20 (fun _ h9 => h9) rfl hin rfl (by decide +kernel) rfl rfl (kk_le rfl) dX1_init_28 (fun H locs hP hD hS => ?_)
  have hP : va_P D vwCl [(q, .inr (1, [.ref qn1, .ref qn4, .int (nI 0), .int (nI 0), .int (nI 0)])), (qn1, .inr (2, [.ref uw2, .int (nI 0)])), (uw2, .inl (ca 0, 200, .inl (fun _ => 0))), (qn4, .inr (2, [.ref uw5, .int (nI 0)])), (uw5, .inl (ca 0, 40, .inl (fun _ => 0)))] H := hP
  have hD : va_D A [(q, .inr (1, [.ref qn1, .ref qn4, .int (nI 0), .int (nI 0), .int (nI 0)])), (qn1, .inr (2, [.ref uw2, .int (nI 0)])), (uw2, .inl (ca 0, 200, .inl (fun _ => 0))), (qn4, .inr (2, [.ref uw5, .int (nI 0)])), (uw5, .inl (ca 0, 40, .inl (fun _ => 0)))] := hD
  refine lv_aload_n hx hb dX1_init_31 rfl (lv_at hl 0 rfl) ?_
  refine lv_iconst (v := nI 1) hx hb dX1_init_32 (by decide) ?_
  refine va_put (D := D) (ci := 1) (v := .int (nI 1)) (ty := .int) (C := RX1) (T := TX1) (N := 5) hx hb hts hiX1 tyX1 tyX1_ok nmX1 hown hKv hP hD hS 0 rfl rfl 2 (by decide) lk23 (fun _ h9 => h9) rfl (by decide +kernel) rfl rfl (kk_le rfl) dX1_init_33 (fun H locs hP hD hS => ?_)
  have hP : va_P D vwCl [(q, .inr (1, [.ref qn1, .ref qn4, .int (nI 1), .int (nI 0), .int (nI 0)])), (qn1, .inr (2, [.ref uw2, .int (nI 0)])), (uw2, .inl (ca 0, 200, .inl (fun _ => 0))), (qn4, .inr (2, [.ref uw5, .int (nI 0)])), (uw5, .inl (ca 0, 40, .inl (fun _ => 0)))] H := hP
  have hD : va_D A [(q, .inr (1, [.ref qn1, .ref qn4, .int (nI 1), .int (nI 0), .int (nI 0)])), (qn1, .inr (2, [.ref uw2, .int (nI 0)])), (uw2, .inl (ca 0, 200, .inl (fun _ => 0))), (qn4, .inr (2, [.ref uw5, .int (nI 0)])), (uw5, .inl (ca 0, 40, .inl (fun _ => 0)))] := hD
  refine lv_aload_n hx hb dX1_init_36 rfl (lv_at hl 0 rfl) ?_
  refine lv_iconst (v := (-1)) hx hb dX1_init_37 (by decide) ?_
  refine va_put (D := D) (ci := 1) (v := .int (-1)) (ty := .int) (C := RX1) (T := TX1) (N := 5) hx hb hts hiX1 tyX1 tyX1_ok nmX1 hown hKv hP hD hS 0 rfl rfl 3 (by decide) lk27 (fun _ h9 => h9) rfl (by decide +kernel) rfl rfl (kk_le rfl) dX1_init_38 (fun H locs hP hD hS => ?_)
  have hP : va_P D vwCl [(q, .inr (1, [.ref qn1, .ref qn4, .int (nI 1), .int (-1), .int (nI 0)])), (qn1, .inr (2, [.ref uw2, .int (nI 0)])), (uw2, .inl (ca 0, 200, .inl (fun _ => 0))), (qn4, .inr (2, [.ref uw5, .int (nI 0)])), (uw5, .inl (ca 0, 40, .inl (fun _ => 0)))] H := hP
  have hD : va_D A [(q, .inr (1, [.ref qn1, .ref qn4, .int (nI 1), .int (-1), .int (nI 0)])), (qn1, .inr (2, [.ref uw2, .int (nI 0)])), (uw2, .inl (ca 0, 200, .inl (fun _ => 0))), (qn4, .inr (2, [.ref uw5, .int (nI 0)])), (uw5, .inl (ca 0, 40, .inl (fun _ => 0)))] := hD
  refine lv_aload_n hx hb dX1_init_41 rfl (lv_at hl 0 rfl) ?_
  refine lv_iconst (v := nI 0) hx hb dX1_init_42 (by decide) ?_
  refine va_put (D := D) (ci := 1) (v := .int (nI 0)) (ty := .int) (C := RX1) (T := TX1) (N := 5) hx hb hts hiX1 tyX1 tyX1_ok nmX1 hown hKv hP hD hS 0 rfl rfl 4 (by decide) lk30 (fun _ h9 => h9) rfl (by decide +kernel) rfl rfl (kk_le rfl) dX1_init_43 (fun H locs hP hD hS => ?_)
  have hP : va_P D vwCl [(q, .inr (1, [.ref qn1, .ref qn4, .int (nI 1), .int (-1), .int (nI 0)])), (qn1, .inr (2, [.ref uw2, .int (nI 0)])), (uw2, .inl (ca 0, 200, .inl (fun _ => 0))), (qn4, .inr (2, [.ref uw5, .int (nI 0)])), (uw5, .inl (ca 0, 40, .inl (fun _ => 0)))] H := hP
  have hD : va_D A [(q, .inr (1, [.ref qn1, .ref qn4, .int (nI 1), .int (-1), .int (nI 0)])), (qn1, .inr (2, [.ref uw2, .int (nI 0)])), (uw2, .inl (ca 0, 200, .inl (fun _ => 0))), (qn4, .inr (2, [.ref uw5, .int (nI 0)])), (uw5, .inl (ca 0, 40, .inl (fun _ => 0)))] := hD
  refine W.widen (k := 4) (n := 244) (kk_le rfl) (kk_le rfl) ?_
  exact W.vret hx hb hr (fun t ht hW => ⟨⟨(qn1, uw2, qn4, uw5), rfl, by trivial, by rw [ht]; exact hP, hD⟩, hS.F ht⟩) hS.2.2 dX1_init_46
abbrev rm_kX0_init : Room := { frames := 1, cells := 1, slots := 6, locals := 40 }
set_option maxHeartbeats 4000000 in
set_option maxRecDepth 100000 in
theorem kX0_init (l : Launch) (D : va_G) (ca : Nat → ClassId) (sz : Nat) (q : Nat) : Met l yX0_init wsX0_init rm_kX0_init (pcM D ca [.ref q] [(q, .inr (0, [.null, .int (nI 0)]))] sz) (va_Qv (fun (u : Nat) => True) (qB D (va_A [(q, .inr (0, [.null, .int (nI 0)]))] sz) (fun u : Nat => [(q, .inr (0, [.ref u, .int (nI 0)])), (u, .inl (ca 2, 6, .inr (.inr (.inr (.inr (fun _ => none))))))])) (va_A [(q, .inr (0, [.null, .int (nI 0)]))] sz)) 1 6 (va_A [(q, .inr (0, [.null, .int (nI 0)]))] sz) := by
  refine Met.ofW (cc := cX0_init) (maxL := 1) (ret := none) (by decide) rfl ?_
  intro p e s m args below meth c s₁ B hml hv
  obtain ⟨rfl, hsz, hP, hK, hD0⟩ := hv
  have hx := B.exec
  have hb := B.bytes
  have hr := B.returns
  have hts := atoms_spec (ws := wsX0_init) B.pre
  have hown : s.vm.findClass RX0 = some m.cls := findClass_of_methodNamed B.named
  have hlocks := B.notSynchronized
  subst hsz
  have hD := hD0.self (sz := s.heap.size)
  generalize hAe : va_A [(q, .inr (0, [.null, .int (nI 0)]))] s.heap.size = A at hD ⊢
  have hA : ∀ q : Nat, s.heap.size ≤ q → A q := fun q h => by rw [← hAe]; exact Or.inr h
  have hS : va_S A s.heap s.heap [] := va_S.rf
  have hP : va_P D vwCl [(q, .inr (0, [.null, .int (nI 0)]))] s.heap := hP
  have hKv := hK.1
  have hl := lv_entry ([.ref q]) (n := 1) (kk_le rfl)
  rw [lg_entry_eq]
  generalize (lg_sl ([.ref q]) ++ List.replicate (1 - (lg_sl ([.ref q])).length) Slot.unset).toArray = ls at hl ⊢
  have hl : lv_has ls 1 [(0, .ref q)] := hl
  have hiX0 : ∀ w ∈ u_ws RX0 TX0 2, w ∈ wsX0_init := fun w h => by first | exact List.mem_cons_of_mem _ (List.mem_append_right _ h) | exact List.mem_cons_of_mem _ (List.mem_append_left _ (List.mem_append_right _ h)) | exact List.mem_cons_of_mem _ (List.mem_append_left _ (List.mem_append_left _ (List.mem_append_right _ h))) | exact List.mem_cons_of_mem _ (List.mem_append_left _ (List.mem_append_left _ (List.mem_append_left _ (List.mem_append_right _ h)))) | (revert w h; decide +kernel)
  have lk11 : (Cond.fieldLink RX0 11 "StripeSwipes$History" "states" "[LStripeSwipes$State;").before _ s = true := hts _ (by decide +kernel)
  have hin : meth.name = "<init>" := (name_of_methodNamed B.named B.method).1
  have lk17 : (Cond.fieldLink RX0 17 "StripeSwipes$History" "depth" "I").before _ s = true := hts _ (by decide +kernel)
  refine lv_aload_n hx hb dX0_init_0 rfl (lv_at hl 0 rfl) ?_
  refine W.objInit hx hb hown (hts (.methodLink RX0 3 objectInit) (by decide +kernel)) (hts (.instanceMethod objectInit) (by decide +kernel)) (hts (.code objectInit ⟨#[0xb1]⟩ 1 none) (by decide +kernel)) rfl (by rw [hml]; exact hl.1) rfl dX0_init_1 (kk_le rfl) (kk_le rfl) ?_
  refine W.eq (g2 := F0 m 4 ls []) rfl ?_
  refine lv_aload_n hx hb dX0_init_4 rfl (lv_at hl 0 rfl) ?_
  refine lv_bipush (v := nI 6) hx hb dX0_init_5 (by decide) ?_
  refine va_newq (C := RX3) (N' := 6) hx hb hown (hts (.classLink RX0 9 RX3) (by decide +kernel)) hK.2.ao hKv hP hD hS hA (by decide) (by decide) (by decide) (kk_le rfl) (kk_le rfl) dX0_init_7 (fun qn1 cA9 H hK9 hP hD hS => ?_)
  obtain rfl : cA9 = ca 2 := my_cq hK9 hK
  have hP : va_P D vwCl [(q, .inr (0, [.null, .int (nI 0)])), (qn1, .inl (ca 2, 6, .inr (.inr (.inr (.inr (fun _ => none))))))] H := hP
  have hD : va_D A [(q, .inr (0, [.null, .int (nI 0)])), (qn1, .inl (ca 2, 6, .inr (.inr (.inr (.inr (fun _ => none))))))] := hD
  refine va_putF (D := D) (ci := 0) (v := .ref qn1) (ty := .array (.object "StripeSwipes$State")) (C := RX0) (T := TX0) (N := 2) hx hb hts hiX0 tyX0 tyX0_ok nmX0 hown hKv hP hD hS 0 rfl rfl 0 (by decide) lk11 (fun _ h9 => h9) rfl hin rfl (by decide +kernel) rfl rfl (kk_le rfl) dX0_init_10 (fun H locs hP hD hS => ?_)
  have hP : va_P D vwCl [(q, .inr (0, [.ref qn1, .int (nI 0)])), (qn1, .inl (ca 2, 6, .inr (.inr (.inr (.inr (fun _ => none))))))] H := hP
  have hD : va_D A [(q, .inr (0, [.ref qn1, .int (nI 0)])), (qn1, .inl (ca 2, 6, .inr (.inr (.inr (.inr (fun _ => none))))))] := hD
  refine lv_aload_n hx hb dX0_init_13 rfl (lv_at hl 0 rfl) ?_
  refine lv_iconst (v := nI 0) hx hb dX0_init_14 (by decide) ?_
  refine va_put (D := D) (ci := 0) (v := .int (nI 0)) (ty := .int) (C := RX0) (T := TX0) (N := 2) hx hb hts hiX0 tyX0 tyX0_ok nmX0 hown hKv hP hD hS 0 rfl rfl 1 (by decide) lk17 (fun _ h9 => h9) rfl (by decide +kernel) rfl rfl (kk_le rfl) dX0_init_15 (fun H locs hP hD hS => ?_)
  have hP : va_P D vwCl [(q, .inr (0, [.ref qn1, .int (nI 0)])), (qn1, .inl (ca 2, 6, .inr (.inr (.inr (.inr (fun _ => none))))))] H := hP
  have hD : va_D A [(q, .inr (0, [.ref qn1, .int (nI 0)])), (qn1, .inl (ca 2, 6, .inr (.inr (.inr (.inr (fun _ => none))))))] := hD
  refine W.widen (k := 1) (n := 6) (kk_le rfl) (kk_le rfl) ?_
  exact W.vret hx hb hr (fun t ht hW => ⟨⟨qn1, rfl, by trivial, by rw [ht]; exact hP, hD⟩, hS.F ht⟩) hS.2.2 dX0_init_18
abbrev rm_kX3_init : Room := { frames := 2, cells := 6, slots := 230, locals := 61 }
set_option maxHeartbeats 4000000 in
set_option maxRecDepth 100000 in
theorem kX3_init (l : Launch) (D : va_G) (ca : Nat → ClassId) (sz : Nat) (q : Nat) : Met l yX3_init wsX3_init rm_kX3_init (pcZ D ca [.ref q] [(q, .inr (3, [.null, .null, .null]))] sz) (va_Qv (fun (u : Nat × Nat × Nat × Nat × Nat × Nat) => True) (qB D (va_A [(q, .inr (3, [.null, .null, .null]))] sz) (fun u : Nat × Nat × Nat × Nat × Nat × Nat => [(q, .inr (3, [.ref u.1, .ref u.2.2.1, .ref u.2.2.2.2.1])), (u.1, .inr (2, [.ref u.2.1, .int (nI 0)])), (u.2.1, .inl (ca 0, 200, .inl (fun _ => 0))), (u.2.2.1, .inr (2, [.ref u.2.2.2.1, .int (nI 0)])), (u.2.2.2.1, .inl (ca 0, 20, .inl (fun _ => 0))), (u.2.2.2.2.1, .inr (2, [.ref u.2.2.2.2.2, .int (nI 4)])), (u.2.2.2.2.2, .inl (ca 0, 4, .inl firstF))])) (va_A [(q, .inr (3, [.null, .null, .null]))] sz)) 6 230 (va_A [(q, .inr (3, [.null, .null, .null]))] sz) := by
  refine Met.ofW (cc := cX3_init) (maxL := 2) (ret := none) (by decide) rfl ?_
  intro p e s m args below meth c s₁ B hml hv
  obtain ⟨rfl, hsz, hP, hK, hD0, hZ⟩ := hv
  have hx := B.exec
  have hb := B.bytes
  have hr := B.returns
  have hts := atoms_spec (ws := wsX3_init) B.pre
  have hown : s.vm.findClass RX3 = some m.cls := findClass_of_methodNamed B.named
  have hlocks := B.notSynchronized
  subst hsz
  have hD := hD0.self (sz := s.heap.size)
  generalize hAe : va_A [(q, .inr (3, [.null, .null, .null]))] s.heap.size = A at hD hZ ⊢
  have hA : ∀ q : Nat, s.heap.size ≤ q → A q := fun q h => by rw [← hAe]; exact Or.inr h
  have hS : va_S A s.heap s.heap [] := va_S.rf
  have hP : va_P D vwCl [(q, .inr (3, [.null, .null, .null]))] s.heap := hP
  have hKv := hK.1
  have hl := lv_entry ([.ref q]) (n := 2) (kk_le rfl)
  rw [lg_entry_eq]
  generalize (lg_sl ([.ref q]) ++ List.replicate (2 - (lg_sl ([.ref q])).length) Slot.unset).toArray = ls at hl ⊢
  have hl : lv_has ls 2 [(0, .ref q)] := hl
  generalize hQz : MQ below _ _ _ _ _ _ = Qz
  have hiX2 : ∀ w ∈ u_ws RX2 TX2 2, w ∈ wsX3_init := fun w h => by first | exact List.mem_cons_of_mem _ (List.mem_append_right _ h) | exact List.mem_cons_of_mem _ (List.mem_append_left _ (List.mem_append_right _ h)) | exact List.mem_cons_of_mem _ (List.mem_append_left _ (List.mem_append_left _ (List.mem_append_right _ h))) | exact List.mem_cons_of_mem _ (List.mem_append_left _ (List.mem_append_left _ (List.mem_append_left _ (List.mem_append_right _ h)))) | (revert w h; decide +kernel)
  have hiX3 : ∀ w ∈ u_ws RX3 TX3 3, w ∈ wsX3_init := fun w h => by first | exact List.mem_cons_of_mem _ (List.mem_append_right _ h) | exact List.mem_cons_of_mem _ (List.mem_append_left _ (List.mem_append_right _ h)) | exact List.mem_cons_of_mem _ (List.mem_append_left _ (List.mem_append_left _ (List.mem_append_right _ h))) | exact List.mem_cons_of_mem _ (List.mem_append_left _ (List.mem_append_left _ (List.mem_append_left _ (List.mem_append_right _ h)))) | (revert w h; decide +kernel)
  have lk14 : (Cond.fieldLink RX3 14 "StripeSwipes$State" "times" "LStripeSwipes$Row;").before _ s = true := hts _ (by decide +kernel)
  have hin : meth.name = "<init>" := (name_of_methodNamed B.named B.method).1
  have lk20 : (Cond.fieldLink RX3 20 "StripeSwipes$State" "letters" "LStripeSwipes$Row;").before _ s = true := hts _ (by decide +kernel)
  have lk27 : (Cond.fieldLink RX3 27 "StripeSwipes$State" "settings" "LStripeSwipes$Row;").before _ s = true := hts _ (by decide +kernel)
  refine lv_aload_n hx hb dX3_init_0 rfl (lv_at hl 0 rfl) ?_
  refine W.objInit hx hb hown (hts (.methodLink RX3 3 objectInit) (by decide +kernel)) (hts (.instanceMethod objectInit) (by decide +kernel)) (hts (.code objectInit ⟨#[0xb1]⟩ 1 none) (by decide +kernel)) rfl (by rw [hml]; exact hl.1) rfl dX3_init_1 (kk_le rfl) (kk_le rfl) ?_
  refine W.eq (g2 := F0 m 4 ls []) rfl ?_
  refine lv_aload_n hx hb dX3_init_4 rfl (lv_at hl 0 rfl) ?_
  refine va_new (ci := 2) (fs := [.null, .int (nI 0)]) (C := RX2) (T := TX2) (N := 2) hx hb hts hiX2 tyX2 tyX2_ok hown (hts (.classLink RX3 9 RX2) (by decide +kernel)) (hts (.instantiable RX2 2) (by decide +kernel)) (hts (.initialized RX2) (by decide +kernel)) hKv hP hD hS hA rfl (fun j9 hj9 => by rcases (show j9 = 0 ∨ j9 = 1 by omega) with rfl | rfl <;> rfl) (kk_le rfl) (kk_le rfl) dX3_init_5 (fun qn1 H hP hD hS => ?_)
  have hP : va_P D vwCl [(q, .inr (3, [.null, .null, .null])), (qn1, .inr (2, [.null, .int (nI 0)]))] H := hP
  have hD : va_D A [(q, .inr (3, [.null, .null, .null])), (qn1, .inr (2, [.null, .int (nI 0)]))] := hD
  refine lv_dup hx hb dX3_init_8 rfl ?_
  refine lv_sipush (v := nI 200) hx hb dX3_init_9 (by decide) ?_
  have hPc := hP.sub (ws' := [(qn1, .inr (2, [.null, .int (nI 0)]))]) [1] rfl
  have hDc := hD.sub (ws' := [(qn1, .inr (2, [.null, .int (nI 0)]))]) [1] (by decide) rfl
  have hFc := va_free (wc := [(qn1, .inr (2, [.null, .int (nI 0)]))]) hD hS hA [1] rfl
  refine va_callv (va_runI (As := [.int (nI 200)]) (rest := [.ref qn1, .ref q]) ⟨hx, hb, hml, hown, hts⟩ (kX2_init_200 l D ca H.size qn1) (cwI 1 hts gX3_init_X2_init rfl rfl rfl (hts (.initialized RX2) (by decide +kernel)) (hts (.methodLink RX3 11 yX2_init) (by decide +kernel)) (hts (.instanceMethod yX2_init) (by decide +kernel)) rfl (by decide +kernel) ⟨kk_le rfl, kk_le rfl⟩) (psM hK hPc (my_D_true hDc)) rfl rfl hl.1 rfl (lv_room (kk_le rfl)) dX3_init_12 ⟨kk_le rfl, kk_le rfl⟩) hS (fun q _ h => hFc q h) hFc (fun u t H1 locs ht hvm hwv hBv hz1 hk1 hS => ?_)
  obtain ⟨hP1, hD1⟩ := hBv
  rw [ht] at hP1
  obtain ⟨uw2, rfl⟩ : ∃ z9, z9 = u := ⟨_, rfl⟩
  have hP1 : va_P D vwCl [(qn1, .inr (2, [.ref uw2, .int (nI 0)])), (uw2, .inl (ca 0, 200, .inl (fun _ => 0)))] H1 := hP1
  have hD1 : va_D _ [(qn1, .inr (2, [.ref uw2, .int (nI 0)])), (uw2, .inl (ca 0, 200, .inl (fun _ => 0)))] := hD1
  have hw2 := hwv
  obtain ⟨hP, hD⟩ := va_join (wr := [(q, .inr (3, [.null, .null, .null]))]) (w1 := [(qn1, .inr (2, [.ref uw2, .int (nI 0)])), (uw2, .inl (ca 0, 200, .inl (fun _ => 0)))]) hP hD [1] [0] rfl rfl (by decide) (by decide) hk1 hFc hP1 hD1
  generalize H1 = H at hP hS ⊢
  have hP := hP.sub (ws' := [(q, .inr (3, [.null, .null, .null])), (qn1, .inr (2, [.ref uw2, .int (nI 0)])), (uw2, .inl (ca 0, 200, .inl (fun _ => 0)))]) [0, 1, 2] rfl
  have hD := hD.sub (ws' := [(q, .inr (3, [.null, .null, .null])), (qn1, .inr (2, [.ref uw2, .int (nI 0)])), (uw2, .inl (ca 0, 200, .inl (fun _ => 0)))]) [0, 1, 2] (by decide) rfl
  refine va_putF (D := D) (ci := 3) (v := .ref qn1) (ty := .object "StripeSwipes$Row") (C := RX3) (T := TX3) (N := 3) hx hb hts hiX3 tyX3 tyX3_ok nmX3 hown hKv hP hD hS 0 rfl rfl 0 (by decide) lk14 (fun _ h9 => h9) rfl hin rfl (by decide +kernel) rfl rfl (kk_le rfl) dX3_init_15 (fun H locs hP hD hS => ?_)
  have hP : va_P D vwCl [(q, .inr (3, [.ref qn1, .null, .null])), (qn1, .inr (2, [.ref uw2, .int (nI 0)])), (uw2, .inl (ca 0, 200, .inl (fun _ => 0)))] H := hP
  have hD : va_D A [(q, .inr (3, [.ref qn1, .null, .null])), (qn1, .inr (2, [.ref uw2, .int (nI 0)])), (uw2, .inl (ca 0, 200, .inl (fun _ => 0)))] := hD
  refine lv_aload_n hx hb dX3_init_18 rfl (lv_at hl 0 rfl) ?_
  refine va_new (ci := 2) (fs := [.null, .int (nI 0)]) (C := RX2) (T := TX2) (N := 2) hx hb hts hiX2 tyX2 tyX2_ok hown (hts (.classLink RX3 9 RX2) (by decide +kernel)) (hts (.instantiable RX2 2) (by decide +kernel)) (hts (.initialized RX2) (by decide +kernel)) hKv hP hD hS hA rfl (fun j9 hj9 => by rcases (show j9 = 0 ∨ j9 = 1 by omega) with rfl | rfl <;> rfl) (kk_le rfl) (kk_le rfl) dX3_init_19 (fun qn4 H hP hD hS => ?_)
  have hP : va_P D vwCl [(q, .inr (3, [.ref qn1, .null, .null])), (qn1, .inr (2, [.ref uw2, .int (nI 0)])), (uw2, .inl (ca 0, 200, .inl (fun _ => 0))), (qn4, .inr (2, [.null, .int (nI 0)]))] H := hP
  have hD : va_D A [(q, .inr (3, [.ref qn1, .null, .null])), (qn1, .inr (2, [.ref uw2, .int (nI 0)])), (uw2, .inl (ca 0, 200, .inl (fun _ => 0))), (qn4, .inr (2, [.null, .int (nI 0)]))] := hD
  refine lv_dup hx hb dX3_init_22 rfl ?_
  refine lv_bipush (v := nI 20) hx hb dX3_init_23 (by decide) ?_
  have hPc := hP.sub (ws' := [(qn4, .inr (2, [.null, .int (nI 0)]))]) [3] rfl
  have hDc := hD.sub (ws' := [(qn4, .inr (2, [.null, .int (nI 0)]))]) [3] (by decide) rfl
  have hFc := va_free (wc := [(qn4, .inr (2, [.null, .int (nI 0)]))]) hD hS hA [3] rfl
  refine va_callv (va_runI (As := [.int (nI 20)]) (rest := [.ref qn4, .ref q]) ⟨hx, hb, hml, hown, hts⟩ (kX2_init_20 l D ca H.size qn4) (cwI 1 hts gX3_init_X2_init rfl rfl rfl (hts (.initialized RX2) (by decide +kernel)) (hts (.methodLink RX3 11 yX2_init) (by decide +kernel)) (hts (.instanceMethod yX2_init) (by decide +kernel)) rfl (by decide +kernel) ⟨kk_le rfl, kk_le rfl⟩) (psM hK hPc (my_D_true hDc)) rfl rfl hl.1 rfl (lv_room (kk_le rfl)) dX3_init_25 ⟨kk_le rfl, kk_le rfl⟩) hS (fun q _ h => hFc q h) hFc (fun u t H1 locs ht hvm hwv hBv hz1 hk1 hS => ?_)
  obtain ⟨hP1, hD1⟩ := hBv
  rw [ht] at hP1
  obtain ⟨uw5, rfl⟩ : ∃ z9, z9 = u := ⟨_, rfl⟩
  have hP1 : va_P D vwCl [(qn4, .inr (2, [.ref uw5, .int (nI 0)])), (uw5, .inl (ca 0, 20, .inl (fun _ => 0)))] H1 := hP1
  have hD1 : va_D _ [(qn4, .inr (2, [.ref uw5, .int (nI 0)])), (uw5, .inl (ca 0, 20, .inl (fun _ => 0)))] := hD1
  have hw5 := hwv
  obtain ⟨hP, hD⟩ := va_join (wr := [(q, .inr (3, [.ref qn1, .null, .null])), (qn1, .inr (2, [.ref uw2, .int (nI 0)])), (uw2, .inl (ca 0, 200, .inl (fun _ => 0)))]) (w1 := [(qn4, .inr (2, [.ref uw5, .int (nI 0)])), (uw5, .inl (ca 0, 20, .inl (fun _ => 0)))]) hP hD [3] [0, 1, 2] rfl rfl (by decide) (by decide) hk1 hFc hP1 hD1
  generalize H1 = H at hP hS ⊢
  have hP := hP.sub (ws' := [(q, .inr (3, [.ref qn1, .null, .null])), (qn1, .inr (2, [.ref uw2, .int (nI 0)])), (uw2, .inl (ca 0, 200, .inl (fun _ => 0))), (qn4, .inr (2, [.ref uw5, .int (nI 0)])), (uw5, .inl (ca 0, 20, .inl (fun _ => 0)))]) [0, 1, 2, 3, 4] rfl
  have hD := hD.sub (ws' := [(q, .inr (3, [.ref qn1, .null, .null])), (qn1, .inr (2, [.ref uw2, .int (nI 0)])), (uw2, .inl (ca 0, 200, .inl (fun _ => 0))), (qn4, .inr (2, [.ref uw5, .int (nI 0)])), (uw5, .inl (ca 0, 20, .inl (fun _ => 0)))]) [0, 1, 2, 3, 4] (by decide) rfl
  refine va_putF (D := D) (ci := 3) (v := .ref qn4) (ty := .object "StripeSwipes$Row") (C := RX3) (T := TX3) (N := 3) hx hb hts hiX3 tyX3 tyX3_ok nmX3 hown hKv hP hD hS 0 rfl rfl 1 (by decide) lk20 (fun _ h9 => h9) rfl hin rfl (by decide +kernel) rfl rfl (kk_le rfl) dX3_init_28 (fun H locs hP hD hS => ?_)
  have hP : va_P D vwCl [(q, .inr (3, [.ref qn1, .ref qn4, .null])), (qn1, .inr (2, [.ref uw2, .int (nI 0)])), (uw2, .inl (ca 0, 200, .inl (fun _ => 0))), (qn4, .inr (2, [.ref uw5, .int (nI 0)])), (uw5, .inl (ca 0, 20, .inl (fun _ => 0)))] H := hP
  have hD : va_D A [(q, .inr (3, [.ref qn1, .ref qn4, .null])), (qn1, .inr (2, [.ref uw2, .int (nI 0)])), (uw2, .inl (ca 0, 200, .inl (fun _ => 0))), (qn4, .inr (2, [.ref uw5, .int (nI 0)])), (uw5, .inl (ca 0, 20, .inl (fun _ => 0)))] := hD
  refine lv_aload_n hx hb dX3_init_31 rfl (lv_at hl 0 rfl) ?_
  refine va_new (ci := 2) (fs := [.null, .int (nI 0)]) (C := RX2) (T := TX2) (N := 2) hx hb hts hiX2 tyX2 tyX2_ok hown (hts (.classLink RX3 9 RX2) (by decide +kernel)) (hts (.instantiable RX2 2) (by decide +kernel)) (hts (.initialized RX2) (by decide +kernel)) hKv hP hD hS hA rfl (fun j9 hj9 => by rcases (show j9 = 0 ∨ j9 = 1 by omega) with rfl | rfl <;> rfl) (kk_le rfl) (kk_le rfl) dX3_init_32 (fun qn7 H hP hD hS => ?_)
  have hP : va_P D vwCl [(q, .inr (3, [.ref qn1, .ref qn4, .null])), (qn1, .inr (2, [.ref uw2, .int (nI 0)])), (uw2, .inl (ca 0, 200, .inl (fun _ => 0))), (qn4, .inr (2, [.ref uw5, .int (nI 0)])), (uw5, .inl (ca 0, 20, .inl (fun _ => 0))), (qn7, .inr (2, [.null, .int (nI 0)]))] H := hP
  have hD : va_D A [(q, .inr (3, [.ref qn1, .ref qn4, .null])), (qn1, .inr (2, [.ref uw2, .int (nI 0)])), (uw2, .inl (ca 0, 200, .inl (fun _ => 0))), (qn4, .inr (2, [.ref uw5, .int (nI 0)])), (uw5, .inl (ca 0, 20, .inl (fun _ => 0))), (qn7, .inr (2, [.null, .int (nI 0)]))] := hD
  refine lv_dup hx hb dX3_init_35 rfl ?_
  obtain ⟨tb8, hztb8, httb8⟩ := hZ.1
  refine va_getsN hx hb hztb8 hS hown (va_Nw.use rfl hK.2.f23) (fun _ h9 => h9) dX3_init_36 ?_
  refine va_tlen (v := nI 4) hx hb httb8 hS rfl dX3_init_39 ?_
  have hPc := hP.sub (ws' := [(qn7, .inr (2, [.null, .int (nI 0)]))]) [5] rfl
  have hDc := hD.sub (ws' := [(qn7, .inr (2, [.null, .int (nI 0)]))]) [5] (by decide) rfl
  have hFc := va_free (wc := [(qn7, .inr (2, [.null, .int (nI 0)]))]) hD hS hA [5] rfl
  refine va_callv (va_runI (As := [.int (nI 4)]) (rest := [.ref qn7, .ref q]) ⟨hx, hb, hml, hown, hts⟩ (kX2_init_4 l D ca H.size qn7) (cwI 1 hts gX3_init_X2_init rfl rfl rfl (hts (.initialized RX2) (by decide +kernel)) (hts (.methodLink RX3 11 yX2_init) (by decide +kernel)) (hts (.instanceMethod yX2_init) (by decide +kernel)) rfl (by decide +kernel) ⟨kk_le rfl, kk_le rfl⟩) (psM hK hPc (my_D_true hDc)) rfl rfl hl.1 rfl (lv_room (kk_le rfl)) dX3_init_40 ⟨kk_le rfl, kk_le rfl⟩) hS (fun q _ h => hFc q h) hFc (fun u t H1 locs ht hvm hwv hBv hz1 hk1 hS => ?_)
  obtain ⟨hP1, hD1⟩ := hBv
  rw [ht] at hP1
  obtain ⟨uw9, rfl⟩ : ∃ z9, z9 = u := ⟨_, rfl⟩
  have hP1 : va_P D vwCl [(qn7, .inr (2, [.ref uw9, .int (nI 0)])), (uw9, .inl (ca 0, 4, .inl (fun _ => 0)))] H1 := hP1
  have hD1 : va_D _ [(qn7, .inr (2, [.ref uw9, .int (nI 0)])), (uw9, .inl (ca 0, 4, .inl (fun _ => 0)))] := hD1
  have hw9 := hwv
  obtain ⟨hP, hD⟩ := va_join (wr := [(q, .inr (3, [.ref qn1, .ref qn4, .null])), (qn1, .inr (2, [.ref uw2, .int (nI 0)])), (uw2, .inl (ca 0, 200, .inl (fun _ => 0))), (qn4, .inr (2, [.ref uw5, .int (nI 0)])), (uw5, .inl (ca 0, 20, .inl (fun _ => 0)))]) (w1 := [(qn7, .inr (2, [.ref uw9, .int (nI 0)])), (uw9, .inl (ca 0, 4, .inl (fun _ => 0)))]) hP hD [5] [0, 1, 2, 3, 4] rfl rfl (by decide) (by decide) hk1 hFc hP1 hD1
  generalize H1 = H at hP hS ⊢
  have hP := hP.sub (ws' := [(q, .inr (3, [.ref qn1, .ref qn4, .null])), (qn1, .inr (2, [.ref uw2, .int (nI 0)])), (uw2, .inl (ca 0, 200, .inl (fun _ => 0))), (qn4, .inr (2, [.ref uw5, .int (nI 0)])), (uw5, .inl (ca 0, 20, .inl (fun _ => 0))), (qn7, .inr (2, [.ref uw9, .int (nI 0)])), (uw9, .inl (ca 0, 4, .inl (fun _ => 0)))]) [0, 1, 2, 3, 4, 5, 6] rfl
  have hD := hD.sub (ws' := [(q, .inr (3, [.ref qn1, .ref qn4, .null])), (qn1, .inr (2, [.ref uw2, .int (nI 0)])), (uw2, .inl (ca 0, 200, .inl (fun _ => 0))), (qn4, .inr (2, [.ref uw5, .int (nI 0)])), (uw5, .inl (ca 0, 20, .inl (fun _ => 0))), (qn7, .inr (2, [.ref uw9, .int (nI 0)])), (uw9, .inl (ca 0, 4, .inl (fun _ => 0)))]) [0, 1, 2, 3, 4, 5, 6] (by decide) rfl
  refine va_putF (D := D) (ci := 3) (v := .ref qn7) (ty := .object "StripeSwipes$Row") (C := RX3) (T := TX3) (N := 3) hx hb hts hiX3 tyX3 tyX3_ok nmX3 hown hKv hP hD hS 0 rfl rfl 2 (by decide) lk27 (fun _ h9 => h9) rfl hin rfl (by decide +kernel) rfl rfl (kk_le rfl) dX3_init_43 (fun H locs hP hD hS => ?_)
  have hP : va_P D vwCl [(q, .inr (3, [.ref qn1, .ref qn4, .ref qn7])), (qn1, .inr (2, [.ref uw2, .int (nI 0)])), (uw2, .inl (ca 0, 200, .inl (fun _ => 0))), (qn4, .inr (2, [.ref uw5, .int (nI 0)])), (uw5, .inl (ca 0, 20, .inl (fun _ => 0))), (qn7, .inr (2, [.ref uw9, .int (nI 0)])), (uw9, .inl (ca 0, 4, .inl (fun _ => 0)))] H := hP
  have hD : va_D A [(q, .inr (3, [.ref qn1, .ref qn4, .ref qn7])), (qn1, .inr (2, [.ref uw2, .int (nI 0)])), (uw2, .inl (ca 0, 200, .inl (fun _ => 0))), (qn4, .inr (2, [.ref uw5, .int (nI 0)])), (uw5, .inl (ca 0, 20, .inl (fun _ => 0))), (qn7, .inr (2, [.ref uw9, .int (nI 0)])), (uw9, .inl (ca 0, 4, .inl (fun _ => 0)))] := hD
  refine lv_iconst (v := nI 0) hx hb dX3_init_46 (by decide) ?_
  refine lv_istore_n (lv' := [(1, .int (nI 0)), (0, .ref q)]) hx hb dX3_init_47 rfl hl (by decide) rfl (fun ls hl => ?_)
  have lp48_10 : ∀ (k1 : Nat) (i : Nat), 4 - i < k1 → (i ≤ 4) → ∀ (H : Heap) (locs : List Loc), va_P D vwCl [(q, .inr (3, [.ref qn1, .ref qn4, .ref qn7])), (qn1, .inr (2, [.ref uw2, .int (nI 0)])), (uw2, .inl (ca 0, 200, .inl (fun _ => 0))), (qn4, .inr (2, [.ref uw5, .int (nI 0)])), (uw5, .inl (ca 0, 20, .inl (fun _ => 0))), (qn7, .inr (2, [.ref uw9, .int (nI i)])), (uw9, .inl (ca 0, 4, .inl (cpF firstF (fun _ => 0) i)))] H → va_D A [(q, .inr (3, [.ref qn1, .ref qn4, .ref qn7])), (qn1, .inr (2, [.ref uw2, .int (nI 0)])), (uw2, .inl (ca 0, 200, .inl (fun _ => 0))), (qn4, .inr (2, [.ref uw5, .int (nI 0)])), (uw5, .inl (ca 0, 20, .inl (fun _ => 0))), (qn7, .inr (2, [.ref uw9, .int (nI i)])), (uw9, .inl (ca 0, 4, .inl (cpF firstF (fun _ => 0) i)))] → va_S A s.heap H locs → ∀ (ls : Array Slot), lv_has ls 2 [(1, .int (nI i)), (0, .ref q)] → W p l e rm_kX3_init s m ([.ref q] : List Value).toArray below meth c H locs 6 230 Qz (F0 m 48 ls []) := by
    intro k1
    induction k1 with
    | zero => intro i hm1; exact absurd hm1 (Nat.not_lt_zero _)
    | succ k1 ih1 =>
      intro i hm1 hi H locs hP hD hS ls hl
      refine lv_iload_n hx hb dX3_init_48 rfl (lv_at hl 0 rfl) ?_
      obtain ⟨tb12, hztb12, httb12⟩ := hZ.1
      refine va_getsN hx hb hztb12 hS hown (va_Nw.use rfl hK.2.f23) (fun _ h9 => h9) dX3_init_49 ?_
      refine va_tlen (v := nI 4) hx hb httb12 hS rfl dX3_init_52 ?_
      refine ni_icmp_ge (tgt := 75) (by omega) (by omega) hx hb dX3_init_53 (by decide) (fun c13 => ?_) (fun c13 => ?_)
      · have hi9 : i = 4 := by omega
        subst hi9
        subst hQz
        have hP := my_P_alt (f2 := firstF) hP 6 rfl (fun k9 hk9 => cpF_lo _ _ (by omega))
        have hD := my_D_alt (f2 := firstF) hD 6 rfl
        have hP : va_P D vwCl [(q, .inr (3, [.ref qn1, .ref qn4, .ref qn7])), (qn1, .inr (2, [.ref uw2, .int (nI 0)])), (uw2, .inl (ca 0, 200, .inl (fun _ => 0))), (qn4, .inr (2, [.ref uw5, .int (nI 0)])), (uw5, .inl (ca 0, 20, .inl (fun _ => 0))), (qn7, .inr (2, [.ref uw9, .int (nI 4)])), (uw9, .inl (ca 0, 4, .inl firstF))] H := hP
        have hD : va_D A [(q, .inr (3, [.ref qn1, .ref qn4, .ref qn7])), (qn1, .inr (2, [.ref uw2, .int (nI 0)])), (uw2, .inl (ca 0, 200, .inl (fun _ => 0))), (qn4, .inr (2, [.ref uw5, .int (nI 0)])), (uw5, .inl (ca 0, 20, .inl (fun _ => 0))), (qn7, .inr (2, [.ref uw9, .int (nI 4)])), (uw9, .inl (ca 0, 4, .inl firstF))] := hD
        refine W.widen (k := 6) (n := 230) (kk_le rfl) (kk_le rfl) ?_
        exact W.vret hx hb hr (fun t ht hW => ⟨⟨(qn1, uw2, qn4, uw5, qn7, uw9), rfl, by trivial, by rw [ht]; exact hP, hD⟩, hS.F ht⟩) hS.2.2 dX3_init_75
      · refine lv_aload_n hx hb dX3_init_56 rfl (lv_at hl 1 rfl) ?_
        refine va_get (D := D) (ci := 3) (C := RX3) (T := TX3) (N := 3) hx hb hts hiX3 hown hKv hP 0 rfl rfl 2 (by decide) lk27 (fun _ h9 => h9) rfl dX3_init_57 ?_
        obtain ⟨tb14, hztb14, httb14⟩ := hZ.1
        refine va_getsN hx hb hztb14 hS hown (va_Nw.use rfl hK.2.f23) (fun _ h9 => h9) dX3_init_60 ?_
        refine lv_iload_n hx hb dX3_init_63 rfl (lv_at hl 0 rfl) ?_
        refine va_ti (v := .int (firstF i)) hx hb httb14 hS (vp_in_nI (by omega) (by decide)) (by rw [nI_clamp (by omega)]) dX3_init_64 ?_
        have hPc := hP.sub (ws' := [(qn7, .inr (2, [.ref uw9, .int (nI i)])), (uw9, .inl (ca 0, 4, .inl (cpF firstF (fun _ => 0) i)))]) [5, 6] rfl
        have hDc := hD.sub (ws' := [(qn7, .inr (2, [.ref uw9, .int (nI i)])), (uw9, .inl (ca 0, 4, .inl (cpF firstF (fun _ => 0) i)))]) [5, 6] (by decide) rfl
        have hFc := va_free (wc := [(qn7, .inr (2, [.ref uw9, .int (nI i)])), (uw9, .inl (ca 0, 4, .inl (cpF firstF (fun _ => 0) i)))]) hD hS hA [5, 6] rfl
        refine va_calli (va_runV (As := [.int (firstF i)]) (rest := []) ⟨hx, hb, hml, hown, hts⟩ (kX2_add l D ca H.size qn7 uw9 4 (cpF firstF (fun _ => 0) i) i (firstF i) (by first | rfl | assumption | omega | trivial | (exfalso; omega)) (by first | rfl | assumption | omega | trivial | (exfalso; omega))) (cwV 1 hts gX3_init_X2_add rfl rfl rfl (by decide +kernel) ⟨kk_le rfl, kk_le rfl⟩) (pvM hK hPc (my_D_true hDc) (va_recv hKv hP (ci := 2) (q0 := 5) rfl rfl)) rfl rfl hl.1 rfl (lv_room (kk_le rfl)) dX3_init_65 ⟨kk_le rfl, kk_le rfl⟩) hS (fun q _ h => hFc q h) hFc (fun r15 u t H1 locs ht hvm hwv hBv hz1 hk1 hS => ?_)
        obtain ⟨hP1, hD1⟩ := hBv
        rw [ht] at hP1
        have hP1 : va_P D vwCl [(qn7, .inr (2, [.ref uw9, .int (nI (i + 1))])), (uw9, .inl (ca 0, 4, .inl (upd (cpF firstF (fun _ => 0) i) i (firstF i))))] H1 := hP1
        have hD1 : va_D _ [(qn7, .inr (2, [.ref uw9, .int (nI (i + 1))])), (uw9, .inl (ca 0, 4, .inl (upd (cpF firstF (fun _ => 0) i) i (firstF i))))] := hD1
        obtain ⟨hr15, hw15⟩ := hwv
        subst hr15
        obtain ⟨hP, hD⟩ := va_join (wr := [(q, .inr (3, [.ref qn1, .ref qn4, .ref qn7])), (qn1, .inr (2, [.ref uw2, .int (nI 0)])), (uw2, .inl (ca 0, 200, .inl (fun _ => 0))), (qn4, .inr (2, [.ref uw5, .int (nI 0)])), (uw5, .inl (ca 0, 20, .inl (fun _ => 0)))]) (w1 := [(qn7, .inr (2, [.ref uw9, .int (nI (i + 1))])), (uw9, .inl (ca 0, 4, .inl (upd (cpF firstF (fun _ => 0) i) i (firstF i))))]) hP hD [5, 6] [0, 1, 2, 3, 4] rfl rfl (by decide) (by decide) hk1 hFc hP1 hD1
        generalize H1 = H at hP hS ⊢
        have hP := hP.sub (ws' := [(q, .inr (3, [.ref qn1, .ref qn4, .ref qn7])), (qn1, .inr (2, [.ref uw2, .int (nI 0)])), (uw2, .inl (ca 0, 200, .inl (fun _ => 0))), (qn4, .inr (2, [.ref uw5, .int (nI 0)])), (uw5, .inl (ca 0, 20, .inl (fun _ => 0))), (qn7, .inr (2, [.ref uw9, .int (nI (i + 1))])), (uw9, .inl (ca 0, 4, .inl (upd (cpF firstF (fun _ => 0) i) i (firstF i))))]) [0, 1, 2, 3, 4, 5, 6] rfl
        have hD := hD.sub (ws' := [(q, .inr (3, [.ref qn1, .ref qn4, .ref qn7])), (qn1, .inr (2, [.ref uw2, .int (nI 0)])), (uw2, .inl (ca 0, 200, .inl (fun _ => 0))), (qn4, .inr (2, [.ref uw5, .int (nI 0)])), (uw5, .inl (ca 0, 20, .inl (fun _ => 0))), (qn7, .inr (2, [.ref uw9, .int (nI (i + 1))])), (uw9, .inl (ca 0, 4, .inl (upd (cpF firstF (fun _ => 0) i) i (firstF i))))]) [0, 1, 2, 3, 4, 5, 6] (by decide) rfl
        refine lv_pop hx hb dX3_init_68 rfl ?_
        refine lv_iinc (v := nI (i + 1)) (lv' := [(1, .int (nI (i + 1))), (0, .ref q)]) hx hb dX3_init_69 hl (k := 0) rfl (ni_inc _ _ (by decide)) (by decide) rfl (fun ls hl => ?_)
        refine lv_goto (tgt := 48) hx hb dX3_init_72 (by decide) ?_
        have e17 : (upd (cpF firstF (fun _ => 0) i) i (firstF i) : Nat → Int32) = cpF firstF (fun _ => 0) (i + 1) := by exact cpF_step _ _ _
        have hP : va_P D vwCl [(q, .inr (3, [.ref qn1, .ref qn4, .ref qn7])), (qn1, .inr (2, [.ref uw2, .int (nI 0)])), (uw2, .inl (ca 0, 200, .inl (fun _ => 0))), (qn4, .inr (2, [.ref uw5, .int (nI 0)])), (uw5, .inl (ca 0, 20, .inl (fun _ => 0))), (qn7, .inr (2, [.ref uw9, .int (nI (i + 1))])), (uw9, .inl (ca 0, 4, .inl (cpF firstF (fun _ => 0) (i + 1))))] H := Eq.mp (congrArg (fun z9 : Nat → Int32 => va_P D vwCl [(q, .inr (3, [.ref qn1, .ref qn4, .ref qn7])), (qn1, .inr (2, [.ref uw2, .int (nI 0)])), (uw2, .inl (ca 0, 200, .inl (fun _ => 0))), (qn4, .inr (2, [.ref uw5, .int (nI 0)])), (uw5, .inl (ca 0, 20, .inl (fun _ => 0))), (qn7, .inr (2, [.ref uw9, .int (nI (i + 1))])), (uw9, .inl (ca 0, 4, .inl z9))] H) e17) hP
        have hD : va_D A [(q, .inr (3, [.ref qn1, .ref qn4, .ref qn7])), (qn1, .inr (2, [.ref uw2, .int (nI 0)])), (uw2, .inl (ca 0, 200, .inl (fun _ => 0))), (qn4, .inr (2, [.ref uw5, .int (nI 0)])), (uw5, .inl (ca 0, 20, .inl (fun _ => 0))), (qn7, .inr (2, [.ref uw9, .int (nI (i + 1))])), (uw9, .inl (ca 0, 4, .inl (cpF firstF (fun _ => 0) (i + 1))))] := Eq.mp (congrArg (fun z9 : Nat → Int32 => va_D A [(q, .inr (3, [.ref qn1, .ref qn4, .ref qn7])), (qn1, .inr (2, [.ref uw2, .int (nI 0)])), (uw2, .inl (ca 0, 200, .inl (fun _ => 0))), (qn4, .inr (2, [.ref uw5, .int (nI 0)])), (uw5, .inl (ca 0, 20, .inl (fun _ => 0))), (qn7, .inr (2, [.ref uw9, .int (nI (i + 1))])), (uw9, .inl (ca 0, 4, .inl z9))]) e17) hD
        exact ih1 (i + 1) (by omega) (by omega) _ _ hP hD hS ls (lv_sub hl [0, 1] rfl)
  refine W.widen (k := 6) (n := 230) (kk_le rfl) (kk_le rfl) ?_
  have e18 : (fun _ => 0 : Nat → Int32) = cpF firstF (fun _ => 0) 0 := by exact (cpF_0 _ _).symm
  have hP : va_P D vwCl [(q, .inr (3, [.ref qn1, .ref qn4, .ref qn7])), (qn1, .inr (2, [.ref uw2, .int (nI 0)])), (uw2, .inl (ca 0, 200, .inl (fun _ => 0))), (qn4, .inr (2, [.ref uw5, .int (nI 0)])), (uw5, .inl (ca 0, 20, .inl (fun _ => 0))), (qn7, .inr (2, [.ref uw9, .int (nI 0)])), (uw9, .inl (ca 0, 4, .inl (cpF firstF (fun _ => 0) 0)))] H := Eq.mp (congrArg (fun z9 : Nat → Int32 => va_P D vwCl [(q, .inr (3, [.ref qn1, .ref qn4, .ref qn7])), (qn1, .inr (2, [.ref uw2, .int (nI 0)])), (uw2, .inl (ca 0, 200, .inl (fun _ => 0))), (qn4, .inr (2, [.ref uw5, .int (nI 0)])), (uw5, .inl (ca 0, 20, .inl (fun _ => 0))), (qn7, .inr (2, [.ref uw9, .int (nI 0)])), (uw9, .inl (ca 0, 4, .inl z9))] H) e18) hP
  have hD : va_D A [(q, .inr (3, [.ref qn1, .ref qn4, .ref qn7])), (qn1, .inr (2, [.ref uw2, .int (nI 0)])), (uw2, .inl (ca 0, 200, .inl (fun _ => 0))), (qn4, .inr (2, [.ref uw5, .int (nI 0)])), (uw5, .inl (ca 0, 20, .inl (fun _ => 0))), (qn7, .inr (2, [.ref uw9, .int (nI 0)])), (uw9, .inl (ca 0, 4, .inl (cpF firstF (fun _ => 0) 0)))] := Eq.mp (congrArg (fun z9 : Nat → Int32 => va_D A [(q, .inr (3, [.ref qn1, .ref qn4, .ref qn7])), (qn1, .inr (2, [.ref uw2, .int (nI 0)])), (uw2, .inl (ca 0, 200, .inl (fun _ => 0))), (qn4, .inr (2, [.ref uw5, .int (nI 0)])), (uw5, .inl (ca 0, 20, .inl (fun _ => 0))), (qn7, .inr (2, [.ref uw9, .int (nI 0)])), (uw9, .inl (ca 0, 4, .inl z9))]) e18) hD
  exact lp48_10 ((4 - 0) + 1) 0 (by omega) (by omega) _ _ hP hD hS ls (lv_sub hl [0, 1] rfl)
abbrev rm_kX0_depth : Room := { frames := 0, cells := 0, slots := 0, locals := 0 }
set_option maxHeartbeats 4000000 in
set_option maxRecDepth 100000 in
theorem kX0_depth (l : Launch) (D : va_G) (ca : Nat → ClassId) (q a : Nat) (dp : Nat) : Met l yX0_depth wsX0_depth rm_kX0_depth (pcR D ca [.ref q] [(q, .inr (0, [.ref a, .int (nI dp)]))]) (vp_Si (fun zr : Int32 => zr = nI dp)) 0 0 (fun _ => False) := by
  refine Met.ofW (cc := cX0_depth) (maxL := 1) (ret := (some .int)) (by decide) rfl ?_
  intro p e s m args below meth c s₁ B hml hv
  obtain ⟨rfl, hP, hK⟩ := hv
  have hx := B.exec
  have hb := B.bytes
  have hr := B.returns
  have hts := atoms_spec (ws := wsX0_depth) B.pre
  have hown : s.vm.findClass RX0 = some m.cls := findClass_of_methodNamed B.named
  have hlocks := B.notSynchronized
  have hKv := hK.1
  have hl := lv_entry ([.ref q]) (n := 1) (kk_le rfl)
  rw [lg_entry_eq]
  generalize (lg_sl ([.ref q]) ++ List.replicate (1 - (lg_sl ([.ref q])).length) Slot.unset).toArray = ls at hl ⊢
  have hl : lv_has ls 1 [(0, .ref q)] := hl
  have hiX0 : ∀ w ∈ u_ws RX0 TX0 2, w ∈ wsX0_depth := fun w h => by first | exact List.mem_cons_of_mem _ (List.mem_append_right _ h) | exact List.mem_cons_of_mem _ (List.mem_append_left _ (List.mem_append_right _ h)) | exact List.mem_cons_of_mem _ (List.mem_append_left _ (List.mem_append_left _ (List.mem_append_right _ h))) | exact List.mem_cons_of_mem _ (List.mem_append_left _ (List.mem_append_left _ (List.mem_append_left _ (List.mem_append_right _ h)))) | (revert w h; decide +kernel)
  have lk17 : (Cond.fieldLink RX0 17 "StripeSwipes$History" "depth" "I").before _ s = true := hts _ (by decide +kernel)
  refine lv_aload_n hx hb dX0_depth_0 rfl (lv_at hl 0 rfl) ?_
  refine va_get (D := D) (ci := 0) (C := RX0) (T := TX0) (N := 2) hx hb hts hiX0 hown hKv hP 0 rfl rfl 1 (by decide) lk17 (fun _ h9 => h9) rfl dX0_depth_1 ?_
  exact W.iret (v := nI dp) hx hb hr (fun t ht _ => ⟨_, rfl, by first | rfl | assumption | omega | trivial | (exfalso; omega), ht⟩) (fun _ h => nomatch h) dX0_depth_4
abbrev rm_kX3_copyFrom : Room := { frames := 2, cells := 0, slots := 0, locals := 43 }
set_option maxHeartbeats 4000000 in
set_option maxRecDepth 100000 in
theorem kX3_copyFrom (l : Launch) (D : va_G) (ca : Nat → ClassId) (sz : Nat) (q t1 t2 l1 l2 g1 g2 : Nat) (o x1 x2 y1 y2 v1 v2 : Nat) (z : Nat) (r f j : Int32) (nt nl : Nat) (gl gt : Nat → Int32) (z2 : Nat) (r2 f2 j2 : Int32) (nt2 nl2 : Nat) (gl2 gt2 : Nat → Int32) (hnt : nt ≤ 200) (hnl : nl ≤ 20) (hnt2 : nt2 ≤ 200) (hnl2 : nl2 ≤ 20) : Met l yX3_copyFrom wsX3_copyFrom rm_kX3_copyFrom (pcM D ca [.ref q, .ref o] [(q, .inr (3, [.ref t1, .ref l1, .ref g1])), (t1, .inr (2, [.ref t2, .int (nI nt)])), (t2, .inl (ca 0, 200, .inl gt)), (l1, .inr (2, [.ref l2, .int (nI nl)])), (l2, .inl (ca 0, 20, .inl gl)), (g1, .inr (2, [.ref g2, .int (nI 4)])), (g2, .inl (ca 0, 4, .inl (seF z r f j))), (o, .inr (3, [.ref x1, .ref y1, .ref v1])), (x1, .inr (2, [.ref x2, .int (nI nt2)])), (x2, .inl (ca 0, 200, .inl gt2)), (y1, .inr (2, [.ref y2, .int (nI nl2)])), (y2, .inl (ca 0, 20, .inl gl2)), (v1, .inr (2, [.ref v2, .int (nI 4)])), (v2, .inl (ca 0, 4, .inl (seF z2 r2 f2 j2)))] sz) (va_Qv (fun (u : Unit) => True) (qB D (va_A [(q, .inr (3, [.ref t1, .ref l1, .ref g1])), (t1, .inr (2, [.ref t2, .int (nI nt)])), (t2, .inl (ca 0, 200, .inl gt)), (l1, .inr (2, [.ref l2, .int (nI nl)])), (l2, .inl (ca 0, 20, .inl gl)), (g1, .inr (2, [.ref g2, .int (nI 4)])), (g2, .inl (ca 0, 4, .inl (seF z r f j))), (o, .inr (3, [.ref x1, .ref y1, .ref v1])), (x1, .inr (2, [.ref x2, .int (nI nt2)])), (x2, .inl (ca 0, 200, .inl gt2)), (y1, .inr (2, [.ref y2, .int (nI nl2)])), (y2, .inl (ca 0, 20, .inl gl2)), (v1, .inr (2, [.ref v2, .int (nI 4)])), (v2, .inl (ca 0, 4, .inl (seF z2 r2 f2 j2)))] sz) (fun u : Unit => [(q, .inr (3, [.ref t1, .ref l1, .ref g1])), (t1, .inr (2, [.ref t2, .int (nI nt2)])), (t2, .inl (ca 0, 200, .inl (cpF gt2 gt nt2))), (l1, .inr (2, [.ref l2, .int (nI nl2)])), (l2, .inl (ca 0, 20, .inl (cpF gl2 gl nl2))), (g1, .inr (2, [.ref g2, .int (nI 4)])), (g2, .inl (ca 0, 4, .inl (seF z2 r2 f2 j2))), (o, .inr (3, [.ref x1, .ref y1, .ref v1])), (x1, .inr (2, [.ref x2, .int (nI nt2)])), (x2, .inl (ca 0, 200, .inl gt2)), (y1, .inr (2, [.ref y2, .int (nI nl2)])), (y2, .inl (ca 0, 20, .inl gl2)), (v1, .inr (2, [.ref v2, .int (nI 4)])), (v2, .inl (ca 0, 4, .inl (seF z2 r2 f2 j2)))])) (va_A [(q, .inr (3, [.ref t1, .ref l1, .ref g1])), (t1, .inr (2, [.ref t2, .int (nI nt)])), (t2, .inl (ca 0, 200, .inl gt)), (l1, .inr (2, [.ref l2, .int (nI nl)])), (l2, .inl (ca 0, 20, .inl gl)), (g1, .inr (2, [.ref g2, .int (nI 4)])), (g2, .inl (ca 0, 4, .inl (seF z r f j))), (o, .inr (3, [.ref x1, .ref y1, .ref v1])), (x1, .inr (2, [.ref x2, .int (nI nt2)])), (x2, .inl (ca 0, 200, .inl gt2)), (y1, .inr (2, [.ref y2, .int (nI nl2)])), (y2, .inl (ca 0, 20, .inl gl2)), (v1, .inr (2, [.ref v2, .int (nI 4)])), (v2, .inl (ca 0, 4, .inl (seF z2 r2 f2 j2)))] sz)) 0 0 (va_A [(q, .inr (3, [.ref t1, .ref l1, .ref g1])), (t1, .inr (2, [.ref t2, .int (nI nt)])), (t2, .inl (ca 0, 200, .inl gt)), (l1, .inr (2, [.ref l2, .int (nI nl)])), (l2, .inl (ca 0, 20, .inl gl)), (g1, .inr (2, [.ref g2, .int (nI 4)])), (g2, .inl (ca 0, 4, .inl (seF z r f j))), (o, .inr (3, [.ref x1, .ref y1, .ref v1])), (x1, .inr (2, [.ref x2, .int (nI nt2)])), (x2, .inl (ca 0, 200, .inl gt2)), (y1, .inr (2, [.ref y2, .int (nI nl2)])), (y2, .inl (ca 0, 20, .inl gl2)), (v1, .inr (2, [.ref v2, .int (nI 4)])), (v2, .inl (ca 0, 4, .inl (seF z2 r2 f2 j2)))] sz) := by
  refine Met.ofW (cc := cX3_copyFrom) (maxL := 2) (ret := none) (by decide) rfl ?_
  intro p e s m args below meth c s₁ B hml hv
  obtain ⟨rfl, hsz, hP, hK, hD0⟩ := hv
  have hx := B.exec
  have hb := B.bytes
  have hr := B.returns
  have hts := atoms_spec (ws := wsX3_copyFrom) B.pre
  have hown : s.vm.findClass RX3 = some m.cls := findClass_of_methodNamed B.named
  have hlocks := B.notSynchronized
  subst hsz
  have hD := hD0.self (sz := s.heap.size)
  generalize hAe : va_A [(q, .inr (3, [.ref t1, .ref l1, .ref g1])), (t1, .inr (2, [.ref t2, .int (nI nt)])), (t2, .inl (ca 0, 200, .inl gt)), (l1, .inr (2, [.ref l2, .int (nI nl)])), (l2, .inl (ca 0, 20, .inl gl)), (g1, .inr (2, [.ref g2, .int (nI 4)])), (g2, .inl (ca 0, 4, .inl (seF z r f j))), (o, .inr (3, [.ref x1, .ref y1, .ref v1])), (x1, .inr (2, [.ref x2, .int (nI nt2)])), (x2, .inl (ca 0, 200, .inl gt2)), (y1, .inr (2, [.ref y2, .int (nI nl2)])), (y2, .inl (ca 0, 20, .inl gl2)), (v1, .inr (2, [.ref v2, .int (nI 4)])), (v2, .inl (ca 0, 4, .inl (seF z2 r2 f2 j2)))] s.heap.size = A at hD ⊢
  have hA : ∀ q : Nat, s.heap.size ≤ q → A q := fun q h => by rw [← hAe]; exact Or.inr h
  have hS : va_S A s.heap s.heap [] := va_S.rf
  have hP : va_P D vwCl [(q, .inr (3, [.ref t1, .ref l1, .ref g1])), (t1, .inr (2, [.ref t2, .int (nI nt)])), (t2, .inl (ca 0, 200, .inl gt)), (l1, .inr (2, [.ref l2, .int (nI nl)])), (l2, .inl (ca 0, 20, .inl gl)), (g1, .inr (2, [.ref g2, .int (nI 4)])), (g2, .inl (ca 0, 4, .inl (seF z r f j))), (o, .inr (3, [.ref x1, .ref y1, .ref v1])), (x1, .inr (2, [.ref x2, .int (nI nt2)])), (x2, .inl (ca 0, 200, .inl gt2)), (y1, .inr (2, [.ref y2, .int (nI nl2)])), (y2, .inl (ca 0, 20, .inl gl2)), (v1, .inr (2, [.ref v2, .int (nI 4)])), (v2, .inl (ca 0, 4, .inl (seF z2 r2 f2 j2)))] s.heap := hP
  have hKv := hK.1
  have hl := lv_entry ([.ref q, .ref o]) (n := 2) (kk_le rfl)
  rw [lg_entry_eq]
  generalize (lg_sl ([.ref q, .ref o]) ++ List.replicate (2 - (lg_sl ([.ref q, .ref o])).length) Slot.unset).toArray = ls at hl ⊢
  have hl : lv_has ls 2 [(0, .ref q), (1, .ref o)] := hl
  have hiX3 : ∀ w ∈ u_ws RX3 TX3 3, w ∈ wsX3_copyFrom := fun w h => by first | exact List.mem_cons_of_mem _ (List.mem_append_right _ h) | exact List.mem_cons_of_mem _ (List.mem_append_left _ (List.mem_append_right _ h)) | exact List.mem_cons_of_mem _ (List.mem_append_left _ (List.mem_append_left _ (List.mem_append_right _ h))) | exact List.mem_cons_of_mem _ (List.mem_append_left _ (List.mem_append_left _ (List.mem_append_left _ (List.mem_append_right _ h)))) | (revert w h; decide +kernel)
  have lk14 : (Cond.fieldLink RX3 14 "StripeSwipes$State" "times" "LStripeSwipes$Row;").before _ s = true := hts _ (by decide +kernel)
  have lk20 : (Cond.fieldLink RX3 20 "StripeSwipes$State" "letters" "LStripeSwipes$Row;").before _ s = true := hts _ (by decide +kernel)
  have lk27 : (Cond.fieldLink RX3 27 "StripeSwipes$State" "settings" "LStripeSwipes$Row;").before _ s = true := hts _ (by decide +kernel)
  refine lv_aload_n hx hb dX3_copyFrom_0 rfl (lv_at hl 0 rfl) ?_
  refine va_get (D := D) (ci := 3) (C := RX3) (T := TX3) (N := 3) hx hb hts hiX3 hown hKv hP 0 rfl rfl 0 (by decide) lk14 (fun _ h9 => h9) rfl dX3_copyFrom_1 ?_
  refine lv_aload_n hx hb dX3_copyFrom_4 rfl (lv_at hl 1 rfl) ?_
  refine va_get (D := D) (ci := 3) (C := RX3) (T := TX3) (N := 3) hx hb hts hiX3 hown hKv hP 7 rfl rfl 0 (by decide) lk14 (fun _ h9 => h9) rfl dX3_copyFrom_5 ?_
  have hPc := hP.sub (ws' := [(t1, .inr (2, [.ref t2, .int (nI nt)])), (t2, .inl (ca 0, 200, .inl gt)), (x1, .inr (2, [.ref x2, .int (nI nt2)])), (x2, .inl (ca 0, 200, .inl gt2))]) [1, 2, 8, 9] rfl
  have hDc := hD.sub (ws' := [(t1, .inr (2, [.ref t2, .int (nI nt)])), (t2, .inl (ca 0, 200, .inl gt)), (x1, .inr (2, [.ref x2, .int (nI nt2)])), (x2, .inl (ca 0, 200, .inl gt2))]) [1, 2, 8, 9] (by decide) rfl
  have hFc := va_free (wc := [(t1, .inr (2, [.ref t2, .int (nI nt)])), (t2, .inl (ca 0, 200, .inl gt)), (x1, .inr (2, [.ref x2, .int (nI nt2)])), (x2, .inl (ca 0, 200, .inl gt2))]) hD hS hA [1, 2, 8, 9] rfl
  refine va_callv (va_runV (As := [.ref x1]) (rest := []) ⟨hx, hb, hml, hown, hts⟩ (kX2_copyFrom l D ca s.heap.size t1 t2 200 gt nt x1 x2 200 gt2 nt2 (by first | rfl | assumption | omega | trivial | (exfalso; omega)) (by first | rfl | assumption | omega | trivial | (exfalso; omega)) (by first | rfl | assumption | omega | trivial | (exfalso; omega)) (by first | rfl | assumption | omega | trivial | (exfalso; omega)) (by first | rfl | assumption | omega | trivial | (exfalso; omega))) (cwV 1 hts gX3_copyFrom_X2_copyFrom rfl rfl rfl (by decide +kernel) ⟨kk_le rfl, kk_le rfl⟩) (pvM hK hPc (my_D_true hDc) (va_recv hKv hP (ci := 2) (q0 := 1) rfl rfl)) rfl rfl hl.1 rfl (lv_room (kk_le rfl)) dX3_copyFrom_8 ⟨kk_le rfl, kk_le rfl⟩) hS (fun q _ h => hFc q h) hFc (fun u t H1 locs ht hvm hwv hBv hz1 hk1 hS => ?_)
  obtain ⟨hP1, hD1⟩ := hBv
  rw [ht] at hP1
  have hP1 : va_P D vwCl [(t1, .inr (2, [.ref t2, .int (nI nt2)])), (t2, .inl (ca 0, 200, .inl (cpF gt2 gt nt2))), (x1, .inr (2, [.ref x2, .int (nI nt2)])), (x2, .inl (ca 0, 200, .inl gt2))] H1 := hP1
  have hD1 : va_D _ [(t1, .inr (2, [.ref t2, .int (nI nt2)])), (t2, .inl (ca 0, 200, .inl (cpF gt2 gt nt2))), (x1, .inr (2, [.ref x2, .int (nI nt2)])), (x2, .inl (ca 0, 200, .inl gt2))] := hD1
  have hw1 := hwv
  obtain ⟨hP, hD⟩ := va_join (wr := [(q, .inr (3, [.ref t1, .ref l1, .ref g1])), (l1, .inr (2, [.ref l2, .int (nI nl)])), (l2, .inl (ca 0, 20, .inl gl)), (g1, .inr (2, [.ref g2, .int (nI 4)])), (g2, .inl (ca 0, 4, .inl (seF z r f j))), (o, .inr (3, [.ref x1, .ref y1, .ref v1])), (y1, .inr (2, [.ref y2, .int (nI nl2)])), (y2, .inl (ca 0, 20, .inl gl2)), (v1, .inr (2, [.ref v2, .int (nI 4)])), (v2, .inl (ca 0, 4, .inl (seF z2 r2 f2 j2)))]) (w1 := [(t1, .inr (2, [.ref t2, .int (nI nt2)])), (t2, .inl (ca 0, 200, .inl (cpF gt2 gt nt2))), (x1, .inr (2, [.ref x2, .int (nI nt2)])), (x2, .inl (ca 0, 200, .inl gt2))]) hP hD [1, 2, 8, 9] [0, 3, 4, 5, 6, 7, 10, 11, 12, 13] rfl rfl (by decide) (by decide) hk1 hFc hP1 hD1
  generalize H1 = H at hP hS ⊢
  have hP := hP.sub (ws' := [(q, .inr (3, [.ref t1, .ref l1, .ref g1])), (t1, .inr (2, [.ref t2, .int (nI nt2)])), (t2, .inl (ca 0, 200, .inl (cpF gt2 gt nt2))), (l1, .inr (2, [.ref l2, .int (nI nl)])), (l2, .inl (ca 0, 20, .inl gl)), (g1, .inr (2, [.ref g2, .int (nI 4)])), (g2, .inl (ca 0, 4, .inl (seF z r f j))), (o, .inr (3, [.ref x1, .ref y1, .ref v1])), (x1, .inr (2, [.ref x2, .int (nI nt2)])), (x2, .inl (ca 0, 200, .inl gt2)), (y1, .inr (2, [.ref y2, .int (nI nl2)])), (y2, .inl (ca 0, 20, .inl gl2)), (v1, .inr (2, [.ref v2, .int (nI 4)])), (v2, .inl (ca 0, 4, .inl (seF z2 r2 f2 j2)))]) [0, 10, 11, 1, 2, 3, 4, 5, 12, 13, 6, 7, 8, 9] rfl
  have hD := hD.sub (ws' := [(q, .inr (3, [.ref t1, .ref l1, .ref g1])), (t1, .inr (2, [.ref t2, .int (nI nt2)])), (t2, .inl (ca 0, 200, .inl (cpF gt2 gt nt2))), (l1, .inr (2, [.ref l2, .int (nI nl)])), (l2, .inl (ca 0, 20, .inl gl)), (g1, .inr (2, [.ref g2, .int (nI 4)])), (g2, .inl (ca 0, 4, .inl (seF z r f j))), (o, .inr (3, [.ref x1, .ref y1, .ref v1])), (x1, .inr (2, [.ref x2, .int (nI nt2)])), (x2, .inl (ca 0, 200, .inl gt2)), (y1, .inr (2, [.ref y2, .int (nI nl2)])), (y2, .inl (ca 0, 20, .inl gl2)), (v1, .inr (2, [.ref v2, .int (nI 4)])), (v2, .inl (ca 0, 4, .inl (seF z2 r2 f2 j2)))]) [0, 10, 11, 1, 2, 3, 4, 5, 12, 13, 6, 7, 8, 9] (by decide) rfl
  refine lv_aload_n hx hb dX3_copyFrom_11 rfl (lv_at hl 0 rfl) ?_
  refine va_get (D := D) (ci := 3) (C := RX3) (T := TX3) (N := 3) hx hb hts hiX3 hown hKv hP 0 rfl rfl 1 (by decide) lk20 (fun _ h9 => h9) rfl dX3_copyFrom_12 ?_
  refine lv_aload_n hx hb dX3_copyFrom_15 rfl (lv_at hl 1 rfl) ?_
  refine va_get (D := D) (ci := 3) (C := RX3) (T := TX3) (N := 3) hx hb hts hiX3 hown hKv hP 7 rfl rfl 1 (by decide) lk20 (fun _ h9 => h9) rfl dX3_copyFrom_16 ?_
  have hPc := hP.sub (ws' := [(l1, .inr (2, [.ref l2, .int (nI nl)])), (l2, .inl (ca 0, 20, .inl gl)), (y1, .inr (2, [.ref y2, .int (nI nl2)])), (y2, .inl (ca 0, 20, .inl gl2))]) [3, 4, 10, 11] rfl
  have hDc := hD.sub (ws' := [(l1, .inr (2, [.ref l2, .int (nI nl)])), (l2, .inl (ca 0, 20, .inl gl)), (y1, .inr (2, [.ref y2, .int (nI nl2)])), (y2, .inl (ca 0, 20, .inl gl2))]) [3, 4, 10, 11] (by decide) rfl
  have hFc := va_free (wc := [(l1, .inr (2, [.ref l2, .int (nI nl)])), (l2, .inl (ca 0, 20, .inl gl)), (y1, .inr (2, [.ref y2, .int (nI nl2)])), (y2, .inl (ca 0, 20, .inl gl2))]) hD hS hA [3, 4, 10, 11] rfl
  refine va_callv (va_runV (As := [.ref y1]) (rest := []) ⟨hx, hb, hml, hown, hts⟩ (kX2_copyFrom l D ca H.size l1 l2 20 gl nl y1 y2 20 gl2 nl2 (by first | rfl | assumption | omega | trivial | (exfalso; omega)) (by first | rfl | assumption | omega | trivial | (exfalso; omega)) (by first | rfl | assumption | omega | trivial | (exfalso; omega)) (by first | rfl | assumption | omega | trivial | (exfalso; omega)) (by first | rfl | assumption | omega | trivial | (exfalso; omega))) (cwV 1 hts gX3_copyFrom_X2_copyFrom rfl rfl rfl (by decide +kernel) ⟨kk_le rfl, kk_le rfl⟩) (pvM hK hPc (my_D_true hDc) (va_recv hKv hP (ci := 2) (q0 := 3) rfl rfl)) rfl rfl hl.1 rfl (lv_room (kk_le rfl)) dX3_copyFrom_19 ⟨kk_le rfl, kk_le rfl⟩) hS (fun q _ h => hFc q h) hFc (fun u t H1 locs ht hvm hwv hBv hz1 hk1 hS => ?_)
  obtain ⟨hP1, hD1⟩ := hBv
  rw [ht] at hP1
  have hP1 : va_P D vwCl [(l1, .inr (2, [.ref l2, .int (nI nl2)])), (l2, .inl (ca 0, 20, .inl (cpF gl2 gl nl2))), (y1, .inr (2, [.ref y2, .int (nI nl2)])), (y2, .inl (ca 0, 20, .inl gl2))] H1 := hP1
  have hD1 : va_D _ [(l1, .inr (2, [.ref l2, .int (nI nl2)])), (l2, .inl (ca 0, 20, .inl (cpF gl2 gl nl2))), (y1, .inr (2, [.ref y2, .int (nI nl2)])), (y2, .inl (ca 0, 20, .inl gl2))] := hD1
  have hw3 := hwv
  obtain ⟨hP, hD⟩ := va_join (wr := [(q, .inr (3, [.ref t1, .ref l1, .ref g1])), (t1, .inr (2, [.ref t2, .int (nI nt2)])), (t2, .inl (ca 0, 200, .inl (cpF gt2 gt nt2))), (g1, .inr (2, [.ref g2, .int (nI 4)])), (g2, .inl (ca 0, 4, .inl (seF z r f j))), (o, .inr (3, [.ref x1, .ref y1, .ref v1])), (x1, .inr (2, [.ref x2, .int (nI nt2)])), (x2, .inl (ca 0, 200, .inl gt2)), (v1, .inr (2, [.ref v2, .int (nI 4)])), (v2, .inl (ca 0, 4, .inl (seF z2 r2 f2 j2)))]) (w1 := [(l1, .inr (2, [.ref l2, .int (nI nl2)])), (l2, .inl (ca 0, 20, .inl (cpF gl2 gl nl2))), (y1, .inr (2, [.ref y2, .int (nI nl2)])), (y2, .inl (ca 0, 20, .inl gl2))]) hP hD [3, 4, 10, 11] [0, 1, 2, 5, 6, 7, 8, 9, 12, 13] rfl rfl (by decide) (by decide) hk1 hFc hP1 hD1
  generalize H1 = H at hP hS ⊢
  have hP := hP.sub (ws' := [(q, .inr (3, [.ref t1, .ref l1, .ref g1])), (t1, .inr (2, [.ref t2, .int (nI nt2)])), (t2, .inl (ca 0, 200, .inl (cpF gt2 gt nt2))), (l1, .inr (2, [.ref l2, .int (nI nl2)])), (l2, .inl (ca 0, 20, .inl (cpF gl2 gl nl2))), (g1, .inr (2, [.ref g2, .int (nI 4)])), (g2, .inl (ca 0, 4, .inl (seF z r f j))), (o, .inr (3, [.ref x1, .ref y1, .ref v1])), (x1, .inr (2, [.ref x2, .int (nI nt2)])), (x2, .inl (ca 0, 200, .inl gt2)), (y1, .inr (2, [.ref y2, .int (nI nl2)])), (y2, .inl (ca 0, 20, .inl gl2)), (v1, .inr (2, [.ref v2, .int (nI 4)])), (v2, .inl (ca 0, 4, .inl (seF z2 r2 f2 j2)))]) [0, 1, 2, 10, 11, 3, 4, 5, 6, 7, 12, 13, 8, 9] rfl
  have hD := hD.sub (ws' := [(q, .inr (3, [.ref t1, .ref l1, .ref g1])), (t1, .inr (2, [.ref t2, .int (nI nt2)])), (t2, .inl (ca 0, 200, .inl (cpF gt2 gt nt2))), (l1, .inr (2, [.ref l2, .int (nI nl2)])), (l2, .inl (ca 0, 20, .inl (cpF gl2 gl nl2))), (g1, .inr (2, [.ref g2, .int (nI 4)])), (g2, .inl (ca 0, 4, .inl (seF z r f j))), (o, .inr (3, [.ref x1, .ref y1, .ref v1])), (x1, .inr (2, [.ref x2, .int (nI nt2)])), (x2, .inl (ca 0, 200, .inl gt2)), (y1, .inr (2, [.ref y2, .int (nI nl2)])), (y2, .inl (ca 0, 20, .inl gl2)), (v1, .inr (2, [.ref v2, .int (nI 4)])), (v2, .inl (ca 0, 4, .inl (seF z2 r2 f2 j2)))]) [0, 1, 2, 10, 11, 3, 4, 5, 6, 7, 12, 13, 8, 9] (by decide) rfl
  refine lv_aload_n hx hb dX3_copyFrom_22 rfl (lv_at hl 0 rfl) ?_
  refine va_get (D := D) (ci := 3) (C := RX3) (T := TX3) (N := 3) hx hb hts hiX3 hown hKv hP 0 rfl rfl 2 (by decide) lk27 (fun _ h9 => h9) rfl dX3_copyFrom_23 ?_
  refine lv_aload_n hx hb dX3_copyFrom_26 rfl (lv_at hl 1 rfl) ?_
  refine va_get (D := D) (ci := 3) (C := RX3) (T := TX3) (N := 3) hx hb hts hiX3 hown hKv hP 7 rfl rfl 2 (by decide) lk27 (fun _ h9 => h9) rfl dX3_copyFrom_27 ?_
  have hPc := hP.sub (ws' := [(g1, .inr (2, [.ref g2, .int (nI 4)])), (g2, .inl (ca 0, 4, .inl (seF z r f j))), (v1, .inr (2, [.ref v2, .int (nI 4)])), (v2, .inl (ca 0, 4, .inl (seF z2 r2 f2 j2)))]) [5, 6, 12, 13] rfl
  have hDc := hD.sub (ws' := [(g1, .inr (2, [.ref g2, .int (nI 4)])), (g2, .inl (ca 0, 4, .inl (seF z r f j))), (v1, .inr (2, [.ref v2, .int (nI 4)])), (v2, .inl (ca 0, 4, .inl (seF z2 r2 f2 j2)))]) [5, 6, 12, 13] (by decide) rfl
  have hFc := va_free (wc := [(g1, .inr (2, [.ref g2, .int (nI 4)])), (g2, .inl (ca 0, 4, .inl (seF z r f j))), (v1, .inr (2, [.ref v2, .int (nI 4)])), (v2, .inl (ca 0, 4, .inl (seF z2 r2 f2 j2)))]) hD hS hA [5, 6, 12, 13] rfl
  refine va_callv (va_runV (As := [.ref v1]) (rest := []) ⟨hx, hb, hml, hown, hts⟩ (kX2_copyFrom l D ca H.size g1 g2 4 (seF z r f j) 4 v1 v2 4 (seF z2 r2 f2 j2) 4 (by first | rfl | assumption | omega | trivial | (exfalso; omega)) (by first | rfl | assumption | omega | trivial | (exfalso; omega)) (by first | rfl | assumption | omega | trivial | (exfalso; omega)) (by first | rfl | assumption | omega | trivial | (exfalso; omega)) (by first | rfl | assumption | omega | trivial | (exfalso; omega))) (cwV 1 hts gX3_copyFrom_X2_copyFrom rfl rfl rfl (by decide +kernel) ⟨kk_le rfl, kk_le rfl⟩) (pvM hK hPc (my_D_true hDc) (va_recv hKv hP (ci := 2) (q0 := 5) rfl rfl)) rfl rfl hl.1 rfl (lv_room (kk_le rfl)) dX3_copyFrom_30 ⟨kk_le rfl, kk_le rfl⟩) hS (fun q _ h => hFc q h) hFc (fun u t H1 locs ht hvm hwv hBv hz1 hk1 hS => ?_)
  obtain ⟨hP1, hD1⟩ := hBv
  rw [ht] at hP1
  have hP1 : va_P D vwCl [(g1, .inr (2, [.ref g2, .int (nI 4)])), (g2, .inl (ca 0, 4, .inl (cpF (seF z2 r2 f2 j2) (seF z r f j) 4))), (v1, .inr (2, [.ref v2, .int (nI 4)])), (v2, .inl (ca 0, 4, .inl (seF z2 r2 f2 j2)))] H1 := hP1
  have hD1 : va_D _ [(g1, .inr (2, [.ref g2, .int (nI 4)])), (g2, .inl (ca 0, 4, .inl (cpF (seF z2 r2 f2 j2) (seF z r f j) 4))), (v1, .inr (2, [.ref v2, .int (nI 4)])), (v2, .inl (ca 0, 4, .inl (seF z2 r2 f2 j2)))] := hD1
  have hw5 := hwv
  obtain ⟨hP, hD⟩ := va_join (wr := [(q, .inr (3, [.ref t1, .ref l1, .ref g1])), (t1, .inr (2, [.ref t2, .int (nI nt2)])), (t2, .inl (ca 0, 200, .inl (cpF gt2 gt nt2))), (l1, .inr (2, [.ref l2, .int (nI nl2)])), (l2, .inl (ca 0, 20, .inl (cpF gl2 gl nl2))), (o, .inr (3, [.ref x1, .ref y1, .ref v1])), (x1, .inr (2, [.ref x2, .int (nI nt2)])), (x2, .inl (ca 0, 200, .inl gt2)), (y1, .inr (2, [.ref y2, .int (nI nl2)])), (y2, .inl (ca 0, 20, .inl gl2))]) (w1 := [(g1, .inr (2, [.ref g2, .int (nI 4)])), (g2, .inl (ca 0, 4, .inl (cpF (seF z2 r2 f2 j2) (seF z r f j) 4))), (v1, .inr (2, [.ref v2, .int (nI 4)])), (v2, .inl (ca 0, 4, .inl (seF z2 r2 f2 j2)))]) hP hD [5, 6, 12, 13] [0, 1, 2, 3, 4, 7, 8, 9, 10, 11] rfl rfl (by decide) (by decide) hk1 hFc hP1 hD1
  generalize H1 = H at hP hS ⊢
  have hP := hP.sub (ws' := [(q, .inr (3, [.ref t1, .ref l1, .ref g1])), (t1, .inr (2, [.ref t2, .int (nI nt2)])), (t2, .inl (ca 0, 200, .inl (cpF gt2 gt nt2))), (l1, .inr (2, [.ref l2, .int (nI nl2)])), (l2, .inl (ca 0, 20, .inl (cpF gl2 gl nl2))), (g1, .inr (2, [.ref g2, .int (nI 4)])), (g2, .inl (ca 0, 4, .inl (cpF (seF z2 r2 f2 j2) (seF z r f j) 4))), (o, .inr (3, [.ref x1, .ref y1, .ref v1])), (x1, .inr (2, [.ref x2, .int (nI nt2)])), (x2, .inl (ca 0, 200, .inl gt2)), (y1, .inr (2, [.ref y2, .int (nI nl2)])), (y2, .inl (ca 0, 20, .inl gl2)), (v1, .inr (2, [.ref v2, .int (nI 4)])), (v2, .inl (ca 0, 4, .inl (seF z2 r2 f2 j2)))]) [0, 1, 2, 3, 4, 10, 11, 5, 6, 7, 8, 9, 12, 13] rfl
  have hD := hD.sub (ws' := [(q, .inr (3, [.ref t1, .ref l1, .ref g1])), (t1, .inr (2, [.ref t2, .int (nI nt2)])), (t2, .inl (ca 0, 200, .inl (cpF gt2 gt nt2))), (l1, .inr (2, [.ref l2, .int (nI nl2)])), (l2, .inl (ca 0, 20, .inl (cpF gl2 gl nl2))), (g1, .inr (2, [.ref g2, .int (nI 4)])), (g2, .inl (ca 0, 4, .inl (cpF (seF z2 r2 f2 j2) (seF z r f j) 4))), (o, .inr (3, [.ref x1, .ref y1, .ref v1])), (x1, .inr (2, [.ref x2, .int (nI nt2)])), (x2, .inl (ca 0, 200, .inl gt2)), (y1, .inr (2, [.ref y2, .int (nI nl2)])), (y2, .inl (ca 0, 20, .inl gl2)), (v1, .inr (2, [.ref v2, .int (nI 4)])), (v2, .inl (ca 0, 4, .inl (seF z2 r2 f2 j2)))]) [0, 1, 2, 3, 4, 10, 11, 5, 6, 7, 8, 9, 12, 13] (by decide) rfl
  have hP := my_P_alt (f2 := seF z2 r2 f2 j2) hP 6 rfl (fun k9 hk9 => cpF_lo _ _ (by omega))
  have hD := my_D_alt (f2 := seF z2 r2 f2 j2) hD 6 rfl
  have hP : va_P D vwCl [(q, .inr (3, [.ref t1, .ref l1, .ref g1])), (t1, .inr (2, [.ref t2, .int (nI nt2)])), (t2, .inl (ca 0, 200, .inl (cpF gt2 gt nt2))), (l1, .inr (2, [.ref l2, .int (nI nl2)])), (l2, .inl (ca 0, 20, .inl (cpF gl2 gl nl2))), (g1, .inr (2, [.ref g2, .int (nI 4)])), (g2, .inl (ca 0, 4, .inl (seF z2 r2 f2 j2))), (o, .inr (3, [.ref x1, .ref y1, .ref v1])), (x1, .inr (2, [.ref x2, .int (nI nt2)])), (x2, .inl (ca 0, 200, .inl gt2)), (y1, .inr (2, [.ref y2, .int (nI nl2)])), (y2, .inl (ca 0, 20, .inl gl2)), (v1, .inr (2, [.ref v2, .int (nI 4)])), (v2, .inl (ca 0, 4, .inl (seF z2 r2 f2 j2)))] H := hP
  have hD : va_D A [(q, .inr (3, [.ref t1, .ref l1, .ref g1])), (t1, .inr (2, [.ref t2, .int (nI nt2)])), (t2, .inl (ca 0, 200, .inl (cpF gt2 gt nt2))), (l1, .inr (2, [.ref l2, .int (nI nl2)])), (l2, .inl (ca 0, 20, .inl (cpF gl2 gl nl2))), (g1, .inr (2, [.ref g2, .int (nI 4)])), (g2, .inl (ca 0, 4, .inl (seF z2 r2 f2 j2))), (o, .inr (3, [.ref x1, .ref y1, .ref v1])), (x1, .inr (2, [.ref x2, .int (nI nt2)])), (x2, .inl (ca 0, 200, .inl gt2)), (y1, .inr (2, [.ref y2, .int (nI nl2)])), (y2, .inl (ca 0, 20, .inl gl2)), (v1, .inr (2, [.ref v2, .int (nI 4)])), (v2, .inl (ca 0, 4, .inl (seF z2 r2 f2 j2)))] := hD
  exact W.vret hx hb hr (fun t ht hW => ⟨⟨(), rfl, by trivial, by rw [ht]; exact hP, hD⟩, hS.F ht⟩) hS.2.2 dX3_copyFrom_33
abbrev rm_kX0_save_old : Room := { frames := 3, cells := 7, slots := 233, locals := 64 }
set_option maxHeartbeats 4000000 in
set_option maxRecDepth 100000 in
theorem kX0_save_old (l : Launch) (D : va_G) (ca : Nat → ClassId) (sz : Nat) (h ha : Nat) (qf : Nat → Option Nat) (dp : Nat) (q t1 t2 l1 l2 g1 g2 : Nat) (o x1 x2 y1 y2 v1 v2 : Nat) (z : Nat) (r f j : Int32) (nt nl : Nat) (gl gt : Nat → Int32) (z2 : Nat) (r2 f2 j2 : Int32) (nt2 nl2 : Nat) (gl2 gt2 : Nat → Int32) (hdp : dp < 6) (hq : qf dp = some q) (hnt : nt ≤ 200) (hnl : nl ≤ 20) (hnt2 : nt2 ≤ 200) (hnl2 : nl2 ≤ 20) : Met l yX0_save wsX0_save rm_kX0_save_old (pcZ D ca [.ref h, .ref o] [(h, .inr (0, [.ref ha, .int (nI dp)])), (ha, .inl (ca 2, 6, .inr (.inr (.inr (.inr qf))))), (q, .inr (3, [.ref t1, .ref l1, .ref g1])), (t1, .inr (2, [.ref t2, .int (nI nt)])), (t2, .inl (ca 0, 200, .inl gt)), (l1, .inr (2, [.ref l2, .int (nI nl)])), (l2, .inl (ca 0, 20, .inl gl)), (g1, .inr (2, [.ref g2, .int (nI 4)])), (g2, .inl (ca 0, 4, .inl (seF z r f j))), (o, .inr (3, [.ref x1, .ref y1, .ref v1])), (x1, .inr (2, [.ref x2, .int (nI nt2)])), (x2, .inl (ca 0, 200, .inl gt2)), (y1, .inr (2, [.ref y2, .int (nI nl2)])), (y2, .inl (ca 0, 20, .inl gl2)), (v1, .inr (2, [.ref v2, .int (nI 4)])), (v2, .inl (ca 0, 4, .inl (seF z2 r2 f2 j2)))] sz) (va_Qv (fun (u : Unit) => True) (qB D (va_A [(h, .inr (0, [.ref ha, .int (nI dp)])), (ha, .inl (ca 2, 6, .inr (.inr (.inr (.inr qf))))), (q, .inr (3, [.ref t1, .ref l1, .ref g1])), (t1, .inr (2, [.ref t2, .int (nI nt)])), (t2, .inl (ca 0, 200, .inl gt)), (l1, .inr (2, [.ref l2, .int (nI nl)])), (l2, .inl (ca 0, 20, .inl gl)), (g1, .inr (2, [.ref g2, .int (nI 4)])), (g2, .inl (ca 0, 4, .inl (seF z r f j))), (o, .inr (3, [.ref x1, .ref y1, .ref v1])), (x1, .inr (2, [.ref x2, .int (nI nt2)])), (x2, .inl (ca 0, 200, .inl gt2)), (y1, .inr (2, [.ref y2, .int (nI nl2)])), (y2, .inl (ca 0, 20, .inl gl2)), (v1, .inr (2, [.ref v2, .int (nI 4)])), (v2, .inl (ca 0, 4, .inl (seF z2 r2 f2 j2)))] sz) (fun u : Unit => [(h, .inr (0, [.ref ha, .int (nI (dp + 1))])), (ha, .inl (ca 2, 6, .inr (.inr (.inr (.inr qf))))), (q, .inr (3, [.ref t1, .ref l1, .ref g1])), (t1, .inr (2, [.ref t2, .int (nI nt2)])), (t2, .inl (ca 0, 200, .inl (cpF gt2 gt nt2))), (l1, .inr (2, [.ref l2, .int (nI nl2)])), (l2, .inl (ca 0, 20, .inl (cpF gl2 gl nl2))), (g1, .inr (2, [.ref g2, .int (nI 4)])), (g2, .inl (ca 0, 4, .inl (seF z2 r2 f2 j2))), (o, .inr (3, [.ref x1, .ref y1, .ref v1])), (x1, .inr (2, [.ref x2, .int (nI nt2)])), (x2, .inl (ca 0, 200, .inl gt2)), (y1, .inr (2, [.ref y2, .int (nI nl2)])), (y2, .inl (ca 0, 20, .inl gl2)), (v1, .inr (2, [.ref v2, .int (nI 4)])), (v2, .inl (ca 0, 4, .inl (seF z2 r2 f2 j2)))])) (va_A [(h, .inr (0, [.ref ha, .int (nI dp)])), (ha, .inl (ca 2, 6, .inr (.inr (.inr (.inr qf))))), (q, .inr (3, [.ref t1, .ref l1, .ref g1])), (t1, .inr (2, [.ref t2, .int (nI nt)])), (t2, .inl (ca 0, 200, .inl gt)), (l1, .inr (2, [.ref l2, .int (nI nl)])), (l2, .inl (ca 0, 20, .inl gl)), (g1, .inr (2, [.ref g2, .int (nI 4)])), (g2, .inl (ca 0, 4, .inl (seF z r f j))), (o, .inr (3, [.ref x1, .ref y1, .ref v1])), (x1, .inr (2, [.ref x2, .int (nI nt2)])), (x2, .inl (ca 0, 200, .inl gt2)), (y1, .inr (2, [.ref y2, .int (nI nl2)])), (y2, .inl (ca 0, 20, .inl gl2)), (v1, .inr (2, [.ref v2, .int (nI 4)])), (v2, .inl (ca 0, 4, .inl (seF z2 r2 f2 j2)))] sz)) 7 233 (va_A [(h, .inr (0, [.ref ha, .int (nI dp)])), (ha, .inl (ca 2, 6, .inr (.inr (.inr (.inr qf))))), (q, .inr (3, [.ref t1, .ref l1, .ref g1])), (t1, .inr (2, [.ref t2, .int (nI nt)])), (t2, .inl (ca 0, 200, .inl gt)), (l1, .inr (2, [.ref l2, .int (nI nl)])), (l2, .inl (ca 0, 20, .inl gl)), (g1, .inr (2, [.ref g2, .int (nI 4)])), (g2, .inl (ca 0, 4, .inl (seF z r f j))), (o, .inr (3, [.ref x1, .ref y1, .ref v1])), (x1, .inr (2, [.ref x2, .int (nI nt2)])), (x2, .inl (ca 0, 200, .inl gt2)), (y1, .inr (2, [.ref y2, .int (nI nl2)])), (y2, .inl (ca 0, 20, .inl gl2)), (v1, .inr (2, [.ref v2, .int (nI 4)])), (v2, .inl (ca 0, 4, .inl (seF z2 r2 f2 j2)))] sz) := by
  refine Met.ofW (cc := cX0_save) (maxL := 3) (ret := none) (by decide) rfl ?_
  intro p e s m args below meth c s₁ B hml hv
  obtain ⟨rfl, hsz, hP, hK, hD0, hZ⟩ := hv
  have hx := B.exec
  have hb := B.bytes
  have hr := B.returns
  have hts := atoms_spec (ws := wsX0_save) B.pre
  have hown : s.vm.findClass RX0 = some m.cls := findClass_of_methodNamed B.named
  have hlocks := B.notSynchronized
  subst hsz
  have hD := hD0.self (sz := s.heap.size)
  generalize hAe : va_A [(h, .inr (0, [.ref ha, .int (nI dp)])), (ha, .inl (ca 2, 6, .inr (.inr (.inr (.inr qf))))), (q, .inr (3, [.ref t1, .ref l1, .ref g1])), (t1, .inr (2, [.ref t2, .int (nI nt)])), (t2, .inl (ca 0, 200, .inl gt)), (l1, .inr (2, [.ref l2, .int (nI nl)])), (l2, .inl (ca 0, 20, .inl gl)), (g1, .inr (2, [.ref g2, .int (nI 4)])), (g2, .inl (ca 0, 4, .inl (seF z r f j))), (o, .inr (3, [.ref x1, .ref y1, .ref v1])), (x1, .inr (2, [.ref x2, .int (nI nt2)])), (x2, .inl (ca 0, 200, .inl gt2)), (y1, .inr (2, [.ref y2, .int (nI nl2)])), (y2, .inl (ca 0, 20, .inl gl2)), (v1, .inr (2, [.ref v2, .int (nI 4)])), (v2, .inl (ca 0, 4, .inl (seF z2 r2 f2 j2)))] s.heap.size = A at hD hZ ⊢
  have hA : ∀ q : Nat, s.heap.size ≤ q → A q := fun q h => by rw [← hAe]; exact Or.inr h
  have hS : va_S A s.heap s.heap [] := va_S.rf
  have hP : va_P D vwCl [(h, .inr (0, [.ref ha, .int (nI dp)])), (ha, .inl (ca 2, 6, .inr (.inr (.inr (.inr qf))))), (q, .inr (3, [.ref t1, .ref l1, .ref g1])), (t1, .inr (2, [.ref t2, .int (nI nt)])), (t2, .inl (ca 0, 200, .inl gt)), (l1, .inr (2, [.ref l2, .int (nI nl)])), (l2, .inl (ca 0, 20, .inl gl)), (g1, .inr (2, [.ref g2, .int (nI 4)])), (g2, .inl (ca 0, 4, .inl (seF z r f j))), (o, .inr (3, [.ref x1, .ref y1, .ref v1])), (x1, .inr (2, [.ref x2, .int (nI nt2)])), (x2, .inl (ca 0, 200, .inl gt2)), (y1, .inr (2, [.ref y2, .int (nI nl2)])), (y2, .inl (ca 0, 20, .inl gl2)), (v1, .inr (2, [.ref v2, .int (nI 4)])), (v2, .inl (ca 0, 4, .inl (seF z2 r2 f2 j2)))] s.heap := hP
  have hKv := hK.1
  have hl := lv_entry ([.ref h, .ref o]) (n := 3) (kk_le rfl)
  rw [lg_entry_eq]
  generalize (lg_sl ([.ref h, .ref o]) ++ List.replicate (3 - (lg_sl ([.ref h, .ref o])).length) Slot.unset).toArray = ls at hl ⊢
  have hl : lv_has ls 3 [(0, .ref h), (1, .ref o)] := hl
  have hiX0 : ∀ w ∈ u_ws RX0 TX0 2, w ∈ wsX0_save := fun w h => by first | exact List.mem_cons_of_mem _ (List.mem_append_right _ h) | exact List.mem_cons_of_mem _ (List.mem_append_left _ (List.mem_append_right _ h)) | exact List.mem_cons_of_mem _ (List.mem_append_left _ (List.mem_append_left _ (List.mem_append_right _ h))) | exact List.mem_cons_of_mem _ (List.mem_append_left _ (List.mem_append_left _ (List.mem_append_left _ (List.mem_append_right _ h)))) | (revert w h; decide +kernel)
  have lk17 : (Cond.fieldLink RX0 17 "StripeSwipes$History" "depth" "I").before _ s = true := hts _ (by decide +kernel)
  have lk11 : (Cond.fieldLink RX0 11 "StripeSwipes$History" "states" "[LStripeSwipes$State;").before _ s = true := hts _ (by decide +kernel)
  refine lv_aload_n hx hb dX0_save_0 rfl (lv_at hl 0 rfl) ?_
  refine va_get (D := D) (ci := 0) (C := RX0) (T := TX0) (N := 2) hx hb hts hiX0 hown hKv hP 0 rfl rfl 1 (by decide) lk17 (fun _ h9 => h9) rfl dX0_save_1 ?_
  refine lv_aload_n hx hb dX0_save_4 rfl (lv_at hl 0 rfl) ?_
  refine va_get (D := D) (ci := 0) (C := RX0) (T := TX0) (N := 2) hx hb hts hiX0 hown hKv hP 0 rfl rfl 0 (by decide) lk11 (fun _ h9 => h9) rfl dX0_save_5 ?_
  refine va_alen (v := nI 6) hx hb hKv hP 1 2 rfl rfl rfl dX0_save_8 ?_
  refine ni_icmp_lt (tgt := 16) (by omega) (by omega) hx hb dX0_save_9 (by decide) (fun c1 => ?_) (fun c1 => ?_)
  · refine lv_aload_n hx hb dX0_save_16 rfl (lv_at hl 0 rfl) ?_
    refine va_get (D := D) (ci := 0) (C := RX0) (T := TX0) (N := 2) hx hb hts hiX0 hown hKv hP 0 rfl rfl 1 (by decide) lk17 (fun _ h9 => h9) rfl dX0_save_17 ?_
    refine ni_if_lt (tgt := 35) (by omega) hx hb dX0_save_20 (by decide) (fun c2 => ?_) (fun c2 => ?_)
    · exact c2.elim
    · refine lv_aload_n hx hb dX0_save_23 rfl (lv_at hl 0 rfl) ?_
      refine va_get (D := D) (ci := 0) (C := RX0) (T := TX0) (N := 2) hx hb hts hiX0 hown hKv hP 0 rfl rfl 1 (by decide) lk17 (fun _ h9 => h9) rfl dX0_save_24 ?_
      refine lv_aload_n hx hb dX0_save_27 rfl (lv_at hl 0 rfl) ?_
      refine va_get (D := D) (ci := 0) (C := RX0) (T := TX0) (N := 2) hx hb hts hiX0 hown hKv hP 0 rfl rfl 0 (by decide) lk11 (fun _ h9 => h9) rfl dX0_save_28 ?_
      refine va_alen (v := nI 6) hx hb hKv hP 1 2 rfl rfl rfl dX0_save_31 ?_
      refine ni_icmp_lt (tgt := 36) (by omega) (by omega) hx hb dX0_save_32 (by decide) (fun c3 => ?_) (fun c3 => ?_)
      · refine lv_aload_n hx hb dX0_save_36 rfl (lv_at hl 0 rfl) ?_
        refine va_get (D := D) (ci := 0) (C := RX0) (T := TX0) (N := 2) hx hb hts hiX0 hown hKv hP 0 rfl rfl 0 (by decide) lk11 (fun _ h9 => h9) rfl dX0_save_37 ?_
        refine lv_aload_n hx hb dX0_save_40 rfl (lv_at hl 0 rfl) ?_
        refine va_get (D := D) (ci := 0) (C := RX0) (T := TX0) (N := 2) hx hb hts hiX0 hown hKv hP 0 rfl rfl 1 (by decide) lk17 (fun _ h9 => h9) rfl dX0_save_41 ?_
        refine my_aldq hx hb hK hP 1 rfl (by omega) (by omega) dX0_save_44 ?_
        rw [show va_rf (qf dp) = Value.ref q from by rw [hq]; rfl]
        refine lv_astore_n (lv' := [(2, .ref q), (0, .ref h), (1, .ref o)]) hx hb dX0_save_45 rfl hl (by decide) rfl (fun ls hl => ?_)
        refine lv_aload_n hx hb dX0_save_46 rfl (lv_at hl 0 rfl) ?_
        refine lv_ifnonnull (tgt := 68) hx hb dX0_save_47 (by decide) ?_
        refine lv_aload_n hx hb dX0_save_68 rfl (lv_at hl 0 rfl) ?_
        refine lv_aload_n hx hb dX0_save_69 rfl (lv_at hl 2 rfl) ?_
        have hPc := hP.sub (ws' := [(q, .inr (3, [.ref t1, .ref l1, .ref g1])), (t1, .inr (2, [.ref t2, .int (nI nt)])), (t2, .inl (ca 0, 200, .inl gt)), (l1, .inr (2, [.ref l2, .int (nI nl)])), (l2, .inl (ca 0, 20, .inl gl)), (g1, .inr (2, [.ref g2, .int (nI 4)])), (g2, .inl (ca 0, 4, .inl (seF z r f j))), (o, .inr (3, [.ref x1, .ref y1, .ref v1])), (x1, .inr (2, [.ref x2, .int (nI nt2)])), (x2, .inl (ca 0, 200, .inl gt2)), (y1, .inr (2, [.ref y2, .int (nI nl2)])), (y2, .inl (ca 0, 20, .inl gl2)), (v1, .inr (2, [.ref v2, .int (nI 4)])), (v2, .inl (ca 0, 4, .inl (seF z2 r2 f2 j2)))]) [2, 3, 4, 5, 6, 7, 8, 9, 10, 11, 12, 13, 14, 15] rfl
        have hDc := hD.sub (ws' := [(q, .inr (3, [.ref t1, .ref l1, .ref g1])), (t1, .inr (2, [.ref t2, .int (nI nt)])), (t2, .inl (ca 0, 200, .inl gt)), (l1, .inr (2, [.ref l2, .int (nI nl)])), (l2, .inl (ca 0, 20, .inl gl)), (g1, .inr (2, [.ref g2, .int (nI 4)])), (g2, .inl (ca 0, 4, .inl (seF z r f j))), (o, .inr (3, [.ref x1, .ref y1, .ref v1])), (x1, .inr (2, [.ref x2, .int (nI nt2)])), (x2, .inl (ca 0, 200, .inl gt2)), (y1, .inr (2, [.ref y2, .int (nI nl2)])), (y2, .inl (ca 0, 20, .inl gl2)), (v1, .inr (2, [.ref v2, .int (nI 4)])), (v2, .inl (ca 0, 4, .inl (seF z2 r2 f2 j2)))]) [2, 3, 4, 5, 6, 7, 8, 9, 10, 11, 12, 13, 14, 15] (by decide) rfl
        have hFc := va_free (wc := [(q, .inr (3, [.ref t1, .ref l1, .ref g1])), (t1, .inr (2, [.ref t2, .int (nI nt)])), (t2, .inl (ca 0, 200, .inl gt)), (l1, .inr (2, [.ref l2, .int (nI nl)])), (l2, .inl (ca 0, 20, .inl gl)), (g1, .inr (2, [.ref g2, .int (nI 4)])), (g2, .inl (ca 0, 4, .inl (seF z r f j))), (o, .inr (3, [.ref x1, .ref y1, .ref v1])), (x1, .inr (2, [.ref x2, .int (nI nt2)])), (x2, .inl (ca 0, 200, .inl gt2)), (y1, .inr (2, [.ref y2, .int (nI nl2)])), (y2, .inl (ca 0, 20, .inl gl2)), (v1, .inr (2, [.ref v2, .int (nI 4)])), (v2, .inl (ca 0, 4, .inl (seF z2 r2 f2 j2)))]) hD hS hA [2, 3, 4, 5, 6, 7, 8, 9, 10, 11, 12, 13, 14, 15] rfl
        refine va_callv (va_runV (As := [.ref o]) (rest := []) ⟨hx, hb, hml, hown, hts⟩ (kX3_copyFrom l D ca s.heap.size q t1 t2 l1 l2 g1 g2 o x1 x2 y1 y2 v1 v2 z r f j nt nl gl gt z2 r2 f2 j2 nt2 nl2 gl2 gt2 (by first | rfl | assumption | omega | trivial | (exfalso; omega)) (by first | rfl | assumption | omega | trivial | (exfalso; omega)) (by first | rfl | assumption | omega | trivial | (exfalso; omega)) (by first | rfl | assumption | omega | trivial | (exfalso; omega))) (cwV 1 hts gX0_save_X3_copyFrom rfl rfl rfl (by decide +kernel) ⟨kk_le rfl, kk_le rfl⟩) (pvM hK hPc (my_D_true hDc) (va_recv hKv hP (ci := 3) (q0 := 2) rfl rfl)) rfl rfl hl.1 rfl (lv_room (kk_le rfl)) dX0_save_70 ⟨kk_le rfl, kk_le rfl⟩) hS (fun q _ h => hFc q h) hFc (fun u t H1 locs ht hvm hwv hBv hz1 hk1 hS => ?_)
        obtain ⟨hP1, hD1⟩ := hBv
        rw [ht] at hP1
        have hP1 : va_P D vwCl [(q, .inr (3, [.ref t1, .ref l1, .ref g1])), (t1, .inr (2, [.ref t2, .int (nI nt2)])), (t2, .inl (ca 0, 200, .inl (cpF gt2 gt nt2))), (l1, .inr (2, [.ref l2, .int (nI nl2)])), (l2, .inl (ca 0, 20, .inl (cpF gl2 gl nl2))), (g1, .inr (2, [.ref g2, .int (nI 4)])), (g2, .inl (ca 0, 4, .inl (seF z2 r2 f2 j2))), (o, .inr (3, [.ref x1, .ref y1, .ref v1])), (x1, .inr (2, [.ref x2, .int (nI nt2)])), (x2, .inl (ca 0, 200, .inl gt2)), (y1, .inr (2, [.ref y2, .int (nI nl2)])), (y2, .inl (ca 0, 20, .inl gl2)), (v1, .inr (2, [.ref v2, .int (nI 4)])), (v2, .inl (ca 0, 4, .inl (seF z2 r2 f2 j2)))] H1 := hP1
        have hD1 : va_D _ [(q, .inr (3, [.ref t1, .ref l1, .ref g1])), (t1, .inr (2, [.ref t2, .int (nI nt2)])), (t2, .inl (ca 0, 200, .inl (cpF gt2 gt nt2))), (l1, .inr (2, [.ref l2, .int (nI nl2)])), (l2, .inl (ca 0, 20, .inl (cpF gl2 gl nl2))), (g1, .inr (2, [.ref g2, .int (nI 4)])), (g2, .inl (ca 0, 4, .inl (seF z2 r2 f2 j2))), (o, .inr (3, [.ref x1, .ref y1, .ref v1])), (x1, .inr (2, [.ref x2, .int (nI nt2)])), (x2, .inl (ca 0, 200, .inl gt2)), (y1, .inr (2, [.ref y2, .int (nI nl2)])), (y2, .inl (ca 0, 20, .inl gl2)), (v1, .inr (2, [.ref v2, .int (nI 4)])), (v2, .inl (ca 0, 4, .inl (seF z2 r2 f2 j2)))] := hD1
        have hw4 := hwv
        obtain ⟨hP, hD⟩ := va_join (wr := [(h, .inr (0, [.ref ha, .int (nI dp)])), (ha, .inl (ca 2, 6, .inr (.inr (.inr (.inr qf)))))]) (w1 := [(q, .inr (3, [.ref t1, .ref l1, .ref g1])), (t1, .inr (2, [.ref t2, .int (nI nt2)])), (t2, .inl (ca 0, 200, .inl (cpF gt2 gt nt2))), (l1, .inr (2, [.ref l2, .int (nI nl2)])), (l2, .inl (ca 0, 20, .inl (cpF gl2 gl nl2))), (g1, .inr (2, [.ref g2, .int (nI 4)])), (g2, .inl (ca 0, 4, .inl (seF z2 r2 f2 j2))), (o, .inr (3, [.ref x1, .ref y1, .ref v1])), (x1, .inr (2, [.ref x2, .int (nI nt2)])), (x2, .inl (ca 0, 200, .inl gt2)), (y1, .inr (2, [.ref y2, .int (nI nl2)])), (y2, .inl (ca 0, 20, .inl gl2)), (v1, .inr (2, [.ref v2, .int (nI 4)])), (v2, .inl (ca 0, 4, .inl (seF z2 r2 f2 j2)))]) hP hD [2, 3, 4, 5, 6, 7, 8, 9, 10, 11, 12, 13, 14, 15] [0, 1] rfl rfl (by decide) (by decide) hk1 hFc hP1 hD1
        generalize H1 = H at hP hS ⊢
        have hP := hP.sub (ws' := [(h, .inr (0, [.ref ha, .int (nI dp)])), (ha, .inl (ca 2, 6, .inr (.inr (.inr (.inr qf))))), (q, .inr (3, [.ref t1, .ref l1, .ref g1])), (t1, .inr (2, [.ref t2, .int (nI nt2)])), (t2, .inl (ca 0, 200, .inl (cpF gt2 gt nt2))), (l1, .inr (2, [.ref l2, .int (nI nl2)])), (l2, .inl (ca 0, 20, .inl (cpF gl2 gl nl2))), (g1, .inr (2, [.ref g2, .int (nI 4)])), (g2, .inl (ca 0, 4, .inl (seF z2 r2 f2 j2))), (o, .inr (3, [.ref x1, .ref y1, .ref v1])), (x1, .inr (2, [.ref x2, .int (nI nt2)])), (x2, .inl (ca 0, 200, .inl gt2)), (y1, .inr (2, [.ref y2, .int (nI nl2)])), (y2, .inl (ca 0, 20, .inl gl2)), (v1, .inr (2, [.ref v2, .int (nI 4)])), (v2, .inl (ca 0, 4, .inl (seF z2 r2 f2 j2)))]) [0, 1, 2, 3, 4, 5, 6, 7, 8, 9, 10, 11, 12, 13, 14, 15] rfl
        have hD := hD.sub (ws' := [(h, .inr (0, [.ref ha, .int (nI dp)])), (ha, .inl (ca 2, 6, .inr (.inr (.inr (.inr qf))))), (q, .inr (3, [.ref t1, .ref l1, .ref g1])), (t1, .inr (2, [.ref t2, .int (nI nt2)])), (t2, .inl (ca 0, 200, .inl (cpF gt2 gt nt2))), (l1, .inr (2, [.ref l2, .int (nI nl2)])), (l2, .inl (ca 0, 20, .inl (cpF gl2 gl nl2))), (g1, .inr (2, [.ref g2, .int (nI 4)])), (g2, .inl (ca 0, 4, .inl (seF z2 r2 f2 j2))), (o, .inr (3, [.ref x1, .ref y1, .ref v1])), (x1, .inr (2, [.ref x2, .int (nI nt2)])), (x2, .inl (ca 0, 200, .inl gt2)), (y1, .inr (2, [.ref y2, .int (nI nl2)])), (y2, .inl (ca 0, 20, .inl gl2)), (v1, .inr (2, [.ref v2, .int (nI 4)])), (v2, .inl (ca 0, 4, .inl (seF z2 r2 f2 j2)))]) [0, 1, 2, 3, 4, 5, 6, 7, 8, 9, 10, 11, 12, 13, 14, 15] (by decide) rfl
        refine lv_aload_n hx hb dX0_save_73 rfl (lv_at hl 1 rfl) ?_
        refine lv_dup hx hb dX0_save_74 rfl ?_
        refine va_get (D := D) (ci := 0) (C := RX0) (T := TX0) (N := 2) hx hb hts hiX0 hown hKv hP 0 rfl rfl 1 (by decide) lk17 (fun _ h9 => h9) rfl dX0_save_75 ?_
        refine lv_iconst (v := nI 1) hx hb dX0_save_78 (by decide) ?_
        refine ni_iadd hx hb dX0_save_79 ?_
        refine va_put (D := D) (ci := 0) (v := .int (nI (dp + 1))) (ty := .int) (C := RX0) (T := TX0) (N := 2) hx hb hts hiX0 tyX0 tyX0_ok nmX0 hown hKv hP hD hS 0 rfl rfl 1 (by decide) lk17 (fun _ h9 => h9) rfl (by decide +kernel) rfl rfl (kk_le rfl) dX0_save_80 (fun H locs hP hD hS => ?_)
        have hP : va_P D vwCl [(h, .inr (0, [.ref ha, .int (nI (dp + 1))])), (ha, .inl (ca 2, 6, .inr (.inr (.inr (.inr qf))))), (q, .inr (3, [.ref t1, .ref l1, .ref g1])), (t1, .inr (2, [.ref t2, .int (nI nt2)])), (t2, .inl (ca 0, 200, .inl (cpF gt2 gt nt2))), (l1, .inr (2, [.ref l2, .int (nI nl2)])), (l2, .inl (ca 0, 20, .inl (cpF gl2 gl nl2))), (g1, .inr (2, [.ref g2, .int (nI 4)])), (g2, .inl (ca 0, 4, .inl (seF z2 r2 f2 j2))), (o, .inr (3, [.ref x1, .ref y1, .ref v1])), (x1, .inr (2, [.ref x2, .int (nI nt2)])), (x2, .inl (ca 0, 200, .inl gt2)), (y1, .inr (2, [.ref y2, .int (nI nl2)])), (y2, .inl (ca 0, 20, .inl gl2)), (v1, .inr (2, [.ref v2, .int (nI 4)])), (v2, .inl (ca 0, 4, .inl (seF z2 r2 f2 j2)))] H := hP
        have hD : va_D A [(h, .inr (0, [.ref ha, .int (nI (dp + 1))])), (ha, .inl (ca 2, 6, .inr (.inr (.inr (.inr qf))))), (q, .inr (3, [.ref t1, .ref l1, .ref g1])), (t1, .inr (2, [.ref t2, .int (nI nt2)])), (t2, .inl (ca 0, 200, .inl (cpF gt2 gt nt2))), (l1, .inr (2, [.ref l2, .int (nI nl2)])), (l2, .inl (ca 0, 20, .inl (cpF gl2 gl nl2))), (g1, .inr (2, [.ref g2, .int (nI 4)])), (g2, .inl (ca 0, 4, .inl (seF z2 r2 f2 j2))), (o, .inr (3, [.ref x1, .ref y1, .ref v1])), (x1, .inr (2, [.ref x2, .int (nI nt2)])), (x2, .inl (ca 0, 200, .inl gt2)), (y1, .inr (2, [.ref y2, .int (nI nl2)])), (y2, .inl (ca 0, 20, .inl gl2)), (v1, .inr (2, [.ref v2, .int (nI 4)])), (v2, .inl (ca 0, 4, .inl (seF z2 r2 f2 j2)))] := hD
        refine W.widen (k := 7) (n := 233) (kk_le rfl) (kk_le rfl) ?_
        exact W.vret hx hb hr (fun t ht hW => ⟨⟨(), rfl, by trivial, by rw [ht]; exact hP, hD⟩, hS.F ht⟩) hS.2.2 dX0_save_83
      · exact absurd c3 (by omega)
  · exact absurd c1 (by omega)
abbrev rm_kX0_save_new : Room := { frames := 3, cells := 7, slots := 233, locals := 82 }
set_option maxHeartbeats 4000000 in
set_option maxRecDepth 100000 in
theorem kX0_save_new (l : Launch) (D : va_G) (ca : Nat → ClassId) (sz : Nat) (h ha : Nat) (qf : Nat → Option Nat) (dp : Nat) (o x1 x2 y1 y2 v1 v2 : Nat) (z2 : Nat) (r2 f2 j2 : Int32) (nt2 nl2 : Nat) (gl2 gt2 : Nat → Int32) (hdp : dp < 6) (hq : qf dp = none) (hnt2 : nt2 ≤ 200) (hnl2 : nl2 ≤ 20) : Met l yX0_save wsX0_save rm_kX0_save_new (pcZ D ca [.ref h, .ref o] [(h, .inr (0, [.ref ha, .int (nI dp)])), (ha, .inl (ca 2, 6, .inr (.inr (.inr (.inr qf))))), (o, .inr (3, [.ref x1, .ref y1, .ref v1])), (x1, .inr (2, [.ref x2, .int (nI nt2)])), (x2, .inl (ca 0, 200, .inl gt2)), (y1, .inr (2, [.ref y2, .int (nI nl2)])), (y2, .inl (ca 0, 20, .inl gl2)), (v1, .inr (2, [.ref v2, .int (nI 4)])), (v2, .inl (ca 0, 4, .inl (seF z2 r2 f2 j2)))] sz) (va_Qv (fun (u : Nat × Nat × Nat × Nat × Nat × Nat × Nat) => True) (qB D (va_A [(h, .inr (0, [.ref ha, .int (nI dp)])), (ha, .inl (ca 2, 6, .inr (.inr (.inr (.inr qf))))), (o, .inr (3, [.ref x1, .ref y1, .ref v1])), (x1, .inr (2, [.ref x2, .int (nI nt2)])), (x2, .inl (ca 0, 200, .inl gt2)), (y1, .inr (2, [.ref y2, .int (nI nl2)])), (y2, .inl (ca 0, 20, .inl gl2)), (v1, .inr (2, [.ref v2, .int (nI 4)])), (v2, .inl (ca 0, 4, .inl (seF z2 r2 f2 j2)))] sz) (fun u : Nat × Nat × Nat × Nat × Nat × Nat × Nat => [(h, .inr (0, [.ref ha, .int (nI (dp + 1))])), (ha, .inl (ca 2, 6, .inr (.inr (.inr (.inr (va_up qf dp (some u.1))))))), (o, .inr (3, [.ref x1, .ref y1, .ref v1])), (x1, .inr (2, [.ref x2, .int (nI nt2)])), (x2, .inl (ca 0, 200, .inl gt2)), (y1, .inr (2, [.ref y2, .int (nI nl2)])), (y2, .inl (ca 0, 20, .inl gl2)), (v1, .inr (2, [.ref v2, .int (nI 4)])), (v2, .inl (ca 0, 4, .inl (seF z2 r2 f2 j2))), (u.1, .inr (3, [.ref u.2.1, .ref u.2.2.2.1, .ref u.2.2.2.2.2.1])), (u.2.1, .inr (2, [.ref u.2.2.1, .int (nI nt2)])), (u.2.2.1, .inl (ca 0, 200, .inl (cpF gt2 (fun _ => 0) nt2))), (u.2.2.2.1, .inr (2, [.ref u.2.2.2.2.1, .int (nI nl2)])), (u.2.2.2.2.1, .inl (ca 0, 20, .inl (cpF gl2 (fun _ => 0) nl2))), (u.2.2.2.2.2.1, .inr (2, [.ref u.2.2.2.2.2.2, .int (nI 4)])), (u.2.2.2.2.2.2, .inl (ca 0, 4, .inl (seF z2 r2 f2 j2)))])) (va_A [(h, .inr (0, [.ref ha, .int (nI dp)])), (ha, .inl (ca 2, 6, .inr (.inr (.inr (.inr qf))))), (o, .inr (3, [.ref x1, .ref y1, .ref v1])), (x1, .inr (2, [.ref x2, .int (nI nt2)])), (x2, .inl (ca 0, 200, .inl gt2)), (y1, .inr (2, [.ref y2, .int (nI nl2)])), (y2, .inl (ca 0, 20, .inl gl2)), (v1, .inr (2, [.ref v2, .int (nI 4)])), (v2, .inl (ca 0, 4, .inl (seF z2 r2 f2 j2)))] sz)) 7 233 (va_A [(h, .inr (0, [.ref ha, .int (nI dp)])), (ha, .inl (ca 2, 6, .inr (.inr (.inr (.inr qf))))), (o, .inr (3, [.ref x1, .ref y1, .ref v1])), (x1, .inr (2, [.ref x2, .int (nI nt2)])), (x2, .inl (ca 0, 200, .inl gt2)), (y1, .inr (2, [.ref y2, .int (nI nl2)])), (y2, .inl (ca 0, 20, .inl gl2)), (v1, .inr (2, [.ref v2, .int (nI 4)])), (v2, .inl (ca 0, 4, .inl (seF z2 r2 f2 j2)))] sz) := by
  refine Met.ofW (cc := cX0_save) (maxL := 3) (ret := none) (by decide) rfl ?_
  intro p e s m args below meth c s₁ B hml hv
  obtain ⟨rfl, hsz, hP, hK, hD0, hZ⟩ := hv
  have hx := B.exec
  have hb := B.bytes
  have hr := B.returns
  have hts := atoms_spec (ws := wsX0_save) B.pre
  have hown : s.vm.findClass RX0 = some m.cls := findClass_of_methodNamed B.named
  have hlocks := B.notSynchronized
  subst hsz
  have hD := hD0.self (sz := s.heap.size)
  generalize hAe : va_A [(h, .inr (0, [.ref ha, .int (nI dp)])), (ha, .inl (ca 2, 6, .inr (.inr (.inr (.inr qf))))), (o, .inr (3, [.ref x1, .ref y1, .ref v1])), (x1, .inr (2, [.ref x2, .int (nI nt2)])), (x2, .inl (ca 0, 200, .inl gt2)), (y1, .inr (2, [.ref y2, .int (nI nl2)])), (y2, .inl (ca 0, 20, .inl gl2)), (v1, .inr (2, [.ref v2, .int (nI 4)])), (v2, .inl (ca 0, 4, .inl (seF z2 r2 f2 j2)))] s.heap.size = A at hD hZ ⊢
  have hA : ∀ q : Nat, s.heap.size ≤ q → A q := fun q h => by rw [← hAe]; exact Or.inr h
  have hS : va_S A s.heap s.heap [] := va_S.rf
  have hP : va_P D vwCl [(h, .inr (0, [.ref ha, .int (nI dp)])), (ha, .inl (ca 2, 6, .inr (.inr (.inr (.inr qf))))), (o, .inr (3, [.ref x1, .ref y1, .ref v1])), (x1, .inr (2, [.ref x2, .int (nI nt2)])), (x2, .inl (ca 0, 200, .inl gt2)), (y1, .inr (2, [.ref y2, .int (nI nl2)])), (y2, .inl (ca 0, 20, .inl gl2)), (v1, .inr (2, [.ref v2, .int (nI 4)])), (v2, .inl (ca 0, 4, .inl (seF z2 r2 f2 j2)))] s.heap := hP
  have hKv := hK.1
  have hl := lv_entry ([.ref h, .ref o]) (n := 3) (kk_le rfl)
  rw [lg_entry_eq]
  generalize (lg_sl ([.ref h, .ref o]) ++ List.replicate (3 - (lg_sl ([.ref h, .ref o])).length) Slot.unset).toArray = ls at hl ⊢
  have hl : lv_has ls 3 [(0, .ref h), (1, .ref o)] := hl
  have hiX0 : ∀ w ∈ u_ws RX0 TX0 2, w ∈ wsX0_save := fun w h => by first | exact List.mem_cons_of_mem _ (List.mem_append_right _ h) | exact List.mem_cons_of_mem _ (List.mem_append_left _ (List.mem_append_right _ h)) | exact List.mem_cons_of_mem _ (List.mem_append_left _ (List.mem_append_left _ (List.mem_append_right _ h))) | exact List.mem_cons_of_mem _ (List.mem_append_left _ (List.mem_append_left _ (List.mem_append_left _ (List.mem_append_right _ h)))) | (revert w h; decide +kernel)
  have lk17 : (Cond.fieldLink RX0 17 "StripeSwipes$History" "depth" "I").before _ s = true := hts _ (by decide +kernel)
  have lk11 : (Cond.fieldLink RX0 11 "StripeSwipes$History" "states" "[LStripeSwipes$State;").before _ s = true := hts _ (by decide +kernel)
  have hiX3 : ∀ w ∈ u_ws RX3 TX3 3, w ∈ wsX0_save := fun w h => by first | exact List.mem_cons_of_mem _ (List.mem_append_right _ h) | exact List.mem_cons_of_mem _ (List.mem_append_left _ (List.mem_append_right _ h)) | exact List.mem_cons_of_mem _ (List.mem_append_left _ (List.mem_append_left _ (List.mem_append_right _ h))) | exact List.mem_cons_of_mem _ (List.mem_append_left _ (List.mem_append_left _ (List.mem_append_left _ (List.mem_append_right _ h)))) | (revert w h; decide +kernel)
  refine lv_aload_n hx hb dX0_save_0 rfl (lv_at hl 0 rfl) ?_
  refine va_get (D := D) (ci := 0) (C := RX0) (T := TX0) (N := 2) hx hb hts hiX0 hown hKv hP 0 rfl rfl 1 (by decide) lk17 (fun _ h9 => h9) rfl dX0_save_1 ?_
  refine lv_aload_n hx hb dX0_save_4 rfl (lv_at hl 0 rfl) ?_
  refine va_get (D := D) (ci := 0) (C := RX0) (T := TX0) (N := 2) hx hb hts hiX0 hown hKv hP 0 rfl rfl 0 (by decide) lk11 (fun _ h9 => h9) rfl dX0_save_5 ?_
  refine va_alen (v := nI 6) hx hb hKv hP 1 2 rfl rfl rfl dX0_save_8 ?_
  refine ni_icmp_lt (tgt := 16) (by omega) (by omega) hx hb dX0_save_9 (by decide) (fun c1 => ?_) (fun c1 => ?_)
  · refine lv_aload_n hx hb dX0_save_16 rfl (lv_at hl 0 rfl) ?_
    refine va_get (D := D) (ci := 0) (C := RX0) (T := TX0) (N := 2) hx hb hts hiX0 hown hKv hP 0 rfl rfl 1 (by decide) lk17 (fun _ h9 => h9) rfl dX0_save_17 ?_
    refine ni_if_lt (tgt := 35) (by omega) hx hb dX0_save_20 (by decide) (fun c2 => ?_) (fun c2 => ?_)
    · exact c2.elim
    · refine lv_aload_n hx hb dX0_save_23 rfl (lv_at hl 0 rfl) ?_
      refine va_get (D := D) (ci := 0) (C := RX0) (T := TX0) (N := 2) hx hb hts hiX0 hown hKv hP 0 rfl rfl 1 (by decide) lk17 (fun _ h9 => h9) rfl dX0_save_24 ?_
      refine lv_aload_n hx hb dX0_save_27 rfl (lv_at hl 0 rfl) ?_
      refine va_get (D := D) (ci := 0) (C := RX0) (T := TX0) (N := 2) hx hb hts hiX0 hown hKv hP 0 rfl rfl 0 (by decide) lk11 (fun _ h9 => h9) rfl dX0_save_28 ?_
      refine va_alen (v := nI 6) hx hb hKv hP 1 2 rfl rfl rfl dX0_save_31 ?_
      refine ni_icmp_lt (tgt := 36) (by omega) (by omega) hx hb dX0_save_32 (by decide) (fun c3 => ?_) (fun c3 => ?_)
      · refine lv_aload_n hx hb dX0_save_36 rfl (lv_at hl 0 rfl) ?_
        refine va_get (D := D) (ci := 0) (C := RX0) (T := TX0) (N := 2) hx hb hts hiX0 hown hKv hP 0 rfl rfl 0 (by decide) lk11 (fun _ h9 => h9) rfl dX0_save_37 ?_
        refine lv_aload_n hx hb dX0_save_40 rfl (lv_at hl 0 rfl) ?_
        refine va_get (D := D) (ci := 0) (C := RX0) (T := TX0) (N := 2) hx hb hts hiX0 hown hKv hP 0 rfl rfl 1 (by decide) lk17 (fun _ h9 => h9) rfl dX0_save_41 ?_
        refine my_aldq hx hb hK hP 1 rfl (by omega) (by omega) dX0_save_44 ?_
        rw [show va_rf (qf dp) = Value.null from by rw [hq]; rfl]
        refine lv_astore_nN (lv' := [(2, .null), (0, .ref h), (1, .ref o)]) hx hb dX0_save_45 rfl hl (by decide) rfl (fun ls hl => ?_)
        refine lv_aload_nN hx hb dX0_save_46 rfl (lv_at hl 0 rfl) ?_
        refine lv_ifnonnullN hx hb dX0_save_47 ?_
        refine va_new (ci := 3) (fs := [.null, .null, .null]) (C := RX3) (T := TX3) (N := 3) hx hb hts hiX3 tyX3 tyX3_ok hown (hts (.classLink RX0 9 RX3) (by decide +kernel)) (hts (.instantiable RX3 3) (by decide +kernel)) (hts (.initialized RX3) (by decide +kernel)) hKv hP hD hS hA rfl (fun j9 hj9 => by rcases (show j9 = 0 ∨ j9 = 1 ∨ j9 = 2 by omega) with rfl | rfl | rfl <;> rfl) (kk_le rfl) (kk_le rfl) dX0_save_50 (fun qn4 H hP hD hS => ?_)
        have hP : va_P D vwCl [(h, .inr (0, [.ref ha, .int (nI dp)])), (ha, .inl (ca 2, 6, .inr (.inr (.inr (.inr qf))))), (o, .inr (3, [.ref x1, .ref y1, .ref v1])), (x1, .inr (2, [.ref x2, .int (nI nt2)])), (x2, .inl (ca 0, 200, .inl gt2)), (y1, .inr (2, [.ref y2, .int (nI nl2)])), (y2, .inl (ca 0, 20, .inl gl2)), (v1, .inr (2, [.ref v2, .int (nI 4)])), (v2, .inl (ca 0, 4, .inl (seF z2 r2 f2 j2))), (qn4, .inr (3, [.null, .null, .null]))] H := hP
        have hD : va_D A [(h, .inr (0, [.ref ha, .int (nI dp)])), (ha, .inl (ca 2, 6, .inr (.inr (.inr (.inr qf))))), (o, .inr (3, [.ref x1, .ref y1, .ref v1])), (x1, .inr (2, [.ref x2, .int (nI nt2)])), (x2, .inl (ca 0, 200, .inl gt2)), (y1, .inr (2, [.ref y2, .int (nI nl2)])), (y2, .inl (ca 0, 20, .inl gl2)), (v1, .inr (2, [.ref v2, .int (nI 4)])), (v2, .inl (ca 0, 4, .inl (seF z2 r2 f2 j2))), (qn4, .inr (3, [.null, .null, .null]))] := hD
        refine lv_dup hx hb dX0_save_53 rfl ?_
        have hPc := hP.sub (ws' := [(qn4, .inr (3, [.null, .null, .null]))]) [9] rfl
        have hDc := hD.sub (ws' := [(qn4, .inr (3, [.null, .null, .null]))]) [9] (by decide) rfl
        have hFc := va_free (wc := [(qn4, .inr (3, [.null, .null, .null]))]) hD hS hA [9] rfl
        refine va_callv (va_runI (As := []) (rest := [.ref qn4]) ⟨hx, hb, hml, hown, hts⟩ (kX3_init l D ca H.size qn4) (cwI 0 hts gX0_save_X3_init rfl rfl rfl (hts (.initialized RX3) (by decide +kernel)) (hts (.methodLink RX0 24 yX3_init) (by decide +kernel)) (hts (.instanceMethod yX3_init) (by decide +kernel)) rfl (by decide +kernel) ⟨kk_le rfl, kk_le rfl⟩) (psZ hK hPc (my_D_true hDc) (hZ.at hS hFc)) rfl rfl hl.1 rfl (lv_room (kk_le rfl)) dX0_save_54 ⟨kk_le rfl, kk_le rfl⟩) hS (fun q _ h => hFc q h) hFc (fun u t H1 locs ht hvm hwv hBv hz1 hk1 hS => ?_)
        obtain ⟨hP1, hD1⟩ := hBv
        rw [ht] at hP1
        obtain ⟨u5_0, u5_1, u5_2, u5_3, u5_4, u5_5⟩ := u
        have hP1 : va_P D vwCl [(qn4, .inr (3, [.ref u5_0, .ref u5_2, .ref u5_4])), (u5_0, .inr (2, [.ref u5_1, .int (nI 0)])), (u5_1, .inl (ca 0, 200, .inl (fun _ => 0))), (u5_2, .inr (2, [.ref u5_3, .int (nI 0)])), (u5_3, .inl (ca 0, 20, .inl (fun _ => 0))), (u5_4, .inr (2, [.ref u5_5, .int (nI 4)])), (u5_5, .inl (ca 0, 4, .inl firstF))] H1 := hP1
        have hD1 : va_D _ [(qn4, .inr (3, [.ref u5_0, .ref u5_2, .ref u5_4])), (u5_0, .inr (2, [.ref u5_1, .int (nI 0)])), (u5_1, .inl (ca 0, 200, .inl (fun _ => 0))), (u5_2, .inr (2, [.ref u5_3, .int (nI 0)])), (u5_3, .inl (ca 0, 20, .inl (fun _ => 0))), (u5_4, .inr (2, [.ref u5_5, .int (nI 4)])), (u5_5, .inl (ca 0, 4, .inl firstF))] := hD1
        have hw5 := hwv
        obtain ⟨hP, hD⟩ := va_join (wr := [(h, .inr (0, [.ref ha, .int (nI dp)])), (ha, .inl (ca 2, 6, .inr (.inr (.inr (.inr qf))))), (o, .inr (3, [.ref x1, .ref y1, .ref v1])), (x1, .inr (2, [.ref x2, .int (nI nt2)])), (x2, .inl (ca 0, 200, .inl gt2)), (y1, .inr (2, [.ref y2, .int (nI nl2)])), (y2, .inl (ca 0, 20, .inl gl2)), (v1, .inr (2, [.ref v2, .int (nI 4)])), (v2, .inl (ca 0, 4, .inl (seF z2 r2 f2 j2)))]) (w1 := [(qn4, .inr (3, [.ref u5_0, .ref u5_2, .ref u5_4])), (u5_0, .inr (2, [.ref u5_1, .int (nI 0)])), (u5_1, .inl (ca 0, 200, .inl (fun _ => 0))), (u5_2, .inr (2, [.ref u5_3, .int (nI 0)])), (u5_3, .inl (ca 0, 20, .inl (fun _ => 0))), (u5_4, .inr (2, [.ref u5_5, .int (nI 4)])), (u5_5, .inl (ca 0, 4, .inl firstF))]) hP hD [9] [0, 1, 2, 3, 4, 5, 6, 7, 8] rfl rfl (by decide) (by decide) hk1 hFc hP1 hD1
        generalize H1 = H at hP hS ⊢
        have hP := hP.sub (ws' := [(h, .inr (0, [.ref ha, .int (nI dp)])), (ha, .inl (ca 2, 6, .inr (.inr (.inr (.inr qf))))), (o, .inr (3, [.ref x1, .ref y1, .ref v1])), (x1, .inr (2, [.ref x2, .int (nI nt2)])), (x2, .inl (ca 0, 200, .inl gt2)), (y1, .inr (2, [.ref y2, .int (nI nl2)])), (y2, .inl (ca 0, 20, .inl gl2)), (v1, .inr (2, [.ref v2, .int (nI 4)])), (v2, .inl (ca 0, 4, .inl (seF z2 r2 f2 j2))), (qn4, .inr (3, [.ref u5_0, .ref u5_2, .ref u5_4])), (u5_0, .inr (2, [.ref u5_1, .int (nI 0)])), (u5_1, .inl (ca 0, 200, .inl (fun _ => 0))), (u5_2, .inr (2, [.ref u5_3, .int (nI 0)])), (u5_3, .inl (ca 0, 20, .inl (fun _ => 0))), (u5_4, .inr (2, [.ref u5_5, .int (nI 4)])), (u5_5, .inl (ca 0, 4, .inl firstF))]) [0, 1, 2, 3, 4, 5, 6, 7, 8, 9, 10, 11, 12, 13, 14, 15] rfl
        have hD := hD.sub (ws' := [(h, .inr (0, [.ref ha, .int (nI dp)])), (ha, .inl (ca 2, 6, .inr (.inr (.inr (.inr qf))))), (o, .inr (3, [.ref x1, .ref y1, .ref v1])), (x1, .inr (2, [.ref x2, .int (nI nt2)])), (x2, .inl (ca 0, 200, .inl gt2)), (y1, .inr (2, [.ref y2, .int (nI nl2)])), (y2, .inl (ca 0, 20, .inl gl2)), (v1, .inr (2, [.ref v2, .int (nI 4)])), (v2, .inl (ca 0, 4, .inl (seF z2 r2 f2 j2))), (qn4, .inr (3, [.ref u5_0, .ref u5_2, .ref u5_4])), (u5_0, .inr (2, [.ref u5_1, .int (nI 0)])), (u5_1, .inl (ca 0, 200, .inl (fun _ => 0))), (u5_2, .inr (2, [.ref u5_3, .int (nI 0)])), (u5_3, .inl (ca 0, 20, .inl (fun _ => 0))), (u5_4, .inr (2, [.ref u5_5, .int (nI 4)])), (u5_5, .inl (ca 0, 4, .inl firstF))]) [0, 1, 2, 3, 4, 5, 6, 7, 8, 9, 10, 11, 12, 13, 14, 15] (by decide) rfl
        have e7 : (firstF : Nat → Int32) = seF 10 (nI 75) (nI 50) (nI 0) := rfl
        have hP : va_P D vwCl [(h, .inr (0, [.ref ha, .int (nI dp)])), (ha, .inl (ca 2, 6, .inr (.inr (.inr (.inr qf))))), (o, .inr (3, [.ref x1, .ref y1, .ref v1])), (x1, .inr (2, [.ref x2, .int (nI nt2)])), (x2, .inl (ca 0, 200, .inl gt2)), (y1, .inr (2, [.ref y2, .int (nI nl2)])), (y2, .inl (ca 0, 20, .inl gl2)), (v1, .inr (2, [.ref v2, .int (nI 4)])), (v2, .inl (ca 0, 4, .inl (seF z2 r2 f2 j2))), (qn4, .inr (3, [.ref u5_0, .ref u5_2, .ref u5_4])), (u5_0, .inr (2, [.ref u5_1, .int (nI 0)])), (u5_1, .inl (ca 0, 200, .inl (fun _ => 0))), (u5_2, .inr (2, [.ref u5_3, .int (nI 0)])), (u5_3, .inl (ca 0, 20, .inl (fun _ => 0))), (u5_4, .inr (2, [.ref u5_5, .int (nI 4)])), (u5_5, .inl (ca 0, 4, .inl (seF 10 (nI 75) (nI 50) (nI 0))))] H := Eq.mp (congrArg (fun z9 : Nat → Int32 => va_P D vwCl [(h, .inr (0, [.ref ha, .int (nI dp)])), (ha, .inl (ca 2, 6, .inr (.inr (.inr (.inr qf))))), (o, .inr (3, [.ref x1, .ref y1, .ref v1])), (x1, .inr (2, [.ref x2, .int (nI nt2)])), (x2, .inl (ca 0, 200, .inl gt2)), (y1, .inr (2, [.ref y2, .int (nI nl2)])), (y2, .inl (ca 0, 20, .inl gl2)), (v1, .inr (2, [.ref v2, .int (nI 4)])), (v2, .inl (ca 0, 4, .inl (seF z2 r2 f2 j2))), (qn4, .inr (3, [.ref u5_0, .ref u5_2, .ref u5_4])), (u5_0, .inr (2, [.ref u5_1, .int (nI 0)])), (u5_1, .inl (ca 0, 200, .inl (fun _ => 0))), (u5_2, .inr (2, [.ref u5_3, .int (nI 0)])), (u5_3, .inl (ca 0, 20, .inl (fun _ => 0))), (u5_4, .inr (2, [.ref u5_5, .int (nI 4)])), (u5_5, .inl (ca 0, 4, .inl z9))] H) e7) hP
        have hD : va_D A [(h, .inr (0, [.ref ha, .int (nI dp)])), (ha, .inl (ca 2, 6, .inr (.inr (.inr (.inr qf))))), (o, .inr (3, [.ref x1, .ref y1, .ref v1])), (x1, .inr (2, [.ref x2, .int (nI nt2)])), (x2, .inl (ca 0, 200, .inl gt2)), (y1, .inr (2, [.ref y2, .int (nI nl2)])), (y2, .inl (ca 0, 20, .inl gl2)), (v1, .inr (2, [.ref v2, .int (nI 4)])), (v2, .inl (ca 0, 4, .inl (seF z2 r2 f2 j2))), (qn4, .inr (3, [.ref u5_0, .ref u5_2, .ref u5_4])), (u5_0, .inr (2, [.ref u5_1, .int (nI 0)])), (u5_1, .inl (ca 0, 200, .inl (fun _ => 0))), (u5_2, .inr (2, [.ref u5_3, .int (nI 0)])), (u5_3, .inl (ca 0, 20, .inl (fun _ => 0))), (u5_4, .inr (2, [.ref u5_5, .int (nI 4)])), (u5_5, .inl (ca 0, 4, .inl (seF 10 (nI 75) (nI 50) (nI 0))))] := Eq.mp (congrArg (fun z9 : Nat → Int32 => va_D A [(h, .inr (0, [.ref ha, .int (nI dp)])), (ha, .inl (ca 2, 6, .inr (.inr (.inr (.inr qf))))), (o, .inr (3, [.ref x1, .ref y1, .ref v1])), (x1, .inr (2, [.ref x2, .int (nI nt2)])), (x2, .inl (ca 0, 200, .inl gt2)), (y1, .inr (2, [.ref y2, .int (nI nl2)])), (y2, .inl (ca 0, 20, .inl gl2)), (v1, .inr (2, [.ref v2, .int (nI 4)])), (v2, .inl (ca 0, 4, .inl (seF z2 r2 f2 j2))), (qn4, .inr (3, [.ref u5_0, .ref u5_2, .ref u5_4])), (u5_0, .inr (2, [.ref u5_1, .int (nI 0)])), (u5_1, .inl (ca 0, 200, .inl (fun _ => 0))), (u5_2, .inr (2, [.ref u5_3, .int (nI 0)])), (u5_3, .inl (ca 0, 20, .inl (fun _ => 0))), (u5_4, .inr (2, [.ref u5_5, .int (nI 4)])), (u5_5, .inl (ca 0, 4, .inl z9))]) e7) hD
        refine lv_astore_n (lv' := [(2, .ref qn4), (0, .ref h), (1, .ref o)]) hx hb dX0_save_57 rfl hl (by decide) rfl (fun ls hl => ?_)
        refine lv_aload_n hx hb dX0_save_58 rfl (lv_at hl 1 rfl) ?_
        refine va_get (D := D) (ci := 0) (C := RX0) (T := TX0) (N := 2) hx hb hts hiX0 hown hKv hP 0 rfl rfl 0 (by decide) lk11 (fun _ h9 => h9) rfl dX0_save_59 ?_
        refine lv_aload_n hx hb dX0_save_62 rfl (lv_at hl 1 rfl) ?_
        refine va_get (D := D) (ci := 0) (C := RX0) (T := TX0) (N := 2) hx hb hts hiX0 hown hKv hP 0 rfl rfl 1 (by decide) lk17 (fun _ h9 => h9) rfl dX0_save_63 ?_
        refine lv_aload_n hx hb dX0_save_66 rfl (lv_at hl 0 rfl) ?_
        refine va_astq hx hb hKv hP hD hS 1 2 9 3 rfl rfl rfl rfl (vp_in_nI (by omega) (by omega)) dX0_save_67 (fun H locs hP hD hS => ?_)
        rw [nI_clamp (by omega)] at hP hD
        have hP : va_P D vwCl [(h, .inr (0, [.ref ha, .int (nI dp)])), (ha, .inl (ca 2, 6, .inr (.inr (.inr (.inr (va_up qf dp (some qn4))))))), (o, .inr (3, [.ref x1, .ref y1, .ref v1])), (x1, .inr (2, [.ref x2, .int (nI nt2)])), (x2, .inl (ca 0, 200, .inl gt2)), (y1, .inr (2, [.ref y2, .int (nI nl2)])), (y2, .inl (ca 0, 20, .inl gl2)), (v1, .inr (2, [.ref v2, .int (nI 4)])), (v2, .inl (ca 0, 4, .inl (seF z2 r2 f2 j2))), (qn4, .inr (3, [.ref u5_0, .ref u5_2, .ref u5_4])), (u5_0, .inr (2, [.ref u5_1, .int (nI 0)])), (u5_1, .inl (ca 0, 200, .inl (fun _ => 0))), (u5_2, .inr (2, [.ref u5_3, .int (nI 0)])), (u5_3, .inl (ca 0, 20, .inl (fun _ => 0))), (u5_4, .inr (2, [.ref u5_5, .int (nI 4)])), (u5_5, .inl (ca 0, 4, .inl (seF 10 (nI 75) (nI 50) (nI 0))))] H := hP
        have hD : va_D A [(h, .inr (0, [.ref ha, .int (nI dp)])), (ha, .inl (ca 2, 6, .inr (.inr (.inr (.inr (va_up qf dp (some qn4))))))), (o, .inr (3, [.ref x1, .ref y1, .ref v1])), (x1, .inr (2, [.ref x2, .int (nI nt2)])), (x2, .inl (ca 0, 200, .inl gt2)), (y1, .inr (2, [.ref y2, .int (nI nl2)])), (y2, .inl (ca 0, 20, .inl gl2)), (v1, .inr (2, [.ref v2, .int (nI 4)])), (v2, .inl (ca 0, 4, .inl (seF z2 r2 f2 j2))), (qn4, .inr (3, [.ref u5_0, .ref u5_2, .ref u5_4])), (u5_0, .inr (2, [.ref u5_1, .int (nI 0)])), (u5_1, .inl (ca 0, 200, .inl (fun _ => 0))), (u5_2, .inr (2, [.ref u5_3, .int (nI 0)])), (u5_3, .inl (ca 0, 20, .inl (fun _ => 0))), (u5_4, .inr (2, [.ref u5_5, .int (nI 4)])), (u5_5, .inl (ca 0, 4, .inl (seF 10 (nI 75) (nI 50) (nI 0))))] := hD
        refine lv_aload_n hx hb dX0_save_68 rfl (lv_at hl 0 rfl) ?_
        refine lv_aload_n hx hb dX0_save_69 rfl (lv_at hl 2 rfl) ?_
        have hPc := hP.sub (ws' := [(qn4, .inr (3, [.ref u5_0, .ref u5_2, .ref u5_4])), (u5_0, .inr (2, [.ref u5_1, .int (nI 0)])), (u5_1, .inl (ca 0, 200, .inl (fun _ => 0))), (u5_2, .inr (2, [.ref u5_3, .int (nI 0)])), (u5_3, .inl (ca 0, 20, .inl (fun _ => 0))), (u5_4, .inr (2, [.ref u5_5, .int (nI 4)])), (u5_5, .inl (ca 0, 4, .inl (seF 10 (nI 75) (nI 50) (nI 0)))), (o, .inr (3, [.ref x1, .ref y1, .ref v1])), (x1, .inr (2, [.ref x2, .int (nI nt2)])), (x2, .inl (ca 0, 200, .inl gt2)), (y1, .inr (2, [.ref y2, .int (nI nl2)])), (y2, .inl (ca 0, 20, .inl gl2)), (v1, .inr (2, [.ref v2, .int (nI 4)])), (v2, .inl (ca 0, 4, .inl (seF z2 r2 f2 j2)))]) [9, 10, 11, 12, 13, 14, 15, 2, 3, 4, 5, 6, 7, 8] rfl
        have hDc := hD.sub (ws' := [(qn4, .inr (3, [.ref u5_0, .ref u5_2, .ref u5_4])), (u5_0, .inr (2, [.ref u5_1, .int (nI 0)])), (u5_1, .inl (ca 0, 200, .inl (fun _ => 0))), (u5_2, .inr (2, [.ref u5_3, .int (nI 0)])), (u5_3, .inl (ca 0, 20, .inl (fun _ => 0))), (u5_4, .inr (2, [.ref u5_5, .int (nI 4)])), (u5_5, .inl (ca 0, 4, .inl (seF 10 (nI 75) (nI 50) (nI 0)))), (o, .inr (3, [.ref x1, .ref y1, .ref v1])), (x1, .inr (2, [.ref x2, .int (nI nt2)])), (x2, .inl (ca 0, 200, .inl gt2)), (y1, .inr (2, [.ref y2, .int (nI nl2)])), (y2, .inl (ca 0, 20, .inl gl2)), (v1, .inr (2, [.ref v2, .int (nI 4)])), (v2, .inl (ca 0, 4, .inl (seF z2 r2 f2 j2)))]) [9, 10, 11, 12, 13, 14, 15, 2, 3, 4, 5, 6, 7, 8] (by decide) rfl
        have hFc := va_free (wc := [(qn4, .inr (3, [.ref u5_0, .ref u5_2, .ref u5_4])), (u5_0, .inr (2, [.ref u5_1, .int (nI 0)])), (u5_1, .inl (ca 0, 200, .inl (fun _ => 0))), (u5_2, .inr (2, [.ref u5_3, .int (nI 0)])), (u5_3, .inl (ca 0, 20, .inl (fun _ => 0))), (u5_4, .inr (2, [.ref u5_5, .int (nI 4)])), (u5_5, .inl (ca 0, 4, .inl (seF 10 (nI 75) (nI 50) (nI 0)))), (o, .inr (3, [.ref x1, .ref y1, .ref v1])), (x1, .inr (2, [.ref x2, .int (nI nt2)])), (x2, .inl (ca 0, 200, .inl gt2)), (y1, .inr (2, [.ref y2, .int (nI nl2)])), (y2, .inl (ca 0, 20, .inl gl2)), (v1, .inr (2, [.ref v2, .int (nI 4)])), (v2, .inl (ca 0, 4, .inl (seF z2 r2 f2 j2)))]) hD hS hA [9, 10, 11, 12, 13, 14, 15, 2, 3, 4, 5, 6, 7, 8] rfl
        refine va_callv (va_runV (As := [.ref o]) (rest := []) ⟨hx, hb, hml, hown, hts⟩ (kX3_copyFrom l D ca H.size qn4 u5_0 u5_1 u5_2 u5_3 u5_4 u5_5 o x1 x2 y1 y2 v1 v2 10 (nI 75) (nI 50) (nI 0) 0 0 (fun _ => 0) (fun _ => 0) z2 r2 f2 j2 nt2 nl2 gl2 gt2 (by first | rfl | assumption | omega | trivial | (exfalso; omega)) (by first | rfl | assumption | omega | trivial | (exfalso; omega)) (by first | rfl | assumption | omega | trivial | (exfalso; omega)) (by first | rfl | assumption | omega | trivial | (exfalso; omega))) (cwV 1 hts gX0_save_X3_copyFrom rfl rfl rfl (by decide +kernel) ⟨kk_le rfl, kk_le rfl⟩) (pvM hK hPc (my_D_true hDc) (va_recv hKv hP (ci := 3) (q0 := 9) rfl rfl)) rfl rfl hl.1 rfl (lv_room (kk_le rfl)) dX0_save_70 ⟨kk_le rfl, kk_le rfl⟩) hS (fun q _ h => hFc q h) hFc (fun u t H1 locs ht hvm hwv hBv hz1 hk1 hS => ?_)
        obtain ⟨hP1, hD1⟩ := hBv
        rw [ht] at hP1
        have hP1 : va_P D vwCl [(qn4, .inr (3, [.ref u5_0, .ref u5_2, .ref u5_4])), (u5_0, .inr (2, [.ref u5_1, .int (nI nt2)])), (u5_1, .inl (ca 0, 200, .inl (cpF gt2 (fun _ => 0) nt2))), (u5_2, .inr (2, [.ref u5_3, .int (nI nl2)])), (u5_3, .inl (ca 0, 20, .inl (cpF gl2 (fun _ => 0) nl2))), (u5_4, .inr (2, [.ref u5_5, .int (nI 4)])), (u5_5, .inl (ca 0, 4, .inl (seF z2 r2 f2 j2))), (o, .inr (3, [.ref x1, .ref y1, .ref v1])), (x1, .inr (2, [.ref x2, .int (nI nt2)])), (x2, .inl (ca 0, 200, .inl gt2)), (y1, .inr (2, [.ref y2, .int (nI nl2)])), (y2, .inl (ca 0, 20, .inl gl2)), (v1, .inr (2, [.ref v2, .int (nI 4)])), (v2, .inl (ca 0, 4, .inl (seF z2 r2 f2 j2)))] H1 := hP1
        have hD1 : va_D _ [(qn4, .inr (3, [.ref u5_0, .ref u5_2, .ref u5_4])), (u5_0, .inr (2, [.ref u5_1, .int (nI nt2)])), (u5_1, .inl (ca 0, 200, .inl (cpF gt2 (fun _ => 0) nt2))), (u5_2, .inr (2, [.ref u5_3, .int (nI nl2)])), (u5_3, .inl (ca 0, 20, .inl (cpF gl2 (fun _ => 0) nl2))), (u5_4, .inr (2, [.ref u5_5, .int (nI 4)])), (u5_5, .inl (ca 0, 4, .inl (seF z2 r2 f2 j2))), (o, .inr (3, [.ref x1, .ref y1, .ref v1])), (x1, .inr (2, [.ref x2, .int (nI nt2)])), (x2, .inl (ca 0, 200, .inl gt2)), (y1, .inr (2, [.ref y2, .int (nI nl2)])), (y2, .inl (ca 0, 20, .inl gl2)), (v1, .inr (2, [.ref v2, .int (nI 4)])), (v2, .inl (ca 0, 4, .inl (seF z2 r2 f2 j2)))] := hD1
        have hw8 := hwv
        obtain ⟨hP, hD⟩ := va_join (wr := [(h, .inr (0, [.ref ha, .int (nI dp)])), (ha, .inl (ca 2, 6, .inr (.inr (.inr (.inr (va_up qf dp (some qn4)))))))]) (w1 := [(qn4, .inr (3, [.ref u5_0, .ref u5_2, .ref u5_4])), (u5_0, .inr (2, [.ref u5_1, .int (nI nt2)])), (u5_1, .inl (ca 0, 200, .inl (cpF gt2 (fun _ => 0) nt2))), (u5_2, .inr (2, [.ref u5_3, .int (nI nl2)])), (u5_3, .inl (ca 0, 20, .inl (cpF gl2 (fun _ => 0) nl2))), (u5_4, .inr (2, [.ref u5_5, .int (nI 4)])), (u5_5, .inl (ca 0, 4, .inl (seF z2 r2 f2 j2))), (o, .inr (3, [.ref x1, .ref y1, .ref v1])), (x1, .inr (2, [.ref x2, .int (nI nt2)])), (x2, .inl (ca 0, 200, .inl gt2)), (y1, .inr (2, [.ref y2, .int (nI nl2)])), (y2, .inl (ca 0, 20, .inl gl2)), (v1, .inr (2, [.ref v2, .int (nI 4)])), (v2, .inl (ca 0, 4, .inl (seF z2 r2 f2 j2)))]) hP hD [9, 10, 11, 12, 13, 14, 15, 2, 3, 4, 5, 6, 7, 8] [0, 1] rfl rfl (by decide) (by decide) hk1 hFc hP1 hD1
        generalize H1 = H at hP hS ⊢
        have hP := hP.sub (ws' := [(h, .inr (0, [.ref ha, .int (nI dp)])), (ha, .inl (ca 2, 6, .inr (.inr (.inr (.inr (va_up qf dp (some qn4))))))), (o, .inr (3, [.ref x1, .ref y1, .ref v1])), (x1, .inr (2, [.ref x2, .int (nI nt2)])), (x2, .inl (ca 0, 200, .inl gt2)), (y1, .inr (2, [.ref y2, .int (nI nl2)])), (y2, .inl (ca 0, 20, .inl gl2)), (v1, .inr (2, [.ref v2, .int (nI 4)])), (v2, .inl (ca 0, 4, .inl (seF z2 r2 f2 j2))), (qn4, .inr (3, [.ref u5_0, .ref u5_2, .ref u5_4])), (u5_0, .inr (2, [.ref u5_1, .int (nI nt2)])), (u5_1, .inl (ca 0, 200, .inl (cpF gt2 (fun _ => 0) nt2))), (u5_2, .inr (2, [.ref u5_3, .int (nI nl2)])), (u5_3, .inl (ca 0, 20, .inl (cpF gl2 (fun _ => 0) nl2))), (u5_4, .inr (2, [.ref u5_5, .int (nI 4)])), (u5_5, .inl (ca 0, 4, .inl (seF z2 r2 f2 j2)))]) [0, 1, 9, 10, 11, 12, 13, 14, 15, 2, 3, 4, 5, 6, 7, 8] rfl
        have hD := hD.sub (ws' := [(h, .inr (0, [.ref ha, .int (nI dp)])), (ha, .inl (ca 2, 6, .inr (.inr (.inr (.inr (va_up qf dp (some qn4))))))), (o, .inr (3, [.ref x1, .ref y1, .ref v1])), (x1, .inr (2, [.ref x2, .int (nI nt2)])), (x2, .inl (ca 0, 200, .inl gt2)), (y1, .inr (2, [.ref y2, .int (nI nl2)])), (y2, .inl (ca 0, 20, .inl gl2)), (v1, .inr (2, [.ref v2, .int (nI 4)])), (v2, .inl (ca 0, 4, .inl (seF z2 r2 f2 j2))), (qn4, .inr (3, [.ref u5_0, .ref u5_2, .ref u5_4])), (u5_0, .inr (2, [.ref u5_1, .int (nI nt2)])), (u5_1, .inl (ca 0, 200, .inl (cpF gt2 (fun _ => 0) nt2))), (u5_2, .inr (2, [.ref u5_3, .int (nI nl2)])), (u5_3, .inl (ca 0, 20, .inl (cpF gl2 (fun _ => 0) nl2))), (u5_4, .inr (2, [.ref u5_5, .int (nI 4)])), (u5_5, .inl (ca 0, 4, .inl (seF z2 r2 f2 j2)))]) [0, 1, 9, 10, 11, 12, 13, 14, 15, 2, 3, 4, 5, 6, 7, 8] (by decide) rfl
        refine lv_aload_n hx hb dX0_save_73 rfl (lv_at hl 1 rfl) ?_
        refine lv_dup hx hb dX0_save_74 rfl ?_
        refine va_get (D := D) (ci := 0) (C := RX0) (T := TX0) (N := 2) hx hb hts hiX0 hown hKv hP 0 rfl rfl 1 (by decide) lk17 (fun _ h9 => h9) rfl dX0_save_75 ?_
        refine lv_iconst (v := nI 1) hx hb dX0_save_78 (by decide) ?_
        refine ni_iadd hx hb dX0_save_79 ?_
        refine va_put (D := D) (ci := 0) (v := .int (nI (dp + 1))) (ty := .int) (C := RX0) (T := TX0) (N := 2) hx hb hts hiX0 tyX0 tyX0_ok nmX0 hown hKv hP hD hS 0 rfl rfl 1 (by decide) lk17 (fun _ h9 => h9) rfl (by decide +kernel) rfl rfl (kk_le rfl) dX0_save_80 (fun H locs hP hD hS => ?_)
        have hP : va_P D vwCl [(h, .inr (0, [.ref ha, .int (nI (dp + 1))])), (ha, .inl (ca 2, 6, .inr (.inr (.inr (.inr (va_up qf dp (some qn4))))))), (o, .inr (3, [.ref x1, .ref y1, .ref v1])), (x1, .inr (2, [.ref x2, .int (nI nt2)])), (x2, .inl (ca 0, 200, .inl gt2)), (y1, .inr (2, [.ref y2, .int (nI nl2)])), (y2, .inl (ca 0, 20, .inl gl2)), (v1, .inr (2, [.ref v2, .int (nI 4)])), (v2, .inl (ca 0, 4, .inl (seF z2 r2 f2 j2))), (qn4, .inr (3, [.ref u5_0, .ref u5_2, .ref u5_4])), (u5_0, .inr (2, [.ref u5_1, .int (nI nt2)])), (u5_1, .inl (ca 0, 200, .inl (cpF gt2 (fun _ => 0) nt2))), (u5_2, .inr (2, [.ref u5_3, .int (nI nl2)])), (u5_3, .inl (ca 0, 20, .inl (cpF gl2 (fun _ => 0) nl2))), (u5_4, .inr (2, [.ref u5_5, .int (nI 4)])), (u5_5, .inl (ca 0, 4, .inl (seF z2 r2 f2 j2)))] H := hP
        have hD : va_D A [(h, .inr (0, [.ref ha, .int (nI (dp + 1))])), (ha, .inl (ca 2, 6, .inr (.inr (.inr (.inr (va_up qf dp (some qn4))))))), (o, .inr (3, [.ref x1, .ref y1, .ref v1])), (x1, .inr (2, [.ref x2, .int (nI nt2)])), (x2, .inl (ca 0, 200, .inl gt2)), (y1, .inr (2, [.ref y2, .int (nI nl2)])), (y2, .inl (ca 0, 20, .inl gl2)), (v1, .inr (2, [.ref v2, .int (nI 4)])), (v2, .inl (ca 0, 4, .inl (seF z2 r2 f2 j2))), (qn4, .inr (3, [.ref u5_0, .ref u5_2, .ref u5_4])), (u5_0, .inr (2, [.ref u5_1, .int (nI nt2)])), (u5_1, .inl (ca 0, 200, .inl (cpF gt2 (fun _ => 0) nt2))), (u5_2, .inr (2, [.ref u5_3, .int (nI nl2)])), (u5_3, .inl (ca 0, 20, .inl (cpF gl2 (fun _ => 0) nl2))), (u5_4, .inr (2, [.ref u5_5, .int (nI 4)])), (u5_5, .inl (ca 0, 4, .inl (seF z2 r2 f2 j2)))] := hD
        refine W.widen (k := 7) (n := 233) (kk_le rfl) (kk_le rfl) ?_
        exact W.vret hx hb hr (fun t ht hW => ⟨⟨(qn4, u5_0, u5_1, u5_2, u5_3, u5_4, u5_5), rfl, by trivial, by rw [ht]; exact hP, hD⟩, hS.F ht⟩) hS.2.2 dX0_save_83
      · exact absurd c3 (by omega)
  · exact absurd c1 (by omega)
abbrev rm_kX0_dropOldest : Room := { frames := 0, cells := 0, slots := 0, locals := 0 }
set_option maxHeartbeats 4000000 in
set_option maxRecDepth 100000 in
theorem kX0_dropOldest (l : Launch) (D : va_G) (ca : Nat → ClassId) (sz : Nat) (h ha : Nat) (qf : Nat → Option Nat) (s0 s1 s2 s3 s4 s5 : Nat) (fa1 fa2 fa3 fa4 fa5 fa6 fa7 fa8 fa9 fa10 fa11 fa12 fa13 fa14 fa15 fa16 fa17 fa18 : Nat) (h0 : qf 0 = some s0) (h1 : qf 1 = some s1) (h2 : qf 2 = some s2) (h3 : qf 3 = some s3) (h4 : qf 4 = some s4) (h5 : qf 5 = some s5) : Met l yX0_dropOldest wsX0_dropOldest rm_kX0_dropOldest (pcM D ca [.ref h] [(h, .inr (0, [.ref ha, .int (nI 6)])), (ha, .inl (ca 2, 6, .inr (.inr (.inr (.inr qf))))), (s0, .inr (3, [.ref fa1, .ref fa2, .ref fa3])), (s1, .inr (3, [.ref fa4, .ref fa5, .ref fa6])), (s2, .inr (3, [.ref fa7, .ref fa8, .ref fa9])), (s3, .inr (3, [.ref fa10, .ref fa11, .ref fa12])), (s4, .inr (3, [.ref fa13, .ref fa14, .ref fa15])), (s5, .inr (3, [.ref fa16, .ref fa17, .ref fa18]))] sz) (va_Qv (fun (u : Unit) => True) (qB D (va_A [(h, .inr (0, [.ref ha, .int (nI 6)])), (ha, .inl (ca 2, 6, .inr (.inr (.inr (.inr qf))))), (s0, .inr (3, [.ref fa1, .ref fa2, .ref fa3])), (s1, .inr (3, [.ref fa4, .ref fa5, .ref fa6])), (s2, .inr (3, [.ref fa7, .ref fa8, .ref fa9])), (s3, .inr (3, [.ref fa10, .ref fa11, .ref fa12])), (s4, .inr (3, [.ref fa13, .ref fa14, .ref fa15])), (s5, .inr (3, [.ref fa16, .ref fa17, .ref fa18]))] sz) (fun u : Unit => [(h, .inr (0, [.ref ha, .int (nI 5)])), (ha, .inl (ca 2, 6, .inr (.inr (.inr (.inr (rotQ qf)))))), (s0, .inr (3, [.ref fa1, .ref fa2, .ref fa3])), (s1, .inr (3, [.ref fa4, .ref fa5, .ref fa6])), (s2, .inr (3, [.ref fa7, .ref fa8, .ref fa9])), (s3, .inr (3, [.ref fa10, .ref fa11, .ref fa12])), (s4, .inr (3, [.ref fa13, .ref fa14, .ref fa15])), (s5, .inr (3, [.ref fa16, .ref fa17, .ref fa18]))])) (va_A [(h, .inr (0, [.ref ha, .int (nI 6)])), (ha, .inl (ca 2, 6, .inr (.inr (.inr (.inr qf))))), (s0, .inr (3, [.ref fa1, .ref fa2, .ref fa3])), (s1, .inr (3, [.ref fa4, .ref fa5, .ref fa6])), (s2, .inr (3, [.ref fa7, .ref fa8, .ref fa9])), (s3, .inr (3, [.ref fa10, .ref fa11, .ref fa12])), (s4, .inr (3, [.ref fa13, .ref fa14, .ref fa15])), (s5, .inr (3, [.ref fa16, .ref fa17, .ref fa18]))] sz)) 0 0 (va_A [(h, .inr (0, [.ref ha, .int (nI 6)])), (ha, .inl (ca 2, 6, .inr (.inr (.inr (.inr qf))))), (s0, .inr (3, [.ref fa1, .ref fa2, .ref fa3])), (s1, .inr (3, [.ref fa4, .ref fa5, .ref fa6])), (s2, .inr (3, [.ref fa7, .ref fa8, .ref fa9])), (s3, .inr (3, [.ref fa10, .ref fa11, .ref fa12])), (s4, .inr (3, [.ref fa13, .ref fa14, .ref fa15])), (s5, .inr (3, [.ref fa16, .ref fa17, .ref fa18]))] sz) := by
  refine Met.ofW (cc := cX0_dropOldest) (maxL := 3) (ret := none) (by decide) rfl ?_
  intro p e s m args below meth c s₁ B hml hv
  obtain ⟨rfl, hsz, hP, hK, hD0⟩ := hv
  have hx := B.exec
  have hb := B.bytes
  have hr := B.returns
  have hts := atoms_spec (ws := wsX0_dropOldest) B.pre
  have hown : s.vm.findClass RX0 = some m.cls := findClass_of_methodNamed B.named
  have hlocks := B.notSynchronized
  subst hsz
  have hD := hD0.self (sz := s.heap.size)
  generalize hAe : va_A [(h, .inr (0, [.ref ha, .int (nI 6)])), (ha, .inl (ca 2, 6, .inr (.inr (.inr (.inr qf))))), (s0, .inr (3, [.ref fa1, .ref fa2, .ref fa3])), (s1, .inr (3, [.ref fa4, .ref fa5, .ref fa6])), (s2, .inr (3, [.ref fa7, .ref fa8, .ref fa9])), (s3, .inr (3, [.ref fa10, .ref fa11, .ref fa12])), (s4, .inr (3, [.ref fa13, .ref fa14, .ref fa15])), (s5, .inr (3, [.ref fa16, .ref fa17, .ref fa18]))] s.heap.size = A at hD ⊢
  have hA : ∀ q : Nat, s.heap.size ≤ q → A q := fun q h => by rw [← hAe]; exact Or.inr h
  have hS : va_S A s.heap s.heap [] := va_S.rf
  have hP : va_P D vwCl [(h, .inr (0, [.ref ha, .int (nI 6)])), (ha, .inl (ca 2, 6, .inr (.inr (.inr (.inr qf))))), (s0, .inr (3, [.ref fa1, .ref fa2, .ref fa3])), (s1, .inr (3, [.ref fa4, .ref fa5, .ref fa6])), (s2, .inr (3, [.ref fa7, .ref fa8, .ref fa9])), (s3, .inr (3, [.ref fa10, .ref fa11, .ref fa12])), (s4, .inr (3, [.ref fa13, .ref fa14, .ref fa15])), (s5, .inr (3, [.ref fa16, .ref fa17, .ref fa18]))] s.heap := hP
  have hKv := hK.1
  have hl := lv_entry ([.ref h]) (n := 3) (kk_le rfl)
  rw [lg_entry_eq]
  generalize (lg_sl ([.ref h]) ++ List.replicate (3 - (lg_sl ([.ref h])).length) Slot.unset).toArray = ls at hl ⊢
  have hl : lv_has ls 3 [(0, .ref h)] := hl
  have hiX0 : ∀ w ∈ u_ws RX0 TX0 2, w ∈ wsX0_dropOldest := fun w h => by first | exact List.mem_cons_of_mem _ (List.mem_append_right _ h) | exact List.mem_cons_of_mem _ (List.mem_append_left _ (List.mem_append_right _ h)) | exact List.mem_cons_of_mem _ (List.mem_append_left _ (List.mem_append_left _ (List.mem_append_right _ h))) | exact List.mem_cons_of_mem _ (List.mem_append_left _ (List.mem_append_left _ (List.mem_append_left _ (List.mem_append_right _ h)))) | (revert w h; decide +kernel)
  have lk11 : (Cond.fieldLink RX0 11 "StripeSwipes$History" "states" "[LStripeSwipes$State;").before _ s = true := hts _ (by decide +kernel)
  have lk17 : (Cond.fieldLink RX0 17 "StripeSwipes$History" "depth" "I").before _ s = true := hts _ (by decide +kernel)
  refine lv_aload_n hx hb dX0_dropOldest_0 rfl (lv_at hl 0 rfl) ?_
  refine va_get (D := D) (ci := 0) (C := RX0) (T := TX0) (N := 2) hx hb hts hiX0 hown hKv hP 0 rfl rfl 0 (by decide) lk11 (fun _ h9 => h9) rfl dX0_dropOldest_1 ?_
  refine va_alen (v := nI 6) hx hb hKv hP 1 2 rfl rfl rfl dX0_dropOldest_4 ?_
  refine ni_if_ne (tgt := 9) (by omega) hx hb dX0_dropOldest_5 (by decide) (fun c1 => ?_) (fun c1 => ?_)
  · refine lv_aload_n hx hb dX0_dropOldest_9 rfl (lv_at hl 0 rfl) ?_
    refine va_get (D := D) (ci := 0) (C := RX0) (T := TX0) (N := 2) hx hb hts hiX0 hown hKv hP 0 rfl rfl 0 (by decide) lk11 (fun _ h9 => h9) rfl dX0_dropOldest_10 ?_
    refine lv_iconst (v := nI 0) hx hb dX0_dropOldest_13 (by decide) ?_
    refine my_aldq hx hb hK hP 1 rfl (by omega) (by omega) dX0_dropOldest_14 ?_
    rw [show va_rf (qf 0) = Value.ref s0 from by rw [h0]; rfl]
    refine lv_astore_n (lv' := [(1, .ref s0), (0, .ref h)]) hx hb dX0_dropOldest_15 rfl hl (by decide) rfl (fun ls hl => ?_)
    refine lv_iconst (v := nI 1) hx hb dX0_dropOldest_16 (by decide) ?_
    refine lv_istore_n (lv' := [(2, .int (nI 1)), (1, .ref s0), (0, .ref h)]) hx hb dX0_dropOldest_17 rfl hl (by decide) rfl (fun ls hl => ?_)
    refine lv_iload_n hx hb dX0_dropOldest_18 rfl (lv_at hl 0 rfl) ?_
    refine lv_aload_n hx hb dX0_dropOldest_19 rfl (lv_at hl 2 rfl) ?_
    refine va_get (D := D) (ci := 0) (C := RX0) (T := TX0) (N := 2) hx hb hts hiX0 hown hKv hP 0 rfl rfl 0 (by decide) lk11 (fun _ h9 => h9) rfl dX0_dropOldest_20 ?_
    refine va_alen (v := nI 6) hx hb hKv hP 1 2 rfl rfl rfl dX0_dropOldest_23 ?_
    refine ni_icmp_ge (tgt := 47) (by omega) (by omega) hx hb dX0_dropOldest_24 (by decide) (fun c2 => ?_) (fun c2 => ?_)
    · first | exact False.elim c2 | exact absurd c2 (by decide) | (exfalso; omega)
    · refine lv_aload_n hx hb dX0_dropOldest_27 rfl (lv_at hl 2 rfl) ?_
      refine va_get (D := D) (ci := 0) (C := RX0) (T := TX0) (N := 2) hx hb hts hiX0 hown hKv hP 0 rfl rfl 0 (by decide) lk11 (fun _ h9 => h9) rfl dX0_dropOldest_28 ?_
      refine lv_iload_n hx hb dX0_dropOldest_31 rfl (lv_at hl 0 rfl) ?_
      refine lv_iconst (v := nI 1) hx hb dX0_dropOldest_32 (by decide) ?_
      refine ni_isub (by omega) hx hb dX0_dropOldest_33 ?_
      rw [show (1 - 1 : Nat) = 0 from rfl]
      refine lv_aload_n hx hb dX0_dropOldest_34 rfl (lv_at hl 2 rfl) ?_
      refine va_get (D := D) (ci := 0) (C := RX0) (T := TX0) (N := 2) hx hb hts hiX0 hown hKv hP 0 rfl rfl 0 (by decide) lk11 (fun _ h9 => h9) rfl dX0_dropOldest_35 ?_
      refine lv_iload_n hx hb dX0_dropOldest_38 rfl (lv_at hl 0 rfl) ?_
      refine my_aldq hx hb hK hP 1 rfl (by omega) (by omega) dX0_dropOldest_39 ?_
      rw [show va_rf (qf 1) = Value.ref s1 from by rw [show qf 1 = some s1 from h1]; rfl]
      refine va_astq hx hb hKv hP hD hS 1 2 3 3 rfl rfl rfl rfl (vp_in_nI (by omega) (by omega)) dX0_dropOldest_40 (fun H locs hP hD hS => ?_)
      rw [nI_clamp (by omega)] at hP hD
      have hP : va_P D vwCl [(h, .inr (0, [.ref ha, .int (nI 6)])), (ha, .inl (ca 2, 6, .inr (.inr (.inr (.inr (va_up qf 0 (some s1))))))), (s0, .inr (3, [.ref fa1, .ref fa2, .ref fa3])), (s1, .inr (3, [.ref fa4, .ref fa5, .ref fa6])), (s2, .inr (3, [.ref fa7, .ref fa8, .ref fa9])), (s3, .inr (3, [.ref fa10, .ref fa11, .ref fa12])), (s4, .inr (3, [.ref fa13, .ref fa14, .ref fa15])), (s5, .inr (3, [.ref fa16, .ref fa17, .ref fa18]))] H := hP
      have hD : va_D A [(h, .inr (0, [.ref ha, .int (nI 6)])), (ha, .inl (ca 2, 6, .inr (.inr (.inr (.inr (va_up qf 0 (some s1))))))), (s0, .inr (3, [.ref fa1, .ref fa2, .ref fa3])), (s1, .inr (3, [.ref fa4, .ref fa5, .ref fa6])), (s2, .inr (3, [.ref fa7, .ref fa8, .ref fa9])), (s3, .inr (3, [.ref fa10, .ref fa11, .ref fa12])), (s4, .inr (3, [.ref fa13, .ref fa14, .ref fa15])), (s5, .inr (3, [.ref fa16, .ref fa17, .ref fa18]))] := hD
      refine lv_iinc (v := nI 2) (lv' := [(2, .int (nI 2)), (1, .ref s0), (0, .ref h)]) hx hb dX0_dropOldest_41 hl (k := 0) rfl (by decide) (by decide) rfl (fun ls hl => ?_)
      refine lv_goto (tgt := 18) hx hb dX0_dropOldest_44 (by decide) ?_
      refine lv_iload_n hx hb dX0_dropOldest_18 rfl (lv_at hl 0 rfl) ?_
      refine lv_aload_n hx hb dX0_dropOldest_19 rfl (lv_at hl 2 rfl) ?_
      refine va_get (D := D) (ci := 0) (C := RX0) (T := TX0) (N := 2) hx hb hts hiX0 hown hKv hP 0 rfl rfl 0 (by decide) lk11 (fun _ h9 => h9) rfl dX0_dropOldest_20 ?_
      refine va_alen (v := nI 6) hx hb hKv hP 1 2 rfl rfl rfl dX0_dropOldest_23 ?_
      refine ni_icmp_ge (tgt := 47) (by omega) (by omega) hx hb dX0_dropOldest_24 (by decide) (fun c3 => ?_) (fun c3 => ?_)
      · first | exact False.elim c3 | exact absurd c3 (by decide) | (exfalso; omega)
      · refine lv_aload_n hx hb dX0_dropOldest_27 rfl (lv_at hl 2 rfl) ?_
        refine va_get (D := D) (ci := 0) (C := RX0) (T := TX0) (N := 2) hx hb hts hiX0 hown hKv hP 0 rfl rfl 0 (by decide) lk11 (fun _ h9 => h9) rfl dX0_dropOldest_28 ?_
        refine lv_iload_n hx hb dX0_dropOldest_31 rfl (lv_at hl 0 rfl) ?_
        refine lv_iconst (v := nI 1) hx hb dX0_dropOldest_32 (by decide) ?_
        refine ni_isub (by omega) hx hb dX0_dropOldest_33 ?_
        rw [show (2 - 1 : Nat) = 1 from rfl]
        refine lv_aload_n hx hb dX0_dropOldest_34 rfl (lv_at hl 2 rfl) ?_
        refine va_get (D := D) (ci := 0) (C := RX0) (T := TX0) (N := 2) hx hb hts hiX0 hown hKv hP 0 rfl rfl 0 (by decide) lk11 (fun _ h9 => h9) rfl dX0_dropOldest_35 ?_
        refine lv_iload_n hx hb dX0_dropOldest_38 rfl (lv_at hl 0 rfl) ?_
        refine my_aldq hx hb hK hP 1 rfl (by omega) (by omega) dX0_dropOldest_39 ?_
        rw [show va_rf ((va_up qf 0 (some s1)) 2) = Value.ref s2 from by rw [show (va_up qf 0 (some s1)) 2 = some s2 from h2]; rfl]
        refine va_astq hx hb hKv hP hD hS 1 2 4 3 rfl rfl rfl rfl (vp_in_nI (by omega) (by omega)) dX0_dropOldest_40 (fun H locs hP hD hS => ?_)
        rw [nI_clamp (by omega)] at hP hD
        have hP : va_P D vwCl [(h, .inr (0, [.ref ha, .int (nI 6)])), (ha, .inl (ca 2, 6, .inr (.inr (.inr (.inr (va_up (va_up qf 0 (some s1)) 1 (some s2))))))), (s0, .inr (3, [.ref fa1, .ref fa2, .ref fa3])), (s1, .inr (3, [.ref fa4, .ref fa5, .ref fa6])), (s2, .inr (3, [.ref fa7, .ref fa8, .ref fa9])), (s3, .inr (3, [.ref fa10, .ref fa11, .ref fa12])), (s4, .inr (3, [.ref fa13, .ref fa14, .ref fa15])), (s5, .inr (3, [.ref fa16, .ref fa17, .ref fa18]))] H := hP
        have hD : va_D A [(h, .inr (0, [.ref ha, .int (nI 6)])), (ha, .inl (ca 2, 6, .inr (.inr (.inr (.inr (va_up (va_up qf 0 (some s1)) 1 (some s2))))))), (s0, .inr (3, [.ref fa1, .ref fa2, .ref fa3])), (s1, .inr (3, [.ref fa4, .ref fa5, .ref fa6])), (s2, .inr (3, [.ref fa7, .ref fa8, .ref fa9])), (s3, .inr (3, [.ref fa10, .ref fa11, .ref fa12])), (s4, .inr (3, [.ref fa13, .ref fa14, .ref fa15])), (s5, .inr (3, [.ref fa16, .ref fa17, .ref fa18]))] := hD
        refine lv_iinc (v := nI 3) (lv' := [(2, .int (nI 3)), (1, .ref s0), (0, .ref h)]) hx hb dX0_dropOldest_41 hl (k := 0) rfl (by decide) (by decide) rfl (fun ls hl => ?_)
        refine lv_goto (tgt := 18) hx hb dX0_dropOldest_44 (by decide) ?_
        refine lv_iload_n hx hb dX0_dropOldest_18 rfl (lv_at hl 0 rfl) ?_
        refine lv_aload_n hx hb dX0_dropOldest_19 rfl (lv_at hl 2 rfl) ?_
        refine va_get (D := D) (ci := 0) (C := RX0) (T := TX0) (N := 2) hx hb hts hiX0 hown hKv hP 0 rfl rfl 0 (by decide) lk11 (fun _ h9 => h9) rfl dX0_dropOldest_20 ?_
        refine va_alen (v := nI 6) hx hb hKv hP 1 2 rfl rfl rfl dX0_dropOldest_23 ?_
        refine ni_icmp_ge (tgt := 47) (by omega) (by omega) hx hb dX0_dropOldest_24 (by decide) (fun c4 => ?_) (fun c4 => ?_)
        · first | exact False.elim c4 | exact absurd c4 (by decide) | (exfalso; omega)
        · refine lv_aload_n hx hb dX0_dropOldest_27 rfl (lv_at hl 2 rfl) ?_
          refine va_get (D := D) (ci := 0) (C := RX0) (T := TX0) (N := 2) hx hb hts hiX0 hown hKv hP 0 rfl rfl 0 (by decide) lk11 (fun _ h9 => h9) rfl dX0_dropOldest_28 ?_
          refine lv_iload_n hx hb dX0_dropOldest_31 rfl (lv_at hl 0 rfl) ?_
          refine lv_iconst (v := nI 1) hx hb dX0_dropOldest_32 (by decide) ?_
          refine ni_isub (by omega) hx hb dX0_dropOldest_33 ?_
          rw [show (3 - 1 : Nat) = 2 from rfl]
          refine lv_aload_n hx hb dX0_dropOldest_34 rfl (lv_at hl 2 rfl) ?_
          refine va_get (D := D) (ci := 0) (C := RX0) (T := TX0) (N := 2) hx hb hts hiX0 hown hKv hP 0 rfl rfl 0 (by decide) lk11 (fun _ h9 => h9) rfl dX0_dropOldest_35 ?_
          refine lv_iload_n hx hb dX0_dropOldest_38 rfl (lv_at hl 0 rfl) ?_
          refine my_aldq hx hb hK hP 1 rfl (by omega) (by omega) dX0_dropOldest_39 ?_
          rw [show va_rf ((va_up (va_up qf 0 (some s1)) 1 (some s2)) 3) = Value.ref s3 from by rw [show (va_up (va_up qf 0 (some s1)) 1 (some s2)) 3 = some s3 from h3]; rfl]
          refine va_astq hx hb hKv hP hD hS 1 2 5 3 rfl rfl rfl rfl (vp_in_nI (by omega) (by omega)) dX0_dropOldest_40 (fun H locs hP hD hS => ?_)
          rw [nI_clamp (by omega)] at hP hD
          have hP : va_P D vwCl [(h, .inr (0, [.ref ha, .int (nI 6)])), (ha, .inl (ca 2, 6, .inr (.inr (.inr (.inr (va_up (va_up (va_up qf 0 (some s1)) 1 (some s2)) 2 (some s3))))))), (s0, .inr (3, [.ref fa1, .ref fa2, .ref fa3])), (s1, .inr (3, [.ref fa4, .ref fa5, .ref fa6])), (s2, .inr (3, [.ref fa7, .ref fa8, .ref fa9])), (s3, .inr (3, [.ref fa10, .ref fa11, .ref fa12])), (s4, .inr (3, [.ref fa13, .ref fa14, .ref fa15])), (s5, .inr (3, [.ref fa16, .ref fa17, .ref fa18]))] H := hP
          have hD : va_D A [(h, .inr (0, [.ref ha, .int (nI 6)])), (ha, .inl (ca 2, 6, .inr (.inr (.inr (.inr (va_up (va_up (va_up qf 0 (some s1)) 1 (some s2)) 2 (some s3))))))), (s0, .inr (3, [.ref fa1, .ref fa2, .ref fa3])), (s1, .inr (3, [.ref fa4, .ref fa5, .ref fa6])), (s2, .inr (3, [.ref fa7, .ref fa8, .ref fa9])), (s3, .inr (3, [.ref fa10, .ref fa11, .ref fa12])), (s4, .inr (3, [.ref fa13, .ref fa14, .ref fa15])), (s5, .inr (3, [.ref fa16, .ref fa17, .ref fa18]))] := hD
          refine lv_iinc (v := nI 4) (lv' := [(2, .int (nI 4)), (1, .ref s0), (0, .ref h)]) hx hb dX0_dropOldest_41 hl (k := 0) rfl (by decide) (by decide) rfl (fun ls hl => ?_)
          refine lv_goto (tgt := 18) hx hb dX0_dropOldest_44 (by decide) ?_
          refine lv_iload_n hx hb dX0_dropOldest_18 rfl (lv_at hl 0 rfl) ?_
          refine lv_aload_n hx hb dX0_dropOldest_19 rfl (lv_at hl 2 rfl) ?_
          refine va_get (D := D) (ci := 0) (C := RX0) (T := TX0) (N := 2) hx hb hts hiX0 hown hKv hP 0 rfl rfl 0 (by decide) lk11 (fun _ h9 => h9) rfl dX0_dropOldest_20 ?_
          refine va_alen (v := nI 6) hx hb hKv hP 1 2 rfl rfl rfl dX0_dropOldest_23 ?_
          refine ni_icmp_ge (tgt := 47) (by omega) (by omega) hx hb dX0_dropOldest_24 (by decide) (fun c5 => ?_) (fun c5 => ?_)
          · first | exact False.elim c5 | exact absurd c5 (by decide) | (exfalso; omega)
          · refine lv_aload_n hx hb dX0_dropOldest_27 rfl (lv_at hl 2 rfl) ?_
            refine va_get (D := D) (ci := 0) (C := RX0) (T := TX0) (N := 2) hx hb hts hiX0 hown hKv hP 0 rfl rfl 0 (by decide) lk11 (fun _ h9 => h9) rfl dX0_dropOldest_28 ?_
            refine lv_iload_n hx hb dX0_dropOldest_31 rfl (lv_at hl 0 rfl) ?_
            refine lv_iconst (v := nI 1) hx hb dX0_dropOldest_32 (by decide) ?_
            refine ni_isub (by omega) hx hb dX0_dropOldest_33 ?_
            rw [show (4 - 1 : Nat) = 3 from rfl]
            refine lv_aload_n hx hb dX0_dropOldest_34 rfl (lv_at hl 2 rfl) ?_
            refine va_get (D := D) (ci := 0) (C := RX0) (T := TX0) (N := 2) hx hb hts hiX0 hown hKv hP 0 rfl rfl 0 (by decide) lk11 (fun _ h9 => h9) rfl dX0_dropOldest_35 ?_
            refine lv_iload_n hx hb dX0_dropOldest_38 rfl (lv_at hl 0 rfl) ?_
            refine my_aldq hx hb hK hP 1 rfl (by omega) (by omega) dX0_dropOldest_39 ?_
            rw [show va_rf ((va_up (va_up (va_up qf 0 (some s1)) 1 (some s2)) 2 (some s3)) 4) = Value.ref s4 from by rw [show (va_up (va_up (va_up qf 0 (some s1)) 1 (some s2)) 2 (some s3)) 4 = some s4 from h4]; rfl]
            refine va_astq hx hb hKv hP hD hS 1 2 6 3 rfl rfl rfl rfl (vp_in_nI (by omega) (by omega)) dX0_dropOldest_40 (fun H locs hP hD hS => ?_)
            rw [nI_clamp (by omega)] at hP hD
            have hP : va_P D vwCl [(h, .inr (0, [.ref ha, .int (nI 6)])), (ha, .inl (ca 2, 6, .inr (.inr (.inr (.inr (va_up (va_up (va_up (va_up qf 0 (some s1)) 1 (some s2)) 2 (some s3)) 3 (some s4))))))), (s0, .inr (3, [.ref fa1, .ref fa2, .ref fa3])), (s1, .inr (3, [.ref fa4, .ref fa5, .ref fa6])), (s2, .inr (3, [.ref fa7, .ref fa8, .ref fa9])), (s3, .inr (3, [.ref fa10, .ref fa11, .ref fa12])), (s4, .inr (3, [.ref fa13, .ref fa14, .ref fa15])), (s5, .inr (3, [.ref fa16, .ref fa17, .ref fa18]))] H := hP
            have hD : va_D A [(h, .inr (0, [.ref ha, .int (nI 6)])), (ha, .inl (ca 2, 6, .inr (.inr (.inr (.inr (va_up (va_up (va_up (va_up qf 0 (some s1)) 1 (some s2)) 2 (some s3)) 3 (some s4))))))), (s0, .inr (3, [.ref fa1, .ref fa2, .ref fa3])), (s1, .inr (3, [.ref fa4, .ref fa5, .ref fa6])), (s2, .inr (3, [.ref fa7, .ref fa8, .ref fa9])), (s3, .inr (3, [.ref fa10, .ref fa11, .ref fa12])), (s4, .inr (3, [.ref fa13, .ref fa14, .ref fa15])), (s5, .inr (3, [.ref fa16, .ref fa17, .ref fa18]))] := hD
            refine lv_iinc (v := nI 5) (lv' := [(2, .int (nI 5)), (1, .ref s0), (0, .ref h)]) hx hb dX0_dropOldest_41 hl (k := 0) rfl (by decide) (by decide) rfl (fun ls hl => ?_)
            refine lv_goto (tgt := 18) hx hb dX0_dropOldest_44 (by decide) ?_
            refine lv_iload_n hx hb dX0_dropOldest_18 rfl (lv_at hl 0 rfl) ?_
            refine lv_aload_n hx hb dX0_dropOldest_19 rfl (lv_at hl 2 rfl) ?_
            refine va_get (D := D) (ci := 0) (C := RX0) (T := TX0) (N := 2) hx hb hts hiX0 hown hKv hP 0 rfl rfl 0 (by decide) lk11 (fun _ h9 => h9) rfl dX0_dropOldest_20 ?_
            refine va_alen (v := nI 6) hx hb hKv hP 1 2 rfl rfl rfl dX0_dropOldest_23 ?_
            refine ni_icmp_ge (tgt := 47) (by omega) (by omega) hx hb dX0_dropOldest_24 (by decide) (fun c6 => ?_) (fun c6 => ?_)
            · first | exact False.elim c6 | exact absurd c6 (by decide) | (exfalso; omega)
            · refine lv_aload_n hx hb dX0_dropOldest_27 rfl (lv_at hl 2 rfl) ?_
              refine va_get (D := D) (ci := 0) (C := RX0) (T := TX0) (N := 2) hx hb hts hiX0 hown hKv hP 0 rfl rfl 0 (by decide) lk11 (fun _ h9 => h9) rfl dX0_dropOldest_28 ?_
              refine lv_iload_n hx hb dX0_dropOldest_31 rfl (lv_at hl 0 rfl) ?_
              refine lv_iconst (v := nI 1) hx hb dX0_dropOldest_32 (by decide) ?_
              refine ni_isub (by omega) hx hb dX0_dropOldest_33 ?_
              rw [show (5 - 1 : Nat) = 4 from rfl]
              refine lv_aload_n hx hb dX0_dropOldest_34 rfl (lv_at hl 2 rfl) ?_
              refine va_get (D := D) (ci := 0) (C := RX0) (T := TX0) (N := 2) hx hb hts hiX0 hown hKv hP 0 rfl rfl 0 (by decide) lk11 (fun _ h9 => h9) rfl dX0_dropOldest_35 ?_
              refine lv_iload_n hx hb dX0_dropOldest_38 rfl (lv_at hl 0 rfl) ?_
              refine my_aldq hx hb hK hP 1 rfl (by omega) (by omega) dX0_dropOldest_39 ?_
              rw [show va_rf ((va_up (va_up (va_up (va_up qf 0 (some s1)) 1 (some s2)) 2 (some s3)) 3 (some s4)) 5) = Value.ref s5 from by rw [show (va_up (va_up (va_up (va_up qf 0 (some s1)) 1 (some s2)) 2 (some s3)) 3 (some s4)) 5 = some s5 from h5]; rfl]
              refine va_astq hx hb hKv hP hD hS 1 2 7 3 rfl rfl rfl rfl (vp_in_nI (by omega) (by omega)) dX0_dropOldest_40 (fun H locs hP hD hS => ?_)
              rw [nI_clamp (by omega)] at hP hD
              have hP : va_P D vwCl [(h, .inr (0, [.ref ha, .int (nI 6)])), (ha, .inl (ca 2, 6, .inr (.inr (.inr (.inr (va_up (va_up (va_up (va_up (va_up qf 0 (some s1)) 1 (some s2)) 2 (some s3)) 3 (some s4)) 4 (some s5))))))), (s0, .inr (3, [.ref fa1, .ref fa2, .ref fa3])), (s1, .inr (3, [.ref fa4, .ref fa5, .ref fa6])), (s2, .inr (3, [.ref fa7, .ref fa8, .ref fa9])), (s3, .inr (3, [.ref fa10, .ref fa11, .ref fa12])), (s4, .inr (3, [.ref fa13, .ref fa14, .ref fa15])), (s5, .inr (3, [.ref fa16, .ref fa17, .ref fa18]))] H := hP
              have hD : va_D A [(h, .inr (0, [.ref ha, .int (nI 6)])), (ha, .inl (ca 2, 6, .inr (.inr (.inr (.inr (va_up (va_up (va_up (va_up (va_up qf 0 (some s1)) 1 (some s2)) 2 (some s3)) 3 (some s4)) 4 (some s5))))))), (s0, .inr (3, [.ref fa1, .ref fa2, .ref fa3])), (s1, .inr (3, [.ref fa4, .ref fa5, .ref fa6])), (s2, .inr (3, [.ref fa7, .ref fa8, .ref fa9])), (s3, .inr (3, [.ref fa10, .ref fa11, .ref fa12])), (s4, .inr (3, [.ref fa13, .ref fa14, .ref fa15])), (s5, .inr (3, [.ref fa16, .ref fa17, .ref fa18]))] := hD
              refine lv_iinc (v := nI 6) (lv' := [(2, .int (nI 6)), (1, .ref s0), (0, .ref h)]) hx hb dX0_dropOldest_41 hl (k := 0) rfl (by decide) (by decide) rfl (fun ls hl => ?_)
              refine lv_goto (tgt := 18) hx hb dX0_dropOldest_44 (by decide) ?_
              refine lv_iload_n hx hb dX0_dropOldest_18 rfl (lv_at hl 0 rfl) ?_
              refine lv_aload_n hx hb dX0_dropOldest_19 rfl (lv_at hl 2 rfl) ?_
              refine va_get (D := D) (ci := 0) (C := RX0) (T := TX0) (N := 2) hx hb hts hiX0 hown hKv hP 0 rfl rfl 0 (by decide) lk11 (fun _ h9 => h9) rfl dX0_dropOldest_20 ?_
              refine va_alen (v := nI 6) hx hb hKv hP 1 2 rfl rfl rfl dX0_dropOldest_23 ?_
              refine ni_icmp_ge (tgt := 47) (by omega) (by omega) hx hb dX0_dropOldest_24 (by decide) (fun c7 => ?_) (fun c7 => ?_)
              · refine lv_aload_n hx hb dX0_dropOldest_47 rfl (lv_at hl 2 rfl) ?_
                refine va_get (D := D) (ci := 0) (C := RX0) (T := TX0) (N := 2) hx hb hts hiX0 hown hKv hP 0 rfl rfl 0 (by decide) lk11 (fun _ h9 => h9) rfl dX0_dropOldest_48 ?_
                refine lv_aload_n hx hb dX0_dropOldest_51 rfl (lv_at hl 2 rfl) ?_
                refine va_get (D := D) (ci := 0) (C := RX0) (T := TX0) (N := 2) hx hb hts hiX0 hown hKv hP 0 rfl rfl 0 (by decide) lk11 (fun _ h9 => h9) rfl dX0_dropOldest_52 ?_
                refine va_alen (v := nI 6) hx hb hKv hP 1 2 rfl rfl rfl dX0_dropOldest_55 ?_
                refine lv_iconst (v := nI 1) hx hb dX0_dropOldest_56 (by decide) ?_
                refine ni_isub (by omega) hx hb dX0_dropOldest_57 ?_
                rw [show (6 - 1 : Nat) = 5 from rfl]
                refine lv_aload_n hx hb dX0_dropOldest_58 rfl (lv_at hl 1 rfl) ?_
                refine va_astq hx hb hKv hP hD hS 1 2 2 3 rfl rfl rfl rfl (vp_in_nI (by omega) (by omega)) dX0_dropOldest_59 (fun H locs hP hD hS => ?_)
                rw [nI_clamp (by omega)] at hP hD
                have hP : va_P D vwCl [(h, .inr (0, [.ref ha, .int (nI 6)])), (ha, .inl (ca 2, 6, .inr (.inr (.inr (.inr (va_up (va_up (va_up (va_up (va_up (va_up qf 0 (some s1)) 1 (some s2)) 2 (some s3)) 3 (some s4)) 4 (some s5)) 5 (some s0))))))), (s0, .inr (3, [.ref fa1, .ref fa2, .ref fa3])), (s1, .inr (3, [.ref fa4, .ref fa5, .ref fa6])), (s2, .inr (3, [.ref fa7, .ref fa8, .ref fa9])), (s3, .inr (3, [.ref fa10, .ref fa11, .ref fa12])), (s4, .inr (3, [.ref fa13, .ref fa14, .ref fa15])), (s5, .inr (3, [.ref fa16, .ref fa17, .ref fa18]))] H := hP
                have hD : va_D A [(h, .inr (0, [.ref ha, .int (nI 6)])), (ha, .inl (ca 2, 6, .inr (.inr (.inr (.inr (va_up (va_up (va_up (va_up (va_up (va_up qf 0 (some s1)) 1 (some s2)) 2 (some s3)) 3 (some s4)) 4 (some s5)) 5 (some s0))))))), (s0, .inr (3, [.ref fa1, .ref fa2, .ref fa3])), (s1, .inr (3, [.ref fa4, .ref fa5, .ref fa6])), (s2, .inr (3, [.ref fa7, .ref fa8, .ref fa9])), (s3, .inr (3, [.ref fa10, .ref fa11, .ref fa12])), (s4, .inr (3, [.ref fa13, .ref fa14, .ref fa15])), (s5, .inr (3, [.ref fa16, .ref fa17, .ref fa18]))] := hD
                refine lv_aload_n hx hb dX0_dropOldest_60 rfl (lv_at hl 2 rfl) ?_
                refine lv_aload_n hx hb dX0_dropOldest_61 rfl (lv_at hl 2 rfl) ?_
                refine va_get (D := D) (ci := 0) (C := RX0) (T := TX0) (N := 2) hx hb hts hiX0 hown hKv hP 0 rfl rfl 0 (by decide) lk11 (fun _ h9 => h9) rfl dX0_dropOldest_62 ?_
                refine va_alen (v := nI 6) hx hb hKv hP 1 2 rfl rfl rfl dX0_dropOldest_65 ?_
                refine lv_iconst (v := nI 1) hx hb dX0_dropOldest_66 (by decide) ?_
                refine ni_isub (by omega) hx hb dX0_dropOldest_67 ?_
                rw [show (6 - 1 : Nat) = 5 from rfl]
                refine va_put (D := D) (ci := 0) (v := .int (nI 5)) (ty := .int) (C := RX0) (T := TX0) (N := 2) hx hb hts hiX0 tyX0 tyX0_ok nmX0 hown hKv hP hD hS 0 rfl rfl 1 (by decide) lk17 (fun _ h9 => h9) rfl (by decide +kernel) rfl rfl (kk_le rfl) dX0_dropOldest_68 (fun H locs hP hD hS => ?_)
                have hP : va_P D vwCl [(h, .inr (0, [.ref ha, .int (nI 5)])), (ha, .inl (ca 2, 6, .inr (.inr (.inr (.inr (va_up (va_up (va_up (va_up (va_up (va_up qf 0 (some s1)) 1 (some s2)) 2 (some s3)) 3 (some s4)) 4 (some s5)) 5 (some s0))))))), (s0, .inr (3, [.ref fa1, .ref fa2, .ref fa3])), (s1, .inr (3, [.ref fa4, .ref fa5, .ref fa6])), (s2, .inr (3, [.ref fa7, .ref fa8, .ref fa9])), (s3, .inr (3, [.ref fa10, .ref fa11, .ref fa12])), (s4, .inr (3, [.ref fa13, .ref fa14, .ref fa15])), (s5, .inr (3, [.ref fa16, .ref fa17, .ref fa18]))] H := hP
                have hD : va_D A [(h, .inr (0, [.ref ha, .int (nI 5)])), (ha, .inl (ca 2, 6, .inr (.inr (.inr (.inr (va_up (va_up (va_up (va_up (va_up (va_up qf 0 (some s1)) 1 (some s2)) 2 (some s3)) 3 (some s4)) 4 (some s5)) 5 (some s0))))))), (s0, .inr (3, [.ref fa1, .ref fa2, .ref fa3])), (s1, .inr (3, [.ref fa4, .ref fa5, .ref fa6])), (s2, .inr (3, [.ref fa7, .ref fa8, .ref fa9])), (s3, .inr (3, [.ref fa10, .ref fa11, .ref fa12])), (s4, .inr (3, [.ref fa13, .ref fa14, .ref fa15])), (s5, .inr (3, [.ref fa16, .ref fa17, .ref fa18]))] := hD
                have e8 : (va_up (va_up (va_up (va_up (va_up (va_up qf 0 (some s1)) 1 (some s2)) 2 (some s3)) 3 (some s4)) 4 (some s5)) 5 (some s0) : Nat → Option Nat) = rotQ qf := by exact rot_end h0 h1 h2 h3 h4 h5
                have hP : va_P D vwCl [(h, .inr (0, [.ref ha, .int (nI 5)])), (ha, .inl (ca 2, 6, .inr (.inr (.inr (.inr (rotQ qf)))))), (s0, .inr (3, [.ref fa1, .ref fa2, .ref fa3])), (s1, .inr (3, [.ref fa4, .ref fa5, .ref fa6])), (s2, .inr (3, [.ref fa7, .ref fa8, .ref fa9])), (s3, .inr (3, [.ref fa10, .ref fa11, .ref fa12])), (s4, .inr (3, [.ref fa13, .ref fa14, .ref fa15])), (s5, .inr (3, [.ref fa16, .ref fa17, .ref fa18]))] H := Eq.mp (congrArg (fun z9 : Nat → Option Nat => va_P D vwCl [(h, .inr (0, [.ref ha, .int (nI 5)])), (ha, .inl (ca 2, 6, .inr (.inr (.inr (.inr z9))))), (s0, .inr (3, [.ref fa1, .ref fa2, .ref fa3])), (s1, .inr (3, [.ref fa4, .ref fa5, .ref fa6])), (s2, .inr (3, [.ref fa7, .ref fa8, .ref fa9])), (s3, .inr (3, [.ref fa10, .ref fa11, .ref fa12])), (s4, .inr (3, [.ref fa13, .ref fa14, .ref fa15])), (s5, .inr (3, [.ref fa16, .ref fa17, .ref fa18]))] H) e8) hP
                have hD : va_D A [(h, .inr (0, [.ref ha, .int (nI 5)])), (ha, .inl (ca 2, 6, .inr (.inr (.inr (.inr (rotQ qf)))))), (s0, .inr (3, [.ref fa1, .ref fa2, .ref fa3])), (s1, .inr (3, [.ref fa4, .ref fa5, .ref fa6])), (s2, .inr (3, [.ref fa7, .ref fa8, .ref fa9])), (s3, .inr (3, [.ref fa10, .ref fa11, .ref fa12])), (s4, .inr (3, [.ref fa13, .ref fa14, .ref fa15])), (s5, .inr (3, [.ref fa16, .ref fa17, .ref fa18]))] := Eq.mp (congrArg (fun z9 : Nat → Option Nat => va_D A [(h, .inr (0, [.ref ha, .int (nI 5)])), (ha, .inl (ca 2, 6, .inr (.inr (.inr (.inr z9))))), (s0, .inr (3, [.ref fa1, .ref fa2, .ref fa3])), (s1, .inr (3, [.ref fa4, .ref fa5, .ref fa6])), (s2, .inr (3, [.ref fa7, .ref fa8, .ref fa9])), (s3, .inr (3, [.ref fa10, .ref fa11, .ref fa12])), (s4, .inr (3, [.ref fa13, .ref fa14, .ref fa15])), (s5, .inr (3, [.ref fa16, .ref fa17, .ref fa18]))]) e8) hD
                exact W.vret hx hb hr (fun t ht hW => ⟨⟨(), rfl, by trivial, by rw [ht]; exact hP, hD⟩, hS.F ht⟩) hS.2.2 dX0_dropOldest_71
              · first | exact False.elim c7 | exact absurd c7 (by decide) | (exfalso; omega)
  · first | exact False.elim c1 | exact absurd c1 (by decide) | (exfalso; omega)
abbrev rm_kX0_takeLatest : Room := { frames := 0, cells := 0, slots := 0, locals := 0 }
set_option maxHeartbeats 4000000 in
set_option maxRecDepth 100000 in
theorem kX0_takeLatest (l : Launch) (D : va_G) (ca : Nat → ClassId) (sz : Nat) (h ha : Nat) (qf : Nat → Option Nat) (dp : Nat) (q : Nat) (hdp : 1 ≤ dp ∧ dp ≤ 6) (hq : qf (dp - 1) = some q) : Met l yX0_takeLatest wsX0_takeLatest rm_kX0_takeLatest (pcM D ca [.ref h] [(h, .inr (0, [.ref ha, .int (nI dp)])), (ha, .inl (ca 2, 6, .inr (.inr (.inr (.inr qf)))))] sz) (va_Qr (fun (u : Unit) => True) (fun u ra t => ra = q ∧ qB D (va_A [(h, .inr (0, [.ref ha, .int (nI dp)])), (ha, .inl (ca 2, 6, .inr (.inr (.inr (.inr qf)))))] sz) (fun u : Unit => [(h, .inr (0, [.ref ha, .int (nI (dp - 1))])), (ha, .inl (ca 2, 6, .inr (.inr (.inr (.inr qf)))))]) u t) (va_A [(h, .inr (0, [.ref ha, .int (nI dp)])), (ha, .inl (ca 2, 6, .inr (.inr (.inr (.inr qf)))))] sz)) 0 0 (va_A [(h, .inr (0, [.ref ha, .int (nI dp)])), (ha, .inl (ca 2, 6, .inr (.inr (.inr (.inr qf)))))] sz) := by
  refine Met.ofW (cc := cX0_takeLatest) (maxL := 1) (ret := (some (.object "StripeSwipes$State"))) (by decide) rfl ?_
  intro p e s m args below meth c s₁ B hml hv
  obtain ⟨rfl, hsz, hP, hK, hD0⟩ := hv
  have hx := B.exec
  have hb := B.bytes
  have hr := B.returns
  have hts := atoms_spec (ws := wsX0_takeLatest) B.pre
  have hown : s.vm.findClass RX0 = some m.cls := findClass_of_methodNamed B.named
  have hlocks := B.notSynchronized
  subst hsz
  have hD := hD0.self (sz := s.heap.size)
  generalize hAe : va_A [(h, .inr (0, [.ref ha, .int (nI dp)])), (ha, .inl (ca 2, 6, .inr (.inr (.inr (.inr qf)))))] s.heap.size = A at hD ⊢
  have hA : ∀ q : Nat, s.heap.size ≤ q → A q := fun q h => by rw [← hAe]; exact Or.inr h
  have hS : va_S A s.heap s.heap [] := va_S.rf
  have hP : va_P D vwCl [(h, .inr (0, [.ref ha, .int (nI dp)])), (ha, .inl (ca 2, 6, .inr (.inr (.inr (.inr qf)))))] s.heap := hP
  have hKv := hK.1
  have hl := lv_entry ([.ref h]) (n := 1) (kk_le rfl)
  rw [lg_entry_eq]
  generalize (lg_sl ([.ref h]) ++ List.replicate (1 - (lg_sl ([.ref h])).length) Slot.unset).toArray = ls at hl ⊢
  have hl : lv_has ls 1 [(0, .ref h)] := hl
  have hiX0 : ∀ w ∈ u_ws RX0 TX0 2, w ∈ wsX0_takeLatest := fun w h => by first | exact List.mem_cons_of_mem _ (List.mem_append_right _ h) | exact List.mem_cons_of_mem _ (List.mem_append_left _ (List.mem_append_right _ h)) | exact List.mem_cons_of_mem _ (List.mem_append_left _ (List.mem_append_left _ (List.mem_append_right _ h))) | exact List.mem_cons_of_mem _ (List.mem_append_left _ (List.mem_append_left _ (List.mem_append_left _ (List.mem_append_right _ h)))) | (revert w h; decide +kernel)
  have lk17 : (Cond.fieldLink RX0 17 "StripeSwipes$History" "depth" "I").before _ s = true := hts _ (by decide +kernel)
  have lk11 : (Cond.fieldLink RX0 11 "StripeSwipes$History" "states" "[LStripeSwipes$State;").before _ s = true := hts _ (by decide +kernel)
  refine lv_aload_n hx hb dX0_takeLatest_0 rfl (lv_at hl 0 rfl) ?_
  refine va_get (D := D) (ci := 0) (C := RX0) (T := TX0) (N := 2) hx hb hts hiX0 hown hKv hP 0 rfl rfl 1 (by decide) lk17 (fun _ h9 => h9) rfl dX0_takeLatest_1 ?_
  refine ni_if_le (tgt := 19) (by omega) hx hb dX0_takeLatest_4 (by decide) (fun c1 => ?_) (fun c1 => ?_)
  · exact absurd c1 (by omega)
  · refine lv_aload_n hx hb dX0_takeLatest_7 rfl (lv_at hl 0 rfl) ?_
    refine va_get (D := D) (ci := 0) (C := RX0) (T := TX0) (N := 2) hx hb hts hiX0 hown hKv hP 0 rfl rfl 1 (by decide) lk17 (fun _ h9 => h9) rfl dX0_takeLatest_8 ?_
    refine lv_aload_n hx hb dX0_takeLatest_11 rfl (lv_at hl 0 rfl) ?_
    refine va_get (D := D) (ci := 0) (C := RX0) (T := TX0) (N := 2) hx hb hts hiX0 hown hKv hP 0 rfl rfl 0 (by decide) lk11 (fun _ h9 => h9) rfl dX0_takeLatest_12 ?_
    refine va_alen (v := nI 6) hx hb hKv hP 1 2 rfl rfl rfl dX0_takeLatest_15 ?_
    refine ni_icmp_le (tgt := 21) (by omega) (by omega) hx hb dX0_takeLatest_16 (by decide) (fun c2 => ?_) (fun c2 => ?_)
    · refine lv_aload_n hx hb dX0_takeLatest_21 rfl (lv_at hl 0 rfl) ?_
      refine lv_dup hx hb dX0_takeLatest_22 rfl ?_
      refine va_get (D := D) (ci := 0) (C := RX0) (T := TX0) (N := 2) hx hb hts hiX0 hown hKv hP 0 rfl rfl 1 (by decide) lk17 (fun _ h9 => h9) rfl dX0_takeLatest_23 ?_
      refine lv_iconst (v := nI 1) hx hb dX0_takeLatest_26 (by decide) ?_
      refine ni_isub (by omega) hx hb dX0_takeLatest_27 ?_
      refine va_put (D := D) (ci := 0) (v := .int (nI (dp - 1))) (ty := .int) (C := RX0) (T := TX0) (N := 2) hx hb hts hiX0 tyX0 tyX0_ok nmX0 hown hKv hP hD hS 0 rfl rfl 1 (by decide) lk17 (fun _ h9 => h9) rfl (by decide +kernel) rfl rfl (kk_le rfl) dX0_takeLatest_28 (fun H locs hP hD hS => ?_)
      have hP : va_P D vwCl [(h, .inr (0, [.ref ha, .int (nI (dp - 1))])), (ha, .inl (ca 2, 6, .inr (.inr (.inr (.inr qf)))))] H := hP
      have hD : va_D A [(h, .inr (0, [.ref ha, .int (nI (dp - 1))])), (ha, .inl (ca 2, 6, .inr (.inr (.inr (.inr qf)))))] := hD
      refine lv_aload_n hx hb dX0_takeLatest_31 rfl (lv_at hl 0 rfl) ?_
      refine va_get (D := D) (ci := 0) (C := RX0) (T := TX0) (N := 2) hx hb hts hiX0 hown hKv hP 0 rfl rfl 0 (by decide) lk11 (fun _ h9 => h9) rfl dX0_takeLatest_32 ?_
      refine lv_aload_n hx hb dX0_takeLatest_35 rfl (lv_at hl 0 rfl) ?_
      refine va_get (D := D) (ci := 0) (C := RX0) (T := TX0) (N := 2) hx hb hts hiX0 hown hKv hP 0 rfl rfl 1 (by decide) lk17 (fun _ h9 => h9) rfl dX0_takeLatest_36 ?_
      refine my_aldq hx hb hK hP 1 rfl (by omega) (by omega) dX0_takeLatest_39 ?_
      rw [show va_rf (qf (dp - 1)) = Value.ref q from by rw [hq]; rfl]
      exact W.aret (v := .ref q) hx hb hr (Or.inl ⟨_, rfl⟩) (Or.inr ⟨_, rfl⟩) (fun t ht hW => ⟨⟨(), q, rfl, by trivial, rfl, by rw [ht]; exact hP, hD⟩, hS.F ht⟩) hS.2.2 dX0_takeLatest_40
    · exact absurd c2 (by omega)
