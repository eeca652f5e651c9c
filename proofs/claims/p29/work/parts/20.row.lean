abbrev rm_kX2_size : Room := { frames := 0, cells := 0, slots := 0, locals := 0 }
set_option maxHeartbeats 4000000 in
set_option maxRecDepth 100000 in
theorem kX2_size (l : Launch) (D : va_G) (ca : Nat → ClassId) (q a cap : Nat) (g : Nat → Int32) (n : Nat) (hn : n ≤ cap) (hc : cap < 1000000) : Met l yX2_size wsX2_size rm_kX2_size (pcR D ca [.ref q] [(q, .inr (2, [.ref a, .int (nI n)])), (a, .inl (ca 0, cap, .inl g))]) (vp_Si (fun z : Int32 => z = nI n)) 0 0 (fun _ => False) := by
  refine Met.ofW (cc := cX2_size) (maxL := 1) (ret := (some .int)) (by decide) rfl ?_
  intro p e s m args below meth c s₁ B hml hv
  obtain ⟨rfl, hP, hK⟩ := hv
  have hx := B.exec
  have hb := B.bytes
  have hr := B.returns
  have hts := atoms_spec (ws := wsX2_size) B.pre
  have hown : s.vm.findClass RX2 = some m.cls := findClass_of_methodNamed B.named
  have hlocks := B.notSynchronized
  have hKv := hK.1
  have hl := lv_entry ([.ref q]) (n := 1) (kk_le rfl)
  rw [lg_entry_eq]
  generalize (lg_sl ([.ref q]) ++ List.replicate (1 - (lg_sl ([.ref q])).length) Slot.unset).toArray = ls at hl ⊢
  have hl : lv_has ls 1 [(0, .ref q)] := hl
  have hiX2 : ∀ w ∈ u_ws RX2 TX2 2, w ∈ wsX2_size := fun w h => by first | exact List.mem_cons_of_mem _ (List.mem_append_right _ h) | exact List.mem_cons_of_mem _ (List.mem_append_left _ (List.mem_append_right _ h)) | exact List.mem_cons_of_mem _ (List.mem_append_left _ (List.mem_append_left _ (List.mem_append_right _ h))) | exact List.mem_cons_of_mem _ (List.mem_append_left _ (List.mem_append_left _ (List.mem_append_left _ (List.mem_append_right _ h)))) | (revert w h; decide +kernel)
  have lk9 : (Cond.fieldLink RX2 9 "StripeSwipes$Row" "size" "I").before _ s = true := hts _ (by decide +kernel)
  refine lv_aload_n hx hb dX2_size_0 rfl (lv_at hl 0 rfl) ?_
  refine va_get (D := D) (ci := 2) (C := RX2) (T := TX2) (N := 2) hx hb hts hiX2 hown hKv hP 0 rfl rfl 1 (by decide) lk9 (fun _ h9 => h9) rfl dX2_size_1 ?_
  exact W.iret (v := nI n) hx hb hr (fun t ht _ => ⟨_, rfl, by first | rfl | assumption | omega | trivial | (exfalso; omega), ht⟩) (fun _ h => nomatch h) dX2_size_4
abbrev rm_kX2_at : Room := { frames := 0, cells := 0, slots := 0, locals := 0 }
set_option maxHeartbeats 4000000 in
set_option maxRecDepth 100000 in
theorem kX2_at (l : Launch) (D : va_G) (ca : Nat → ClassId) (q a cap : Nat) (g : Nat → Int32) (n : Nat) (x : Int32) (hn : n ≤ cap) (hc : cap < 1000000) : Met l yX2_at wsX2_at rm_kX2_at (pcR D ca [.ref q, .int x] [(q, .inr (2, [.ref a, .int (nI n)])), (a, .inl (ca 0, cap, .inl g))]) (vp_Si (fun z : Int32 => z = atF g n x)) 0 0 (fun _ => False) := by
  refine Met.ofW (cc := cX2_at) (maxL := 2) (ret := (some .int)) (by decide) rfl ?_
  intro p e s m args below meth c s₁ B hml hv
  obtain ⟨rfl, hP, hK⟩ := hv
  have hx := B.exec
  have hb := B.bytes
  have hr := B.returns
  have hts := atoms_spec (ws := wsX2_at) B.pre
  have hown : s.vm.findClass RX2 = some m.cls := findClass_of_methodNamed B.named
  have hlocks := B.notSynchronized
  have hKv := hK.1
  have hl := lv_entry ([.ref q, .int x]) (n := 2) (kk_le rfl)
  rw [lg_entry_eq]
  generalize (lg_sl ([.ref q, .int x]) ++ List.replicate (2 - (lg_sl ([.ref q, .int x])).length) Slot.unset).toArray = ls at hl ⊢
  have hl : lv_has ls 2 [(0, .ref q), (1, .int x)] := hl
  have hiX2 : ∀ w ∈ u_ws RX2 TX2 2, w ∈ wsX2_at := fun w h => by first | exact List.mem_cons_of_mem _ (List.mem_append_right _ h) | exact List.mem_cons_of_mem _ (List.mem_append_left _ (List.mem_append_right _ h)) | exact List.mem_cons_of_mem _ (List.mem_append_left _ (List.mem_append_left _ (List.mem_append_right _ h))) | exact List.mem_cons_of_mem _ (List.mem_append_left _ (List.mem_append_left _ (List.mem_append_left _ (List.mem_append_right _ h)))) | (revert w h; decide +kernel)
  have lk9 : (Cond.fieldLink RX2 9 "StripeSwipes$Row" "size" "I").before _ s = true := hts _ (by decide +kernel)
  have lk21 : (Cond.fieldLink RX2 21 "StripeSwipes$Row" "items" "[I").before _ s = true := hts _ (by decide +kernel)
  refine lv_iload_n hx hb dX2_at_0 rfl (lv_at hl 1 rfl) ?_
  refine lv_if_lt (tgt := 30) hx hb dX2_at_1 (by decide) (fun c1 => ?_) (fun c1 => ?_)
  · refine lv_iconst (v := (-1)) hx hb dX2_at_30 (by decide) ?_
    exact W.iret (v := (-1)) hx hb hr (fun t ht _ => ⟨_, rfl, by first | exact (atF_lo (by assumption)).symm | exact (atF_hi (by assumption)).symm | exact (atF_in (by omega) (by omega)).symm | omega, ht⟩) (fun _ h => nomatch h) dX2_at_31
  · refine lv_iload_n hx hb dX2_at_4 rfl (lv_at hl 1 rfl) ?_
    refine lv_aload_n hx hb dX2_at_5 rfl (lv_at hl 0 rfl) ?_
    refine va_get (D := D) (ci := 2) (C := RX2) (T := TX2) (N := 2) hx hb hts hiX2 hown hKv hP 0 rfl rfl 1 (by decide) lk9 (fun _ h9 => h9) rfl dX2_at_6 ?_
    refine lv_icmp_ge (tgt := 30) hx hb dX2_at_9 (by decide) (fun c2 => ?_) (fun c2 => ?_)
    · refine lv_iconst (v := (-1)) hx hb dX2_at_30 (by decide) ?_
      exact W.iret (v := (-1)) hx hb hr (fun t ht _ => ⟨_, rfl, by first | exact (atF_lo (by assumption)).symm | exact (atF_hi (by assumption)).symm | exact (atF_in (by omega) (by omega)).symm | omega, ht⟩) (fun _ h => nomatch h) dX2_at_31
    · obtain ⟨j, hj, rfl⟩ := ni_of (n := n) (by assumption) (by assumption) (by omega)
      have hl : lv_has ls 2 [(0, .ref q), (1, .int (nI j))] := hl
      refine lv_iload_n hx hb dX2_at_12 rfl (lv_at hl 1 rfl) ?_
      refine lv_aload_n hx hb dX2_at_13 rfl (lv_at hl 0 rfl) ?_
      refine va_get (D := D) (ci := 2) (C := RX2) (T := TX2) (N := 2) hx hb hts hiX2 hown hKv hP 0 rfl rfl 0 (by decide) lk21 (fun _ h9 => h9) rfl dX2_at_14 ?_
      refine va_alen (v := nI cap) hx hb hKv hP 1 0 rfl rfl rfl dX2_at_17 ?_
      refine ni_icmp_ge (tgt := 30) (by omega) (by omega) hx hb dX2_at_18 (by decide) (fun c3 => ?_) (fun c3 => ?_)
      · refine lv_iconst (v := (-1)) hx hb dX2_at_30 (by decide) ?_
        exact W.iret (v := (-1)) hx hb hr (fun t ht _ => ⟨_, rfl, by first | exact (atF_lo (by assumption)).symm | exact (atF_hi (by assumption)).symm | exact (atF_in (by omega) (by omega)).symm | omega, ht⟩) (fun _ h => nomatch h) dX2_at_31
      · refine lv_aload_n hx hb dX2_at_21 rfl (lv_at hl 0 rfl) ?_
        refine va_get (D := D) (ci := 2) (C := RX2) (T := TX2) (N := 2) hx hb hts hiX2 hown hKv hP 0 rfl rfl 0 (by decide) lk21 (fun _ h9 => h9) rfl dX2_at_22 ?_
        refine lv_iload_n hx hb dX2_at_25 rfl (lv_at hl 1 rfl) ?_
        refine my_iald hx hb hK hP 1 rfl (by omega) (by omega) dX2_at_26 ?_
        refine lv_goto (tgt := 31) hx hb dX2_at_27 (by decide) ?_
        exact W.iret (v := g j) hx hb hr (fun t ht _ => ⟨_, rfl, by first | exact (atF_lo (by assumption)).symm | exact (atF_hi (by assumption)).symm | exact (atF_in (by omega) (by omega)).symm | omega, ht⟩) (fun _ h => nomatch h) dX2_at_31
theorem kX2_at_in (l : Launch) (D : va_G) (ca : Nat → ClassId) (q a cap : Nat) (g : Nat → Int32) (n j : Nat) (hn : n ≤ cap) (hc : cap < 1000000) (hj : j < n) : Met l yX2_at wsX2_at rm_kX2_at (pcR D ca [.ref q, .int (nI j)] [(q, .inr (2, [.ref a, .int (nI n)])), (a, .inl (ca 0, cap, .inl g))]) (vp_Si (fun z : Int32 => z = g j)) 0 0 (fun _ => False) := by
  have h := kX2_at l D ca q a cap g n (nI j) hn hc
  rw [atF_in hj (by omega)] at h
  exact h
abbrev rm_kX2_has : Room := { frames := 0, cells := 0, slots := 0, locals := 0 }
set_option maxHeartbeats 4000000 in
set_option maxRecDepth 100000 in
theorem kX2_has (l : Launch) (D : va_G) (ca : Nat → ClassId) (q a cap : Nat) (g : Nat → Int32) (n : Nat) (x : Int32) (hn : n ≤ cap) (hc : cap < 1000000) : Met l yX2_has wsX2_has rm_kX2_has (pcR D ca [.ref q, .int x] [(q, .inr (2, [.ref a, .int (nI n)])), (a, .inl (ca 0, cap, .inl g))]) (vp_Si (fun z : Int32 => z = bI (hasF n x))) 0 0 (fun _ => False) := by
  refine Met.ofW (cc := cX2_has) (maxL := 2) (ret := (some .boolean)) (by decide) rfl ?_
  intro p e s m args below meth c s₁ B hml hv
  obtain ⟨rfl, hP, hK⟩ := hv
  have hx := B.exec
  have hb := B.bytes
  have hr := B.returns
  have hts := atoms_spec (ws := wsX2_has) B.pre
  have hown : s.vm.findClass RX2 = some m.cls := findClass_of_methodNamed B.named
  have hlocks := B.notSynchronized
  have hKv := hK.1
  have hl := lv_entry ([.ref q, .int x]) (n := 2) (kk_le rfl)
  rw [lg_entry_eq]
  generalize (lg_sl ([.ref q, .int x]) ++ List.replicate (2 - (lg_sl ([.ref q, .int x])).length) Slot.unset).toArray = ls at hl ⊢
  have hl : lv_has ls 2 [(0, .ref q), (1, .int x)] := hl
  have hiX2 : ∀ w ∈ u_ws RX2 TX2 2, w ∈ wsX2_has := fun w h => by first | exact List.mem_cons_of_mem _ (List.mem_append_right _ h) | exact List.mem_cons_of_mem _ (List.mem_append_left _ (List.mem_append_right _ h)) | exact List.mem_cons_of_mem _ (List.mem_append_left _ (List.mem_append_left _ (List.mem_append_right _ h))) | exact List.mem_cons_of_mem _ (List.mem_append_left _ (List.mem_append_left _ (List.mem_append_left _ (List.mem_append_right _ h)))) | (revert w h; decide +kernel)
  have lk9 : (Cond.fieldLink RX2 9 "StripeSwipes$Row" "size" "I").before _ s = true := hts _ (by decide +kernel)
  refine lv_iload_n hx hb dX2_has_0 rfl (lv_at hl 1 rfl) ?_
  refine lv_if_lt (tgt := 16) hx hb dX2_has_1 (by decide) (fun c1 => ?_) (fun c1 => ?_)
  · refine lv_iconst (v := nI 0) hx hb dX2_has_16 (by decide) ?_
    exact W.zret (v := nI 0) hx hb hr (by first | rfl | exact bI_nar _ | exact bI_fit _ | (first | exact Or.inl rfl | exact Or.inr rfl)) (fun t ht _ => ⟨_, rfl, by first | exact (congrArg bI (hasF_lo (by assumption))).symm | exact (congrArg bI (hasF_hi (by assumption))).symm | exact (congrArg bI (hasF_in (by assumption) (by assumption))).symm, ht⟩) (fun _ h => nomatch h) dX2_has_17
  · refine lv_iload_n hx hb dX2_has_4 rfl (lv_at hl 1 rfl) ?_
    refine lv_aload_n hx hb dX2_has_5 rfl (lv_at hl 0 rfl) ?_
    refine va_get (D := D) (ci := 2) (C := RX2) (T := TX2) (N := 2) hx hb hts hiX2 hown hKv hP 0 rfl rfl 1 (by decide) lk9 (fun _ h9 => h9) rfl dX2_has_6 ?_
    refine lv_icmp_ge (tgt := 16) hx hb dX2_has_9 (by decide) (fun c2 => ?_) (fun c2 => ?_)
    · refine lv_iconst (v := nI 0) hx hb dX2_has_16 (by decide) ?_
      exact W.zret (v := nI 0) hx hb hr (by first | rfl | exact bI_nar _ | exact bI_fit _ | (first | exact Or.inl rfl | exact Or.inr rfl)) (fun t ht _ => ⟨_, rfl, by first | exact (congrArg bI (hasF_lo (by assumption))).symm | exact (congrArg bI (hasF_hi (by assumption))).symm | exact (congrArg bI (hasF_in (by assumption) (by assumption))).symm, ht⟩) (fun _ h => nomatch h) dX2_has_17
    · refine lv_iconst (v := nI 1) hx hb dX2_has_12 (by decide) ?_
      refine lv_goto (tgt := 17) hx hb dX2_has_13 (by decide) ?_
      exact W.zret (v := nI 1) hx hb hr (by first | rfl | exact bI_nar _ | exact bI_fit _ | (first | exact Or.inl rfl | exact Or.inr rfl)) (fun t ht _ => ⟨_, rfl, by first | exact (congrArg bI (hasF_lo (by assumption))).symm | exact (congrArg bI (hasF_hi (by assumption))).symm | exact (congrArg bI (hasF_in (by assumption) (by assumption))).symm, ht⟩) (fun _ h => nomatch h) dX2_has_17
theorem kX2_has_n (l : Launch) (D : va_G) (ca : Nat → ClassId) (q a cap : Nat) (g : Nat → Int32) (n j : Nat) (hn : n ≤ cap) (hc : cap < 1000000) (hj : j < 2147483648) : Met l yX2_has wsX2_has rm_kX2_has (pcR D ca [.ref q, .int (nI j)] [(q, .inr (2, [.ref a, .int (nI n)])), (a, .inl (ca 0, cap, .inl g))]) (vp_Si (fun z : Int32 => z = bI (decide (j < n)))) 0 0 (fun _ => False) := by
  have h := kX2_has l D ca q a cap g n (nI j) hn hc
  rw [hasF_n hj (by omega)] at h
  exact h
abbrev rm_kX2_put : Room := { frames := 0, cells := 0, slots := 0, locals := 0 }
set_option maxHeartbeats 4000000 in
set_option maxRecDepth 100000 in
theorem kX2_put (l : Launch) (D : va_G) (ca : Nat → ClassId) (sz : Nat) (q a cap : Nat) (g : Nat → Int32) (n : Nat) (j : Nat) (v : Int32) (hn : n ≤ cap) (hc : cap < 1000000) (hj : j < n) : Met l yX2_put wsX2_put rm_kX2_put (pcM D ca [.ref q, .int (nI j), .int v] [(q, .inr (2, [.ref a, .int (nI n)])), (a, .inl (ca 0, cap, .inl g))] sz) (va_Qv (fun (u : Unit) => True) (qB D (va_A [(q, .inr (2, [.ref a, .int (nI n)])), (a, .inl (ca 0, cap, .inl g))] sz) (fun u : Unit => [(q, .inr (2, [.ref a, .int (nI n)])), (a, .inl (ca 0, cap, .inl (upd g j v)))])) (va_A [(q, .inr (2, [.ref a, .int (nI n)])), (a, .inl (ca 0, cap, .inl g))] sz)) 0 0 (va_A [(q, .inr (2, [.ref a, .int (nI n)])), (a, .inl (ca 0, cap, .inl g))] sz) := by
  refine Met.ofW (cc := cX2_put) (maxL := 3) (ret := none) (by decide) rfl ?_
  intro p e s m args below meth c s₁ B hml hv
  obtain ⟨rfl, hsz, hP, hK, hD0⟩ := hv
  have hx := B.exec
  have hb := B.bytes
  have hr := B.returns
  have hts := atoms_spec (ws := wsX2_put) B.pre
  have hown : s.vm.findClass RX2 = some m.cls := findClass_of_methodNamed B.named
  have hlocks := B.notSynchronized
  subst hsz
  have hD := hD0.self (sz := s.heap.size)
  generalize hAe : va_A [(q, .inr (2, [.ref a, .int (nI n)])), (a, .inl (ca 0, cap, .inl g))] s.heap.size = A at hD ⊢
  have hA : ∀ q : Nat, s.heap.size ≤ q → A q := fun q h => by rw [← hAe]; exact Or.inr h
  have hS : va_S A s.heap s.heap [] := va_S.rf
  have hP : va_P D vwCl [(q, .inr (2, [.ref a, .int (nI n)])), (a, .inl (ca 0, cap, .inl g))] s.heap := hP
  have hKv := hK.1
  have hl := lv_entry ([.ref q, .int (nI j), .int v]) (n := 3) (kk_le rfl)
  rw [lg_entry_eq]
  generalize (lg_sl ([.ref q, .int (nI j), .int v]) ++ List.replicate (3 - (lg_sl ([.ref q, .int (nI j), .int v])).length) Slot.unset).toArray = ls at hl ⊢
  have hl : lv_has ls 3 [(0, .ref q), (1, .int (nI j)), (2, .int v)] := hl
  have hiX2 : ∀ w ∈ u_ws RX2 TX2 2, w ∈ wsX2_put := fun w h => by first | exact List.mem_cons_of_mem _ (List.mem_append_right _ h) | exact List.mem_cons_of_mem _ (List.mem_append_left _ (List.mem_append_right _ h)) | exact List.mem_cons_of_mem _ (List.mem_append_left _ (List.mem_append_left _ (List.mem_append_right _ h))) | exact List.mem_cons_of_mem _ (List.mem_append_left _ (List.mem_append_left _ (List.mem_append_left _ (List.mem_append_right _ h)))) | (revert w h; decide +kernel)
  have lk9 : (Cond.fieldLink RX2 9 "StripeSwipes$Row" "size" "I").before _ s = true := hts _ (by decide +kernel)
  have lk21 : (Cond.fieldLink RX2 21 "StripeSwipes$Row" "items" "[I").before _ s = true := hts _ (by decide +kernel)
  refine lv_iload_n hx hb dX2_put_0 rfl (lv_at hl 1 rfl) ?_
  refine ni_if_lt (tgt := 28) (by omega) hx hb dX2_put_1 (by decide) (fun c1 => ?_) (fun c1 => ?_)
  · first | exact False.elim c1 | (exfalso; omega)
  · refine lv_iload_n hx hb dX2_put_4 rfl (lv_at hl 1 rfl) ?_
    refine lv_aload_n hx hb dX2_put_5 rfl (lv_at hl 0 rfl) ?_
    refine va_get (D := D) (ci := 2) (C := RX2) (T := TX2) (N := 2) hx hb hts hiX2 hown hKv hP 0 rfl rfl 1 (by decide) lk9 (fun _ h9 => h9) rfl dX2_put_6 ?_
    refine ni_icmp_ge (tgt := 28) (by omega) (by omega) hx hb dX2_put_9 (by decide) (fun c2 => ?_) (fun c2 => ?_)
    · first | exact False.elim c2 | (exfalso; omega)
    · refine lv_iload_n hx hb dX2_put_12 rfl (lv_at hl 1 rfl) ?_
      refine lv_aload_n hx hb dX2_put_13 rfl (lv_at hl 0 rfl) ?_
      refine va_get (D := D) (ci := 2) (C := RX2) (T := TX2) (N := 2) hx hb hts hiX2 hown hKv hP 0 rfl rfl 0 (by decide) lk21 (fun _ h9 => h9) rfl dX2_put_14 ?_
      refine va_alen (v := nI cap) hx hb hKv hP 1 0 rfl rfl rfl dX2_put_17 ?_
      refine ni_icmp_ge (tgt := 28) (by omega) (by omega) hx hb dX2_put_18 (by decide) (fun c3 => ?_) (fun c3 => ?_)
      · first | exact False.elim c3 | (exfalso; omega)
      · refine lv_aload_n hx hb dX2_put_21 rfl (lv_at hl 0 rfl) ?_
        refine va_get (D := D) (ci := 2) (C := RX2) (T := TX2) (N := 2) hx hb hts hiX2 hown hKv hP 0 rfl rfl 0 (by decide) lk21 (fun _ h9 => h9) rfl dX2_put_22 ?_
        refine lv_iload_n hx hb dX2_put_25 rfl (lv_at hl 1 rfl) ?_
        refine lv_iload_n hx hb dX2_put_26 rfl (lv_at hl 2 rfl) ?_
        refine my_iast hx hb hK hP hD hS 1 rfl (by omega) (by omega) dX2_put_27 (fun H locs hP hD hS => ?_)
        have hP : va_P D vwCl [(q, .inr (2, [.ref a, .int (nI n)])), (a, .inl (ca 0, cap, .inl (upd g j v)))] H := hP
        have hD : va_D A [(q, .inr (2, [.ref a, .int (nI n)])), (a, .inl (ca 0, cap, .inl (upd g j v)))] := hD
        exact W.vret hx hb hr (fun t ht hW => ⟨⟨(), rfl, by trivial, by rw [ht]; exact hP, hD⟩, hS.F ht⟩) hS.2.2 dX2_put_28
abbrev rm_kX2_add : Room := { frames := 0, cells := 0, slots := 0, locals := 0 }
set_option maxHeartbeats 4000000 in
set_option maxRecDepth 100000 in
theorem kX2_add (l : Launch) (D : va_G) (ca : Nat → ClassId) (sz : Nat) (q a cap : Nat) (g : Nat → Int32) (n : Nat) (x : Int32) (hn : n < cap) (hc : cap < 1000000) : Met l yX2_add wsX2_add rm_kX2_add (pcM D ca [.ref q, .int x] [(q, .inr (2, [.ref a, .int (nI n)])), (a, .inl (ca 0, cap, .inl g))] sz) (va_Qi (fun (z : Int32) (u : Unit) => z = bI true ∧ True) (qB D (va_A [(q, .inr (2, [.ref a, .int (nI n)])), (a, .inl (ca 0, cap, .inl g))] sz) (fun u : Unit => [(q, .inr (2, [.ref a, .int (nI (n + 1))])), (a, .inl (ca 0, cap, .inl (upd g n x)))])) (va_A [(q, .inr (2, [.ref a, .int (nI n)])), (a, .inl (ca 0, cap, .inl g))] sz)) 0 0 (va_A [(q, .inr (2, [.ref a, .int (nI n)])), (a, .inl (ca 0, cap, .inl g))] sz) := by
  refine Met.ofW (cc := cX2_add) (maxL := 2) (ret := (some .boolean)) (by decide) rfl ?_
  intro p e s m args below meth c s₁ B hml hv
  obtain ⟨rfl, hsz, hP, hK, hD0⟩ := hv
  have hx := B.exec
  have hb := B.bytes
  have hr := B.returns
  have hts := atoms_spec (ws := wsX2_add) B.pre
  have hown : s.vm.findClass RX2 = some m.cls := findClass_of_methodNamed B.named
  have hlocks := B.notSynchronized
  subst hsz
  have hD := hD0.self (sz := s.heap.size)
  generalize hAe : va_A [(q, .inr (2, [.ref a, .int (nI n)])), (a, .inl (ca 0, cap, .inl g))] s.heap.size = A at hD ⊢
  have hA : ∀ q : Nat, s.heap.size ≤ q → A q := fun q h => by rw [← hAe]; exact Or.inr h
  have hS : va_S A s.heap s.heap [] := va_S.rf
  have hP : va_P D vwCl [(q, .inr (2, [.ref a, .int (nI n)])), (a, .inl (ca 0, cap, .inl g))] s.heap := hP
  have hKv := hK.1
  have hl := lv_entry ([.ref q, .int x]) (n := 2) (kk_le rfl)
  rw [lg_entry_eq]
  generalize (lg_sl ([.ref q, .int x]) ++ List.replicate (2 - (lg_sl ([.ref q, .int x])).length) Slot.unset).toArray = ls at hl ⊢
  have hl : lv_has ls 2 [(0, .ref q), (1, .int x)] := hl
  have hiX2 : ∀ w ∈ u_ws RX2 TX2 2, w ∈ wsX2_add := fun w h => by first | exact List.mem_cons_of_mem _ (List.mem_append_right _ h) | exact List.mem_cons_of_mem _ (List.mem_append_left _ (List.mem_append_right _ h)) | exact List.mem_cons_of_mem _ (List.mem_append_left _ (List.mem_append_left _ (List.mem_append_right _ h))) | exact List.mem_cons_of_mem _ (List.mem_append_left _ (List.mem_append_left _ (List.mem_append_left _ (List.mem_append_right _ h)))) | (revert w h; decide +kernel)
  have lk9 : (Cond.fieldLink RX2 9 "StripeSwipes$Row" "size" "I").before _ s = true := hts _ (by decide +kernel)
  have lk21 : (Cond.fieldLink RX2 21 "StripeSwipes$Row" "items" "[I").before _ s = true := hts _ (by decide +kernel)
  refine lv_aload_n hx hb dX2_add_0 rfl (lv_at hl 0 rfl) ?_
  refine va_get (D := D) (ci := 2) (C := RX2) (T := TX2) (N := 2) hx hb hts hiX2 hown hKv hP 0 rfl rfl 1 (by decide) lk9 (fun _ h9 => h9) rfl dX2_add_1 ?_
  refine ni_if_lt (tgt := 19) (by omega) hx hb dX2_add_4 (by decide) (fun c1 => ?_) (fun c1 => ?_)
  · first | exact False.elim c1 | (exfalso; omega)
  · refine lv_aload_n hx hb dX2_add_7 rfl (lv_at hl 0 rfl) ?_
    refine va_get (D := D) (ci := 2) (C := RX2) (T := TX2) (N := 2) hx hb hts hiX2 hown hKv hP 0 rfl rfl 1 (by decide) lk9 (fun _ h9 => h9) rfl dX2_add_8 ?_
    refine lv_aload_n hx hb dX2_add_11 rfl (lv_at hl 0 rfl) ?_
    refine va_get (D := D) (ci := 2) (C := RX2) (T := TX2) (N := 2) hx hb hts hiX2 hown hKv hP 0 rfl rfl 0 (by decide) lk21 (fun _ h9 => h9) rfl dX2_add_12 ?_
    refine va_alen (v := nI cap) hx hb hKv hP 1 0 rfl rfl rfl dX2_add_15 ?_
    refine ni_icmp_lt (tgt := 21) (by omega) (by omega) hx hb dX2_add_16 (by decide) (fun c2 => ?_) (fun c2 => ?_)
    · refine lv_aload_n hx hb dX2_add_21 rfl (lv_at hl 0 rfl) ?_
      refine va_get (D := D) (ci := 2) (C := RX2) (T := TX2) (N := 2) hx hb hts hiX2 hown hKv hP 0 rfl rfl 0 (by decide) lk21 (fun _ h9 => h9) rfl dX2_add_22 ?_
      refine lv_aload_n hx hb dX2_add_25 rfl (lv_at hl 0 rfl) ?_
      refine va_get (D := D) (ci := 2) (C := RX2) (T := TX2) (N := 2) hx hb hts hiX2 hown hKv hP 0 rfl rfl 1 (by decide) lk9 (fun _ h9 => h9) rfl dX2_add_26 ?_
      refine lv_iload_n hx hb dX2_add_29 rfl (lv_at hl 1 rfl) ?_
      refine my_iast hx hb hK hP hD hS 1 rfl (by omega) (by omega) dX2_add_30 (fun H locs hP hD hS => ?_)
      have hP : va_P D vwCl [(q, .inr (2, [.ref a, .int (nI n)])), (a, .inl (ca 0, cap, .inl (upd g n x)))] H := hP
      have hD : va_D A [(q, .inr (2, [.ref a, .int (nI n)])), (a, .inl (ca 0, cap, .inl (upd g n x)))] := hD
      refine lv_aload_n hx hb dX2_add_31 rfl (lv_at hl 0 rfl) ?_
      refine lv_dup hx hb dX2_add_32 rfl ?_
      refine va_get (D := D) (ci := 2) (C := RX2) (T := TX2) (N := 2) hx hb hts hiX2 hown hKv hP 0 rfl rfl 1 (by decide) lk9 (fun _ h9 => h9) rfl dX2_add_33 ?_
      refine lv_iconst (v := nI 1) hx hb dX2_add_36 (by decide) ?_
      refine ni_iadd hx hb dX2_add_37 ?_
      refine va_put (D := D) (ci := 2) (v := .int (nI (n + 1))) (ty := .int) (C := RX2) (T := TX2) (N := 2) hx hb hts hiX2 tyX2 tyX2_ok nmX2 hown hKv hP hD hS 0 rfl rfl 1 (by decide) lk9 (fun _ h9 => h9) rfl (by decide +kernel) rfl rfl (kk_le rfl) dX2_add_38 (fun H locs hP hD hS => ?_)
      have hP : va_P D vwCl [(q, .inr (2, [.ref a, .int (nI (n + 1))])), (a, .inl (ca 0, cap, .inl (upd g n x)))] H := hP
      have hD : va_D A [(q, .inr (2, [.ref a, .int (nI (n + 1))])), (a, .inl (ca 0, cap, .inl (upd g n x)))] := hD
      refine lv_iconst (v := nI 1) hx hb dX2_add_41 (by decide) ?_
      exact W.zret (v := nI 1) hx hb hr (by first | rfl | exact bI_nar _ | exact bI_fit _ | (first | exact Or.inl rfl | exact Or.inr rfl)) (fun t ht hW => ⟨⟨_, (), rfl, ⟨by rfl, by trivial⟩, by rw [ht]; exact hP, hD⟩, hS.F ht⟩) hS.2.2 dX2_add_42
    · first | exact False.elim c2 | (exfalso; omega)
abbrev rm_kX2_empty : Room := { frames := 0, cells := 0, slots := 0, locals := 0 }
set_option maxHeartbeats 4000000 in
set_option maxRecDepth 100000 in
theorem kX2_empty (l : Launch) (D : va_G) (ca : Nat → ClassId) (sz : Nat) (q a cap : Nat) (g : Nat → Int32) (n : Nat) (hn : n ≤ cap) (hc : cap < 1000000) : Met l yX2_empty wsX2_empty rm_kX2_empty (pcM D ca [.ref q] [(q, .inr (2, [.ref a, .int (nI n)])), (a, .inl (ca 0, cap, .inl g))] sz) (va_Qv (fun (u : Unit) => True) (qB D (va_A [(q, .inr (2, [.ref a, .int (nI n)])), (a, .inl (ca 0, cap, .inl g))] sz) (fun u : Unit => [(q, .inr (2, [.ref a, .int (nI 0)])), (a, .inl (ca 0, cap, .inl g))])) (va_A [(q, .inr (2, [.ref a, .int (nI n)])), (a, .inl (ca 0, cap, .inl g))] sz)) 0 0 (va_A [(q, .inr (2, [.ref a, .int (nI n)])), (a, .inl (ca 0, cap, .inl g))] sz) := by
  refine Met.ofW (cc := cX2_empty) (maxL := 1) (ret := none) (by decide) rfl ?_
  intro p e s m args below meth c s₁ B hml hv
  obtain ⟨rfl, hsz, hP, hK, hD0⟩ := hv
  have hx := B.exec
  have hb := B.bytes
  have hr := B.returns
  have hts := atoms_spec (ws := wsX2_empty) B.pre
  have hown : s.vm.findClass RX2 = some m.cls := findClass_of_methodNamed B.named
  have hlocks := B.notSynchronized
  subst hsz
  have hD := hD0.self (sz := s.heap.size)
  generalize hAe : va_A [(q, .inr (2, [.ref a, .int (nI n)])), (a, .inl (ca 0, cap, .inl g))] s.heap.size = A at hD ⊢
  have hA : ∀ q : Nat, s.heap.size ≤ q → A q := fun q h => by rw [← hAe]; exact Or.inr h
  have hS : va_S A s.heap s.heap [] := va_S.rf
  have hP : va_P D vwCl [(q, .inr (2, [.ref a, .int (nI n)])), (a, .inl (ca 0, cap, .inl g))] s.heap := hP
  have hKv := hK.1
  have hl := lv_entry ([.ref q]) (n := 1) (kk_le rfl)
  rw [lg_entry_eq]
  generalize (lg_sl ([.ref q]) ++ List.replicate (1 - (lg_sl ([.ref q])).length) Slot.unset).toArray = ls at hl ⊢
  have hl : lv_has ls 1 [(0, .ref q)] := hl
  have hiX2 : ∀ w ∈ u_ws RX2 TX2 2, w ∈ wsX2_empty := fun w h => by first | exact List.mem_cons_of_mem _ (List.mem_append_right _ h) | exact List.mem_cons_of_mem _ (List.mem_append_left _ (List.mem_append_right _ h)) | exact List.mem_cons_of_mem _ (List.mem_append_left _ (List.mem_append_left _ (List.mem_append_right _ h))) | exact List.mem_cons_of_mem _ (List.mem_append_left _ (List.mem_append_left _ (List.mem_append_left _ (List.mem_append_right _ h)))) | (revert w h; decide +kernel)
  have lk9 : (Cond.fieldLink RX2 9 "StripeSwipes$Row" "size" "I").before _ s = true := hts _ (by decide +kernel)
  refine lv_aload_n hx hb dX2_empty_0 rfl (lv_at hl 0 rfl) ?_
  refine lv_iconst (v := nI 0) hx hb dX2_empty_1 (by decide) ?_
  refine va_put (D := D) (ci := 2) (v := .int (nI 0)) (ty := .int) (C := RX2) (T := TX2) (N := 2) hx hb hts hiX2 tyX2 tyX2_ok nmX2 hown hKv hP hD hS 0 rfl rfl 1 (by decide) lk9 (fun _ h9 => h9) rfl (by decide +kernel) rfl rfl (kk_le rfl) dX2_empty_2 (fun H locs hP hD hS => ?_)
  have hP : va_P D vwCl [(q, .inr (2, [.ref a, .int (nI 0)])), (a, .inl (ca 0, cap, .inl g))] H := hP
  have hD : va_D A [(q, .inr (2, [.ref a, .int (nI 0)])), (a, .inl (ca 0, cap, .inl g))] := hD
  exact W.vret hx hb hr (fun t ht hW => ⟨⟨(), rfl, by trivial, by rw [ht]; exact hP, hD⟩, hS.F ht⟩) hS.2.2 dX2_empty_5
abbrev rm_kX2_insert : Room := { frames := 1, cells := 0, slots := 0, locals := 22 }
set_option maxHeartbeats 4000000 in
set_option maxRecDepth 100000 in
theorem kX2_insert (l : Launch) (D : va_G) (ca : Nat → ClassId) (sz : Nat) (q a cap : Nat) (g : Nat → Int32) (n : Nat) (j : Nat) (v : Int32) (hn : n < cap) (hc : cap < 1000000) (hj : j ≤ n) : Met l yX2_insert wsX2_insert rm_kX2_insert (pcM D ca [.ref q, .int (nI j), .int v] [(q, .inr (2, [.ref a, .int (nI n)])), (a, .inl (ca 0, cap, .inl g))] sz) (va_Qv (fun (u : Unit) => True) (qB D (va_A [(q, .inr (2, [.ref a, .int (nI n)])), (a, .inl (ca 0, cap, .inl g))] sz) (fun u : Unit => [(q, .inr (2, [.ref a, .int (nI (n + 1))])), (a, .inl (ca 0, cap, .inl (insF g n j v)))])) (va_A [(q, .inr (2, [.ref a, .int (nI n)])), (a, .inl (ca 0, cap, .inl g))] sz)) 0 0 (va_A [(q, .inr (2, [.ref a, .int (nI n)])), (a, .inl (ca 0, cap, .inl g))] sz) := by
  refine Met.ofW (cc := cX2_insert) (maxL := 4) (ret := none) (by decide) rfl ?_
  intro p e s m args below meth c s₁ B hml hv
  obtain ⟨rfl, hsz, hP, hK, hD0⟩ := hv
  have hx := B.exec
  have hb := B.bytes
  have hr := B.returns
  have hts := atoms_spec (ws := wsX2_insert) B.pre
  have hown : s.vm.findClass RX2 = some m.cls := findClass_of_methodNamed B.named
  have hlocks := B.notSynchronized
  subst hsz
  have hD := hD0.self (sz := s.heap.size)
  generalize hAe : va_A [(q, .inr (2, [.ref a, .int (nI n)])), (a, .inl (ca 0, cap, .inl g))] s.heap.size = A at hD ⊢
  have hA : ∀ q : Nat, s.heap.size ≤ q → A q := fun q h => by rw [← hAe]; exact Or.inr h
  have hS : va_S A s.heap s.heap [] := va_S.rf
  have hP : va_P D vwCl [(q, .inr (2, [.ref a, .int (nI n)])), (a, .inl (ca 0, cap, .inl g))] s.heap := hP
  have hKv := hK.1
  have hl := lv_entry ([.ref q, .int (nI j), .int v]) (n := 4) (kk_le rfl)
  rw [lg_entry_eq]
  generalize (lg_sl ([.ref q, .int (nI j), .int v]) ++ List.replicate (4 - (lg_sl ([.ref q, .int (nI j), .int v])).length) Slot.unset).toArray = ls at hl ⊢
  have hl : lv_has ls 4 [(0, .ref q), (1, .int (nI j)), (2, .int v)] := hl
  generalize hQz : MQ below _ _ _ _ _ _ = Qz
  have hiX2 : ∀ w ∈ u_ws RX2 TX2 2, w ∈ wsX2_insert := fun w h => by first | exact List.mem_cons_of_mem _ (List.mem_append_right _ h) | exact List.mem_cons_of_mem _ (List.mem_append_left _ (List.mem_append_right _ h)) | exact List.mem_cons_of_mem _ (List.mem_append_left _ (List.mem_append_left _ (List.mem_append_right _ h))) | exact List.mem_cons_of_mem _ (List.mem_append_left _ (List.mem_append_left _ (List.mem_append_left _ (List.mem_append_right _ h)))) | (revert w h; decide +kernel)
  have lk9 : (Cond.fieldLink RX2 9 "StripeSwipes$Row" "size" "I").before _ s = true := hts _ (by decide +kernel)
  refine lv_aload_n hx hb dX2_insert_0 rfl (lv_at hl 0 rfl) ?_
  refine lv_iload_n hx hb dX2_insert_1 rfl (lv_at hl 2 rfl) ?_
  have hPc := hP
  have hDc := hD
  have hFc := va_free (wc := [(q, .inr (2, [.ref a, .int (nI n)])), (a, .inl (ca 0, cap, .inl g))]) hD hS hA [0, 1] rfl
  refine va_calli (va_runV (As := [.int v]) (rest := []) ⟨hx, hb, hml, hown, hts⟩ (kX2_add l D ca s.heap.size q a cap g n v (by first | rfl | assumption | omega | trivial | (exfalso; omega)) (by first | rfl | assumption | omega | trivial | (exfalso; omega))) (cwV 1 hts gX2_insert_X2_add rfl rfl rfl (by decide +kernel) ⟨kk_le rfl, kk_le rfl⟩) (pvM hK hPc (my_D_true hDc) (va_recv hKv hP (ci := 2) (q0 := 0) rfl rfl)) rfl rfl hl.1 rfl (lv_room (kk_le rfl)) dX2_insert_2 ⟨kk_le rfl, kk_le rfl⟩) hS (fun q _ h => hFc q h) hFc (fun r1 u t H1 locs ht hvm hwv hBv hz1 hk1 hS => ?_)
  obtain ⟨hP1, hD1⟩ := hBv
  rw [ht] at hP1
  have hP1 : va_P D vwCl [(q, .inr (2, [.ref a, .int (nI (n + 1))])), (a, .inl (ca 0, cap, .inl (upd g n v)))] H1 := hP1
  have hD1 : va_D _ [(q, .inr (2, [.ref a, .int (nI (n + 1))])), (a, .inl (ca 0, cap, .inl (upd g n v)))] := hD1
  obtain ⟨hr1, hw1⟩ := hwv
  subst hr1
  have hP := hP1
  have hD := hD1.weaken (fun _ _ _ h => hFc _ h)
  generalize H1 = H at hP hS ⊢
  have hP : va_P D vwCl [(q, .inr (2, [.ref a, .int (nI (n + 1))])), (a, .inl (ca 0, cap, .inl (upd g n v)))] H := hP
  have hD : va_D A [(q, .inr (2, [.ref a, .int (nI (n + 1))])), (a, .inl (ca 0, cap, .inl (upd g n v)))] := hD
  refine bi_if_ne (tgt := 9) hx hb dX2_insert_5 (by decide) (fun c3 => ?_) (fun c3 => ?_)
  · refine lv_aload_n hx hb dX2_insert_9 rfl (lv_at hl 0 rfl) ?_
    refine va_get (D := D) (ci := 2) (C := RX2) (T := TX2) (N := 2) hx hb hts hiX2 hown hKv hP 0 rfl rfl 1 (by decide) lk9 (fun _ h9 => h9) rfl dX2_insert_10 ?_
    refine lv_iconst (v := nI 1) hx hb dX2_insert_13 (by decide) ?_
    refine ni_isub (by omega) hx hb dX2_insert_14 ?_
    refine lv_istore_n (lv' := [(3, .int (nI ((n + 1) - 1))), (0, .ref q), (1, .int (nI j)), (2, .int v)]) hx hb dX2_insert_15 rfl hl (by decide) rfl (fun ls hl => ?_)
    have lp16_3 : ∀ (k1 : Nat) (i : Nat), i < k1 → (i ≤ n) → (j ≤ i) → ∀ (H : Heap) (locs : List Loc), va_P D vwCl [(q, .inr (2, [.ref a, .int (nI (n + 1))])), (a, .inl (ca 0, cap, .inl (insL g n v i)))] H → va_D A [(q, .inr (2, [.ref a, .int (nI (n + 1))])), (a, .inl (ca 0, cap, .inl (insL g n v i)))] → va_S A s.heap H locs → ∀ (ls : Array Slot), lv_has ls 4 [(3, .int (nI i)), (0, .ref q), (1, .int (nI j)), (2, .int v)] → W p l e rm_kX2_insert s m ([.ref q, .int (nI j), .int v] : List Value).toArray below meth c H locs 0 0 Qz (F0 m 16 ls []) := by
      intro k1
      induction k1 with
      | zero => intro i hm1; exact absurd hm1 (Nat.not_lt_zero _)
      | succ k1 ih1 =>
        intro i hm1 hi hji H locs hP hD hS ls hl
        refine lv_iload_n hx hb dX2_insert_16 rfl (lv_at hl 0 rfl) ?_
        refine lv_iload_n hx hb dX2_insert_17 rfl (lv_at hl 2 rfl) ?_
        refine ni_icmp_le (tgt := 39) (by omega) (by omega) hx hb dX2_insert_18 (by decide) (fun c5 => ?_) (fun c5 => ?_)
        · refine lv_aload_n hx hb dX2_insert_39 rfl (lv_at hl 1 rfl) ?_
          refine lv_iload_n hx hb dX2_insert_40 rfl (lv_at hl 2 rfl) ?_
          refine lv_iload_n hx hb dX2_insert_41 rfl (lv_at hl 3 rfl) ?_
          have hPc := hP
          have hDc := hD
          have hFc := va_free (wc := [(q, .inr (2, [.ref a, .int (nI (n + 1))])), (a, .inl (ca 0, cap, .inl (insL g n v i)))]) hD hS hA [0, 1] rfl
          refine va_callv (va_runV (As := [.int (nI j), .int v]) (rest := []) ⟨hx, hb, hml, hown, hts⟩ (kX2_put l D ca H.size q a cap (insL g n v i) (n + 1) j v (by first | rfl | assumption | omega | trivial | (exfalso; omega)) (by first | rfl | assumption | omega | trivial | (exfalso; omega)) (by first | rfl | assumption | omega | trivial | (exfalso; omega))) (cwV 2 hts gX2_insert_X2_put rfl rfl rfl (by decide +kernel) ⟨kk_le rfl, kk_le rfl⟩) (pvM hK hPc (my_D_true hDc) (va_recv hKv hP (ci := 2) (q0 := 0) rfl rfl)) rfl rfl hl.1 rfl (lv_room (kk_le rfl)) dX2_insert_42 ⟨kk_le rfl, kk_le rfl⟩) hS (fun q _ h => hFc q h) hFc (fun u t H1 locs ht hvm hwv hBv hz1 hk1 hS => ?_)
          obtain ⟨hP1, hD1⟩ := hBv
          rw [ht] at hP1
          have hP1 : va_P D vwCl [(q, .inr (2, [.ref a, .int (nI (n + 1))])), (a, .inl (ca 0, cap, .inl (upd (insL g n v i) j v)))] H1 := hP1
          have hD1 : va_D _ [(q, .inr (2, [.ref a, .int (nI (n + 1))])), (a, .inl (ca 0, cap, .inl (upd (insL g n v i) j v)))] := hD1
          have hw6 := hwv
          have hP := hP1
          have hD := hD1.weaken (fun _ _ _ h => hFc _ h)
          generalize H1 = H at hP hS ⊢
          have hP : va_P D vwCl [(q, .inr (2, [.ref a, .int (nI (n + 1))])), (a, .inl (ca 0, cap, .inl (upd (insL g n v i) j v)))] H := hP
          have hD : va_D A [(q, .inr (2, [.ref a, .int (nI (n + 1))])), (a, .inl (ca 0, cap, .inl (upd (insL g n v i) j v)))] := hD
          subst hQz
          have e8 : (upd (insL g n v i) j v : Nat → Int32) = insF g n j v := by exact insL_end g v (by omega) (by omega)
          have hP : va_P D vwCl [(q, .inr (2, [.ref a, .int (nI (n + 1))])), (a, .inl (ca 0, cap, .inl (insF g n j v)))] H := Eq.mp (congrArg (fun z9 : Nat → Int32 => va_P D vwCl [(q, .inr (2, [.ref a, .int (nI (n + 1))])), (a, .inl (ca 0, cap, .inl z9))] H) e8) hP
          have hD : va_D A [(q, .inr (2, [.ref a, .int (nI (n + 1))])), (a, .inl (ca 0, cap, .inl (insF g n j v)))] := Eq.mp (congrArg (fun z9 : Nat → Int32 => va_D A [(q, .inr (2, [.ref a, .int (nI (n + 1))])), (a, .inl (ca 0, cap, .inl z9))]) e8) hD
          exact W.vret hx hb hr (fun t ht hW => ⟨⟨(), rfl, by trivial, by rw [ht]; exact hP, hD⟩, hS.F ht⟩) hS.2.2 dX2_insert_45
        · refine lv_aload_n hx hb dX2_insert_21 rfl (lv_at hl 1 rfl) ?_
          refine lv_iload_n hx hb dX2_insert_22 rfl (lv_at hl 0 rfl) ?_
          refine lv_aload_n hx hb dX2_insert_23 rfl (lv_at hl 1 rfl) ?_
          refine lv_iload_n hx hb dX2_insert_24 rfl (lv_at hl 0 rfl) ?_
          refine lv_iconst (v := nI 1) hx hb dX2_insert_25 (by decide) ?_
          refine ni_isub (by omega) hx hb dX2_insert_26 ?_
          refine vp_callSi (va_Run.run (va_runV (As := [.int (nI (i - 1))]) (rest := [.int (nI i), .ref q]) ⟨hx, hb, hml, hown, hts⟩ (kX2_at_in l D ca q a cap (insL g n v i) (n + 1) (i - 1) (by first | rfl | assumption | omega | trivial | (exfalso; omega)) (by first | rfl | assumption | omega | trivial | (exfalso; omega)) (by first | rfl | assumption | omega | trivial | (exfalso; omega))) (cwV 1 hts gX2_insert_X2_at rfl rfl rfl (by decide +kernel) ⟨kk_le rfl, kk_le rfl⟩) (pvR hK hP (va_recv hKv hP (ci := 2) (q0 := 0) rfl rfl)) rfl rfl hl.1 rfl (lv_room (kk_le rfl)) dX2_insert_27 ⟨kk_le rfl, kk_le rfl⟩)) (fun r9 hr9 => ?_)
          subst hr9
          have hPc := hP
          have hDc := hD
          have hFc := va_free (wc := [(q, .inr (2, [.ref a, .int (nI (n + 1))])), (a, .inl (ca 0, cap, .inl (insL g n v i)))]) hD hS hA [0, 1] rfl
          refine va_callv (va_runV (As := [.int (nI i), .int ((insL g n v i) (i - 1))]) (rest := []) ⟨hx, hb, hml, hown, hts⟩ (kX2_put l D ca H.size q a cap (insL g n v i) (n + 1) i ((insL g n v i) (i - 1)) (by first | rfl | assumption | omega | trivial | (exfalso; omega)) (by first | rfl | assumption | omega | trivial | (exfalso; omega)) (by first | rfl | assumption | omega | trivial | (exfalso; omega))) (cwV 2 hts gX2_insert_X2_put rfl rfl rfl (by decide +kernel) ⟨kk_le rfl, kk_le rfl⟩) (pvM hK hPc (my_D_true hDc) (va_recv hKv hP (ci := 2) (q0 := 0) rfl rfl)) rfl rfl hl.1 rfl (lv_room (kk_le rfl)) dX2_insert_30 ⟨kk_le rfl, kk_le rfl⟩) hS (fun q _ h => hFc q h) hFc (fun u t H1 locs ht hvm hwv hBv hz1 hk1 hS => ?_)
          obtain ⟨hP1, hD1⟩ := hBv
          rw [ht] at hP1
          have hP1 : va_P D vwCl [(q, .inr (2, [.ref a, .int (nI (n + 1))])), (a, .inl (ca 0, cap, .inl (upd (insL g n v i) i ((insL g n v i) (i - 1)))))] H1 := hP1
          have hD1 : va_D _ [(q, .inr (2, [.ref a, .int (nI (n + 1))])), (a, .inl (ca 0, cap, .inl (upd (insL g n v i) i ((insL g n v i) (i - 1)))))] := hD1
          have hw10 := hwv
          have hP := hP1
          have hD := hD1.weaken (fun _ _ _ h => hFc _ h)
          generalize H1 = H at hP hS ⊢
          have hP : va_P D vwCl [(q, .inr (2, [.ref a, .int (nI (n + 1))])), (a, .inl (ca 0, cap, .inl (upd (insL g n v i) i ((insL g n v i) (i - 1)))))] H := hP
          have hD : va_D A [(q, .inr (2, [.ref a, .int (nI (n + 1))])), (a, .inl (ca 0, cap, .inl (upd (insL g n v i) i ((insL g n v i) (i - 1)))))] := hD
          refine lv_iinc (v := nI (i - 1)) (lv' := [(3, .int (nI (i - 1))), (0, .ref q), (1, .int (nI j)), (2, .int v)]) hx hb dX2_insert_33 hl (k := 0) rfl (ni_dec _ (by omega)) (by decide) rfl (fun ls hl => ?_)
          refine lv_goto (tgt := 16) hx hb dX2_insert_36 (by decide) ?_
          have e12 : (upd (insL g n v i) i ((insL g n v i) (i - 1)) : Nat → Int32) = insL g n v (i - 1) := by exact (insL_step g n v (by omega) (by omega))
          have hP : va_P D vwCl [(q, .inr (2, [.ref a, .int (nI (n + 1))])), (a, .inl (ca 0, cap, .inl (insL g n v (i - 1))))] H := Eq.mp (congrArg (fun z9 : Nat → Int32 => va_P D vwCl [(q, .inr (2, [.ref a, .int (nI (n + 1))])), (a, .inl (ca 0, cap, .inl z9))] H) e12) hP
          have hD : va_D A [(q, .inr (2, [.ref a, .int (nI (n + 1))])), (a, .inl (ca 0, cap, .inl (insL g n v (i - 1))))] := Eq.mp (congrArg (fun z9 : Nat → Int32 => va_D A [(q, .inr (2, [.ref a, .int (nI (n + 1))])), (a, .inl (ca 0, cap, .inl z9))]) e12) hD
          exact ih1 (i - 1) (by omega) (by omega) (by omega) _ _ hP hD hS ls (lv_sub hl [0, 1, 2, 3] rfl)
    have e13 : (upd g n v : Nat → Int32) = insL g n v ((n + 1) - 1) := by exact (insL_n g n v).symm
    have hP : va_P D vwCl [(q, .inr (2, [.ref a, .int (nI (n + 1))])), (a, .inl (ca 0, cap, .inl (insL g n v ((n + 1) - 1))))] H := Eq.mp (congrArg (fun z9 : Nat → Int32 => va_P D vwCl [(q, .inr (2, [.ref a, .int (nI (n + 1))])), (a, .inl (ca 0, cap, .inl z9))] H) e13) hP
    have hD : va_D A [(q, .inr (2, [.ref a, .int (nI (n + 1))])), (a, .inl (ca 0, cap, .inl (insL g n v ((n + 1) - 1))))] := Eq.mp (congrArg (fun z9 : Nat → Int32 => va_D A [(q, .inr (2, [.ref a, .int (nI (n + 1))])), (a, .inl (ca 0, cap, .inl z9))]) e13) hD
    exact lp16_3 (((n + 1) - 1) + 1) ((n + 1) - 1) (by omega) (by omega) (by omega) _ _ hP hD hS ls (lv_sub hl [0, 1, 2, 3] rfl)
  · first | exact False.elim c3 | exact absurd c3 (by decide) | (exfalso; omega)
abbrev rm_kX2_remove : Room := { frames := 1, cells := 0, slots := 0, locals := 22 }
set_option maxHeartbeats 4000000 in
set_option maxRecDepth 100000 in
theorem kX2_remove (l : Launch) (D : va_G) (ca : Nat → ClassId) (sz : Nat) (q a cap : Nat) (g : Nat → Int32) (n : Nat) (j : Nat) (hn : n ≤ cap) (hc : cap < 1000000) (hj : j < n) : Met l yX2_remove wsX2_remove rm_kX2_remove (pcM D ca [.ref q, .int (nI j)] [(q, .inr (2, [.ref a, .int (nI n)])), (a, .inl (ca 0, cap, .inl g))] sz) (va_Qv (fun (u : Unit) => True) (qB D (va_A [(q, .inr (2, [.ref a, .int (nI n)])), (a, .inl (ca 0, cap, .inl g))] sz) (fun u : Unit => [(q, .inr (2, [.ref a, .int (nI (n - 1))])), (a, .inl (ca 0, cap, .inl (remF g n j)))])) (va_A [(q, .inr (2, [.ref a, .int (nI n)])), (a, .inl (ca 0, cap, .inl g))] sz)) 0 0 (va_A [(q, .inr (2, [.ref a, .int (nI n)])), (a, .inl (ca 0, cap, .inl g))] sz) := by
  refine Met.ofW (cc := cX2_remove) (maxL := 3) (ret := none) (by decide) rfl ?_
  intro p e s m args below meth c s₁ B hml hv
  obtain ⟨rfl, hsz, hP, hK, hD0⟩ := hv
  have hx := B.exec
  have hb := B.bytes
  have hr := B.returns
  have hts := atoms_spec (ws := wsX2_remove) B.pre
  have hown : s.vm.findClass RX2 = some m.cls := findClass_of_methodNamed B.named
  have hlocks := B.notSynchronized
  subst hsz
  have hD := hD0.self (sz := s.heap.size)
  generalize hAe : va_A [(q, .inr (2, [.ref a, .int (nI n)])), (a, .inl (ca 0, cap, .inl g))] s.heap.size = A at hD ⊢
  have hA : ∀ q : Nat, s.heap.size ≤ q → A q := fun q h => by rw [← hAe]; exact Or.inr h
  have hS : va_S A s.heap s.heap [] := va_S.rf
  have hP : va_P D vwCl [(q, .inr (2, [.ref a, .int (nI n)])), (a, .inl (ca 0, cap, .inl g))] s.heap := hP
  have hKv := hK.1
  have hl := lv_entry ([.ref q, .int (nI j)]) (n := 3) (kk_le rfl)
  rw [lg_entry_eq]
  generalize (lg_sl ([.ref q, .int (nI j)]) ++ List.replicate (3 - (lg_sl ([.ref q, .int (nI j)])).length) Slot.unset).toArray = ls at hl ⊢
  have hl : lv_has ls 3 [(0, .ref q), (1, .int (nI j))] := hl
  generalize hQz : MQ below _ _ _ _ _ _ = Qz
  have hiX2 : ∀ w ∈ u_ws RX2 TX2 2, w ∈ wsX2_remove := fun w h => by first | exact List.mem_cons_of_mem _ (List.mem_append_right _ h) | exact List.mem_cons_of_mem _ (List.mem_append_left _ (List.mem_append_right _ h)) | exact List.mem_cons_of_mem _ (List.mem_append_left _ (List.mem_append_left _ (List.mem_append_right _ h))) | exact List.mem_cons_of_mem _ (List.mem_append_left _ (List.mem_append_left _ (List.mem_append_left _ (List.mem_append_right _ h)))) | (revert w h; decide +kernel)
  have lk9 : (Cond.fieldLink RX2 9 "StripeSwipes$Row" "size" "I").before _ s = true := hts _ (by decide +kernel)
  refine lv_aload_n hx hb dX2_remove_0 rfl (lv_at hl 0 rfl) ?_
  refine lv_iload_n hx hb dX2_remove_1 rfl (lv_at hl 1 rfl) ?_
  refine vp_callSi (va_Run.run (va_runV (As := [.int (nI j)]) (rest := []) ⟨hx, hb, hml, hown, hts⟩ (kX2_has_n l D ca q a cap g n j (by first | rfl | assumption | omega | trivial | (exfalso; omega)) (by first | rfl | assumption | omega | trivial | (exfalso; omega)) (by first | rfl | assumption | omega | trivial | (exfalso; omega))) (cwV 1 hts gX2_remove_X2_has rfl rfl rfl (by decide +kernel) ⟨kk_le rfl, kk_le rfl⟩) (pvR hK hP (va_recv hKv hP (ci := 2) (q0 := 0) rfl rfl)) rfl rfl hl.1 rfl (lv_room (kk_le rfl)) dX2_remove_2 ⟨kk_le rfl, kk_le rfl⟩)) (fun r1 hr1 => ?_)
  subst hr1
  refine bi_if_ne (tgt := 9) hx hb dX2_remove_5 (by decide) (fun c2 => ?_) (fun c2 => ?_)
  · refine lv_iload_n hx hb dX2_remove_9 rfl (lv_at hl 1 rfl) ?_
    refine lv_istore_n (lv' := [(2, .int (nI j)), (0, .ref q), (1, .int (nI j))]) hx hb dX2_remove_10 rfl hl (by decide) rfl (fun ls hl => ?_)
    have lp11_2 : ∀ (k1 : Nat) (i : Nat), n - i < k1 → (i ≤ n - 1) → (j ≤ i) → ∀ (H : Heap) (locs : List Loc), va_P D vwCl [(q, .inr (2, [.ref a, .int (nI n)])), (a, .inl (ca 0, cap, .inl (remL g j i)))] H → va_D A [(q, .inr (2, [.ref a, .int (nI n)])), (a, .inl (ca 0, cap, .inl (remL g j i)))] → va_S A s.heap H locs → ∀ (ls : Array Slot), lv_has ls 3 [(2, .int (nI i)), (0, .ref q), (1, .int (nI j))] → W p l e rm_kX2_remove s m ([.ref q, .int (nI j)] : List Value).toArray below meth c H locs 0 0 Qz (F0 m 11 ls []) := by
      intro k1
      induction k1 with
      | zero => intro i hm1; exact absurd hm1 (Nat.not_lt_zero _)
      | succ k1 ih1 =>
        intro i hm1 hi hji H locs hP hD hS ls hl
        refine lv_iload_n hx hb dX2_remove_11 rfl (lv_at hl 0 rfl) ?_
        refine lv_aload_n hx hb dX2_remove_12 rfl (lv_at hl 1 rfl) ?_
        refine va_get (D := D) (ci := 2) (C := RX2) (T := TX2) (N := 2) hx hb hts hiX2 hown hKv hP 0 rfl rfl 1 (by decide) lk9 (fun _ h9 => h9) rfl dX2_remove_13 ?_
        refine lv_iconst (v := nI 1) hx hb dX2_remove_16 (by decide) ?_
        refine ni_isub (by omega) hx hb dX2_remove_17 ?_
        refine ni_icmp_ge (tgt := 39) (by omega) (by omega) hx hb dX2_remove_18 (by decide) (fun c4 => ?_) (fun c4 => ?_)
        · refine lv_aload_n hx hb dX2_remove_39 rfl (lv_at hl 1 rfl) ?_
          refine lv_dup hx hb dX2_remove_40 rfl ?_
          refine va_get (D := D) (ci := 2) (C := RX2) (T := TX2) (N := 2) hx hb hts hiX2 hown hKv hP 0 rfl rfl 1 (by decide) lk9 (fun _ h9 => h9) rfl dX2_remove_41 ?_
          refine lv_iconst (v := nI 1) hx hb dX2_remove_44 (by decide) ?_
          refine ni_isub (by omega) hx hb dX2_remove_45 ?_
          refine va_put (D := D) (ci := 2) (v := .int (nI (n - 1))) (ty := .int) (C := RX2) (T := TX2) (N := 2) hx hb hts hiX2 tyX2 tyX2_ok nmX2 hown hKv hP hD hS 0 rfl rfl 1 (by decide) lk9 (fun _ h9 => h9) rfl (by decide +kernel) rfl rfl (kk_le rfl) dX2_remove_46 (fun H locs hP hD hS => ?_)
          have hP : va_P D vwCl [(q, .inr (2, [.ref a, .int (nI (n - 1))])), (a, .inl (ca 0, cap, .inl (remL g j i)))] H := hP
          have hD : va_D A [(q, .inr (2, [.ref a, .int (nI (n - 1))])), (a, .inl (ca 0, cap, .inl (remL g j i)))] := hD
          subst hQz
          have e5 : (remL g j i : Nat → Int32) = remF g n j := by exact remL_end g (by omega) (by omega)
          have hP : va_P D vwCl [(q, .inr (2, [.ref a, .int (nI (n - 1))])), (a, .inl (ca 0, cap, .inl (remF g n j)))] H := Eq.mp (congrArg (fun z9 : Nat → Int32 => va_P D vwCl [(q, .inr (2, [.ref a, .int (nI (n - 1))])), (a, .inl (ca 0, cap, .inl z9))] H) e5) hP
          have hD : va_D A [(q, .inr (2, [.ref a, .int (nI (n - 1))])), (a, .inl (ca 0, cap, .inl (remF g n j)))] := Eq.mp (congrArg (fun z9 : Nat → Int32 => va_D A [(q, .inr (2, [.ref a, .int (nI (n - 1))])), (a, .inl (ca 0, cap, .inl z9))]) e5) hD
          exact W.vret hx hb hr (fun t ht hW => ⟨⟨(), rfl, by trivial, by rw [ht]; exact hP, hD⟩, hS.F ht⟩) hS.2.2 dX2_remove_49
        · refine lv_aload_n hx hb dX2_remove_21 rfl (lv_at hl 1 rfl) ?_
          refine lv_iload_n hx hb dX2_remove_22 rfl (lv_at hl 0 rfl) ?_
          refine lv_aload_n hx hb dX2_remove_23 rfl (lv_at hl 1 rfl) ?_
          refine lv_iload_n hx hb dX2_remove_24 rfl (lv_at hl 0 rfl) ?_
          refine lv_iconst (v := nI 1) hx hb dX2_remove_25 (by decide) ?_
          refine ni_iadd hx hb dX2_remove_26 ?_
          refine vp_callSi (va_Run.run (va_runV (As := [.int (nI (i + 1))]) (rest := [.int (nI i), .ref q]) ⟨hx, hb, hml, hown, hts⟩ (kX2_at_in l D ca q a cap (remL g j i) n (i + 1) (by first | rfl | assumption | omega | trivial | (exfalso; omega)) (by first | rfl | assumption | omega | trivial | (exfalso; omega)) (by first | rfl | assumption | omega | trivial | (exfalso; omega))) (cwV 1 hts gX2_remove_X2_at rfl rfl rfl (by decide +kernel) ⟨kk_le rfl, kk_le rfl⟩) (pvR hK hP (va_recv hKv hP (ci := 2) (q0 := 0) rfl rfl)) rfl rfl hl.1 rfl (lv_room (kk_le rfl)) dX2_remove_27 ⟨kk_le rfl, kk_le rfl⟩)) (fun r6 hr6 => ?_)
          subst hr6
          have hPc := hP
          have hDc := hD
          have hFc := va_free (wc := [(q, .inr (2, [.ref a, .int (nI n)])), (a, .inl (ca 0, cap, .inl (remL g j i)))]) hD hS hA [0, 1] rfl
          refine va_callv (va_runV (As := [.int (nI i), .int ((remL g j i) (i + 1))]) (rest := []) ⟨hx, hb, hml, hown, hts⟩ (kX2_put l D ca H.size q a cap (remL g j i) n i ((remL g j i) (i + 1)) (by first | rfl | assumption | omega | trivial | (exfalso; omega)) (by first | rfl | assumption | omega | trivial | (exfalso; omega)) (by first | rfl | assumption | omega | trivial | (exfalso; omega))) (cwV 2 hts gX2_remove_X2_put rfl rfl rfl (by decide +kernel) ⟨kk_le rfl, kk_le rfl⟩) (pvM hK hPc (my_D_true hDc) (va_recv hKv hP (ci := 2) (q0 := 0) rfl rfl)) rfl rfl hl.1 rfl (lv_room (kk_le rfl)) dX2_remove_30 ⟨kk_le rfl, kk_le rfl⟩) hS (fun q _ h => hFc q h) hFc (fun u t H1 locs ht hvm hwv hBv hz1 hk1 hS => ?_)
          obtain ⟨hP1, hD1⟩ := hBv
          rw [ht] at hP1
          have hP1 : va_P D vwCl [(q, .inr (2, [.ref a, .int (nI n)])), (a, .inl (ca 0, cap, .inl (upd (remL g j i) i ((remL g j i) (i + 1)))))] H1 := hP1
          have hD1 : va_D _ [(q, .inr (2, [.ref a, .int (nI n)])), (a, .inl (ca 0, cap, .inl (upd (remL g j i) i ((remL g j i) (i + 1)))))] := hD1
          have hw7 := hwv
          have hP := hP1
          have hD := hD1.weaken (fun _ _ _ h => hFc _ h)
          generalize H1 = H at hP hS ⊢
          have hP : va_P D vwCl [(q, .inr (2, [.ref a, .int (nI n)])), (a, .inl (ca 0, cap, .inl (upd (remL g j i) i ((remL g j i) (i + 1)))))] H := hP
          have hD : va_D A [(q, .inr (2, [.ref a, .int (nI n)])), (a, .inl (ca 0, cap, .inl (upd (remL g j i) i ((remL g j i) (i + 1)))))] := hD
          refine lv_iinc (v := nI (i + 1)) (lv' := [(2, .int (nI (i + 1))), (0, .ref q), (1, .int (nI j))]) hx hb dX2_remove_33 hl (k := 0) rfl (ni_inc _ _ (by decide)) (by decide) rfl (fun ls hl => ?_)
          refine lv_goto (tgt := 11) hx hb dX2_remove_36 (by decide) ?_
          have e9 : (upd (remL g j i) i ((remL g j i) (i + 1)) : Nat → Int32) = remL g j (i + 1) := by exact remL_step g (by omega)
          have hP : va_P D vwCl [(q, .inr (2, [.ref a, .int (nI n)])), (a, .inl (ca 0, cap, .inl (remL g j (i + 1))))] H := Eq.mp (congrArg (fun z9 : Nat → Int32 => va_P D vwCl [(q, .inr (2, [.ref a, .int (nI n)])), (a, .inl (ca 0, cap, .inl z9))] H) e9) hP
          have hD : va_D A [(q, .inr (2, [.ref a, .int (nI n)])), (a, .inl (ca 0, cap, .inl (remL g j (i + 1))))] := Eq.mp (congrArg (fun z9 : Nat → Int32 => va_D A [(q, .inr (2, [.ref a, .int (nI n)])), (a, .inl (ca 0, cap, .inl z9))]) e9) hD
          exact ih1 (i + 1) (by omega) (by omega) (by omega) _ _ hP hD hS ls (lv_sub hl [0, 1, 2] rfl)
    have e10 : (g : Nat → Int32) = remL g j j := by exact (remL_0 g j).symm
    have hP : va_P D vwCl [(q, .inr (2, [.ref a, .int (nI n)])), (a, .inl (ca 0, cap, .inl (remL g j j)))] s.heap := Eq.mp (congrArg (fun z9 : Nat → Int32 => va_P D vwCl [(q, .inr (2, [.ref a, .int (nI n)])), (a, .inl (ca 0, cap, .inl z9))] s.heap) e10) hP
    have hD : va_D A [(q, .inr (2, [.ref a, .int (nI n)])), (a, .inl (ca 0, cap, .inl (remL g j j)))] := Eq.mp (congrArg (fun z9 : Nat → Int32 => va_D A [(q, .inr (2, [.ref a, .int (nI n)])), (a, .inl (ca 0, cap, .inl z9))]) e10) hD
    exact lp11_2 ((n - j) + 1) j (by omega) (by omega) (by omega) _ _ hP hD hS ls (lv_sub hl [0, 1, 2] rfl)
  · exact absurd c2 (by simp; omega)
abbrev rm_kX2_copyFrom : Room := { frames := 1, cells := 0, slots := 0, locals := 21 }
set_option maxHeartbeats 4000000 in
set_option maxRecDepth 100000 in
theorem kX2_copyFrom (l : Launch) (D : va_G) (ca : Nat → ClassId) (sz : Nat) (q a cap : Nat) (g : Nat → Int32) (n : Nat) (q2 a2 cap2 : Nat) (g2 : Nat → Int32) (n2 : Nat) (hn : n ≤ cap) (hc : cap < 1000000) (hn2 : n2 ≤ cap2) (hc2 : cap2 < 1000000) (hnc : n2 ≤ cap) : Met l yX2_copyFrom wsX2_copyFrom rm_kX2_copyFrom (pcM D ca [.ref q, .ref q2] [(q, .inr (2, [.ref a, .int (nI n)])), (a, .inl (ca 0, cap, .inl g)), (q2, .inr (2, [.ref a2, .int (nI n2)])), (a2, .inl (ca 0, cap2, .inl g2))] sz) (va_Qv (fun (u : Unit) => True) (qB D (va_A [(q, .inr (2, [.ref a, .int (nI n)])), (a, .inl (ca 0, cap, .inl g)), (q2, .inr (2, [.ref a2, .int (nI n2)])), (a2, .inl (ca 0, cap2, .inl g2))] sz) (fun u : Unit => [(q, .inr (2, [.ref a, .int (nI n2)])), (a, .inl (ca 0, cap, .inl (cpF g2 g n2))), (q2, .inr (2, [.ref a2, .int (nI n2)])), (a2, .inl (ca 0, cap2, .inl g2))])) (va_A [(q, .inr (2, [.ref a, .int (nI n)])), (a, .inl (ca 0, cap, .inl g)), (q2, .inr (2, [.ref a2, .int (nI n2)])), (a2, .inl (ca 0, cap2, .inl g2))] sz)) 0 0 (va_A [(q, .inr (2, [.ref a, .int (nI n)])), (a, .inl (ca 0, cap, .inl g)), (q2, .inr (2, [.ref a2, .int (nI n2)])), (a2, .inl (ca 0, cap2, .inl g2))] sz) := by
  refine Met.ofW (cc := cX2_copyFrom) (maxL := 3) (ret := none) (by decide) rfl ?_
  intro p e s m args below meth c s₁ B hml hv
  obtain ⟨rfl, hsz, hP, hK, hD0⟩ := hv
  have hx := B.exec
  have hb := B.bytes
  have hr := B.returns
  have hts := atoms_spec (ws := wsX2_copyFrom) B.pre
  have hown : s.vm.findClass RX2 = some m.cls := findClass_of_methodNamed B.named
  have hlocks := B.notSynchronized
  subst hsz
  have hD := hD0.self (sz := s.heap.size)
  generalize hAe : va_A [(q, .inr (2, [.ref a, .int (nI n)])), (a, .inl (ca 0, cap, .inl g)), (q2, .inr (2, [.ref a2, .int (nI n2)])), (a2, .inl (ca 0, cap2, .inl g2))] s.heap.size = A at hD ⊢
  have hA : ∀ q : Nat, s.heap.size ≤ q → A q := fun q h => by rw [← hAe]; exact Or.inr h
  have hS : va_S A s.heap s.heap [] := va_S.rf
  have hP : va_P D vwCl [(q, .inr (2, [.ref a, .int (nI n)])), (a, .inl (ca 0, cap, .inl g)), (q2, .inr (2, [.ref a2, .int (nI n2)])), (a2, .inl (ca 0, cap2, .inl g2))] s.heap := hP
  have hKv := hK.1
  have hl := lv_entry ([.ref q, .ref q2]) (n := 3) (kk_le rfl)
  rw [lg_entry_eq]
  generalize (lg_sl ([.ref q, .ref q2]) ++ List.replicate (3 - (lg_sl ([.ref q, .ref q2])).length) Slot.unset).toArray = ls at hl ⊢
  have hl : lv_has ls 3 [(0, .ref q), (1, .ref q2)] := hl
  generalize hQz : MQ below _ _ _ _ _ _ = Qz
  have hiX2 : ∀ w ∈ u_ws RX2 TX2 2, w ∈ wsX2_copyFrom := fun w h => by first | exact List.mem_cons_of_mem _ (List.mem_append_right _ h) | exact List.mem_cons_of_mem _ (List.mem_append_left _ (List.mem_append_right _ h)) | exact List.mem_cons_of_mem _ (List.mem_append_left _ (List.mem_append_left _ (List.mem_append_right _ h))) | exact List.mem_cons_of_mem _ (List.mem_append_left _ (List.mem_append_left _ (List.mem_append_left _ (List.mem_append_right _ h)))) | (revert w h; decide +kernel)
  have lk9 : (Cond.fieldLink RX2 9 "StripeSwipes$Row" "size" "I").before _ s = true := hts _ (by decide +kernel)
  refine lv_aload_n hx hb dX2_copyFrom_0 rfl (lv_at hl 0 rfl) ?_
  refine lv_iconst (v := nI 0) hx hb dX2_copyFrom_1 (by decide) ?_
  refine va_put (D := D) (ci := 2) (v := .int (nI 0)) (ty := .int) (C := RX2) (T := TX2) (N := 2) hx hb hts hiX2 tyX2 tyX2_ok nmX2 hown hKv hP hD hS 0 rfl rfl 1 (by decide) lk9 (fun _ h9 => h9) rfl (by decide +kernel) rfl rfl (kk_le rfl) dX2_copyFrom_2 (fun H locs hP hD hS => ?_)
  have hP : va_P D vwCl [(q, .inr (2, [.ref a, .int (nI 0)])), (a, .inl (ca 0, cap, .inl g)), (q2, .inr (2, [.ref a2, .int (nI n2)])), (a2, .inl (ca 0, cap2, .inl g2))] H := hP
  have hD : va_D A [(q, .inr (2, [.ref a, .int (nI 0)])), (a, .inl (ca 0, cap, .inl g)), (q2, .inr (2, [.ref a2, .int (nI n2)])), (a2, .inl (ca 0, cap2, .inl g2))] := hD
  refine lv_iconst (v := nI 0) hx hb dX2_copyFrom_5 (by decide) ?_
  refine lv_istore_n (lv' := [(2, .int (nI 0)), (0, .ref q), (1, .ref q2)]) hx hb dX2_copyFrom_6 rfl hl (by decide) rfl (fun ls hl => ?_)
  have lp7_0 : ∀ (k1 : Nat) (i : Nat), n2 - i < k1 → (i ≤ n2) → ∀ (H : Heap) (locs : List Loc), va_P D vwCl [(q, .inr (2, [.ref a, .int (nI i)])), (a, .inl (ca 0, cap, .inl (cpF g2 g i))), (q2, .inr (2, [.ref a2, .int (nI n2)])), (a2, .inl (ca 0, cap2, .inl g2))] H → va_D A [(q, .inr (2, [.ref a, .int (nI i)])), (a, .inl (ca 0, cap, .inl (cpF g2 g i))), (q2, .inr (2, [.ref a2, .int (nI n2)])), (a2, .inl (ca 0, cap2, .inl g2))] → va_S A s.heap H locs → ∀ (ls : Array Slot), lv_has ls 3 [(2, .int (nI i)), (0, .ref q), (1, .ref q2)] → W p l e rm_kX2_copyFrom s m ([.ref q, .ref q2] : List Value).toArray below meth c H locs 0 0 Qz (F0 m 7 ls []) := by
    intro k1
    induction k1 with
    | zero => intro i hm1; exact absurd hm1 (Nat.not_lt_zero _)
    | succ k1 ih1 =>
      intro i hm1 hi H locs hP hD hS ls hl
      refine lv_iload_n hx hb dX2_copyFrom_7 rfl (lv_at hl 0 rfl) ?_
      refine lv_aload_n hx hb dX2_copyFrom_8 rfl (lv_at hl 2 rfl) ?_
      refine vp_callSi (va_Run.run (va_runV (As := []) (rest := [.int (nI i)]) ⟨hx, hb, hml, hown, hts⟩ (kX2_size l D ca q2 a2 cap2 g2 n2 (by first | rfl | assumption | omega | trivial | (exfalso; omega)) (by first | rfl | assumption | omega | trivial | (exfalso; omega))) (cwV 0 hts gX2_copyFrom_X2_size rfl rfl rfl (by decide +kernel) ⟨kk_le rfl, kk_le rfl⟩) (pvR hK (hP.sub (ws' := [(q2, .inr (2, [.ref a2, .int (nI n2)])), (a2, .inl (ca 0, cap2, .inl g2))]) [2, 3] rfl) (va_recv hKv hP (ci := 2) (q0 := 2) rfl rfl)) rfl rfl hl.1 rfl (lv_room (kk_le rfl)) dX2_copyFrom_9 ⟨kk_le rfl, kk_le rfl⟩)) (fun r2 hr2 => ?_)
      subst hr2
      refine ni_icmp_ge (tgt := 31) (by omega) (by omega) hx hb dX2_copyFrom_12 (by decide) (fun c3 => ?_) (fun c3 => ?_)
      · subst hQz
        have e4 : (nI i : Int32) = nI n2 := by first | exact congrArg nI (by omega) | exact congrArg (cpF g2 g) (by omega)
        have hP : va_P D vwCl [(q, .inr (2, [.ref a, .int (nI n2)])), (a, .inl (ca 0, cap, .inl (cpF g2 g i))), (q2, .inr (2, [.ref a2, .int (nI n2)])), (a2, .inl (ca 0, cap2, .inl g2))] H := Eq.mp (congrArg (fun z9 : Int32 => va_P D vwCl [(q, .inr (2, [.ref a, .int z9])), (a, .inl (ca 0, cap, .inl (cpF g2 g i))), (q2, .inr (2, [.ref a2, .int (nI n2)])), (a2, .inl (ca 0, cap2, .inl g2))] H) e4) hP
        have hD : va_D A [(q, .inr (2, [.ref a, .int (nI n2)])), (a, .inl (ca 0, cap, .inl (cpF g2 g i))), (q2, .inr (2, [.ref a2, .int (nI n2)])), (a2, .inl (ca 0, cap2, .inl g2))] := Eq.mp (congrArg (fun z9 : Int32 => va_D A [(q, .inr (2, [.ref a, .int z9])), (a, .inl (ca 0, cap, .inl (cpF g2 g i))), (q2, .inr (2, [.ref a2, .int (nI n2)])), (a2, .inl (ca 0, cap2, .inl g2))]) e4) hD
        have e5 : (cpF g2 g i : Nat → Int32) = cpF g2 g n2 := by first | exact congrArg nI (by omega) | exact congrArg (cpF g2 g) (by omega)
        have hP : va_P D vwCl [(q, .inr (2, [.ref a, .int (nI n2)])), (a, .inl (ca 0, cap, .inl (cpF g2 g n2))), (q2, .inr (2, [.ref a2, .int (nI n2)])), (a2, .inl (ca 0, cap2, .inl g2))] H := Eq.mp (congrArg (fun z9 : Nat → Int32 => va_P D vwCl [(q, .inr (2, [.ref a, .int (nI n2)])), (a, .inl (ca 0, cap, .inl z9)), (q2, .inr (2, [.ref a2, .int (nI n2)])), (a2, .inl (ca 0, cap2, .inl g2))] H) e5) hP
        have hD : va_D A [(q, .inr (2, [.ref a, .int (nI n2)])), (a, .inl (ca 0, cap, .inl (cpF g2 g n2))), (q2, .inr (2, [.ref a2, .int (nI n2)])), (a2, .inl (ca 0, cap2, .inl g2))] := Eq.mp (congrArg (fun z9 : Nat → Int32 => va_D A [(q, .inr (2, [.ref a, .int (nI n2)])), (a, .inl (ca 0, cap, .inl z9)), (q2, .inr (2, [.ref a2, .int (nI n2)])), (a2, .inl (ca 0, cap2, .inl g2))]) e5) hD
        exact W.vret hx hb hr (fun t ht hW => ⟨⟨(), rfl, by trivial, by rw [ht]; exact hP, hD⟩, hS.F ht⟩) hS.2.2 dX2_copyFrom_31
      · refine lv_aload_n hx hb dX2_copyFrom_15 rfl (lv_at hl 1 rfl) ?_
        refine lv_aload_n hx hb dX2_copyFrom_16 rfl (lv_at hl 2 rfl) ?_
        refine lv_iload_n hx hb dX2_copyFrom_17 rfl (lv_at hl 0 rfl) ?_
        refine vp_callSi (va_Run.run (va_runV (As := [.int (nI i)]) (rest := [.ref q]) ⟨hx, hb, hml, hown, hts⟩ (kX2_at_in l D ca q2 a2 cap2 g2 n2 i (by first | rfl | assumption | omega | trivial | (exfalso; omega)) (by first | rfl | assumption | omega | trivial | (exfalso; omega)) (by first | rfl | assumption | omega | trivial | (exfalso; omega))) (cwV 1 hts gX2_copyFrom_X2_at rfl rfl rfl (by decide +kernel) ⟨kk_le rfl, kk_le rfl⟩) (pvR hK (hP.sub (ws' := [(q2, .inr (2, [.ref a2, .int (nI n2)])), (a2, .inl (ca 0, cap2, .inl g2))]) [2, 3] rfl) (va_recv hKv hP (ci := 2) (q0 := 2) rfl rfl)) rfl rfl hl.1 rfl (lv_room (kk_le rfl)) dX2_copyFrom_18 ⟨kk_le rfl, kk_le rfl⟩)) (fun r6 hr6 => ?_)
        subst hr6
        have hPc := hP.sub (ws' := [(q, .inr (2, [.ref a, .int (nI i)])), (a, .inl (ca 0, cap, .inl (cpF g2 g i)))]) [0, 1] rfl
        have hDc := hD.sub (ws' := [(q, .inr (2, [.ref a, .int (nI i)])), (a, .inl (ca 0, cap, .inl (cpF g2 g i)))]) [0, 1] (by decide) rfl
        have hFc := va_free (wc := [(q, .inr (2, [.ref a, .int (nI i)])), (a, .inl (ca 0, cap, .inl (cpF g2 g i)))]) hD hS hA [0, 1] rfl
        refine va_calli (va_runV (As := [.int (g2 i)]) (rest := []) ⟨hx, hb, hml, hown, hts⟩ (kX2_add l D ca H.size q a cap (cpF g2 g i) i (g2 i) (by first | rfl | assumption | omega | trivial | (exfalso; omega)) (by first | rfl | assumption | omega | trivial | (exfalso; omega))) (cwV 1 hts gX2_copyFrom_X2_add rfl rfl rfl (by decide +kernel) ⟨kk_le rfl, kk_le rfl⟩) (pvM hK hPc (my_D_true hDc) (va_recv hKv hP (ci := 2) (q0 := 0) rfl rfl)) rfl rfl hl.1 rfl (lv_room (kk_le rfl)) dX2_copyFrom_21 ⟨kk_le rfl, kk_le rfl⟩) hS (fun q _ h => hFc q h) hFc (fun r7 u t H1 locs ht hvm hwv hBv hz1 hk1 hS => ?_)
        obtain ⟨hP1, hD1⟩ := hBv
        rw [ht] at hP1
        have hP1 : va_P D vwCl [(q, .inr (2, [.ref a, .int (nI (i + 1))])), (a, .inl (ca 0, cap, .inl (upd (cpF g2 g i) i (g2 i))))] H1 := hP1
        have hD1 : va_D _ [(q, .inr (2, [.ref a, .int (nI (i + 1))])), (a, .inl (ca 0, cap, .inl (upd (cpF g2 g i) i (g2 i))))] := hD1
        obtain ⟨hr7, hw7⟩ := hwv
        subst hr7
        obtain ⟨hP, hD⟩ := va_join (wr := [(q2, .inr (2, [.ref a2, .int (nI n2)])), (a2, .inl (ca 0, cap2, .inl g2))]) (w1 := [(q, .inr (2, [.ref a, .int (nI (i + 1))])), (a, .inl (ca 0, cap, .inl (upd (cpF g2 g i) i (g2 i))))]) hP hD [0, 1] [2, 3] rfl rfl (by decide) (by decide) hk1 hFc hP1 hD1
        generalize H1 = H at hP hS ⊢
        have hP := hP.sub (ws' := [(q, .inr (2, [.ref a, .int (nI (i + 1))])), (a, .inl (ca 0, cap, .inl (upd (cpF g2 g i) i (g2 i)))), (q2, .inr (2, [.ref a2, .int (nI n2)])), (a2, .inl (ca 0, cap2, .inl g2))]) [2, 3, 0, 1] rfl
        have hD := hD.sub (ws' := [(q, .inr (2, [.ref a, .int (nI (i + 1))])), (a, .inl (ca 0, cap, .inl (upd (cpF g2 g i) i (g2 i)))), (q2, .inr (2, [.ref a2, .int (nI n2)])), (a2, .inl (ca 0, cap2, .inl g2))]) [2, 3, 0, 1] (by decide) rfl
        refine lv_pop hx hb dX2_copyFrom_24 rfl ?_
        refine lv_iinc (v := nI (i + 1)) (lv' := [(2, .int (nI (i + 1))), (0, .ref q), (1, .ref q2)]) hx hb dX2_copyFrom_25 hl (k := 0) rfl (ni_inc _ _ (by decide)) (by decide) rfl (fun ls hl => ?_)
        refine lv_goto (tgt := 7) hx hb dX2_copyFrom_28 (by decide) ?_
        have e9 : (upd (cpF g2 g i) i (g2 i) : Nat → Int32) = cpF g2 g (i + 1) := by exact cpF_step g2 g i
        have hP : va_P D vwCl [(q, .inr (2, [.ref a, .int (nI (i + 1))])), (a, .inl (ca 0, cap, .inl (cpF g2 g (i + 1)))), (q2, .inr (2, [.ref a2, .int (nI n2)])), (a2, .inl (ca 0, cap2, .inl g2))] H := Eq.mp (congrArg (fun z9 : Nat → Int32 => va_P D vwCl [(q, .inr (2, [.ref a, .int (nI (i + 1))])), (a, .inl (ca 0, cap, .inl z9)), (q2, .inr (2, [.ref a2, .int (nI n2)])), (a2, .inl (ca 0, cap2, .inl g2))] H) e9) hP
        have hD : va_D A [(q, .inr (2, [.ref a, .int (nI (i + 1))])), (a, .inl (ca 0, cap, .inl (cpF g2 g (i + 1)))), (q2, .inr (2, [.ref a2, .int (nI n2)])), (a2, .inl (ca 0, cap2, .inl g2))] := Eq.mp (congrArg (fun z9 : Nat → Int32 => va_D A [(q, .inr (2, [.ref a, .int (nI (i + 1))])), (a, .inl (ca 0, cap, .inl z9)), (q2, .inr (2, [.ref a2, .int (nI n2)])), (a2, .inl (ca 0, cap2, .inl g2))]) e9) hD
        exact ih1 (i + 1) (by omega) (by omega) _ _ hP hD hS ls (lv_sub hl [0, 1, 2] rfl)
  have e10 : (g : Nat → Int32) = cpF g2 g 0 := by exact (cpF_0 g2 g).symm
  have hP : va_P D vwCl [(q, .inr (2, [.ref a, .int (nI 0)])), (a, .inl (ca 0, cap, .inl (cpF g2 g 0))), (q2, .inr (2, [.ref a2, .int (nI n2)])), (a2, .inl (ca 0, cap2, .inl g2))] H := Eq.mp (congrArg (fun z9 : Nat → Int32 => va_P D vwCl [(q, .inr (2, [.ref a, .int (nI 0)])), (a, .inl (ca 0, cap, .inl z9)), (q2, .inr (2, [.ref a2, .int (nI n2)])), (a2, .inl (ca 0, cap2, .inl g2))] H) e10) hP
  have hD : va_D A [(q, .inr (2, [.ref a, .int (nI 0)])), (a, .inl (ca 0, cap, .inl (cpF g2 g 0))), (q2, .inr (2, [.ref a2, .int (nI n2)])), (a2, .inl (ca 0, cap2, .inl g2))] := Eq.mp (congrArg (fun z9 : Nat → Int32 => va_D A [(q, .inr (2, [.ref a, .int (nI 0)])), (a, .inl (ca 0, cap, .inl z9)), (q2, .inr (2, [.ref a2, .int (nI n2)])), (a2, .inl (ca 0, cap2, .inl g2))]) e10) hD
  exact lp7_0 ((n2 - 0) + 1) 0 (by omega) (by omega) _ _ hP hD hS ls (lv_sub hl [0, 1, 2] rfl)
abbrev rm_kX2_reverse : Room := { frames := 1, cells := 0, slots := 0, locals := 22 }
set_option maxHeartbeats 4000000 in
set_option maxRecDepth 100000 in
theorem kX2_reverse (l : Launch) (D : va_G) (ca : Nat → ClassId) (sz : Nat) (q a cap : Nat) (g : Nat → Int32) (n : Nat) (hn : n ≤ cap) (hc : cap < 1000000) : Met l yX2_reverse wsX2_reverse rm_kX2_reverse (pcM D ca [.ref q] [(q, .inr (2, [.ref a, .int (nI n)])), (a, .inl (ca 0, cap, .inl g))] sz) (va_Qv (fun (u : Unit) => True) (qB D (va_A [(q, .inr (2, [.ref a, .int (nI n)])), (a, .inl (ca 0, cap, .inl g))] sz) (fun u : Unit => [(q, .inr (2, [.ref a, .int (nI n)])), (a, .inl (ca 0, cap, .inl (revF g n)))])) (va_A [(q, .inr (2, [.ref a, .int (nI n)])), (a, .inl (ca 0, cap, .inl g))] sz)) 0 0 (va_A [(q, .inr (2, [.ref a, .int (nI n)])), (a, .inl (ca 0, cap, .inl g))] sz) := by
  refine Met.ofW (cc := cX2_reverse) (maxL := 3) (ret := none) (by decide) rfl ?_
  intro p e s m args below meth c s₁ B hml hv
  obtain ⟨rfl, hsz, hP, hK, hD0⟩ := hv
  have hx := B.exec
  have hb := B.bytes
  have hr := B.returns
  have hts := atoms_spec (ws := wsX2_reverse) B.pre
  have hown : s.vm.findClass RX2 = some m.cls := findClass_of_methodNamed B.named
  have hlocks := B.notSynchronized
  subst hsz
  have hD := hD0.self (sz := s.heap.size)
  generalize hAe : va_A [(q, .inr (2, [.ref a, .int (nI n)])), (a, .inl (ca 0, cap, .inl g))] s.heap.size = A at hD ⊢
  have hA : ∀ q : Nat, s.heap.size ≤ q → A q := fun q h => by rw [← hAe]; exact Or.inr h
  have hS : va_S A s.heap s.heap [] := va_S.rf
  have hP : va_P D vwCl [(q, .inr (2, [.ref a, .int (nI n)])), (a, .inl (ca 0, cap, .inl g))] s.heap := hP
  have hKv := hK.1
  have hl := lv_entry ([.ref q]) (n := 3) (kk_le rfl)
  rw [lg_entry_eq]
  generalize (lg_sl ([.ref q]) ++ List.replicate (3 - (lg_sl ([.ref q])).length) Slot.unset).toArray = ls at hl ⊢
  have hl : lv_has ls 3 [(0, .ref q)] := hl
  generalize hQz : MQ below _ _ _ _ _ _ = Qz
  have hiX2 : ∀ w ∈ u_ws RX2 TX2 2, w ∈ wsX2_reverse := fun w h => by first | exact List.mem_cons_of_mem _ (List.mem_append_right _ h) | exact List.mem_cons_of_mem _ (List.mem_append_left _ (List.mem_append_right _ h)) | exact List.mem_cons_of_mem _ (List.mem_append_left _ (List.mem_append_left _ (List.mem_append_right _ h))) | exact List.mem_cons_of_mem _ (List.mem_append_left _ (List.mem_append_left _ (List.mem_append_left _ (List.mem_append_right _ h)))) | (revert w h; decide +kernel)
  have lk9 : (Cond.fieldLink RX2 9 "StripeSwipes$Row" "size" "I").before _ s = true := hts _ (by decide +kernel)
  refine lv_iconst (v := nI 0) hx hb dX2_reverse_0 (by decide) ?_
  refine lv_istore_n (lv' := [(1, .int (nI 0)), (0, .ref q)]) hx hb dX2_reverse_1 rfl hl (by decide) rfl (fun ls hl => ?_)
  have lp2_0 : ∀ (k1 : Nat) (i : Nat), n - i < k1 → (i ≤ n / 2) → ∀ (H : Heap) (locs : List Loc), va_P D vwCl [(q, .inr (2, [.ref a, .int (nI n)])), (a, .inl (ca 0, cap, .inl (revL g n i)))] H → va_D A [(q, .inr (2, [.ref a, .int (nI n)])), (a, .inl (ca 0, cap, .inl (revL g n i)))] → va_S A s.heap H locs → ∀ (ls : Array Slot), lv_has ls 3 [(1, .int (nI i)), (0, .ref q)] → W p l e rm_kX2_reverse s m ([.ref q] : List Value).toArray below meth c H locs 0 0 Qz (F0 m 2 ls []) := by
    intro k1
    induction k1 with
    | zero => intro i hm1; exact absurd hm1 (Nat.not_lt_zero _)
    | succ k1 ih1 =>
      intro i hm1 hi H locs hP hD hS ls hl
      refine lv_iload_n hx hb dX2_reverse_2 rfl (lv_at hl 0 rfl) ?_
      refine lv_aload_n hx hb dX2_reverse_3 rfl (lv_at hl 1 rfl) ?_
      refine va_get (D := D) (ci := 2) (C := RX2) (T := TX2) (N := 2) hx hb hts hiX2 hown hKv hP 0 rfl rfl 1 (by decide) lk9 (fun _ h9 => h9) rfl dX2_reverse_4 ?_
      refine lv_iconst (v := nI 2) hx hb dX2_reverse_7 (by decide) ?_
      refine ni_idiv (by omega) (by omega) (by omega) hx hb dX2_reverse_8 ?_
      refine ni_icmp_ge (tgt := 54) (by omega) (by omega) hx hb dX2_reverse_9 (by decide) (fun c2 => ?_) (fun c2 => ?_)
      · subst hQz
        have e3 : (revL g n i : Nat → Int32) = revF g n := by exact revL_end g (by omega)
        have hP : va_P D vwCl [(q, .inr (2, [.ref a, .int (nI n)])), (a, .inl (ca 0, cap, .inl (revF g n)))] H := Eq.mp (congrArg (fun z9 : Nat → Int32 => va_P D vwCl [(q, .inr (2, [.ref a, .int (nI n)])), (a, .inl (ca 0, cap, .inl z9))] H) e3) hP
        have hD : va_D A [(q, .inr (2, [.ref a, .int (nI n)])), (a, .inl (ca 0, cap, .inl (revF g n)))] := Eq.mp (congrArg (fun z9 : Nat → Int32 => va_D A [(q, .inr (2, [.ref a, .int (nI n)])), (a, .inl (ca 0, cap, .inl z9))]) e3) hD
        exact W.vret hx hb hr (fun t ht hW => ⟨⟨(), rfl, by trivial, by rw [ht]; exact hP, hD⟩, hS.F ht⟩) hS.2.2 dX2_reverse_54
      · refine lv_aload_n hx hb dX2_reverse_12 rfl (lv_at hl 1 rfl) ?_
        refine lv_iload_n hx hb dX2_reverse_13 rfl (lv_at hl 0 rfl) ?_
        refine vp_callSi (va_Run.run (va_runV (As := [.int (nI i)]) (rest := []) ⟨hx, hb, hml, hown, hts⟩ (kX2_at_in l D ca q a cap (revL g n i) n i (by first | rfl | assumption | omega | trivial | (exfalso; omega)) (by first | rfl | assumption | omega | trivial | (exfalso; omega)) (by first | rfl | assumption | omega | trivial | (exfalso; omega))) (cwV 1 hts gX2_reverse_X2_at rfl rfl rfl (by decide +kernel) ⟨kk_le rfl, kk_le rfl⟩) (pvR hK hP (va_recv hKv hP (ci := 2) (q0 := 0) rfl rfl)) rfl rfl hl.1 rfl (lv_room (kk_le rfl)) dX2_reverse_14 ⟨kk_le rfl, kk_le rfl⟩)) (fun r4 hr4 => ?_)
        subst hr4
        refine lv_istore_n (lv' := [(2, .int ((revL g n i) i)), (1, .int (nI i)), (0, .ref q)]) hx hb dX2_reverse_17 rfl hl (by decide) rfl (fun ls hl => ?_)
        refine lv_aload_n hx hb dX2_reverse_18 rfl (lv_at hl 2 rfl) ?_
        refine lv_iload_n hx hb dX2_reverse_19 rfl (lv_at hl 1 rfl) ?_
        refine lv_aload_n hx hb dX2_reverse_20 rfl (lv_at hl 2 rfl) ?_
        refine lv_aload_n hx hb dX2_reverse_21 rfl (lv_at hl 2 rfl) ?_
        refine va_get (D := D) (ci := 2) (C := RX2) (T := TX2) (N := 2) hx hb hts hiX2 hown hKv hP 0 rfl rfl 1 (by decide) lk9 (fun _ h9 => h9) rfl dX2_reverse_22 ?_
        refine lv_iconst (v := nI 1) hx hb dX2_reverse_25 (by decide) ?_
        refine ni_isub (by omega) hx hb dX2_reverse_26 ?_
        refine lv_iload_n hx hb dX2_reverse_27 rfl (lv_at hl 1 rfl) ?_
        refine ni_isub (by omega) hx hb dX2_reverse_28 ?_
        refine vp_callSi (va_Run.run (va_runV (As := [.int (nI ((n - 1) - i))]) (rest := [.int (nI i), .ref q]) ⟨hx, hb, hml, hown, hts⟩ (kX2_at_in l D ca q a cap (revL g n i) n ((n - 1) - i) (by first | rfl | assumption | omega | trivial | (exfalso; omega)) (by first | rfl | assumption | omega | trivial | (exfalso; omega)) (by first | rfl | assumption | omega | trivial | (exfalso; omega))) (cwV 1 hts gX2_reverse_X2_at rfl rfl rfl (by decide +kernel) ⟨kk_le rfl, kk_le rfl⟩) (pvR hK hP (va_recv hKv hP (ci := 2) (q0 := 0) rfl rfl)) rfl rfl hl.1 rfl (lv_room (kk_le rfl)) dX2_reverse_29 ⟨kk_le rfl, kk_le rfl⟩)) (fun r5 hr5 => ?_)
        subst hr5
        have hPc := hP
        have hDc := hD
        have hFc := va_free (wc := [(q, .inr (2, [.ref a, .int (nI n)])), (a, .inl (ca 0, cap, .inl (revL g n i)))]) hD hS hA [0, 1] rfl
        refine va_callv (va_runV (As := [.int (nI i), .int ((revL g n i) ((n - 1) - i))]) (rest := []) ⟨hx, hb, hml, hown, hts⟩ (kX2_put l D ca H.size q a cap (revL g n i) n i ((revL g n i) ((n - 1) - i)) (by first | rfl | assumption | omega | trivial | (exfalso; omega)) (by first | rfl | assumption | omega | trivial | (exfalso; omega)) (by first | rfl | assumption | omega | trivial | (exfalso; omega))) (cwV 2 hts gX2_reverse_X2_put rfl rfl rfl (by decide +kernel) ⟨kk_le rfl, kk_le rfl⟩) (pvM hK hPc (my_D_true hDc) (va_recv hKv hP (ci := 2) (q0 := 0) rfl rfl)) rfl rfl hl.1 rfl (lv_room (kk_le rfl)) dX2_reverse_32 ⟨kk_le rfl, kk_le rfl⟩) hS (fun q _ h => hFc q h) hFc (fun u t H1 locs ht hvm hwv hBv hz1 hk1 hS => ?_)
        obtain ⟨hP1, hD1⟩ := hBv
        rw [ht] at hP1
        have hP1 : va_P D vwCl [(q, .inr (2, [.ref a, .int (nI n)])), (a, .inl (ca 0, cap, .inl (upd (revL g n i) i ((revL g n i) ((n - 1) - i)))))] H1 := hP1
        have hD1 : va_D _ [(q, .inr (2, [.ref a, .int (nI n)])), (a, .inl (ca 0, cap, .inl (upd (revL g n i) i ((revL g n i) ((n - 1) - i)))))] := hD1
        have hw6 := hwv
        have hP := hP1
        have hD := hD1.weaken (fun _ _ _ h => hFc _ h)
        generalize H1 = H at hP hS ⊢
        have hP : va_P D vwCl [(q, .inr (2, [.ref a, .int (nI n)])), (a, .inl (ca 0, cap, .inl (upd (revL g n i) i ((revL g n i) ((n - 1) - i)))))] H := hP
        have hD : va_D A [(q, .inr (2, [.ref a, .int (nI n)])), (a, .inl (ca 0, cap, .inl (upd (revL g n i) i ((revL g n i) ((n - 1) - i)))))] := hD
        refine lv_aload_n hx hb dX2_reverse_35 rfl (lv_at hl 2 rfl) ?_
        refine lv_aload_n hx hb dX2_reverse_36 rfl (lv_at hl 2 rfl) ?_
        refine va_get (D := D) (ci := 2) (C := RX2) (T := TX2) (N := 2) hx hb hts hiX2 hown hKv hP 0 rfl rfl 1 (by decide) lk9 (fun _ h9 => h9) rfl dX2_reverse_37 ?_
        refine lv_iconst (v := nI 1) hx hb dX2_reverse_40 (by decide) ?_
        refine ni_isub (by omega) hx hb dX2_reverse_41 ?_
        refine lv_iload_n hx hb dX2_reverse_42 rfl (lv_at hl 1 rfl) ?_
        refine ni_isub (by omega) hx hb dX2_reverse_43 ?_
        refine lv_iload_n hx hb dX2_reverse_44 rfl (lv_at hl 0 rfl) ?_
        have hPc := hP
        have hDc := hD
        have hFc := va_free (wc := [(q, .inr (2, [.ref a, .int (nI n)])), (a, .inl (ca 0, cap, .inl (upd (revL g n i) i ((revL g n i) ((n - 1) - i)))))]) hD hS hA [0, 1] rfl
        refine va_callv (va_runV (As := [.int (nI ((n - 1) - i)), .int ((revL g n i) i)]) (rest := []) ⟨hx, hb, hml, hown, hts⟩ (kX2_put l D ca H.size q a cap (upd (revL g n i) i ((revL g n i) ((n - 1) - i))) n ((n - 1) - i) ((revL g n i) i) (by first | rfl | assumption | omega | trivial | (exfalso; omega)) (by first | rfl | assumption | omega | trivial | (exfalso; omega)) (by first | rfl | assumption | omega | trivial | (exfalso; omega))) (cwV 2 hts gX2_reverse_X2_put rfl rfl rfl (by decide +kernel) ⟨kk_le rfl, kk_le rfl⟩) (pvM hK hPc (my_D_true hDc) (va_recv hKv hP (ci := 2) (q0 := 0) rfl rfl)) rfl rfl hl.1 rfl (lv_room (kk_le rfl)) dX2_reverse_45 ⟨kk_le rfl, kk_le rfl⟩) hS (fun q _ h => hFc q h) hFc (fun u t H1 locs ht hvm hwv hBv hz1 hk1 hS => ?_)
        obtain ⟨hP1, hD1⟩ := hBv
        rw [ht] at hP1
        have hP1 : va_P D vwCl [(q, .inr (2, [.ref a, .int (nI n)])), (a, .inl (ca 0, cap, .inl (upd (upd (revL g n i) i ((revL g n i) ((n - 1) - i))) ((n - 1) - i) ((revL g n i) i))))] H1 := hP1
        have hD1 : va_D _ [(q, .inr (2, [.ref a, .int (nI n)])), (a, .inl (ca 0, cap, .inl (upd (upd (revL g n i) i ((revL g n i) ((n - 1) - i))) ((n - 1) - i) ((revL g n i) i))))] := hD1
        have hw8 := hwv
        have hP := hP1
        have hD := hD1.weaken (fun _ _ _ h => hFc _ h)
        generalize H1 = H at hP hS ⊢
        have hP : va_P D vwCl [(q, .inr (2, [.ref a, .int (nI n)])), (a, .inl (ca 0, cap, .inl (upd (upd (revL g n i) i ((revL g n i) ((n - 1) - i))) ((n - 1) - i) ((revL g n i) i))))] H := hP
        have hD : va_D A [(q, .inr (2, [.ref a, .int (nI n)])), (a, .inl (ca 0, cap, .inl (upd (upd (revL g n i) i ((revL g n i) ((n - 1) - i))) ((n - 1) - i) ((revL g n i) i))))] := hD
        refine lv_iinc (v := nI (i + 1)) (lv' := [(1, .int (nI (i + 1))), (2, .int ((revL g n i) i)), (0, .ref q)]) hx hb dX2_reverse_48 hl (k := 1) rfl (ni_inc _ _ (by decide)) (by decide) rfl (fun ls hl => ?_)
        refine lv_goto (tgt := 2) hx hb dX2_reverse_51 (by decide) ?_
        have e10 : (upd (upd (revL g n i) i ((revL g n i) ((n - 1) - i))) ((n - 1) - i) ((revL g n i) i) : Nat → Int32) = revL g n (i + 1) := by exact revL_step g (by omega)
        have hP : va_P D vwCl [(q, .inr (2, [.ref a, .int (nI n)])), (a, .inl (ca 0, cap, .inl (revL g n (i + 1))))] H := Eq.mp (congrArg (fun z9 : Nat → Int32 => va_P D vwCl [(q, .inr (2, [.ref a, .int (nI n)])), (a, .inl (ca 0, cap, .inl z9))] H) e10) hP
        have hD : va_D A [(q, .inr (2, [.ref a, .int (nI n)])), (a, .inl (ca 0, cap, .inl (revL g n (i + 1))))] := Eq.mp (congrArg (fun z9 : Nat → Int32 => va_D A [(q, .inr (2, [.ref a, .int (nI n)])), (a, .inl (ca 0, cap, .inl z9))]) e10) hD
        exact ih1 (i + 1) (by omega) (by omega) _ _ hP hD hS ls (lv_sub hl [0, 2] rfl)
  have e11 : (g : Nat → Int32) = revL g n 0 := by exact (revL_0 g n).symm
  have hP : va_P D vwCl [(q, .inr (2, [.ref a, .int (nI n)])), (a, .inl (ca 0, cap, .inl (revL g n 0)))] s.heap := Eq.mp (congrArg (fun z9 : Nat → Int32 => va_P D vwCl [(q, .inr (2, [.ref a, .int (nI n)])), (a, .inl (ca 0, cap, .inl z9))] s.heap) e11) hP
  have hD : va_D A [(q, .inr (2, [.ref a, .int (nI n)])), (a, .inl (ca 0, cap, .inl (revL g n 0)))] := Eq.mp (congrArg (fun z9 : Nat → Int32 => va_D A [(q, .inr (2, [.ref a, .int (nI n)])), (a, .inl (ca 0, cap, .inl z9))]) e11) hD
  exact lp2_0 ((n - 0) + 1) 0 (by omega) (by omega) _ _ hP hD hS ls (lv_sub hl [0, 1] rfl)
abbrev rm_kX2_sum : Room := { frames := 1, cells := 0, slots := 0, locals := 21 }
set_option maxHeartbeats 4000000 in
set_option maxRecDepth 100000 in
theorem kX2_sum (l : Launch) (D : va_G) (ca : Nat → ClassId) (q a cap : Nat) (g : Nat → Int32) (n : Nat) (hn : n ≤ cap) (hc : cap < 1000000) : Met l yX2_sum wsX2_sum rm_kX2_sum (pcR D ca [.ref q] [(q, .inr (2, [.ref a, .int (nI n)])), (a, .inl (ca 0, cap, .inl g))]) (vp_Si (fun z : Int32 => z = sumL (lst g n))) 0 0 (fun _ => False) := by
  refine Met.ofW (cc := cX2_sum) (maxL := 3) (ret := (some .int)) (by decide) rfl ?_
  intro p e s m args below meth c s₁ B hml hv
  obtain ⟨rfl, hP, hK⟩ := hv
  have hx := B.exec
  have hb := B.bytes
  have hr := B.returns
  have hts := atoms_spec (ws := wsX2_sum) B.pre
  have hown : s.vm.findClass RX2 = some m.cls := findClass_of_methodNamed B.named
  have hlocks := B.notSynchronized
  have hKv := hK.1
  have hl := lv_entry ([.ref q]) (n := 3) (kk_le rfl)
  rw [lg_entry_eq]
  generalize (lg_sl ([.ref q]) ++ List.replicate (3 - (lg_sl ([.ref q])).length) Slot.unset).toArray = ls at hl ⊢
  have hl : lv_has ls 3 [(0, .ref q)] := hl
  generalize hQz : MQ below _ _ _ _ _ _ = Qz
  have hiX2 : ∀ w ∈ u_ws RX2 TX2 2, w ∈ wsX2_sum := fun w h => by first | exact List.mem_cons_of_mem _ (List.mem_append_right _ h) | exact List.mem_cons_of_mem _ (List.mem_append_left _ (List.mem_append_right _ h)) | exact List.mem_cons_of_mem _ (List.mem_append_left _ (List.mem_append_left _ (List.mem_append_right _ h))) | exact List.mem_cons_of_mem _ (List.mem_append_left _ (List.mem_append_left _ (List.mem_append_left _ (List.mem_append_right _ h)))) | (revert w h; decide +kernel)
  have lk9 : (Cond.fieldLink RX2 9 "StripeSwipes$Row" "size" "I").before _ s = true := hts _ (by decide +kernel)
  refine lv_iconst (v := nI 0) hx hb dX2_sum_0 (by decide) ?_
  refine lv_istore_n (lv' := [(1, .int (nI 0)), (0, .ref q)]) hx hb dX2_sum_1 rfl hl (by decide) rfl (fun ls hl => ?_)
  refine lv_iconst (v := nI 0) hx hb dX2_sum_2 (by decide) ?_
  refine lv_istore_n (lv' := [(2, .int (nI 0)), (1, .int (nI 0)), (0, .ref q)]) hx hb dX2_sum_3 rfl hl (by decide) rfl (fun ls hl => ?_)
  have lp4_0 : ∀ (k1 : Nat) (i : Nat) (acc : Int32), n - i < k1 → (i ≤ n) → (acc = sumL (lst g i)) → ∀ (ls : Array Slot), lv_has ls 3 [(2, .int (nI i)), (1, .int acc), (0, .ref q)] → W p l e rm_kX2_sum s m ([.ref q] : List Value).toArray below meth c s.heap [] 0 0 Qz (F0 m 4 ls []) := by
    intro k1
    induction k1 with
    | zero => intro i acc hm1; exact absurd hm1 (Nat.not_lt_zero _)
    | succ k1 ih1 =>
      intro i acc hm1 hi ha ls hl
      refine lv_iload_n hx hb dX2_sum_4 rfl (lv_at hl 0 rfl) ?_
      refine lv_aload_n hx hb dX2_sum_5 rfl (lv_at hl 2 rfl) ?_
      refine va_get (D := D) (ci := 2) (C := RX2) (T := TX2) (N := 2) hx hb hts hiX2 hown hKv hP 0 rfl rfl 1 (by decide) lk9 (fun _ h9 => h9) rfl dX2_sum_6 ?_
      refine ni_icmp_ge (tgt := 26) (by omega) (by omega) hx hb dX2_sum_9 (by decide) (fun c2 => ?_) (fun c2 => ?_)
      · refine lv_iload_n hx hb dX2_sum_26 rfl (lv_at hl 1 rfl) ?_
        subst hQz
        exact W.iret (v := acc) hx hb hr (fun t ht _ => ⟨_, rfl, by (rw [ha, show i = n from by omega]), ht⟩) (fun _ h => nomatch h) dX2_sum_27
      · refine lv_iload_n hx hb dX2_sum_12 rfl (lv_at hl 1 rfl) ?_
        refine lv_aload_n hx hb dX2_sum_13 rfl (lv_at hl 2 rfl) ?_
        refine lv_iload_n hx hb dX2_sum_14 rfl (lv_at hl 0 rfl) ?_
        refine vp_callSi (va_Run.run (va_runV (As := [.int (nI i)]) (rest := [.int acc]) ⟨hx, hb, hml, hown, hts⟩ (kX2_at_in l D ca q a cap g n i (by first | rfl | assumption | omega | trivial | (exfalso; omega)) (by first | rfl | assumption | omega | trivial | (exfalso; omega)) (by first | rfl | assumption | omega | trivial | (exfalso; omega))) (cwV 1 hts gX2_sum_X2_at rfl rfl rfl (by decide +kernel) ⟨kk_le rfl, kk_le rfl⟩) (pvR hK hP (va_recv hKv hP (ci := 2) (q0 := 0) rfl rfl)) rfl rfl hl.1 rfl (lv_room (kk_le rfl)) dX2_sum_15 ⟨kk_le rfl, kk_le rfl⟩)) (fun r3 hr3 => ?_)
        subst hr3
        refine lv_iadd hx hb dX2_sum_18 ?_
        refine lv_istore_n (lv' := [(1, .int (acc + (g i))), (2, .int (nI i)), (0, .ref q)]) hx hb dX2_sum_19 rfl hl (by decide) rfl (fun ls hl => ?_)
        refine lv_iinc (v := nI (i + 1)) (lv' := [(2, .int (nI (i + 1))), (1, .int (acc + (g i))), (0, .ref q)]) hx hb dX2_sum_20 hl (k := 1) rfl (ni_inc _ _ (by decide)) (by decide) rfl (fun ls hl => ?_)
        refine lv_goto (tgt := 4) hx hb dX2_sum_23 (by decide) ?_
        exact ih1 (i + 1) (acc + (g i)) (by omega) (by omega) (by rw [ha, lst_succ, sumL_app]) ls (lv_sub hl [0, 1, 2] rfl)
  exact lp4_0 ((n - 0) + 1) 0 (nI 0) (by omega) (by omega) (by rfl) ls (lv_sub hl [0, 1, 2] rfl)
abbrev rm_kX2_least : Room := { frames := 1, cells := 0, slots := 0, locals := 30 }
set_option maxHeartbeats 4000000 in
set_option maxRecDepth 100000 in
theorem kX2_least (l : Launch) (D : va_G) (ca : Nat → ClassId) (q a cap : Nat) (g : Nat → Int32) (n : Nat) (hn : n ≤ cap) (hc : cap < 1000000) : Met l yX2_least wsX2_least rm_kX2_least (pcR D ca [.ref q] [(q, .inr (2, [.ref a, .int (nI n)])), (a, .inl (ca 0, cap, .inl g))]) (vp_Si (fun z : Int32 => z = minL (lst g n))) 0 0 (fun _ => False) := by
  refine Met.ofW (cc := cX2_least) (maxL := 3) (ret := (some .int)) (by decide) rfl ?_
  intro p e s m args below meth c s₁ B hml hv
  obtain ⟨rfl, hP, hK⟩ := hv
  have hx := B.exec
  have hb := B.bytes
  have hr := B.returns
  have hts := atoms_spec (ws := wsX2_least) B.pre
  have hown : s.vm.findClass RX2 = some m.cls := findClass_of_methodNamed B.named
  have hlocks := B.notSynchronized
  have hKv := hK.1
  have hl := lv_entry ([.ref q]) (n := 3) (kk_le rfl)
  rw [lg_entry_eq]
  generalize (lg_sl ([.ref q]) ++ List.replicate (3 - (lg_sl ([.ref q])).length) Slot.unset).toArray = ls at hl ⊢
  have hl : lv_has ls 3 [(0, .ref q)] := hl
  generalize hQz : MQ below _ _ _ _ _ _ = Qz
  have hiX2 : ∀ w ∈ u_ws RX2 TX2 2, w ∈ wsX2_least := fun w h => by first | exact List.mem_cons_of_mem _ (List.mem_append_right _ h) | exact List.mem_cons_of_mem _ (List.mem_append_left _ (List.mem_append_right _ h)) | exact List.mem_cons_of_mem _ (List.mem_append_left _ (List.mem_append_left _ (List.mem_append_right _ h))) | exact List.mem_cons_of_mem _ (List.mem_append_left _ (List.mem_append_left _ (List.mem_append_left _ (List.mem_append_right _ h)))) | (revert w h; decide +kernel)
  have lk9 : (Cond.fieldLink RX2 9 "StripeSwipes$Row" "size" "I").before _ s = true := hts _ (by decide +kernel)
  have lm43 : (Cond.methodLink RX2 43 Lib.Math.min.name).before _ s = true := hts _ (by decide +kernel)
  have ls_min : (Cond.static Lib.Math.min.name).before _ s = true := hts _ (by decide +kernel)
  have li_math : (Cond.initialized "java/lang/Math").before _ s = true := hts _ (by decide +kernel)
  have lco_min : (Cond.code Lib.Math.min.name Lib.Math.min.code 2 (some .int)).before _ s = true := hts _ (by decide +kernel)
  refine lv_aload_n hx hb dX2_least_0 rfl (lv_at hl 0 rfl) ?_
  refine va_get (D := D) (ci := 2) (C := RX2) (T := TX2) (N := 2) hx hb hts hiX2 hown hKv hP 0 rfl rfl 1 (by decide) lk9 (fun _ h9 => h9) rfl dX2_least_1 ?_
  refine ni_if_ne (tgt := 11) (by omega) hx hb dX2_least_4 (by decide) (fun c1 => ?_) (fun c1 => ?_)
  · refine lv_aload_n hx hb dX2_least_11 rfl (lv_at hl 0 rfl) ?_
    refine lv_iconst (v := nI 0) hx hb dX2_least_12 (by decide) ?_
    refine vp_callSi (va_Run.run (va_runV (As := [.int (nI 0)]) (rest := []) ⟨hx, hb, hml, hown, hts⟩ (kX2_at_in l D ca q a cap g n 0 (by first | rfl | assumption | omega | trivial | (exfalso; omega)) (by first | rfl | assumption | omega | trivial | (exfalso; omega)) (by first | rfl | assumption | omega | trivial | (exfalso; omega))) (cwV 1 hts gX2_least_X2_at rfl rfl rfl (by decide +kernel) ⟨kk_le rfl, kk_le rfl⟩) (pvR hK hP (va_recv hKv hP (ci := 2) (q0 := 0) rfl rfl)) rfl rfl hl.1 rfl (lv_room (kk_le rfl)) dX2_least_13 ⟨kk_le rfl, kk_le rfl⟩)) (fun r2 hr2 => ?_)
    subst hr2
    refine lv_istore_n (lv' := [(1, .int (g 0)), (0, .ref q)]) hx hb dX2_least_16 rfl hl (by decide) rfl (fun ls hl => ?_)
    refine lv_iconst (v := nI 1) hx hb dX2_least_17 (by decide) ?_
    refine lv_istore_n (lv' := [(2, .int (nI 1)), (1, .int (g 0)), (0, .ref q)]) hx hb dX2_least_18 rfl hl (by decide) rfl (fun ls hl => ?_)
    have lp19_2 : ∀ (k1 : Nat) (i : Nat) (acc : Int32), n - i < k1 → (1 ≤ i) → (i ≤ n ∨ n = 0) → (i ≤ 1000001) → (n = 0 ∧ acc = nI 0 ∨ 0 < n ∧ acc = minL (lst g i)) → ∀ (ls : Array Slot), lv_has ls 3 [(2, .int (nI i)), (1, .int acc), (0, .ref q)] → W p l e rm_kX2_least s m ([.ref q] : List Value).toArray below meth c s.heap [] 0 0 Qz (F0 m 19 ls []) := by
      intro k1
      induction k1 with
      | zero => intro i acc hm1; exact absurd hm1 (Nat.not_lt_zero _)
      | succ k1 ih1 =>
        intro i acc hm1 h1 hi hb9 ha ls hl
        refine lv_iload_n hx hb dX2_least_19 rfl (lv_at hl 0 rfl) ?_
        refine lv_aload_n hx hb dX2_least_20 rfl (lv_at hl 2 rfl) ?_
        refine va_get (D := D) (ci := 2) (C := RX2) (T := TX2) (N := 2) hx hb hts hiX2 hown hKv hP 0 rfl rfl 1 (by decide) lk9 (fun _ h9 => h9) rfl dX2_least_21 ?_
        refine ni_icmp_ge (tgt := 43) (by omega) (by omega) hx hb dX2_least_24 (by decide) (fun c4 => ?_) (fun c4 => ?_)
        · refine lv_iload_n hx hb dX2_least_43 rfl (lv_at hl 1 rfl) ?_
          subst hQz
          exact W.iret (v := acc) hx hb hr (fun t ht _ => ⟨_, rfl, by (rcases ha with ⟨rfl, ha⟩ | ⟨h9, ha⟩; rw [ha]; rfl; rw [ha, show i = n from by omega]), ht⟩) (fun _ h => nomatch h) dX2_least_44
        · refine lv_iload_n hx hb dX2_least_27 rfl (lv_at hl 1 rfl) ?_
          refine lv_aload_n hx hb dX2_least_28 rfl (lv_at hl 2 rfl) ?_
          refine lv_iload_n hx hb dX2_least_29 rfl (lv_at hl 0 rfl) ?_
          refine vp_callSi (va_Run.run (va_runV (As := [.int (nI i)]) (rest := [.int acc]) ⟨hx, hb, hml, hown, hts⟩ (kX2_at_in l D ca q a cap g n i (by first | rfl | assumption | omega | trivial | (exfalso; omega)) (by first | rfl | assumption | omega | trivial | (exfalso; omega)) (by first | rfl | assumption | omega | trivial | (exfalso; omega))) (cwV 1 hts gX2_least_X2_at rfl rfl rfl (by decide +kernel) ⟨kk_le rfl, kk_le rfl⟩) (pvR hK hP (va_recv hKv hP (ci := 2) (q0 := 0) rfl rfl)) rfl rfl hl.1 rfl (lv_room (kk_le rfl)) dX2_least_30 ⟨kk_le rfl, kk_le rfl⟩)) (fun r5 hr5 => ?_)
          subst hr5
          refine va_mmin hx hb (hml.trans hl.1.symm) hown lm43 ls_min li_math lco_min (kk_le rfl) (kk_le rfl) (kk_le rfl) (kk_le rfl) dX2_least_33 ?_
          refine lv_istore_n (lv' := [(1, .int (if g i < acc then g i else acc)), (2, .int (nI i)), (0, .ref q)]) hx hb dX2_least_36 rfl hl (by decide) rfl (fun ls hl => ?_)
          refine lv_iinc (v := nI (i + 1)) (lv' := [(2, .int (nI (i + 1))), (1, .int (if g i < acc then g i else acc)), (0, .ref q)]) hx hb dX2_least_37 hl (k := 1) rfl (ni_inc _ _ (by decide)) (by decide) rfl (fun ls hl => ?_)
          refine lv_goto (tgt := 19) hx hb dX2_least_40 (by decide) ?_
          exact ih1 (i + 1) (if g i < acc then g i else acc) (by omega) (by omega) (by omega) (by omega) (by (rcases ha with ⟨h9, -⟩ | ⟨h9, ha⟩; omega; exact Or.inr ⟨h9, by rw [ha, lst_succ, minL_app _ _ (lst_ne g (by omega))]⟩)) ls (lv_sub hl [0, 1, 2] rfl)
    exact lp19_2 ((n - 1) + 1) 1 (g 0) (by omega) (by omega) (by omega) (by omega) (by first | exact Or.inl ⟨by omega, rfl⟩ | exact Or.inr ⟨by omega, rfl⟩) ls (lv_sub hl [0, 1, 2] rfl)
  · refine lv_iconst (v := nI 0) hx hb dX2_least_7 (by decide) ?_
    refine lv_goto (tgt := 16) hx hb dX2_least_8 (by decide) ?_
    refine lv_istore_n (lv' := [(1, .int (nI 0)), (0, .ref q)]) hx hb dX2_least_16 rfl hl (by decide) rfl (fun ls hl => ?_)
    refine lv_iconst (v := nI 1) hx hb dX2_least_17 (by decide) ?_
    refine lv_istore_n (lv' := [(2, .int (nI 1)), (1, .int (nI 0)), (0, .ref q)]) hx hb dX2_least_18 rfl hl (by decide) rfl (fun ls hl => ?_)
    have lp19_5 : ∀ (k2 : Nat) (i : Nat) (acc : Int32), n - i < k2 → (1 ≤ i) → (i ≤ n ∨ n = 0) → (i ≤ 1000001) → (n = 0 ∧ acc = nI 0 ∨ 0 < n ∧ acc = minL (lst g i)) → ∀ (ls : Array Slot), lv_has ls 3 [(2, .int (nI i)), (1, .int acc), (0, .ref q)] → W p l e rm_kX2_least s m ([.ref q] : List Value).toArray below meth c s.heap [] 0 0 Qz (F0 m 19 ls []) := by
      intro k2
      induction k2 with
      | zero => intro i acc hm2; exact absurd hm2 (Nat.not_lt_zero _)
      | succ k2 ih2 =>
        intro i acc hm2 h1 hi hb9 ha ls hl
        refine lv_iload_n hx hb dX2_least_19 rfl (lv_at hl 0 rfl) ?_
        refine lv_aload_n hx hb dX2_least_20 rfl (lv_at hl 2 rfl) ?_
        refine va_get (D := D) (ci := 2) (C := RX2) (T := TX2) (N := 2) hx hb hts hiX2 hown hKv hP 0 rfl rfl 1 (by decide) lk9 (fun _ h9 => h9) rfl dX2_least_21 ?_
        refine ni_icmp_ge (tgt := 43) (by omega) (by omega) hx hb dX2_least_24 (by decide) (fun c7 => ?_) (fun c7 => ?_)
        · refine lv_iload_n hx hb dX2_least_43 rfl (lv_at hl 1 rfl) ?_
          subst hQz
          exact W.iret (v := acc) hx hb hr (fun t ht _ => ⟨_, rfl, by (rcases ha with ⟨rfl, ha⟩ | ⟨h9, ha⟩; rw [ha]; rfl; rw [ha, show i = n from by omega]), ht⟩) (fun _ h => nomatch h) dX2_least_44
        · refine lv_iload_n hx hb dX2_least_27 rfl (lv_at hl 1 rfl) ?_
          refine lv_aload_n hx hb dX2_least_28 rfl (lv_at hl 2 rfl) ?_
          refine lv_iload_n hx hb dX2_least_29 rfl (lv_at hl 0 rfl) ?_
          refine vp_callSi (va_Run.run (va_runV (As := [.int (nI i)]) (rest := [.int acc]) ⟨hx, hb, hml, hown, hts⟩ (kX2_at_in l D ca q a cap g n i (by first | rfl | assumption | omega | trivial | (exfalso; omega)) (by first | rfl | assumption | omega | trivial | (exfalso; omega)) (by first | rfl | assumption | omega | trivial | (exfalso; omega))) (cwV 1 hts gX2_least_X2_at rfl rfl rfl (by decide +kernel) ⟨kk_le rfl, kk_le rfl⟩) (pvR hK hP (va_recv hKv hP (ci := 2) (q0 := 0) rfl rfl)) rfl rfl hl.1 rfl (lv_room (kk_le rfl)) dX2_least_30 ⟨kk_le rfl, kk_le rfl⟩)) (fun r8 hr8 => ?_)
          subst hr8
          refine va_mmin hx hb (hml.trans hl.1.symm) hown lm43 ls_min li_math lco_min (kk_le rfl) (kk_le rfl) (kk_le rfl) (kk_le rfl) dX2_least_33 ?_
          refine lv_istore_n (lv' := [(1, .int (if g i < acc then g i else acc)), (2, .int (nI i)), (0, .ref q)]) hx hb dX2_least_36 rfl hl (by decide) rfl (fun ls hl => ?_)
          refine lv_iinc (v := nI (i + 1)) (lv' := [(2, .int (nI (i + 1))), (1, .int (if g i < acc then g i else acc)), (0, .ref q)]) hx hb dX2_least_37 hl (k := 1) rfl (ni_inc _ _ (by decide)) (by decide) rfl (fun ls hl => ?_)
          refine lv_goto (tgt := 19) hx hb dX2_least_40 (by decide) ?_
          exact ih2 (i + 1) (if g i < acc then g i else acc) (by omega) (by omega) (by omega) (by omega) (by (rcases ha with ⟨h9, -⟩ | ⟨h9, ha⟩; omega; exact Or.inr ⟨h9, by rw [ha, lst_succ, minL_app _ _ (lst_ne g (by omega))]⟩)) ls (lv_sub hl [0, 1, 2] rfl)
    exact lp19_5 ((n - 1) + 1) 1 (nI 0) (by omega) (by omega) (by omega) (by omega) (by first | exact Or.inl ⟨by omega, rfl⟩ | exact Or.inr ⟨by omega, rfl⟩) ls (lv_sub hl [0, 1, 2] rfl)
abbrev rm_kX2_greatest : Room := { frames := 1, cells := 0, slots := 0, locals := 30 }
set_option maxHeartbeats 4000000 in
set_option maxRecDepth 100000 in
theorem kX2_greatest (l : Launch) (D : va_G) (ca : Nat → ClassId) (q a cap : Nat) (g : Nat → Int32) (n : Nat) (hn : n ≤ cap) (hc : cap < 1000000) : Met l yX2_greatest wsX2_greatest rm_kX2_greatest (pcR D ca [.ref q] [(q, .inr (2, [.ref a, .int (nI n)])), (a, .inl (ca 0, cap, .inl g))]) (vp_Si (fun z : Int32 => z = maxL (lst g n))) 0 0 (fun _ => False) := by
  refine Met.ofW (cc := cX2_greatest) (maxL := 3) (ret := (some .int)) (by decide) rfl ?_
  intro p e s m args below meth c s₁ B hml hv
  obtain ⟨rfl, hP, hK⟩ := hv
  have hx := B.exec
  have hb := B.bytes
  have hr := B.returns
  have hts := atoms_spec (ws := wsX2_greatest) B.pre
  have hown : s.vm.findClass RX2 = some m.cls := findClass_of_methodNamed B.named
  have hlocks := B.notSynchronized
  have hKv := hK.1
  have hl := lv_entry ([.ref q]) (n := 3) (kk_le rfl)
  rw [lg_entry_eq]
  generalize (lg_sl ([.ref q]) ++ List.replicate (3 - (lg_sl ([.ref q])).length) Slot.unset).toArray = ls at hl ⊢
  have hl : lv_has ls 3 [(0, .ref q)] := hl
  generalize hQz : MQ below _ _ _ _ _ _ = Qz
  have hiX2 : ∀ w ∈ u_ws RX2 TX2 2, w ∈ wsX2_greatest := fun w h => by first | exact List.mem_cons_of_mem _ (List.mem_append_right _ h) | exact List.mem_cons_of_mem _ (List.mem_append_left _ (List.mem_append_right _ h)) | exact List.mem_cons_of_mem _ (List.mem_append_left _ (List.mem_append_left _ (List.mem_append_right _ h))) | exact List.mem_cons_of_mem _ (List.mem_append_left _ (List.mem_append_left _ (List.mem_append_left _ (List.mem_append_right _ h)))) | (revert w h; decide +kernel)
  have lk9 : (Cond.fieldLink RX2 9 "StripeSwipes$Row" "size" "I").before _ s = true := hts _ (by decide +kernel)
  have lm15 : (Cond.methodLink RX2 15 Lib.Math.max.name).before _ s = true := hts _ (by decide +kernel)
  have ls_max : (Cond.static Lib.Math.max.name).before _ s = true := hts _ (by decide +kernel)
  have li_math : (Cond.initialized "java/lang/Math").before _ s = true := hts _ (by decide +kernel)
  have lco_max : (Cond.code Lib.Math.max.name Lib.Math.max.code 2 (some .int)).before _ s = true := hts _ (by decide +kernel)
  refine lv_aload_n hx hb dX2_greatest_0 rfl (lv_at hl 0 rfl) ?_
  refine va_get (D := D) (ci := 2) (C := RX2) (T := TX2) (N := 2) hx hb hts hiX2 hown hKv hP 0 rfl rfl 1 (by decide) lk9 (fun _ h9 => h9) rfl dX2_greatest_1 ?_
  refine ni_if_ne (tgt := 11) (by omega) hx hb dX2_greatest_4 (by decide) (fun c1 => ?_) (fun c1 => ?_)
  · refine lv_aload_n hx hb dX2_greatest_11 rfl (lv_at hl 0 rfl) ?_
    refine lv_iconst (v := nI 0) hx hb dX2_greatest_12 (by decide) ?_
    refine vp_callSi (va_Run.run (va_runV (As := [.int (nI 0)]) (rest := []) ⟨hx, hb, hml, hown, hts⟩ (kX2_at_in l D ca q a cap g n 0 (by first | rfl | assumption | omega | trivial | (exfalso; omega)) (by first | rfl | assumption | omega | trivial | (exfalso; omega)) (by first | rfl | assumption | omega | trivial | (exfalso; omega))) (cwV 1 hts gX2_greatest_X2_at rfl rfl rfl (by decide +kernel) ⟨kk_le rfl, kk_le rfl⟩) (pvR hK hP (va_recv hKv hP (ci := 2) (q0 := 0) rfl rfl)) rfl rfl hl.1 rfl (lv_room (kk_le rfl)) dX2_greatest_13 ⟨kk_le rfl, kk_le rfl⟩)) (fun r2 hr2 => ?_)
    subst hr2
    refine lv_istore_n (lv' := [(1, .int (g 0)), (0, .ref q)]) hx hb dX2_greatest_16 rfl hl (by decide) rfl (fun ls hl => ?_)
    refine lv_iconst (v := nI 1) hx hb dX2_greatest_17 (by decide) ?_
    refine lv_istore_n (lv' := [(2, .int (nI 1)), (1, .int (g 0)), (0, .ref q)]) hx hb dX2_greatest_18 rfl hl (by decide) rfl (fun ls hl => ?_)
    have lp19_2 : ∀ (k1 : Nat) (i : Nat) (acc : Int32), n - i < k1 → (1 ≤ i) → (i ≤ n ∨ n = 0) → (i ≤ 1000001) → (n = 0 ∧ acc = nI 0 ∨ 0 < n ∧ acc = maxL (lst g i)) → ∀ (ls : Array Slot), lv_has ls 3 [(2, .int (nI i)), (1, .int acc), (0, .ref q)] → W p l e rm_kX2_greatest s m ([.ref q] : List Value).toArray below meth c s.heap [] 0 0 Qz (F0 m 19 ls []) := by
      intro k1
      induction k1 with
      | zero => intro i acc hm1; exact absurd hm1 (Nat.not_lt_zero _)
      | succ k1 ih1 =>
        intro i acc hm1 h1 hi hb9 ha ls hl
        refine lv_iload_n hx hb dX2_greatest_19 rfl (lv_at hl 0 rfl) ?_
        refine lv_aload_n hx hb dX2_greatest_20 rfl (lv_at hl 2 rfl) ?_
        refine va_get (D := D) (ci := 2) (C := RX2) (T := TX2) (N := 2) hx hb hts hiX2 hown hKv hP 0 rfl rfl 1 (by decide) lk9 (fun _ h9 => h9) rfl dX2_greatest_21 ?_
        refine ni_icmp_ge (tgt := 43) (by omega) (by omega) hx hb dX2_greatest_24 (by decide) (fun c4 => ?_) (fun c4 => ?_)
        · refine lv_iload_n hx hb dX2_greatest_43 rfl (lv_at hl 1 rfl) ?_
          subst hQz
          exact W.iret (v := acc) hx hb hr (fun t ht _ => ⟨_, rfl, by (rcases ha with ⟨rfl, ha⟩ | ⟨h9, ha⟩; rw [ha]; rfl; rw [ha, show i = n from by omega]), ht⟩) (fun _ h => nomatch h) dX2_greatest_44
        · refine lv_iload_n hx hb dX2_greatest_27 rfl (lv_at hl 1 rfl) ?_
          refine lv_aload_n hx hb dX2_greatest_28 rfl (lv_at hl 2 rfl) ?_
          refine lv_iload_n hx hb dX2_greatest_29 rfl (lv_at hl 0 rfl) ?_
          refine vp_callSi (va_Run.run (va_runV (As := [.int (nI i)]) (rest := [.int acc]) ⟨hx, hb, hml, hown, hts⟩ (kX2_at_in l D ca q a cap g n i (by first | rfl | assumption | omega | trivial | (exfalso; omega)) (by first | rfl | assumption | omega | trivial | (exfalso; omega)) (by first | rfl | assumption | omega | trivial | (exfalso; omega))) (cwV 1 hts gX2_greatest_X2_at rfl rfl rfl (by decide +kernel) ⟨kk_le rfl, kk_le rfl⟩) (pvR hK hP (va_recv hKv hP (ci := 2) (q0 := 0) rfl rfl)) rfl rfl hl.1 rfl (lv_room (kk_le rfl)) dX2_greatest_30 ⟨kk_le rfl, kk_le rfl⟩)) (fun r5 hr5 => ?_)
          subst hr5
          refine va_mmax hx hb (hml.trans hl.1.symm) hown lm15 ls_max li_math lco_max (kk_le rfl) (kk_le rfl) (kk_le rfl) (kk_le rfl) dX2_greatest_33 ?_
          refine lv_istore_n (lv' := [(1, .int (if acc < g i then g i else acc)), (2, .int (nI i)), (0, .ref q)]) hx hb dX2_greatest_36 rfl hl (by decide) rfl (fun ls hl => ?_)
          refine lv_iinc (v := nI (i + 1)) (lv' := [(2, .int (nI (i + 1))), (1, .int (if acc < g i then g i else acc)), (0, .ref q)]) hx hb dX2_greatest_37 hl (k := 1) rfl (ni_inc _ _ (by decide)) (by decide) rfl (fun ls hl => ?_)
          refine lv_goto (tgt := 19) hx hb dX2_greatest_40 (by decide) ?_
          exact ih1 (i + 1) (if acc < g i then g i else acc) (by omega) (by omega) (by omega) (by omega) (by (rcases ha with ⟨h9, -⟩ | ⟨h9, ha⟩; omega; exact Or.inr ⟨h9, by rw [ha, lst_succ, maxL_app _ _ (lst_ne g (by omega))]⟩)) ls (lv_sub hl [0, 1, 2] rfl)
    exact lp19_2 ((n - 1) + 1) 1 (g 0) (by omega) (by omega) (by omega) (by omega) (by first | exact Or.inl ⟨by omega, rfl⟩ | exact Or.inr ⟨by omega, rfl⟩) ls (lv_sub hl [0, 1, 2] rfl)
  · refine lv_iconst (v := nI 0) hx hb dX2_greatest_7 (by decide) ?_
    refine lv_goto (tgt := 16) hx hb dX2_greatest_8 (by decide) ?_
    refine lv_istore_n (lv' := [(1, .int (nI 0)), (0, .ref q)]) hx hb dX2_greatest_16 rfl hl (by decide) rfl (fun ls hl => ?_)
    refine lv_iconst (v := nI 1) hx hb dX2_greatest_17 (by decide) ?_
    refine lv_istore_n (lv' := [(2, .int (nI 1)), (1, .int (nI 0)), (0, .ref q)]) hx hb dX2_greatest_18 rfl hl (by decide) rfl (fun ls hl => ?_)
    have lp19_5 : ∀ (k2 : Nat) (i : Nat) (acc : Int32), n - i < k2 → (1 ≤ i) → (i ≤ n ∨ n = 0) → (i ≤ 1000001) → (n = 0 ∧ acc = nI 0 ∨ 0 < n ∧ acc = maxL (lst g i)) → ∀ (ls : Array Slot), lv_has ls 3 [(2, .int (nI i)), (1, .int acc), (0, .ref q)] → W p l e rm_kX2_greatest s m ([.ref q] : List Value).toArray below meth c s.heap [] 0 0 Qz (F0 m 19 ls []) := by
      intro k2
      induction k2 with
      | zero => intro i acc hm2; exact absurd hm2 (Nat.not_lt_zero _)
      | succ k2 ih2 =>
        intro i acc hm2 h1 hi hb9 ha ls hl
        refine lv_iload_n hx hb dX2_greatest_19 rfl (lv_at hl 0 rfl) ?_
        refine lv_aload_n hx hb dX2_greatest_20 rfl (lv_at hl 2 rfl) ?_
        refine va_get (D := D) (ci := 2) (C := RX2) (T := TX2) (N := 2) hx hb hts hiX2 hown hKv hP 0 rfl rfl 1 (by decide) lk9 (fun _ h9 => h9) rfl dX2_greatest_21 ?_
        refine ni_icmp_ge (tgt := 43) (by omega) (by omega) hx hb dX2_greatest_24 (by decide) (fun c7 => ?_) (fun c7 => ?_)
        · refine lv_iload_n hx hb dX2_greatest_43 rfl (lv_at hl 1 rfl) ?_
          subst hQz
          exact W.iret (v := acc) hx hb hr (fun t ht _ => ⟨_, rfl, by (rcases ha with ⟨rfl, ha⟩ | ⟨h9, ha⟩; rw [ha]; rfl; rw [ha, show i = n from by omega]), ht⟩) (fun _ h => nomatch h) dX2_greatest_44
        · refine lv_iload_n hx hb dX2_greatest_27 rfl (lv_at hl 1 rfl) ?_
          refine lv_aload_n hx hb dX2_greatest_28 rfl (lv_at hl 2 rfl) ?_
          refine lv_iload_n hx hb dX2_greatest_29 rfl (lv_at hl 0 rfl) ?_
          refine vp_callSi (va_Run.run (va_runV (As := [.int (nI i)]) (rest := [.int acc]) ⟨hx, hb, hml, hown, hts⟩ (kX2_at_in l D ca q a cap g n i (by first | rfl | assumption | omega | trivial | (exfalso; omega)) (by first | rfl | assumption | omega | trivial | (exfalso; omega)) (by first | rfl | assumption | omega | trivial | (exfalso; omega))) (cwV 1 hts gX2_greatest_X2_at rfl rfl rfl (by decide +kernel) ⟨kk_le rfl, kk_le rfl⟩) (pvR hK hP (va_recv hKv hP (ci := 2) (q0 := 0) rfl rfl)) rfl rfl hl.1 rfl (lv_room (kk_le rfl)) dX2_greatest_30 ⟨kk_le rfl, kk_le rfl⟩)) (fun r8 hr8 => ?_)
          subst hr8
          refine va_mmax hx hb (hml.trans hl.1.symm) hown lm15 ls_max li_math lco_max (kk_le rfl) (kk_le rfl) (kk_le rfl) (kk_le rfl) dX2_greatest_33 ?_
          refine lv_istore_n (lv' := [(1, .int (if acc < g i then g i else acc)), (2, .int (nI i)), (0, .ref q)]) hx hb dX2_greatest_36 rfl hl (by decide) rfl (fun ls hl => ?_)
          refine lv_iinc (v := nI (i + 1)) (lv' := [(2, .int (nI (i + 1))), (1, .int (if acc < g i then g i else acc)), (0, .ref q)]) hx hb dX2_greatest_37 hl (k := 1) rfl (ni_inc _ _ (by decide)) (by decide) rfl (fun ls hl => ?_)
          refine lv_goto (tgt := 19) hx hb dX2_greatest_40 (by decide) ?_
          exact ih2 (i + 1) (if acc < g i then g i else acc) (by omega) (by omega) (by omega) (by omega) (by (rcases ha with ⟨h9, -⟩ | ⟨h9, ha⟩; omega; exact Or.inr ⟨h9, by rw [ha, lst_succ, maxL_app _ _ (lst_ne g (by omega))]⟩)) ls (lv_sub hl [0, 1, 2] rfl)
    exact lp19_5 ((n - 1) + 1) 1 (nI 0) (by omega) (by omega) (by omega) (by omega) (by first | exact Or.inl ⟨by omega, rfl⟩ | exact Or.inr ⟨by omega, rfl⟩) ls (lv_sub hl [0, 1, 2] rfl)
abbrev rm_kX2_sameAs : Room := { frames := 1, cells := 0, slots := 0, locals := 21 }
set_option maxHeartbeats 4000000 in
set_option maxRecDepth 100000 in
theorem kX2_sameAs (l : Launch) (D : va_G) (ca : Nat → ClassId) (q a cap : Nat) (g : Nat → Int32) (n : Nat) (q2 a2 cap2 : Nat) (g2 : Nat → Int32) (n2 : Nat) (hn : n ≤ cap) (hc : cap < 1000000) (hn2 : n2 ≤ cap2) (hc2 : cap2 < 1000000) : Met l yX2_sameAs wsX2_sameAs rm_kX2_sameAs (pcR D ca [.ref q, .ref q2] [(q, .inr (2, [.ref a, .int (nI n)])), (a, .inl (ca 0, cap, .inl g)), (q2, .inr (2, [.ref a2, .int (nI n2)])), (a2, .inl (ca 0, cap2, .inl g2))]) (vp_Si (fun z : Int32 => z = bI (decide (lst g n = lst g2 n2)))) 0 0 (fun _ => False) := by
  refine Met.ofW (cc := cX2_sameAs) (maxL := 3) (ret := (some .boolean)) (by decide) rfl ?_
  intro p e s m args below meth c s₁ B hml hv
  obtain ⟨rfl, hP, hK⟩ := hv
  have hx := B.exec
  have hb := B.bytes
  have hr := B.returns
  have hts := atoms_spec (ws := wsX2_sameAs) B.pre
  have hown : s.vm.findClass RX2 = some m.cls := findClass_of_methodNamed B.named
  have hlocks := B.notSynchronized
  have hKv := hK.1
  have hl := lv_entry ([.ref q, .ref q2]) (n := 3) (kk_le rfl)
  rw [lg_entry_eq]
  generalize (lg_sl ([.ref q, .ref q2]) ++ List.replicate (3 - (lg_sl ([.ref q, .ref q2])).length) Slot.unset).toArray = ls at hl ⊢
  have hl : lv_has ls 3 [(0, .ref q), (1, .ref q2)] := hl
  generalize hQz : MQ below _ _ _ _ _ _ = Qz
  have hiX2 : ∀ w ∈ u_ws RX2 TX2 2, w ∈ wsX2_sameAs := fun w h => by first | exact List.mem_cons_of_mem _ (List.mem_append_right _ h) | exact List.mem_cons_of_mem _ (List.mem_append_left _ (List.mem_append_right _ h)) | exact List.mem_cons_of_mem _ (List.mem_append_left _ (List.mem_append_left _ (List.mem_append_right _ h))) | exact List.mem_cons_of_mem _ (List.mem_append_left _ (List.mem_append_left _ (List.mem_append_left _ (List.mem_append_right _ h)))) | (revert w h; decide +kernel)
  have lk9 : (Cond.fieldLink RX2 9 "StripeSwipes$Row" "size" "I").before _ s = true := hts _ (by decide +kernel)
  refine lv_aload_n hx hb dX2_sameAs_0 rfl (lv_at hl 0 rfl) ?_
  refine va_get (D := D) (ci := 2) (C := RX2) (T := TX2) (N := 2) hx hb hts hiX2 hown hKv hP 0 rfl rfl 1 (by decide) lk9 (fun _ h9 => h9) rfl dX2_sameAs_1 ?_
  refine lv_aload_n hx hb dX2_sameAs_4 rfl (lv_at hl 1 rfl) ?_
  refine vp_callSi (va_Run.run (va_runV (As := []) (rest := [.int (nI n)]) ⟨hx, hb, hml, hown, hts⟩ (kX2_size l D ca q2 a2 cap2 g2 n2 (by first | rfl | assumption | omega | trivial | (exfalso; omega)) (by first | rfl | assumption | omega | trivial | (exfalso; omega))) (cwV 0 hts gX2_sameAs_X2_size rfl rfl rfl (by decide +kernel) ⟨kk_le rfl, kk_le rfl⟩) (pvR hK (hP.sub (ws' := [(q2, .inr (2, [.ref a2, .int (nI n2)])), (a2, .inl (ca 0, cap2, .inl g2))]) [2, 3] rfl) (va_recv hKv hP (ci := 2) (q0 := 2) rfl rfl)) rfl rfl hl.1 rfl (lv_room (kk_le rfl)) dX2_sameAs_5 ⟨kk_le rfl, kk_le rfl⟩)) (fun r1 hr1 => ?_)
  subst hr1
  refine ni_icmp_eq (tgt := 13) (by omega) (by omega) hx hb dX2_sameAs_8 (by decide) (fun c2 => ?_) (fun c2 => ?_)
  · refine lv_iconst (v := nI 0) hx hb dX2_sameAs_13 (by decide) ?_
    refine lv_istore_n (lv' := [(2, .int (nI 0)), (0, .ref q), (1, .ref q2)]) hx hb dX2_sameAs_14 rfl hl (by decide) rfl (fun ls hl => ?_)
    have lp15_2 : ∀ (k1 : Nat) (i : Nat), n - i < k1 → (i ≤ n) → (∀ k, k < i → g k = g2 k) → ∀ (ls : Array Slot), lv_has ls 3 [(2, .int (nI i)), (0, .ref q), (1, .ref q2)] → W p l e rm_kX2_sameAs s m ([.ref q, .ref q2] : List Value).toArray below meth c s.heap [] 0 0 Qz (F0 m 15 ls []) := by
      intro k1
      induction k1 with
      | zero => intro i hm1; exact absurd hm1 (Nat.not_lt_zero _)
      | succ k1 ih1 =>
        intro i hm1 hi he ls hl
        refine lv_iload_n hx hb dX2_sameAs_15 rfl (lv_at hl 0 rfl) ?_
        refine lv_aload_n hx hb dX2_sameAs_16 rfl (lv_at hl 1 rfl) ?_
        refine va_get (D := D) (ci := 2) (C := RX2) (T := TX2) (N := 2) hx hb hts hiX2 hown hKv hP 0 rfl rfl 1 (by decide) lk9 (fun _ h9 => h9) rfl dX2_sameAs_17 ?_
        refine ni_icmp_ge (tgt := 44) (by omega) (by omega) hx hb dX2_sameAs_20 (by decide) (fun c4 => ?_) (fun c4 => ?_)
        · refine lv_iconst (v := nI 1) hx hb dX2_sameAs_44 (by decide) ?_
          subst hQz
          exact W.zret (v := nI 1) hx hb hr (by first | rfl | exact bI_nar _ | exact bI_fit _ | (first | exact Or.inl rfl | exact Or.inr rfl)) (fun t ht _ => ⟨_, rfl, by first | exact (congrArg bI (same_len (by assumption))).symm | exact (congrArg bI (same_no (by omega) (by assumption))).symm | exact (congrArg bI (same_yes (by omega) (fun k hk => he k (by omega)))).symm, ht⟩) (fun _ h => nomatch h) dX2_sameAs_45
        · refine lv_aload_n hx hb dX2_sameAs_23 rfl (lv_at hl 1 rfl) ?_
          refine lv_iload_n hx hb dX2_sameAs_24 rfl (lv_at hl 0 rfl) ?_
          refine vp_callSi (va_Run.run (va_runV (As := [.int (nI i)]) (rest := []) ⟨hx, hb, hml, hown, hts⟩ (kX2_at_in l D ca q a cap g n i (by first | rfl | assumption | omega | trivial | (exfalso; omega)) (by first | rfl | assumption | omega | trivial | (exfalso; omega)) (by first | rfl | assumption | omega | trivial | (exfalso; omega))) (cwV 1 hts gX2_sameAs_X2_at rfl rfl rfl (by decide +kernel) ⟨kk_le rfl, kk_le rfl⟩) (pvR hK (hP.sub (ws' := [(q, .inr (2, [.ref a, .int (nI n)])), (a, .inl (ca 0, cap, .inl g))]) [0, 1] rfl) (va_recv hKv hP (ci := 2) (q0 := 0) rfl rfl)) rfl rfl hl.1 rfl (lv_room (kk_le rfl)) dX2_sameAs_25 ⟨kk_le rfl, kk_le rfl⟩)) (fun r5 hr5 => ?_)
          subst hr5
          refine lv_aload_n hx hb dX2_sameAs_28 rfl (lv_at hl 2 rfl) ?_
          refine lv_iload_n hx hb dX2_sameAs_29 rfl (lv_at hl 0 rfl) ?_
          refine vp_callSi (va_Run.run (va_runV (As := [.int (nI i)]) (rest := [.int (g i)]) ⟨hx, hb, hml, hown, hts⟩ (kX2_at_in l D ca q2 a2 cap2 g2 n2 i (by first | rfl | assumption | omega | trivial | (exfalso; omega)) (by first | rfl | assumption | omega | trivial | (exfalso; omega)) (by first | rfl | assumption | omega | trivial | (exfalso; omega))) (cwV 1 hts gX2_sameAs_X2_at rfl rfl rfl (by decide +kernel) ⟨kk_le rfl, kk_le rfl⟩) (pvR hK (hP.sub (ws' := [(q2, .inr (2, [.ref a2, .int (nI n2)])), (a2, .inl (ca 0, cap2, .inl g2))]) [2, 3] rfl) (va_recv hKv hP (ci := 2) (q0 := 2) rfl rfl)) rfl rfl hl.1 rfl (lv_room (kk_le rfl)) dX2_sameAs_30 ⟨kk_le rfl, kk_le rfl⟩)) (fun r6 hr6 => ?_)
          subst hr6
          refine lv_icmp_eq (tgt := 38) hx hb dX2_sameAs_33 (by decide) (fun c7 => ?_) (fun c7 => ?_)
          · refine lv_iinc (v := nI (i + 1)) (lv' := [(2, .int (nI (i + 1))), (0, .ref q), (1, .ref q2)]) hx hb dX2_sameAs_38 hl (k := 0) rfl (ni_inc _ _ (by decide)) (by decide) rfl (fun ls hl => ?_)
            refine lv_goto (tgt := 15) hx hb dX2_sameAs_41 (by decide) ?_
            exact ih1 (i + 1) (by omega) (by omega) (by exact lt_s he (by assumption)) ls (lv_sub hl [0, 1, 2] rfl)
          · refine lv_iconst (v := nI 0) hx hb dX2_sameAs_36 (by decide) ?_
            subst hQz
            exact W.zret (v := nI 0) hx hb hr (by first | rfl | exact bI_nar _ | exact bI_fit _ | (first | exact Or.inl rfl | exact Or.inr rfl)) (fun t ht _ => ⟨_, rfl, by first | exact (congrArg bI (same_len (by assumption))).symm | exact (congrArg bI (same_no (by omega) (by assumption))).symm | exact (congrArg bI (same_yes (by omega) (fun k hk => he k (by omega)))).symm, ht⟩) (fun _ h => nomatch h) dX2_sameAs_37
    exact lp15_2 ((n - 0) + 1) 0 (by omega) (by omega) (by exact fun k hk => absurd hk (Nat.not_lt_zero k)) ls (lv_sub hl [0, 1, 2] rfl)
  · refine lv_iconst (v := nI 0) hx hb dX2_sameAs_11 (by decide) ?_
    subst hQz
    exact W.zret (v := nI 0) hx hb hr (by first | rfl | exact bI_nar _ | exact bI_fit _ | (first | exact Or.inl rfl | exact Or.inr rfl)) (fun t ht _ => ⟨_, rfl, by first | exact (congrArg bI (same_len (by assumption))).symm | exact (congrArg bI (same_no (by omega) (by assumption))).symm | exact (congrArg bI (same_yes (by omega) (fun k hk => he k (by omega)))).symm, ht⟩) (fun _ h => nomatch h) dX2_sameAs_12
