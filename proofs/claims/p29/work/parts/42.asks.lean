theorem at_gd (g : Nat → Int32) (L : IL) {q : Nat} (hq : q < 2147483648) (hL : L.length < 2147483648) : atF (apF g 0 L) L.length (nI q) = L.getD q (-1) := by
  rw [atF_n hq hL]
  by_cases h : q < L.length
  · rw [if_pos h]; exact gd_in g L h
  · rw [if_neg h]; exact gd_out L (by omega)
abbrev rm_kX5_time_ok : Room := { frames := 1, cells := 0, slots := 0, locals := 21 }
set_option maxHeartbeats 4000000 in
set_option maxRecDepth 100000 in
theorem kX5_time_ok (l : Launch) (D : va_G) (ca : Nat → ClassId) (oc os osl ohi obu ord osp onw otr ogd : Nat) (t1 l1 g1 : Nat) (t2 : Nat) (nt : Nat) (gt : Nat → Int32) (q : Nat) (hnt : nt ≤ 200) (hq : q < 2147483648) : Met l yX5_time wsX5_time rm_kX5_time_ok (pcR D ca [.ref oc, .int (nI q)] [(oc, .inr (5, [.ref os, .ref osl, .ref ohi, .ref obu, .ref ord, .ref osp, .ref onw, .ref otr, .ref ogd])), (os, .inr (3, [.ref t1, .ref l1, .ref g1])), (t1, .inr (2, [.ref t2, .int (nI nt)])), (t2, .inl (ca 0, 200, .inl gt))]) (vp_Si (fun zr : Int32 => zr = (if q < nt then gt q else -1))) 0 0 (fun _ => False) := by
  refine Met.ofW (cc := cX5_time) (maxL := 2) (ret := (some .int)) (by decide) rfl ?_
  intro p e s m args below meth c s₁ B hml hv
  obtain ⟨rfl, hP, hK⟩ := hv
  have hx := B.exec
  have hb := B.bytes
  have hr := B.returns
  have hts := atoms_spec (ws := wsX5_time) B.pre
  have hown : s.vm.findClass RX5 = some m.cls := findClass_of_methodNamed B.named
  have hlocks := B.notSynchronized
  have hKv := hK.1
  have hl := lv_entry ([.ref oc, .int (nI q)]) (n := 2) (kk_le rfl)
  rw [lg_entry_eq]
  generalize (lg_sl ([.ref oc, .int (nI q)]) ++ List.replicate (2 - (lg_sl ([.ref oc, .int (nI q)])).length) Slot.unset).toArray = ls at hl ⊢
  have hl : lv_has ls 2 [(0, .ref oc), (1, .int (nI q))] := hl
  have hiX5 : ∀ w ∈ u_ws RX5 TX5 9, w ∈ wsX5_time := fun w h => by first | exact List.mem_cons_of_mem _ (List.mem_append_right _ h) | exact List.mem_cons_of_mem _ (List.mem_append_left _ (List.mem_append_right _ h)) | exact List.mem_cons_of_mem _ (List.mem_append_left _ (List.mem_append_left _ (List.mem_append_right _ h))) | exact List.mem_cons_of_mem _ (List.mem_append_left _ (List.mem_append_left _ (List.mem_append_left _ (List.mem_append_right _ h)))) | (revert w h; decide +kernel)
  have lk10 : (Cond.fieldLink RX5 10 "StripeSwipes" "state" "LStripeSwipes$State;").before _ s = true := hts _ (by decide +kernel)
  have hiX3 : ∀ w ∈ u_ws RX3 TX3 3, w ∈ wsX5_time := fun w h => by first | exact List.mem_cons_of_mem _ (List.mem_append_right _ h) | exact List.mem_cons_of_mem _ (List.mem_append_left _ (List.mem_append_right _ h)) | exact List.mem_cons_of_mem _ (List.mem_append_left _ (List.mem_append_left _ (List.mem_append_right _ h))) | exact List.mem_cons_of_mem _ (List.mem_append_left _ (List.mem_append_left _ (List.mem_append_left _ (List.mem_append_right _ h)))) | (revert w h; decide +kernel)
  have lk113 : (Cond.fieldLinkNest "StripeSwipes" 113 "StripeSwipes$State" "times" "LStripeSwipes$Row;" "StripeSwipes").before ([.ref oc, .int (nI q)] : List Value).toArray s = true := va_Nw.use rfl hK.2.f113
  refine lv_iload_n hx hb dX5_time_0 rfl (lv_at hl 1 rfl) ?_
  refine ni_if_ge (tgt := 14) (by omega) hx hb dX5_time_1 (by decide) (fun c1 => ?_) (fun c1 => ?_)
  · refine lv_aload_n hx hb dX5_time_14 rfl (lv_at hl 0 rfl) ?_
    refine va_get (D := D) (ci := 5) (C := RX5) (T := TX5) (N := 9) hx hb hts hiX5 hown hKv hP 0 rfl rfl 0 (by decide) lk10 (fun _ h9 => h9) rfl dX5_time_15 ?_
    refine va_getN (D := D) (ci := 3) (C := RX3) (T := TX3) (N := 3) hx hb hts hiX3 hown hKv hP 1 rfl rfl 0 (by decide) lk113 (fun _ h9 => h9) rfl dX5_time_18 ?_
    refine lv_iload_n hx hb dX5_time_21 rfl (lv_at hl 1 rfl) ?_
    refine vp_callSi (va_Run.run (va_runV (As := [.int (nI q)]) (rest := []) ⟨hx, hb, hml, hown, hts⟩ (kX2_at l D ca t1 t2 200 gt nt (nI q) (by first | rfl | assumption | omega | trivial | (exfalso; omega)) (by first | rfl | assumption | omega | trivial | (exfalso; omega))) (cwV 1 hts gX5_time_X2_at rfl rfl rfl (by decide +kernel) ⟨kk_le rfl, kk_le rfl⟩) (pvR hK (hP.sub (ws' := [(t1, .inr (2, [.ref t2, .int (nI nt)])), (t2, .inl (ca 0, 200, .inl gt))]) [2, 3] rfl) (va_recv hKv hP (ci := 2) (q0 := 2) rfl rfl)) rfl rfl hl.1 rfl (lv_room (kk_le rfl)) dX5_time_22 ⟨kk_le rfl, kk_le rfl⟩)) (fun r2 hr2 => ?_)
    subst hr2
    exact W.iret (v := atF gt nt (nI q)) hx hb hr (fun t ht _ => ⟨_, rfl, by exact atF_n (by omega) (by omega), ht⟩) (fun _ h => nomatch h) dX5_time_25
  · exact c1.elim
abbrev rm_kX5_written_ok : Room := { frames := 1, cells := 0, slots := 0, locals := 21 }
set_option maxHeartbeats 4000000 in
set_option maxRecDepth 100000 in
theorem kX5_written_ok (l : Launch) (D : va_G) (ca : Nat → ClassId) (oc os osl ohi obu ord osp onw otr ogd : Nat) (t1 l1 g1 : Nat) (l2 : Nat) (nl : Nat) (gl : Nat → Int32) (q : Nat) (hnl : nl ≤ 20) (hq : q < 2147483648) : Met l yX5_written wsX5_written rm_kX5_written_ok (pcR D ca [.ref oc, .int (nI q)] [(oc, .inr (5, [.ref os, .ref osl, .ref ohi, .ref obu, .ref ord, .ref osp, .ref onw, .ref otr, .ref ogd])), (os, .inr (3, [.ref t1, .ref l1, .ref g1])), (l1, .inr (2, [.ref l2, .int (nI nl)])), (l2, .inl (ca 0, 20, .inl gl))]) (vp_Si (fun zr : Int32 => zr = (if q < nl then gl q else -1))) 0 0 (fun _ => False) := by
  refine Met.ofW (cc := cX5_written) (maxL := 2) (ret := (some .int)) (by decide) rfl ?_
  intro p e s m args below meth c s₁ B hml hv
  obtain ⟨rfl, hP, hK⟩ := hv
  have hx := B.exec
  have hb := B.bytes
  have hr := B.returns
  have hts := atoms_spec (ws := wsX5_written) B.pre
  have hown : s.vm.findClass RX5 = some m.cls := findClass_of_methodNamed B.named
  have hlocks := B.notSynchronized
  have hKv := hK.1
  have hl := lv_entry ([.ref oc, .int (nI q)]) (n := 2) (kk_le rfl)
  rw [lg_entry_eq]
  generalize (lg_sl ([.ref oc, .int (nI q)]) ++ List.replicate (2 - (lg_sl ([.ref oc, .int (nI q)])).length) Slot.unset).toArray = ls at hl ⊢
  have hl : lv_has ls 2 [(0, .ref oc), (1, .int (nI q))] := hl
  have hiX5 : ∀ w ∈ u_ws RX5 TX5 9, w ∈ wsX5_written := fun w h => by first | exact List.mem_cons_of_mem _ (List.mem_append_right _ h) | exact List.mem_cons_of_mem _ (List.mem_append_left _ (List.mem_append_right _ h)) | exact List.mem_cons_of_mem _ (List.mem_append_left _ (List.mem_append_left _ (List.mem_append_right _ h))) | exact List.mem_cons_of_mem _ (List.mem_append_left _ (List.mem_append_left _ (List.mem_append_left _ (List.mem_append_right _ h)))) | (revert w h; decide +kernel)
  have lk10 : (Cond.fieldLink RX5 10 "StripeSwipes" "state" "LStripeSwipes$State;").before _ s = true := hts _ (by decide +kernel)
  have hiX3 : ∀ w ∈ u_ws RX3 TX3 3, w ∈ wsX5_written := fun w h => by first | exact List.mem_cons_of_mem _ (List.mem_append_right _ h) | exact List.mem_cons_of_mem _ (List.mem_append_left _ (List.mem_append_right _ h)) | exact List.mem_cons_of_mem _ (List.mem_append_left _ (List.mem_append_left _ (List.mem_append_right _ h))) | exact List.mem_cons_of_mem _ (List.mem_append_left _ (List.mem_append_left _ (List.mem_append_left _ (List.mem_append_right _ h)))) | (revert w h; decide +kernel)
  have lk106 : (Cond.fieldLinkNest "StripeSwipes" 106 "StripeSwipes$State" "letters" "LStripeSwipes$Row;" "StripeSwipes").before ([.ref oc, .int (nI q)] : List Value).toArray s = true := va_Nw.use rfl hK.2.f106
  refine lv_iload_n hx hb dX5_written_0 rfl (lv_at hl 1 rfl) ?_
  refine ni_if_ge (tgt := 14) (by omega) hx hb dX5_written_1 (by decide) (fun c1 => ?_) (fun c1 => ?_)
  · refine lv_aload_n hx hb dX5_written_14 rfl (lv_at hl 0 rfl) ?_
    refine va_get (D := D) (ci := 5) (C := RX5) (T := TX5) (N := 9) hx hb hts hiX5 hown hKv hP 0 rfl rfl 0 (by decide) lk10 (fun _ h9 => h9) rfl dX5_written_15 ?_
    refine va_getN (D := D) (ci := 3) (C := RX3) (T := TX3) (N := 3) hx hb hts hiX3 hown hKv hP 1 rfl rfl 1 (by decide) lk106 (fun _ h9 => h9) rfl dX5_written_18 ?_
    refine lv_iload_n hx hb dX5_written_21 rfl (lv_at hl 1 rfl) ?_
    refine vp_callSi (va_Run.run (va_runV (As := [.int (nI q)]) (rest := []) ⟨hx, hb, hml, hown, hts⟩ (kX2_at l D ca l1 l2 20 gl nl (nI q) (by first | rfl | assumption | omega | trivial | (exfalso; omega)) (by first | rfl | assumption | omega | trivial | (exfalso; omega))) (cwV 1 hts gX5_written_X2_at rfl rfl rfl (by decide +kernel) ⟨kk_le rfl, kk_le rfl⟩) (pvR hK (hP.sub (ws' := [(l1, .inr (2, [.ref l2, .int (nI nl)])), (l2, .inl (ca 0, 20, .inl gl))]) [2, 3] rfl) (va_recv hKv hP (ci := 2) (q0 := 2) rfl rfl)) rfl rfl hl.1 rfl (lv_room (kk_le rfl)) dX5_written_22 ⟨kk_le rfl, kk_le rfl⟩)) (fun r2 hr2 => ?_)
    subst hr2
    exact W.iret (v := atF gl nl (nI q)) hx hb hr (fun t ht _ => ⟨_, rfl, by exact atF_n (by omega) (by omega), ht⟩) (fun _ h => nomatch h) dX5_written_25
  · exact c1.elim
abbrev rm_kX5_reads_ok : Room := { frames := 5, cells := 0, slots := 0, locals := 117 }
set_option maxHeartbeats 4000000 in
set_option maxRecDepth 100000 in
theorem kX5_reads_ok (l : Launch) (D : va_G) (ca : Nat → ClassId) (sz : Nat) (oc os osl ohi obu ord osp onw otr ogd : Nat) (t1 l1 g1 : Nat) (t2 : Nat) (g2 : Nat) (z : Nat) (r f j : Int32) (nt : Nat) (gt : Nat → Int32) (b1 b2 e1 e2 : Nat) (rs sa ck : Int32) (fi fe : Nat → Int32) (bn en : Nat) (bw : Bool) (q : Nat) (hnt : nt ≤ 200) (hbn : bn ≤ 200) (hen : en ≤ 40) (hq : q < 5) : Met l yX5_reads wsX5_reads rm_kX5_reads_ok (pcM D ca [.ref oc, .int (bI bw), .int (nI q)] [(oc, .inr (5, [.ref os, .ref osl, .ref ohi, .ref obu, .ref ord, .ref osp, .ref onw, .ref otr, .ref ogd])), (os, .inr (3, [.ref t1, .ref l1, .ref g1])), (t1, .inr (2, [.ref t2, .int (nI nt)])), (t2, .inl (ca 0, 200, .inl gt)), (g1, .inr (2, [.ref g2, .int (nI 4)])), (g2, .inl (ca 0, 4, .inl (seF z r f j))), (ord, .inr (1, [.ref b1, .ref e1, .int rs, .int sa, .int ck])), (b1, .inr (2, [.ref b2, .int (nI bn)])), (b2, .inl (ca 0, 200, .inl fi)), (e1, .inr (2, [.ref e2, .int (nI en)])), (e2, .inl (ca 0, 40, .inl fe))] sz) (va_Qi (fun (zr : Int32) (u : Unit) => zr = tolF q (rsT r f (lst (twF bw gt nt) nt)) (nI (bitsT r f (lst (twF bw gt nt) nt)).length) (stB (bitsT r f (lst (twF bw gt nt) nt))) (nI (ltB (bitsT r f (lst (twF bw gt nt) nt))).length) (clkT r f (lst (twF bw gt nt) nt)) ∧ True) (qB D (va_A [(oc, .inr (5, [.ref os, .ref osl, .ref ohi, .ref obu, .ref ord, .ref osp, .ref onw, .ref otr, .ref ogd])), (os, .inr (3, [.ref t1, .ref l1, .ref g1])), (t1, .inr (2, [.ref t2, .int (nI nt)])), (t2, .inl (ca 0, 200, .inl gt)), (g1, .inr (2, [.ref g2, .int (nI 4)])), (g2, .inl (ca 0, 4, .inl (seF z r f j))), (ord, .inr (1, [.ref b1, .ref e1, .int rs, .int sa, .int ck])), (b1, .inr (2, [.ref b2, .int (nI bn)])), (b2, .inl (ca 0, 200, .inl fi)), (e1, .inr (2, [.ref e2, .int (nI en)])), (e2, .inl (ca 0, 40, .inl fe))] sz) (fun u : Unit => [(oc, .inr (5, [.ref os, .ref osl, .ref ohi, .ref obu, .ref ord, .ref osp, .ref onw, .ref otr, .ref ogd])), (os, .inr (3, [.ref t1, .ref l1, .ref g1])), (t1, .inr (2, [.ref t2, .int (nI nt)])), (t2, .inl (ca 0, 200, .inl gt)), (g1, .inr (2, [.ref g2, .int (nI 4)])), (g2, .inl (ca 0, 4, .inl (seF z r f j))), (ord, .inr (1, [.ref b1, .ref e1, .int (rsT r f (lst (twF bw gt nt) nt)), .int (stB (bitsT r f (lst (twF bw gt nt) nt))), .int (clkT r f (lst (twF bw gt nt) nt))])), (b1, .inr (2, [.ref b2, .int (nI ((bitsT r f (lst (twF bw gt nt) nt)).length))])), (b2, .inl (ca 0, 200, .inl (apF fi 0 (bitsT r f (lst (twF bw gt nt) nt))))), (e1, .inr (2, [.ref e2, .int (nI ((ltB (bitsT r f (lst (twF bw gt nt) nt))).length))])), (e2, .inl (ca 0, 40, .inl (apF fe 0 (ltB (bitsT r f (lst (twF bw gt nt) nt))))))])) (va_A [(oc, .inr (5, [.ref os, .ref osl, .ref ohi, .ref obu, .ref ord, .ref osp, .ref onw, .ref otr, .ref ogd])), (os, .inr (3, [.ref t1, .ref l1, .ref g1])), (t1, .inr (2, [.ref t2, .int (nI nt)])), (t2, .inl (ca 0, 200, .inl gt)), (g1, .inr (2, [.ref g2, .int (nI 4)])), (g2, .inl (ca 0, 4, .inl (seF z r f j))), (ord, .inr (1, [.ref b1, .ref e1, .int rs, .int sa, .int ck])), (b1, .inr (2, [.ref b2, .int (nI bn)])), (b2, .inl (ca 0, 200, .inl fi)), (e1, .inr (2, [.ref e2, .int (nI en)])), (e2, .inl (ca 0, 40, .inl fe))] sz)) 0 0 (va_A [(oc, .inr (5, [.ref os, .ref osl, .ref ohi, .ref obu, .ref ord, .ref osp, .ref onw, .ref otr, .ref ogd])), (os, .inr (3, [.ref t1, .ref l1, .ref g1])), (t1, .inr (2, [.ref t2, .int (nI nt)])), (t2, .inl (ca 0, 200, .inl gt)), (g1, .inr (2, [.ref g2, .int (nI 4)])), (g2, .inl (ca 0, 4, .inl (seF z r f j))), (ord, .inr (1, [.ref b1, .ref e1, .int rs, .int sa, .int ck])), (b1, .inr (2, [.ref b2, .int (nI bn)])), (b2, .inl (ca 0, 200, .inl fi)), (e1, .inr (2, [.ref e2, .int (nI en)])), (e2, .inl (ca 0, 40, .inl fe))] sz) := by
  refine Met.ofW (cc := cX5_reads) (maxL := 3) (ret := (some .int)) (by decide) rfl ?_
  intro p e s m args below meth c s₁ B hml hv
  obtain ⟨rfl, hsz, hP, hK, hD0⟩ := hv
  have hx := B.exec
  have hb := B.bytes
  have hr := B.returns
  have hts := atoms_spec (ws := wsX5_reads) B.pre
  have hown : s.vm.findClass RX5 = some m.cls := findClass_of_methodNamed B.named
  have hlocks := B.notSynchronized
  subst hsz
  have hD := hD0.self (sz := s.heap.size)
  generalize hAe : va_A [(oc, .inr (5, [.ref os, .ref osl, .ref ohi, .ref obu, .ref ord, .ref osp, .ref onw, .ref otr, .ref ogd])), (os, .inr (3, [.ref t1, .ref l1, .ref g1])), (t1, .inr (2, [.ref t2, .int (nI nt)])), (t2, .inl (ca 0, 200, .inl gt)), (g1, .inr (2, [.ref g2, .int (nI 4)])), (g2, .inl (ca 0, 4, .inl (seF z r f j))), (ord, .inr (1, [.ref b1, .ref e1, .int rs, .int sa, .int ck])), (b1, .inr (2, [.ref b2, .int (nI bn)])), (b2, .inl (ca 0, 200, .inl fi)), (e1, .inr (2, [.ref e2, .int (nI en)])), (e2, .inl (ca 0, 40, .inl fe))] s.heap.size = A at hD ⊢
  have hA : ∀ q : Nat, s.heap.size ≤ q → A q := fun q h => by rw [← hAe]; exact Or.inr h
  have hS : va_S A s.heap s.heap [] := va_S.rf
  have hP : va_P D vwCl [(oc, .inr (5, [.ref os, .ref osl, .ref ohi, .ref obu, .ref ord, .ref osp, .ref onw, .ref otr, .ref ogd])), (os, .inr (3, [.ref t1, .ref l1, .ref g1])), (t1, .inr (2, [.ref t2, .int (nI nt)])), (t2, .inl (ca 0, 200, .inl gt)), (g1, .inr (2, [.ref g2, .int (nI 4)])), (g2, .inl (ca 0, 4, .inl (seF z r f j))), (ord, .inr (1, [.ref b1, .ref e1, .int rs, .int sa, .int ck])), (b1, .inr (2, [.ref b2, .int (nI bn)])), (b2, .inl (ca 0, 200, .inl fi)), (e1, .inr (2, [.ref e2, .int (nI en)])), (e2, .inl (ca 0, 40, .inl fe))] s.heap := hP
  have hKv := hK.1
  have hl := lv_entry ([.ref oc, .int (bI bw), .int (nI q)]) (n := 3) (kk_le rfl)
  rw [lg_entry_eq]
  generalize (lg_sl ([.ref oc, .int (bI bw), .int (nI q)]) ++ List.replicate (3 - (lg_sl ([.ref oc, .int (bI bw), .int (nI q)])).length) Slot.unset).toArray = ls at hl ⊢
  have hl : lv_has ls 3 [(0, .ref oc), (1, .int (bI bw)), (2, .int (nI q))] := hl
  have hBl : (bitsT r f (lst (twF bw gt nt) nt)).length ≤ nt := rdT_len r f (twF bw gt nt) nt
  have hlb := ltB_len (bitsT r f (lst (twF bw gt nt) nt)) (by omega)
  have hiX5 : ∀ w ∈ u_ws RX5 TX5 9, w ∈ wsX5_reads := fun w h => by first | exact List.mem_cons_of_mem _ (List.mem_append_right _ h) | exact List.mem_cons_of_mem _ (List.mem_append_left _ (List.mem_append_right _ h)) | exact List.mem_cons_of_mem _ (List.mem_append_left _ (List.mem_append_left _ (List.mem_append_right _ h))) | exact List.mem_cons_of_mem _ (List.mem_append_left _ (List.mem_append_left _ (List.mem_append_left _ (List.mem_append_right _ h)))) | (revert w h; decide +kernel)
  have lk39 : (Cond.fieldLink RX5 39 "StripeSwipes" "reading" "LStripeSwipes$Reading;").before _ s = true := hts _ (by decide +kernel)
  refine lv_iload_n hx hb dX5_reads_0 rfl (lv_at hl 2 rfl) ?_
  refine ni_if_lt (tgt := 9) (by omega) hx hb dX5_reads_1 (by decide) (fun c1 => ?_) (fun c1 => ?_)
  · exact c1.elim
  · refine lv_iload_n hx hb dX5_reads_4 rfl (lv_at hl 2 rfl) ?_
    refine lv_iconst (v := nI 4) hx hb dX5_reads_5 (by decide) ?_
    refine ni_icmp_le (tgt := 19) (by omega) (by omega) hx hb dX5_reads_6 (by decide) (fun c2 => ?_) (fun c2 => ?_)
    · refine lv_aload_n hx hb dX5_reads_19 rfl (lv_at hl 0 rfl) ?_
      refine lv_iload_n hx hb dX5_reads_20 rfl (lv_at hl 1 rfl) ?_
      have hPc := hP
      have hDc := hD
      have hFc := va_free (wc := [(oc, .inr (5, [.ref os, .ref osl, .ref ohi, .ref obu, .ref ord, .ref osp, .ref onw, .ref otr, .ref ogd])), (os, .inr (3, [.ref t1, .ref l1, .ref g1])), (t1, .inr (2, [.ref t2, .int (nI nt)])), (t2, .inl (ca 0, 200, .inl gt)), (g1, .inr (2, [.ref g2, .int (nI 4)])), (g2, .inl (ca 0, 4, .inl (seF z r f j))), (ord, .inr (1, [.ref b1, .ref e1, .int rs, .int sa, .int ck])), (b1, .inr (2, [.ref b2, .int (nI bn)])), (b2, .inl (ca 0, 200, .inl fi)), (e1, .inr (2, [.ref e2, .int (nI en)])), (e2, .inl (ca 0, 40, .inl fe))]) hD hS hA [0, 1, 2, 3, 4, 5, 6, 7, 8, 9, 10] rfl
      refine va_callv (va_runV (As := [.int (bI bw)]) (rest := []) ⟨hx, hb, hml, hown, hts⟩ (kX5_readRow l D ca s.heap.size oc os osl ohi obu ord osp onw otr ogd t1 l1 g1 t2 g2 z r f j nt gt b1 b2 e1 e2 rs sa ck fi fe bn en bw (by first | rfl | assumption | omega | trivial | (exfalso; omega)) (by first | rfl | assumption | omega | trivial | (exfalso; omega)) (by first | rfl | assumption | omega | trivial | (exfalso; omega))) (cwV 1 hts gX5_reads_X5_readRow rfl rfl rfl (by decide +kernel) ⟨kk_le rfl, kk_le rfl⟩) (pvM hK hPc (my_D_true hDc) (va_recv hKv hP (ci := 5) (q0 := 0) rfl rfl)) rfl rfl hl.1 rfl (lv_room (kk_le rfl)) dX5_reads_21 ⟨kk_le rfl, kk_le rfl⟩) hS (fun q _ h => hFc q h) hFc (fun u t H1 locs ht hvm hwv hBv hz1 hk1 hS => ?_)
      obtain ⟨hP1, hD1⟩ := hBv
      rw [ht] at hP1
      have hP1 : va_P D vwCl [(oc, .inr (5, [.ref os, .ref osl, .ref ohi, .ref obu, .ref ord, .ref osp, .ref onw, .ref otr, .ref ogd])), (os, .inr (3, [.ref t1, .ref l1, .ref g1])), (t1, .inr (2, [.ref t2, .int (nI nt)])), (t2, .inl (ca 0, 200, .inl gt)), (g1, .inr (2, [.ref g2, .int (nI 4)])), (g2, .inl (ca 0, 4, .inl (seF z r f j))), (ord, .inr (1, [.ref b1, .ref e1, .int (rsT r f (lst (twF bw gt nt) nt)), .int (stB (bitsT r f (lst (twF bw gt nt) nt))), .int (clkT r f (lst (twF bw gt nt) nt))])), (b1, .inr (2, [.ref b2, .int (nI ((bitsT r f (lst (twF bw gt nt) nt)).length))])), (b2, .inl (ca 0, 200, .inl (apF fi 0 (bitsT r f (lst (twF bw gt nt) nt))))), (e1, .inr (2, [.ref e2, .int (nI ((ltB (bitsT r f (lst (twF bw gt nt) nt))).length))])), (e2, .inl (ca 0, 40, .inl (apF fe 0 (ltB (bitsT r f (lst (twF bw gt nt) nt))))))] H1 := hP1
      have hD1 : va_D _ [(oc, .inr (5, [.ref os, .ref osl, .ref ohi, .ref obu, .ref ord, .ref osp, .ref onw, .ref otr, .ref ogd])), (os, .inr (3, [.ref t1, .ref l1, .ref g1])), (t1, .inr (2, [.ref t2, .int (nI nt)])), (t2, .inl (ca 0, 200, .inl gt)), (g1, .inr (2, [.ref g2, .int (nI 4)])), (g2, .inl (ca 0, 4, .inl (seF z r f j))), (ord, .inr (1, [.ref b1, .ref e1, .int (rsT r f (lst (twF bw gt nt) nt)), .int (stB (bitsT r f (lst (twF bw gt nt) nt))), .int (clkT r f (lst (twF bw gt nt) nt))])), (b1, .inr (2, [.ref b2, .int (nI ((bitsT r f (lst (twF bw gt nt) nt)).length))])), (b2, .inl (ca 0, 200, .inl (apF fi 0 (bitsT r f (lst (twF bw gt nt) nt))))), (e1, .inr (2, [.ref e2, .int (nI ((ltB (bitsT r f (lst (twF bw gt nt) nt))).length))])), (e2, .inl (ca 0, 40, .inl (apF fe 0 (ltB (bitsT r f (lst (twF bw gt nt) nt))))))] := hD1
      have hw3 := hwv
      have hP := hP1
      have hD := hD1.weaken (fun _ _ _ h => hFc _ h)
      generalize H1 = H at hP hS ⊢
      have hP : va_P D vwCl [(oc, .inr (5, [.ref os, .ref osl, .ref ohi, .ref obu, .ref ord, .ref osp, .ref onw, .ref otr, .ref ogd])), (os, .inr (3, [.ref t1, .ref l1, .ref g1])), (t1, .inr (2, [.ref t2, .int (nI nt)])), (t2, .inl (ca 0, 200, .inl gt)), (g1, .inr (2, [.ref g2, .int (nI 4)])), (g2, .inl (ca 0, 4, .inl (seF z r f j))), (ord, .inr (1, [.ref b1, .ref e1, .int (rsT r f (lst (twF bw gt nt) nt)), .int (stB (bitsT r f (lst (twF bw gt nt) nt))), .int (clkT r f (lst (twF bw gt nt) nt))])), (b1, .inr (2, [.ref b2, .int (nI ((bitsT r f (lst (twF bw gt nt) nt)).length))])), (b2, .inl (ca 0, 200, .inl (apF fi 0 (bitsT r f (lst (twF bw gt nt) nt))))), (e1, .inr (2, [.ref e2, .int (nI ((ltB (bitsT r f (lst (twF bw gt nt) nt))).length))])), (e2, .inl (ca 0, 40, .inl (apF fe 0 (ltB (bitsT r f (lst (twF bw gt nt) nt))))))] H := hP
      have hD : va_D A [(oc, .inr (5, [.ref os, .ref osl, .ref ohi, .ref obu, .ref ord, .ref osp, .ref onw, .ref otr, .ref ogd])), (os, .inr (3, [.ref t1, .ref l1, .ref g1])), (t1, .inr (2, [.ref t2, .int (nI nt)])), (t2, .inl (ca 0, 200, .inl gt)), (g1, .inr (2, [.ref g2, .int (nI 4)])), (g2, .inl (ca 0, 4, .inl (seF z r f j))), (ord, .inr (1, [.ref b1, .ref e1, .int (rsT r f (lst (twF bw gt nt) nt)), .int (stB (bitsT r f (lst (twF bw gt nt) nt))), .int (clkT r f (lst (twF bw gt nt) nt))])), (b1, .inr (2, [.ref b2, .int (nI ((bitsT r f (lst (twF bw gt nt) nt)).length))])), (b2, .inl (ca 0, 200, .inl (apF fi 0 (bitsT r f (lst (twF bw gt nt) nt))))), (e1, .inr (2, [.ref e2, .int (nI ((ltB (bitsT r f (lst (twF bw gt nt) nt))).length))])), (e2, .inl (ca 0, 40, .inl (apF fe 0 (ltB (bitsT r f (lst (twF bw gt nt) nt))))))] := hD
      refine lv_aload_n hx hb dX5_reads_24 rfl (lv_at hl 0 rfl) ?_
      refine va_get (D := D) (ci := 5) (C := RX5) (T := TX5) (N := 9) hx hb hts hiX5 hown hKv hP 0 rfl rfl 4 (by decide) lk39 (fun _ h9 => h9) rfl dX5_reads_25 ?_
      refine lv_iload_n hx hb dX5_reads_28 rfl (lv_at hl 2 rfl) ?_
      refine vp_callSi (va_Run.run (va_runV (As := [.int (nI q)]) (rest := []) ⟨hx, hb, hml, hown, hts⟩ (kX1_told l D ca ord b1 b2 200 e1 (rsT r f (lst (twF bw gt nt) nt)) (stB (bitsT r f (lst (twF bw gt nt) nt))) (clkT r f (lst (twF bw gt nt) nt)) (apF fi 0 (bitsT r f (lst (twF bw gt nt) nt))) ((bitsT r f (lst (twF bw gt nt) nt)).length) e2 40 (apF fe 0 (ltB (bitsT r f (lst (twF bw gt nt) nt)))) ((ltB (bitsT r f (lst (twF bw gt nt) nt))).length) q (by first | rfl | assumption | omega | trivial | (exfalso; omega)) (by first | rfl | assumption | omega | trivial | (exfalso; omega)) (by first | rfl | assumption | omega | trivial | (exfalso; omega)) (by first | rfl | assumption | omega | trivial | (exfalso; omega)) (by first | rfl | assumption | omega | trivial | (exfalso; omega))) (cwV 1 hts gX5_reads_X1_told rfl rfl rfl (by decide +kernel) ⟨kk_le rfl, kk_le rfl⟩) (pvR hK (hP.sub (ws' := [(ord, .inr (1, [.ref b1, .ref e1, .int (rsT r f (lst (twF bw gt nt) nt)), .int (stB (bitsT r f (lst (twF bw gt nt) nt))), .int (clkT r f (lst (twF bw gt nt) nt))])), (b1, .inr (2, [.ref b2, .int (nI ((bitsT r f (lst (twF bw gt nt) nt)).length))])), (b2, .inl (ca 0, 200, .inl (apF fi 0 (bitsT r f (lst (twF bw gt nt) nt))))), (e1, .inr (2, [.ref e2, .int (nI ((ltB (bitsT r f (lst (twF bw gt nt) nt))).length))])), (e2, .inl (ca 0, 40, .inl (apF fe 0 (ltB (bitsT r f (lst (twF bw gt nt) nt))))))]) [6, 7, 8, 9, 10] rfl) (va_recv hKv hP (ci := 1) (q0 := 6) rfl rfl)) rfl rfl hl.1 rfl (lv_room (kk_le rfl)) dX5_reads_29 ⟨kk_le rfl, kk_le rfl⟩)) (fun r5 hr5 => ?_)
      subst hr5
      exact W.iret (v := tolF q (rsT r f (lst (twF bw gt nt) nt)) (nI ((bitsT r f (lst (twF bw gt nt) nt)).length)) (stB (bitsT r f (lst (twF bw gt nt) nt))) (nI ((ltB (bitsT r f (lst (twF bw gt nt) nt))).length)) (clkT r f (lst (twF bw gt nt) nt))) hx hb hr (fun t ht hW => ⟨⟨_, (), rfl, ⟨by rfl, by trivial⟩, by rw [ht]; exact hP, hD⟩, hS.F ht⟩) hS.2.2 dX5_reads_32
    · exact absurd c2 (by omega)
abbrev rm_kX5_bit_ok : Room := { frames := 5, cells := 0, slots := 0, locals := 117 }
set_option maxHeartbeats 4000000 in
set_option maxRecDepth 100000 in
theorem kX5_bit_ok (l : Launch) (D : va_G) (ca : Nat → ClassId) (sz : Nat) (oc os osl ohi obu ord osp onw otr ogd : Nat) (t1 l1 g1 : Nat) (t2 : Nat) (g2 : Nat) (z : Nat) (r f j : Int32) (nt : Nat) (gt : Nat → Int32) (b1 b2 e1 e2 : Nat) (rs sa ck : Int32) (fi fe : Nat → Int32) (bn en : Nat) (bw : Bool) (q : Nat) (hnt : nt ≤ 200) (hbn : bn ≤ 200) (hen : en ≤ 40) (hq : q < 2147483648) : Met l yX5_bit wsX5_bit rm_kX5_bit_ok (pcM D ca [.ref oc, .int (bI bw), .int (nI q)] [(oc, .inr (5, [.ref os, .ref osl, .ref ohi, .ref obu, .ref ord, .ref osp, .ref onw, .ref otr, .ref ogd])), (os, .inr (3, [.ref t1, .ref l1, .ref g1])), (t1, .inr (2, [.ref t2, .int (nI nt)])), (t2, .inl (ca 0, 200, .inl gt)), (g1, .inr (2, [.ref g2, .int (nI 4)])), (g2, .inl (ca 0, 4, .inl (seF z r f j))), (ord, .inr (1, [.ref b1, .ref e1, .int rs, .int sa, .int ck])), (b1, .inr (2, [.ref b2, .int (nI bn)])), (b2, .inl (ca 0, 200, .inl fi)), (e1, .inr (2, [.ref e2, .int (nI en)])), (e2, .inl (ca 0, 40, .inl fe))] sz) (va_Qi (fun (zr : Int32) (u : Unit) => zr = (bitsT r f (lst (twF bw gt nt) nt)).getD q (-1) ∧ True) (qB D (va_A [(oc, .inr (5, [.ref os, .ref osl, .ref ohi, .ref obu, .ref ord, .ref osp, .ref onw, .ref otr, .ref ogd])), (os, .inr (3, [.ref t1, .ref l1, .ref g1])), (t1, .inr (2, [.ref t2, .int (nI nt)])), (t2, .inl (ca 0, 200, .inl gt)), (g1, .inr (2, [.ref g2, .int (nI 4)])), (g2, .inl (ca 0, 4, .inl (seF z r f j))), (ord, .inr (1, [.ref b1, .ref e1, .int rs, .int sa, .int ck])), (b1, .inr (2, [.ref b2, .int (nI bn)])), (b2, .inl (ca 0, 200, .inl fi)), (e1, .inr (2, [.ref e2, .int (nI en)])), (e2, .inl (ca 0, 40, .inl fe))] sz) (fun u : Unit => [(oc, .inr (5, [.ref os, .ref osl, .ref ohi, .ref obu, .ref ord, .ref osp, .ref onw, .ref otr, .ref ogd])), (os, .inr (3, [.ref t1, .ref l1, .ref g1])), (t1, .inr (2, [.ref t2, .int (nI nt)])), (t2, .inl (ca 0, 200, .inl gt)), (g1, .inr (2, [.ref g2, .int (nI 4)])), (g2, .inl (ca 0, 4, .inl (seF z r f j))), (ord, .inr (1, [.ref b1, .ref e1, .int (rsT r f (lst (twF bw gt nt) nt)), .int (stB (bitsT r f (lst (twF bw gt nt) nt))), .int (clkT r f (lst (twF bw gt nt) nt))])), (b1, .inr (2, [.ref b2, .int (nI ((bitsT r f (lst (twF bw gt nt) nt)).length))])), (b2, .inl (ca 0, 200, .inl (apF fi 0 (bitsT r f (lst (twF bw gt nt) nt))))), (e1, .inr (2, [.ref e2, .int (nI ((ltB (bitsT r f (lst (twF bw gt nt) nt))).length))])), (e2, .inl (ca 0, 40, .inl (apF fe 0 (ltB (bitsT r f (lst (twF bw gt nt) nt))))))])) (va_A [(oc, .inr (5, [.ref os, .ref osl, .ref ohi, .ref obu, .ref ord, .ref osp, .ref onw, .ref otr, .ref ogd])), (os, .inr (3, [.ref t1, .ref l1, .ref g1])), (t1, .inr (2, [.ref t2, .int (nI nt)])), (t2, .inl (ca 0, 200, .inl gt)), (g1, .inr (2, [.ref g2, .int (nI 4)])), (g2, .inl (ca 0, 4, .inl (seF z r f j))), (ord, .inr (1, [.ref b1, .ref e1, .int rs, .int sa, .int ck])), (b1, .inr (2, [.ref b2, .int (nI bn)])), (b2, .inl (ca 0, 200, .inl fi)), (e1, .inr (2, [.ref e2, .int (nI en)])), (e2, .inl (ca 0, 40, .inl fe))] sz)) 0 0 (va_A [(oc, .inr (5, [.ref os, .ref osl, .ref ohi, .ref obu, .ref ord, .ref osp, .ref onw, .ref otr, .ref ogd])), (os, .inr (3, [.ref t1, .ref l1, .ref g1])), (t1, .inr (2, [.ref t2, .int (nI nt)])), (t2, .inl (ca 0, 200, .inl gt)), (g1, .inr (2, [.ref g2, .int (nI 4)])), (g2, .inl (ca 0, 4, .inl (seF z r f j))), (ord, .inr (1, [.ref b1, .ref e1, .int rs, .int sa, .int ck])), (b1, .inr (2, [.ref b2, .int (nI bn)])), (b2, .inl (ca 0, 200, .inl fi)), (e1, .inr (2, [.ref e2, .int (nI en)])), (e2, .inl (ca 0, 40, .inl fe))] sz) := by
  refine Met.ofW (cc := cX5_bit) (maxL := 3) (ret := (some .int)) (by decide) rfl ?_
  intro p e s m args below meth c s₁ B hml hv
  obtain ⟨rfl, hsz, hP, hK, hD0⟩ := hv
  have hx := B.exec
  have hb := B.bytes
  have hr := B.returns
  have hts := atoms_spec (ws := wsX5_bit) B.pre
  have hown : s.vm.findClass RX5 = some m.cls := findClass_of_methodNamed B.named
  have hlocks := B.notSynchronized
  subst hsz
  have hD := hD0.self (sz := s.heap.size)
  generalize hAe : va_A [(oc, .inr (5, [.ref os, .ref osl, .ref ohi, .ref obu, .ref ord, .ref osp, .ref onw, .ref otr, .ref ogd])), (os, .inr (3, [.ref t1, .ref l1, .ref g1])), (t1, .inr (2, [.ref t2, .int (nI nt)])), (t2, .inl (ca 0, 200, .inl gt)), (g1, .inr (2, [.ref g2, .int (nI 4)])), (g2, .inl (ca 0, 4, .inl (seF z r f j))), (ord, .inr (1, [.ref b1, .ref e1, .int rs, .int sa, .int ck])), (b1, .inr (2, [.ref b2, .int (nI bn)])), (b2, .inl (ca 0, 200, .inl fi)), (e1, .inr (2, [.ref e2, .int (nI en)])), (e2, .inl (ca 0, 40, .inl fe))] s.heap.size = A at hD ⊢
  have hA : ∀ q : Nat, s.heap.size ≤ q → A q := fun q h => by rw [← hAe]; exact Or.inr h
  have hS : va_S A s.heap s.heap [] := va_S.rf
  have hP : va_P D vwCl [(oc, .inr (5, [.ref os, .ref osl, .ref ohi, .ref obu, .ref ord, .ref osp, .ref onw, .ref otr, .ref ogd])), (os, .inr (3, [.ref t1, .ref l1, .ref g1])), (t1, .inr (2, [.ref t2, .int (nI nt)])), (t2, .inl (ca 0, 200, .inl gt)), (g1, .inr (2, [.ref g2, .int (nI 4)])), (g2, .inl (ca 0, 4, .inl (seF z r f j))), (ord, .inr (1, [.ref b1, .ref e1, .int rs, .int sa, .int ck])), (b1, .inr (2, [.ref b2, .int (nI bn)])), (b2, .inl (ca 0, 200, .inl fi)), (e1, .inr (2, [.ref e2, .int (nI en)])), (e2, .inl (ca 0, 40, .inl fe))] s.heap := hP
  have hKv := hK.1
  have hl := lv_entry ([.ref oc, .int (bI bw), .int (nI q)]) (n := 3) (kk_le rfl)
  rw [lg_entry_eq]
  generalize (lg_sl ([.ref oc, .int (bI bw), .int (nI q)]) ++ List.replicate (3 - (lg_sl ([.ref oc, .int (bI bw), .int (nI q)])).length) Slot.unset).toArray = ls at hl ⊢
  have hl : lv_has ls 3 [(0, .ref oc), (1, .int (bI bw)), (2, .int (nI q))] := hl
  have hBl : (bitsT r f (lst (twF bw gt nt) nt)).length ≤ nt := rdT_len r f (twF bw gt nt) nt
  have hlb := ltB_len (bitsT r f (lst (twF bw gt nt) nt)) (by omega)
  have hiX5 : ∀ w ∈ u_ws RX5 TX5 9, w ∈ wsX5_bit := fun w h => by first | exact List.mem_cons_of_mem _ (List.mem_append_right _ h) | exact List.mem_cons_of_mem _ (List.mem_append_left _ (List.mem_append_right _ h)) | exact List.mem_cons_of_mem _ (List.mem_append_left _ (List.mem_append_left _ (List.mem_append_right _ h))) | exact List.mem_cons_of_mem _ (List.mem_append_left _ (List.mem_append_left _ (List.mem_append_left _ (List.mem_append_right _ h)))) | (revert w h; decide +kernel)
  have lk39 : (Cond.fieldLink RX5 39 "StripeSwipes" "reading" "LStripeSwipes$Reading;").before _ s = true := hts _ (by decide +kernel)
  have hiX1 : ∀ w ∈ u_ws RX1 TX1 5, w ∈ wsX5_bit := fun w h => by first | exact List.mem_cons_of_mem _ (List.mem_append_right _ h) | exact List.mem_cons_of_mem _ (List.mem_append_left _ (List.mem_append_right _ h)) | exact List.mem_cons_of_mem _ (List.mem_append_left _ (List.mem_append_left _ (List.mem_append_right _ h))) | exact List.mem_cons_of_mem _ (List.mem_append_left _ (List.mem_append_left _ (List.mem_append_left _ (List.mem_append_right _ h)))) | (revert w h; decide +kernel)
  have lk196 : (Cond.fieldLinkNest "StripeSwipes" 196 "StripeSwipes$Reading" "bits" "LStripeSwipes$Row;" "StripeSwipes").before ([.ref oc, .int (bI bw), .int (nI q)] : List Value).toArray s = true := va_Nw.use rfl hK.2.f196
  refine lv_iload_n hx hb dX5_bit_0 rfl (lv_at hl 2 rfl) ?_
  refine ni_if_ge (tgt := 14) (by omega) hx hb dX5_bit_1 (by decide) (fun c1 => ?_) (fun c1 => ?_)
  · refine lv_aload_n hx hb dX5_bit_14 rfl (lv_at hl 0 rfl) ?_
    refine lv_iload_n hx hb dX5_bit_15 rfl (lv_at hl 1 rfl) ?_
    have hPc := hP
    have hDc := hD
    have hFc := va_free (wc := [(oc, .inr (5, [.ref os, .ref osl, .ref ohi, .ref obu, .ref ord, .ref osp, .ref onw, .ref otr, .ref ogd])), (os, .inr (3, [.ref t1, .ref l1, .ref g1])), (t1, .inr (2, [.ref t2, .int (nI nt)])), (t2, .inl (ca 0, 200, .inl gt)), (g1, .inr (2, [.ref g2, .int (nI 4)])), (g2, .inl (ca 0, 4, .inl (seF z r f j))), (ord, .inr (1, [.ref b1, .ref e1, .int rs, .int sa, .int ck])), (b1, .inr (2, [.ref b2, .int (nI bn)])), (b2, .inl (ca 0, 200, .inl fi)), (e1, .inr (2, [.ref e2, .int (nI en)])), (e2, .inl (ca 0, 40, .inl fe))]) hD hS hA [0, 1, 2, 3, 4, 5, 6, 7, 8, 9, 10] rfl
    refine va_callv (va_runV (As := [.int (bI bw)]) (rest := []) ⟨hx, hb, hml, hown, hts⟩ (kX5_readRow l D ca s.heap.size oc os osl ohi obu ord osp onw otr ogd t1 l1 g1 t2 g2 z r f j nt gt b1 b2 e1 e2 rs sa ck fi fe bn en bw (by first | rfl | assumption | omega | trivial | (exfalso; omega)) (by first | rfl | assumption | omega | trivial | (exfalso; omega)) (by first | rfl | assumption | omega | trivial | (exfalso; omega))) (cwV 1 hts gX5_bit_X5_readRow rfl rfl rfl (by decide +kernel) ⟨kk_le rfl, kk_le rfl⟩) (pvM hK hPc (my_D_true hDc) (va_recv hKv hP (ci := 5) (q0 := 0) rfl rfl)) rfl rfl hl.1 rfl (lv_room (kk_le rfl)) dX5_bit_16 ⟨kk_le rfl, kk_le rfl⟩) hS (fun q _ h => hFc q h) hFc (fun u t H1 locs ht hvm hwv hBv hz1 hk1 hS => ?_)
    obtain ⟨hP1, hD1⟩ := hBv
    rw [ht] at hP1
    have hP1 : va_P D vwCl [(oc, .inr (5, [.ref os, .ref osl, .ref ohi, .ref obu, .ref ord, .ref osp, .ref onw, .ref otr, .ref ogd])), (os, .inr (3, [.ref t1, .ref l1, .ref g1])), (t1, .inr (2, [.ref t2, .int (nI nt)])), (t2, .inl (ca 0, 200, .inl gt)), (g1, .inr (2, [.ref g2, .int (nI 4)])), (g2, .inl (ca 0, 4, .inl (seF z r f j))), (ord, .inr (1, [.ref b1, .ref e1, .int (rsT r f (lst (twF bw gt nt) nt)), .int (stB (bitsT r f (lst (twF bw gt nt) nt))), .int (clkT r f (lst (twF bw gt nt) nt))])), (b1, .inr (2, [.ref b2, .int (nI ((bitsT r f (lst (twF bw gt nt) nt)).length))])), (b2, .inl (ca 0, 200, .inl (apF fi 0 (bitsT r f (lst (twF bw gt nt) nt))))), (e1, .inr (2, [.ref e2, .int (nI ((ltB (bitsT r f (lst (twF bw gt nt) nt))).length))])), (e2, .inl (ca 0, 40, .inl (apF fe 0 (ltB (bitsT r f (lst (twF bw gt nt) nt))))))] H1 := hP1
    have hD1 : va_D _ [(oc, .inr (5, [.ref os, .ref osl, .ref ohi, .ref obu, .ref ord, .ref osp, .ref onw, .ref otr, .ref ogd])), (os, .inr (3, [.ref t1, .ref l1, .ref g1])), (t1, .inr (2, [.ref t2, .int (nI nt)])), (t2, .inl (ca 0, 200, .inl gt)), (g1, .inr (2, [.ref g2, .int (nI 4)])), (g2, .inl (ca 0, 4, .inl (seF z r f j))), (ord, .inr (1, [.ref b1, .ref e1, .int (rsT r f (lst (twF bw gt nt) nt)), .int (stB (bitsT r f (lst (twF bw gt nt) nt))), .int (clkT r f (lst (twF bw gt nt) nt))])), (b1, .inr (2, [.ref b2, .int (nI ((bitsT r f (lst (twF bw gt nt) nt)).length))])), (b2, .inl (ca 0, 200, .inl (apF fi 0 (bitsT r f (lst (twF bw gt nt) nt))))), (e1, .inr (2, [.ref e2, .int (nI ((ltB (bitsT r f (lst (twF bw gt nt) nt))).length))])), (e2, .inl (ca 0, 40, .inl (apF fe 0 (ltB (bitsT r f (lst (twF bw gt nt) nt))))))] := hD1
    have hw2 := hwv
    have hP := hP1
    have hD := hD1.weaken (fun _ _ _ h => hFc _ h)
    generalize H1 = H at hP hS ⊢
    have hP : va_P D vwCl [(oc, .inr (5, [.ref os, .ref osl, .ref ohi, .ref obu, .ref ord, .ref osp, .ref onw, .ref otr, .ref ogd])), (os, .inr (3, [.ref t1, .ref l1, .ref g1])), (t1, .inr (2, [.ref t2, .int (nI nt)])), (t2, .inl (ca 0, 200, .inl gt)), (g1, .inr (2, [.ref g2, .int (nI 4)])), (g2, .inl (ca 0, 4, .inl (seF z r f j))), (ord, .inr (1, [.ref b1, .ref e1, .int (rsT r f (lst (twF bw gt nt) nt)), .int (stB (bitsT r f (lst (twF bw gt nt) nt))), .int (clkT r f (lst (twF bw gt nt) nt))])), (b1, .inr (2, [.ref b2, .int (nI ((bitsT r f (lst (twF bw gt nt) nt)).length))])), (b2, .inl (ca 0, 200, .inl (apF fi 0 (bitsT r f (lst (twF bw gt nt) nt))))), (e1, .inr (2, [.ref e2, .int (nI ((ltB (bitsT r f (lst (twF bw gt nt) nt))).length))])), (e2, .inl (ca 0, 40, .inl (apF fe 0 (ltB (bitsT r f (lst (twF bw gt nt) nt))))))] H := hP
    have hD : va_D A [(oc, .inr (5, [.ref os, .ref osl, .ref ohi, .ref obu, .ref ord, .ref osp, .ref onw, .ref otr, .ref ogd])), (os, .inr (3, [.ref t1, .ref l1, .ref g1])), (t1, .inr (2, [.ref t2, .int (nI nt)])), (t2, .inl (ca 0, 200, .inl gt)), (g1, .inr (2, [.ref g2, .int (nI 4)])), (g2, .inl (ca 0, 4, .inl (seF z r f j))), (ord, .inr (1, [.ref b1, .ref e1, .int (rsT r f (lst (twF bw gt nt) nt)), .int (stB (bitsT r f (lst (twF bw gt nt) nt))), .int (clkT r f (lst (twF bw gt nt) nt))])), (b1, .inr (2, [.ref b2, .int (nI ((bitsT r f (lst (twF bw gt nt) nt)).length))])), (b2, .inl (ca 0, 200, .inl (apF fi 0 (bitsT r f (lst (twF bw gt nt) nt))))), (e1, .inr (2, [.ref e2, .int (nI ((ltB (bitsT r f (lst (twF bw gt nt) nt))).length))])), (e2, .inl (ca 0, 40, .inl (apF fe 0 (ltB (bitsT r f (lst (twF bw gt nt) nt))))))] := hD
    refine lv_aload_n hx hb dX5_bit_19 rfl (lv_at hl 0 rfl) ?_
    refine va_get (D := D) (ci := 5) (C := RX5) (T := TX5) (N := 9) hx hb hts hiX5 hown hKv hP 0 rfl rfl 4 (by decide) lk39 (fun _ h9 => h9) rfl dX5_bit_20 ?_
    refine va_getN (D := D) (ci := 1) (C := RX1) (T := TX1) (N := 5) hx hb hts hiX1 hown hKv hP 6 rfl rfl 0 (by decide) lk196 (fun _ h9 => h9) rfl dX5_bit_23 ?_
    refine lv_iload_n hx hb dX5_bit_26 rfl (lv_at hl 2 rfl) ?_
    refine vp_callSi (va_Run.run (va_runV (As := [.int (nI q)]) (rest := []) ⟨hx, hb, hml, hown, hts⟩ (kX2_at l D ca b1 b2 200 (apF fi 0 (bitsT r f (lst (twF bw gt nt) nt))) ((bitsT r f (lst (twF bw gt nt) nt)).length) (nI q) (by first | rfl | assumption | omega | trivial | (exfalso; omega)) (by first | rfl | assumption | omega | trivial | (exfalso; omega))) (cwV 1 hts gX5_bit_X2_at rfl rfl rfl (by decide +kernel) ⟨kk_le rfl, kk_le rfl⟩) (pvR hK (hP.sub (ws' := [(b1, .inr (2, [.ref b2, .int (nI ((bitsT r f (lst (twF bw gt nt) nt)).length))])), (b2, .inl (ca 0, 200, .inl (apF fi 0 (bitsT r f (lst (twF bw gt nt) nt)))))]) [7, 8] rfl) (va_recv hKv hP (ci := 2) (q0 := 7) rfl rfl)) rfl rfl hl.1 rfl (lv_room (kk_le rfl)) dX5_bit_27 ⟨kk_le rfl, kk_le rfl⟩)) (fun r4 hr4 => ?_)
    subst hr4
    exact W.iret (v := atF (apF fi 0 (bitsT r f (lst (twF bw gt nt) nt))) ((bitsT r f (lst (twF bw gt nt) nt)).length) (nI q)) hx hb hr (fun t ht hW => ⟨⟨_, (), rfl, ⟨by exact at_gd fi _ (by omega) (by omega), by trivial⟩, by rw [ht]; exact hP, hD⟩, hS.F ht⟩) hS.2.2 dX5_bit_30
  · exact c1.elim
abbrev rm_kX5_letter_ok : Room := { frames := 5, cells := 0, slots := 0, locals := 117 }
set_option maxHeartbeats 4000000 in
set_option maxRecDepth 100000 in
theorem kX5_letter_ok (l : Launch) (D : va_G) (ca : Nat → ClassId) (sz : Nat) (oc os osl ohi obu ord osp onw otr ogd : Nat) (t1 l1 g1 : Nat) (t2 : Nat) (g2 : Nat) (z : Nat) (r f j : Int32) (nt : Nat) (gt : Nat → Int32) (b1 b2 e1 e2 : Nat) (rs sa ck : Int32) (fi fe : Nat → Int32) (bn en : Nat) (bw : Bool) (q : Nat) (hnt : nt ≤ 200) (hbn : bn ≤ 200) (hen : en ≤ 40) (hq : q < 2147483648) : Met l yX5_letter wsX5_letter rm_kX5_letter_ok (pcM D ca [.ref oc, .int (bI bw), .int (nI q)] [(oc, .inr (5, [.ref os, .ref osl, .ref ohi, .ref obu, .ref ord, .ref osp, .ref onw, .ref otr, .ref ogd])), (os, .inr (3, [.ref t1, .ref l1, .ref g1])), (t1, .inr (2, [.ref t2, .int (nI nt)])), (t2, .inl (ca 0, 200, .inl gt)), (g1, .inr (2, [.ref g2, .int (nI 4)])), (g2, .inl (ca 0, 4, .inl (seF z r f j))), (ord, .inr (1, [.ref b1, .ref e1, .int rs, .int sa, .int ck])), (b1, .inr (2, [.ref b2, .int (nI bn)])), (b2, .inl (ca 0, 200, .inl fi)), (e1, .inr (2, [.ref e2, .int (nI en)])), (e2, .inl (ca 0, 40, .inl fe))] sz) (va_Qi (fun (zr : Int32) (u : Unit) => zr = (ltB (bitsT r f (lst (twF bw gt nt) nt))).getD q (-1) ∧ True) (qB D (va_A [(oc, .inr (5, [.ref os, .ref osl, .ref ohi, .ref obu, .ref ord, .ref osp, .ref onw, .ref otr, .ref ogd])), (os, .inr (3, [.ref t1, .ref l1, .ref g1])), (t1, .inr (2, [.ref t2, .int (nI nt)])), (t2, .inl (ca 0, 200, .inl gt)), (g1, .inr (2, [.ref g2, .int (nI 4)])), (g2, .inl (ca 0, 4, .inl (seF z r f j))), (ord, .inr (1, [.ref b1, .ref e1, .int rs, .int sa, .int ck])), (b1, .inr (2, [.ref b2, .int (nI bn)])), (b2, .inl (ca 0, 200, .inl fi)), (e1, .inr (2, [.ref e2, .int (nI en)])), (e2, .inl (ca 0, 40, .inl fe))] sz) (fun u : Unit => [(oc, .inr (5, [.ref os, .ref osl, .ref ohi, .ref obu, .ref ord, .ref osp, .ref onw, .ref otr, .ref ogd])), (os, .inr (3, [.ref t1, .ref l1, .ref g1])), (t1, .inr (2, [.ref t2, .int (nI nt)])), (t2, .inl (ca 0, 200, .inl gt)), (g1, .inr (2, [.ref g2, .int (nI 4)])), (g2, .inl (ca 0, 4, .inl (seF z r f j))), (ord, .inr (1, [.ref b1, .ref e1, .int (rsT r f (lst (twF bw gt nt) nt)), .int (stB (bitsT r f (lst (twF bw gt nt) nt))), .int (clkT r f (lst (twF bw gt nt) nt))])), (b1, .inr (2, [.ref b2, .int (nI ((bitsT r f (lst (twF bw gt nt) nt)).length))])), (b2, .inl (ca 0, 200, .inl (apF fi 0 (bitsT r f (lst (twF bw gt nt) nt))))), (e1, .inr (2, [.ref e2, .int (nI ((ltB (bitsT r f (lst (twF bw gt nt) nt))).length))])), (e2, .inl (ca 0, 40, .inl (apF fe 0 (ltB (bitsT r f (lst (twF bw gt nt) nt))))))])) (va_A [(oc, .inr (5, [.ref os, .ref osl, .ref ohi, .ref obu, .ref ord, .ref osp, .ref onw, .ref otr, .ref ogd])), (os, .inr (3, [.ref t1, .ref l1, .ref g1])), (t1, .inr (2, [.ref t2, .int (nI nt)])), (t2, .inl (ca 0, 200, .inl gt)), (g1, .inr (2, [.ref g2, .int (nI 4)])), (g2, .inl (ca 0, 4, .inl (seF z r f j))), (ord, .inr (1, [.ref b1, .ref e1, .int rs, .int sa, .int ck])), (b1, .inr (2, [.ref b2, .int (nI bn)])), (b2, .inl (ca 0, 200, .inl fi)), (e1, .inr (2, [.ref e2, .int (nI en)])), (e2, .inl (ca 0, 40, .inl fe))] sz)) 0 0 (va_A [(oc, .inr (5, [.ref os, .ref osl, .ref ohi, .ref obu, .ref ord, .ref osp, .ref onw, .ref otr, .ref ogd])), (os, .inr (3, [.ref t1, .ref l1, .ref g1])), (t1, .inr (2, [.ref t2, .int (nI nt)])), (t2, .inl (ca 0, 200, .inl gt)), (g1, .inr (2, [.ref g2, .int (nI 4)])), (g2, .inl (ca 0, 4, .inl (seF z r f j))), (ord, .inr (1, [.ref b1, .ref e1, .int rs, .int sa, .int ck])), (b1, .inr (2, [.ref b2, .int (nI bn)])), (b2, .inl (ca 0, 200, .inl fi)), (e1, .inr (2, [.ref e2, .int (nI en)])), (e2, .inl (ca 0, 40, .inl fe))] sz) := by
  refine Met.ofW (cc := cX5_letter) (maxL := 3) (ret := (some .int)) (by decide) rfl ?_
  intro p e s m args below meth c s₁ B hml hv
  obtain ⟨rfl, hsz, hP, hK, hD0⟩ := hv
  have hx := B.exec
  have hb := B.bytes
  have hr := B.returns
  have hts := atoms_spec (ws := wsX5_letter) B.pre
  have hown : s.vm.findClass RX5 = some m.cls := findClass_of_methodNamed B.named
  have hlocks := B.notSynchronized
  subst hsz
  have hD := hD0.self (sz := s.heap.size)
  generalize hAe : va_A [(oc, .inr (5, [.ref os, .ref osl, .ref ohi, .ref obu, .ref ord, .ref osp, .ref onw, .ref otr, .ref ogd])), (os, .inr (3, [.ref t1, .ref l1, .ref g1])), (t1, .inr (2, [.ref t2, .int (nI nt)])), (t2, .inl (ca 0, 200, .inl gt)), (g1, .inr (2, [.ref g2, .int (nI 4)])), (g2, .inl (ca 0, 4, .inl (seF z r f j))), (ord, .inr (1, [.ref b1, .ref e1, .int rs, .int sa, .int ck])), (b1, .inr (2, [.ref b2, .int (nI bn)])), (b2, .inl (ca 0, 200, .inl fi)), (e1, .inr (2, [.ref e2, .int (nI en)])), (e2, .inl (ca 0, 40, .inl fe))] s.heap.size = A at hD ⊢
  have hA : ∀ q : Nat, s.heap.size ≤ q → A q := fun q h => by rw [← hAe]; exact Or.inr h
  have hS : va_S A s.heap s.heap [] := va_S.rf
  have hP : va_P D vwCl [(oc, .inr (5, [.ref os, .ref osl, .ref ohi, .ref obu, .ref ord, .ref osp, .ref onw, .ref otr, .ref ogd])), (os, .inr (3, [.ref t1, .ref l1, .ref g1])), (t1, .inr (2, [.ref t2, .int (nI nt)])), (t2, .inl (ca 0, 200, .inl gt)), (g1, .inr (2, [.ref g2, .int (nI 4)])), (g2, .inl (ca 0, 4, .inl (seF z r f j))), (ord, .inr (1, [.ref b1, .ref e1, .int rs, .int sa, .int ck])), (b1, .inr (2, [.ref b2, .int (nI bn)])), (b2, .inl (ca 0, 200, .inl fi)), (e1, .inr (2, [.ref e2, .int (nI en)])), (e2, .inl (ca 0, 40, .inl fe))] s.heap := hP
  have hKv := hK.1
  have hl := lv_entry ([.ref oc, .int (bI bw), .int (nI q)]) (n := 3) (kk_le rfl)
  rw [lg_entry_eq]
  generalize (lg_sl ([.ref oc, .int (bI bw), .int (nI q)]) ++ List.replicate (3 - (lg_sl ([.ref oc, .int (bI bw), .int (nI q)])).length) Slot.unset).toArray = ls at hl ⊢
  have hl : lv_has ls 3 [(0, .ref oc), (1, .int (bI bw)), (2, .int (nI q))] := hl
  have hBl : (bitsT r f (lst (twF bw gt nt) nt)).length ≤ nt := rdT_len r f (twF bw gt nt) nt
  have hlb := ltB_len (bitsT r f (lst (twF bw gt nt) nt)) (by omega)
  have hiX5 : ∀ w ∈ u_ws RX5 TX5 9, w ∈ wsX5_letter := fun w h => by first | exact List.mem_cons_of_mem _ (List.mem_append_right _ h) | exact List.mem_cons_of_mem _ (List.mem_append_left _ (List.mem_append_right _ h)) | exact List.mem_cons_of_mem _ (List.mem_append_left _ (List.mem_append_left _ (List.mem_append_right _ h))) | exact List.mem_cons_of_mem _ (List.mem_append_left _ (List.mem_append_left _ (List.mem_append_left _ (List.mem_append_right _ h)))) | (revert w h; decide +kernel)
  have lk39 : (Cond.fieldLink RX5 39 "StripeSwipes" "reading" "LStripeSwipes$Reading;").before _ s = true := hts _ (by decide +kernel)
  have hiX1 : ∀ w ∈ u_ws RX1 TX1 5, w ∈ wsX5_letter := fun w h => by first | exact List.mem_cons_of_mem _ (List.mem_append_right _ h) | exact List.mem_cons_of_mem _ (List.mem_append_left _ (List.mem_append_right _ h)) | exact List.mem_cons_of_mem _ (List.mem_append_left _ (List.mem_append_left _ (List.mem_append_right _ h))) | exact List.mem_cons_of_mem _ (List.mem_append_left _ (List.mem_append_left _ (List.mem_append_left _ (List.mem_append_right _ h)))) | (revert w h; decide +kernel)
  have lk199 : (Cond.fieldLinkNest "StripeSwipes" 199 "StripeSwipes$Reading" "letters" "LStripeSwipes$Row;" "StripeSwipes").before ([.ref oc, .int (bI bw), .int (nI q)] : List Value).toArray s = true := va_Nw.use rfl hK.2.f199
  refine lv_iload_n hx hb dX5_letter_0 rfl (lv_at hl 2 rfl) ?_
  refine ni_if_ge (tgt := 14) (by omega) hx hb dX5_letter_1 (by decide) (fun c1 => ?_) (fun c1 => ?_)
  · refine lv_aload_n hx hb dX5_letter_14 rfl (lv_at hl 0 rfl) ?_
    refine lv_iload_n hx hb dX5_letter_15 rfl (lv_at hl 1 rfl) ?_
    have hPc := hP
    have hDc := hD
    have hFc := va_free (wc := [(oc, .inr (5, [.ref os, .ref osl, .ref ohi, .ref obu, .ref ord, .ref osp, .ref onw, .ref otr, .ref ogd])), (os, .inr (3, [.ref t1, .ref l1, .ref g1])), (t1, .inr (2, [.ref t2, .int (nI nt)])), (t2, .inl (ca 0, 200, .inl gt)), (g1, .inr (2, [.ref g2, .int (nI 4)])), (g2, .inl (ca 0, 4, .inl (seF z r f j))), (ord, .inr (1, [.ref b1, .ref e1, .int rs, .int sa, .int ck])), (b1, .inr (2, [.ref b2, .int (nI bn)])), (b2, .inl (ca 0, 200, .inl fi)), (e1, .inr (2, [.ref e2, .int (nI en)])), (e2, .inl (ca 0, 40, .inl fe))]) hD hS hA [0, 1, 2, 3, 4, 5, 6, 7, 8, 9, 10] rfl
    refine va_callv (va_runV (As := [.int (bI bw)]) (rest := []) ⟨hx, hb, hml, hown, hts⟩ (kX5_readRow l D ca s.heap.size oc os osl ohi obu ord osp onw otr ogd t1 l1 g1 t2 g2 z r f j nt gt b1 b2 e1 e2 rs sa ck fi fe bn en bw (by first | rfl | assumption | omega | trivial | (exfalso; omega)) (by first | rfl | assumption | omega | trivial | (exfalso; omega)) (by first | rfl | assumption | omega | trivial | (exfalso; omega))) (cwV 1 hts gX5_letter_X5_readRow rfl rfl rfl (by decide +kernel) ⟨kk_le rfl, kk_le rfl⟩) (pvM hK hPc (my_D_true hDc) (va_recv hKv hP (ci := 5) (q0 := 0) rfl rfl)) rfl rfl hl.1 rfl (lv_room (kk_le rfl)) dX5_letter_16 ⟨kk_le rfl, kk_le rfl⟩) hS (fun q _ h => hFc q h) hFc (fun u t H1 locs ht hvm hwv hBv hz1 hk1 hS => ?_)
    obtain ⟨hP1, hD1⟩ := hBv
    rw [ht] at hP1
    have hP1 : va_P D vwCl [(oc, .inr (5, [.ref os, .ref osl, .ref ohi, .ref obu, .ref ord, .ref osp, .ref onw, .ref otr, .ref ogd])), (os, .inr (3, [.ref t1, .ref l1, .ref g1])), (t1, .inr (2, [.ref t2, .int (nI nt)])), (t2, .inl (ca 0, 200, .inl gt)), (g1, .inr (2, [.ref g2, .int (nI 4)])), (g2, .inl (ca 0, 4, .inl (seF z r f j))), (ord, .inr (1, [.ref b1, .ref e1, .int (rsT r f (lst (twF bw gt nt) nt)), .int (stB (bitsT r f (lst (twF bw gt nt) nt))), .int (clkT r f (lst (twF bw gt nt) nt))])), (b1, .inr (2, [.ref b2, .int (nI ((bitsT r f (lst (twF bw gt nt) nt)).length))])), (b2, .inl (ca 0, 200, .inl (apF fi 0 (bitsT r f (lst (twF bw gt nt) nt))))), (e1, .inr (2, [.ref e2, .int (nI ((ltB (bitsT r f (lst (twF bw gt nt) nt))).length))])), (e2, .inl (ca 0, 40, .inl (apF fe 0 (ltB (bitsT r f (lst (twF bw gt nt) nt))))))] H1 := hP1
    have hD1 : va_D _ [(oc, .inr (5, [.ref os, .ref osl, .ref ohi, .ref obu, .ref ord, .ref osp, .ref onw, .ref otr, .ref ogd])), (os, .inr (3, [.ref t1, .ref l1, .ref g1])), (t1, .inr (2, [.ref t2, .int (nI nt)])), (t2, .inl (ca 0, 200, .inl gt)), (g1, .inr (2, [.ref g2, .int (nI 4)])), (g2, .inl (ca 0, 4, .inl (seF z r f j))), (ord, .inr (1, [.ref b1, .ref e1, .int (rsT r f (lst (twF bw gt nt) nt)), .int (stB (bitsT r f (lst (twF bw gt nt) nt))), .int (clkT r f (lst (twF bw gt nt) nt))])), (b1, .inr (2, [.ref b2, .int (nI ((bitsT r f (lst (twF bw gt nt) nt)).length))])), (b2, .inl (ca 0, 200, .inl (apF fi 0 (bitsT r f (lst (twF bw gt nt) nt))))), (e1, .inr (2, [.ref e2, .int (nI ((ltB (bitsT r f (lst (twF bw gt nt) nt))).length))])), (e2, .inl (ca 0, 40, .inl (apF fe 0 (ltB (bitsT r f (lst (twF bw gt nt) nt))))))] := hD1
    have hw2 := hwv
    have hP := hP1
    have hD := hD1.weaken (fun _ _ _ h => hFc _ h)
    generalize H1 = H at hP hS ⊢
    have hP : va_P D vwCl [(oc, .inr (5, [.ref os, .ref osl, .ref ohi, .ref obu, .ref ord, .ref osp, .ref onw, .ref otr, .ref ogd])), (os, .inr (3, [.ref t1, .ref l1, .ref g1])), (t1, .inr (2, [.ref t2, .int (nI nt)])), (t2, .inl (ca 0, 200, .inl gt)), (g1, .inr (2, [.ref g2, .int (nI 4)])), (g2, .inl (ca 0, 4, .inl (seF z r f j))), (ord, .inr (1, [.ref b1, .ref e1, .int (rsT r f (lst (twF bw gt nt) nt)), .int (stB (bitsT r f (lst (twF bw gt nt) nt))), .int (clkT r f (lst (twF bw gt nt) nt))])), (b1, .inr (2, [.ref b2, .int (nI ((bitsT r f (lst (twF bw gt nt) nt)).length))])), (b2, .inl (ca 0, 200, .inl (apF fi 0 (bitsT r f (lst (twF bw gt nt) nt))))), (e1, .inr (2, [.ref e2, .int (nI ((ltB (bitsT r f (lst (twF bw gt nt) nt))).length))])), (e2, .inl (ca 0, 40, .inl (apF fe 0 (ltB (bitsT r f (lst (twF bw gt nt) nt))))))] H := hP
    have hD : va_D A [(oc, .inr (5, [.ref os, .ref osl, .ref ohi, .ref obu, .ref ord, .ref osp, .ref onw, .ref otr, .ref ogd])), (os, .inr (3, [.ref t1, .ref l1, .ref g1])), (t1, .inr (2, [.ref t2, .int (nI nt)])), (t2, .inl (ca 0, 200, .inl gt)), (g1, .inr (2, [.ref g2, .int (nI 4)])), (g2, .inl (ca 0, 4, .inl (seF z r f j))), (ord, .inr (1, [.ref b1, .ref e1, .int (rsT r f (lst (twF bw gt nt) nt)), .int (stB (bitsT r f (lst (twF bw gt nt) nt))), .int (clkT r f (lst (twF bw gt nt) nt))])), (b1, .inr (2, [.ref b2, .int (nI ((bitsT r f (lst (twF bw gt nt) nt)).length))])), (b2, .inl (ca 0, 200, .inl (apF fi 0 (bitsT r f (lst (twF bw gt nt) nt))))), (e1, .inr (2, [.ref e2, .int (nI ((ltB (bitsT r f (lst (twF bw gt nt) nt))).length))])), (e2, .inl (ca 0, 40, .inl (apF fe 0 (ltB (bitsT r f (lst (twF bw gt nt) nt))))))] := hD
    refine lv_aload_n hx hb dX5_letter_19 rfl (lv_at hl 0 rfl) ?_
    refine va_get (D := D) (ci := 5) (C := RX5) (T := TX5) (N := 9) hx hb hts hiX5 hown hKv hP 0 rfl rfl 4 (by decide) lk39 (fun _ h9 => h9) rfl dX5_letter_20 ?_
    refine va_getN (D := D) (ci := 1) (C := RX1) (T := TX1) (N := 5) hx hb hts hiX1 hown hKv hP 6 rfl rfl 1 (by decide) lk199 (fun _ h9 => h9) rfl dX5_letter_23 ?_
    refine lv_iload_n hx hb dX5_letter_26 rfl (lv_at hl 2 rfl) ?_
    refine vp_callSi (va_Run.run (va_runV (As := [.int (nI q)]) (rest := []) ⟨hx, hb, hml, hown, hts⟩ (kX2_at l D ca e1 e2 40 (apF fe 0 (ltB (bitsT r f (lst (twF bw gt nt) nt)))) ((ltB (bitsT r f (lst (twF bw gt nt) nt))).length) (nI q) (by first | rfl | assumption | omega | trivial | (exfalso; omega)) (by first | rfl | assumption | omega | trivial | (exfalso; omega))) (cwV 1 hts gX5_letter_X2_at rfl rfl rfl (by decide +kernel) ⟨kk_le rfl, kk_le rfl⟩) (pvR hK (hP.sub (ws' := [(e1, .inr (2, [.ref e2, .int (nI ((ltB (bitsT r f (lst (twF bw gt nt) nt))).length))])), (e2, .inl (ca 0, 40, .inl (apF fe 0 (ltB (bitsT r f (lst (twF bw gt nt) nt))))))]) [9, 10] rfl) (va_recv hKv hP (ci := 2) (q0 := 9) rfl rfl)) rfl rfl hl.1 rfl (lv_room (kk_le rfl)) dX5_letter_27 ⟨kk_le rfl, kk_le rfl⟩)) (fun r4 hr4 => ?_)
    subst hr4
    exact W.iret (v := atF (apF fe 0 (ltB (bitsT r f (lst (twF bw gt nt) nt)))) ((ltB (bitsT r f (lst (twF bw gt nt) nt))).length) (nI q)) hx hb hr (fun t ht hW => ⟨⟨_, (), rfl, ⟨by exact at_gd fe _ (by omega) (by omega), by trivial⟩, by rw [ht]; exact hP, hD⟩, hS.F ht⟩) hS.2.2 dX5_letter_30
  · exact c1.elim
abbrev rm_kX5_count_ok : Room := { frames := 2, cells := 0, slots := 0, locals := 52 }
set_option maxHeartbeats 4000000 in
set_option maxRecDepth 100000 in
theorem kX5_count_ok (l : Launch) (D : va_G) (ca : Nat → ClassId) (oc os osl ohi obu ord osp onw otr ogd : Nat) (t1 l1 g1 : Nat) (t2 : Nat) (l2 : Nat) (oha : Nat) (dp : Nat) (nt nl : Nat) (gl gt : Nat → Int32) (q : Nat) (hnt : nt ≤ 200) (hnl : nl ≤ 20) (hq : q < 7) : Met l yX5_count wsX5_count rm_kX5_count_ok (pcR D ca [.ref oc, .int (nI q)] [(oc, .inr (5, [.ref os, .ref osl, .ref ohi, .ref obu, .ref ord, .ref osp, .ref onw, .ref otr, .ref ogd])), (os, .inr (3, [.ref t1, .ref l1, .ref g1])), (t1, .inr (2, [.ref t2, .int (nI nt)])), (t2, .inl (ca 0, 200, .inl gt)), (l1, .inr (2, [.ref l2, .int (nI nl)])), (l2, .inl (ca 0, 20, .inl gl)), (ohi, .inr (0, [.ref oha, .int (nI dp)]))]) (vp_Si (fun zr : Int32 => zr = cntT q (lst gt nt) (lst gl nl) dp)) 0 0 (fun _ => False) := by
  refine Met.ofW (cc := cX5_count) (maxL := 2) (ret := (some .int)) (by decide) rfl ?_
  intro p e s m args below meth c s₁ B hml hv
  obtain ⟨rfl, hP, hK⟩ := hv
  have hx := B.exec
  have hb := B.bytes
  have hr := B.returns
  have hts := atoms_spec (ws := wsX5_count) B.pre
  have hown : s.vm.findClass RX5 = some m.cls := findClass_of_methodNamed B.named
  have hlocks := B.notSynchronized
  have hKv := hK.1
  have hl := lv_entry ([.ref oc, .int (nI q)]) (n := 2) (kk_le rfl)
  rw [lg_entry_eq]
  generalize (lg_sl ([.ref oc, .int (nI q)]) ++ List.replicate (2 - (lg_sl ([.ref oc, .int (nI q)])).length) Slot.unset).toArray = ls at hl ⊢
  have hl : lv_has ls 2 [(0, .ref oc), (1, .int (nI q))] := hl
  have hiX5 : ∀ w ∈ u_ws RX5 TX5 9, w ∈ wsX5_count := fun w h => by first | exact List.mem_cons_of_mem _ (List.mem_append_right _ h) | exact List.mem_cons_of_mem _ (List.mem_append_left _ (List.mem_append_right _ h)) | exact List.mem_cons_of_mem _ (List.mem_append_left _ (List.mem_append_left _ (List.mem_append_right _ h))) | exact List.mem_cons_of_mem _ (List.mem_append_left _ (List.mem_append_left _ (List.mem_append_left _ (List.mem_append_right _ h)))) | (revert w h; decide +kernel)
  have lk10 : (Cond.fieldLink RX5 10 "StripeSwipes" "state" "LStripeSwipes$State;").before _ s = true := hts _ (by decide +kernel)
  have hiX3 : ∀ w ∈ u_ws RX3 TX3 3, w ∈ wsX5_count := fun w h => by first | exact List.mem_cons_of_mem _ (List.mem_append_right _ h) | exact List.mem_cons_of_mem _ (List.mem_append_left _ (List.mem_append_right _ h)) | exact List.mem_cons_of_mem _ (List.mem_append_left _ (List.mem_append_left _ (List.mem_append_right _ h))) | exact List.mem_cons_of_mem _ (List.mem_append_left _ (List.mem_append_left _ (List.mem_append_left _ (List.mem_append_right _ h)))) | (revert w h; decide +kernel)
  have lk113 : (Cond.fieldLinkNest "StripeSwipes" 113 "StripeSwipes$State" "times" "LStripeSwipes$Row;" "StripeSwipes").before ([.ref oc, .int (nI q)] : List Value).toArray s = true := va_Nw.use rfl hK.2.f113
  have lk106 : (Cond.fieldLinkNest "StripeSwipes" 106 "StripeSwipes$State" "letters" "LStripeSwipes$Row;" "StripeSwipes").before ([.ref oc, .int (nI q)] : List Value).toArray s = true := va_Nw.use rfl hK.2.f106
  have lk23 : (Cond.fieldLink RX5 23 "StripeSwipes" "history" "LStripeSwipes$History;").before _ s = true := hts _ (by decide +kernel)
  refine lv_iload_n hx hb dX5_count_0 rfl (lv_at hl 1 rfl) ?_
  rcases (show q = 0 ∨ q = 1 ∨ q = 2 ∨ q = 3 ∨ q = 4 ∨ q = 5 ∨ q = 6 ∨ 6 < q from by omega) with rfl | rfl | rfl | rfl | rfl | rfl | rfl | c1
  · refine lv_tableIn (tgt := 44) (off := 43) hx hb dX5_count_1 (by decide) (by decide) (by decide) (by decide) ?_
    refine lv_aload_n hx hb dX5_count_44 rfl (lv_at hl 0 rfl) ?_
    refine va_get (D := D) (ci := 5) (C := RX5) (T := TX5) (N := 9) hx hb hts hiX5 hown hKv hP 0 rfl rfl 0 (by decide) lk10 (fun _ h9 => h9) rfl dX5_count_45 ?_
    refine va_getN (D := D) (ci := 3) (C := RX3) (T := TX3) (N := 3) hx hb hts hiX3 hown hKv hP 1 rfl rfl 0 (by decide) lk113 (fun _ h9 => h9) rfl dX5_count_48 ?_
    refine vp_callSi (va_Run.run (va_runV (As := []) (rest := []) ⟨hx, hb, hml, hown, hts⟩ (kX2_size l D ca t1 t2 200 gt nt (by first | rfl | assumption | omega | trivial | (exfalso; omega)) (by first | rfl | assumption | omega | trivial | (exfalso; omega))) (cwV 0 hts gX5_count_X2_size rfl rfl rfl (by decide +kernel) ⟨kk_le rfl, kk_le rfl⟩) (pvR hK (hP.sub (ws' := [(t1, .inr (2, [.ref t2, .int (nI nt)])), (t2, .inl (ca 0, 200, .inl gt))]) [2, 3] rfl) (va_recv hKv hP (ci := 2) (q0 := 2) rfl rfl)) rfl rfl hl.1 rfl (lv_room (kk_le rfl)) dX5_count_51 ⟨kk_le rfl, kk_le rfl⟩)) (fun r2 hr2 => ?_)
    subst hr2
    exact W.iret (v := nI nt) hx hb hr (fun t ht _ => ⟨_, rfl, by exact ct_0 gt nt _ dp, ht⟩) (fun _ h => nomatch h) dX5_count_54
  · refine lv_tableIn (tgt := 55) (off := 54) hx hb dX5_count_1 (by decide) (by decide) (by decide) (by decide) ?_
    refine lv_aload_n hx hb dX5_count_55 rfl (lv_at hl 0 rfl) ?_
    refine va_get (D := D) (ci := 5) (C := RX5) (T := TX5) (N := 9) hx hb hts hiX5 hown hKv hP 0 rfl rfl 0 (by decide) lk10 (fun _ h9 => h9) rfl dX5_count_56 ?_
    refine va_getN (D := D) (ci := 3) (C := RX3) (T := TX3) (N := 3) hx hb hts hiX3 hown hKv hP 1 rfl rfl 0 (by decide) lk113 (fun _ h9 => h9) rfl dX5_count_59 ?_
    refine vp_callSi (va_Run.run (va_runV (As := []) (rest := []) ⟨hx, hb, hml, hown, hts⟩ (kX2_sum l D ca t1 t2 200 gt nt (by first | rfl | assumption | omega | trivial | (exfalso; omega)) (by first | rfl | assumption | omega | trivial | (exfalso; omega))) (cwV 0 hts gX5_count_X2_sum rfl rfl rfl (by decide +kernel) ⟨kk_le rfl, kk_le rfl⟩) (pvR hK (hP.sub (ws' := [(t1, .inr (2, [.ref t2, .int (nI nt)])), (t2, .inl (ca 0, 200, .inl gt))]) [2, 3] rfl) (va_recv hKv hP (ci := 2) (q0 := 2) rfl rfl)) rfl rfl hl.1 rfl (lv_room (kk_le rfl)) dX5_count_62 ⟨kk_le rfl, kk_le rfl⟩)) (fun r3 hr3 => ?_)
    subst hr3
    exact W.iret (v := sumL (lst gt nt)) hx hb hr (fun t ht _ => ⟨_, rfl, by rfl, ht⟩) (fun _ h => nomatch h) dX5_count_65
  · refine lv_tableIn (tgt := 66) (off := 65) hx hb dX5_count_1 (by decide) (by decide) (by decide) (by decide) ?_
    refine lv_aload_n hx hb dX5_count_66 rfl (lv_at hl 0 rfl) ?_
    refine va_get (D := D) (ci := 5) (C := RX5) (T := TX5) (N := 9) hx hb hts hiX5 hown hKv hP 0 rfl rfl 0 (by decide) lk10 (fun _ h9 => h9) rfl dX5_count_67 ?_
    refine va_getN (D := D) (ci := 3) (C := RX3) (T := TX3) (N := 3) hx hb hts hiX3 hown hKv hP 1 rfl rfl 0 (by decide) lk113 (fun _ h9 => h9) rfl dX5_count_70 ?_
    refine vp_callSi (va_Run.run (va_runV (As := []) (rest := []) ⟨hx, hb, hml, hown, hts⟩ (kX2_least l D ca t1 t2 200 gt nt (by first | rfl | assumption | omega | trivial | (exfalso; omega)) (by first | rfl | assumption | omega | trivial | (exfalso; omega))) (cwV 0 hts gX5_count_X2_least rfl rfl rfl (by decide +kernel) ⟨kk_le rfl, kk_le rfl⟩) (pvR hK (hP.sub (ws' := [(t1, .inr (2, [.ref t2, .int (nI nt)])), (t2, .inl (ca 0, 200, .inl gt))]) [2, 3] rfl) (va_recv hKv hP (ci := 2) (q0 := 2) rfl rfl)) rfl rfl hl.1 rfl (lv_room (kk_le rfl)) dX5_count_73 ⟨kk_le rfl, kk_le rfl⟩)) (fun r4 hr4 => ?_)
    subst hr4
    exact W.iret (v := minL (lst gt nt)) hx hb hr (fun t ht _ => ⟨_, rfl, by rfl, ht⟩) (fun _ h => nomatch h) dX5_count_76
  · refine lv_tableIn (tgt := 77) (off := 76) hx hb dX5_count_1 (by decide) (by decide) (by decide) (by decide) ?_
    refine lv_aload_n hx hb dX5_count_77 rfl (lv_at hl 0 rfl) ?_
    refine va_get (D := D) (ci := 5) (C := RX5) (T := TX5) (N := 9) hx hb hts hiX5 hown hKv hP 0 rfl rfl 0 (by decide) lk10 (fun _ h9 => h9) rfl dX5_count_78 ?_
    refine va_getN (D := D) (ci := 3) (C := RX3) (T := TX3) (N := 3) hx hb hts hiX3 hown hKv hP 1 rfl rfl 0 (by decide) lk113 (fun _ h9 => h9) rfl dX5_count_81 ?_
    refine vp_callSi (va_Run.run (va_runV (As := []) (rest := []) ⟨hx, hb, hml, hown, hts⟩ (kX2_greatest l D ca t1 t2 200 gt nt (by first | rfl | assumption | omega | trivial | (exfalso; omega)) (by first | rfl | assumption | omega | trivial | (exfalso; omega))) (cwV 0 hts gX5_count_X2_greatest rfl rfl rfl (by decide +kernel) ⟨kk_le rfl, kk_le rfl⟩) (pvR hK (hP.sub (ws' := [(t1, .inr (2, [.ref t2, .int (nI nt)])), (t2, .inl (ca 0, 200, .inl gt))]) [2, 3] rfl) (va_recv hKv hP (ci := 2) (q0 := 2) rfl rfl)) rfl rfl hl.1 rfl (lv_room (kk_le rfl)) dX5_count_84 ⟨kk_le rfl, kk_le rfl⟩)) (fun r5 hr5 => ?_)
    subst hr5
    exact W.iret (v := maxL (lst gt nt)) hx hb hr (fun t ht _ => ⟨_, rfl, by rfl, ht⟩) (fun _ h => nomatch h) dX5_count_87
  · refine lv_tableIn (tgt := 88) (off := 87) hx hb dX5_count_1 (by decide) (by decide) (by decide) (by decide) ?_
    refine lv_aload_n hx hb dX5_count_88 rfl (lv_at hl 0 rfl) ?_
    refine va_get (D := D) (ci := 5) (C := RX5) (T := TX5) (N := 9) hx hb hts hiX5 hown hKv hP 0 rfl rfl 0 (by decide) lk10 (fun _ h9 => h9) rfl dX5_count_89 ?_
    refine va_getN (D := D) (ci := 3) (C := RX3) (T := TX3) (N := 3) hx hb hts hiX3 hown hKv hP 1 rfl rfl 1 (by decide) lk106 (fun _ h9 => h9) rfl dX5_count_92 ?_
    refine vp_callSi (va_Run.run (va_runV (As := []) (rest := []) ⟨hx, hb, hml, hown, hts⟩ (kX2_size l D ca l1 l2 20 gl nl (by first | rfl | assumption | omega | trivial | (exfalso; omega)) (by first | rfl | assumption | omega | trivial | (exfalso; omega))) (cwV 0 hts gX5_count_X2_size rfl rfl rfl (by decide +kernel) ⟨kk_le rfl, kk_le rfl⟩) (pvR hK (hP.sub (ws' := [(l1, .inr (2, [.ref l2, .int (nI nl)])), (l2, .inl (ca 0, 20, .inl gl))]) [4, 5] rfl) (va_recv hKv hP (ci := 2) (q0 := 4) rfl rfl)) rfl rfl hl.1 rfl (lv_room (kk_le rfl)) dX5_count_95 ⟨kk_le rfl, kk_le rfl⟩)) (fun r6 hr6 => ?_)
    subst hr6
    exact W.iret (v := nI nl) hx hb hr (fun t ht _ => ⟨_, rfl, by exact ct_4 gl nl _ dp, ht⟩) (fun _ h => nomatch h) dX5_count_98
  · refine lv_tableIn (tgt := 99) (off := 98) hx hb dX5_count_1 (by decide) (by decide) (by decide) (by decide) ?_
    refine lv_aload_n hx hb dX5_count_99 rfl (lv_at hl 0 rfl) ?_
    refine va_get (D := D) (ci := 5) (C := RX5) (T := TX5) (N := 9) hx hb hts hiX5 hown hKv hP 0 rfl rfl 0 (by decide) lk10 (fun _ h9 => h9) rfl dX5_count_100 ?_
    refine va_getN (D := D) (ci := 3) (C := RX3) (T := TX3) (N := 3) hx hb hts hiX3 hown hKv hP 1 rfl rfl 1 (by decide) lk106 (fun _ h9 => h9) rfl dX5_count_103 ?_
    refine vp_callSi (va_Run.run (va_runV (As := []) (rest := []) ⟨hx, hb, hml, hown, hts⟩ (kX2_size l D ca l1 l2 20 gl nl (by first | rfl | assumption | omega | trivial | (exfalso; omega)) (by first | rfl | assumption | omega | trivial | (exfalso; omega))) (cwV 0 hts gX5_count_X2_size rfl rfl rfl (by decide +kernel) ⟨kk_le rfl, kk_le rfl⟩) (pvR hK (hP.sub (ws' := [(l1, .inr (2, [.ref l2, .int (nI nl)])), (l2, .inl (ca 0, 20, .inl gl))]) [4, 5] rfl) (va_recv hKv hP (ci := 2) (q0 := 4) rfl rfl)) rfl rfl hl.1 rfl (lv_room (kk_le rfl)) dX5_count_106 ⟨kk_le rfl, kk_le rfl⟩)) (fun r7 hr7 => ?_)
    subst hr7
    refine ni_if_ne (tgt := 116) (by omega) hx hb dX5_count_109 (by decide) (fun c8 => ?_) (fun c8 => ?_)
    · refine lv_aload_n hx hb dX5_count_116 rfl (lv_at hl 0 rfl) ?_
      refine va_get (D := D) (ci := 5) (C := RX5) (T := TX5) (N := 9) hx hb hts hiX5 hown hKv hP 0 rfl rfl 0 (by decide) lk10 (fun _ h9 => h9) rfl dX5_count_117 ?_
      refine va_getN (D := D) (ci := 3) (C := RX3) (T := TX3) (N := 3) hx hb hts hiX3 hown hKv hP 1 rfl rfl 1 (by decide) lk106 (fun _ h9 => h9) rfl dX5_count_120 ?_
      refine vp_callSi (va_Run.run (va_runS (As := [.ref l1]) (rest := []) ⟨hx, hb, hml, hown, hts⟩ (kX5_checkOf l D ca l1 l2 20 gl nl (by first | rfl | assumption | omega | trivial | (exfalso; omega)) (by first | rfl | assumption | omega | trivial | (exfalso; omega))) (va_cwS 1 hts gX5_count_X5_checkOf rfl rfl rfl (by decide +kernel) ⟨kk_le rfl, kk_le rfl⟩) (psR hK (hP.sub (ws' := [(l1, .inr (2, [.ref l2, .int (nI nl)])), (l2, .inl (ca 0, 20, .inl gl))]) [4, 5] rfl)) rfl rfl hl.1 rfl (lv_room (kk_le rfl)) dX5_count_123 ⟨kk_le rfl, kk_le rfl⟩)) (fun r9 hr9 => ?_)
      subst hr9
      exact W.iret (v := chkL (lst gl nl)) hx hb hr (fun t ht _ => ⟨_, rfl, by exact ct_5 gl (by omega), ht⟩) (fun _ h => nomatch h) dX5_count_126
    · refine lv_iconst (v := (-1)) hx hb dX5_count_112 (by decide) ?_
      refine lv_goto (tgt := 126) hx hb dX5_count_113 (by decide) ?_
      exact W.iret (v := (-1)) hx hb hr (fun t ht _ => ⟨_, rfl, by exact ct_50 gl (by omega), ht⟩) (fun _ h => nomatch h) dX5_count_126
  · refine lv_tableIn (tgt := 127) (off := 126) hx hb dX5_count_1 (by decide) (by decide) (by decide) (by decide) ?_
    refine lv_aload_n hx hb dX5_count_127 rfl (lv_at hl 0 rfl) ?_
    refine va_get (D := D) (ci := 5) (C := RX5) (T := TX5) (N := 9) hx hb hts hiX5 hown hKv hP 0 rfl rfl 2 (by decide) lk23 (fun _ h9 => h9) rfl dX5_count_128 ?_
    refine vp_callSi (va_Run.run (va_runV (As := []) (rest := []) ⟨hx, hb, hml, hown, hts⟩ (kX0_depth l D ca ohi oha dp) (cwV 0 hts gX5_count_X0_depth rfl rfl rfl (by decide +kernel) ⟨kk_le rfl, kk_le rfl⟩) (pvR hK (hP.sub (ws' := [(ohi, .inr (0, [.ref oha, .int (nI dp)]))]) [6] rfl) (va_recv hKv hP (ci := 0) (q0 := 6) rfl rfl)) rfl rfl hl.1 rfl (lv_room (kk_le rfl)) dX5_count_131 ⟨kk_le rfl, kk_le rfl⟩)) (fun r10 hr10 => ?_)
    subst hr10
    exact W.iret (v := nI dp) hx hb hr (fun t ht _ => ⟨_, rfl, by rfl, ht⟩) (fun _ h => nomatch h) dX5_count_134
  · exact absurd c1 (by omega)
abbrev rm_kX5_setting_0 : Room := { frames := 1, cells := 0, slots := 0, locals := 21 }
set_option maxHeartbeats 4000000 in
set_option maxRecDepth 100000 in
theorem kX5_setting_0 (l : Launch) (D : va_G) (ca : Nat → ClassId) (oc os osl ohi obu ord osp onw otr ogd : Nat) (t1 l1 g1 : Nat) (g2 : Nat) (z : Nat) (r f j : Int32) : Met l yX5_setting wsX5_setting rm_kX5_setting_0 (pcR D ca [.ref oc, .int (nI 0)] [(oc, .inr (5, [.ref os, .ref osl, .ref ohi, .ref obu, .ref ord, .ref osp, .ref onw, .ref otr, .ref ogd])), (os, .inr (3, [.ref t1, .ref l1, .ref g1])), (g1, .inr (2, [.ref g2, .int (nI 4)])), (g2, .inl (ca 0, 4, .inl (seF z r f j)))]) (vp_Si (fun zr : Int32 => zr = nI z)) 0 0 (fun _ => False) := by
  refine Met.ofW (cc := cX5_setting) (maxL := 2) (ret := (some .int)) (by decide) rfl ?_
  intro p e s m args below meth c s₁ B hml hv
  obtain ⟨rfl, hP, hK⟩ := hv
  have hx := B.exec
  have hb := B.bytes
  have hr := B.returns
  have hts := atoms_spec (ws := wsX5_setting) B.pre
  have hown : s.vm.findClass RX5 = some m.cls := findClass_of_methodNamed B.named
  have hlocks := B.notSynchronized
  have hKv := hK.1
  have hl := lv_entry ([.ref oc, .int (nI 0)]) (n := 2) (kk_le rfl)
  rw [lg_entry_eq]
  generalize (lg_sl ([.ref oc, .int (nI 0)]) ++ List.replicate (2 - (lg_sl ([.ref oc, .int (nI 0)])).length) Slot.unset).toArray = ls at hl ⊢
  have hl : lv_has ls 2 [(0, .ref oc), (1, .int (nI 0))] := hl
  have hiX5 : ∀ w ∈ u_ws RX5 TX5 9, w ∈ wsX5_setting := fun w h => by first | exact List.mem_cons_of_mem _ (List.mem_append_right _ h) | exact List.mem_cons_of_mem _ (List.mem_append_left _ (List.mem_append_right _ h)) | exact List.mem_cons_of_mem _ (List.mem_append_left _ (List.mem_append_left _ (List.mem_append_right _ h))) | exact List.mem_cons_of_mem _ (List.mem_append_left _ (List.mem_append_left _ (List.mem_append_left _ (List.mem_append_right _ h)))) | (revert w h; decide +kernel)
  have lk10 : (Cond.fieldLink RX5 10 "StripeSwipes" "state" "LStripeSwipes$State;").before _ s = true := hts _ (by decide +kernel)
  have hiX3 : ∀ w ∈ u_ws RX3 TX3 3, w ∈ wsX5_setting := fun w h => by first | exact List.mem_cons_of_mem _ (List.mem_append_right _ h) | exact List.mem_cons_of_mem _ (List.mem_append_left _ (List.mem_append_right _ h)) | exact List.mem_cons_of_mem _ (List.mem_append_left _ (List.mem_append_left _ (List.mem_append_right _ h))) | exact List.mem_cons_of_mem _ (List.mem_append_left _ (List.mem_append_left _ (List.mem_append_left _ (List.mem_append_right _ h)))) | (revert w h; decide +kernel)
  have lk148 : (Cond.fieldLinkNest "StripeSwipes" 148 "StripeSwipes$State" "settings" "LStripeSwipes$Row;" "StripeSwipes").before ([.ref oc, .int (nI 0)] : List Value).toArray s = true := va_Nw.use rfl hK.2.f148
  refine lv_aload_n hx hb dX5_setting_0 rfl (lv_at hl 0 rfl) ?_
  refine va_get (D := D) (ci := 5) (C := RX5) (T := TX5) (N := 9) hx hb hts hiX5 hown hKv hP 0 rfl rfl 0 (by decide) lk10 (fun _ h9 => h9) rfl dX5_setting_1 ?_
  refine va_getN (D := D) (ci := 3) (C := RX3) (T := TX3) (N := 3) hx hb hts hiX3 hown hKv hP 1 rfl rfl 2 (by decide) lk148 (fun _ h9 => h9) rfl dX5_setting_4 ?_
  refine lv_iload_n hx hb dX5_setting_7 rfl (lv_at hl 1 rfl) ?_
  refine vp_callSi (va_Run.run (va_runV (As := [.int (nI 0)]) (rest := []) ⟨hx, hb, hml, hown, hts⟩ (kX2_has l D ca g1 g2 4 (seF z r f j) 4 (nI 0) (by first | rfl | assumption | omega | trivial | (exfalso; omega)) (by first | rfl | assumption | omega | trivial | (exfalso; omega))) (cwV 1 hts gX5_setting_X2_has rfl rfl rfl (by decide +kernel) ⟨kk_le rfl, kk_le rfl⟩) (pvR hK (hP.sub (ws' := [(g1, .inr (2, [.ref g2, .int (nI 4)])), (g2, .inl (ca 0, 4, .inl (seF z r f j)))]) [2, 3] rfl) (va_recv hKv hP (ci := 2) (q0 := 2) rfl rfl)) rfl rfl hl.1 rfl (lv_room (kk_le rfl)) dX5_setting_8 ⟨kk_le rfl, kk_le rfl⟩)) (fun r1 hr1 => ?_)
  subst hr1
  have e2 : (bI (hasF 4 (nI 0)) : Int32) = bI true := by decide
  rw [e2]
  refine bi_if_ne (tgt := 24) hx hb dX5_setting_11 (by decide) (fun c3 => ?_) (fun c3 => ?_)
  · refine lv_aload_n hx hb dX5_setting_24 rfl (lv_at hl 0 rfl) ?_
    refine va_get (D := D) (ci := 5) (C := RX5) (T := TX5) (N := 9) hx hb hts hiX5 hown hKv hP 0 rfl rfl 0 (by decide) lk10 (fun _ h9 => h9) rfl dX5_setting_25 ?_
    refine va_getN (D := D) (ci := 3) (C := RX3) (T := TX3) (N := 3) hx hb hts hiX3 hown hKv hP 1 rfl rfl 2 (by decide) lk148 (fun _ h9 => h9) rfl dX5_setting_28 ?_
    refine lv_iload_n hx hb dX5_setting_31 rfl (lv_at hl 1 rfl) ?_
    refine vp_callSi (va_Run.run (va_runV (As := [.int (nI 0)]) (rest := []) ⟨hx, hb, hml, hown, hts⟩ (kX2_at_in l D ca g1 g2 4 (seF z r f j) 4 0 (by first | rfl | assumption | omega | trivial | (exfalso; omega)) (by first | rfl | assumption | omega | trivial | (exfalso; omega)) (by first | rfl | assumption | omega | trivial | (exfalso; omega))) (cwV 1 hts gX5_setting_X2_at rfl rfl rfl (by decide +kernel) ⟨kk_le rfl, kk_le rfl⟩) (pvR hK (hP.sub (ws' := [(g1, .inr (2, [.ref g2, .int (nI 4)])), (g2, .inl (ca 0, 4, .inl (seF z r f j)))]) [2, 3] rfl) (va_recv hKv hP (ci := 2) (q0 := 2) rfl rfl)) rfl rfl hl.1 rfl (lv_room (kk_le rfl)) dX5_setting_32 ⟨kk_le rfl, kk_le rfl⟩)) (fun r4 hr4 => ?_)
    have hr4 := hr4.symm
    subst hr4
    exact W.iret (v := (seF z r f j) 0) hx hb hr (fun t ht _ => ⟨_, rfl, by rfl, ht⟩) (fun _ h => nomatch h) dX5_setting_35
  · first | exact False.elim c3 | exact absurd c3 (by decide) | (exfalso; omega)
abbrev rm_kX5_setting_1 : Room := { frames := 1, cells := 0, slots := 0, locals := 21 }
set_option maxHeartbeats 4000000 in
set_option maxRecDepth 100000 in
theorem kX5_setting_1 (l : Launch) (D : va_G) (ca : Nat → ClassId) (oc os osl ohi obu ord osp onw otr ogd : Nat) (t1 l1 g1 : Nat) (g2 : Nat) (z : Nat) (r f j : Int32) : Met l yX5_setting wsX5_setting rm_kX5_setting_1 (pcR D ca [.ref oc, .int (nI 1)] [(oc, .inr (5, [.ref os, .ref osl, .ref ohi, .ref obu, .ref ord, .ref osp, .ref onw, .ref otr, .ref ogd])), (os, .inr (3, [.ref t1, .ref l1, .ref g1])), (g1, .inr (2, [.ref g2, .int (nI 4)])), (g2, .inl (ca 0, 4, .inl (seF z r f j)))]) (vp_Si (fun zr : Int32 => zr = r)) 0 0 (fun _ => False) := by
  refine Met.ofW (cc := cX5_setting) (maxL := 2) (ret := (some .int)) (by decide) rfl ?_
  intro p e s m args below meth c s₁ B hml hv
  obtain ⟨rfl, hP, hK⟩ := hv
  have hx := B.exec
  have hb := B.bytes
  have hr := B.returns
  have hts := atoms_spec (ws := wsX5_setting) B.pre
  have hown : s.vm.findClass RX5 = some m.cls := findClass_of_methodNamed B.named
  have hlocks := B.notSynchronized
  have hKv := hK.1
  have hl := lv_entry ([.ref oc, .int (nI 1)]) (n := 2) (kk_le rfl)
  rw [lg_entry_eq]
  generalize (lg_sl ([.ref oc, .int (nI 1)]) ++ List.replicate (2 - (lg_sl ([.ref oc, .int (nI 1)])).length) Slot.unset).toArray = ls at hl ⊢
  have hl : lv_has ls 2 [(0, .ref oc), (1, .int (nI 1))] := hl
  have hiX5 : ∀ w ∈ u_ws RX5 TX5 9, w ∈ wsX5_setting := fun w h => by first | exact List.mem_cons_of_mem _ (List.mem_append_right _ h) | exact List.mem_cons_of_mem _ (List.mem_append_left _ (List.mem_append_right _ h)) | exact List.mem_cons_of_mem _ (List.mem_append_left _ (List.mem_append_left _ (List.mem_append_right _ h))) | exact List.mem_cons_of_mem _ (List.mem_append_left _ (List.mem_append_left _ (List.mem_append_left _ (List.mem_append_right _ h)))) | (revert w h; decide +kernel)
  have lk10 : (Cond.fieldLink RX5 10 "StripeSwipes" "state" "LStripeSwipes$State;").before _ s = true := hts _ (by decide +kernel)
  have hiX3 : ∀ w ∈ u_ws RX3 TX3 3, w ∈ wsX5_setting := fun w h => by first | exact List.mem_cons_of_mem _ (List.mem_append_right _ h) | exact List.mem_cons_of_mem _ (List.mem_append_left _ (List.mem_append_right _ h)) | exact List.mem_cons_of_mem _ (List.mem_append_left _ (List.mem_append_left _ (List.mem_append_right _ h))) | exact List.mem_cons_of_mem _ (List.mem_append_left _ (List.mem_append_left _ (List.mem_append_left _ (List.mem_append_right _ h)))) | (revert w h; decide +kernel)
  have lk148 : (Cond.fieldLinkNest "StripeSwipes" 148 "StripeSwipes$State" "settings" "LStripeSwipes$Row;" "StripeSwipes").before ([.ref oc, .int (nI 1)] : List Value).toArray s = true := va_Nw.use rfl hK.2.f148
  refine lv_aload_n hx hb dX5_setting_0 rfl (lv_at hl 0 rfl) ?_
  refine va_get (D := D) (ci := 5) (C := RX5) (T := TX5) (N := 9) hx hb hts hiX5 hown hKv hP 0 rfl rfl 0 (by decide) lk10 (fun _ h9 => h9) rfl dX5_setting_1 ?_
  refine va_getN (D := D) (ci := 3) (C := RX3) (T := TX3) (N := 3) hx hb hts hiX3 hown hKv hP 1 rfl rfl 2 (by decide) lk148 (fun _ h9 => h9) rfl dX5_setting_4 ?_
  refine lv_iload_n hx hb dX5_setting_7 rfl (lv_at hl 1 rfl) ?_
  refine vp_callSi (va_Run.run (va_runV (As := [.int (nI 1)]) (rest := []) ⟨hx, hb, hml, hown, hts⟩ (kX2_has l D ca g1 g2 4 (seF z r f j) 4 (nI 1) (by first | rfl | assumption | omega | trivial | (exfalso; omega)) (by first | rfl | assumption | omega | trivial | (exfalso; omega))) (cwV 1 hts gX5_setting_X2_has rfl rfl rfl (by decide +kernel) ⟨kk_le rfl, kk_le rfl⟩) (pvR hK (hP.sub (ws' := [(g1, .inr (2, [.ref g2, .int (nI 4)])), (g2, .inl (ca 0, 4, .inl (seF z r f j)))]) [2, 3] rfl) (va_recv hKv hP (ci := 2) (q0 := 2) rfl rfl)) rfl rfl hl.1 rfl (lv_room (kk_le rfl)) dX5_setting_8 ⟨kk_le rfl, kk_le rfl⟩)) (fun r1 hr1 => ?_)
  subst hr1
  have e2 : (bI (hasF 4 (nI 1)) : Int32) = bI true := by decide
  rw [e2]
  refine bi_if_ne (tgt := 24) hx hb dX5_setting_11 (by decide) (fun c3 => ?_) (fun c3 => ?_)
  · refine lv_aload_n hx hb dX5_setting_24 rfl (lv_at hl 0 rfl) ?_
    refine va_get (D := D) (ci := 5) (C := RX5) (T := TX5) (N := 9) hx hb hts hiX5 hown hKv hP 0 rfl rfl 0 (by decide) lk10 (fun _ h9 => h9) rfl dX5_setting_25 ?_
    refine va_getN (D := D) (ci := 3) (C := RX3) (T := TX3) (N := 3) hx hb hts hiX3 hown hKv hP 1 rfl rfl 2 (by decide) lk148 (fun _ h9 => h9) rfl dX5_setting_28 ?_
    refine lv_iload_n hx hb dX5_setting_31 rfl (lv_at hl 1 rfl) ?_
    refine vp_callSi (va_Run.run (va_runV (As := [.int (nI 1)]) (rest := []) ⟨hx, hb, hml, hown, hts⟩ (kX2_at_in l D ca g1 g2 4 (seF z r f j) 4 1 (by first | rfl | assumption | omega | trivial | (exfalso; omega)) (by first | rfl | assumption | omega | trivial | (exfalso; omega)) (by first | rfl | assumption | omega | trivial | (exfalso; omega))) (cwV 1 hts gX5_setting_X2_at rfl rfl rfl (by decide +kernel) ⟨kk_le rfl, kk_le rfl⟩) (pvR hK (hP.sub (ws' := [(g1, .inr (2, [.ref g2, .int (nI 4)])), (g2, .inl (ca 0, 4, .inl (seF z r f j)))]) [2, 3] rfl) (va_recv hKv hP (ci := 2) (q0 := 2) rfl rfl)) rfl rfl hl.1 rfl (lv_room (kk_le rfl)) dX5_setting_32 ⟨kk_le rfl, kk_le rfl⟩)) (fun r4 hr4 => ?_)
    have hr4 := hr4.symm
    subst hr4
    exact W.iret (v := (seF z r f j) 1) hx hb hr (fun t ht _ => ⟨_, rfl, by rfl, ht⟩) (fun _ h => nomatch h) dX5_setting_35
  · first | exact False.elim c3 | exact absurd c3 (by decide) | (exfalso; omega)
abbrev rm_kX5_setting_2 : Room := { frames := 1, cells := 0, slots := 0, locals := 21 }
set_option maxHeartbeats 4000000 in
set_option maxRecDepth 100000 in
theorem kX5_setting_2 (l : Launch) (D : va_G) (ca : Nat → ClassId) (oc os osl ohi obu ord osp onw otr ogd : Nat) (t1 l1 g1 : Nat) (g2 : Nat) (z : Nat) (r f j : Int32) : Met l yX5_setting wsX5_setting rm_kX5_setting_2 (pcR D ca [.ref oc, .int (nI 2)] [(oc, .inr (5, [.ref os, .ref osl, .ref ohi, .ref obu, .ref ord, .ref osp, .ref onw, .ref otr, .ref ogd])), (os, .inr (3, [.ref t1, .ref l1, .ref g1])), (g1, .inr (2, [.ref g2, .int (nI 4)])), (g2, .inl (ca 0, 4, .inl (seF z r f j)))]) (vp_Si (fun zr : Int32 => zr = f)) 0 0 (fun _ => False) := by
  refine Met.ofW (cc := cX5_setting) (maxL := 2) (ret := (some .int)) (by decide) rfl ?_
  intro p e s m args below meth c s₁ B hml hv
  obtain ⟨rfl, hP, hK⟩ := hv
  have hx := B.exec
  have hb := B.bytes
  have hr := B.returns
  have hts := atoms_spec (ws := wsX5_setting) B.pre
  have hown : s.vm.findClass RX5 = some m.cls := findClass_of_methodNamed B.named
  have hlocks := B.notSynchronized
  have hKv := hK.1
  have hl := lv_entry ([.ref oc, .int (nI 2)]) (n := 2) (kk_le rfl)
  rw [lg_entry_eq]
  generalize (lg_sl ([.ref oc, .int (nI 2)]) ++ List.replicate (2 - (lg_sl ([.ref oc, .int (nI 2)])).length) Slot.unset).toArray = ls at hl ⊢
  have hl : lv_has ls 2 [(0, .ref oc), (1, .int (nI 2))] := hl
  have hiX5 : ∀ w ∈ u_ws RX5 TX5 9, w ∈ wsX5_setting := fun w h => by first | exact List.mem_cons_of_mem _ (List.mem_append_right _ h) | exact List.mem_cons_of_mem _ (List.mem_append_left _ (List.mem_append_right _ h)) | exact List.mem_cons_of_mem _ (List.mem_append_left _ (List.mem_append_left _ (List.mem_append_right _ h))) | exact List.mem_cons_of_mem _ (List.mem_append_left _ (List.mem_append_left _ (List.mem_append_left _ (List.mem_append_right _ h)))) | (revert w h; decide +kernel)
  have lk10 : (Cond.fieldLink RX5 10 "StripeSwipes" "state" "LStripeSwipes$State;").before _ s = true := hts _ (by decide +kernel)
  have hiX3 : ∀ w ∈ u_ws RX3 TX3 3, w ∈ wsX5_setting := fun w h => by first | exact List.mem_cons_of_mem _ (List.mem_append_right _ h) | exact List.mem_cons_of_mem _ (List.mem_append_left _ (List.mem_append_right _ h)) | exact List.mem_cons_of_mem _ (List.mem_append_left _ (List.mem_append_left _ (List.mem_append_right _ h))) | exact List.mem_cons_of_mem _ (List.mem_append_left _ (List.mem_append_left _ (List.mem_append_left _ (List.mem_append_right _ h)))) | (revert w h; decide +kernel)
  have lk148 : (Cond.fieldLinkNest "StripeSwipes" 148 "StripeSwipes$State" "settings" "LStripeSwipes$Row;" "StripeSwipes").before ([.ref oc, .int (nI 2)] : List Value).toArray s = true := va_Nw.use rfl hK.2.f148
  refine lv_aload_n hx hb dX5_setting_0 rfl (lv_at hl 0 rfl) ?_
  refine va_get (D := D) (ci := 5) (C := RX5) (T := TX5) (N := 9) hx hb hts hiX5 hown hKv hP 0 rfl rfl 0 (by decide) lk10 (fun _ h9 => h9) rfl dX5_setting_1 ?_
  refine va_getN (D := D) (ci := 3) (C := RX3) (T := TX3) (N := 3) hx hb hts hiX3 hown hKv hP 1 rfl rfl 2 (by decide) lk148 (fun _ h9 => h9) rfl dX5_setting_4 ?_
  refine lv_iload_n hx hb dX5_setting_7 rfl (lv_at hl 1 rfl) ?_
  refine vp_callSi (va_Run.run (va_runV (As := [.int (nI 2)]) (rest := []) ⟨hx, hb, hml, hown, hts⟩ (kX2_has l D ca g1 g2 4 (seF z r f j) 4 (nI 2) (by first | rfl | assumption | omega | trivial | (exfalso; omega)) (by first | rfl | assumption | omega | trivial | (exfalso; omega))) (cwV 1 hts gX5_setting_X2_has rfl rfl rfl (by decide +kernel) ⟨kk_le rfl, kk_le rfl⟩) (pvR hK (hP.sub (ws' := [(g1, .inr (2, [.ref g2, .int (nI 4)])), (g2, .inl (ca 0, 4, .inl (seF z r f j)))]) [2, 3] rfl) (va_recv hKv hP (ci := 2) (q0 := 2) rfl rfl)) rfl rfl hl.1 rfl (lv_room (kk_le rfl)) dX5_setting_8 ⟨kk_le rfl, kk_le rfl⟩)) (fun r1 hr1 => ?_)
  subst hr1
  have e2 : (bI (hasF 4 (nI 2)) : Int32) = bI true := by decide
  rw [e2]
  refine bi_if_ne (tgt := 24) hx hb dX5_setting_11 (by decide) (fun c3 => ?_) (fun c3 => ?_)
  · refine lv_aload_n hx hb dX5_setting_24 rfl (lv_at hl 0 rfl) ?_
    refine va_get (D := D) (ci := 5) (C := RX5) (T := TX5) (N := 9) hx hb hts hiX5 hown hKv hP 0 rfl rfl 0 (by decide) lk10 (fun _ h9 => h9) rfl dX5_setting_25 ?_
    refine va_getN (D := D) (ci := 3) (C := RX3) (T := TX3) (N := 3) hx hb hts hiX3 hown hKv hP 1 rfl rfl 2 (by decide) lk148 (fun _ h9 => h9) rfl dX5_setting_28 ?_
    refine lv_iload_n hx hb dX5_setting_31 rfl (lv_at hl 1 rfl) ?_
    refine vp_callSi (va_Run.run (va_runV (As := [.int (nI 2)]) (rest := []) ⟨hx, hb, hml, hown, hts⟩ (kX2_at_in l D ca g1 g2 4 (seF z r f j) 4 2 (by first | rfl | assumption | omega | trivial | (exfalso; omega)) (by first | rfl | assumption | omega | trivial | (exfalso; omega)) (by first | rfl | assumption | omega | trivial | (exfalso; omega))) (cwV 1 hts gX5_setting_X2_at rfl rfl rfl (by decide +kernel) ⟨kk_le rfl, kk_le rfl⟩) (pvR hK (hP.sub (ws' := [(g1, .inr (2, [.ref g2, .int (nI 4)])), (g2, .inl (ca 0, 4, .inl (seF z r f j)))]) [2, 3] rfl) (va_recv hKv hP (ci := 2) (q0 := 2) rfl rfl)) rfl rfl hl.1 rfl (lv_room (kk_le rfl)) dX5_setting_32 ⟨kk_le rfl, kk_le rfl⟩)) (fun r4 hr4 => ?_)
    have hr4 := hr4.symm
    subst hr4
    exact W.iret (v := (seF z r f j) 2) hx hb hr (fun t ht _ => ⟨_, rfl, by rfl, ht⟩) (fun _ h => nomatch h) dX5_setting_35
  · first | exact False.elim c3 | exact absurd c3 (by decide) | (exfalso; omega)
abbrev rm_kX5_setting_3 : Room := { frames := 1, cells := 0, slots := 0, locals := 21 }
set_option maxHeartbeats 4000000 in
set_option maxRecDepth 100000 in
theorem kX5_setting_3 (l : Launch) (D : va_G) (ca : Nat → ClassId) (oc os osl ohi obu ord osp onw otr ogd : Nat) (t1 l1 g1 : Nat) (g2 : Nat) (z : Nat) (r f j : Int32) : Met l yX5_setting wsX5_setting rm_kX5_setting_3 (pcR D ca [.ref oc, .int (nI 3)] [(oc, .inr (5, [.ref os, .ref osl, .ref ohi, .ref obu, .ref ord, .ref osp, .ref onw, .ref otr, .ref ogd])), (os, .inr (3, [.ref t1, .ref l1, .ref g1])), (g1, .inr (2, [.ref g2, .int (nI 4)])), (g2, .inl (ca 0, 4, .inl (seF z r f j)))]) (vp_Si (fun zr : Int32 => zr = j)) 0 0 (fun _ => False) := by
  refine Met.ofW (cc := cX5_setting) (maxL := 2) (ret := (some .int)) (by decide) rfl ?_
  intro p e s m args below meth c s₁ B hml hv
  obtain ⟨rfl, hP, hK⟩ := hv
  have hx := B.exec
  have hb := B.bytes
  have hr := B.returns
  have hts := atoms_spec (ws := wsX5_setting) B.pre
  have hown : s.vm.findClass RX5 = some m.cls := findClass_of_methodNamed B.named
  have hlocks := B.notSynchronized
  have hKv := hK.1
  have hl := lv_entry ([.ref oc, .int (nI 3)]) (n := 2) (kk_le rfl)
  rw [lg_entry_eq]
  generalize (lg_sl ([.ref oc, .int (nI 3)]) ++ List.replicate (2 - (lg_sl ([.ref oc, .int (nI 3)])).length) Slot.unset).toArray = ls at hl ⊢
  have hl : lv_has ls 2 [(0, .ref oc), (1, .int (nI 3))] := hl
  have hiX5 : ∀ w ∈ u_ws RX5 TX5 9, w ∈ wsX5_setting := fun w h => by first | exact List.mem_cons_of_mem _ (List.mem_append_right _ h) | exact List.mem_cons_of_mem _ (List.mem_append_left _ (List.mem_append_right _ h)) | exact List.mem_cons_of_mem _ (List.mem_append_left _ (List.mem_append_left _ (List.mem_append_right _ h))) | exact List.mem_cons_of_mem _ (List.mem_append_left _ (List.mem_append_left _ (List.mem_append_left _ (List.mem_append_right _ h)))) | (revert w h; decide +kernel)
  have lk10 : (Cond.fieldLink RX5 10 "StripeSwipes" "state" "LStripeSwipes$State;").before _ s = true := hts _ (by decide +kernel)
  have hiX3 : ∀ w ∈ u_ws RX3 TX3 3, w ∈ wsX5_setting := fun w h => by first | exact List.mem_cons_of_mem _ (List.mem_append_right _ h) | exact List.mem_cons_of_mem _ (List.mem_append_left _ (List.mem_append_right _ h)) | exact List.mem_cons_of_mem _ (List.mem_append_left _ (List.mem_append_left _ (List.mem_append_right _ h))) | exact List.mem_cons_of_mem _ (List.mem_append_left _ (List.mem_append_left _ (List.mem_append_left _ (List.mem_append_right _ h)))) | (revert w h; decide +kernel)
  have lk148 : (Cond.fieldLinkNest "StripeSwipes" 148 "StripeSwipes$State" "settings" "LStripeSwipes$Row;" "StripeSwipes").before ([.ref oc, .int (nI 3)] : List Value).toArray s = true := va_Nw.use rfl hK.2.f148
  refine lv_aload_n hx hb dX5_setting_0 rfl (lv_at hl 0 rfl) ?_
  refine va_get (D := D) (ci := 5) (C := RX5) (T := TX5) (N := 9) hx hb hts hiX5 hown hKv hP 0 rfl rfl 0 (by decide) lk10 (fun _ h9 => h9) rfl dX5_setting_1 ?_
  refine va_getN (D := D) (ci := 3) (C := RX3) (T := TX3) (N := 3) hx hb hts hiX3 hown hKv hP 1 rfl rfl 2 (by decide) lk148 (fun _ h9 => h9) rfl dX5_setting_4 ?_
  refine lv_iload_n hx hb dX5_setting_7 rfl (lv_at hl 1 rfl) ?_
  refine vp_callSi (va_Run.run (va_runV (As := [.int (nI 3)]) (rest := []) ⟨hx, hb, hml, hown, hts⟩ (kX2_has l D ca g1 g2 4 (seF z r f j) 4 (nI 3) (by first | rfl | assumption | omega | trivial | (exfalso; omega)) (by first | rfl | assumption | omega | trivial | (exfalso; omega))) (cwV 1 hts gX5_setting_X2_has rfl rfl rfl (by decide +kernel) ⟨kk_le rfl, kk_le rfl⟩) (pvR hK (hP.sub (ws' := [(g1, .inr (2, [.ref g2, .int (nI 4)])), (g2, .inl (ca 0, 4, .inl (seF z r f j)))]) [2, 3] rfl) (va_recv hKv hP (ci := 2) (q0 := 2) rfl rfl)) rfl rfl hl.1 rfl (lv_room (kk_le rfl)) dX5_setting_8 ⟨kk_le rfl, kk_le rfl⟩)) (fun r1 hr1 => ?_)
  subst hr1
  have e2 : (bI (hasF 4 (nI 3)) : Int32) = bI true := by decide
  rw [e2]
  refine bi_if_ne (tgt := 24) hx hb dX5_setting_11 (by decide) (fun c3 => ?_) (fun c3 => ?_)
  · refine lv_aload_n hx hb dX5_setting_24 rfl (lv_at hl 0 rfl) ?_
    refine va_get (D := D) (ci := 5) (C := RX5) (T := TX5) (N := 9) hx hb hts hiX5 hown hKv hP 0 rfl rfl 0 (by decide) lk10 (fun _ h9 => h9) rfl dX5_setting_25 ?_
    refine va_getN (D := D) (ci := 3) (C := RX3) (T := TX3) (N := 3) hx hb hts hiX3 hown hKv hP 1 rfl rfl 2 (by decide) lk148 (fun _ h9 => h9) rfl dX5_setting_28 ?_
    refine lv_iload_n hx hb dX5_setting_31 rfl (lv_at hl 1 rfl) ?_
    refine vp_callSi (va_Run.run (va_runV (As := [.int (nI 3)]) (rest := []) ⟨hx, hb, hml, hown, hts⟩ (kX2_at_in l D ca g1 g2 4 (seF z r f j) 4 3 (by first | rfl | assumption | omega | trivial | (exfalso; omega)) (by first | rfl | assumption | omega | trivial | (exfalso; omega)) (by first | rfl | assumption | omega | trivial | (exfalso; omega))) (cwV 1 hts gX5_setting_X2_at rfl rfl rfl (by decide +kernel) ⟨kk_le rfl, kk_le rfl⟩) (pvR hK (hP.sub (ws' := [(g1, .inr (2, [.ref g2, .int (nI 4)])), (g2, .inl (ca 0, 4, .inl (seF z r f j)))]) [2, 3] rfl) (va_recv hKv hP (ci := 2) (q0 := 2) rfl rfl)) rfl rfl hl.1 rfl (lv_room (kk_le rfl)) dX5_setting_32 ⟨kk_le rfl, kk_le rfl⟩)) (fun r4 hr4 => ?_)
    have hr4 := hr4.symm
    subst hr4
    exact W.iret (v := (seF z r f j) 3) hx hb hr (fun t ht _ => ⟨_, rfl, by rfl, ht⟩) (fun _ h => nomatch h) dX5_setting_35
  · first | exact False.elim c3 | exact absurd c3 (by decide) | (exfalso; omega)
abbrev rm_kX5_isRight_ok : Room := { frames := 5, cells := 0, slots := 0, locals := 117 }
set_option maxHeartbeats 4000000 in
set_option maxRecDepth 100000 in
theorem kX5_isRight_ok (l : Launch) (D : va_G) (ca : Nat → ClassId) (sz : Nat) (oc os osl ohi obu ord osp onw otr ogd : Nat) (t1 l1 g1 : Nat) (t2 : Nat) (l2 : Nat) (g2 : Nat) (z : Nat) (r f j : Int32) (nt nl : Nat) (gl gt : Nat → Int32) (b1 b2 e1 e2 : Nat) (rs sa ck : Int32) (fi fe : Nat → Int32) (bn en : Nat) (hnt : nt ≤ 200) (hnl : nl ≤ 20) (hz : z ≤ 30) (hbn : bn ≤ 200) (hen : en ≤ 40) : Met l yX5_isRight wsX5_isRight rm_kX5_isRight_ok (pcM D ca [.ref oc] [(oc, .inr (5, [.ref os, .ref osl, .ref ohi, .ref obu, .ref ord, .ref osp, .ref onw, .ref otr, .ref ogd])), (os, .inr (3, [.ref t1, .ref l1, .ref g1])), (t1, .inr (2, [.ref t2, .int (nI nt)])), (t2, .inl (ca 0, 200, .inl gt)), (l1, .inr (2, [.ref l2, .int (nI nl)])), (l2, .inl (ca 0, 20, .inl gl)), (g1, .inr (2, [.ref g2, .int (nI 4)])), (g2, .inl (ca 0, 4, .inl (seF z r f j))), (ord, .inr (1, [.ref b1, .ref e1, .int rs, .int sa, .int ck])), (b1, .inr (2, [.ref b2, .int (nI bn)])), (b2, .inl (ca 0, 200, .inl fi)), (e1, .inr (2, [.ref e2, .int (nI en)])), (e2, .inl (ca 0, 40, .inl fe))] sz) (va_Qi (fun (zr : Int32) (u : Int32 × Int32 × Int32 × Nat × Nat × (Nat → Int32) × (Nat → Int32)) => zr = rightT r f (lst gt nt) (lst gl nl) ∧ u.2.2.2.1 ≤ 200 ∧ u.2.2.2.2.1 ≤ 40) (qB D (va_A [(oc, .inr (5, [.ref os, .ref osl, .ref ohi, .ref obu, .ref ord, .ref osp, .ref onw, .ref otr, .ref ogd])), (os, .inr (3, [.ref t1, .ref l1, .ref g1])), (t1, .inr (2, [.ref t2, .int (nI nt)])), (t2, .inl (ca 0, 200, .inl gt)), (l1, .inr (2, [.ref l2, .int (nI nl)])), (l2, .inl (ca 0, 20, .inl gl)), (g1, .inr (2, [.ref g2, .int (nI 4)])), (g2, .inl (ca 0, 4, .inl (seF z r f j))), (ord, .inr (1, [.ref b1, .ref e1, .int rs, .int sa, .int ck])), (b1, .inr (2, [.ref b2, .int (nI bn)])), (b2, .inl (ca 0, 200, .inl fi)), (e1, .inr (2, [.ref e2, .int (nI en)])), (e2, .inl (ca 0, 40, .inl fe))] sz) (fun u : Int32 × Int32 × Int32 × Nat × Nat × (Nat → Int32) × (Nat → Int32) => [(oc, .inr (5, [.ref os, .ref osl, .ref ohi, .ref obu, .ref ord, .ref osp, .ref onw, .ref otr, .ref ogd])), (os, .inr (3, [.ref t1, .ref l1, .ref g1])), (t1, .inr (2, [.ref t2, .int (nI nt)])), (t2, .inl (ca 0, 200, .inl gt)), (l1, .inr (2, [.ref l2, .int (nI nl)])), (l2, .inl (ca 0, 20, .inl gl)), (g1, .inr (2, [.ref g2, .int (nI 4)])), (g2, .inl (ca 0, 4, .inl (seF z r f j))), (ord, .inr (1, [.ref b1, .ref e1, .int u.1, .int u.2.1, .int u.2.2.1])), (b1, .inr (2, [.ref b2, .int (nI u.2.2.2.1)])), (b2, .inl (ca 0, 200, .inl u.2.2.2.2.2.1)), (e1, .inr (2, [.ref e2, .int (nI u.2.2.2.2.1)])), (e2, .inl (ca 0, 40, .inl u.2.2.2.2.2.2))])) (va_A [(oc, .inr (5, [.ref os, .ref osl, .ref ohi, .ref obu, .ref ord, .ref osp, .ref onw, .ref otr, .ref ogd])), (os, .inr (3, [.ref t1, .ref l1, .ref g1])), (t1, .inr (2, [.ref t2, .int (nI nt)])), (t2, .inl (ca 0, 200, .inl gt)), (l1, .inr (2, [.ref l2, .int (nI nl)])), (l2, .inl (ca 0, 20, .inl gl)), (g1, .inr (2, [.ref g2, .int (nI 4)])), (g2, .inl (ca 0, 4, .inl (seF z r f j))), (ord, .inr (1, [.ref b1, .ref e1, .int rs, .int sa, .int ck])), (b1, .inr (2, [.ref b2, .int (nI bn)])), (b2, .inl (ca 0, 200, .inl fi)), (e1, .inr (2, [.ref e2, .int (nI en)])), (e2, .inl (ca 0, 40, .inl fe))] sz)) 0 0 (va_A [(oc, .inr (5, [.ref os, .ref osl, .ref ohi, .ref obu, .ref ord, .ref osp, .ref onw, .ref otr, .ref ogd])), (os, .inr (3, [.ref t1, .ref l1, .ref g1])), (t1, .inr (2, [.ref t2, .int (nI nt)])), (t2, .inl (ca 0, 200, .inl gt)), (l1, .inr (2, [.ref l2, .int (nI nl)])), (l2, .inl (ca 0, 20, .inl gl)), (g1, .inr (2, [.ref g2, .int (nI 4)])), (g2, .inl (ca 0, 4, .inl (seF z r f j))), (ord, .inr (1, [.ref b1, .ref e1, .int rs, .int sa, .int ck])), (b1, .inr (2, [.ref b2, .int (nI bn)])), (b2, .inl (ca 0, 200, .inl fi)), (e1, .inr (2, [.ref e2, .int (nI en)])), (e2, .inl (ca 0, 40, .inl fe))] sz) := by
  refine Met.ofW (cc := cX5_isRight) (maxL := 1) (ret := (some .int)) (by decide) rfl ?_
  intro p e s m args below meth c s₁ B hml hv
  obtain ⟨rfl, hsz, hP, hK, hD0⟩ := hv
  have hx := B.exec
  have hb := B.bytes
  have hr := B.returns
  have hts := atoms_spec (ws := wsX5_isRight) B.pre
  have hown : s.vm.findClass RX5 = some m.cls := findClass_of_methodNamed B.named
  have hlocks := B.notSynchronized
  subst hsz
  have hD := hD0.self (sz := s.heap.size)
  generalize hAe : va_A [(oc, .inr (5, [.ref os, .ref osl, .ref ohi, .ref obu, .ref ord, .ref osp, .ref onw, .ref otr, .ref ogd])), (os, .inr (3, [.ref t1, .ref l1, .ref g1])), (t1, .inr (2, [.ref t2, .int (nI nt)])), (t2, .inl (ca 0, 200, .inl gt)), (l1, .inr (2, [.ref l2, .int (nI nl)])), (l2, .inl (ca 0, 20, .inl gl)), (g1, .inr (2, [.ref g2, .int (nI 4)])), (g2, .inl (ca 0, 4, .inl (seF z r f j))), (ord, .inr (1, [.ref b1, .ref e1, .int rs, .int sa, .int ck])), (b1, .inr (2, [.ref b2, .int (nI bn)])), (b2, .inl (ca 0, 200, .inl fi)), (e1, .inr (2, [.ref e2, .int (nI en)])), (e2, .inl (ca 0, 40, .inl fe))] s.heap.size = A at hD ⊢
  have hA : ∀ q : Nat, s.heap.size ≤ q → A q := fun q h => by rw [← hAe]; exact Or.inr h
  have hS : va_S A s.heap s.heap [] := va_S.rf
  have hP : va_P D vwCl [(oc, .inr (5, [.ref os, .ref osl, .ref ohi, .ref obu, .ref ord, .ref osp, .ref onw, .ref otr, .ref ogd])), (os, .inr (3, [.ref t1, .ref l1, .ref g1])), (t1, .inr (2, [.ref t2, .int (nI nt)])), (t2, .inl (ca 0, 200, .inl gt)), (l1, .inr (2, [.ref l2, .int (nI nl)])), (l2, .inl (ca 0, 20, .inl gl)), (g1, .inr (2, [.ref g2, .int (nI 4)])), (g2, .inl (ca 0, 4, .inl (seF z r f j))), (ord, .inr (1, [.ref b1, .ref e1, .int rs, .int sa, .int ck])), (b1, .inr (2, [.ref b2, .int (nI bn)])), (b2, .inl (ca 0, 200, .inl fi)), (e1, .inr (2, [.ref e2, .int (nI en)])), (e2, .inl (ca 0, 40, .inl fe))] s.heap := hP
  have hKv := hK.1
  have hl := lv_entry ([.ref oc]) (n := 1) (kk_le rfl)
  rw [lg_entry_eq]
  generalize (lg_sl ([.ref oc]) ++ List.replicate (1 - (lg_sl ([.ref oc])).length) Slot.unset).toArray = ls at hl ⊢
  have hl : lv_has ls 1 [(0, .ref oc)] := hl
  refine lv_aload_n hx hb dX5_isRight_0 rfl (lv_at hl 0 rfl) ?_
  refine lv_aload_n hx hb dX5_isRight_1 rfl (lv_at hl 0 rfl) ?_
  refine lv_iconst (v := nI 1) hx hb dX5_isRight_2 (by decide) ?_
  refine vp_callSi (va_Run.run (va_runV (As := [.int (nI 1)]) (rest := [.ref oc]) ⟨hx, hb, hml, hown, hts⟩ (kX5_value_1 l D ca oc os osl ohi obu ord osp onw otr ogd t1 l1 g1 g2 z r f j) (cwV 1 hts gX5_isRight_X5_value rfl rfl rfl (by decide +kernel) ⟨kk_le rfl, kk_le rfl⟩) (pvR hK (hP.sub (ws' := [(oc, .inr (5, [.ref os, .ref osl, .ref ohi, .ref obu, .ref ord, .ref osp, .ref onw, .ref otr, .ref ogd])), (os, .inr (3, [.ref t1, .ref l1, .ref g1])), (g1, .inr (2, [.ref g2, .int (nI 4)])), (g2, .inl (ca 0, 4, .inl (seF z r f j)))]) [0, 1, 6, 7] rfl) (va_recv hKv hP (ci := 5) (q0 := 0) rfl rfl)) rfl rfl hl.1 rfl (lv_room (kk_le rfl)) dX5_isRight_3 ⟨kk_le rfl, kk_le rfl⟩)) (fun r1 hr1 => ?_)
  have hr1 := hr1.symm
  subst hr1
  have hPc := hP
  have hDc := hD
  have hFc := va_free (wc := [(oc, .inr (5, [.ref os, .ref osl, .ref ohi, .ref obu, .ref ord, .ref osp, .ref onw, .ref otr, .ref ogd])), (os, .inr (3, [.ref t1, .ref l1, .ref g1])), (t1, .inr (2, [.ref t2, .int (nI nt)])), (t2, .inl (ca 0, 200, .inl gt)), (l1, .inr (2, [.ref l2, .int (nI nl)])), (l2, .inl (ca 0, 20, .inl gl)), (g1, .inr (2, [.ref g2, .int (nI 4)])), (g2, .inl (ca 0, 4, .inl (seF z r f j))), (ord, .inr (1, [.ref b1, .ref e1, .int rs, .int sa, .int ck])), (b1, .inr (2, [.ref b2, .int (nI bn)])), (b2, .inl (ca 0, 200, .inl fi)), (e1, .inr (2, [.ref e2, .int (nI en)])), (e2, .inl (ca 0, 40, .inl fe))]) hD hS hA [0, 1, 2, 3, 4, 5, 6, 7, 8, 9, 10, 11, 12] rfl
  refine va_calli (va_runV (As := [.int r]) (rest := []) ⟨hx, hb, hml, hown, hts⟩ (kX5_rightWith l D ca s.heap.size oc os osl ohi obu ord osp onw otr ogd t1 l1 g1 t2 l2 g2 z r f j nt nl gl gt b1 b2 e1 e2 rs sa ck fi fe bn en r (by first | rfl | assumption | omega | trivial | (exfalso; omega)) (by first | rfl | assumption | omega | trivial | (exfalso; omega)) (by first | rfl | assumption | omega | trivial | (exfalso; omega)) (by first | rfl | assumption | omega | trivial | (exfalso; omega)) (by first | rfl | assumption | omega | trivial | (exfalso; omega))) (cwV 1 hts gX5_isRight_X5_rightWith rfl rfl rfl (by decide +kernel) ⟨kk_le rfl, kk_le rfl⟩) (pvM hK hPc (my_D_true hDc) (va_recv hKv hP (ci := 5) (q0 := 0) rfl rfl)) rfl rfl hl.1 rfl (lv_room (kk_le rfl)) dX5_isRight_6 ⟨kk_le rfl, kk_le rfl⟩) hS (fun q _ h => hFc q h) hFc (fun r2 u t H1 locs ht hvm hwv hBv hz1 hk1 hS => ?_)
  obtain ⟨hP1, hD1⟩ := hBv
  rw [ht] at hP1
  obtain ⟨u2_0, u2_1, u2_2, u2_3, u2_4, u2_5, u2_6⟩ := u
  have hP1 : va_P D vwCl [(oc, .inr (5, [.ref os, .ref osl, .ref ohi, .ref obu, .ref ord, .ref osp, .ref onw, .ref otr, .ref ogd])), (os, .inr (3, [.ref t1, .ref l1, .ref g1])), (t1, .inr (2, [.ref t2, .int (nI nt)])), (t2, .inl (ca 0, 200, .inl gt)), (l1, .inr (2, [.ref l2, .int (nI nl)])), (l2, .inl (ca 0, 20, .inl gl)), (g1, .inr (2, [.ref g2, .int (nI 4)])), (g2, .inl (ca 0, 4, .inl (seF z r f j))), (ord, .inr (1, [.ref b1, .ref e1, .int u2_0, .int u2_1, .int u2_2])), (b1, .inr (2, [.ref b2, .int (nI u2_3)])), (b2, .inl (ca 0, 200, .inl u2_5)), (e1, .inr (2, [.ref e2, .int (nI u2_4)])), (e2, .inl (ca 0, 40, .inl u2_6))] H1 := hP1
  have hD1 : va_D _ [(oc, .inr (5, [.ref os, .ref osl, .ref ohi, .ref obu, .ref ord, .ref osp, .ref onw, .ref otr, .ref ogd])), (os, .inr (3, [.ref t1, .ref l1, .ref g1])), (t1, .inr (2, [.ref t2, .int (nI nt)])), (t2, .inl (ca 0, 200, .inl gt)), (l1, .inr (2, [.ref l2, .int (nI nl)])), (l2, .inl (ca 0, 20, .inl gl)), (g1, .inr (2, [.ref g2, .int (nI 4)])), (g2, .inl (ca 0, 4, .inl (seF z r f j))), (ord, .inr (1, [.ref b1, .ref e1, .int u2_0, .int u2_1, .int u2_2])), (b1, .inr (2, [.ref b2, .int (nI u2_3)])), (b2, .inl (ca 0, 200, .inl u2_5)), (e1, .inr (2, [.ref e2, .int (nI u2_4)])), (e2, .inl (ca 0, 40, .inl u2_6))] := hD1
  obtain ⟨hr2, hw2⟩ := hwv
  subst hr2
  have hP := hP1
  have hD := hD1.weaken (fun _ _ _ h => hFc _ h)
  generalize H1 = H at hP hS ⊢
  have hP : va_P D vwCl [(oc, .inr (5, [.ref os, .ref osl, .ref ohi, .ref obu, .ref ord, .ref osp, .ref onw, .ref otr, .ref ogd])), (os, .inr (3, [.ref t1, .ref l1, .ref g1])), (t1, .inr (2, [.ref t2, .int (nI nt)])), (t2, .inl (ca 0, 200, .inl gt)), (l1, .inr (2, [.ref l2, .int (nI nl)])), (l2, .inl (ca 0, 20, .inl gl)), (g1, .inr (2, [.ref g2, .int (nI 4)])), (g2, .inl (ca 0, 4, .inl (seF z r f j))), (ord, .inr (1, [.ref b1, .ref e1, .int u2_0, .int u2_1, .int u2_2])), (b1, .inr (2, [.ref b2, .int (nI u2_3)])), (b2, .inl (ca 0, 200, .inl u2_5)), (e1, .inr (2, [.ref e2, .int (nI u2_4)])), (e2, .inl (ca 0, 40, .inl u2_6))] H := hP
  have hD : va_D A [(oc, .inr (5, [.ref os, .ref osl, .ref ohi, .ref obu, .ref ord, .ref osp, .ref onw, .ref otr, .ref ogd])), (os, .inr (3, [.ref t1, .ref l1, .ref g1])), (t1, .inr (2, [.ref t2, .int (nI nt)])), (t2, .inl (ca 0, 200, .inl gt)), (l1, .inr (2, [.ref l2, .int (nI nl)])), (l2, .inl (ca 0, 20, .inl gl)), (g1, .inr (2, [.ref g2, .int (nI 4)])), (g2, .inl (ca 0, 4, .inl (seF z r f j))), (ord, .inr (1, [.ref b1, .ref e1, .int u2_0, .int u2_1, .int u2_2])), (b1, .inr (2, [.ref b2, .int (nI u2_3)])), (b2, .inl (ca 0, 200, .inl u2_5)), (e1, .inr (2, [.ref e2, .int (nI u2_4)])), (e2, .inl (ca 0, 40, .inl u2_6))] := hD
  exact W.iret (v := rightT r f (lst gt nt) (lst gl nl)) hx hb hr (fun t ht hW => ⟨⟨_, (u2_0, u2_1, u2_2, u2_3, u2_4, u2_5, u2_6), rfl, ⟨by rfl, by assumption⟩, by rw [ht]; exact hP, hD⟩, hS.F ht⟩) hS.2.2 dX5_isRight_9
abbrev rm_kX5_clearBuffer_ok : Room := { frames := 1, cells := 0, slots := 0, locals := 20 }
set_option maxHeartbeats 4000000 in
set_option maxRecDepth 100000 in
theorem kX5_clearBuffer_ok (l : Launch) (D : va_G) (ca : Nat → ClassId) (sz : Nat) (oc os osl ohi obu ord osp onw otr ogd : Nat) (bua : Nat) (fb : Nat → Int32) (ln : Nat) (hln : ln ≤ 40) : Met l yX5_clearBuffer wsX5_clearBuffer rm_kX5_clearBuffer_ok (pcM D ca [.ref oc] [(oc, .inr (5, [.ref os, .ref osl, .ref ohi, .ref obu, .ref ord, .ref osp, .ref onw, .ref otr, .ref ogd])), (obu, .inr (2, [.ref bua, .int (nI ln)])), (bua, .inl (ca 0, 40, .inl fb))] sz) (va_Qi (fun (zr : Int32) (u : Unit) => zr = nI ln ∧ True) (qB D (va_A [(oc, .inr (5, [.ref os, .ref osl, .ref ohi, .ref obu, .ref ord, .ref osp, .ref onw, .ref otr, .ref ogd])), (obu, .inr (2, [.ref bua, .int (nI ln)])), (bua, .inl (ca 0, 40, .inl fb))] sz) (fun u : Unit => [(oc, .inr (5, [.ref os, .ref osl, .ref ohi, .ref obu, .ref ord, .ref osp, .ref onw, .ref otr, .ref ogd])), (obu, .inr (2, [.ref bua, .int (nI 0)])), (bua, .inl (ca 0, 40, .inl fb))])) (va_A [(oc, .inr (5, [.ref os, .ref osl, .ref ohi, .ref obu, .ref ord, .ref osp, .ref onw, .ref otr, .ref ogd])), (obu, .inr (2, [.ref bua, .int (nI ln)])), (bua, .inl (ca 0, 40, .inl fb))] sz)) 0 0 (va_A [(oc, .inr (5, [.ref os, .ref osl, .ref ohi, .ref obu, .ref ord, .ref osp, .ref onw, .ref otr, .ref ogd])), (obu, .inr (2, [.ref bua, .int (nI ln)])), (bua, .inl (ca 0, 40, .inl fb))] sz) := by
  refine Met.ofW (cc := cX5_clearBuffer) (maxL := 2) (ret := (some .int)) (by decide) rfl ?_
  intro p e s m args below meth c s₁ B hml hv
  obtain ⟨rfl, hsz, hP, hK, hD0⟩ := hv
  have hx := B.exec
  have hb := B.bytes
  have hr := B.returns
  have hts := atoms_spec (ws := wsX5_clearBuffer) B.pre
  have hown : s.vm.findClass RX5 = some m.cls := findClass_of_methodNamed B.named
  have hlocks := B.notSynchronized
  subst hsz
  have hD := hD0.self (sz := s.heap.size)
  generalize hAe : va_A [(oc, .inr (5, [.ref os, .ref osl, .ref ohi, .ref obu, .ref ord, .ref osp, .ref onw, .ref otr, .ref ogd])), (obu, .inr (2, [.ref bua, .int (nI ln)])), (bua, .inl (ca 0, 40, .inl fb))] s.heap.size = A at hD ⊢
  have hA : ∀ q : Nat, s.heap.size ≤ q → A q := fun q h => by rw [← hAe]; exact Or.inr h
  have hS : va_S A s.heap s.heap [] := va_S.rf
  have hP : va_P D vwCl [(oc, .inr (5, [.ref os, .ref osl, .ref ohi, .ref obu, .ref ord, .ref osp, .ref onw, .ref otr, .ref ogd])), (obu, .inr (2, [.ref bua, .int (nI ln)])), (bua, .inl (ca 0, 40, .inl fb))] s.heap := hP
  have hKv := hK.1
  have hl := lv_entry ([.ref oc]) (n := 2) (kk_le rfl)
  rw [lg_entry_eq]
  generalize (lg_sl ([.ref oc]) ++ List.replicate (2 - (lg_sl ([.ref oc])).length) Slot.unset).toArray = ls at hl ⊢
  have hl : lv_has ls 2 [(0, .ref oc)] := hl
  have hiX5 : ∀ w ∈ u_ws RX5 TX5 9, w ∈ wsX5_clearBuffer := fun w h => by first | exact List.mem_cons_of_mem _ (List.mem_append_right _ h) | exact List.mem_cons_of_mem _ (List.mem_append_left _ (List.mem_append_right _ h)) | exact List.mem_cons_of_mem _ (List.mem_append_left _ (List.mem_append_left _ (List.mem_append_right _ h))) | exact List.mem_cons_of_mem _ (List.mem_append_left _ (List.mem_append_left _ (List.mem_append_left _ (List.mem_append_right _ h)))) | (revert w h; decide +kernel)
  have lk32 : (Cond.fieldLink RX5 32 "StripeSwipes" "buffer" "LStripeSwipes$Row;").before _ s = true := hts _ (by decide +kernel)
  refine lv_aload_n hx hb dX5_clearBuffer_0 rfl (lv_at hl 0 rfl) ?_
  refine va_get (D := D) (ci := 5) (C := RX5) (T := TX5) (N := 9) hx hb hts hiX5 hown hKv hP 0 rfl rfl 3 (by decide) lk32 (fun _ h9 => h9) rfl dX5_clearBuffer_1 ?_
  refine vp_callSi (va_Run.run (va_runV (As := []) (rest := []) ⟨hx, hb, hml, hown, hts⟩ (kX2_size l D ca obu bua 40 fb ln (by first | rfl | assumption | omega | trivial | (exfalso; omega)) (by first | rfl | assumption | omega | trivial | (exfalso; omega))) (cwV 0 hts gX5_clearBuffer_X2_size rfl rfl rfl (by decide +kernel) ⟨kk_le rfl, kk_le rfl⟩) (pvR hK (hP.sub (ws' := [(obu, .inr (2, [.ref bua, .int (nI ln)])), (bua, .inl (ca 0, 40, .inl fb))]) [1, 2] rfl) (va_recv hKv hP (ci := 2) (q0 := 1) rfl rfl)) rfl rfl hl.1 rfl (lv_room (kk_le rfl)) dX5_clearBuffer_4 ⟨kk_le rfl, kk_le rfl⟩)) (fun r1 hr1 => ?_)
  subst hr1
  refine lv_istore_n (lv' := [(1, .int (nI ln)), (0, .ref oc)]) hx hb dX5_clearBuffer_7 rfl hl (by decide) rfl (fun ls hl => ?_)
  refine lv_aload_n hx hb dX5_clearBuffer_8 rfl (lv_at hl 1 rfl) ?_
  refine va_get (D := D) (ci := 5) (C := RX5) (T := TX5) (N := 9) hx hb hts hiX5 hown hKv hP 0 rfl rfl 3 (by decide) lk32 (fun _ h9 => h9) rfl dX5_clearBuffer_9 ?_
  have hPc := hP.sub (ws' := [(obu, .inr (2, [.ref bua, .int (nI ln)])), (bua, .inl (ca 0, 40, .inl fb))]) [1, 2] rfl
  have hDc := hD.sub (ws' := [(obu, .inr (2, [.ref bua, .int (nI ln)])), (bua, .inl (ca 0, 40, .inl fb))]) [1, 2] (by decide) rfl
  have hFc := va_free (wc := [(obu, .inr (2, [.ref bua, .int (nI ln)])), (bua, .inl (ca 0, 40, .inl fb))]) hD hS hA [1, 2] rfl
  refine va_callv (va_runV (As := []) (rest := []) ⟨hx, hb, hml, hown, hts⟩ (kX2_empty l D ca s.heap.size obu bua 40 fb ln (by first | rfl | assumption | omega | trivial | (exfalso; omega)) (by first | rfl | assumption | omega | trivial | (exfalso; omega))) (cwV 0 hts gX5_clearBuffer_X2_empty rfl rfl rfl (by decide +kernel) ⟨kk_le rfl, kk_le rfl⟩) (pvM hK hPc (my_D_true hDc) (va_recv hKv hP (ci := 2) (q0 := 1) rfl rfl)) rfl rfl hl.1 rfl (lv_room (kk_le rfl)) dX5_clearBuffer_12 ⟨kk_le rfl, kk_le rfl⟩) hS (fun q _ h => hFc q h) hFc (fun u t H1 locs ht hvm hwv hBv hz1 hk1 hS => ?_)
  obtain ⟨hP1, hD1⟩ := hBv
  rw [ht] at hP1
  have hP1 : va_P D vwCl [(obu, .inr (2, [.ref bua, .int (nI 0)])), (bua, .inl (ca 0, 40, .inl fb))] H1 := hP1
  have hD1 : va_D _ [(obu, .inr (2, [.ref bua, .int (nI 0)])), (bua, .inl (ca 0, 40, .inl fb))] := hD1
  have hw2 := hwv
  obtain ⟨hP, hD⟩ := va_join (wr := [(oc, .inr (5, [.ref os, .ref osl, .ref ohi, .ref obu, .ref ord, .ref osp, .ref onw, .ref otr, .ref ogd]))]) (w1 := [(obu, .inr (2, [.ref bua, .int (nI 0)])), (bua, .inl (ca 0, 40, .inl fb))]) hP hD [1, 2] [0] rfl rfl (by decide) (by decide) hk1 hFc hP1 hD1
  generalize H1 = H at hP hS ⊢
  have hP := hP.sub (ws' := [(oc, .inr (5, [.ref os, .ref osl, .ref ohi, .ref obu, .ref ord, .ref osp, .ref onw, .ref otr, .ref ogd])), (obu, .inr (2, [.ref bua, .int (nI 0)])), (bua, .inl (ca 0, 40, .inl fb))]) [0, 1, 2] rfl
  have hD := hD.sub (ws' := [(oc, .inr (5, [.ref os, .ref osl, .ref ohi, .ref obu, .ref ord, .ref osp, .ref onw, .ref otr, .ref ogd])), (obu, .inr (2, [.ref bua, .int (nI 0)])), (bua, .inl (ca 0, 40, .inl fb))]) [0, 1, 2] (by decide) rfl
  refine lv_iload_n hx hb dX5_clearBuffer_15 rfl (lv_at hl 0 rfl) ?_
  exact W.iret (v := nI ln) hx hb hr (fun t ht hW => ⟨⟨_, (), rfl, ⟨by rfl, by trivial⟩, by rw [ht]; exact hP, hD⟩, hS.F ht⟩) hS.2.2 dX5_clearBuffer_16
abbrev rm_kX5_append_ok : Room := { frames := 1, cells := 0, slots := 0, locals := 21 }
set_option maxHeartbeats 4000000 in
set_option maxRecDepth 100000 in
theorem kX5_append_ok (l : Launch) (D : va_G) (ca : Nat → ClassId) (sz : Nat) (oc os osl ohi obu ord osp onw otr ogd : Nat) (bua : Nat) (fb : Nat → Int32) (ln : Nat) (v : Int32) (hln : ln < 40) (hv1 : ¬ v < nI 33) (hv2 : ¬ nI 126 < v) : Met l yX5_append wsX5_append rm_kX5_append_ok (pcM D ca [.ref oc, .int v] [(oc, .inr (5, [.ref os, .ref osl, .ref ohi, .ref obu, .ref ord, .ref osp, .ref onw, .ref otr, .ref ogd])), (obu, .inr (2, [.ref bua, .int (nI ln)])), (bua, .inl (ca 0, 40, .inl fb))] sz) (va_Qi (fun (zr : Int32) (u : Unit) => zr = nI (ln + 1) ∧ True) (qB D (va_A [(oc, .inr (5, [.ref os, .ref osl, .ref ohi, .ref obu, .ref ord, .ref osp, .ref onw, .ref otr, .ref ogd])), (obu, .inr (2, [.ref bua, .int (nI ln)])), (bua, .inl (ca 0, 40, .inl fb))] sz) (fun u : Unit => [(oc, .inr (5, [.ref os, .ref osl, .ref ohi, .ref obu, .ref ord, .ref osp, .ref onw, .ref otr, .ref ogd])), (obu, .inr (2, [.ref bua, .int (nI (ln + 1))])), (bua, .inl (ca 0, 40, .inl (upd fb ln v)))])) (va_A [(oc, .inr (5, [.ref os, .ref osl, .ref ohi, .ref obu, .ref ord, .ref osp, .ref onw, .ref otr, .ref ogd])), (obu, .inr (2, [.ref bua, .int (nI ln)])), (bua, .inl (ca 0, 40, .inl fb))] sz)) 0 0 (va_A [(oc, .inr (5, [.ref os, .ref osl, .ref ohi, .ref obu, .ref ord, .ref osp, .ref onw, .ref otr, .ref ogd])), (obu, .inr (2, [.ref bua, .int (nI ln)])), (bua, .inl (ca 0, 40, .inl fb))] sz) := by
  refine Met.ofW (cc := cX5_append) (maxL := 2) (ret := (some .int)) (by decide) rfl ?_
  intro p e s m args below meth c s₁ B hml hv
  obtain ⟨rfl, hsz, hP, hK, hD0⟩ := hv
  have hx := B.exec
  have hb := B.bytes
  have hr := B.returns
  have hts := atoms_spec (ws := wsX5_append) B.pre
  have hown : s.vm.findClass RX5 = some m.cls := findClass_of_methodNamed B.named
  have hlocks := B.notSynchronized
  subst hsz
  have hD := hD0.self (sz := s.heap.size)
  generalize hAe : va_A [(oc, .inr (5, [.ref os, .ref osl, .ref ohi, .ref obu, .ref ord, .ref osp, .ref onw, .ref otr, .ref ogd])), (obu, .inr (2, [.ref bua, .int (nI ln)])), (bua, .inl (ca 0, 40, .inl fb))] s.heap.size = A at hD ⊢
  have hA : ∀ q : Nat, s.heap.size ≤ q → A q := fun q h => by rw [← hAe]; exact Or.inr h
  have hS : va_S A s.heap s.heap [] := va_S.rf
  have hP : va_P D vwCl [(oc, .inr (5, [.ref os, .ref osl, .ref ohi, .ref obu, .ref ord, .ref osp, .ref onw, .ref otr, .ref ogd])), (obu, .inr (2, [.ref bua, .int (nI ln)])), (bua, .inl (ca 0, 40, .inl fb))] s.heap := hP
  have hKv := hK.1
  have hl := lv_entry ([.ref oc, .int v]) (n := 2) (kk_le rfl)
  rw [lg_entry_eq]
  generalize (lg_sl ([.ref oc, .int v]) ++ List.replicate (2 - (lg_sl ([.ref oc, .int v])).length) Slot.unset).toArray = ls at hl ⊢
  have hl : lv_has ls 2 [(0, .ref oc), (1, .int v)] := hl
  have hiX5 : ∀ w ∈ u_ws RX5 TX5 9, w ∈ wsX5_append := fun w h => by first | exact List.mem_cons_of_mem _ (List.mem_append_right _ h) | exact List.mem_cons_of_mem _ (List.mem_append_left _ (List.mem_append_right _ h)) | exact List.mem_cons_of_mem _ (List.mem_append_left _ (List.mem_append_left _ (List.mem_append_right _ h))) | exact List.mem_cons_of_mem _ (List.mem_append_left _ (List.mem_append_left _ (List.mem_append_left _ (List.mem_append_right _ h)))) | (revert w h; decide +kernel)
  have lk32 : (Cond.fieldLink RX5 32 "StripeSwipes" "buffer" "LStripeSwipes$Row;").before _ s = true := hts _ (by decide +kernel)
  refine lv_iload_n hx hb dX5_append_0 rfl (lv_at hl 1 rfl) ?_
  refine lv_bipush (v := nI 33) hx hb dX5_append_1 (by decide) ?_
  refine lv_icmp_lt (tgt := 12) hx hb dX5_append_3 (by decide) (fun c1 => ?_) (fun c1 => ?_)
  · exact absurd c1 hv1
  · refine lv_iload_n hx hb dX5_append_6 rfl (lv_at hl 1 rfl) ?_
    refine lv_bipush (v := nI 126) hx hb dX5_append_7 (by decide) ?_
    refine lv_icmp_le (tgt := 22) hx hb dX5_append_9 (by decide) (fun c2 => ?_) (fun c2 => ?_)
    · refine lv_aload_n hx hb dX5_append_22 rfl (lv_at hl 0 rfl) ?_
      refine va_get (D := D) (ci := 5) (C := RX5) (T := TX5) (N := 9) hx hb hts hiX5 hown hKv hP 0 rfl rfl 3 (by decide) lk32 (fun _ h9 => h9) rfl dX5_append_23 ?_
      refine vp_callSi (va_Run.run (va_runV (As := []) (rest := []) ⟨hx, hb, hml, hown, hts⟩ (kX2_size l D ca obu bua 40 fb ln (by first | rfl | assumption | omega | trivial | (exfalso; omega)) (by first | rfl | assumption | omega | trivial | (exfalso; omega))) (cwV 0 hts gX5_append_X2_size rfl rfl rfl (by decide +kernel) ⟨kk_le rfl, kk_le rfl⟩) (pvR hK (hP.sub (ws' := [(obu, .inr (2, [.ref bua, .int (nI ln)])), (bua, .inl (ca 0, 40, .inl fb))]) [1, 2] rfl) (va_recv hKv hP (ci := 2) (q0 := 1) rfl rfl)) rfl rfl hl.1 rfl (lv_room (kk_le rfl)) dX5_append_26 ⟨kk_le rfl, kk_le rfl⟩)) (fun r3 hr3 => ?_)
      subst hr3
      refine lv_bipush (v := nI 40) hx hb dX5_append_29 (by decide) ?_
      refine ni_icmp_lt (tgt := 44) (by omega) (by omega) hx hb dX5_append_31 (by decide) (fun c4 => ?_) (fun c4 => ?_)
      · refine lv_aload_n hx hb dX5_append_44 rfl (lv_at hl 0 rfl) ?_
        refine va_get (D := D) (ci := 5) (C := RX5) (T := TX5) (N := 9) hx hb hts hiX5 hown hKv hP 0 rfl rfl 3 (by decide) lk32 (fun _ h9 => h9) rfl dX5_append_45 ?_
        refine lv_iload_n hx hb dX5_append_48 rfl (lv_at hl 1 rfl) ?_
        have hPc := hP.sub (ws' := [(obu, .inr (2, [.ref bua, .int (nI ln)])), (bua, .inl (ca 0, 40, .inl fb))]) [1, 2] rfl
        have hDc := hD.sub (ws' := [(obu, .inr (2, [.ref bua, .int (nI ln)])), (bua, .inl (ca 0, 40, .inl fb))]) [1, 2] (by decide) rfl
        have hFc := va_free (wc := [(obu, .inr (2, [.ref bua, .int (nI ln)])), (bua, .inl (ca 0, 40, .inl fb))]) hD hS hA [1, 2] rfl
        refine va_calli (va_runV (As := [.int v]) (rest := []) ⟨hx, hb, hml, hown, hts⟩ (kX2_add l D ca s.heap.size obu bua 40 fb ln v (by first | rfl | assumption | omega | trivial | (exfalso; omega)) (by first | rfl | assumption | omega | trivial | (exfalso; omega))) (cwV 1 hts gX5_append_X2_add rfl rfl rfl (by decide +kernel) ⟨kk_le rfl, kk_le rfl⟩) (pvM hK hPc (my_D_true hDc) (va_recv hKv hP (ci := 2) (q0 := 1) rfl rfl)) rfl rfl hl.1 rfl (lv_room (kk_le rfl)) dX5_append_49 ⟨kk_le rfl, kk_le rfl⟩) hS (fun q _ h => hFc q h) hFc (fun r5 u t H1 locs ht hvm hwv hBv hz1 hk1 hS => ?_)
        obtain ⟨hP1, hD1⟩ := hBv
        rw [ht] at hP1
        have hP1 : va_P D vwCl [(obu, .inr (2, [.ref bua, .int (nI (ln + 1))])), (bua, .inl (ca 0, 40, .inl (upd fb ln v)))] H1 := hP1
        have hD1 : va_D _ [(obu, .inr (2, [.ref bua, .int (nI (ln + 1))])), (bua, .inl (ca 0, 40, .inl (upd fb ln v)))] := hD1
        obtain ⟨hr5, hw5⟩ := hwv
        subst hr5
        obtain ⟨hP, hD⟩ := va_join (wr := [(oc, .inr (5, [.ref os, .ref osl, .ref ohi, .ref obu, .ref ord, .ref osp, .ref onw, .ref otr, .ref ogd]))]) (w1 := [(obu, .inr (2, [.ref bua, .int (nI (ln + 1))])), (bua, .inl (ca 0, 40, .inl (upd fb ln v)))]) hP hD [1, 2] [0] rfl rfl (by decide) (by decide) hk1 hFc hP1 hD1
        generalize H1 = H at hP hS ⊢
        have hP := hP.sub (ws' := [(oc, .inr (5, [.ref os, .ref osl, .ref ohi, .ref obu, .ref ord, .ref osp, .ref onw, .ref otr, .ref ogd])), (obu, .inr (2, [.ref bua, .int (nI (ln + 1))])), (bua, .inl (ca 0, 40, .inl (upd fb ln v)))]) [0, 1, 2] rfl
        have hD := hD.sub (ws' := [(oc, .inr (5, [.ref os, .ref osl, .ref ohi, .ref obu, .ref ord, .ref osp, .ref onw, .ref otr, .ref ogd])), (obu, .inr (2, [.ref bua, .int (nI (ln + 1))])), (bua, .inl (ca 0, 40, .inl (upd fb ln v)))]) [0, 1, 2] (by decide) rfl
        refine lv_pop hx hb dX5_append_52 rfl ?_
        refine lv_aload_n hx hb dX5_append_53 rfl (lv_at hl 0 rfl) ?_
        refine va_get (D := D) (ci := 5) (C := RX5) (T := TX5) (N := 9) hx hb hts hiX5 hown hKv hP 0 rfl rfl 3 (by decide) lk32 (fun _ h9 => h9) rfl dX5_append_54 ?_
        refine vp_callSi (va_Run.run (va_runV (As := []) (rest := []) ⟨hx, hb, hml, hown, hts⟩ (kX2_size l D ca obu bua 40 (upd fb ln v) (ln + 1) (by first | rfl | assumption | omega | trivial | (exfalso; omega)) (by first | rfl | assumption | omega | trivial | (exfalso; omega))) (cwV 0 hts gX5_append_X2_size rfl rfl rfl (by decide +kernel) ⟨kk_le rfl, kk_le rfl⟩) (pvR hK (hP.sub (ws' := [(obu, .inr (2, [.ref bua, .int (nI (ln + 1))])), (bua, .inl (ca 0, 40, .inl (upd fb ln v)))]) [1, 2] rfl) (va_recv hKv hP (ci := 2) (q0 := 1) rfl rfl)) rfl rfl hl.1 rfl (lv_room (kk_le rfl)) dX5_append_57 ⟨kk_le rfl, kk_le rfl⟩)) (fun r7 hr7 => ?_)
        subst hr7
        exact W.iret (v := nI (ln + 1)) hx hb hr (fun t ht hW => ⟨⟨_, (), rfl, ⟨by rfl, by trivial⟩, by rw [ht]; exact hP, hD⟩, hS.F ht⟩) hS.2.2 dX5_append_60
      · exact absurd c4 (by omega)
    · exact absurd (Int32.not_le.mp c2) hv2
abbrev rm_kX5_shortShare_ok : Room := { frames := 2, cells := 0, slots := 0, locals := 43 }
set_option maxHeartbeats 4000000 in
set_option maxRecDepth 100000 in
theorem kX5_shortShare_ok (l : Launch) (D : va_G) (ca : Nat → ClassId) (oc os osl ohi obu ord osp onw otr ogd : Nat) (t1 l1 g1 : Nat) (t2 : Nat) (g2 : Nat) (z : Nat) (r f j : Int32) (nt : Nat) (gt : Nat → Int32) (hnt : nt ≤ 200) : Met l yX5_shortShare wsX5_shortShare rm_kX5_shortShare_ok (pcR D ca [.ref oc] [(oc, .inr (5, [.ref os, .ref osl, .ref ohi, .ref obu, .ref ord, .ref osp, .ref onw, .ref otr, .ref ogd])), (os, .inr (3, [.ref t1, .ref l1, .ref g1])), (t1, .inr (2, [.ref t2, .int (nI nt)])), (t2, .inl (ca 0, 200, .inl gt)), (g1, .inr (2, [.ref g2, .int (nI 4)])), (g2, .inl (ca 0, 4, .inl (seF z r f j)))]) (vp_Sd (fun zr : UInt64 => zr = shT r (lst gt nt))) 0 0 (fun _ => False) := by
  refine Met.ofW (cc := cX5_shortShare) (maxL := 6) (ret := (some .double)) (by decide) rfl ?_
  intro p e s m args below meth c s₁ B hml hv
  obtain ⟨rfl, hP, hK⟩ := hv
  have hx := B.exec
  have hb := B.bytes
  have hr := B.returns
  have hts := atoms_spec (ws := wsX5_shortShare) B.pre
  have hown : s.vm.findClass RX5 = some m.cls := findClass_of_methodNamed B.named
  have hlocks := B.notSynchronized
  have hKv := hK.1
  have hl := lv_entry ([.ref oc]) (n := 6) (kk_le rfl)
  rw [lg_entry_eq]
  generalize (lg_sl ([.ref oc]) ++ List.replicate (6 - (lg_sl ([.ref oc])).length) Slot.unset).toArray = ls at hl ⊢
  have hl : lv_has ls 6 [(0, .ref oc)] := hl
  generalize hQz : MQ below _ _ _ _ _ _ = Qz
  have hiX5 : ∀ w ∈ u_ws RX5 TX5 9, w ∈ wsX5_shortShare := fun w h => by first | exact List.mem_cons_of_mem _ (List.mem_append_right _ h) | exact List.mem_cons_of_mem _ (List.mem_append_left _ (List.mem_append_right _ h)) | exact List.mem_cons_of_mem _ (List.mem_append_left _ (List.mem_append_left _ (List.mem_append_right _ h))) | exact List.mem_cons_of_mem _ (List.mem_append_left _ (List.mem_append_left _ (List.mem_append_left _ (List.mem_append_right _ h)))) | (revert w h; decide +kernel)
  have lk10 : (Cond.fieldLink RX5 10 "StripeSwipes" "state" "LStripeSwipes$State;").before _ s = true := hts _ (by decide +kernel)
  have hiX3 : ∀ w ∈ u_ws RX3 TX3 3, w ∈ wsX5_shortShare := fun w h => by first | exact List.mem_cons_of_mem _ (List.mem_append_right _ h) | exact List.mem_cons_of_mem _ (List.mem_append_left _ (List.mem_append_right _ h)) | exact List.mem_cons_of_mem _ (List.mem_append_left _ (List.mem_append_left _ (List.mem_append_right _ h))) | exact List.mem_cons_of_mem _ (List.mem_append_left _ (List.mem_append_left _ (List.mem_append_left _ (List.mem_append_right _ h)))) | (revert w h; decide +kernel)
  have lk113 : (Cond.fieldLinkNest "StripeSwipes" 113 "StripeSwipes$State" "times" "LStripeSwipes$Row;" "StripeSwipes").before ([.ref oc] : List Value).toArray s = true := va_Nw.use rfl hK.2.f113
  refine lv_aload_n hx hb dX5_shortShare_0 rfl (lv_at hl 0 rfl) ?_
  refine va_get (D := D) (ci := 5) (C := RX5) (T := TX5) (N := 9) hx hb hts hiX5 hown hKv hP 0 rfl rfl 0 (by decide) lk10 (fun _ h9 => h9) rfl dX5_shortShare_1 ?_
  refine va_getN (D := D) (ci := 3) (C := RX3) (T := TX3) (N := 3) hx hb hts hiX3 hown hKv hP 1 rfl rfl 0 (by decide) lk113 (fun _ h9 => h9) rfl dX5_shortShare_4 ?_
  refine vp_callSi (va_Run.run (va_runV (As := []) (rest := []) ⟨hx, hb, hml, hown, hts⟩ (kX2_size l D ca t1 t2 200 gt nt (by first | rfl | assumption | omega | trivial | (exfalso; omega)) (by first | rfl | assumption | omega | trivial | (exfalso; omega))) (cwV 0 hts gX5_shortShare_X2_size rfl rfl rfl (by decide +kernel) ⟨kk_le rfl, kk_le rfl⟩) (pvR hK (hP.sub (ws' := [(t1, .inr (2, [.ref t2, .int (nI nt)])), (t2, .inl (ca 0, 200, .inl gt))]) [2, 3] rfl) (va_recv hKv hP (ci := 2) (q0 := 2) rfl rfl)) rfl rfl hl.1 rfl (lv_room (kk_le rfl)) dX5_shortShare_7 ⟨kk_le rfl, kk_le rfl⟩)) (fun r1 hr1 => ?_)
  subst hr1
  refine lv_istore_n (lv' := [(1, .int (nI nt)), (0, .ref oc)]) hx hb dX5_shortShare_10 rfl hl (by decide) rfl (fun ls hl => ?_)
  refine lv_iload_n hx hb dX5_shortShare_11 rfl (lv_at hl 0 rfl) ?_
  refine ni_if_gt (tgt := 17) (by omega) hx hb dX5_shortShare_12 (by decide) (fun c2 => ?_) (fun c2 => ?_)
  · refine lv_aload_n hx hb dX5_shortShare_17 rfl (lv_at hl 1 rfl) ?_
    refine va_get (D := D) (ci := 5) (C := RX5) (T := TX5) (N := 9) hx hb hts hiX5 hown hKv hP 0 rfl rfl 0 (by decide) lk10 (fun _ h9 => h9) rfl dX5_shortShare_18 ?_
    refine va_getN (D := D) (ci := 3) (C := RX3) (T := TX3) (N := 3) hx hb hts hiX3 hown hKv hP 1 rfl rfl 0 (by decide) lk113 (fun _ h9 => h9) rfl dX5_shortShare_21 ?_
    refine vp_callSi (va_Run.run (va_runV (As := []) (rest := []) ⟨hx, hb, hml, hown, hts⟩ (kX2_sum l D ca t1 t2 200 gt nt (by first | rfl | assumption | omega | trivial | (exfalso; omega)) (by first | rfl | assumption | omega | trivial | (exfalso; omega))) (cwV 0 hts gX5_shortShare_X2_sum rfl rfl rfl (by decide +kernel) ⟨kk_le rfl, kk_le rfl⟩) (pvR hK (hP.sub (ws' := [(t1, .inr (2, [.ref t2, .int (nI nt)])), (t2, .inl (ca 0, 200, .inl gt))]) [2, 3] rfl) (va_recv hKv hP (ci := 2) (q0 := 2) rfl rfl)) rfl rfl hl.1 rfl (lv_room (kk_le rfl)) dX5_shortShare_24 ⟨kk_le rfl, kk_le rfl⟩)) (fun r3 hr3 => ?_)
    subst hr3
    refine lv_iload_n hx hb dX5_shortShare_27 rfl (lv_at hl 0 rfl) ?_
    refine lv_idiv hx hb dX5_shortShare_28 (by first | decide | assumption | exact nI_ne0 (by omega) (by omega)) ?_
    refine lv_istore_n (lv' := [(2, .int ((sumL (lst gt nt)) / (nI nt))), (1, .int (nI nt)), (0, .ref oc)]) hx hb dX5_shortShare_29 rfl hl (by decide) rfl (fun ls hl => ?_)
    refine lv_iload_n hx hb dX5_shortShare_30 rfl (lv_at hl 0 rfl) ?_
    refine lv_aload_n hx hb dX5_shortShare_31 rfl (lv_at hl 2 rfl) ?_
    refine lv_iconst (v := nI 1) hx hb dX5_shortShare_32 (by decide) ?_
    refine vp_callSi (va_Run.run (va_runV (As := [.int (nI 1)]) (rest := [.int ((sumL (lst gt nt)) / (nI nt))]) ⟨hx, hb, hml, hown, hts⟩ (kX5_value_1 l D ca oc os osl ohi obu ord osp onw otr ogd t1 l1 g1 g2 z r f j) (cwV 1 hts gX5_shortShare_X5_value rfl rfl rfl (by decide +kernel) ⟨kk_le rfl, kk_le rfl⟩) (pvR hK (hP.sub (ws' := [(oc, .inr (5, [.ref os, .ref osl, .ref ohi, .ref obu, .ref ord, .ref osp, .ref onw, .ref otr, .ref ogd])), (os, .inr (3, [.ref t1, .ref l1, .ref g1])), (g1, .inr (2, [.ref g2, .int (nI 4)])), (g2, .inl (ca 0, 4, .inl (seF z r f j)))]) [0, 1, 4, 5] rfl) (va_recv hKv hP (ci := 5) (q0 := 0) rfl rfl)) rfl rfl hl.1 rfl (lv_room (kk_le rfl)) dX5_shortShare_33 ⟨kk_le rfl, kk_le rfl⟩)) (fun r4 hr4 => ?_)
    have hr4 := hr4.symm
    subst hr4
    refine lv_imul hx hb dX5_shortShare_36 ?_
    refine lv_bipush (v := nI 100) hx hb dX5_shortShare_37 (by decide) ?_
    refine lv_idiv hx hb dX5_shortShare_39 (by first | decide | assumption | exact nI_ne0 (by omega) (by omega)) ?_
    refine lv_istore_n (lv' := [(3, .int ((((sumL (lst gt nt)) / (nI nt)) * r) / (nI 100))), (2, .int ((sumL (lst gt nt)) / (nI nt))), (1, .int (nI nt)), (0, .ref oc)]) hx hb dX5_shortShare_40 rfl hl (by decide) rfl (fun ls hl => ?_)
    refine lv_iconst (v := nI 0) hx hb dX5_shortShare_41 (by decide) ?_
    refine lv_istore (lv' := [(4, .int (nI 0)), (3, .int ((((sumL (lst gt nt)) / (nI nt)) * r) / (nI 100))), (2, .int ((sumL (lst gt nt)) / (nI nt))), (1, .int (nI nt)), (0, .ref oc)]) hx hb dX5_shortShare_42 hl (by decide) rfl (fun ls hl => ?_)
    refine lv_iconst (v := nI 0) hx hb dX5_shortShare_44 (by decide) ?_
    refine lv_istore (lv' := [(5, .int (nI 0)), (4, .int (nI 0)), (3, .int ((((sumL (lst gt nt)) / (nI nt)) * r) / (nI 100))), (2, .int ((sumL (lst gt nt)) / (nI nt))), (1, .int (nI nt)), (0, .ref oc)]) hx hb dX5_shortShare_45 hl (by decide) rfl (fun ls hl => ?_)
    have lp47_4 : ∀ (k1 : Nat) (i cn : Nat), nt - i < k1 → (i ≤ nt) → (cn ≤ i) → (cn = ltC (sumL (lst gt nt) / nI nt * r / nI 100) (lst gt i)) → ∀ (ls : Array Slot), lv_has ls 6 [(5, .int (nI i)), (4, .int (nI cn)), (3, .int ((((sumL (lst gt nt)) / (nI nt)) * r) / (nI 100))), (2, .int ((sumL (lst gt nt)) / (nI nt))), (1, .int (nI nt)), (0, .ref oc)] → W p l e rm_kX5_shortShare_ok s m ([.ref oc] : List Value).toArray below meth c s.heap [] 0 0 Qz (F0 m 47 ls []) := by
      intro k1
      induction k1 with
      | zero => intro i cn hm1; exact absurd hm1 (Nat.not_lt_zero _)
      | succ k1 ih1 =>
        intro i cn hm1 hi hcn hcn2 ls hl
        refine lv_iload hx hb dX5_shortShare_47 (lv_at hl 0 rfl) ?_
        refine lv_iload_n hx hb dX5_shortShare_49 rfl (lv_at hl 4 rfl) ?_
        refine ni_icmp_ge (tgt := 78) (by omega) (by omega) hx hb dX5_shortShare_50 (by decide) (fun c6 => ?_) (fun c6 => ?_)
        · refine lv_iload hx hb dX5_shortShare_78 (lv_at hl 1 rfl) ?_
          refine lv_i2d hx hb dX5_shortShare_80 ?_
          refine lv_iload_n hx hb dX5_shortShare_81 rfl (lv_at hl 4 rfl) ?_
          refine lv_i2d hx hb dX5_shortShare_82 ?_
          refine lv_ddiv hx hb dX5_shortShare_83 (by exact sh_nn (by omega) (by omega) (by omega)) ?_
          subst hQz
          exact W.dret (v := FP.ddiv (FP.i2d (nI cn)) (FP.i2d (nI nt))) hx hb hr (fun t ht _ => ⟨_, rfl, by first | exact sh_0 r gt (by omega) | exact sh_n (by omega) (by omega) hcn2, ht⟩) (fun _ h => nomatch h) dX5_shortShare_84
        · refine lv_aload_n hx hb dX5_shortShare_53 rfl (lv_at hl 5 rfl) ?_
          refine va_get (D := D) (ci := 5) (C := RX5) (T := TX5) (N := 9) hx hb hts hiX5 hown hKv hP 0 rfl rfl 0 (by decide) lk10 (fun _ h9 => h9) rfl dX5_shortShare_54 ?_
          refine va_getN (D := D) (ci := 3) (C := RX3) (T := TX3) (N := 3) hx hb hts hiX3 hown hKv hP 1 rfl rfl 0 (by decide) lk113 (fun _ h9 => h9) rfl dX5_shortShare_57 ?_
          refine lv_iload hx hb dX5_shortShare_60 (lv_at hl 0 rfl) ?_
          refine vp_callSi (va_Run.run (va_runV (As := [.int (nI i)]) (rest := []) ⟨hx, hb, hml, hown, hts⟩ (kX2_at_in l D ca t1 t2 200 gt nt i (by first | rfl | assumption | omega | trivial | (exfalso; omega)) (by first | rfl | assumption | omega | trivial | (exfalso; omega)) (by first | rfl | assumption | omega | trivial | (exfalso; omega))) (cwV 1 hts gX5_shortShare_X2_at rfl rfl rfl (by decide +kernel) ⟨kk_le rfl, kk_le rfl⟩) (pvR hK (hP.sub (ws' := [(t1, .inr (2, [.ref t2, .int (nI nt)])), (t2, .inl (ca 0, 200, .inl gt))]) [2, 3] rfl) (va_recv hKv hP (ci := 2) (q0 := 2) rfl rfl)) rfl rfl hl.1 rfl (lv_room (kk_le rfl)) dX5_shortShare_62 ⟨kk_le rfl, kk_le rfl⟩)) (fun r7 hr7 => ?_)
          subst hr7
          refine lv_iload_n hx hb dX5_shortShare_65 rfl (lv_at hl 2 rfl) ?_
          refine lv_icmp_ge (tgt := 72) hx hb dX5_shortShare_66 (by decide) (fun c8 => ?_) (fun c8 => ?_)
          · refine lv_iinc (v := nI (i + 1)) (lv' := [(5, .int (nI (i + 1))), (4, .int (nI cn)), (3, .int ((((sumL (lst gt nt)) / (nI nt)) * r) / (nI 100))), (2, .int ((sumL (lst gt nt)) / (nI nt))), (1, .int (nI nt)), (0, .ref oc)]) hx hb dX5_shortShare_72 hl (k := 0) rfl (ni_inc _ _ (by decide)) (by decide) rfl (fun ls hl => ?_)
            refine lv_goto (tgt := 47) hx hb dX5_shortShare_75 (by decide) ?_
            exact ih1 (i + 1) cn (by omega) (by omega) (by omega) (by first | exact lc_1 hcn2 (by assumption) | exact lc_0 hcn2 (by assumption)) ls (lv_sub hl [0, 1, 2, 3, 4, 5] rfl)
          · refine lv_iinc (v := nI (cn + 1)) (lv' := [(4, .int (nI (cn + 1))), (5, .int (nI i)), (3, .int ((((sumL (lst gt nt)) / (nI nt)) * r) / (nI 100))), (2, .int ((sumL (lst gt nt)) / (nI nt))), (1, .int (nI nt)), (0, .ref oc)]) hx hb dX5_shortShare_69 hl (k := 1) rfl (ni_inc _ _ (by decide)) (by decide) rfl (fun ls hl => ?_)
            refine lv_iinc (v := nI (i + 1)) (lv' := [(5, .int (nI (i + 1))), (4, .int (nI (cn + 1))), (3, .int ((((sumL (lst gt nt)) / (nI nt)) * r) / (nI 100))), (2, .int ((sumL (lst gt nt)) / (nI nt))), (1, .int (nI nt)), (0, .ref oc)]) hx hb dX5_shortShare_72 hl (k := 1) rfl (ni_inc _ _ (by decide)) (by decide) rfl (fun ls hl => ?_)
            refine lv_goto (tgt := 47) hx hb dX5_shortShare_75 (by decide) ?_
            exact ih1 (i + 1) (cn + 1) (by omega) (by omega) (by omega) (by first | exact lc_1 hcn2 (by assumption) | exact lc_0 hcn2 (by assumption)) ls (lv_sub hl [0, 1, 2, 3, 4, 5] rfl)
    exact lp47_4 ((nt - 0) + 1) 0 0 (by omega) (by omega) (by omega) (by rfl) ls (lv_sub hl [0, 1, 2, 3, 4, 5] rfl)
  · refine lv_dconst0 hx hb dX5_shortShare_15 ?_
    subst hQz
    exact W.dret (v := FP.dconst0) hx hb hr (fun t ht _ => ⟨_, rfl, by first | exact sh_0 r gt (by omega) | exact sh_n (by omega) (by omega) hcn2, ht⟩) (fun _ h => nomatch h) dX5_shortShare_16
