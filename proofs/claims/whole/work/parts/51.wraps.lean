set_option maxHeartbeats 4000000 in
set_option maxRecDepth 100000 in
theorem wL_write (l : Launch) (hl0 : l.stackTraces = false) (D : va_G) (ca : Nat → ClassId) (sz : Nat) (Ad : CA) (g : CG) (o : Nat) (v0 : Nat → Int64) (hg : okCg g) (hz : g.1.1 ≤ 30) : Met l yL_write wsL_write RML (pcZ D ca [.ref Ad.1, .ref o] (oW ca o v0 ++ cW ca Ad g) sz) (va_Qi (fun (zr : Int32) (u : CG × (Nat → Int64)) => wrP (R_write (abC g)) zr u) (qB D (va_A (oW ca o v0 ++ cW ca Ad g) sz) (fun u : CG × (Nat → Int64) => oW ca o u.2 ++ cW ca Ad u.1)) (va_A (oW ca o v0 ++ cW ca Ad g) sz)) 8 240 (va_A (oW ca o v0 ++ cW ca Ad g) sz) := by
  refine my_ofWH (cc := cL_write) (maxL := 3) (ret := (some .int)) (hh := [(0, 8, 11, 13), (0, 8, 14, 15)]) (by decide) rfl ?_
  intro p e s m args below meth c s₁ B hml hv
  obtain ⟨rfl, hsz, hP, hK, hD0, hZ⟩ := hv
  have hx := B.exec
  have hb := B.bytes
  have hr := B.returns
  have hts := atoms_spec (ws := wsL_write) B.pre
  have hown : s.vm.findClass RL = some m.cls := findClass_of_methodNamed B.named
  have hlocks := B.notSynchronized
  have htb : c.exceptionTable.toList = _ := vx_table (x := yL_write) B (hts _ List.mem_cons_self)
  subst hsz
  have hD := hD0.self (sz := s.heap.size)
  generalize hAe : va_A (oW ca o v0 ++ cW ca Ad g) s.heap.size = A at hD hZ ⊢
  have hA : ∀ q : Nat, s.heap.size ≤ q → A q := fun q h => by rw [← hAe]; exact Or.inr h
  have hS : va_S A s.heap s.heap [] := va_S.rf
  have hl := lv_entry ([.ref Ad.1, .ref o]) (n := 3) (kk_le rfl)
  rw [lg_entry_eq]
  generalize (lg_sl ([.ref Ad.1, .ref o]) ++ List.replicate (3 - (lg_sl ([.ref Ad.1, .ref o])).length) Slot.unset).toArray = ls at hl ⊢
  have hl : lv_has ls 3 [(0, .ref Ad.1), (1, .ref o)] := hl
  refine lv_aload_n hx hb dL_write_0 rfl (lv_at hl 1 rfl) ?_
  refine lv_iconst (v := nI 0) hx hb dL_write_1 (by decide) ?_
  refine lv_aload_n hx hb dL_write_2 rfl (lv_at hl 0 rfl) ?_
  have hP9 : va_P D vwCl (cW ca Ad g ++ oW ca o v0) s.heap := my_P_perm hP List.perm_append_comm
  have hD9 : va_D A (cW ca Ad g ++ oW ca o v0) := my_D_perm hD List.perm_append_comm
  have hFc := my_free hD9 hS hA
  refine vx_calli (vx_runV (As := []) (rest := [.int (nI 0), .ref o]) ⟨hx, hb, hml, hown, hts⟩ (cC_write l hl0 D ca s.heap.size Ad g hg hz) (cwV 0 hts gL_write_X5_write rfl rfl rfl (by decide +kernel) ⟨kk_le rfl, kk_le rfl⟩) (pvZ hK (my_P_left hP9) (my_D_true (my_D_left hD9)) (hZ.at hS hFc) (cW_rc hK (my_P_left hP9))) rfl rfl hl.1 rfl (lv_room (kk_le rfl)) dL_write_3 ⟨kk_le rfl, kk_le rfl⟩) hS (fun q _ h => hFc q h) hFc (fun q _ h => hFc q h) ?_ ?_
  · intro E ce q9 g2 t H1 locs1 ht hal hpx hBX h1 h2 hS hcell hvm hcl
    obtain ⟨⟨k9, hR, hE⟩, hP1, hD1⟩ := hBX
    rw [ht] at hP1
    obtain ⟨hP, hD⟩ := my_join hP9 hD9 h2 hFc hP1 hD1
    have hP := my_P_perm hP List.perm_append_comm
    have hD := my_D_perm hD List.perm_append_comm
    obtain ⟨rfl, rfl⟩ | ⟨rfl, rfl⟩ := exAS_c hE
    · refine vx_catch hown [] ⟨0, 8, 11, 13⟩ [⟨0, 8, 14, 15⟩] htb (fun z hz => nomatch hz) rfl (by decide) (hts (.classLink RL 13 "java/lang/IllegalArgumentException") (by decide +kernel)) (va_Nw.use rfl hK.2.cIllegalArgumentException) hcell hvm hcl ?_
      refine lv_astore_n (lv' := [(2, .ref q9), (0, .ref Ad.1), (1, .ref o)]) hx hb dL_write_11 rfl hl (by decide) rfl (fun ls hl => ?_)
      refine lv_iconst (v := nI 1) hx hb dL_write_12 (by decide) ?_
      exact W.iret (v := nI 1) hx hb hr (fun t ht hW => ⟨⟨_, (g2, v0), rfl, ⟨by rw [hR], fun h => absurd h (by decide), by rw [hR]; exact hpx.2.symm, hpx.1⟩, by rw [ht]; exact hP, hD⟩, hS.F ht⟩) hS.2.2 dL_write_13
    · refine vx_catch hown [⟨0, 8, 11, 13⟩] ⟨0, 8, 14, 15⟩ [] htb (by
          intro z hz
          simp only [List.mem_cons, List.not_mem_nil, or_false] at hz
          rcases hz with rfl
          exact Or.inr ⟨by decide, "java/lang/IllegalArgumentException", hts (.classLink RL 13 "java/lang/IllegalArgumentException") (by decide +kernel), hK.2.nIllegalStateException_IllegalArgumentException⟩) rfl (by decide) (hts (.classLink RL 15 "java/lang/IllegalStateException") (by decide +kernel)) (va_Nw.use rfl hK.2.cIllegalStateException) hcell hvm hcl ?_
      refine lv_astore_n (lv' := [(2, .ref q9), (0, .ref Ad.1), (1, .ref o)]) hx hb dL_write_14 rfl hl (by decide) rfl (fun ls hl => ?_)
      refine lv_iconst (v := nI 2) hx hb dL_write_15 (by decide) ?_
      exact W.iret (v := nI 2) hx hb hr (fun t ht hW => ⟨⟨_, (g2, v0), rfl, ⟨by rw [hR], fun h => absurd h (by decide), by rw [hR]; exact hpx.2.symm, hpx.1⟩, by rw [ht]; exact hP, hD⟩, hS.F ht⟩) hS.2.2 dL_write_16
  · intro zr g2 t H1 locs1 ht hal hpost hB h1 h2 hS
    obtain ⟨hP1, hD1⟩ := hB
    rw [ht] at hP1
    obtain ⟨hR, hg2⟩ := hpost
    obtain ⟨hP, hD⟩ := my_join hP9 hD9 h2 hFc hP1 hD1
    have hP : va_P D vwCl (oW ca o v0 ++ cW ca Ad g2) H1 := my_P_perm hP List.perm_append_comm
    have hD : va_D A (oW ca o v0 ++ cW ca Ad g2) := my_D_perm hD List.perm_append_comm
    refine lv_i2l hx hb dL_write_6 rfl ?_
    refine my_last hx hb hK hP hD hS 0 rfl (by omega) (by omega) dL_write_7 (fun H2 locs2 hP hD hS => ?_)
    have hP : va_P D vwCl (oW ca o (vp_updL v0 0 zr.toInt64) ++ cW ca Ad g2) H2 := hP
    have hD : va_D A (oW ca o (vp_updL v0 0 zr.toInt64) ++ cW ca Ad g2) := hD
    refine lv_goto (tgt := 17) hx hb dL_write_8 (by decide) ?_
    refine lv_iconst (v := nI 0) hx hb dL_write_17 (by decide) ?_
    exact W.iret (v := nI 0) hx hb hr (fun t ht hW => ⟨⟨_, (g2, vp_updL v0 0 zr.toInt64), rfl, ⟨by rw [hR], fun _ => by rw [hR]; rfl, by rw [hR], hg2⟩, by rw [ht]; exact hP, hD⟩, hS.F ht⟩) hS.2.2 dL_write_18
set_option maxHeartbeats 4000000 in
set_option maxRecDepth 100000 in
theorem wL_swipe (l : Launch) (hl0 : l.stackTraces = false) (D : va_G) (ca : Nat → ClassId) (sz : Nat) (Ad : CA) (g : CG) (o : Nat) (v0 : Nat → Int64) (hg : okCg g) (hz : g.1.1 ≤ 30) : Met l yL_swipe wsL_swipe RML (pcZ D ca [.ref Ad.1, .ref o] (oW ca o v0 ++ cW ca Ad g) sz) (va_Qi (fun (zr : Int32) (u : CG × (Nat → Int64)) => wrP (R_swipe (abC g)) zr u) (qB D (va_A (oW ca o v0 ++ cW ca Ad g) sz) (fun u : CG × (Nat → Int64) => oW ca o u.2 ++ cW ca Ad u.1)) (va_A (oW ca o v0 ++ cW ca Ad g) sz)) 8 240 (va_A (oW ca o v0 ++ cW ca Ad g) sz) := by
  refine my_ofWH (cc := cL_swipe) (maxL := 3) (ret := (some .int)) (hh := [(0, 8, 11, 15)]) (by decide) rfl ?_
  intro p e s m args below meth c s₁ B hml hv
  obtain ⟨rfl, hsz, hP, hK, hD0, hZ⟩ := hv
  have hx := B.exec
  have hb := B.bytes
  have hr := B.returns
  have hts := atoms_spec (ws := wsL_swipe) B.pre
  have hown : s.vm.findClass RL = some m.cls := findClass_of_methodNamed B.named
  have hlocks := B.notSynchronized
  have htb : c.exceptionTable.toList = _ := vx_table (x := yL_swipe) B (hts _ List.mem_cons_self)
  subst hsz
  have hD := hD0.self (sz := s.heap.size)
  generalize hAe : va_A (oW ca o v0 ++ cW ca Ad g) s.heap.size = A at hD hZ ⊢
  have hA : ∀ q : Nat, s.heap.size ≤ q → A q := fun q h => by rw [← hAe]; exact Or.inr h
  have hS : va_S A s.heap s.heap [] := va_S.rf
  have hl := lv_entry ([.ref Ad.1, .ref o]) (n := 3) (kk_le rfl)
  rw [lg_entry_eq]
  generalize (lg_sl ([.ref Ad.1, .ref o]) ++ List.replicate (3 - (lg_sl ([.ref Ad.1, .ref o])).length) Slot.unset).toArray = ls at hl ⊢
  have hl : lv_has ls 3 [(0, .ref Ad.1), (1, .ref o)] := hl
  refine lv_aload_n hx hb dL_swipe_0 rfl (lv_at hl 1 rfl) ?_
  refine lv_iconst (v := nI 0) hx hb dL_swipe_1 (by decide) ?_
  refine lv_aload_n hx hb dL_swipe_2 rfl (lv_at hl 0 rfl) ?_
  have hP9 : va_P D vwCl (cW ca Ad g ++ oW ca o v0) s.heap := my_P_perm hP List.perm_append_comm
  have hD9 : va_D A (cW ca Ad g ++ oW ca o v0) := my_D_perm hD List.perm_append_comm
  have hFc := my_free hD9 hS hA
  refine vx_calli (vx_runV (As := []) (rest := [.int (nI 0), .ref o]) ⟨hx, hb, hml, hown, hts⟩ (cC_swipe l hl0 D ca s.heap.size Ad g hg hz) (cwV 0 hts gL_swipe_X5_swipe rfl rfl rfl (by decide +kernel) ⟨kk_le rfl, kk_le rfl⟩) (pvZ hK (my_P_left hP9) (my_D_true (my_D_left hD9)) (hZ.at hS hFc) (cW_rc hK (my_P_left hP9))) rfl rfl hl.1 rfl (lv_room (kk_le rfl)) dL_swipe_3 ⟨kk_le rfl, kk_le rfl⟩) hS (fun q _ h => hFc q h) hFc (fun q _ h => hFc q h) ?_ ?_
  · intro E ce q9 g2 t H1 locs1 ht hal hpx hBX h1 h2 hS hcell hvm hcl
    obtain ⟨⟨k9, hR, hE⟩, hP1, hD1⟩ := hBX
    rw [ht] at hP1
    obtain ⟨hP, hD⟩ := my_join hP9 hD9 h2 hFc hP1 hD1
    have hP := my_P_perm hP List.perm_append_comm
    have hD := my_D_perm hD List.perm_append_comm
    obtain ⟨rfl, rfl⟩ := exS_c hE
    refine vx_catch hown [] ⟨0, 8, 11, 15⟩ [] htb (fun z hz => nomatch hz) rfl (by decide) (hts (.classLink RL 15 "java/lang/IllegalStateException") (by decide +kernel)) (va_Nw.use rfl hK.2.cIllegalStateException) hcell hvm hcl ?_
    refine lv_astore_n (lv' := [(2, .ref q9), (0, .ref Ad.1), (1, .ref o)]) hx hb dL_swipe_11 rfl hl (by decide) rfl (fun ls hl => ?_)
    refine lv_iconst (v := nI 1) hx hb dL_swipe_12 (by decide) ?_
    exact W.iret (v := nI 1) hx hb hr (fun t ht hW => ⟨⟨_, (g2, v0), rfl, ⟨by rw [hR], fun h => absurd h (by decide), by rw [hR]; exact hpx.2.symm, hpx.1⟩, by rw [ht]; exact hP, hD⟩, hS.F ht⟩) hS.2.2 dL_swipe_13
  · intro zr g2 t H1 locs1 ht hal hpost hB h1 h2 hS
    obtain ⟨hP1, hD1⟩ := hB
    rw [ht] at hP1
    obtain ⟨hR, hg2⟩ := hpost
    obtain ⟨hP, hD⟩ := my_join hP9 hD9 h2 hFc hP1 hD1
    have hP : va_P D vwCl (oW ca o v0 ++ cW ca Ad g2) H1 := my_P_perm hP List.perm_append_comm
    have hD : va_D A (oW ca o v0 ++ cW ca Ad g2) := my_D_perm hD List.perm_append_comm
    refine lv_i2l hx hb dL_swipe_6 rfl ?_
    refine my_last hx hb hK hP hD hS 0 rfl (by omega) (by omega) dL_swipe_7 (fun H2 locs2 hP hD hS => ?_)
    have hP : va_P D vwCl (oW ca o (vp_updL v0 0 zr.toInt64) ++ cW ca Ad g2) H2 := hP
    have hD : va_D A (oW ca o (vp_updL v0 0 zr.toInt64) ++ cW ca Ad g2) := hD
    refine lv_goto (tgt := 14) hx hb dL_swipe_8 (by decide) ?_
    refine lv_iconst (v := nI 0) hx hb dL_swipe_14 (by decide) ?_
    exact W.iret (v := nI 0) hx hb hr (fun t ht hW => ⟨⟨_, (g2, vp_updL v0 0 zr.toInt64), rfl, ⟨by rw [hR], fun _ => by rw [hR]; rfl, by rw [hR], hg2⟩, by rw [ht]; exact hP, hD⟩, hS.F ht⟩) hS.2.2 dL_swipe_15
set_option maxHeartbeats 4000000 in
set_option maxRecDepth 100000 in
theorem wL_join (l : Launch) (hl0 : l.stackTraces = false) (D : va_G) (ca : Nat → ClassId) (sz : Nat) (Ad : CA) (g : CG) (o : Nat) (v0 : Nat → Int64) (x : Int32) (hg : okCg g) (hz : g.1.1 ≤ 30) : Met l yL_join wsL_join RML (pcZ D ca [.ref Ad.1, .int x, .ref o] (oW ca o v0 ++ cW ca Ad g) sz) (va_Qi (fun (zr : Int32) (u : CG × (Nat → Int64)) => wrP (R_join (abC g) x) zr u) (qB D (va_A (oW ca o v0 ++ cW ca Ad g) sz) (fun u : CG × (Nat → Int64) => oW ca o u.2 ++ cW ca Ad u.1)) (va_A (oW ca o v0 ++ cW ca Ad g) sz)) 8 240 (va_A (oW ca o v0 ++ cW ca Ad g) sz) := by
  refine my_ofWH (cc := cL_join) (maxL := 4) (ret := (some .int)) (hh := [(0, 9, 12, 24)]) (by decide) rfl ?_
  intro p e s m args below meth c s₁ B hml hv
  obtain ⟨rfl, hsz, hP, hK, hD0, hZ⟩ := hv
  have hx := B.exec
  have hb := B.bytes
  have hr := B.returns
  have hts := atoms_spec (ws := wsL_join) B.pre
  have hown : s.vm.findClass RL = some m.cls := findClass_of_methodNamed B.named
  have hlocks := B.notSynchronized
  have htb : c.exceptionTable.toList = _ := vx_table (x := yL_join) B (hts _ List.mem_cons_self)
  subst hsz
  have hD := hD0.self (sz := s.heap.size)
  generalize hAe : va_A (oW ca o v0 ++ cW ca Ad g) s.heap.size = A at hD hZ ⊢
  have hA : ∀ q : Nat, s.heap.size ≤ q → A q := fun q h => by rw [← hAe]; exact Or.inr h
  have hS : va_S A s.heap s.heap [] := va_S.rf
  have hl := lv_entry ([.ref Ad.1, .int x, .ref o]) (n := 4) (kk_le rfl)
  rw [lg_entry_eq]
  generalize (lg_sl ([.ref Ad.1, .int x, .ref o]) ++ List.replicate (4 - (lg_sl ([.ref Ad.1, .int x, .ref o])).length) Slot.unset).toArray = ls at hl ⊢
  have hl : lv_has ls 4 [(0, .ref Ad.1), (1, .int x), (2, .ref o)] := hl
  refine lv_aload_n hx hb dL_join_0 rfl (lv_at hl 2 rfl) ?_
  refine lv_iconst (v := nI 0) hx hb dL_join_1 (by decide) ?_
  refine lv_aload_n hx hb dL_join_2 rfl (lv_at hl 0 rfl) ?_
  refine lv_iload_n hx hb dL_join_3 rfl (lv_at hl 1 rfl) ?_
  have hP9 : va_P D vwCl (cW ca Ad g ++ oW ca o v0) s.heap := my_P_perm hP List.perm_append_comm
  have hD9 : va_D A (cW ca Ad g ++ oW ca o v0) := my_D_perm hD List.perm_append_comm
  have hFc := my_free hD9 hS hA
  refine vx_calli (vx_runV (As := [.int x]) (rest := [.int (nI 0), .ref o]) ⟨hx, hb, hml, hown, hts⟩ (cC_join l hl0 D ca s.heap.size Ad g x hg hz) (cwV 1 hts gL_join_X5_join rfl rfl rfl (by decide +kernel) ⟨kk_le rfl, kk_le rfl⟩) (pvZ hK (my_P_left hP9) (my_D_true (my_D_left hD9)) (hZ.at hS hFc) (cW_rc hK (my_P_left hP9))) rfl rfl hl.1 rfl (lv_room (kk_le rfl)) dL_join_4 ⟨kk_le rfl, kk_le rfl⟩) hS (fun q _ h => hFc q h) hFc (fun q _ h => hFc q h) ?_ ?_
  · intro E ce q9 g2 t H1 locs1 ht hal hpx hBX h1 h2 hS hcell hvm hcl
    obtain ⟨⟨k9, hR, hE⟩, hP1, hD1⟩ := hBX
    rw [ht] at hP1
    obtain ⟨hP, hD⟩ := my_join hP9 hD9 h2 hFc hP1 hD1
    have hP := my_P_perm hP List.perm_append_comm
    have hD := my_D_perm hD List.perm_append_comm
    obtain ⟨rfl, rfl⟩ := exO_c hE
    refine vx_catch hown [] ⟨0, 9, 12, 24⟩ [] htb (fun z hz => nomatch hz) rfl (by decide) (hts (.classLink RL 24 "java/lang/IndexOutOfBoundsException") (by decide +kernel)) (va_Nw.use rfl hK.2.cIndexOutOfBoundsException) hcell hvm hcl ?_
    refine lv_astore_n (lv' := [(3, .ref q9), (0, .ref Ad.1), (1, .int x), (2, .ref o)]) hx hb dL_join_12 rfl hl (by decide) rfl (fun ls hl => ?_)
    refine lv_iconst (v := nI 1) hx hb dL_join_13 (by decide) ?_
    exact W.iret (v := nI 1) hx hb hr (fun t ht hW => ⟨⟨_, (g2, v0), rfl, ⟨by rw [hR], fun h => absurd h (by decide), by rw [hR]; exact hpx.2.symm, hpx.1⟩, by rw [ht]; exact hP, hD⟩, hS.F ht⟩) hS.2.2 dL_join_14
  · intro zr g2 t H1 locs1 ht hal hpost hB h1 h2 hS
    obtain ⟨hP1, hD1⟩ := hB
    rw [ht] at hP1
    obtain ⟨hR, hg2⟩ := hpost
    obtain ⟨hP, hD⟩ := my_join hP9 hD9 h2 hFc hP1 hD1
    have hP : va_P D vwCl (oW ca o v0 ++ cW ca Ad g2) H1 := my_P_perm hP List.perm_append_comm
    have hD : va_D A (oW ca o v0 ++ cW ca Ad g2) := my_D_perm hD List.perm_append_comm
    refine lv_i2l hx hb dL_join_7 rfl ?_
    refine my_last hx hb hK hP hD hS 0 rfl (by omega) (by omega) dL_join_8 (fun H2 locs2 hP hD hS => ?_)
    have hP : va_P D vwCl (oW ca o (vp_updL v0 0 zr.toInt64) ++ cW ca Ad g2) H2 := hP
    have hD : va_D A (oW ca o (vp_updL v0 0 zr.toInt64) ++ cW ca Ad g2) := hD
    refine lv_goto (tgt := 15) hx hb dL_join_9 (by decide) ?_
    refine lv_iconst (v := nI 0) hx hb dL_join_15 (by decide) ?_
    exact W.iret (v := nI 0) hx hb hr (fun t ht hW => ⟨⟨_, (g2, vp_updL v0 0 zr.toInt64), rfl, ⟨by rw [hR], fun _ => by rw [hR]; rfl, by rw [hR], hg2⟩, by rw [ht]; exact hP, hD⟩, hS.F ht⟩) hS.2.2 dL_join_16
set_option maxHeartbeats 4000000 in
set_option maxRecDepth 100000 in
theorem wL_scratch (l : Launch) (hl0 : l.stackTraces = false) (D : va_G) (ca : Nat → ClassId) (sz : Nat) (Ad : CA) (g : CG) (o : Nat) (v0 : Nat → Int64) (x : Int32) (v : Int32) (hg : okCg g) (hz : g.1.1 ≤ 30) : Met l yL_scratch wsL_scratch RML (pcZ D ca [.ref Ad.1, .int x, .int v, .ref o] (oW ca o v0 ++ cW ca Ad g) sz) (va_Qi (fun (zr : Int32) (u : CG × (Nat → Int64)) => wrP (R_scratch (abC g) x v) zr u) (qB D (va_A (oW ca o v0 ++ cW ca Ad g) sz) (fun u : CG × (Nat → Int64) => oW ca o u.2 ++ cW ca Ad u.1)) (va_A (oW ca o v0 ++ cW ca Ad g) sz)) 8 240 (va_A (oW ca o v0 ++ cW ca Ad g) sz) := by
  refine my_ofWH (cc := cL_scratch) (maxL := 5) (ret := (some .int)) (hh := [(0, 10, 13, 24), (0, 10, 17, 13), (0, 10, 21, 15)]) (by decide) rfl ?_
  intro p e s m args below meth c s₁ B hml hv
  obtain ⟨rfl, hsz, hP, hK, hD0, hZ⟩ := hv
  have hx := B.exec
  have hb := B.bytes
  have hr := B.returns
  have hts := atoms_spec (ws := wsL_scratch) B.pre
  have hown : s.vm.findClass RL = some m.cls := findClass_of_methodNamed B.named
  have hlocks := B.notSynchronized
  have htb : c.exceptionTable.toList = _ := vx_table (x := yL_scratch) B (hts _ List.mem_cons_self)
  subst hsz
  have hD := hD0.self (sz := s.heap.size)
  generalize hAe : va_A (oW ca o v0 ++ cW ca Ad g) s.heap.size = A at hD hZ ⊢
  have hA : ∀ q : Nat, s.heap.size ≤ q → A q := fun q h => by rw [← hAe]; exact Or.inr h
  have hS : va_S A s.heap s.heap [] := va_S.rf
  have hl := lv_entry ([.ref Ad.1, .int x, .int v, .ref o]) (n := 5) (kk_le rfl)
  rw [lg_entry_eq]
  generalize (lg_sl ([.ref Ad.1, .int x, .int v, .ref o]) ++ List.replicate (5 - (lg_sl ([.ref Ad.1, .int x, .int v, .ref o])).length) Slot.unset).toArray = ls at hl ⊢
  have hl : lv_has ls 5 [(0, .ref Ad.1), (1, .int x), (2, .int v), (3, .ref o)] := hl
  refine lv_aload_n hx hb dL_scratch_0 rfl (lv_at hl 3 rfl) ?_
  refine lv_iconst (v := nI 0) hx hb dL_scratch_1 (by decide) ?_
  refine lv_aload_n hx hb dL_scratch_2 rfl (lv_at hl 0 rfl) ?_
  refine lv_iload_n hx hb dL_scratch_3 rfl (lv_at hl 1 rfl) ?_
  refine lv_iload_n hx hb dL_scratch_4 rfl (lv_at hl 2 rfl) ?_
  have hP9 : va_P D vwCl (cW ca Ad g ++ oW ca o v0) s.heap := my_P_perm hP List.perm_append_comm
  have hD9 : va_D A (cW ca Ad g ++ oW ca o v0) := my_D_perm hD List.perm_append_comm
  have hFc := my_free hD9 hS hA
  refine vx_calli (vx_runV (As := [.int x, .int v]) (rest := [.int (nI 0), .ref o]) ⟨hx, hb, hml, hown, hts⟩ (cC_scratch l hl0 D ca s.heap.size Ad g x v hg hz) (cwV 2 hts gL_scratch_X5_scratch rfl rfl rfl (by decide +kernel) ⟨kk_le rfl, kk_le rfl⟩) (pvZ hK (my_P_left hP9) (my_D_true (my_D_left hD9)) (hZ.at hS hFc) (cW_rc hK (my_P_left hP9))) rfl rfl hl.1 rfl (lv_room (kk_le rfl)) dL_scratch_5 ⟨kk_le rfl, kk_le rfl⟩) hS (fun q _ h => hFc q h) hFc (fun q _ h => hFc q h) ?_ ?_
  · intro E ce q9 g2 t H1 locs1 ht hal hpx hBX h1 h2 hS hcell hvm hcl
    obtain ⟨⟨k9, hR, hE⟩, hP1, hD1⟩ := hBX
    rw [ht] at hP1
    obtain ⟨hP, hD⟩ := my_join hP9 hD9 h2 hFc hP1 hD1
    have hP := my_P_perm hP List.perm_append_comm
    have hD := my_D_perm hD List.perm_append_comm
    obtain ⟨rfl, rfl⟩ | ⟨rfl, rfl⟩ | ⟨rfl, rfl⟩ := exOAS_c hE
    · refine vx_catch hown [] ⟨0, 10, 13, 24⟩ [⟨0, 10, 17, 13⟩, ⟨0, 10, 21, 15⟩] htb (fun z hz => nomatch hz) rfl (by decide) (hts (.classLink RL 24 "java/lang/IndexOutOfBoundsException") (by decide +kernel)) (va_Nw.use rfl hK.2.cIndexOutOfBoundsException) hcell hvm hcl ?_
      refine lv_astore (lv' := [(4, .ref q9), (0, .ref Ad.1), (1, .int x), (2, .int v), (3, .ref o)]) hx hb dL_scratch_13 hl (by decide) rfl (fun ls hl => ?_)
      refine lv_iconst (v := nI 1) hx hb dL_scratch_15 (by decide) ?_
      exact W.iret (v := nI 1) hx hb hr (fun t ht hW => ⟨⟨_, (g2, v0), rfl, ⟨by rw [hR], fun h => absurd h (by decide), by rw [hR]; exact hpx.2.symm, hpx.1⟩, by rw [ht]; exact hP, hD⟩, hS.F ht⟩) hS.2.2 dL_scratch_16
    · refine vx_catch hown [⟨0, 10, 13, 24⟩] ⟨0, 10, 17, 13⟩ [⟨0, 10, 21, 15⟩] htb (by
          intro z hz
          simp only [List.mem_cons, List.not_mem_nil, or_false] at hz
          rcases hz with rfl
          exact Or.inr ⟨by decide, "java/lang/IndexOutOfBoundsException", hts (.classLink RL 24 "java/lang/IndexOutOfBoundsException") (by decide +kernel), hK.2.nIllegalArgumentException_IndexOutOfBoundsException⟩) rfl (by decide) (hts (.classLink RL 13 "java/lang/IllegalArgumentException") (by decide +kernel)) (va_Nw.use rfl hK.2.cIllegalArgumentException) hcell hvm hcl ?_
      refine lv_astore (lv' := [(4, .ref q9), (0, .ref Ad.1), (1, .int x), (2, .int v), (3, .ref o)]) hx hb dL_scratch_17 hl (by decide) rfl (fun ls hl => ?_)
      refine lv_iconst (v := nI 2) hx hb dL_scratch_19 (by decide) ?_
      exact W.iret (v := nI 2) hx hb hr (fun t ht hW => ⟨⟨_, (g2, v0), rfl, ⟨by rw [hR], fun h => absurd h (by decide), by rw [hR]; exact hpx.2.symm, hpx.1⟩, by rw [ht]; exact hP, hD⟩, hS.F ht⟩) hS.2.2 dL_scratch_20
    · refine vx_catch hown [⟨0, 10, 13, 24⟩, ⟨0, 10, 17, 13⟩] ⟨0, 10, 21, 15⟩ [] htb (by
          intro z hz
          simp only [List.mem_cons, List.not_mem_nil, or_false] at hz
          rcases hz with rfl | rfl
          · exact Or.inr ⟨by decide, "java/lang/IndexOutOfBoundsException", hts (.classLink RL 24 "java/lang/IndexOutOfBoundsException") (by decide +kernel), hK.2.nIllegalStateException_IndexOutOfBoundsException⟩
          · exact Or.inr ⟨by decide, "java/lang/IllegalArgumentException", hts (.classLink RL 13 "java/lang/IllegalArgumentException") (by decide +kernel), hK.2.nIllegalStateException_IllegalArgumentException⟩) rfl (by decide) (hts (.classLink RL 15 "java/lang/IllegalStateException") (by decide +kernel)) (va_Nw.use rfl hK.2.cIllegalStateException) hcell hvm hcl ?_
      refine lv_astore (lv' := [(4, .ref q9), (0, .ref Ad.1), (1, .int x), (2, .int v), (3, .ref o)]) hx hb dL_scratch_21 hl (by decide) rfl (fun ls hl => ?_)
      refine lv_iconst (v := nI 3) hx hb dL_scratch_23 (by decide) ?_
      exact W.iret (v := nI 3) hx hb hr (fun t ht hW => ⟨⟨_, (g2, v0), rfl, ⟨by rw [hR], fun h => absurd h (by decide), by rw [hR]; exact hpx.2.symm, hpx.1⟩, by rw [ht]; exact hP, hD⟩, hS.F ht⟩) hS.2.2 dL_scratch_24
  · intro zr g2 t H1 locs1 ht hal hpost hB h1 h2 hS
    obtain ⟨hP1, hD1⟩ := hB
    rw [ht] at hP1
    obtain ⟨hR, hg2⟩ := hpost
    obtain ⟨hP, hD⟩ := my_join hP9 hD9 h2 hFc hP1 hD1
    have hP : va_P D vwCl (oW ca o v0 ++ cW ca Ad g2) H1 := my_P_perm hP List.perm_append_comm
    have hD : va_D A (oW ca o v0 ++ cW ca Ad g2) := my_D_perm hD List.perm_append_comm
    refine lv_i2l hx hb dL_scratch_8 rfl ?_
    refine my_last hx hb hK hP hD hS 0 rfl (by omega) (by omega) dL_scratch_9 (fun H2 locs2 hP hD hS => ?_)
    have hP : va_P D vwCl (oW ca o (vp_updL v0 0 zr.toInt64) ++ cW ca Ad g2) H2 := hP
    have hD : va_D A (oW ca o (vp_updL v0 0 zr.toInt64) ++ cW ca Ad g2) := hD
    refine lv_goto (tgt := 25) hx hb dL_scratch_10 (by decide) ?_
    refine lv_iconst (v := nI 0) hx hb dL_scratch_25 (by decide) ?_
    exact W.iret (v := nI 0) hx hb hr (fun t ht hW => ⟨⟨_, (g2, vp_updL v0 0 zr.toInt64), rfl, ⟨by rw [hR], fun _ => by rw [hR]; rfl, by rw [hR], hg2⟩, by rw [ht]; exact hP, hD⟩, hS.F ht⟩) hS.2.2 dL_scratch_26
set_option maxHeartbeats 4000000 in
set_option maxRecDepth 100000 in
theorem wL_change (l : Launch) (hl0 : l.stackTraces = false) (D : va_G) (ca : Nat → ClassId) (sz : Nat) (Ad : CA) (g : CG) (o : Nat) (v0 : Nat → Int64) (x : Int32) (v : Int32) (hg : okCg g) (hz : g.1.1 ≤ 30) : Met l yL_change wsL_change RML (pcZ D ca [.ref Ad.1, .int x, .int v, .ref o] (oW ca o v0 ++ cW ca Ad g) sz) (va_Qi (fun (zr : Int32) (u : CG × (Nat → Int64)) => wrP (R_change (abC g) x v) zr u) (qB D (va_A (oW ca o v0 ++ cW ca Ad g) sz) (fun u : CG × (Nat → Int64) => oW ca o u.2 ++ cW ca Ad u.1)) (va_A (oW ca o v0 ++ cW ca Ad g) sz)) 8 240 (va_A (oW ca o v0 ++ cW ca Ad g) sz) := by
  refine my_ofWH (cc := cL_change) (maxL := 5) (ret := (some .int)) (hh := [(0, 10, 13, 24), (0, 10, 17, 13)]) (by decide) rfl ?_
  intro p e s m args below meth c s₁ B hml hv
  obtain ⟨rfl, hsz, hP, hK, hD0, hZ⟩ := hv
  have hx := B.exec
  have hb := B.bytes
  have hr := B.returns
  have hts := atoms_spec (ws := wsL_change) B.pre
  have hown : s.vm.findClass RL = some m.cls := findClass_of_methodNamed B.named
  have hlocks := B.notSynchronized
  have htb : c.exceptionTable.toList = _ := vx_table (x := yL_change) B (hts _ List.mem_cons_self)
  subst hsz
  have hD := hD0.self (sz := s.heap.size)
  generalize hAe : va_A (oW ca o v0 ++ cW ca Ad g) s.heap.size = A at hD hZ ⊢
  have hA : ∀ q : Nat, s.heap.size ≤ q → A q := fun q h => by rw [← hAe]; exact Or.inr h
  have hS : va_S A s.heap s.heap [] := va_S.rf
  have hl := lv_entry ([.ref Ad.1, .int x, .int v, .ref o]) (n := 5) (kk_le rfl)
  rw [lg_entry_eq]
  generalize (lg_sl ([.ref Ad.1, .int x, .int v, .ref o]) ++ List.replicate (5 - (lg_sl ([.ref Ad.1, .int x, .int v, .ref o])).length) Slot.unset).toArray = ls at hl ⊢
  have hl : lv_has ls 5 [(0, .ref Ad.1), (1, .int x), (2, .int v), (3, .ref o)] := hl
  refine lv_aload_n hx hb dL_change_0 rfl (lv_at hl 3 rfl) ?_
  refine lv_iconst (v := nI 0) hx hb dL_change_1 (by decide) ?_
  refine lv_aload_n hx hb dL_change_2 rfl (lv_at hl 0 rfl) ?_
  refine lv_iload_n hx hb dL_change_3 rfl (lv_at hl 1 rfl) ?_
  refine lv_iload_n hx hb dL_change_4 rfl (lv_at hl 2 rfl) ?_
  have hP9 : va_P D vwCl (cW ca Ad g ++ oW ca o v0) s.heap := my_P_perm hP List.perm_append_comm
  have hD9 : va_D A (cW ca Ad g ++ oW ca o v0) := my_D_perm hD List.perm_append_comm
  have hFc := my_free hD9 hS hA
  refine vx_calli (vx_runV (As := [.int x, .int v]) (rest := [.int (nI 0), .ref o]) ⟨hx, hb, hml, hown, hts⟩ (cC_change l hl0 D ca s.heap.size Ad g x v hg hz) (cwV 2 hts gL_change_X5_change rfl rfl rfl (by decide +kernel) ⟨kk_le rfl, kk_le rfl⟩) (pvZ hK (my_P_left hP9) (my_D_true (my_D_left hD9)) (hZ.at hS hFc) (cW_rc hK (my_P_left hP9))) rfl rfl hl.1 rfl (lv_room (kk_le rfl)) dL_change_5 ⟨kk_le rfl, kk_le rfl⟩) hS (fun q _ h => hFc q h) hFc (fun q _ h => hFc q h) ?_ ?_
  · intro E ce q9 g2 t H1 locs1 ht hal hpx hBX h1 h2 hS hcell hvm hcl
    obtain ⟨⟨k9, hR, hE⟩, hP1, hD1⟩ := hBX
    rw [ht] at hP1
    obtain ⟨hP, hD⟩ := my_join hP9 hD9 h2 hFc hP1 hD1
    have hP := my_P_perm hP List.perm_append_comm
    have hD := my_D_perm hD List.perm_append_comm
    obtain ⟨rfl, rfl⟩ | ⟨rfl, rfl⟩ := exOA_c hE
    · refine vx_catch hown [] ⟨0, 10, 13, 24⟩ [⟨0, 10, 17, 13⟩] htb (fun z hz => nomatch hz) rfl (by decide) (hts (.classLink RL 24 "java/lang/IndexOutOfBoundsException") (by decide +kernel)) (va_Nw.use rfl hK.2.cIndexOutOfBoundsException) hcell hvm hcl ?_
      refine lv_astore (lv' := [(4, .ref q9), (0, .ref Ad.1), (1, .int x), (2, .int v), (3, .ref o)]) hx hb dL_change_13 hl (by decide) rfl (fun ls hl => ?_)
      refine lv_iconst (v := nI 1) hx hb dL_change_15 (by decide) ?_
      exact W.iret (v := nI 1) hx hb hr (fun t ht hW => ⟨⟨_, (g2, v0), rfl, ⟨by rw [hR], fun h => absurd h (by decide), by rw [hR]; exact hpx.2.symm, hpx.1⟩, by rw [ht]; exact hP, hD⟩, hS.F ht⟩) hS.2.2 dL_change_16
    · refine vx_catch hown [⟨0, 10, 13, 24⟩] ⟨0, 10, 17, 13⟩ [] htb (by
          intro z hz
          simp only [List.mem_cons, List.not_mem_nil, or_false] at hz
          rcases hz with rfl
          exact Or.inr ⟨by decide, "java/lang/IndexOutOfBoundsException", hts (.classLink RL 24 "java/lang/IndexOutOfBoundsException") (by decide +kernel), hK.2.nIllegalArgumentException_IndexOutOfBoundsException⟩) rfl (by decide) (hts (.classLink RL 13 "java/lang/IllegalArgumentException") (by decide +kernel)) (va_Nw.use rfl hK.2.cIllegalArgumentException) hcell hvm hcl ?_
      refine lv_astore (lv' := [(4, .ref q9), (0, .ref Ad.1), (1, .int x), (2, .int v), (3, .ref o)]) hx hb dL_change_17 hl (by decide) rfl (fun ls hl => ?_)
      refine lv_iconst (v := nI 2) hx hb dL_change_19 (by decide) ?_
      exact W.iret (v := nI 2) hx hb hr (fun t ht hW => ⟨⟨_, (g2, v0), rfl, ⟨by rw [hR], fun h => absurd h (by decide), by rw [hR]; exact hpx.2.symm, hpx.1⟩, by rw [ht]; exact hP, hD⟩, hS.F ht⟩) hS.2.2 dL_change_20
  · intro zr g2 t H1 locs1 ht hal hpost hB h1 h2 hS
    obtain ⟨hP1, hD1⟩ := hB
    rw [ht] at hP1
    obtain ⟨hR, hg2⟩ := hpost
    obtain ⟨hP, hD⟩ := my_join hP9 hD9 h2 hFc hP1 hD1
    have hP : va_P D vwCl (oW ca o v0 ++ cW ca Ad g2) H1 := my_P_perm hP List.perm_append_comm
    have hD : va_D A (oW ca o v0 ++ cW ca Ad g2) := my_D_perm hD List.perm_append_comm
    refine lv_i2l hx hb dL_change_8 rfl ?_
    refine my_last hx hb hK hP hD hS 0 rfl (by omega) (by omega) dL_change_9 (fun H2 locs2 hP hD hS => ?_)
    have hP : va_P D vwCl (oW ca o (vp_updL v0 0 zr.toInt64) ++ cW ca Ad g2) H2 := hP
    have hD : va_D A (oW ca o (vp_updL v0 0 zr.toInt64) ++ cW ca Ad g2) := hD
    refine lv_goto (tgt := 21) hx hb dL_change_10 (by decide) ?_
    refine lv_iconst (v := nI 0) hx hb dL_change_21 (by decide) ?_
    exact W.iret (v := nI 0) hx hb hr (fun t ht hW => ⟨⟨_, (g2, vp_updL v0 0 zr.toInt64), rfl, ⟨by rw [hR], fun _ => by rw [hR]; rfl, by rw [hR], hg2⟩, by rw [ht]; exact hP, hD⟩, hS.F ht⟩) hS.2.2 dL_change_22
set_option maxHeartbeats 4000000 in
set_option maxRecDepth 100000 in
theorem wL_set (l : Launch) (hl0 : l.stackTraces = false) (D : va_G) (ca : Nat → ClassId) (sz : Nat) (Ad : CA) (g : CG) (o : Nat) (v0 : Nat → Int64) (x : Int32) (v : Int32) (hg : okCg g) (hz : g.1.1 ≤ 30) : Met l yL_set wsL_set RML (pcZ D ca [.ref Ad.1, .int x, .int v, .ref o] (oW ca o v0 ++ cW ca Ad g) sz) (va_Qi (fun (zr : Int32) (u : CG × (Nat → Int64)) => wrP (R_set (abC g) x v) zr u) (qB D (va_A (oW ca o v0 ++ cW ca Ad g) sz) (fun u : CG × (Nat → Int64) => oW ca o u.2 ++ cW ca Ad u.1)) (va_A (oW ca o v0 ++ cW ca Ad g) sz)) 8 240 (va_A (oW ca o v0 ++ cW ca Ad g) sz) := by
  refine my_ofWH (cc := cL_set) (maxL := 5) (ret := (some .int)) (hh := [(0, 10, 13, 24), (0, 10, 17, 13)]) (by decide) rfl ?_
  intro p e s m args below meth c s₁ B hml hv
  obtain ⟨rfl, hsz, hP, hK, hD0, hZ⟩ := hv
  have hx := B.exec
  have hb := B.bytes
  have hr := B.returns
  have hts := atoms_spec (ws := wsL_set) B.pre
  have hown : s.vm.findClass RL = some m.cls := findClass_of_methodNamed B.named
  have hlocks := B.notSynchronized
  have htb : c.exceptionTable.toList = _ := vx_table (x := yL_set) B (hts _ List.mem_cons_self)
  subst hsz
  have hD := hD0.self (sz := s.heap.size)
  generalize hAe : va_A (oW ca o v0 ++ cW ca Ad g) s.heap.size = A at hD hZ ⊢
  have hA : ∀ q : Nat, s.heap.size ≤ q → A q := fun q h => by rw [← hAe]; exact Or.inr h
  have hS : va_S A s.heap s.heap [] := va_S.rf
  have hl := lv_entry ([.ref Ad.1, .int x, .int v, .ref o]) (n := 5) (kk_le rfl)
  rw [lg_entry_eq]
  generalize (lg_sl ([.ref Ad.1, .int x, .int v, .ref o]) ++ List.replicate (5 - (lg_sl ([.ref Ad.1, .int x, .int v, .ref o])).length) Slot.unset).toArray = ls at hl ⊢
  have hl : lv_has ls 5 [(0, .ref Ad.1), (1, .int x), (2, .int v), (3, .ref o)] := hl
  refine lv_aload_n hx hb dL_set_0 rfl (lv_at hl 3 rfl) ?_
  refine lv_iconst (v := nI 0) hx hb dL_set_1 (by decide) ?_
  refine lv_aload_n hx hb dL_set_2 rfl (lv_at hl 0 rfl) ?_
  refine lv_iload_n hx hb dL_set_3 rfl (lv_at hl 1 rfl) ?_
  refine lv_iload_n hx hb dL_set_4 rfl (lv_at hl 2 rfl) ?_
  have hP9 : va_P D vwCl (cW ca Ad g ++ oW ca o v0) s.heap := my_P_perm hP List.perm_append_comm
  have hD9 : va_D A (cW ca Ad g ++ oW ca o v0) := my_D_perm hD List.perm_append_comm
  have hFc := my_free hD9 hS hA
  refine vx_calli (vx_runV (As := [.int x, .int v]) (rest := [.int (nI 0), .ref o]) ⟨hx, hb, hml, hown, hts⟩ (cC_set l hl0 D ca s.heap.size Ad g x v hg hz) (cwV 2 hts gL_set_X5_set rfl rfl rfl (by decide +kernel) ⟨kk_le rfl, kk_le rfl⟩) (pvZ hK (my_P_left hP9) (my_D_true (my_D_left hD9)) (hZ.at hS hFc) (cW_rc hK (my_P_left hP9))) rfl rfl hl.1 rfl (lv_room (kk_le rfl)) dL_set_5 ⟨kk_le rfl, kk_le rfl⟩) hS (fun q _ h => hFc q h) hFc (fun q _ h => hFc q h) ?_ ?_
  · intro E ce q9 g2 t H1 locs1 ht hal hpx hBX h1 h2 hS hcell hvm hcl
    obtain ⟨⟨k9, hR, hE⟩, hP1, hD1⟩ := hBX
    rw [ht] at hP1
    obtain ⟨hP, hD⟩ := my_join hP9 hD9 h2 hFc hP1 hD1
    have hP := my_P_perm hP List.perm_append_comm
    have hD := my_D_perm hD List.perm_append_comm
    obtain ⟨rfl, rfl⟩ | ⟨rfl, rfl⟩ := exOA_c hE
    · refine vx_catch hown [] ⟨0, 10, 13, 24⟩ [⟨0, 10, 17, 13⟩] htb (fun z hz => nomatch hz) rfl (by decide) (hts (.classLink RL 24 "java/lang/IndexOutOfBoundsException") (by decide +kernel)) (va_Nw.use rfl hK.2.cIndexOutOfBoundsException) hcell hvm hcl ?_
      refine lv_astore (lv' := [(4, .ref q9), (0, .ref Ad.1), (1, .int x), (2, .int v), (3, .ref o)]) hx hb dL_set_13 hl (by decide) rfl (fun ls hl => ?_)
      refine lv_iconst (v := nI 1) hx hb dL_set_15 (by decide) ?_
      exact W.iret (v := nI 1) hx hb hr (fun t ht hW => ⟨⟨_, (g2, v0), rfl, ⟨by rw [hR], fun h => absurd h (by decide), by rw [hR]; exact hpx.2.symm, hpx.1⟩, by rw [ht]; exact hP, hD⟩, hS.F ht⟩) hS.2.2 dL_set_16
    · refine vx_catch hown [⟨0, 10, 13, 24⟩] ⟨0, 10, 17, 13⟩ [] htb (by
          intro z hz
          simp only [List.mem_cons, List.not_mem_nil, or_false] at hz
          rcases hz with rfl
          exact Or.inr ⟨by decide, "java/lang/IndexOutOfBoundsException", hts (.classLink RL 24 "java/lang/IndexOutOfBoundsException") (by decide +kernel), hK.2.nIllegalArgumentException_IndexOutOfBoundsException⟩) rfl (by decide) (hts (.classLink RL 13 "java/lang/IllegalArgumentException") (by decide +kernel)) (va_Nw.use rfl hK.2.cIllegalArgumentException) hcell hvm hcl ?_
      refine lv_astore (lv' := [(4, .ref q9), (0, .ref Ad.1), (1, .int x), (2, .int v), (3, .ref o)]) hx hb dL_set_17 hl (by decide) rfl (fun ls hl => ?_)
      refine lv_iconst (v := nI 2) hx hb dL_set_19 (by decide) ?_
      exact W.iret (v := nI 2) hx hb hr (fun t ht hW => ⟨⟨_, (g2, v0), rfl, ⟨by rw [hR], fun h => absurd h (by decide), by rw [hR]; exact hpx.2.symm, hpx.1⟩, by rw [ht]; exact hP, hD⟩, hS.F ht⟩) hS.2.2 dL_set_20
  · intro zr g2 t H1 locs1 ht hal hpost hB h1 h2 hS
    obtain ⟨hP1, hD1⟩ := hB
    rw [ht] at hP1
    obtain ⟨hR, hg2⟩ := hpost
    obtain ⟨hP, hD⟩ := my_join hP9 hD9 h2 hFc hP1 hD1
    have hP : va_P D vwCl (oW ca o v0 ++ cW ca Ad g2) H1 := my_P_perm hP List.perm_append_comm
    have hD : va_D A (oW ca o v0 ++ cW ca Ad g2) := my_D_perm hD List.perm_append_comm
    refine lv_i2l hx hb dL_set_8 rfl ?_
    refine my_last hx hb hK hP hD hS 0 rfl (by omega) (by omega) dL_set_9 (fun H2 locs2 hP hD hS => ?_)
    have hP : va_P D vwCl (oW ca o (vp_updL v0 0 zr.toInt64) ++ cW ca Ad g2) H2 := hP
    have hD : va_D A (oW ca o (vp_updL v0 0 zr.toInt64) ++ cW ca Ad g2) := hD
    refine lv_goto (tgt := 21) hx hb dL_set_10 (by decide) ?_
    refine lv_iconst (v := nI 0) hx hb dL_set_21 (by decide) ?_
    exact W.iret (v := nI 0) hx hb hr (fun t ht hW => ⟨⟨_, (g2, vp_updL v0 0 zr.toInt64), rfl, ⟨by rw [hR], fun _ => by rw [hR]; rfl, by rw [hR], hg2⟩, by rw [ht]; exact hP, hD⟩, hS.F ht⟩) hS.2.2 dL_set_22
set_option maxHeartbeats 4000000 in
set_option maxRecDepth 100000 in
theorem wL_append (l : Launch) (hl0 : l.stackTraces = false) (D : va_G) (ca : Nat → ClassId) (sz : Nat) (Ad : CA) (g : CG) (o : Nat) (v0 : Nat → Int64) (x : Int32) (hg : okCg g) (hz : g.1.1 ≤ 30) : Met l yL_append wsL_append RML (pcZ D ca [.ref Ad.1, .int x, .ref o] (oW ca o v0 ++ cW ca Ad g) sz) (va_Qi (fun (zr : Int32) (u : CG × (Nat → Int64)) => wrP (R_append (abC g) x) zr u) (qB D (va_A (oW ca o v0 ++ cW ca Ad g) sz) (fun u : CG × (Nat → Int64) => oW ca o u.2 ++ cW ca Ad u.1)) (va_A (oW ca o v0 ++ cW ca Ad g) sz)) 8 240 (va_A (oW ca o v0 ++ cW ca Ad g) sz) := by
  refine my_ofWH (cc := cL_append) (maxL := 4) (ret := (some .int)) (hh := [(0, 9, 12, 13), (0, 9, 15, 15)]) (by decide) rfl ?_
  intro p e s m args below meth c s₁ B hml hv
  obtain ⟨rfl, hsz, hP, hK, hD0, hZ⟩ := hv
  have hx := B.exec
  have hb := B.bytes
  have hr := B.returns
  have hts := atoms_spec (ws := wsL_append) B.pre
  have hown : s.vm.findClass RL = some m.cls := findClass_of_methodNamed B.named
  have hlocks := B.notSynchronized
  have htb : c.exceptionTable.toList = _ := vx_table (x := yL_append) B (hts _ List.mem_cons_self)
  subst hsz
  have hD := hD0.self (sz := s.heap.size)
  generalize hAe : va_A (oW ca o v0 ++ cW ca Ad g) s.heap.size = A at hD hZ ⊢
  have hA : ∀ q : Nat, s.heap.size ≤ q → A q := fun q h => by rw [← hAe]; exact Or.inr h
  have hS : va_S A s.heap s.heap [] := va_S.rf
  have hl := lv_entry ([.ref Ad.1, .int x, .ref o]) (n := 4) (kk_le rfl)
  rw [lg_entry_eq]
  generalize (lg_sl ([.ref Ad.1, .int x, .ref o]) ++ List.replicate (4 - (lg_sl ([.ref Ad.1, .int x, .ref o])).length) Slot.unset).toArray = ls at hl ⊢
  have hl : lv_has ls 4 [(0, .ref Ad.1), (1, .int x), (2, .ref o)] := hl
  refine lv_aload_n hx hb dL_append_0 rfl (lv_at hl 2 rfl) ?_
  refine lv_iconst (v := nI 0) hx hb dL_append_1 (by decide) ?_
  refine lv_aload_n hx hb dL_append_2 rfl (lv_at hl 0 rfl) ?_
  refine lv_iload_n hx hb dL_append_3 rfl (lv_at hl 1 rfl) ?_
  have hP9 : va_P D vwCl (cW ca Ad g ++ oW ca o v0) s.heap := my_P_perm hP List.perm_append_comm
  have hD9 : va_D A (cW ca Ad g ++ oW ca o v0) := my_D_perm hD List.perm_append_comm
  have hFc := my_free hD9 hS hA
  refine vx_calli (vx_runV (As := [.int x]) (rest := [.int (nI 0), .ref o]) ⟨hx, hb, hml, hown, hts⟩ (cC_append l hl0 D ca s.heap.size Ad g x hg hz) (cwV 1 hts gL_append_X5_append rfl rfl rfl (by decide +kernel) ⟨kk_le rfl, kk_le rfl⟩) (pvZ hK (my_P_left hP9) (my_D_true (my_D_left hD9)) (hZ.at hS hFc) (cW_rc hK (my_P_left hP9))) rfl rfl hl.1 rfl (lv_room (kk_le rfl)) dL_append_4 ⟨kk_le rfl, kk_le rfl⟩) hS (fun q _ h => hFc q h) hFc (fun q _ h => hFc q h) ?_ ?_
  · intro E ce q9 g2 t H1 locs1 ht hal hpx hBX h1 h2 hS hcell hvm hcl
    obtain ⟨⟨k9, hR, hE⟩, hP1, hD1⟩ := hBX
    rw [ht] at hP1
    obtain ⟨hP, hD⟩ := my_join hP9 hD9 h2 hFc hP1 hD1
    have hP := my_P_perm hP List.perm_append_comm
    have hD := my_D_perm hD List.perm_append_comm
    obtain ⟨rfl, rfl⟩ | ⟨rfl, rfl⟩ := exAS_c hE
    · refine vx_catch hown [] ⟨0, 9, 12, 13⟩ [⟨0, 9, 15, 15⟩] htb (fun z hz => nomatch hz) rfl (by decide) (hts (.classLink RL 13 "java/lang/IllegalArgumentException") (by decide +kernel)) (va_Nw.use rfl hK.2.cIllegalArgumentException) hcell hvm hcl ?_
      refine lv_astore_n (lv' := [(3, .ref q9), (0, .ref Ad.1), (1, .int x), (2, .ref o)]) hx hb dL_append_12 rfl hl (by decide) rfl (fun ls hl => ?_)
      refine lv_iconst (v := nI 1) hx hb dL_append_13 (by decide) ?_
      exact W.iret (v := nI 1) hx hb hr (fun t ht hW => ⟨⟨_, (g2, v0), rfl, ⟨by rw [hR], fun h => absurd h (by decide), by rw [hR]; exact hpx.2.symm, hpx.1⟩, by rw [ht]; exact hP, hD⟩, hS.F ht⟩) hS.2.2 dL_append_14
    · refine vx_catch hown [⟨0, 9, 12, 13⟩] ⟨0, 9, 15, 15⟩ [] htb (by
          intro z hz
          simp only [List.mem_cons, List.not_mem_nil, or_false] at hz
          rcases hz with rfl
          exact Or.inr ⟨by decide, "java/lang/IllegalArgumentException", hts (.classLink RL 13 "java/lang/IllegalArgumentException") (by decide +kernel), hK.2.nIllegalStateException_IllegalArgumentException⟩) rfl (by decide) (hts (.classLink RL 15 "java/lang/IllegalStateException") (by decide +kernel)) (va_Nw.use rfl hK.2.cIllegalStateException) hcell hvm hcl ?_
      refine lv_astore_n (lv' := [(3, .ref q9), (0, .ref Ad.1), (1, .int x), (2, .ref o)]) hx hb dL_append_15 rfl hl (by decide) rfl (fun ls hl => ?_)
      refine lv_iconst (v := nI 2) hx hb dL_append_16 (by decide) ?_
      exact W.iret (v := nI 2) hx hb hr (fun t ht hW => ⟨⟨_, (g2, v0), rfl, ⟨by rw [hR], fun h => absurd h (by decide), by rw [hR]; exact hpx.2.symm, hpx.1⟩, by rw [ht]; exact hP, hD⟩, hS.F ht⟩) hS.2.2 dL_append_17
  · intro zr g2 t H1 locs1 ht hal hpost hB h1 h2 hS
    obtain ⟨hP1, hD1⟩ := hB
    rw [ht] at hP1
    obtain ⟨hR, hg2⟩ := hpost
    obtain ⟨hP, hD⟩ := my_join hP9 hD9 h2 hFc hP1 hD1
    have hP : va_P D vwCl (oW ca o v0 ++ cW ca Ad g2) H1 := my_P_perm hP List.perm_append_comm
    have hD : va_D A (oW ca o v0 ++ cW ca Ad g2) := my_D_perm hD List.perm_append_comm
    refine lv_i2l hx hb dL_append_7 rfl ?_
    refine my_last hx hb hK hP hD hS 0 rfl (by omega) (by omega) dL_append_8 (fun H2 locs2 hP hD hS => ?_)
    have hP : va_P D vwCl (oW ca o (vp_updL v0 0 zr.toInt64) ++ cW ca Ad g2) H2 := hP
    have hD : va_D A (oW ca o (vp_updL v0 0 zr.toInt64) ++ cW ca Ad g2) := hD
    refine lv_goto (tgt := 18) hx hb dL_append_9 (by decide) ?_
    refine lv_iconst (v := nI 0) hx hb dL_append_18 (by decide) ?_
    exact W.iret (v := nI 0) hx hb hr (fun t ht hW => ⟨⟨_, (g2, vp_updL v0 0 zr.toInt64), rfl, ⟨by rw [hR], fun _ => by rw [hR]; rfl, by rw [hR], hg2⟩, by rw [ht]; exact hP, hD⟩, hS.F ht⟩) hS.2.2 dL_append_19
set_option maxHeartbeats 4000000 in
set_option maxRecDepth 100000 in
theorem wL_keep (l : Launch) (hl0 : l.stackTraces = false) (D : va_G) (ca : Nat → ClassId) (sz : Nat) (Ad : CA) (g : CG) (o : Nat) (v0 : Nat → Int64) (x : Int32) (hg : okCg g) (hz : g.1.1 ≤ 30) : Met l yL_keep wsL_keep RML (pcZ D ca [.ref Ad.1, .int x, .ref o] (oW ca o v0 ++ cW ca Ad g) sz) (va_Qi (fun (zr : Int32) (u : CG × (Nat → Int64)) => wrP (R_keep (abC g) x) zr u) (qB D (va_A (oW ca o v0 ++ cW ca Ad g) sz) (fun u : CG × (Nat → Int64) => oW ca o u.2 ++ cW ca Ad u.1)) (va_A (oW ca o v0 ++ cW ca Ad g) sz)) 8 240 (va_A (oW ca o v0 ++ cW ca Ad g) sz) := by
  refine my_ofWH (cc := cL_keep) (maxL := 4) (ret := (some .int)) (hh := [(0, 9, 12, 13)]) (by decide) rfl ?_
  intro p e s m args below meth c s₁ B hml hv
  obtain ⟨rfl, hsz, hP, hK, hD0, hZ⟩ := hv
  have hx := B.exec
  have hb := B.bytes
  have hr := B.returns
  have hts := atoms_spec (ws := wsL_keep) B.pre
  have hown : s.vm.findClass RL = some m.cls := findClass_of_methodNamed B.named
  have hlocks := B.notSynchronized
  have htb : c.exceptionTable.toList = _ := vx_table (x := yL_keep) B (hts _ List.mem_cons_self)
  subst hsz
  have hD := hD0.self (sz := s.heap.size)
  generalize hAe : va_A (oW ca o v0 ++ cW ca Ad g) s.heap.size = A at hD hZ ⊢
  have hA : ∀ q : Nat, s.heap.size ≤ q → A q := fun q h => by rw [← hAe]; exact Or.inr h
  have hS : va_S A s.heap s.heap [] := va_S.rf
  have hl := lv_entry ([.ref Ad.1, .int x, .ref o]) (n := 4) (kk_le rfl)
  rw [lg_entry_eq]
  generalize (lg_sl ([.ref Ad.1, .int x, .ref o]) ++ List.replicate (4 - (lg_sl ([.ref Ad.1, .int x, .ref o])).length) Slot.unset).toArray = ls at hl ⊢
  have hl : lv_has ls 4 [(0, .ref Ad.1), (1, .int x), (2, .ref o)] := hl
  refine lv_aload_n hx hb dL_keep_0 rfl (lv_at hl 2 rfl) ?_
  refine lv_iconst (v := nI 0) hx hb dL_keep_1 (by decide) ?_
  refine lv_aload_n hx hb dL_keep_2 rfl (lv_at hl 0 rfl) ?_
  refine lv_iload_n hx hb dL_keep_3 rfl (lv_at hl 1 rfl) ?_
  have hP9 : va_P D vwCl (cW ca Ad g ++ oW ca o v0) s.heap := my_P_perm hP List.perm_append_comm
  have hD9 : va_D A (cW ca Ad g ++ oW ca o v0) := my_D_perm hD List.perm_append_comm
  have hFc := my_free hD9 hS hA
  refine vx_calli (vx_runV (As := [.int x]) (rest := [.int (nI 0), .ref o]) ⟨hx, hb, hml, hown, hts⟩ (cC_keep l hl0 D ca s.heap.size Ad g x hg hz) (cwV 1 hts gL_keep_X5_keep rfl rfl rfl (by decide +kernel) ⟨kk_le rfl, kk_le rfl⟩) (pvZ hK (my_P_left hP9) (my_D_true (my_D_left hD9)) (hZ.at hS hFc) (cW_rc hK (my_P_left hP9))) rfl rfl hl.1 rfl (lv_room (kk_le rfl)) dL_keep_4 ⟨kk_le rfl, kk_le rfl⟩) hS (fun q _ h => hFc q h) hFc (fun q _ h => hFc q h) ?_ ?_
  · intro E ce q9 g2 t H1 locs1 ht hal hpx hBX h1 h2 hS hcell hvm hcl
    obtain ⟨⟨k9, hR, hE⟩, hP1, hD1⟩ := hBX
    rw [ht] at hP1
    obtain ⟨hP, hD⟩ := my_join hP9 hD9 h2 hFc hP1 hD1
    have hP := my_P_perm hP List.perm_append_comm
    have hD := my_D_perm hD List.perm_append_comm
    obtain ⟨rfl, rfl⟩ := exA_c hE
    refine vx_catch hown [] ⟨0, 9, 12, 13⟩ [] htb (fun z hz => nomatch hz) rfl (by decide) (hts (.classLink RL 13 "java/lang/IllegalArgumentException") (by decide +kernel)) (va_Nw.use rfl hK.2.cIllegalArgumentException) hcell hvm hcl ?_
    refine lv_astore_n (lv' := [(3, .ref q9), (0, .ref Ad.1), (1, .int x), (2, .ref o)]) hx hb dL_keep_12 rfl hl (by decide) rfl (fun ls hl => ?_)
    refine lv_iconst (v := nI 1) hx hb dL_keep_13 (by decide) ?_
    exact W.iret (v := nI 1) hx hb hr (fun t ht hW => ⟨⟨_, (g2, v0), rfl, ⟨by rw [hR], fun h => absurd h (by decide), by rw [hR]; exact hpx.2.symm, hpx.1⟩, by rw [ht]; exact hP, hD⟩, hS.F ht⟩) hS.2.2 dL_keep_14
  · intro zr g2 t H1 locs1 ht hal hpost hB h1 h2 hS
    obtain ⟨hP1, hD1⟩ := hB
    rw [ht] at hP1
    obtain ⟨hR, hg2⟩ := hpost
    obtain ⟨hP, hD⟩ := my_join hP9 hD9 h2 hFc hP1 hD1
    have hP : va_P D vwCl (oW ca o v0 ++ cW ca Ad g2) H1 := my_P_perm hP List.perm_append_comm
    have hD : va_D A (oW ca o v0 ++ cW ca Ad g2) := my_D_perm hD List.perm_append_comm
    refine lv_i2l hx hb dL_keep_7 rfl ?_
    refine my_last hx hb hK hP hD hS 0 rfl (by omega) (by omega) dL_keep_8 (fun H2 locs2 hP hD hS => ?_)
    have hP : va_P D vwCl (oW ca o (vp_updL v0 0 zr.toInt64) ++ cW ca Ad g2) H2 := hP
    have hD : va_D A (oW ca o (vp_updL v0 0 zr.toInt64) ++ cW ca Ad g2) := hD
    refine lv_goto (tgt := 15) hx hb dL_keep_9 (by decide) ?_
    refine lv_iconst (v := nI 0) hx hb dL_keep_15 (by decide) ?_
    exact W.iret (v := nI 0) hx hb hr (fun t ht hW => ⟨⟨_, (g2, vp_updL v0 0 zr.toInt64), rfl, ⟨by rw [hR], fun _ => by rw [hR]; rfl, by rw [hR], hg2⟩, by rw [ht]; exact hP, hD⟩, hS.F ht⟩) hS.2.2 dL_keep_16
set_option maxHeartbeats 4000000 in
set_option maxRecDepth 100000 in
theorem wL_goBack (l : Launch) (hl0 : l.stackTraces = false) (D : va_G) (ca : Nat → ClassId) (sz : Nat) (Ad : CA) (g : CG) (o : Nat) (v0 : Nat → Int64) (x : Int32) (hg : okCg g) (hz : g.1.1 ≤ 30) : Met l yL_goBack wsL_goBack RML (pcZ D ca [.ref Ad.1, .int x, .ref o] (oW ca o v0 ++ cW ca Ad g) sz) (va_Qi (fun (zr : Int32) (u : CG × (Nat → Int64)) => wrP (R_goBack (abC g) x) zr u) (qB D (va_A (oW ca o v0 ++ cW ca Ad g) sz) (fun u : CG × (Nat → Int64) => oW ca o u.2 ++ cW ca Ad u.1)) (va_A (oW ca o v0 ++ cW ca Ad g) sz)) 8 240 (va_A (oW ca o v0 ++ cW ca Ad g) sz) := by
  refine my_ofWH (cc := cL_goBack) (maxL := 4) (ret := (some .int)) (hh := [(0, 9, 12, 13), (0, 9, 15, 15)]) (by decide) rfl ?_
  intro p e s m args below meth c s₁ B hml hv
  obtain ⟨rfl, hsz, hP, hK, hD0, hZ⟩ := hv
  have hx := B.exec
  have hb := B.bytes
  have hr := B.returns
  have hts := atoms_spec (ws := wsL_goBack) B.pre
  have hown : s.vm.findClass RL = some m.cls := findClass_of_methodNamed B.named
  have hlocks := B.notSynchronized
  have htb : c.exceptionTable.toList = _ := vx_table (x := yL_goBack) B (hts _ List.mem_cons_self)
  subst hsz
  have hD := hD0.self (sz := s.heap.size)
  generalize hAe : va_A (oW ca o v0 ++ cW ca Ad g) s.heap.size = A at hD hZ ⊢
  have hA : ∀ q : Nat, s.heap.size ≤ q → A q := fun q h => by rw [← hAe]; exact Or.inr h
  have hS : va_S A s.heap s.heap [] := va_S.rf
  have hl := lv_entry ([.ref Ad.1, .int x, .ref o]) (n := 4) (kk_le rfl)
  rw [lg_entry_eq]
  generalize (lg_sl ([.ref Ad.1, .int x, .ref o]) ++ List.replicate (4 - (lg_sl ([.ref Ad.1, .int x, .ref o])).length) Slot.unset).toArray = ls at hl ⊢
  have hl : lv_has ls 4 [(0, .ref Ad.1), (1, .int x), (2, .ref o)] := hl
  refine lv_aload_n hx hb dL_goBack_0 rfl (lv_at hl 2 rfl) ?_
  refine lv_iconst (v := nI 0) hx hb dL_goBack_1 (by decide) ?_
  refine lv_aload_n hx hb dL_goBack_2 rfl (lv_at hl 0 rfl) ?_
  refine lv_iload_n hx hb dL_goBack_3 rfl (lv_at hl 1 rfl) ?_
  have hP9 : va_P D vwCl (cW ca Ad g ++ oW ca o v0) s.heap := my_P_perm hP List.perm_append_comm
  have hD9 : va_D A (cW ca Ad g ++ oW ca o v0) := my_D_perm hD List.perm_append_comm
  have hFc := my_free hD9 hS hA
  refine vx_calli (vx_runV (As := [.int x]) (rest := [.int (nI 0), .ref o]) ⟨hx, hb, hml, hown, hts⟩ (cC_goBack l hl0 D ca s.heap.size Ad g x hg hz) (cwV 1 hts gL_goBack_X5_goBack rfl rfl rfl (by decide +kernel) ⟨kk_le rfl, kk_le rfl⟩) (pvZ hK (my_P_left hP9) (my_D_true (my_D_left hD9)) (hZ.at hS hFc) (cW_rc hK (my_P_left hP9))) rfl rfl hl.1 rfl (lv_room (kk_le rfl)) dL_goBack_4 ⟨kk_le rfl, kk_le rfl⟩) hS (fun q _ h => hFc q h) hFc (fun q _ h => hFc q h) ?_ ?_
  · intro E ce q9 g2 t H1 locs1 ht hal hpx hBX h1 h2 hS hcell hvm hcl
    obtain ⟨⟨k9, hR, hE⟩, hP1, hD1⟩ := hBX
    rw [ht] at hP1
    obtain ⟨hP, hD⟩ := my_join hP9 hD9 h2 hFc hP1 hD1
    have hP := my_P_perm hP List.perm_append_comm
    have hD := my_D_perm hD List.perm_append_comm
    obtain ⟨rfl, rfl⟩ | ⟨rfl, rfl⟩ := exAS_c hE
    · refine vx_catch hown [] ⟨0, 9, 12, 13⟩ [⟨0, 9, 15, 15⟩] htb (fun z hz => nomatch hz) rfl (by decide) (hts (.classLink RL 13 "java/lang/IllegalArgumentException") (by decide +kernel)) (va_Nw.use rfl hK.2.cIllegalArgumentException) hcell hvm hcl ?_
      refine lv_astore_n (lv' := [(3, .ref q9), (0, .ref Ad.1), (1, .int x), (2, .ref o)]) hx hb dL_goBack_12 rfl hl (by decide) rfl (fun ls hl => ?_)
      refine lv_iconst (v := nI 1) hx hb dL_goBack_13 (by decide) ?_
      exact W.iret (v := nI 1) hx hb hr (fun t ht hW => ⟨⟨_, (g2, v0), rfl, ⟨by rw [hR], fun h => absurd h (by decide), by rw [hR]; exact hpx.2.symm, hpx.1⟩, by rw [ht]; exact hP, hD⟩, hS.F ht⟩) hS.2.2 dL_goBack_14
    · refine vx_catch hown [⟨0, 9, 12, 13⟩] ⟨0, 9, 15, 15⟩ [] htb (by
          intro z hz
          simp only [List.mem_cons, List.not_mem_nil, or_false] at hz
          rcases hz with rfl
          exact Or.inr ⟨by decide, "java/lang/IllegalArgumentException", hts (.classLink RL 13 "java/lang/IllegalArgumentException") (by decide +kernel), hK.2.nIllegalStateException_IllegalArgumentException⟩) rfl (by decide) (hts (.classLink RL 15 "java/lang/IllegalStateException") (by decide +kernel)) (va_Nw.use rfl hK.2.cIllegalStateException) hcell hvm hcl ?_
      refine lv_astore_n (lv' := [(3, .ref q9), (0, .ref Ad.1), (1, .int x), (2, .ref o)]) hx hb dL_goBack_15 rfl hl (by decide) rfl (fun ls hl => ?_)
      refine lv_iconst (v := nI 2) hx hb dL_goBack_16 (by decide) ?_
      exact W.iret (v := nI 2) hx hb hr (fun t ht hW => ⟨⟨_, (g2, v0), rfl, ⟨by rw [hR], fun h => absurd h (by decide), by rw [hR]; exact hpx.2.symm, hpx.1⟩, by rw [ht]; exact hP, hD⟩, hS.F ht⟩) hS.2.2 dL_goBack_17
  · intro zr g2 t H1 locs1 ht hal hpost hB h1 h2 hS
    obtain ⟨hP1, hD1⟩ := hB
    rw [ht] at hP1
    obtain ⟨hR, hg2⟩ := hpost
    obtain ⟨hP, hD⟩ := my_join hP9 hD9 h2 hFc hP1 hD1
    have hP : va_P D vwCl (oW ca o v0 ++ cW ca Ad g2) H1 := my_P_perm hP List.perm_append_comm
    have hD : va_D A (oW ca o v0 ++ cW ca Ad g2) := my_D_perm hD List.perm_append_comm
    refine lv_i2l hx hb dL_goBack_7 rfl ?_
    refine my_last hx hb hK hP hD hS 0 rfl (by omega) (by omega) dL_goBack_8 (fun H2 locs2 hP hD hS => ?_)
    have hP : va_P D vwCl (oW ca o (vp_updL v0 0 zr.toInt64) ++ cW ca Ad g2) H2 := hP
    have hD : va_D A (oW ca o (vp_updL v0 0 zr.toInt64) ++ cW ca Ad g2) := hD
    refine lv_goto (tgt := 18) hx hb dL_goBack_9 (by decide) ?_
    refine lv_iconst (v := nI 0) hx hb dL_goBack_18 (by decide) ?_
    exact W.iret (v := nI 0) hx hb hr (fun t ht hW => ⟨⟨_, (g2, vp_updL v0 0 zr.toInt64), rfl, ⟨by rw [hR], fun _ => by rw [hR]; rfl, by rw [hR], hg2⟩, by rw [ht]; exact hP, hD⟩, hS.F ht⟩) hS.2.2 dL_goBack_19
set_option maxHeartbeats 4000000 in
set_option maxRecDepth 100000 in
theorem wL_undo (l : Launch) (hl0 : l.stackTraces = false) (D : va_G) (ca : Nat → ClassId) (sz : Nat) (Ad : CA) (g : CG) (o : Nat) (v0 : Nat → Int64) (hg : okCg g) (hz : g.1.1 ≤ 30) : Met l yL_undo wsL_undo RML (pcZ D ca [.ref Ad.1, .ref o] (oW ca o v0 ++ cW ca Ad g) sz) (va_Qi (fun (zr : Int32) (u : CG × (Nat → Int64)) => wrP (R_undo (abC g)) zr u) (qB D (va_A (oW ca o v0 ++ cW ca Ad g) sz) (fun u : CG × (Nat → Int64) => oW ca o u.2 ++ cW ca Ad u.1)) (va_A (oW ca o v0 ++ cW ca Ad g) sz)) 8 240 (va_A (oW ca o v0 ++ cW ca Ad g) sz) := by
  refine my_ofWH (cc := cL_undo) (maxL := 3) (ret := (some .int)) (hh := [(0, 8, 11, 15)]) (by decide) rfl ?_
  intro p e s m args below meth c s₁ B hml hv
  obtain ⟨rfl, hsz, hP, hK, hD0, hZ⟩ := hv
  have hx := B.exec
  have hb := B.bytes
  have hr := B.returns
  have hts := atoms_spec (ws := wsL_undo) B.pre
  have hown : s.vm.findClass RL = some m.cls := findClass_of_methodNamed B.named
  have hlocks := B.notSynchronized
  have htb : c.exceptionTable.toList = _ := vx_table (x := yL_undo) B (hts _ List.mem_cons_self)
  subst hsz
  have hD := hD0.self (sz := s.heap.size)
  generalize hAe : va_A (oW ca o v0 ++ cW ca Ad g) s.heap.size = A at hD hZ ⊢
  have hA : ∀ q : Nat, s.heap.size ≤ q → A q := fun q h => by rw [← hAe]; exact Or.inr h
  have hS : va_S A s.heap s.heap [] := va_S.rf
  have hl := lv_entry ([.ref Ad.1, .ref o]) (n := 3) (kk_le rfl)
  rw [lg_entry_eq]
  generalize (lg_sl ([.ref Ad.1, .ref o]) ++ List.replicate (3 - (lg_sl ([.ref Ad.1, .ref o])).length) Slot.unset).toArray = ls at hl ⊢
  have hl : lv_has ls 3 [(0, .ref Ad.1), (1, .ref o)] := hl
  refine lv_aload_n hx hb dL_undo_0 rfl (lv_at hl 1 rfl) ?_
  refine lv_iconst (v := nI 0) hx hb dL_undo_1 (by decide) ?_
  refine lv_aload_n hx hb dL_undo_2 rfl (lv_at hl 0 rfl) ?_
  have hP9 : va_P D vwCl (cW ca Ad g ++ oW ca o v0) s.heap := my_P_perm hP List.perm_append_comm
  have hD9 : va_D A (cW ca Ad g ++ oW ca o v0) := my_D_perm hD List.perm_append_comm
  have hFc := my_free hD9 hS hA
  refine vx_calli (vx_runV (As := []) (rest := [.int (nI 0), .ref o]) ⟨hx, hb, hml, hown, hts⟩ (cC_undo l hl0 D ca s.heap.size Ad g hg hz) (cwV 0 hts gL_undo_X5_undo rfl rfl rfl (by decide +kernel) ⟨kk_le rfl, kk_le rfl⟩) (pvZ hK (my_P_left hP9) (my_D_true (my_D_left hD9)) (hZ.at hS hFc) (cW_rc hK (my_P_left hP9))) rfl rfl hl.1 rfl (lv_room (kk_le rfl)) dL_undo_3 ⟨kk_le rfl, kk_le rfl⟩) hS (fun q _ h => hFc q h) hFc (fun q _ h => hFc q h) ?_ ?_
  · intro E ce q9 g2 t H1 locs1 ht hal hpx hBX h1 h2 hS hcell hvm hcl
    obtain ⟨⟨k9, hR, hE⟩, hP1, hD1⟩ := hBX
    rw [ht] at hP1
    obtain ⟨hP, hD⟩ := my_join hP9 hD9 h2 hFc hP1 hD1
    have hP := my_P_perm hP List.perm_append_comm
    have hD := my_D_perm hD List.perm_append_comm
    obtain ⟨rfl, rfl⟩ := exS_c hE
    refine vx_catch hown [] ⟨0, 8, 11, 15⟩ [] htb (fun z hz => nomatch hz) rfl (by decide) (hts (.classLink RL 15 "java/lang/IllegalStateException") (by decide +kernel)) (va_Nw.use rfl hK.2.cIllegalStateException) hcell hvm hcl ?_
    refine lv_astore_n (lv' := [(2, .ref q9), (0, .ref Ad.1), (1, .ref o)]) hx hb dL_undo_11 rfl hl (by decide) rfl (fun ls hl => ?_)
    refine lv_iconst (v := nI 1) hx hb dL_undo_12 (by decide) ?_
    exact W.iret (v := nI 1) hx hb hr (fun t ht hW => ⟨⟨_, (g2, v0), rfl, ⟨by rw [hR], fun h => absurd h (by decide), by rw [hR]; exact hpx.2.symm, hpx.1⟩, by rw [ht]; exact hP, hD⟩, hS.F ht⟩) hS.2.2 dL_undo_13
  · intro zr g2 t H1 locs1 ht hal hpost hB h1 h2 hS
    obtain ⟨hP1, hD1⟩ := hB
    rw [ht] at hP1
    obtain ⟨hR, hg2⟩ := hpost
    obtain ⟨hP, hD⟩ := my_join hP9 hD9 h2 hFc hP1 hD1
    have hP : va_P D vwCl (oW ca o v0 ++ cW ca Ad g2) H1 := my_P_perm hP List.perm_append_comm
    have hD : va_D A (oW ca o v0 ++ cW ca Ad g2) := my_D_perm hD List.perm_append_comm
    refine lv_i2l hx hb dL_undo_6 rfl ?_
    refine my_last hx hb hK hP hD hS 0 rfl (by omega) (by omega) dL_undo_7 (fun H2 locs2 hP hD hS => ?_)
    have hP : va_P D vwCl (oW ca o (vp_updL v0 0 zr.toInt64) ++ cW ca Ad g2) H2 := hP
    have hD : va_D A (oW ca o (vp_updL v0 0 zr.toInt64) ++ cW ca Ad g2) := hD
    refine lv_goto (tgt := 14) hx hb dL_undo_8 (by decide) ?_
    refine lv_iconst (v := nI 0) hx hb dL_undo_14 (by decide) ?_
    exact W.iret (v := nI 0) hx hb hr (fun t ht hW => ⟨⟨_, (g2, vp_updL v0 0 zr.toInt64), rfl, ⟨by rw [hR], fun _ => by rw [hR]; rfl, by rw [hR], hg2⟩, by rw [ht]; exact hP, hD⟩, hS.F ht⟩) hS.2.2 dL_undo_15
set_option maxHeartbeats 4000000 in
set_option maxRecDepth 100000 in
theorem wL_time (l : Launch) (hl0 : l.stackTraces = false) (D : va_G) (ca : Nat → ClassId) (sz : Nat) (Ad : CA) (g : CG) (o : Nat) (v0 : Nat → Int64) (x : Int32) (hg : okCg g) (hz : g.1.1 ≤ 30) : Met l yL_time wsL_time RML (pcZ D ca [.ref Ad.1, .int x, .ref o] (oW ca o v0 ++ cW ca Ad g) sz) (va_Qi (fun (zr : Int32) (u : CG × (Nat → Int64)) => wrP (R_time (abC g) x) zr u) (qB D (va_A (oW ca o v0 ++ cW ca Ad g) sz) (fun u : CG × (Nat → Int64) => oW ca o u.2 ++ cW ca Ad u.1)) (va_A (oW ca o v0 ++ cW ca Ad g) sz)) 8 240 (va_A (oW ca o v0 ++ cW ca Ad g) sz) := by
  refine my_ofWH (cc := cL_time) (maxL := 4) (ret := (some .int)) (hh := [(0, 9, 12, 13)]) (by decide) rfl ?_
  intro p e s m args below meth c s₁ B hml hv
  obtain ⟨rfl, hsz, hP, hK, hD0, hZ⟩ := hv
  have hx := B.exec
  have hb := B.bytes
  have hr := B.returns
  have hts := atoms_spec (ws := wsL_time) B.pre
  have hown : s.vm.findClass RL = some m.cls := findClass_of_methodNamed B.named
  have hlocks := B.notSynchronized
  have htb : c.exceptionTable.toList = _ := vx_table (x := yL_time) B (hts _ List.mem_cons_self)
  subst hsz
  have hD := hD0.self (sz := s.heap.size)
  generalize hAe : va_A (oW ca o v0 ++ cW ca Ad g) s.heap.size = A at hD hZ ⊢
  have hA : ∀ q : Nat, s.heap.size ≤ q → A q := fun q h => by rw [← hAe]; exact Or.inr h
  have hS : va_S A s.heap s.heap [] := va_S.rf
  have hl := lv_entry ([.ref Ad.1, .int x, .ref o]) (n := 4) (kk_le rfl)
  rw [lg_entry_eq]
  generalize (lg_sl ([.ref Ad.1, .int x, .ref o]) ++ List.replicate (4 - (lg_sl ([.ref Ad.1, .int x, .ref o])).length) Slot.unset).toArray = ls at hl ⊢
  have hl : lv_has ls 4 [(0, .ref Ad.1), (1, .int x), (2, .ref o)] := hl
  refine lv_aload_n hx hb dL_time_0 rfl (lv_at hl 2 rfl) ?_
  refine lv_iconst (v := nI 0) hx hb dL_time_1 (by decide) ?_
  refine lv_aload_n hx hb dL_time_2 rfl (lv_at hl 0 rfl) ?_
  refine lv_iload_n hx hb dL_time_3 rfl (lv_at hl 1 rfl) ?_
  have hP9 : va_P D vwCl (cW ca Ad g ++ oW ca o v0) s.heap := my_P_perm hP List.perm_append_comm
  have hD9 : va_D A (cW ca Ad g ++ oW ca o v0) := my_D_perm hD List.perm_append_comm
  have hFc := my_free hD9 hS hA
  refine vx_calli (vx_runV (As := [.int x]) (rest := [.int (nI 0), .ref o]) ⟨hx, hb, hml, hown, hts⟩ (cC_time l hl0 D ca s.heap.size Ad g x hg hz) (cwV 1 hts gL_time_X5_time rfl rfl rfl (by decide +kernel) ⟨kk_le rfl, kk_le rfl⟩) (pvZ hK (my_P_left hP9) (my_D_true (my_D_left hD9)) (hZ.at hS hFc) (cW_rc hK (my_P_left hP9))) rfl rfl hl.1 rfl (lv_room (kk_le rfl)) dL_time_4 ⟨kk_le rfl, kk_le rfl⟩) hS (fun q _ h => hFc q h) hFc (fun q _ h => hFc q h) ?_ ?_
  · intro E ce q9 g2 t H1 locs1 ht hal hpx hBX h1 h2 hS hcell hvm hcl
    obtain ⟨⟨k9, hR, hE⟩, hP1, hD1⟩ := hBX
    rw [ht] at hP1
    obtain ⟨hP, hD⟩ := my_join hP9 hD9 h2 hFc hP1 hD1
    have hP := my_P_perm hP List.perm_append_comm
    have hD := my_D_perm hD List.perm_append_comm
    obtain ⟨rfl, rfl⟩ := exA_c hE
    refine vx_catch hown [] ⟨0, 9, 12, 13⟩ [] htb (fun z hz => nomatch hz) rfl (by decide) (hts (.classLink RL 13 "java/lang/IllegalArgumentException") (by decide +kernel)) (va_Nw.use rfl hK.2.cIllegalArgumentException) hcell hvm hcl ?_
    refine lv_astore_n (lv' := [(3, .ref q9), (0, .ref Ad.1), (1, .int x), (2, .ref o)]) hx hb dL_time_12 rfl hl (by decide) rfl (fun ls hl => ?_)
    refine lv_iconst (v := nI 1) hx hb dL_time_13 (by decide) ?_
    exact W.iret (v := nI 1) hx hb hr (fun t ht hW => ⟨⟨_, (g2, v0), rfl, ⟨by rw [hR], fun h => absurd h (by decide), by rw [hR]; exact hpx.2.symm, hpx.1⟩, by rw [ht]; exact hP, hD⟩, hS.F ht⟩) hS.2.2 dL_time_14
  · intro zr g2 t H1 locs1 ht hal hpost hB h1 h2 hS
    obtain ⟨hP1, hD1⟩ := hB
    rw [ht] at hP1
    obtain ⟨hR, hg2⟩ := hpost
    obtain ⟨hP, hD⟩ := my_join hP9 hD9 h2 hFc hP1 hD1
    have hP : va_P D vwCl (oW ca o v0 ++ cW ca Ad g2) H1 := my_P_perm hP List.perm_append_comm
    have hD : va_D A (oW ca o v0 ++ cW ca Ad g2) := my_D_perm hD List.perm_append_comm
    refine lv_i2l hx hb dL_time_7 rfl ?_
    refine my_last hx hb hK hP hD hS 0 rfl (by omega) (by omega) dL_time_8 (fun H2 locs2 hP hD hS => ?_)
    have hP : va_P D vwCl (oW ca o (vp_updL v0 0 zr.toInt64) ++ cW ca Ad g2) H2 := hP
    have hD : va_D A (oW ca o (vp_updL v0 0 zr.toInt64) ++ cW ca Ad g2) := hD
    refine lv_goto (tgt := 15) hx hb dL_time_9 (by decide) ?_
    refine lv_iconst (v := nI 0) hx hb dL_time_15 (by decide) ?_
    exact W.iret (v := nI 0) hx hb hr (fun t ht hW => ⟨⟨_, (g2, vp_updL v0 0 zr.toInt64), rfl, ⟨by rw [hR], fun _ => by rw [hR]; rfl, by rw [hR], hg2⟩, by rw [ht]; exact hP, hD⟩, hS.F ht⟩) hS.2.2 dL_time_16
set_option maxHeartbeats 4000000 in
set_option maxRecDepth 100000 in
theorem wL_written (l : Launch) (hl0 : l.stackTraces = false) (D : va_G) (ca : Nat → ClassId) (sz : Nat) (Ad : CA) (g : CG) (o : Nat) (v0 : Nat → Int64) (x : Int32) (hg : okCg g) (hz : g.1.1 ≤ 30) : Met l yL_written wsL_written RML (pcZ D ca [.ref Ad.1, .int x, .ref o] (oW ca o v0 ++ cW ca Ad g) sz) (va_Qi (fun (zr : Int32) (u : CG × (Nat → Int64)) => wrP (R_written (abC g) x) zr u) (qB D (va_A (oW ca o v0 ++ cW ca Ad g) sz) (fun u : CG × (Nat → Int64) => oW ca o u.2 ++ cW ca Ad u.1)) (va_A (oW ca o v0 ++ cW ca Ad g) sz)) 8 240 (va_A (oW ca o v0 ++ cW ca Ad g) sz) := by
  refine my_ofWH (cc := cL_written) (maxL := 4) (ret := (some .int)) (hh := [(0, 9, 12, 13)]) (by decide) rfl ?_
  intro p e s m args below meth c s₁ B hml hv
  obtain ⟨rfl, hsz, hP, hK, hD0, hZ⟩ := hv
  have hx := B.exec
  have hb := B.bytes
  have hr := B.returns
  have hts := atoms_spec (ws := wsL_written) B.pre
  have hown : s.vm.findClass RL = some m.cls := findClass_of_methodNamed B.named
  have hlocks := B.notSynchronized
  have htb : c.exceptionTable.toList = _ := vx_table (x := yL_written) B (hts _ List.mem_cons_self)
  subst hsz
  have hD := hD0.self (sz := s.heap.size)
  generalize hAe : va_A (oW ca o v0 ++ cW ca Ad g) s.heap.size = A at hD hZ ⊢
  have hA : ∀ q : Nat, s.heap.size ≤ q → A q := fun q h => by rw [← hAe]; exact Or.inr h
  have hS : va_S A s.heap s.heap [] := va_S.rf
  have hl := lv_entry ([.ref Ad.1, .int x, .ref o]) (n := 4) (kk_le rfl)
  rw [lg_entry_eq]
  generalize (lg_sl ([.ref Ad.1, .int x, .ref o]) ++ List.replicate (4 - (lg_sl ([.ref Ad.1, .int x, .ref o])).length) Slot.unset).toArray = ls at hl ⊢
  have hl : lv_has ls 4 [(0, .ref Ad.1), (1, .int x), (2, .ref o)] := hl
  refine lv_aload_n hx hb dL_written_0 rfl (lv_at hl 2 rfl) ?_
  refine lv_iconst (v := nI 0) hx hb dL_written_1 (by decide) ?_
  refine lv_aload_n hx hb dL_written_2 rfl (lv_at hl 0 rfl) ?_
  refine lv_iload_n hx hb dL_written_3 rfl (lv_at hl 1 rfl) ?_
  have hP9 : va_P D vwCl (cW ca Ad g ++ oW ca o v0) s.heap := my_P_perm hP List.perm_append_comm
  have hD9 : va_D A (cW ca Ad g ++ oW ca o v0) := my_D_perm hD List.perm_append_comm
  have hFc := my_free hD9 hS hA
  refine vx_calli (vx_runV (As := [.int x]) (rest := [.int (nI 0), .ref o]) ⟨hx, hb, hml, hown, hts⟩ (cC_written l hl0 D ca s.heap.size Ad g x hg hz) (cwV 1 hts gL_written_X5_written rfl rfl rfl (by decide +kernel) ⟨kk_le rfl, kk_le rfl⟩) (pvZ hK (my_P_left hP9) (my_D_true (my_D_left hD9)) (hZ.at hS hFc) (cW_rc hK (my_P_left hP9))) rfl rfl hl.1 rfl (lv_room (kk_le rfl)) dL_written_4 ⟨kk_le rfl, kk_le rfl⟩) hS (fun q _ h => hFc q h) hFc (fun q _ h => hFc q h) ?_ ?_
  · intro E ce q9 g2 t H1 locs1 ht hal hpx hBX h1 h2 hS hcell hvm hcl
    obtain ⟨⟨k9, hR, hE⟩, hP1, hD1⟩ := hBX
    rw [ht] at hP1
    obtain ⟨hP, hD⟩ := my_join hP9 hD9 h2 hFc hP1 hD1
    have hP := my_P_perm hP List.perm_append_comm
    have hD := my_D_perm hD List.perm_append_comm
    obtain ⟨rfl, rfl⟩ := exA_c hE
    refine vx_catch hown [] ⟨0, 9, 12, 13⟩ [] htb (fun z hz => nomatch hz) rfl (by decide) (hts (.classLink RL 13 "java/lang/IllegalArgumentException") (by decide +kernel)) (va_Nw.use rfl hK.2.cIllegalArgumentException) hcell hvm hcl ?_
    refine lv_astore_n (lv' := [(3, .ref q9), (0, .ref Ad.1), (1, .int x), (2, .ref o)]) hx hb dL_written_12 rfl hl (by decide) rfl (fun ls hl => ?_)
    refine lv_iconst (v := nI 1) hx hb dL_written_13 (by decide) ?_
    exact W.iret (v := nI 1) hx hb hr (fun t ht hW => ⟨⟨_, (g2, v0), rfl, ⟨by rw [hR], fun h => absurd h (by decide), by rw [hR]; exact hpx.2.symm, hpx.1⟩, by rw [ht]; exact hP, hD⟩, hS.F ht⟩) hS.2.2 dL_written_14
  · intro zr g2 t H1 locs1 ht hal hpost hB h1 h2 hS
    obtain ⟨hP1, hD1⟩ := hB
    rw [ht] at hP1
    obtain ⟨hR, hg2⟩ := hpost
    obtain ⟨hP, hD⟩ := my_join hP9 hD9 h2 hFc hP1 hD1
    have hP : va_P D vwCl (oW ca o v0 ++ cW ca Ad g2) H1 := my_P_perm hP List.perm_append_comm
    have hD : va_D A (oW ca o v0 ++ cW ca Ad g2) := my_D_perm hD List.perm_append_comm
    refine lv_i2l hx hb dL_written_7 rfl ?_
    refine my_last hx hb hK hP hD hS 0 rfl (by omega) (by omega) dL_written_8 (fun H2 locs2 hP hD hS => ?_)
    have hP : va_P D vwCl (oW ca o (vp_updL v0 0 zr.toInt64) ++ cW ca Ad g2) H2 := hP
    have hD : va_D A (oW ca o (vp_updL v0 0 zr.toInt64) ++ cW ca Ad g2) := hD
    refine lv_goto (tgt := 15) hx hb dL_written_9 (by decide) ?_
    refine lv_iconst (v := nI 0) hx hb dL_written_15 (by decide) ?_
    exact W.iret (v := nI 0) hx hb hr (fun t ht hW => ⟨⟨_, (g2, vp_updL v0 0 zr.toInt64), rfl, ⟨by rw [hR], fun _ => by rw [hR]; rfl, by rw [hR], hg2⟩, by rw [ht]; exact hP, hD⟩, hS.F ht⟩) hS.2.2 dL_written_16
set_option maxHeartbeats 4000000 in
set_option maxRecDepth 100000 in
theorem wL_reads (l : Launch) (hl0 : l.stackTraces = false) (D : va_G) (ca : Nat → ClassId) (sz : Nat) (Ad : CA) (g : CG) (o : Nat) (v0 : Nat → Int64) (bw : Bool) (x : Int32) (hg : okCg g) (hz : g.1.1 ≤ 30) : Met l yL_reads wsL_reads RML (pcZ D ca [.ref Ad.1, .int (bI bw), .int x, .ref o] (oW ca o v0 ++ cW ca Ad g) sz) (va_Qi (fun (zr : Int32) (u : CG × (Nat → Int64)) => wrP (R_reads (abC g) bw x) zr u) (qB D (va_A (oW ca o v0 ++ cW ca Ad g) sz) (fun u : CG × (Nat → Int64) => oW ca o u.2 ++ cW ca Ad u.1)) (va_A (oW ca o v0 ++ cW ca Ad g) sz)) 8 240 (va_A (oW ca o v0 ++ cW ca Ad g) sz) := by
  refine my_ofWH (cc := cL_reads) (maxL := 5) (ret := (some .int)) (hh := [(0, 10, 13, 13)]) (by decide) rfl ?_
  intro p e s m args below meth c s₁ B hml hv
  obtain ⟨rfl, hsz, hP, hK, hD0, hZ⟩ := hv
  have hx := B.exec
  have hb := B.bytes
  have hr := B.returns
  have hts := atoms_spec (ws := wsL_reads) B.pre
  have hown : s.vm.findClass RL = some m.cls := findClass_of_methodNamed B.named
  have hlocks := B.notSynchronized
  have htb : c.exceptionTable.toList = _ := vx_table (x := yL_reads) B (hts _ List.mem_cons_self)
  subst hsz
  have hD := hD0.self (sz := s.heap.size)
  generalize hAe : va_A (oW ca o v0 ++ cW ca Ad g) s.heap.size = A at hD hZ ⊢
  have hA : ∀ q : Nat, s.heap.size ≤ q → A q := fun q h => by rw [← hAe]; exact Or.inr h
  have hS : va_S A s.heap s.heap [] := va_S.rf
  have hl := lv_entry ([.ref Ad.1, .int (bI bw), .int x, .ref o]) (n := 5) (kk_le rfl)
  rw [lg_entry_eq]
  generalize (lg_sl ([.ref Ad.1, .int (bI bw), .int x, .ref o]) ++ List.replicate (5 - (lg_sl ([.ref Ad.1, .int (bI bw), .int x, .ref o])).length) Slot.unset).toArray = ls at hl ⊢
  have hl : lv_has ls 5 [(0, .ref Ad.1), (1, .int (bI bw)), (2, .int x), (3, .ref o)] := hl
  refine lv_aload_n hx hb dL_reads_0 rfl (lv_at hl 3 rfl) ?_
  refine lv_iconst (v := nI 0) hx hb dL_reads_1 (by decide) ?_
  refine lv_aload_n hx hb dL_reads_2 rfl (lv_at hl 0 rfl) ?_
  refine lv_iload_n hx hb dL_reads_3 rfl (lv_at hl 1 rfl) ?_
  refine lv_iload_n hx hb dL_reads_4 rfl (lv_at hl 2 rfl) ?_
  have hP9 : va_P D vwCl (cW ca Ad g ++ oW ca o v0) s.heap := my_P_perm hP List.perm_append_comm
  have hD9 : va_D A (cW ca Ad g ++ oW ca o v0) := my_D_perm hD List.perm_append_comm
  have hFc := my_free hD9 hS hA
  refine vx_calli (vx_runV (As := [.int (bI bw), .int x]) (rest := [.int (nI 0), .ref o]) ⟨hx, hb, hml, hown, hts⟩ (cC_reads l hl0 D ca s.heap.size Ad g bw x hg hz) (cwV 2 hts gL_reads_X5_reads rfl rfl rfl (by decide +kernel) ⟨kk_le rfl, kk_le rfl⟩) (pvZ hK (my_P_left hP9) (my_D_true (my_D_left hD9)) (hZ.at hS hFc) (cW_rc hK (my_P_left hP9))) rfl rfl hl.1 rfl (lv_room (kk_le rfl)) dL_reads_5 ⟨kk_le rfl, kk_le rfl⟩) hS (fun q _ h => hFc q h) hFc (fun q _ h => hFc q h) ?_ ?_
  · intro E ce q9 g2 t H1 locs1 ht hal hpx hBX h1 h2 hS hcell hvm hcl
    obtain ⟨⟨k9, hR, hE⟩, hP1, hD1⟩ := hBX
    rw [ht] at hP1
    obtain ⟨hP, hD⟩ := my_join hP9 hD9 h2 hFc hP1 hD1
    have hP := my_P_perm hP List.perm_append_comm
    have hD := my_D_perm hD List.perm_append_comm
    obtain ⟨rfl, rfl⟩ := exA_c hE
    refine vx_catch hown [] ⟨0, 10, 13, 13⟩ [] htb (fun z hz => nomatch hz) rfl (by decide) (hts (.classLink RL 13 "java/lang/IllegalArgumentException") (by decide +kernel)) (va_Nw.use rfl hK.2.cIllegalArgumentException) hcell hvm hcl ?_
    refine lv_astore (lv' := [(4, .ref q9), (0, .ref Ad.1), (1, .int (bI bw)), (2, .int x), (3, .ref o)]) hx hb dL_reads_13 hl (by decide) rfl (fun ls hl => ?_)
    refine lv_iconst (v := nI 1) hx hb dL_reads_15 (by decide) ?_
    exact W.iret (v := nI 1) hx hb hr (fun t ht hW => ⟨⟨_, (g2, v0), rfl, ⟨by rw [hR], fun h => absurd h (by decide), by rw [hR]; exact hpx.2.symm, hpx.1⟩, by rw [ht]; exact hP, hD⟩, hS.F ht⟩) hS.2.2 dL_reads_16
  · intro zr g2 t H1 locs1 ht hal hpost hB h1 h2 hS
    obtain ⟨hP1, hD1⟩ := hB
    rw [ht] at hP1
    obtain ⟨hR, hg2⟩ := hpost
    obtain ⟨hP, hD⟩ := my_join hP9 hD9 h2 hFc hP1 hD1
    have hP : va_P D vwCl (oW ca o v0 ++ cW ca Ad g2) H1 := my_P_perm hP List.perm_append_comm
    have hD : va_D A (oW ca o v0 ++ cW ca Ad g2) := my_D_perm hD List.perm_append_comm
    refine lv_i2l hx hb dL_reads_8 rfl ?_
    refine my_last hx hb hK hP hD hS 0 rfl (by omega) (by omega) dL_reads_9 (fun H2 locs2 hP hD hS => ?_)
    have hP : va_P D vwCl (oW ca o (vp_updL v0 0 zr.toInt64) ++ cW ca Ad g2) H2 := hP
    have hD : va_D A (oW ca o (vp_updL v0 0 zr.toInt64) ++ cW ca Ad g2) := hD
    refine lv_goto (tgt := 17) hx hb dL_reads_10 (by decide) ?_
    refine lv_iconst (v := nI 0) hx hb dL_reads_17 (by decide) ?_
    exact W.iret (v := nI 0) hx hb hr (fun t ht hW => ⟨⟨_, (g2, vp_updL v0 0 zr.toInt64), rfl, ⟨by rw [hR], fun _ => by rw [hR]; rfl, by rw [hR], hg2⟩, by rw [ht]; exact hP, hD⟩, hS.F ht⟩) hS.2.2 dL_reads_18
set_option maxHeartbeats 4000000 in
set_option maxRecDepth 100000 in
theorem wL_bit (l : Launch) (hl0 : l.stackTraces = false) (D : va_G) (ca : Nat → ClassId) (sz : Nat) (Ad : CA) (g : CG) (o : Nat) (v0 : Nat → Int64) (bw : Bool) (x : Int32) (hg : okCg g) (hz : g.1.1 ≤ 30) : Met l yL_bit wsL_bit RML (pcZ D ca [.ref Ad.1, .int (bI bw), .int x, .ref o] (oW ca o v0 ++ cW ca Ad g) sz) (va_Qi (fun (zr : Int32) (u : CG × (Nat → Int64)) => wrP (R_bit (abC g) bw x) zr u) (qB D (va_A (oW ca o v0 ++ cW ca Ad g) sz) (fun u : CG × (Nat → Int64) => oW ca o u.2 ++ cW ca Ad u.1)) (va_A (oW ca o v0 ++ cW ca Ad g) sz)) 8 240 (va_A (oW ca o v0 ++ cW ca Ad g) sz) := by
  refine my_ofWH (cc := cL_bit) (maxL := 5) (ret := (some .int)) (hh := [(0, 10, 13, 13)]) (by decide) rfl ?_
  intro p e s m args below meth c s₁ B hml hv
  obtain ⟨rfl, hsz, hP, hK, hD0, hZ⟩ := hv
  have hx := B.exec
  have hb := B.bytes
  have hr := B.returns
  have hts := atoms_spec (ws := wsL_bit) B.pre
  have hown : s.vm.findClass RL = some m.cls := findClass_of_methodNamed B.named
  have hlocks := B.notSynchronized
  have htb : c.exceptionTable.toList = _ := vx_table (x := yL_bit) B (hts _ List.mem_cons_self)
  subst hsz
  have hD := hD0.self (sz := s.heap.size)
  generalize hAe : va_A (oW ca o v0 ++ cW ca Ad g) s.heap.size = A at hD hZ ⊢
  have hA : ∀ q : Nat, s.heap.size ≤ q → A q := fun q h => by rw [← hAe]; exact Or.inr h
  have hS : va_S A s.heap s.heap [] := va_S.rf
  have hl := lv_entry ([.ref Ad.1, .int (bI bw), .int x, .ref o]) (n := 5) (kk_le rfl)
  rw [lg_entry_eq]
  generalize (lg_sl ([.ref Ad.1, .int (bI bw), .int x, .ref o]) ++ List.replicate (5 - (lg_sl ([.ref Ad.1, .int (bI bw), .int x, .ref o])).length) Slot.unset).toArray = ls at hl ⊢
  have hl : lv_has ls 5 [(0, .ref Ad.1), (1, .int (bI bw)), (2, .int x), (3, .ref o)] := hl
  refine lv_aload_n hx hb dL_bit_0 rfl (lv_at hl 3 rfl) ?_
  refine lv_iconst (v := nI 0) hx hb dL_bit_1 (by decide) ?_
  refine lv_aload_n hx hb dL_bit_2 rfl (lv_at hl 0 rfl) ?_
  refine lv_iload_n hx hb dL_bit_3 rfl (lv_at hl 1 rfl) ?_
  refine lv_iload_n hx hb dL_bit_4 rfl (lv_at hl 2 rfl) ?_
  have hP9 : va_P D vwCl (cW ca Ad g ++ oW ca o v0) s.heap := my_P_perm hP List.perm_append_comm
  have hD9 : va_D A (cW ca Ad g ++ oW ca o v0) := my_D_perm hD List.perm_append_comm
  have hFc := my_free hD9 hS hA
  refine vx_calli (vx_runV (As := [.int (bI bw), .int x]) (rest := [.int (nI 0), .ref o]) ⟨hx, hb, hml, hown, hts⟩ (cC_bit l hl0 D ca s.heap.size Ad g bw x hg hz) (cwV 2 hts gL_bit_X5_bit rfl rfl rfl (by decide +kernel) ⟨kk_le rfl, kk_le rfl⟩) (pvZ hK (my_P_left hP9) (my_D_true (my_D_left hD9)) (hZ.at hS hFc) (cW_rc hK (my_P_left hP9))) rfl rfl hl.1 rfl (lv_room (kk_le rfl)) dL_bit_5 ⟨kk_le rfl, kk_le rfl⟩) hS (fun q _ h => hFc q h) hFc (fun q _ h => hFc q h) ?_ ?_
  · intro E ce q9 g2 t H1 locs1 ht hal hpx hBX h1 h2 hS hcell hvm hcl
    obtain ⟨⟨k9, hR, hE⟩, hP1, hD1⟩ := hBX
    rw [ht] at hP1
    obtain ⟨hP, hD⟩ := my_join hP9 hD9 h2 hFc hP1 hD1
    have hP := my_P_perm hP List.perm_append_comm
    have hD := my_D_perm hD List.perm_append_comm
    obtain ⟨rfl, rfl⟩ := exA_c hE
    refine vx_catch hown [] ⟨0, 10, 13, 13⟩ [] htb (fun z hz => nomatch hz) rfl (by decide) (hts (.classLink RL 13 "java/lang/IllegalArgumentException") (by decide +kernel)) (va_Nw.use rfl hK.2.cIllegalArgumentException) hcell hvm hcl ?_
    refine lv_astore (lv' := [(4, .ref q9), (0, .ref Ad.1), (1, .int (bI bw)), (2, .int x), (3, .ref o)]) hx hb dL_bit_13 hl (by decide) rfl (fun ls hl => ?_)
    refine lv_iconst (v := nI 1) hx hb dL_bit_15 (by decide) ?_
    exact W.iret (v := nI 1) hx hb hr (fun t ht hW => ⟨⟨_, (g2, v0), rfl, ⟨by rw [hR], fun h => absurd h (by decide), by rw [hR]; exact hpx.2.symm, hpx.1⟩, by rw [ht]; exact hP, hD⟩, hS.F ht⟩) hS.2.2 dL_bit_16
  · intro zr g2 t H1 locs1 ht hal hpost hB h1 h2 hS
    obtain ⟨hP1, hD1⟩ := hB
    rw [ht] at hP1
    obtain ⟨hR, hg2⟩ := hpost
    obtain ⟨hP, hD⟩ := my_join hP9 hD9 h2 hFc hP1 hD1
    have hP : va_P D vwCl (oW ca o v0 ++ cW ca Ad g2) H1 := my_P_perm hP List.perm_append_comm
    have hD : va_D A (oW ca o v0 ++ cW ca Ad g2) := my_D_perm hD List.perm_append_comm
    refine lv_i2l hx hb dL_bit_8 rfl ?_
    refine my_last hx hb hK hP hD hS 0 rfl (by omega) (by omega) dL_bit_9 (fun H2 locs2 hP hD hS => ?_)
    have hP : va_P D vwCl (oW ca o (vp_updL v0 0 zr.toInt64) ++ cW ca Ad g2) H2 := hP
    have hD : va_D A (oW ca o (vp_updL v0 0 zr.toInt64) ++ cW ca Ad g2) := hD
    refine lv_goto (tgt := 17) hx hb dL_bit_10 (by decide) ?_
    refine lv_iconst (v := nI 0) hx hb dL_bit_17 (by decide) ?_
    exact W.iret (v := nI 0) hx hb hr (fun t ht hW => ⟨⟨_, (g2, vp_updL v0 0 zr.toInt64), rfl, ⟨by rw [hR], fun _ => by rw [hR]; rfl, by rw [hR], hg2⟩, by rw [ht]; exact hP, hD⟩, hS.F ht⟩) hS.2.2 dL_bit_18
set_option maxHeartbeats 4000000 in
set_option maxRecDepth 100000 in
theorem wL_letter (l : Launch) (hl0 : l.stackTraces = false) (D : va_G) (ca : Nat → ClassId) (sz : Nat) (Ad : CA) (g : CG) (o : Nat) (v0 : Nat → Int64) (bw : Bool) (x : Int32) (hg : okCg g) (hz : g.1.1 ≤ 30) : Met l yL_letter wsL_letter RML (pcZ D ca [.ref Ad.1, .int (bI bw), .int x, .ref o] (oW ca o v0 ++ cW ca Ad g) sz) (va_Qi (fun (zr : Int32) (u : CG × (Nat → Int64)) => wrP (R_letter (abC g) bw x) zr u) (qB D (va_A (oW ca o v0 ++ cW ca Ad g) sz) (fun u : CG × (Nat → Int64) => oW ca o u.2 ++ cW ca Ad u.1)) (va_A (oW ca o v0 ++ cW ca Ad g) sz)) 8 240 (va_A (oW ca o v0 ++ cW ca Ad g) sz) := by
  refine my_ofWH (cc := cL_letter) (maxL := 5) (ret := (some .int)) (hh := [(0, 10, 13, 13)]) (by decide) rfl ?_
  intro p e s m args below meth c s₁ B hml hv
  obtain ⟨rfl, hsz, hP, hK, hD0, hZ⟩ := hv
  have hx := B.exec
  have hb := B.bytes
  have hr := B.returns
  have hts := atoms_spec (ws := wsL_letter) B.pre
  have hown : s.vm.findClass RL = some m.cls := findClass_of_methodNamed B.named
  have hlocks := B.notSynchronized
  have htb : c.exceptionTable.toList = _ := vx_table (x := yL_letter) B (hts _ List.mem_cons_self)
  subst hsz
  have hD := hD0.self (sz := s.heap.size)
  generalize hAe : va_A (oW ca o v0 ++ cW ca Ad g) s.heap.size = A at hD hZ ⊢
  have hA : ∀ q : Nat, s.heap.size ≤ q → A q := fun q h => by rw [← hAe]; exact Or.inr h
  have hS : va_S A s.heap s.heap [] := va_S.rf
  have hl := lv_entry ([.ref Ad.1, .int (bI bw), .int x, .ref o]) (n := 5) (kk_le rfl)
  rw [lg_entry_eq]
  generalize (lg_sl ([.ref Ad.1, .int (bI bw), .int x, .ref o]) ++ List.replicate (5 - (lg_sl ([.ref Ad.1, .int (bI bw), .int x, .ref o])).length) Slot.unset).toArray = ls at hl ⊢
  have hl : lv_has ls 5 [(0, .ref Ad.1), (1, .int (bI bw)), (2, .int x), (3, .ref o)] := hl
  refine lv_aload_n hx hb dL_letter_0 rfl (lv_at hl 3 rfl) ?_
  refine lv_iconst (v := nI 0) hx hb dL_letter_1 (by decide) ?_
  refine lv_aload_n hx hb dL_letter_2 rfl (lv_at hl 0 rfl) ?_
  refine lv_iload_n hx hb dL_letter_3 rfl (lv_at hl 1 rfl) ?_
  refine lv_iload_n hx hb dL_letter_4 rfl (lv_at hl 2 rfl) ?_
  have hP9 : va_P D vwCl (cW ca Ad g ++ oW ca o v0) s.heap := my_P_perm hP List.perm_append_comm
  have hD9 : va_D A (cW ca Ad g ++ oW ca o v0) := my_D_perm hD List.perm_append_comm
  have hFc := my_free hD9 hS hA
  refine vx_calli (vx_runV (As := [.int (bI bw), .int x]) (rest := [.int (nI 0), .ref o]) ⟨hx, hb, hml, hown, hts⟩ (cC_letter l hl0 D ca s.heap.size Ad g bw x hg hz) (cwV 2 hts gL_letter_X5_letter rfl rfl rfl (by decide +kernel) ⟨kk_le rfl, kk_le rfl⟩) (pvZ hK (my_P_left hP9) (my_D_true (my_D_left hD9)) (hZ.at hS hFc) (cW_rc hK (my_P_left hP9))) rfl rfl hl.1 rfl (lv_room (kk_le rfl)) dL_letter_5 ⟨kk_le rfl, kk_le rfl⟩) hS (fun q _ h => hFc q h) hFc (fun q _ h => hFc q h) ?_ ?_
  · intro E ce q9 g2 t H1 locs1 ht hal hpx hBX h1 h2 hS hcell hvm hcl
    obtain ⟨⟨k9, hR, hE⟩, hP1, hD1⟩ := hBX
    rw [ht] at hP1
    obtain ⟨hP, hD⟩ := my_join hP9 hD9 h2 hFc hP1 hD1
    have hP := my_P_perm hP List.perm_append_comm
    have hD := my_D_perm hD List.perm_append_comm
    obtain ⟨rfl, rfl⟩ := exA_c hE
    refine vx_catch hown [] ⟨0, 10, 13, 13⟩ [] htb (fun z hz => nomatch hz) rfl (by decide) (hts (.classLink RL 13 "java/lang/IllegalArgumentException") (by decide +kernel)) (va_Nw.use rfl hK.2.cIllegalArgumentException) hcell hvm hcl ?_
    refine lv_astore (lv' := [(4, .ref q9), (0, .ref Ad.1), (1, .int (bI bw)), (2, .int x), (3, .ref o)]) hx hb dL_letter_13 hl (by decide) rfl (fun ls hl => ?_)
    refine lv_iconst (v := nI 1) hx hb dL_letter_15 (by decide) ?_
    exact W.iret (v := nI 1) hx hb hr (fun t ht hW => ⟨⟨_, (g2, v0), rfl, ⟨by rw [hR], fun h => absurd h (by decide), by rw [hR]; exact hpx.2.symm, hpx.1⟩, by rw [ht]; exact hP, hD⟩, hS.F ht⟩) hS.2.2 dL_letter_16
  · intro zr g2 t H1 locs1 ht hal hpost hB h1 h2 hS
    obtain ⟨hP1, hD1⟩ := hB
    rw [ht] at hP1
    obtain ⟨hR, hg2⟩ := hpost
    obtain ⟨hP, hD⟩ := my_join hP9 hD9 h2 hFc hP1 hD1
    have hP : va_P D vwCl (oW ca o v0 ++ cW ca Ad g2) H1 := my_P_perm hP List.perm_append_comm
    have hD : va_D A (oW ca o v0 ++ cW ca Ad g2) := my_D_perm hD List.perm_append_comm
    refine lv_i2l hx hb dL_letter_8 rfl ?_
    refine my_last hx hb hK hP hD hS 0 rfl (by omega) (by omega) dL_letter_9 (fun H2 locs2 hP hD hS => ?_)
    have hP : va_P D vwCl (oW ca o (vp_updL v0 0 zr.toInt64) ++ cW ca Ad g2) H2 := hP
    have hD : va_D A (oW ca o (vp_updL v0 0 zr.toInt64) ++ cW ca Ad g2) := hD
    refine lv_goto (tgt := 17) hx hb dL_letter_10 (by decide) ?_
    refine lv_iconst (v := nI 0) hx hb dL_letter_17 (by decide) ?_
    exact W.iret (v := nI 0) hx hb hr (fun t ht hW => ⟨⟨_, (g2, vp_updL v0 0 zr.toInt64), rfl, ⟨by rw [hR], fun _ => by rw [hR]; rfl, by rw [hR], hg2⟩, by rw [ht]; exact hP, hD⟩, hS.F ht⟩) hS.2.2 dL_letter_18
set_option maxHeartbeats 4000000 in
set_option maxRecDepth 100000 in
theorem wL_count (l : Launch) (hl0 : l.stackTraces = false) (D : va_G) (ca : Nat → ClassId) (sz : Nat) (Ad : CA) (g : CG) (o : Nat) (v0 : Nat → Int64) (x : Int32) (hg : okCg g) (hz : g.1.1 ≤ 30) : Met l yL_count wsL_count RML (pcZ D ca [.ref Ad.1, .int x, .ref o] (oW ca o v0 ++ cW ca Ad g) sz) (va_Qi (fun (zr : Int32) (u : CG × (Nat → Int64)) => wrP (R_count (abC g) x) zr u) (qB D (va_A (oW ca o v0 ++ cW ca Ad g) sz) (fun u : CG × (Nat → Int64) => oW ca o u.2 ++ cW ca Ad u.1)) (va_A (oW ca o v0 ++ cW ca Ad g) sz)) 8 240 (va_A (oW ca o v0 ++ cW ca Ad g) sz) := by
  refine my_ofWH (cc := cL_count) (maxL := 4) (ret := (some .int)) (hh := [(0, 9, 12, 13)]) (by decide) rfl ?_
  intro p e s m args below meth c s₁ B hml hv
  obtain ⟨rfl, hsz, hP, hK, hD0, hZ⟩ := hv
  have hx := B.exec
  have hb := B.bytes
  have hr := B.returns
  have hts := atoms_spec (ws := wsL_count) B.pre
  have hown : s.vm.findClass RL = some m.cls := findClass_of_methodNamed B.named
  have hlocks := B.notSynchronized
  have htb : c.exceptionTable.toList = _ := vx_table (x := yL_count) B (hts _ List.mem_cons_self)
  subst hsz
  have hD := hD0.self (sz := s.heap.size)
  generalize hAe : va_A (oW ca o v0 ++ cW ca Ad g) s.heap.size = A at hD hZ ⊢
  have hA : ∀ q : Nat, s.heap.size ≤ q → A q := fun q h => by rw [← hAe]; exact Or.inr h
  have hS : va_S A s.heap s.heap [] := va_S.rf
  have hl := lv_entry ([.ref Ad.1, .int x, .ref o]) (n := 4) (kk_le rfl)
  rw [lg_entry_eq]
  generalize (lg_sl ([.ref Ad.1, .int x, .ref o]) ++ List.replicate (4 - (lg_sl ([.ref Ad.1, .int x, .ref o])).length) Slot.unset).toArray = ls at hl ⊢
  have hl : lv_has ls 4 [(0, .ref Ad.1), (1, .int x), (2, .ref o)] := hl
  refine lv_aload_n hx hb dL_count_0 rfl (lv_at hl 2 rfl) ?_
  refine lv_iconst (v := nI 0) hx hb dL_count_1 (by decide) ?_
  refine lv_aload_n hx hb dL_count_2 rfl (lv_at hl 0 rfl) ?_
  refine lv_iload_n hx hb dL_count_3 rfl (lv_at hl 1 rfl) ?_
  have hP9 : va_P D vwCl (cW ca Ad g ++ oW ca o v0) s.heap := my_P_perm hP List.perm_append_comm
  have hD9 : va_D A (cW ca Ad g ++ oW ca o v0) := my_D_perm hD List.perm_append_comm
  have hFc := my_free hD9 hS hA
  refine vx_calli (vx_runV (As := [.int x]) (rest := [.int (nI 0), .ref o]) ⟨hx, hb, hml, hown, hts⟩ (cC_count l hl0 D ca s.heap.size Ad g x hg hz) (cwV 1 hts gL_count_X5_count rfl rfl rfl (by decide +kernel) ⟨kk_le rfl, kk_le rfl⟩) (pvZ hK (my_P_left hP9) (my_D_true (my_D_left hD9)) (hZ.at hS hFc) (cW_rc hK (my_P_left hP9))) rfl rfl hl.1 rfl (lv_room (kk_le rfl)) dL_count_4 ⟨kk_le rfl, kk_le rfl⟩) hS (fun q _ h => hFc q h) hFc (fun q _ h => hFc q h) ?_ ?_
  · intro E ce q9 g2 t H1 locs1 ht hal hpx hBX h1 h2 hS hcell hvm hcl
    obtain ⟨⟨k9, hR, hE⟩, hP1, hD1⟩ := hBX
    rw [ht] at hP1
    obtain ⟨hP, hD⟩ := my_join hP9 hD9 h2 hFc hP1 hD1
    have hP := my_P_perm hP List.perm_append_comm
    have hD := my_D_perm hD List.perm_append_comm
    obtain ⟨rfl, rfl⟩ := exA_c hE
    refine vx_catch hown [] ⟨0, 9, 12, 13⟩ [] htb (fun z hz => nomatch hz) rfl (by decide) (hts (.classLink RL 13 "java/lang/IllegalArgumentException") (by decide +kernel)) (va_Nw.use rfl hK.2.cIllegalArgumentException) hcell hvm hcl ?_
    refine lv_astore_n (lv' := [(3, .ref q9), (0, .ref Ad.1), (1, .int x), (2, .ref o)]) hx hb dL_count_12 rfl hl (by decide) rfl (fun ls hl => ?_)
    refine lv_iconst (v := nI 1) hx hb dL_count_13 (by decide) ?_
    exact W.iret (v := nI 1) hx hb hr (fun t ht hW => ⟨⟨_, (g2, v0), rfl, ⟨by rw [hR], fun h => absurd h (by decide), by rw [hR]; exact hpx.2.symm, hpx.1⟩, by rw [ht]; exact hP, hD⟩, hS.F ht⟩) hS.2.2 dL_count_14
  · intro zr g2 t H1 locs1 ht hal hpost hB h1 h2 hS
    obtain ⟨hP1, hD1⟩ := hB
    rw [ht] at hP1
    obtain ⟨hR, hg2⟩ := hpost
    obtain ⟨hP, hD⟩ := my_join hP9 hD9 h2 hFc hP1 hD1
    have hP : va_P D vwCl (oW ca o v0 ++ cW ca Ad g2) H1 := my_P_perm hP List.perm_append_comm
    have hD : va_D A (oW ca o v0 ++ cW ca Ad g2) := my_D_perm hD List.perm_append_comm
    refine lv_i2l hx hb dL_count_7 rfl ?_
    refine my_last hx hb hK hP hD hS 0 rfl (by omega) (by omega) dL_count_8 (fun H2 locs2 hP hD hS => ?_)
    have hP : va_P D vwCl (oW ca o (vp_updL v0 0 zr.toInt64) ++ cW ca Ad g2) H2 := hP
    have hD : va_D A (oW ca o (vp_updL v0 0 zr.toInt64) ++ cW ca Ad g2) := hD
    refine lv_goto (tgt := 15) hx hb dL_count_9 (by decide) ?_
    refine lv_iconst (v := nI 0) hx hb dL_count_15 (by decide) ?_
    exact W.iret (v := nI 0) hx hb hr (fun t ht hW => ⟨⟨_, (g2, vp_updL v0 0 zr.toInt64), rfl, ⟨by rw [hR], fun _ => by rw [hR]; rfl, by rw [hR], hg2⟩, by rw [ht]; exact hP, hD⟩, hS.F ht⟩) hS.2.2 dL_count_16
set_option maxHeartbeats 4000000 in
set_option maxRecDepth 100000 in
theorem wL_setting (l : Launch) (hl0 : l.stackTraces = false) (D : va_G) (ca : Nat → ClassId) (sz : Nat) (Ad : CA) (g : CG) (o : Nat) (v0 : Nat → Int64) (x : Int32) (hg : okCg g) (hz : g.1.1 ≤ 30) : Met l yL_setting wsL_setting RML (pcZ D ca [.ref Ad.1, .int x, .ref o] (oW ca o v0 ++ cW ca Ad g) sz) (va_Qi (fun (zr : Int32) (u : CG × (Nat → Int64)) => wrP (R_setting (abC g) x) zr u) (qB D (va_A (oW ca o v0 ++ cW ca Ad g) sz) (fun u : CG × (Nat → Int64) => oW ca o u.2 ++ cW ca Ad u.1)) (va_A (oW ca o v0 ++ cW ca Ad g) sz)) 8 240 (va_A (oW ca o v0 ++ cW ca Ad g) sz) := by
  refine my_ofWH (cc := cL_setting) (maxL := 4) (ret := (some .int)) (hh := [(0, 9, 12, 24)]) (by decide) rfl ?_
  intro p e s m args below meth c s₁ B hml hv
  obtain ⟨rfl, hsz, hP, hK, hD0, hZ⟩ := hv
  have hx := B.exec
  have hb := B.bytes
  have hr := B.returns
  have hts := atoms_spec (ws := wsL_setting) B.pre
  have hown : s.vm.findClass RL = some m.cls := findClass_of_methodNamed B.named
  have hlocks := B.notSynchronized
  have htb : c.exceptionTable.toList = _ := vx_table (x := yL_setting) B (hts _ List.mem_cons_self)
  subst hsz
  have hD := hD0.self (sz := s.heap.size)
  generalize hAe : va_A (oW ca o v0 ++ cW ca Ad g) s.heap.size = A at hD hZ ⊢
  have hA : ∀ q : Nat, s.heap.size ≤ q → A q := fun q h => by rw [← hAe]; exact Or.inr h
  have hS : va_S A s.heap s.heap [] := va_S.rf
  have hl := lv_entry ([.ref Ad.1, .int x, .ref o]) (n := 4) (kk_le rfl)
  rw [lg_entry_eq]
  generalize (lg_sl ([.ref Ad.1, .int x, .ref o]) ++ List.replicate (4 - (lg_sl ([.ref Ad.1, .int x, .ref o])).length) Slot.unset).toArray = ls at hl ⊢
  have hl : lv_has ls 4 [(0, .ref Ad.1), (1, .int x), (2, .ref o)] := hl
  refine lv_aload_n hx hb dL_setting_0 rfl (lv_at hl 2 rfl) ?_
  refine lv_iconst (v := nI 0) hx hb dL_setting_1 (by decide) ?_
  refine lv_aload_n hx hb dL_setting_2 rfl (lv_at hl 0 rfl) ?_
  refine lv_iload_n hx hb dL_setting_3 rfl (lv_at hl 1 rfl) ?_
  have hP9 : va_P D vwCl (cW ca Ad g ++ oW ca o v0) s.heap := my_P_perm hP List.perm_append_comm
  have hD9 : va_D A (cW ca Ad g ++ oW ca o v0) := my_D_perm hD List.perm_append_comm
  have hFc := my_free hD9 hS hA
  refine vx_calli (vx_runV (As := [.int x]) (rest := [.int (nI 0), .ref o]) ⟨hx, hb, hml, hown, hts⟩ (cC_setting l hl0 D ca s.heap.size Ad g x hg hz) (cwV 1 hts gL_setting_X5_setting rfl rfl rfl (by decide +kernel) ⟨kk_le rfl, kk_le rfl⟩) (pvZ hK (my_P_left hP9) (my_D_true (my_D_left hD9)) (hZ.at hS hFc) (cW_rc hK (my_P_left hP9))) rfl rfl hl.1 rfl (lv_room (kk_le rfl)) dL_setting_4 ⟨kk_le rfl, kk_le rfl⟩) hS (fun q _ h => hFc q h) hFc (fun q _ h => hFc q h) ?_ ?_
  · intro E ce q9 g2 t H1 locs1 ht hal hpx hBX h1 h2 hS hcell hvm hcl
    obtain ⟨⟨k9, hR, hE⟩, hP1, hD1⟩ := hBX
    rw [ht] at hP1
    obtain ⟨hP, hD⟩ := my_join hP9 hD9 h2 hFc hP1 hD1
    have hP := my_P_perm hP List.perm_append_comm
    have hD := my_D_perm hD List.perm_append_comm
    obtain ⟨rfl, rfl⟩ := exO_c hE
    refine vx_catch hown [] ⟨0, 9, 12, 24⟩ [] htb (fun z hz => nomatch hz) rfl (by decide) (hts (.classLink RL 24 "java/lang/IndexOutOfBoundsException") (by decide +kernel)) (va_Nw.use rfl hK.2.cIndexOutOfBoundsException) hcell hvm hcl ?_
    refine lv_astore_n (lv' := [(3, .ref q9), (0, .ref Ad.1), (1, .int x), (2, .ref o)]) hx hb dL_setting_12 rfl hl (by decide) rfl (fun ls hl => ?_)
    refine lv_iconst (v := nI 1) hx hb dL_setting_13 (by decide) ?_
    exact W.iret (v := nI 1) hx hb hr (fun t ht hW => ⟨⟨_, (g2, v0), rfl, ⟨by rw [hR], fun h => absurd h (by decide), by rw [hR]; exact hpx.2.symm, hpx.1⟩, by rw [ht]; exact hP, hD⟩, hS.F ht⟩) hS.2.2 dL_setting_14
  · intro zr g2 t H1 locs1 ht hal hpost hB h1 h2 hS
    obtain ⟨hP1, hD1⟩ := hB
    rw [ht] at hP1
    obtain ⟨hR, hg2⟩ := hpost
    obtain ⟨hP, hD⟩ := my_join hP9 hD9 h2 hFc hP1 hD1
    have hP : va_P D vwCl (oW ca o v0 ++ cW ca Ad g2) H1 := my_P_perm hP List.perm_append_comm
    have hD : va_D A (oW ca o v0 ++ cW ca Ad g2) := my_D_perm hD List.perm_append_comm
    refine lv_i2l hx hb dL_setting_7 rfl ?_
    refine my_last hx hb hK hP hD hS 0 rfl (by omega) (by omega) dL_setting_8 (fun H2 locs2 hP hD hS => ?_)
    have hP : va_P D vwCl (oW ca o (vp_updL v0 0 zr.toInt64) ++ cW ca Ad g2) H2 := hP
    have hD : va_D A (oW ca o (vp_updL v0 0 zr.toInt64) ++ cW ca Ad g2) := hD
    refine lv_goto (tgt := 15) hx hb dL_setting_9 (by decide) ?_
    refine lv_iconst (v := nI 0) hx hb dL_setting_15 (by decide) ?_
    exact W.iret (v := nI 0) hx hb hr (fun t ht hW => ⟨⟨_, (g2, vp_updL v0 0 zr.toInt64), rfl, ⟨by rw [hR], fun _ => by rw [hR]; rfl, by rw [hR], hg2⟩, by rw [ht]; exact hP, hD⟩, hS.F ht⟩) hS.2.2 dL_setting_16
set_option maxHeartbeats 4000000 in
set_option maxRecDepth 100000 in
theorem wL_repair (l : Launch) (hl0 : l.stackTraces = false) (D : va_G) (ca : Nat → ClassId) (sz : Nat) (Ad : CA) (g : CG) (o : Nat) (v0 : Nat → Int64) (x : Int32) (hg : okCg g) (hz : g.1.1 ≤ 30) : Met l yL_repair wsL_repair RML (pcZ D ca [.ref Ad.1, .int x, .ref o] (oW ca o v0 ++ cW ca Ad g) sz) (va_Qi (fun (zr : Int32) (u : CG × (Nat → Int64)) => wrP (R_repair (abC g) x) zr u) (qB D (va_A (oW ca o v0 ++ cW ca Ad g) sz) (fun u : CG × (Nat → Int64) => oW ca o u.2 ++ cW ca Ad u.1)) (va_A (oW ca o v0 ++ cW ca Ad g) sz)) 8 240 (va_A (oW ca o v0 ++ cW ca Ad g) sz) := by
  refine my_ofWH (cc := cL_repair) (maxL := 4) (ret := (some .int)) (hh := [(0, 9, 12, 13)]) (by decide) rfl ?_
  intro p e s m args below meth c s₁ B hml hv
  obtain ⟨rfl, hsz, hP, hK, hD0, hZ⟩ := hv
  have hx := B.exec
  have hb := B.bytes
  have hr := B.returns
  have hts := atoms_spec (ws := wsL_repair) B.pre
  have hown : s.vm.findClass RL = some m.cls := findClass_of_methodNamed B.named
  have hlocks := B.notSynchronized
  have htb : c.exceptionTable.toList = _ := vx_table (x := yL_repair) B (hts _ List.mem_cons_self)
  subst hsz
  have hD := hD0.self (sz := s.heap.size)
  generalize hAe : va_A (oW ca o v0 ++ cW ca Ad g) s.heap.size = A at hD hZ ⊢
  have hA : ∀ q : Nat, s.heap.size ≤ q → A q := fun q h => by rw [← hAe]; exact Or.inr h
  have hS : va_S A s.heap s.heap [] := va_S.rf
  have hl := lv_entry ([.ref Ad.1, .int x, .ref o]) (n := 4) (kk_le rfl)
  rw [lg_entry_eq]
  generalize (lg_sl ([.ref Ad.1, .int x, .ref o]) ++ List.replicate (4 - (lg_sl ([.ref Ad.1, .int x, .ref o])).length) Slot.unset).toArray = ls at hl ⊢
  have hl : lv_has ls 4 [(0, .ref Ad.1), (1, .int x), (2, .ref o)] := hl
  refine lv_aload_n hx hb dL_repair_0 rfl (lv_at hl 2 rfl) ?_
  refine lv_iconst (v := nI 0) hx hb dL_repair_1 (by decide) ?_
  refine lv_aload_n hx hb dL_repair_2 rfl (lv_at hl 0 rfl) ?_
  refine lv_iload_n hx hb dL_repair_3 rfl (lv_at hl 1 rfl) ?_
  have hP9 : va_P D vwCl (cW ca Ad g ++ oW ca o v0) s.heap := my_P_perm hP List.perm_append_comm
  have hD9 : va_D A (cW ca Ad g ++ oW ca o v0) := my_D_perm hD List.perm_append_comm
  have hFc := my_free hD9 hS hA
  refine vx_calli (vx_runV (As := [.int x]) (rest := [.int (nI 0), .ref o]) ⟨hx, hb, hml, hown, hts⟩ (cC_repair l hl0 D ca s.heap.size Ad g x hg hz) (cwV 1 hts gL_repair_X5_repair rfl rfl rfl (by decide +kernel) ⟨kk_le rfl, kk_le rfl⟩) (pvZ hK (my_P_left hP9) (my_D_true (my_D_left hD9)) (hZ.at hS hFc) (cW_rc hK (my_P_left hP9))) rfl rfl hl.1 rfl (lv_room (kk_le rfl)) dL_repair_4 ⟨kk_le rfl, kk_le rfl⟩) hS (fun q _ h => hFc q h) hFc (fun q _ h => hFc q h) ?_ ?_
  · intro E ce q9 g2 t H1 locs1 ht hal hpx hBX h1 h2 hS hcell hvm hcl
    obtain ⟨⟨k9, hR, hE⟩, hP1, hD1⟩ := hBX
    rw [ht] at hP1
    obtain ⟨hP, hD⟩ := my_join hP9 hD9 h2 hFc hP1 hD1
    have hP := my_P_perm hP List.perm_append_comm
    have hD := my_D_perm hD List.perm_append_comm
    obtain ⟨rfl, rfl⟩ := exA_c hE
    refine vx_catch hown [] ⟨0, 9, 12, 13⟩ [] htb (fun z hz => nomatch hz) rfl (by decide) (hts (.classLink RL 13 "java/lang/IllegalArgumentException") (by decide +kernel)) (va_Nw.use rfl hK.2.cIllegalArgumentException) hcell hvm hcl ?_
    refine lv_astore_n (lv' := [(3, .ref q9), (0, .ref Ad.1), (1, .int x), (2, .ref o)]) hx hb dL_repair_12 rfl hl (by decide) rfl (fun ls hl => ?_)
    refine lv_iconst (v := nI 1) hx hb dL_repair_13 (by decide) ?_
    exact W.iret (v := nI 1) hx hb hr (fun t ht hW => ⟨⟨_, (g2, v0), rfl, ⟨by rw [hR], fun h => absurd h (by decide), by rw [hR]; exact hpx.2.symm, hpx.1⟩, by rw [ht]; exact hP, hD⟩, hS.F ht⟩) hS.2.2 dL_repair_14
  · intro zr g2 t H1 locs1 ht hal hpost hB h1 h2 hS
    obtain ⟨hP1, hD1⟩ := hB
    rw [ht] at hP1
    obtain ⟨hR, hg2⟩ := hpost
    obtain ⟨hP, hD⟩ := my_join hP9 hD9 h2 hFc hP1 hD1
    have hP : va_P D vwCl (oW ca o v0 ++ cW ca Ad g2) H1 := my_P_perm hP List.perm_append_comm
    have hD : va_D A (oW ca o v0 ++ cW ca Ad g2) := my_D_perm hD List.perm_append_comm
    refine lv_i2l hx hb dL_repair_7 rfl ?_
    refine my_last hx hb hK hP hD hS 0 rfl (by omega) (by omega) dL_repair_8 (fun H2 locs2 hP hD hS => ?_)
    have hP : va_P D vwCl (oW ca o (vp_updL v0 0 zr.toInt64) ++ cW ca Ad g2) H2 := hP
    have hD : va_D A (oW ca o (vp_updL v0 0 zr.toInt64) ++ cW ca Ad g2) := hD
    refine lv_goto (tgt := 15) hx hb dL_repair_9 (by decide) ?_
    refine lv_iconst (v := nI 0) hx hb dL_repair_15 (by decide) ?_
    exact W.iret (v := nI 0) hx hb hr (fun t ht hW => ⟨⟨_, (g2, vp_updL v0 0 zr.toInt64), rfl, ⟨by rw [hR], fun _ => by rw [hR]; rfl, by rw [hR], hg2⟩, by rw [ht]; exact hP, hD⟩, hS.F ht⟩) hS.2.2 dL_repair_16
set_option maxHeartbeats 4000000 in
set_option maxRecDepth 100000 in
theorem wL_ratios (l : Launch) (hl0 : l.stackTraces = false) (D : va_G) (ca : Nat → ClassId) (sz : Nat) (Ad : CA) (g : CG) (o : Nat) (v0 : Nat → Int64) (x : Int32) (hg : okCg g) (hz : g.1.1 ≤ 30) : Met l yL_ratios wsL_ratios RML (pcZ D ca [.ref Ad.1, .int x, .ref o] (oW ca o v0 ++ cW ca Ad g) sz) (va_Qi (fun (zr : Int32) (u : CG × (Nat → Int64)) => wrP (R_ratios (abC g) x) zr u) (qB D (va_A (oW ca o v0 ++ cW ca Ad g) sz) (fun u : CG × (Nat → Int64) => oW ca o u.2 ++ cW ca Ad u.1)) (va_A (oW ca o v0 ++ cW ca Ad g) sz)) 8 240 (va_A (oW ca o v0 ++ cW ca Ad g) sz) := by
  refine my_ofWH (cc := cL_ratios) (maxL := 4) (ret := (some .int)) (hh := [(0, 9, 12, 13)]) (by decide) rfl ?_
  intro p e s m args below meth c s₁ B hml hv
  obtain ⟨rfl, hsz, hP, hK, hD0, hZ⟩ := hv
  have hx := B.exec
  have hb := B.bytes
  have hr := B.returns
  have hts := atoms_spec (ws := wsL_ratios) B.pre
  have hown : s.vm.findClass RL = some m.cls := findClass_of_methodNamed B.named
  have hlocks := B.notSynchronized
  have htb : c.exceptionTable.toList = _ := vx_table (x := yL_ratios) B (hts _ List.mem_cons_self)
  subst hsz
  have hD := hD0.self (sz := s.heap.size)
  generalize hAe : va_A (oW ca o v0 ++ cW ca Ad g) s.heap.size = A at hD hZ ⊢
  have hA : ∀ q : Nat, s.heap.size ≤ q → A q := fun q h => by rw [← hAe]; exact Or.inr h
  have hS : va_S A s.heap s.heap [] := va_S.rf
  have hl := lv_entry ([.ref Ad.1, .int x, .ref o]) (n := 4) (kk_le rfl)
  rw [lg_entry_eq]
  generalize (lg_sl ([.ref Ad.1, .int x, .ref o]) ++ List.replicate (4 - (lg_sl ([.ref Ad.1, .int x, .ref o])).length) Slot.unset).toArray = ls at hl ⊢
  have hl : lv_has ls 4 [(0, .ref Ad.1), (1, .int x), (2, .ref o)] := hl
  refine lv_aload_n hx hb dL_ratios_0 rfl (lv_at hl 2 rfl) ?_
  refine lv_iconst (v := nI 0) hx hb dL_ratios_1 (by decide) ?_
  refine lv_aload_n hx hb dL_ratios_2 rfl (lv_at hl 0 rfl) ?_
  refine lv_iload_n hx hb dL_ratios_3 rfl (lv_at hl 1 rfl) ?_
  have hP9 : va_P D vwCl (cW ca Ad g ++ oW ca o v0) s.heap := my_P_perm hP List.perm_append_comm
  have hD9 : va_D A (cW ca Ad g ++ oW ca o v0) := my_D_perm hD List.perm_append_comm
  have hFc := my_free hD9 hS hA
  refine vx_calli (vx_runV (As := [.int x]) (rest := [.int (nI 0), .ref o]) ⟨hx, hb, hml, hown, hts⟩ (cC_ratios l hl0 D ca s.heap.size Ad g x hg hz) (cwV 1 hts gL_ratios_X5_ratios rfl rfl rfl (by decide +kernel) ⟨kk_le rfl, kk_le rfl⟩) (pvZ hK (my_P_left hP9) (my_D_true (my_D_left hD9)) (hZ.at hS hFc) (cW_rc hK (my_P_left hP9))) rfl rfl hl.1 rfl (lv_room (kk_le rfl)) dL_ratios_4 ⟨kk_le rfl, kk_le rfl⟩) hS (fun q _ h => hFc q h) hFc (fun q _ h => hFc q h) ?_ ?_
  · intro E ce q9 g2 t H1 locs1 ht hal hpx hBX h1 h2 hS hcell hvm hcl
    obtain ⟨⟨k9, hR, hE⟩, hP1, hD1⟩ := hBX
    rw [ht] at hP1
    obtain ⟨hP, hD⟩ := my_join hP9 hD9 h2 hFc hP1 hD1
    have hP := my_P_perm hP List.perm_append_comm
    have hD := my_D_perm hD List.perm_append_comm
    obtain ⟨rfl, rfl⟩ := exA_c hE
    refine vx_catch hown [] ⟨0, 9, 12, 13⟩ [] htb (fun z hz => nomatch hz) rfl (by decide) (hts (.classLink RL 13 "java/lang/IllegalArgumentException") (by decide +kernel)) (va_Nw.use rfl hK.2.cIllegalArgumentException) hcell hvm hcl ?_
    refine lv_astore_n (lv' := [(3, .ref q9), (0, .ref Ad.1), (1, .int x), (2, .ref o)]) hx hb dL_ratios_12 rfl hl (by decide) rfl (fun ls hl => ?_)
    refine lv_iconst (v := nI 1) hx hb dL_ratios_13 (by decide) ?_
    exact W.iret (v := nI 1) hx hb hr (fun t ht hW => ⟨⟨_, (g2, v0), rfl, ⟨by rw [hR], fun h => absurd h (by decide), by rw [hR]; exact hpx.2.symm, hpx.1⟩, by rw [ht]; exact hP, hD⟩, hS.F ht⟩) hS.2.2 dL_ratios_14
  · intro zr g2 t H1 locs1 ht hal hpost hB h1 h2 hS
    obtain ⟨hP1, hD1⟩ := hB
    rw [ht] at hP1
    obtain ⟨hR, hg2⟩ := hpost
    obtain ⟨hP, hD⟩ := my_join hP9 hD9 h2 hFc hP1 hD1
    have hP : va_P D vwCl (oW ca o v0 ++ cW ca Ad g2) H1 := my_P_perm hP List.perm_append_comm
    have hD : va_D A (oW ca o v0 ++ cW ca Ad g2) := my_D_perm hD List.perm_append_comm
    refine lv_i2l hx hb dL_ratios_7 rfl ?_
    refine my_last hx hb hK hP hD hS 0 rfl (by omega) (by omega) dL_ratios_8 (fun H2 locs2 hP hD hS => ?_)
    have hP : va_P D vwCl (oW ca o (vp_updL v0 0 zr.toInt64) ++ cW ca Ad g2) H2 := hP
    have hD : va_D A (oW ca o (vp_updL v0 0 zr.toInt64) ++ cW ca Ad g2) := hD
    refine lv_goto (tgt := 15) hx hb dL_ratios_9 (by decide) ?_
    refine lv_iconst (v := nI 0) hx hb dL_ratios_15 (by decide) ?_
    exact W.iret (v := nI 0) hx hb hr (fun t ht hW => ⟨⟨_, (g2, vp_updL v0 0 zr.toInt64), rfl, ⟨by rw [hR], fun _ => by rw [hR]; rfl, by rw [hR], hg2⟩, by rw [ht]; exact hP, hD⟩, hS.F ht⟩) hS.2.2 dL_ratios_16
