theorem and15 (x : Int32) : ∃ k, k < 16 ∧ x &&& nI 15 = nI k := by
  refine ⟨(x &&& nI 15).toBitVec.toNat, ?_, ?_⟩
  · rw [Int32.toBitVec_and, BitVec.toNat_and]
    exact Nat.lt_of_le_of_lt Nat.and_le_right (by decide)
  · apply Int32.toBitVec_inj.mp
    show (x &&& nI 15).toBitVec = BitVec.ofNat 32 (x &&& nI 15).toBitVec.toNat
    simp
set_option maxHeartbeats 8000000 in
set_option maxRecDepth 100000 in
theorem kL_act (l : Launch) (D : va_G) (ca : Nat → ClassId) (sz : Nat) (Ad : CA) (g : CG) (σ : SG) (v w : Int32) (hg : okCg g) (ha : abC g = σ) (B0 : Int) (hE0 : okE B0 σ.1) (hB1 : 56000 ≤ B0) (hB2 : B0 ≤ 2000000) : Met l yL_act wsL_act RMT (pcZ D ca [.ref Ad.1, .int v, .int w] (cW ca Ad g) sz) (va_Qi (fun (zr : Int32) (g2 : CG) => (zr = (actS σ.1 v w).1 ∧ ∃ b' : IL, abC g2 = ((actS σ.1 v w).2, (if (actS σ.1 v w).1 = -9 then σ.2.1 else svL σ.2.1 σ.1), σ.2.2.1, σ.2.2.2.1, b')) ∧ okCg g2) (qB D (va_A (cW ca Ad g) sz) (cW ca Ad)) (va_A (cW ca Ad g) sz)) 8 240 (va_A (cW ca Ad g) sz) := by
  refine Met.ofW (cc := cL_act) (maxL := 6) (ret := (some .int)) (by decide) rfl ?_
  intro p e s m args below meth c s₁ B hml hv
  obtain ⟨rfl, hsz, hP, hK, hD0, hZ⟩ := hv
  have hx := B.exec
  have hb := B.bytes
  have hr := B.returns
  have hts := atoms_spec (ws := wsL_act) B.pre
  have hown : s.vm.findClass RL = some m.cls := findClass_of_methodNamed B.named
  have hlocks := B.notSynchronized
  subst hsz
  have hD := hD0.self (sz := s.heap.size)
  generalize hAe : va_A (cW ca Ad g) s.heap.size = A at hD hZ ⊢
  have hA : ∀ q : Nat, s.heap.size ≤ q → A q := fun q h => by rw [← hAe]; exact Or.inr h
  have hS : va_S A s.heap s.heap [] := va_S.rf
  have hl := lv_entry ([.ref Ad.1, .int v, .int w]) (n := 6) (kk_le rfl)
  rw [lg_entry_eq]
  generalize (lg_sl ([.ref Ad.1, .int v, .int w]) ++ List.replicate (6 - (lg_sl ([.ref Ad.1, .int v, .int w])).length) Slot.unset).toArray = ls at hl ⊢
  have hl : lv_has ls 6 [(0, .ref Ad.1), (1, .int v), (2, .int w)] := hl
  generalize hQz : MQ below _ _ _ _ _ _ = Qz
  have hzz : σ.1.1 ≤ 30 := okE_z hE0
  have hz24 : σ.1.1 ≤ 24 := hE0.2.1
  have hTT := okE_T hE0
  have hT2 : (tS σ.1).length ≤ 200 := hTT.1
  have hL6 : (lS σ.1).length ≤ 6 := hE0.2.2.2.2.1
  have hs24 := nb_le hz24 hL6
  have hw24 := nb_le hz24 (dg_len w)
  have hps := pl_le (j := σ.1.2.2.2.1) hs24
  have hpw := pl_le (j := σ.1.2.2.2.1) hw24
  refine lv_aload_n hx hb dL_act_0 rfl (lv_at hl 0 rfl) ?_
  refine lv_iconst (v := nI 0) hx hb dL_act_1 (by decide) ?_
  have hFc := my_free0 hD hS hA
  have hE : R_count σ (nI 0) = (nI 0, nI ((tS σ.1).length), σ) := (e_count σ (by omega)).trans rfl
  refine va_calli (va_runV (As := [.int (nI 0)]) (rest := []) ⟨hx, hb, hml, hown, hts⟩ (cE_count l D ca s.heap.size Ad g (nI 0) hg (zz_of ha hzz) (no_of (F := (fun s9 => R_count s9 (nI 0))) ha hE)) (cwV 1 hts gL_act_X5_count rfl rfl rfl (by decide +kernel) ⟨kk_le rfl, kk_le rfl⟩) (pvZ hK hP (my_D_true hD) (hZ.at hS hFc) (cW_rc hK hP)) rfl rfl hl.1 rfl (lv_room (kk_le rfl)) dL_act_2 ⟨kk_le rfl, kk_le rfl⟩) hS (fun q _ h => hFc q h) hFc (fun z1 g1 t H1 locs1 ht hvm hw1 hB1 hs1 hk1 hS => ?_)
  obtain ⟨hP, hD1⟩ := hB1
  rw [ht] at hP
  have hD := my_up hD1 hFc
  obtain ⟨hw1, hg⟩ := hw1
  obtain ⟨hz1, ha⟩ := rt_get (F := (fun s9 => R_count s9 (nI 0))) ha hE hw1
  subst hz1
  refine lv_istore_n (lv' := [(3, .int (nI ((tS σ.1).length))), (0, .ref Ad.1), (1, .int v), (2, .int w)]) hx hb dL_act_5 rfl hl (by decide) rfl (fun ls hl => ?_)
  have k88 : ∀ (x4 : Int32) (ls : Array Slot), slN σ.1 v ≤ 2 → lv_has ls 6 [(4, .int x4), (3, .int (nI ((tS σ.1).length))), (0, .ref Ad.1), (1, .int v), (2, .int w)] → W p l e RMT s m ([.ref Ad.1, .int v, .int w] : List Value).toArray below meth c H1 locs1 0 0 Qz (F0 m 88 ls []) := by
    intro x4 ls hsl hl
    refine lv_aload_n hx hb dL_act_88 rfl (lv_at hl 2 rfl) ?_
    have hFc := my_free0 hD hS hA
    have hE : R_clearBuffer σ = (nI 0, nI σ.2.2.2.2.length, (σ.1, σ.2.1, σ.2.2.1, σ.2.2.2.1, [])) := e_clearBuffer σ
    refine va_calli (va_runV (As := []) (rest := []) ⟨hx, hb, hml, hown, hts⟩ (cE_clearBuffer l D ca H1.size Ad g1 hg (zz_of ha hzz)) (cwV 0 hts gL_act_X5_clearBuffer rfl rfl rfl (by decide +kernel) ⟨kk_le rfl, kk_le rfl⟩) (pvZ hK hP (my_D_true hD) (hZ.at hS hFc) (cW_rc hK hP)) rfl rfl hl.1 rfl (lv_room (kk_le rfl)) dL_act_89 ⟨kk_le rfl, kk_le rfl⟩) hS (fun q _ h => hFc q h) hFc (fun z2 g2 t H2 locs2 ht hvm hw2 hB2 hs2 hk2 hS => ?_)
    obtain ⟨hP, hD2⟩ := hB2
    rw [ht] at hP
    have hD := my_up hD2 hFc
    obtain ⟨hw2, hg⟩ := hw2
    obtain ⟨hz2, ha⟩ := rt_get (F := R_clearBuffer) ha hE hw2
    subst hz2
    refine lv_pop hx hb dL_act_92 rfl ?_
    refine lv_iload_n hx hb dL_act_93 rfl (lv_at hl 4 rfl) ?_
    refine lv_bipush (v := nI 6) hx hb dL_act_94 (by decide) ?_
    refine vp_callSi (va_Run.run (va_runS (As := [.int w, .int (nI 6)]) (rest := []) ⟨hx, hb, hml, hown, hts⟩ (kL_low l w 6 ⟨by decide, by decide⟩) (va_cwS 2 hts gL_act_L_low rfl rfl rfl (by decide +kernel) ⟨kk_le rfl, kk_le rfl⟩) psN rfl rfl hl.1 rfl (lv_room (kk_le rfl)) dL_act_96 ⟨kk_le rfl, kk_le rfl⟩)) (fun r3 hr3 => ?_)
    subst hr3
    refine lv_istore (lv' := [(5, .int (nI (lowN w 6))), (4, .int x4), (3, .int (nI ((tS σ.1).length))), (0, .ref Ad.1), (1, .int v), (2, .int w)]) hx hb dL_act_99 hl (by decide) rfl (fun ls hl => ?_)
    have h6 := low_lt w (n := 6) (by decide)
    have e5 : nI (lowN w 6) = nI (lowN w 6 + 1) + Int32.ofInt (-1) := by rw [ni_dec _ (by omega), Nat.add_sub_cancel]
    have lp101 : ∀ (n i : Nat), i + n = lowN w 6 + 1 → ∀ (g : CG) (H : Heap) (locs : List Loc), okCg g → abC g = (σ.1, σ.2.1, σ.2.2.1, σ.2.2.2.1, bfF w i) → va_P D vwCl (cW ca Ad g) H → va_D A (cW ca Ad g) → va_S A s.heap H locs → ∀ (ls : Array Slot), lv_has ls 6 [(5, .int (nI n + Int32.ofInt (-1))), (0, .ref Ad.1), (1, .int v), (2, .int w)] → W p l e RMT s m ([.ref Ad.1, .int v, .int w] : List Value).toArray below meth c H locs 0 0 Qz (F0 m 101 ls []) := by
      intro n
      induction n with
      | zero =>
        intro i hi g H locs hg ha hP hD hS ls hl
        obtain rfl : i = lowN w 6 + 1 := by omega
        refine lv_iload hx hb dL_act_101 (lv_at hl 0 rfl) ?_
        refine lv_if_lt (tgt := 133) hx hb dL_act_103 (by decide) (fun c4 => ?_) (fun c4 => absurd (by decide) c4)
        refine lv_aload_n hx hb dL_act_133 rfl (lv_at hl 1 rfl) ?_
        have hFc := my_free0 hD hS hA
        have hE : R_write (σ.1, σ.2.1, σ.2.2.1, σ.2.2.2.1, bfF w (lowN w 6 + 1)) = (nI 0, nI (passL σ.1.2.2.2.1 0 (strp σ.1.1 (dgL w))).length, mvS σ (swS σ.1 (dgL w)) []) := e_write _ (bf_er w) hw24
        refine va_calli (va_runV (As := []) (rest := []) ⟨hx, hb, hml, hown, hts⟩ (cE_write l D ca H.size Ad g hg (zz_of ha hzz) (no_of (F := R_write) ha hE)) (cwV 0 hts gL_act_X5_write rfl rfl rfl (by decide +kernel) ⟨kk_le rfl, kk_le rfl⟩) (pvZ hK hP (my_D_true hD) (hZ.at hS hFc) (cW_rc hK hP)) rfl rfl hl.1 rfl (lv_room (kk_le rfl)) dL_act_134 ⟨kk_le rfl, kk_le rfl⟩) hS (fun q _ h => hFc q h) hFc (fun z5 g5 t H5 locs5 ht hvm hw5 hB5 hs5 hk5 hS => ?_)
        obtain ⟨hP, hD5⟩ := hB5
        rw [ht] at hP
        have hD := my_up hD5 hFc
        obtain ⟨hw5, hg⟩ := hw5
        obtain ⟨hz5, ha⟩ := rt_get (F := R_write) ha hE hw5
        subst hz5
        subst hQz
        refine W.widen (k := 8) (n := 240) (kk_le rfl) (kk_le rfl) ?_
        exact W.iret (v := nI (passL σ.1.2.2.2.1 0 (strp σ.1.1 (dgL w))).length) hx hb hr (fun t ht hW => ⟨⟨_, g5, rfl, ⟨act_post (ac_w hsl) (ne9_n (by omega)) ha, hg⟩, by rw [ht]; exact hP, hD⟩, hS.F ht⟩) hS.2.2 dL_act_137
      | succ n ih =>
        intro i hi g H locs hg ha hP hD hS ls hl
        have e6 : nI (n + 1) + Int32.ofInt (-1) = nI n := by rw [ni_dec _ (by omega), Nat.add_sub_cancel]
        rw [e6] at hl
        refine lv_iload hx hb dL_act_101 (lv_at hl 0 rfl) ?_
        refine ni_if_lt (tgt := 133) (by omega) hx hb dL_act_103 (by decide) (fun c6 => c6.elim) (fun c6 => ?_)
        refine lv_aload_n hx hb dL_act_106 rfl (lv_at hl 1 rfl) ?_
        refine lv_bipush (v := nI 48) hx hb dL_act_107 (by decide) ?_
        refine lv_iload_n hx hb dL_act_109 rfl (lv_at hl 3 rfl) ?_
        refine lv_iconst (v := nI 3) hx hb dL_act_110 (by decide) ?_
        refine lv_iconst (v := nI 2) hx hb dL_act_111 (by decide) ?_
        refine lv_iload hx hb dL_act_112 (lv_at hl 0 rfl) ?_
        refine ni_imul hx hb dL_act_114 ?_
        refine ni_iadd hx hb dL_act_115 ?_
        refine lv_ishr hx hb dL_act_116 ?_
        refine lv_bipush (v := nI 10) hx hb dL_act_117 (by decide) ?_
        refine vp_callSi (va_Run.run (va_runS (As := [.int (w >>> ((nI (3 + (2 * n))) &&& 31)), .int (nI 10)]) (rest := [.int (nI 48), .ref Ad.1]) ⟨hx, hb, hml, hown, hts⟩ (kL_low l (w >>> ((nI (3 + (2 * n))) &&& 31)) 10 ⟨by decide, by decide⟩) (va_cwS 2 hts gL_act_L_low rfl rfl rfl (by decide +kernel) ⟨kk_le rfl, kk_le rfl⟩) psN rfl rfl hl.1 rfl (lv_room (kk_le rfl)) dL_act_119 ⟨kk_le rfl, kk_le rfl⟩)) (fun r7 hr7 => ?_)
        subst hr7
        refine ni_iadd hx hb dL_act_122 ?_
        have h10 := low_lt (w >>> (nI (3 + 2 * n) &&& 31)) (n := 10) (by decide)
        have eb : bfF w i ++ [nI (48 + lowN (w >>> (nI (3 + 2 * n) &&& 31)) 10)] = bfF w (i + 1) := by
          unfold bfF
          rw [lst_succ]
          show _ = _ ++ [cdF w (lowN w 6 - i)]
          rw [show lowN w 6 - i = n by omega]
          rfl
        have hbl : (bfF w i).length = i := lst_len _ _
        have hFc := my_free0 hD hS hA
        have hE : R_append (σ.1, σ.2.1, σ.2.2.1, σ.2.2.2.1, bfF w i) (nI (48 + lowN (w >>> (nI (3 + 2 * n) &&& 31)) 10)) = (nI 0, nI ((bfF w i).length + 1), (σ.1, σ.2.1, σ.2.2.1, σ.2.2.2.1, bfF w (i + 1))) := (e_append _ (inF_n (by omega) (by omega) (by decide)) (by show ¬ (bfF w i).length = 40; omega)).trans (congrArg (fun b9 : IL => ((nI 0, nI ((bfF w i).length + 1), (σ.1, σ.2.1, σ.2.2.1, σ.2.2.2.1, b9)) : RT)) eb)
        refine va_calli (va_runV (As := [.int (nI (48 + (lowN (w >>> ((nI (3 + (2 * n))) &&& 31)) 10)))]) (rest := []) ⟨hx, hb, hml, hown, hts⟩ (cE_append l D ca H.size Ad g (nI (48 + lowN (w >>> (nI (3 + 2 * n) &&& 31)) 10)) hg (zz_of ha hzz) (no_of (F := (fun s9 => R_append s9 (nI (48 + lowN (w >>> (nI (3 + 2 * n) &&& 31)) 10)))) ha hE)) (cwV 1 hts gL_act_X5_append rfl rfl rfl (by decide +kernel) ⟨kk_le rfl, kk_le rfl⟩) (pvZ hK hP (my_D_true hD) (hZ.at hS hFc) (cW_rc hK hP)) rfl rfl hl.1 rfl (lv_room (kk_le rfl)) dL_act_123 ⟨kk_le rfl, kk_le rfl⟩) hS (fun q _ h => hFc q h) hFc (fun z8 g8 t H8 locs8 ht hvm hw8 hB8 hs8 hk8 hS => ?_)
        obtain ⟨hP, hD8⟩ := hB8
        rw [ht] at hP
        have hD := my_up hD8 hFc
        obtain ⟨hw8, hg⟩ := hw8
        obtain ⟨hz8, ha⟩ := rt_get (F := (fun s9 => R_append s9 (nI (48 + lowN (w >>> (nI (3 + 2 * n) &&& 31)) 10)))) ha hE hw8
        subst hz8
        refine lv_pop hx hb dL_act_126 rfl ?_
        refine lv_iinc (v := (nI n) + Int32.ofInt (-1)) (lv' := [(5, .int ((nI n) + Int32.ofInt (-1))), (0, .ref Ad.1), (1, .int v), (2, .int w)]) hx hb dL_act_127 hl (k := 0) rfl rfl (by decide) rfl (fun ls hl => ?_)
        refine lv_goto (tgt := 101) hx hb dL_act_130 (by decide) ?_
        exact ih (i + 1) (by omega) _ _ _ hg ha hP hD hS ls (lv_sub hl [0, 1, 2, 3] rfl)
    rw [e5] at hl
    exact lp101 (lowN w 6 + 1) 0 (by omega) _ _ _ hg ha hP hD hS ls (lv_sub hl [0, 3, 4, 5] rfl)
  have k138 : ∀ (ls : Array Slot), slN σ.1 v = 3 → lv_has ls 6 [(4, .int (nI (plN σ.1 v))), (3, .int (nI ((tS σ.1).length))), (0, .ref Ad.1), (1, .int v), (2, .int w)] → W p l e RMT s m ([.ref Ad.1, .int v, .int w] : List Value).toArray below meth c H1 locs1 0 0 Qz (F0 m 138 ls []) := by
    intro ls hsl hl
    have hn0 : ¬ (tS σ.1).length = 0 := sl_n (v := v) (by omega)
    have hpl : plN σ.1 v < (tS σ.1).length := pl_lt hn0
    refine lv_aload_n hx hb dL_act_138 rfl (lv_at hl 2 rfl) ?_
    refine lv_iconst (v := nI 4) hx hb dL_act_139 (by decide) ?_
    have hFc := my_free0 hD hS hA
    have hE : R_count σ (nI 4) = (nI 0, nI ((lS σ.1).length), σ) := (e_count σ (by omega)).trans rfl
    refine va_calli (va_runV (As := [.int (nI 4)]) (rest := []) ⟨hx, hb, hml, hown, hts⟩ (cE_count l D ca H1.size Ad g1 (nI 4) hg (zz_of ha hzz) (no_of (F := (fun s9 => R_count s9 (nI 4))) ha hE)) (cwV 1 hts gL_act_X5_count rfl rfl rfl (by decide +kernel) ⟨kk_le rfl, kk_le rfl⟩) (pvZ hK hP (my_D_true hD) (hZ.at hS hFc) (cW_rc hK hP)) rfl rfl hl.1 rfl (lv_room (kk_le rfl)) dL_act_140 ⟨kk_le rfl, kk_le rfl⟩) hS (fun q _ h => hFc q h) hFc (fun z9 g9 t H9 locs9 ht hvm hw9 hB9 hs9 hk9 hS => ?_)
    obtain ⟨hP, hD9⟩ := hB9
    rw [ht] at hP
    have hD := my_up hD9 hFc
    obtain ⟨hw9, hg⟩ := hw9
    obtain ⟨hz9, ha⟩ := rt_get (F := (fun s9 => R_count s9 (nI 4))) ha hE hw9
    subst hz9
    refine ni_if_le (tgt := 153) (by omega) hx hb dL_act_143 (by decide) (fun c10 => ?_) (fun c10 => ?_)
    · refine lv_bipush (v := (-9)) hx hb dL_act_153 (by decide) ?_
      subst hQz
      refine W.widen (k := 8) (n := 240) (kk_le rfl) (kk_le rfl) ?_
      exact W.iret (v := (-9)) hx hb hr (fun t ht hW => ⟨⟨_, g9, rfl, ⟨act_post9 (ac_s9 hsl c10) ha, hg⟩, by rw [ht]; exact hP, hD⟩, hS.F ht⟩) hS.2.2 dL_act_155
    · refine lv_aload_n hx hb dL_act_146 rfl (lv_at hl 2 rfl) ?_
      have hFc := my_free0 hD hS hA
      have hE : R_swipe σ = (nI 0, nI (passL σ.1.2.2.2.1 0 (strp σ.1.1 (lS σ.1))).length, mvS σ (swS σ.1 (lS σ.1)) σ.2.2.2.2) := e_swipe σ (by omega) hs24
      refine va_calli (va_runV (As := []) (rest := []) ⟨hx, hb, hml, hown, hts⟩ (cE_swipe l D ca H9.size Ad g9 hg (zz_of ha hzz) (no_of (F := R_swipe) ha hE)) (cwV 0 hts gL_act_X5_swipe rfl rfl rfl (by decide +kernel) ⟨kk_le rfl, kk_le rfl⟩) (pvZ hK hP (my_D_true hD) (hZ.at hS hFc) (cW_rc hK hP)) rfl rfl hl.1 rfl (lv_room (kk_le rfl)) dL_act_147 ⟨kk_le rfl, kk_le rfl⟩) hS (fun q _ h => hFc q h) hFc (fun z11 g11 t H11 locs11 ht hvm hw11 hB11 hs11 hk11 hS => ?_)
      obtain ⟨hP, hD11⟩ := hB11
      rw [ht] at hP
      have hD := my_up hD11 hFc
      obtain ⟨hw11, hg⟩ := hw11
      obtain ⟨hz11, ha⟩ := rt_get (F := R_swipe) ha hE hw11
      subst hz11
      refine lv_goto (tgt := 155) hx hb dL_act_150 (by decide) ?_
      subst hQz
      refine W.widen (k := 8) (n := 240) (kk_le rfl) (kk_le rfl) ?_
      exact W.iret (v := nI (passL σ.1.2.2.2.1 0 (strp σ.1.1 (lS σ.1))).length) hx hb hr (fun t ht hW => ⟨⟨_, g11, rfl, ⟨act_post (ac_s hsl (by omega)) (ne9_n (by omega)) ha, hg⟩, by rw [ht]; exact hP, hD⟩, hS.F ht⟩) hS.2.2 dL_act_155
  have k156 : ∀ (ls : Array Slot), (slN σ.1 v = 4 ∨ slN σ.1 v = 5) → lv_has ls 6 [(4, .int (nI (plN σ.1 v))), (3, .int (nI ((tS σ.1).length))), (0, .ref Ad.1), (1, .int v), (2, .int w)] → W p l e RMT s m ([.ref Ad.1, .int v, .int w] : List Value).toArray below meth c H1 locs1 0 0 Qz (F0 m 156 ls []) := by
    intro ls hsl hl
    have hn0 : ¬ (tS σ.1).length = 0 := sl_n (v := v) (by omega)
    have hpl : plN σ.1 v < (tS σ.1).length := pl_lt hn0
    refine lv_aload_n hx hb dL_act_156 rfl (lv_at hl 2 rfl) ?_
    have hFc := my_free0 hD hS hA
    have hE : R_turn σ = (nI 0, (tS σ.1).reverse.headD (nI 0), mvS σ (setT σ.1 (tS σ.1).reverse) σ.2.2.2.2) := e_turn σ
    refine va_calli (va_runV (As := []) (rest := []) ⟨hx, hb, hml, hown, hts⟩ (cE_turn l D ca H1.size Ad g1 hg (zz_of ha hzz)) (cwV 0 hts gL_act_X5_turn rfl rfl rfl (by decide +kernel) ⟨kk_le rfl, kk_le rfl⟩) (pvZ hK hP (my_D_true hD) (hZ.at hS hFc) (cW_rc hK hP)) rfl rfl hl.1 rfl (lv_room (kk_le rfl)) dL_act_157 ⟨kk_le rfl, kk_le rfl⟩) hS (fun q _ h => hFc q h) hFc (fun z12 g12 t H12 locs12 ht hvm hw12 hB12 hs12 hk12 hS => ?_)
    obtain ⟨hP, hD12⟩ := hB12
    rw [ht] at hP
    have hD := my_up hD12 hFc
    obtain ⟨hw12, hg⟩ := hw12
    obtain ⟨hz12, ha⟩ := rt_get (F := R_turn) ha hE hw12
    subst hz12
    subst hQz
    refine W.widen (k := 8) (n := 240) (kk_le rfl) (kk_le rfl) ?_
    exact W.iret (v := (tS σ.1).reverse.headD (nI 0)) hx hb hr (fun t ht hW => ⟨⟨_, g12, rfl, ⟨act_post (ac_t hsl) (ne9_of (hTT.2.1 _ (List.mem_reverse.mp (hd_mem (by rw [List.length_reverse]; exact hn0))))) ha, hg⟩, by rw [ht]; exact hP, hD⟩, hS.F ht⟩) hS.2.2 dL_act_160
  have k161 : ∀ (ls : Array Slot), slN σ.1 v = 6 → lv_has ls 6 [(4, .int (nI (plN σ.1 v))), (3, .int (nI ((tS σ.1).length))), (0, .ref Ad.1), (1, .int v), (2, .int w)] → W p l e RMT s m ([.ref Ad.1, .int v, .int w] : List Value).toArray below meth c H1 locs1 0 0 Qz (F0 m 161 ls []) := by
    intro ls hsl hl
    have hn0 : ¬ (tS σ.1).length = 0 := sl_n (v := v) (by omega)
    have hpl : plN σ.1 v < (tS σ.1).length := pl_lt hn0
    refine lv_iload hx hb dL_act_161 (lv_at hl 0 rfl) ?_
    refine lv_iconst (v := nI 1) hx hb dL_act_163 (by decide) ?_
    refine ni_iadd hx hb dL_act_164 ?_
    refine lv_iload_n hx hb dL_act_165 rfl (lv_at hl 1 rfl) ?_
    refine ni_icmp_ge (tgt := 178) (by omega) (by omega) hx hb dL_act_166 (by decide) (fun c13 => ?_) (fun c13 => ?_)
    · refine lv_bipush (v := (-9)) hx hb dL_act_178 (by decide) ?_
      subst hQz
      refine W.widen (k := 8) (n := 240) (kk_le rfl) (kk_le rfl) ?_
      exact W.iret (v := (-9)) hx hb hr (fun t ht hW => ⟨⟨_, g1, rfl, ⟨act_post9 (ac_j9 hsl (by omega)) ha, hg⟩, by rw [ht]; exact hP, hD⟩, hS.F ht⟩) hS.2.2 dL_act_180
    · refine lv_aload_n hx hb dL_act_169 rfl (lv_at hl 2 rfl) ?_
      refine lv_iload hx hb dL_act_170 (lv_at hl 0 rfl) ?_
      have hFc := my_free0 hD hS hA
      have hE : R_join σ (nI (plN σ.1 v)) = (nI 0, (tS σ.1).getD (plN σ.1 v) 0 + (tS σ.1).getD (plN σ.1 v + 1) 0, mvS σ (setT σ.1 (joL (tS σ.1) (plN σ.1 v))) σ.2.2.2.2) := e_join σ c13 hTT.1
      refine va_calli (va_runV (As := [.int (nI (plN σ.1 v))]) (rest := []) ⟨hx, hb, hml, hown, hts⟩ (cE_join l D ca H1.size Ad g1 (nI (plN σ.1 v)) hg (zz_of ha hzz) (no_of (F := (fun s9 => R_join s9 (nI (plN σ.1 v)))) ha hE)) (cwV 1 hts gL_act_X5_join rfl rfl rfl (by decide +kernel) ⟨kk_le rfl, kk_le rfl⟩) (pvZ hK hP (my_D_true hD) (hZ.at hS hFc) (cW_rc hK hP)) rfl rfl hl.1 rfl (lv_room (kk_le rfl)) dL_act_172 ⟨kk_le rfl, kk_le rfl⟩) hS (fun q _ h => hFc q h) hFc (fun z14 g14 t H14 locs14 ht hvm hw14 hB14 hs14 hk14 hS => ?_)
      obtain ⟨hP, hD14⟩ := hB14
      rw [ht] at hP
      have hD := my_up hD14 hFc
      obtain ⟨hw14, hg⟩ := hw14
      obtain ⟨hz14, ha⟩ := rt_get (F := (fun s9 => R_join s9 (nI (plN σ.1 v)))) ha hE hw14
      subst hz14
      refine lv_goto (tgt := 180) hx hb dL_act_175 (by decide) ?_
      subst hQz
      refine W.widen (k := 8) (n := 240) (kk_le rfl) (kk_le rfl) ?_
      exact W.iret (v := (tS σ.1).getD (plN σ.1 v) 0 + (tS σ.1).getD (plN σ.1 v + 1) 0) hx hb hr (fun t ht hW => ⟨⟨_, g14, rfl, ⟨act_post (ac_j hsl c13) (ne9_of ((ok_jo hTT.2 (by omega) c13).1 _ (jo_mem c13))) ha, hg⟩, by rw [ht]; exact hP, hD⟩, hS.F ht⟩) hS.2.2 dL_act_180
  have k181 : ∀ (ls : Array Slot), slN σ.1 v = 7 → lv_has ls 6 [(4, .int (nI (plN σ.1 v))), (3, .int (nI ((tS σ.1).length))), (0, .ref Ad.1), (1, .int v), (2, .int w)] → W p l e RMT s m ([.ref Ad.1, .int v, .int w] : List Value).toArray below meth c H1 locs1 0 0 Qz (F0 m 181 ls []) := by
    intro ls hsl hl
    have hn0 : ¬ (tS σ.1).length = 0 := sl_n (v := v) (by omega)
    have hpl : plN σ.1 v < (tS σ.1).length := pl_lt hn0
    obtain ⟨n9, h91, h92, e9⟩ := tm_n hE0 hpl
    refine lv_iload_n hx hb dL_act_181 rfl (lv_at hl 1 rfl) ?_
    refine lv_sipush (v := nI 200) hx hb dL_act_182 (by decide) ?_
    refine ni_icmp_ge (tgt := 221) (by omega) (by omega) hx hb dL_act_185 (by decide) (fun c15 => ?_) (fun c15 => ?_)
    · refine lv_bipush (v := (-9)) hx hb dL_act_221 (by decide) ?_
      subst hQz
      refine W.widen (k := 8) (n := 240) (kk_le rfl) (kk_le rfl) ?_
      exact W.iret (v := (-9)) hx hb hr (fun t ht hW => ⟨⟨_, g1, rfl, ⟨act_post9 (ac_c9 hsl (fun h => absurd h.1 (by omega))) ha, hg⟩, by rw [ht]; exact hP, hD⟩, hS.F ht⟩) hS.2.2 dL_act_223
    · have c200 : (tS σ.1).length < 200 := c15
      refine lv_aload_n hx hb dL_act_188 rfl (lv_at hl 2 rfl) ?_
      refine lv_iload hx hb dL_act_189 (lv_at hl 0 rfl) ?_
      have hFc := my_free0 hD hS hA
      have hE : R_time σ (nI (plN σ.1 v)) = (nI 0, nI n9, σ) := (e_time σ (by omega)).trans (by rw [e9])
      refine va_calli (va_runV (As := [.int (nI (plN σ.1 v))]) (rest := []) ⟨hx, hb, hml, hown, hts⟩ (cE_time l D ca H1.size Ad g1 (nI (plN σ.1 v)) hg (zz_of ha hzz) (no_of (F := (fun s9 => R_time s9 (nI (plN σ.1 v)))) ha hE)) (cwV 1 hts gL_act_X5_time rfl rfl rfl (by decide +kernel) ⟨kk_le rfl, kk_le rfl⟩) (pvZ hK hP (my_D_true hD) (hZ.at hS hFc) (cW_rc hK hP)) rfl rfl hl.1 rfl (lv_room (kk_le rfl)) dL_act_191 ⟨kk_le rfl, kk_le rfl⟩) hS (fun q _ h => hFc q h) hFc (fun z16 g16 t H16 locs16 ht hvm hw16 hB16 hs16 hk16 hS => ?_)
      obtain ⟨hP, hD16⟩ := hB16
      rw [ht] at hP
      have hD := my_up hD16 hFc
      obtain ⟨hw16, hg⟩ := hw16
      obtain ⟨hz16, ha⟩ := rt_get (F := (fun s9 => R_time s9 (nI (plN σ.1 v)))) ha hE hw16
      subst hz16
      refine lv_iconst (v := nI 1) hx hb dL_act_194 (by decide) ?_
      refine ni_icmp_le (tgt := 221) (by omega) (by omega) hx hb dL_act_195 (by decide) (fun c17 => ?_) (fun c17 => ?_)
      · refine lv_bipush (v := (-9)) hx hb dL_act_221 (by decide) ?_
        subst hQz
        refine W.widen (k := 8) (n := 240) (kk_le rfl) (kk_le rfl) ?_
        exact W.iret (v := (-9)) hx hb hr (fun t ht hW => ⟨⟨_, g16, rfl, ⟨act_post9 (ac_c9 hsl (fun h => by have q9 := h.2; rw [e9] at q9; have q8 := (ni_lt (by decide) h92).mp q9; omega)) ha, hg⟩, by rw [ht]; exact hP, hD⟩, hS.F ht⟩) hS.2.2 dL_act_223
      · refine lv_aload_n hx hb dL_act_198 rfl (lv_at hl 2 rfl) ?_
        refine lv_iload hx hb dL_act_199 (lv_at hl 0 rfl) ?_
        refine lv_iconst (v := nI 1) hx hb dL_act_201 (by decide) ?_
        refine lv_iload_n hx hb dL_act_202 rfl (lv_at hl 4 rfl) ?_
        refine lv_aload_n hx hb dL_act_203 rfl (lv_at hl 2 rfl) ?_
        refine lv_iload hx hb dL_act_204 (lv_at hl 0 rfl) ?_
        have hFc := my_free0 hD hS hA
        have hE : R_time σ (nI (plN σ.1 v)) = (nI 0, nI n9, σ) := (e_time σ (by omega)).trans (by rw [e9])
        refine va_calli (va_runV (As := [.int (nI (plN σ.1 v))]) (rest := [.int w, .int (nI 1), .int (nI (plN σ.1 v)), .ref Ad.1]) ⟨hx, hb, hml, hown, hts⟩ (cE_time l D ca H16.size Ad g16 (nI (plN σ.1 v)) hg (zz_of ha hzz) (no_of (F := (fun s9 => R_time s9 (nI (plN σ.1 v)))) ha hE)) (cwV 1 hts gL_act_X5_time rfl rfl rfl (by decide +kernel) ⟨kk_le rfl, kk_le rfl⟩) (pvZ hK hP (my_D_true hD) (hZ.at hS hFc) (cW_rc hK hP)) rfl rfl hl.1 rfl (lv_room (kk_le rfl)) dL_act_206 ⟨kk_le rfl, kk_le rfl⟩) hS (fun q _ h => hFc q h) hFc (fun z18 g18 t H18 locs18 ht hvm hw18 hB18 hs18 hk18 hS => ?_)
        obtain ⟨hP, hD18⟩ := hB18
        rw [ht] at hP
        have hD := my_up hD18 hFc
        obtain ⟨hw18, hg⟩ := hw18
        obtain ⟨hz18, ha⟩ := rt_get (F := (fun s9 => R_time s9 (nI (plN σ.1 v)))) ha hE hw18
        subst hz18
        refine lv_iconst (v := nI 1) hx hb dL_act_209 (by decide) ?_
        refine ni_isub (by omega) hx hb dL_act_210 ?_
        have hlw := low_lt w (n := n9 - 1) (by omega)
        refine vp_callSi (va_Run.run (va_runS (As := [.int w, .int (nI (n9 - 1))]) (rest := [.int (nI 1), .int (nI (plN σ.1 v)), .ref Ad.1]) ⟨hx, hb, hml, hown, hts⟩ (kL_low l w (n9 - 1) ⟨by omega, by omega⟩) (va_cwS 2 hts gL_act_L_low rfl rfl rfl (by decide +kernel) ⟨kk_le rfl, kk_le rfl⟩) psN rfl rfl hl.1 rfl (lv_room (kk_le rfl)) dL_act_211 ⟨kk_le rfl, kk_le rfl⟩)) (fun r19 hr19 => ?_)
        subst hr19
        refine ni_iadd hx hb dL_act_214 ?_
        have hFc := my_free0 hD hS hA
        have hE : R_scratch σ (nI (plN σ.1 v)) (nI (1 + lowN w (n9 - 1))) = (nI 0, nI ((tS σ.1).length + 1), mvS σ (setT σ.1 (scL (tS σ.1) (plN σ.1 v) (nI (1 + lowN w (n9 - 1))))) σ.2.2.2.2) := e_scratch σ hpl c200 (fun q9 => by have q8 := (ni_lt (by omega) (by decide)).mp q9; omega) (by rw [gd_any (d := 0) (d' := -1) hpl, e9]; exact (ni_lt (by omega) h92).mpr (by omega))
        refine va_calli (va_runV (As := [.int (nI (plN σ.1 v)), .int (nI (1 + (lowN w (n9 - 1))))]) (rest := []) ⟨hx, hb, hml, hown, hts⟩ (cE_scratch l D ca H18.size Ad g18 (nI (plN σ.1 v)) (nI (1 + lowN w (n9 - 1))) hg (zz_of ha hzz) (no_of (F := (fun s9 => R_scratch s9 (nI (plN σ.1 v)) (nI (1 + lowN w (n9 - 1))))) ha hE)) (cwV 2 hts gL_act_X5_scratch rfl rfl rfl (by decide +kernel) ⟨kk_le rfl, kk_le rfl⟩) (pvZ hK hP (my_D_true hD) (hZ.at hS hFc) (cW_rc hK hP)) rfl rfl hl.1 rfl (lv_room (kk_le rfl)) dL_act_215 ⟨kk_le rfl, kk_le rfl⟩) hS (fun q _ h => hFc q h) hFc (fun z20 g20 t H20 locs20 ht hvm hw20 hB20 hs20 hk20 hS => ?_)
        obtain ⟨hP, hD20⟩ := hB20
        rw [ht] at hP
        have hD := my_up hD20 hFc
        obtain ⟨hw20, hg⟩ := hw20
        obtain ⟨hz20, ha⟩ := rt_get (F := (fun s9 => R_scratch s9 (nI (plN σ.1 v)) (nI (1 + lowN w (n9 - 1))))) ha hE hw20
        subst hz20
        refine lv_goto (tgt := 223) hx hb dL_act_218 (by decide) ?_
        subst hQz
        refine W.widen (k := 8) (n := 240) (kk_le rfl) (kk_le rfl) ?_
        exact W.iret (v := nI ((tS σ.1).length + 1)) hx hb hr (fun t ht hW => ⟨⟨_, g20, rfl, ⟨act_post ((ac_c hsl ⟨c200, by rw [e9]; exact (ni_lt (by decide) h92).mpr (by omega)⟩).trans (by rw [e9, nI_clamp h92])) (ne9_n (by omega)) ha, hg⟩, by rw [ht]; exact hP, hD⟩, hS.F ht⟩) hS.2.2 dL_act_223
  have k224 : ∀ (ls : Array Slot), (slN σ.1 v = 8 ∨ slN σ.1 v = 9) → lv_has ls 6 [(4, .int (nI (plN σ.1 v))), (3, .int (nI ((tS σ.1).length))), (0, .ref Ad.1), (1, .int v), (2, .int w)] → W p l e RMT s m ([.ref Ad.1, .int v, .int w] : List Value).toArray below meth c H1 locs1 0 0 Qz (F0 m 224 ls []) := by
    intro ls hsl hl
    have hn0 : ¬ (tS σ.1).length = 0 := sl_n (v := v) (by omega)
    have hpl : plN σ.1 v < (tS σ.1).length := pl_lt hn0
    refine lv_aload_n hx hb dL_act_224 rfl (lv_at hl 2 rfl) ?_
    refine lv_iload hx hb dL_act_225 (lv_at hl 0 rfl) ?_
    refine lv_iconst (v := nI 1) hx hb dL_act_227 (by decide) ?_
    refine lv_iload_n hx hb dL_act_228 rfl (lv_at hl 4 rfl) ?_
    refine lv_sipush (v := nI 400) hx hb dL_act_229 (by decide) ?_
    have hlw := low_lt w (n := 400) (by decide)
    refine vp_callSi (va_Run.run (va_runS (As := [.int w, .int (nI 400)]) (rest := [.int (nI 1), .int (nI (plN σ.1 v)), .ref Ad.1]) ⟨hx, hb, hml, hown, hts⟩ (kL_low l w 400 ⟨by decide, by decide⟩) (va_cwS 2 hts gL_act_L_low rfl rfl rfl (by decide +kernel) ⟨kk_le rfl, kk_le rfl⟩) psN rfl rfl hl.1 rfl (lv_room (kk_le rfl)) dL_act_232 ⟨kk_le rfl, kk_le rfl⟩)) (fun r21 hr21 => ?_)
    subst hr21
    refine ni_iadd hx hb dL_act_235 ?_
    have hFc := my_free0 hD hS hA
    have hE : R_change σ (nI (plN σ.1 v)) (nI (1 + lowN w 400)) = (nI 0, (tS σ.1).getD (plN σ.1 v) 0, mvS σ (setT σ.1 (chL (tS σ.1) (plN σ.1 v) (nI (1 + lowN w 400)))) σ.2.2.2.2) := e_change σ hpl hTT.1 (inF_n (by omega) (by omega) (by decide))
    refine va_calli (va_runV (As := [.int (nI (plN σ.1 v)), .int (nI (1 + (lowN w 400)))]) (rest := []) ⟨hx, hb, hml, hown, hts⟩ (cE_change l D ca H1.size Ad g1 (nI (plN σ.1 v)) (nI (1 + lowN w 400)) hg (zz_of ha hzz) (no_of (F := (fun s9 => R_change s9 (nI (plN σ.1 v)) (nI (1 + lowN w 400)))) ha hE)) (cwV 2 hts gL_act_X5_change rfl rfl rfl (by decide +kernel) ⟨kk_le rfl, kk_le rfl⟩) (pvZ hK hP (my_D_true hD) (hZ.at hS hFc) (cW_rc hK hP)) rfl rfl hl.1 rfl (lv_room (kk_le rfl)) dL_act_236 ⟨kk_le rfl, kk_le rfl⟩) hS (fun q _ h => hFc q h) hFc (fun z22 g22 t H22 locs22 ht hvm hw22 hB22 hs22 hk22 hS => ?_)
    obtain ⟨hP, hD22⟩ := hB22
    rw [ht] at hP
    have hD := my_up hD22 hFc
    obtain ⟨hw22, hg⟩ := hw22
    obtain ⟨hz22, ha⟩ := rt_get (F := (fun s9 => R_change s9 (nI (plN σ.1 v)) (nI (1 + lowN w 400)))) ha hE hw22
    subst hz22
    subst hQz
    refine W.widen (k := 8) (n := 240) (kk_le rfl) (kk_le rfl) ?_
    exact W.iret (v := (tS σ.1).getD (plN σ.1 v) 0) hx hb hr (fun t ht hW => ⟨⟨_, g22, rfl, ⟨act_post (ac_h hsl) (ne9_of (hTT.2.1 _ (gd_mem hpl))) ha, hg⟩, by rw [ht]; exact hP, hD⟩, hS.F ht⟩) hS.2.2 dL_act_239
  have k240 : ∀ (ls : Array Slot), 10 ≤ slN σ.1 v → lv_has ls 6 [(4, .int (nI (plN σ.1 v))), (3, .int (nI ((tS σ.1).length))), (0, .ref Ad.1), (1, .int v), (2, .int w)] → W p l e RMT s m ([.ref Ad.1, .int v, .int w] : List Value).toArray below meth c H1 locs1 0 0 Qz (F0 m 240 ls []) := by
    intro ls hsl hl
    have hn0 : ¬ (tS σ.1).length = 0 := sl_n (v := v) (by omega)
    have hpl : plN σ.1 v < (tS σ.1).length := pl_lt hn0
    have hlw := low_lt w (n := 4) (by decide)
    refine lv_iload_n hx hb dL_act_240 rfl (lv_at hl 4 rfl) ?_
    refine lv_iconst (v := nI 4) hx hb dL_act_241 (by decide) ?_
    refine vp_callSi (va_Run.run (va_runS (As := [.int w, .int (nI 4)]) (rest := []) ⟨hx, hb, hml, hown, hts⟩ (kL_low l w 4 ⟨by decide, by decide⟩) (va_cwS 2 hts gL_act_L_low rfl rfl rfl (by decide +kernel) ⟨kk_le rfl, kk_le rfl⟩) psN rfl rfl hl.1 rfl (lv_room (kk_le rfl)) dL_act_242 ⟨kk_le rfl, kk_le rfl⟩)) (fun r23 hr23 => ?_)
    subst hr23
    rcases (show lowN w 4 = 0 ∨ lowN w 4 = 1 ∨ lowN w 4 = 2 ∨ lowN w 4 = 3 by omega) with h4 | h4 | h4 | h4
    · rw [h4]
      refine lv_istore (lv' := [(5, .int (nI 0)), (4, .int (nI (plN σ.1 v))), (3, .int (nI ((tS σ.1).length))), (0, .ref Ad.1), (1, .int v), (2, .int w)]) hx hb dL_act_245 hl (by decide) rfl (fun ls hl => ?_)
      refine lv_aload_n hx hb dL_act_247 rfl (lv_at hl 3 rfl) ?_
      refine lv_iload hx hb dL_act_248 (lv_at hl 0 rfl) ?_
      refine lv_iload hx hb dL_act_250 (lv_at hl 0 rfl) ?_
      refine ni_if_ne (tgt := 268) (by omega) hx hb dL_act_252 (by decide) (fun c24 => absurd c24 (by decide)) (fun c24 => ?_)
      refine lv_iconst (v := nI 5) hx hb dL_act_255 (by decide) ?_
      refine lv_iload_n hx hb dL_act_256 rfl (lv_at hl 5 rfl) ?_
      refine lv_iconst (v := nI 2) hx hb dL_act_257 (by decide) ?_
      refine lv_ishr hx hb dL_act_258 ?_
      refine lv_bipush (v := nI 20) hx hb dL_act_259 (by decide) ?_
      refine vp_callSi (va_Run.run (va_runS (As := [.int (w >>> ((nI 2) &&& 31)), .int (nI 20)]) (rest := [.int (nI 5), .int (nI 0), .ref Ad.1]) ⟨hx, hb, hml, hown, hts⟩ (kL_low l (w >>> ((nI 2) &&& 31)) 20 ⟨by decide, by decide⟩) (va_cwS 2 hts gL_act_L_low rfl rfl rfl (by decide +kernel) ⟨kk_le rfl, kk_le rfl⟩) psN rfl rfl hl.1 rfl (lv_room (kk_le rfl)) dL_act_261 ⟨kk_le rfl, kk_le rfl⟩)) (fun r25 hr25 => ?_)
      subst hr25
      refine ni_iadd hx hb dL_act_264 ?_
      refine lv_goto (tgt := 313) hx hb dL_act_265 (by decide) ?_
      have hFc := my_free0 hD hS hA
      have hE : R_set σ (nI 0) (nI (5 + lowN (w >>> (nI 2 &&& 31)) 20)) = (nI 0, seS σ.1 0, mvS σ (seW σ.1 0 (svF w 0)) σ.2.2.2.2) := e_set σ (by decide) (sv_ok w (q := 0) (by decide))
      refine va_calli (va_runV (As := [.int (nI 0), .int (nI (5 + (lowN (w >>> ((nI 2) &&& 31)) 20)))]) (rest := []) ⟨hx, hb, hml, hown, hts⟩ (cE_set l D ca H1.size Ad g1 (nI 0) (nI (5 + lowN (w >>> (nI 2 &&& 31)) 20)) hg (zz_of ha hzz) (no_of (F := (fun s9 => R_set s9 (nI 0) (nI (5 + lowN (w >>> (nI 2 &&& 31)) 20)))) ha hE)) (cwV 2 hts gL_act_X5_set rfl rfl rfl (by decide +kernel) ⟨kk_le rfl, kk_le rfl⟩) (pvZ hK hP (my_D_true hD) (hZ.at hS hFc) (cW_rc hK hP)) rfl rfl hl.1 rfl (lv_room (kk_le rfl)) dL_act_313 ⟨kk_le rfl, kk_le rfl⟩) hS (fun q _ h => hFc q h) hFc (fun z26 g26 t H26 locs26 ht hvm hw26 hB26 hs26 hk26 hS => ?_)
      obtain ⟨hP, hD26⟩ := hB26
      rw [ht] at hP
      have hD := my_up hD26 hFc
      obtain ⟨hw26, hg⟩ := hw26
      obtain ⟨hz26, ha⟩ := rt_get (F := (fun s9 => R_set s9 (nI 0) (nI (5 + lowN (w >>> (nI 2 &&& 31)) 20)))) ha hE hw26
      subst hz26
      subst hQz
      refine W.widen (k := 8) (n := 240) (kk_le rfl) (kk_le rfl) ?_
      exact W.iret (v := seS σ.1 0) hx hb hr (fun t ht hW => ⟨⟨_, g26, rfl, ⟨act_post ((ac_e hsl).trans (by rw [h4])) (se_ne9 hE0 (by decide)) ha, hg⟩, by rw [ht]; exact hP, hD⟩, hS.F ht⟩) hS.2.2 dL_act_316
    · rw [h4]
      refine lv_istore (lv' := [(5, .int (nI 1)), (4, .int (nI (plN σ.1 v))), (3, .int (nI ((tS σ.1).length))), (0, .ref Ad.1), (1, .int v), (2, .int w)]) hx hb dL_act_245 hl (by decide) rfl (fun ls hl => ?_)
      refine lv_aload_n hx hb dL_act_247 rfl (lv_at hl 3 rfl) ?_
      refine lv_iload hx hb dL_act_248 (lv_at hl 0 rfl) ?_
      refine lv_iload hx hb dL_act_250 (lv_at hl 0 rfl) ?_
      refine ni_if_ne (tgt := 268) (by omega) hx hb dL_act_252 (by decide) (fun c27 => ?_) (fun c27 => absurd c27 (by decide))
      refine lv_iload hx hb dL_act_268 (lv_at hl 0 rfl) ?_
      refine lv_iconst (v := nI 1) hx hb dL_act_270 (by decide) ?_
      refine ni_icmp_ne (tgt := 288) (by omega) (by omega) hx hb dL_act_271 (by decide) (fun c28 => absurd rfl c28) (fun c28 => ?_)
      refine lv_bipush (v := nI 50) hx hb dL_act_274 (by decide) ?_
      refine lv_iload_n hx hb dL_act_276 rfl (lv_at hl 5 rfl) ?_
      refine lv_iconst (v := nI 2) hx hb dL_act_277 (by decide) ?_
      refine lv_ishr hx hb dL_act_278 ?_
      refine lv_bipush (v := nI 46) hx hb dL_act_279 (by decide) ?_
      refine vp_callSi (va_Run.run (va_runS (As := [.int (w >>> ((nI 2) &&& 31)), .int (nI 46)]) (rest := [.int (nI 50), .int (nI 1), .ref Ad.1]) ⟨hx, hb, hml, hown, hts⟩ (kL_low l (w >>> ((nI 2) &&& 31)) 46 ⟨by decide, by decide⟩) (va_cwS 2 hts gL_act_L_low rfl rfl rfl (by decide +kernel) ⟨kk_le rfl, kk_le rfl⟩) psN rfl rfl hl.1 rfl (lv_room (kk_le rfl)) dL_act_281 ⟨kk_le rfl, kk_le rfl⟩)) (fun r29 hr29 => ?_)
      subst hr29
      refine ni_iadd hx hb dL_act_284 ?_
      refine lv_goto (tgt := 313) hx hb dL_act_285 (by decide) ?_
      have hFc := my_free0 hD hS hA
      have hE : R_set σ (nI 1) (nI (50 + lowN (w >>> (nI 2 &&& 31)) 46)) = (nI 0, seS σ.1 1, mvS σ (seW σ.1 1 (svF w 1)) σ.2.2.2.2) := e_set σ (by decide) (sv_ok w (q := 1) (by decide))
      refine va_calli (va_runV (As := [.int (nI 1), .int (nI (50 + (lowN (w >>> ((nI 2) &&& 31)) 46)))]) (rest := []) ⟨hx, hb, hml, hown, hts⟩ (cE_set l D ca H1.size Ad g1 (nI 1) (nI (50 + lowN (w >>> (nI 2 &&& 31)) 46)) hg (zz_of ha hzz) (no_of (F := (fun s9 => R_set s9 (nI 1) (nI (50 + lowN (w >>> (nI 2 &&& 31)) 46)))) ha hE)) (cwV 2 hts gL_act_X5_set rfl rfl rfl (by decide +kernel) ⟨kk_le rfl, kk_le rfl⟩) (pvZ hK hP (my_D_true hD) (hZ.at hS hFc) (cW_rc hK hP)) rfl rfl hl.1 rfl (lv_room (kk_le rfl)) dL_act_313 ⟨kk_le rfl, kk_le rfl⟩) hS (fun q _ h => hFc q h) hFc (fun z30 g30 t H30 locs30 ht hvm hw30 hB30 hs30 hk30 hS => ?_)
      obtain ⟨hP, hD30⟩ := hB30
      rw [ht] at hP
      have hD := my_up hD30 hFc
      obtain ⟨hw30, hg⟩ := hw30
      obtain ⟨hz30, ha⟩ := rt_get (F := (fun s9 => R_set s9 (nI 1) (nI (50 + lowN (w >>> (nI 2 &&& 31)) 46)))) ha hE hw30
      subst hz30
      subst hQz
      refine W.widen (k := 8) (n := 240) (kk_le rfl) (kk_le rfl) ?_
      exact W.iret (v := seS σ.1 1) hx hb hr (fun t ht hW => ⟨⟨_, g30, rfl, ⟨act_post ((ac_e hsl).trans (by rw [h4])) (se_ne9 hE0 (by decide)) ha, hg⟩, by rw [ht]; exact hP, hD⟩, hS.F ht⟩) hS.2.2 dL_act_316
    · rw [h4]
      refine lv_istore (lv' := [(5, .int (nI 2)), (4, .int (nI (plN σ.1 v))), (3, .int (nI ((tS σ.1).length))), (0, .ref Ad.1), (1, .int v), (2, .int w)]) hx hb dL_act_245 hl (by decide) rfl (fun ls hl => ?_)
      refine lv_aload_n hx hb dL_act_247 rfl (lv_at hl 3 rfl) ?_
      refine lv_iload hx hb dL_act_248 (lv_at hl 0 rfl) ?_
      refine lv_iload hx hb dL_act_250 (lv_at hl 0 rfl) ?_
      refine ni_if_ne (tgt := 268) (by omega) hx hb dL_act_252 (by decide) (fun c31 => ?_) (fun c31 => absurd c31 (by decide))
      refine lv_iload hx hb dL_act_268 (lv_at hl 0 rfl) ?_
      refine lv_iconst (v := nI 1) hx hb dL_act_270 (by decide) ?_
      refine ni_icmp_ne (tgt := 288) (by omega) (by omega) hx hb dL_act_271 (by decide) (fun c32 => ?_) (fun c32 => absurd c32 (by decide))
      refine lv_iload hx hb dL_act_288 (lv_at hl 0 rfl) ?_
      refine lv_iconst (v := nI 2) hx hb dL_act_290 (by decide) ?_
      refine ni_icmp_ne (tgt := 305) (by omega) (by omega) hx hb dL_act_291 (by decide) (fun c33 => absurd rfl c33) (fun c33 => ?_)
      refine lv_iload_n hx hb dL_act_294 rfl (lv_at hl 5 rfl) ?_
      refine lv_iconst (v := nI 2) hx hb dL_act_295 (by decide) ?_
      refine lv_ishr hx hb dL_act_296 ?_
      refine lv_bipush (v := nI 101) hx hb dL_act_297 (by decide) ?_
      refine vp_callSi (va_Run.run (va_runS (As := [.int (w >>> ((nI 2) &&& 31)), .int (nI 101)]) (rest := [.int (nI 2), .ref Ad.1]) ⟨hx, hb, hml, hown, hts⟩ (kL_low l (w >>> ((nI 2) &&& 31)) 101 ⟨by decide, by decide⟩) (va_cwS 2 hts gL_act_L_low rfl rfl rfl (by decide +kernel) ⟨kk_le rfl, kk_le rfl⟩) psN rfl rfl hl.1 rfl (lv_room (kk_le rfl)) dL_act_299 ⟨kk_le rfl, kk_le rfl⟩)) (fun r34 hr34 => ?_)
      subst hr34
      refine lv_goto (tgt := 313) hx hb dL_act_302 (by decide) ?_
      have hFc := my_free0 hD hS hA
      have hE : R_set σ (nI 2) (nI (lowN (w >>> (nI 2 &&& 31)) 101)) = (nI 0, seS σ.1 2, mvS σ (seW σ.1 2 (svF w 2)) σ.2.2.2.2) := e_set σ (by decide) (sv_ok w (q := 2) (by decide))
      refine va_calli (va_runV (As := [.int (nI 2), .int (nI (lowN (w >>> ((nI 2) &&& 31)) 101))]) (rest := []) ⟨hx, hb, hml, hown, hts⟩ (cE_set l D ca H1.size Ad g1 (nI 2) (nI (lowN (w >>> (nI 2 &&& 31)) 101)) hg (zz_of ha hzz) (no_of (F := (fun s9 => R_set s9 (nI 2) (nI (lowN (w >>> (nI 2 &&& 31)) 101)))) ha hE)) (cwV 2 hts gL_act_X5_set rfl rfl rfl (by decide +kernel) ⟨kk_le rfl, kk_le rfl⟩) (pvZ hK hP (my_D_true hD) (hZ.at hS hFc) (cW_rc hK hP)) rfl rfl hl.1 rfl (lv_room (kk_le rfl)) dL_act_313 ⟨kk_le rfl, kk_le rfl⟩) hS (fun q _ h => hFc q h) hFc (fun z35 g35 t H35 locs35 ht hvm hw35 hB35 hs35 hk35 hS => ?_)
      obtain ⟨hP, hD35⟩ := hB35
      rw [ht] at hP
      have hD := my_up hD35 hFc
      obtain ⟨hw35, hg⟩ := hw35
      obtain ⟨hz35, ha⟩ := rt_get (F := (fun s9 => R_set s9 (nI 2) (nI (lowN (w >>> (nI 2 &&& 31)) 101)))) ha hE hw35
      subst hz35
      subst hQz
      refine W.widen (k := 8) (n := 240) (kk_le rfl) (kk_le rfl) ?_
      exact W.iret (v := seS σ.1 2) hx hb hr (fun t ht hW => ⟨⟨_, g35, rfl, ⟨act_post ((ac_e hsl).trans (by rw [h4])) (se_ne9 hE0 (by decide)) ha, hg⟩, by rw [ht]; exact hP, hD⟩, hS.F ht⟩) hS.2.2 dL_act_316
    · rw [h4]
      refine lv_istore (lv' := [(5, .int (nI 3)), (4, .int (nI (plN σ.1 v))), (3, .int (nI ((tS σ.1).length))), (0, .ref Ad.1), (1, .int v), (2, .int w)]) hx hb dL_act_245 hl (by decide) rfl (fun ls hl => ?_)
      refine lv_aload_n hx hb dL_act_247 rfl (lv_at hl 3 rfl) ?_
      refine lv_iload hx hb dL_act_248 (lv_at hl 0 rfl) ?_
      refine lv_iload hx hb dL_act_250 (lv_at hl 0 rfl) ?_
      refine ni_if_ne (tgt := 268) (by omega) hx hb dL_act_252 (by decide) (fun c36 => ?_) (fun c36 => absurd c36 (by decide))
      refine lv_iload hx hb dL_act_268 (lv_at hl 0 rfl) ?_
      refine lv_iconst (v := nI 1) hx hb dL_act_270 (by decide) ?_
      refine ni_icmp_ne (tgt := 288) (by omega) (by omega) hx hb dL_act_271 (by decide) (fun c37 => ?_) (fun c37 => absurd c37 (by decide))
      refine lv_iload hx hb dL_act_288 (lv_at hl 0 rfl) ?_
      refine lv_iconst (v := nI 2) hx hb dL_act_290 (by decide) ?_
      refine ni_icmp_ne (tgt := 305) (by omega) (by omega) hx hb dL_act_291 (by decide) (fun c38 => ?_) (fun c38 => absurd c38 (by decide))
      refine lv_iload_n hx hb dL_act_305 rfl (lv_at hl 5 rfl) ?_
      refine lv_iconst (v := nI 2) hx hb dL_act_306 (by decide) ?_
      refine lv_ishr hx hb dL_act_307 ?_
      refine lv_bipush (v := nI 41) hx hb dL_act_308 (by decide) ?_
      refine vp_callSi (va_Run.run (va_runS (As := [.int (w >>> ((nI 2) &&& 31)), .int (nI 41)]) (rest := [.int (nI 3), .ref Ad.1]) ⟨hx, hb, hml, hown, hts⟩ (kL_low l (w >>> ((nI 2) &&& 31)) 41 ⟨by decide, by decide⟩) (va_cwS 2 hts gL_act_L_low rfl rfl rfl (by decide +kernel) ⟨kk_le rfl, kk_le rfl⟩) psN rfl rfl hl.1 rfl (lv_room (kk_le rfl)) dL_act_310 ⟨kk_le rfl, kk_le rfl⟩)) (fun r39 hr39 => ?_)
      subst hr39
      have hFc := my_free0 hD hS hA
      have hE : R_set σ (nI 3) (nI (lowN (w >>> (nI 2 &&& 31)) 41)) = (nI 0, seS σ.1 3, mvS σ (seW σ.1 3 (svF w 3)) σ.2.2.2.2) := e_set σ (by decide) (sv_ok w (q := 3) (by decide))
      refine va_calli (va_runV (As := [.int (nI 3), .int (nI (lowN (w >>> ((nI 2) &&& 31)) 41))]) (rest := []) ⟨hx, hb, hml, hown, hts⟩ (cE_set l D ca H1.size Ad g1 (nI 3) (nI (lowN (w >>> (nI 2 &&& 31)) 41)) hg (zz_of ha hzz) (no_of (F := (fun s9 => R_set s9 (nI 3) (nI (lowN (w >>> (nI 2 &&& 31)) 41)))) ha hE)) (cwV 2 hts gL_act_X5_set rfl rfl rfl (by decide +kernel) ⟨kk_le rfl, kk_le rfl⟩) (pvZ hK hP (my_D_true hD) (hZ.at hS hFc) (cW_rc hK hP)) rfl rfl hl.1 rfl (lv_room (kk_le rfl)) dL_act_313 ⟨kk_le rfl, kk_le rfl⟩) hS (fun q _ h => hFc q h) hFc (fun z40 g40 t H40 locs40 ht hvm hw40 hB40 hs40 hk40 hS => ?_)
      obtain ⟨hP, hD40⟩ := hB40
      rw [ht] at hP
      have hD := my_up hD40 hFc
      obtain ⟨hw40, hg⟩ := hw40
      obtain ⟨hz40, ha⟩ := rt_get (F := (fun s9 => R_set s9 (nI 3) (nI (lowN (w >>> (nI 2 &&& 31)) 41)))) ha hE hw40
      subst hz40
      subst hQz
      refine W.widen (k := 8) (n := 240) (kk_le rfl) (kk_le rfl) ?_
      exact W.iret (v := seS σ.1 3) hx hb hr (fun t ht hW => ⟨⟨_, g40, rfl, ⟨act_post ((ac_e hsl).trans (by rw [h4])) (se_ne9 hE0 (by decide)) ha, hg⟩, by rw [ht]; exact hP, hD⟩, hS.F ht⟩) hS.2.2 dL_act_316
  by_cases h0 : (tS σ.1).length = 0
  · refine lv_iload_n hx hb dL_act_6 rfl (lv_at hl 0 rfl) ?_
    refine ni_if_ne (tgt := 14) (by omega) hx hb dL_act_7 (by decide) (fun c41 => absurd c41 (by omega)) (fun c41 => ?_)
    refine lv_iconst (v := nI 0) hx hb dL_act_10 (by decide) ?_
    refine lv_goto (tgt := 21) hx hb dL_act_11 (by decide) ?_
    refine lv_istore (lv' := [(4, .int (nI 0)), (3, .int (nI ((tS σ.1).length))), (0, .ref Ad.1), (1, .int v), (2, .int w)]) hx hb dL_act_21 hl (by decide) rfl (fun ls hl => ?_)
    refine lv_iload_n hx hb dL_act_23 rfl (lv_at hl 1 rfl) ?_
    refine ni_if_ne (tgt := 31) (by omega) hx hb dL_act_24 (by decide) (fun c42 => absurd c42 (by omega)) (fun c42 => ?_)
    refine lv_iconst (v := nI 0) hx hb dL_act_27 (by decide) ?_
    refine lv_goto (tgt := 35) hx hb dL_act_28 (by decide) ?_
    refine lv_tableIn (tgt := 88) (off := 53) hx hb dL_act_35 (by decide) (by decide) (by decide) (by decide) ?_
    exact k88 (nI 0) ls (by rw [sl_0 h0]; omega) (lv_sub hl [0, 1, 2, 3, 4] rfl)
  · have epl : lowN (v >>> (nI 4 &&& 31)) (tS σ.1).length = plN σ.1 v := by unfold plN; rw [if_neg h0]
    refine lv_iload_n hx hb dL_act_6 rfl (lv_at hl 0 rfl) ?_
    refine ni_if_ne (tgt := 14) (by omega) hx hb dL_act_7 (by decide) (fun c43 => ?_) (fun c43 => absurd c43 (by omega))
    refine lv_iload_n hx hb dL_act_14 rfl (lv_at hl 2 rfl) ?_
    refine lv_iconst (v := nI 4) hx hb dL_act_15 (by decide) ?_
    refine lv_ishr hx hb dL_act_16 ?_
    refine lv_iload_n hx hb dL_act_17 rfl (lv_at hl 0 rfl) ?_
    refine vp_callSi (va_Run.run (va_runS (As := [.int (v >>> (nI 4 &&& 31)), .int (nI ((tS σ.1).length))]) (rest := []) ⟨hx, hb, hml, hown, hts⟩ (kL_low l (v >>> (nI 4 &&& 31)) ((tS σ.1).length) ⟨by omega, by omega⟩) (va_cwS 2 hts gL_act_L_low rfl rfl rfl (by decide +kernel) ⟨kk_le rfl, kk_le rfl⟩) psN rfl rfl hl.1 rfl (lv_room (kk_le rfl)) dL_act_18 ⟨kk_le rfl, kk_le rfl⟩)) (fun r44 hr44 => ?_)
    subst hr44
    rw [epl]
    refine lv_istore (lv' := [(4, .int (nI (plN σ.1 v))), (3, .int (nI ((tS σ.1).length))), (0, .ref Ad.1), (1, .int v), (2, .int w)]) hx hb dL_act_21 hl (by decide) rfl (fun ls hl => ?_)
    refine lv_iload_n hx hb dL_act_23 rfl (lv_at hl 1 rfl) ?_
    refine ni_if_ne (tgt := 31) (by omega) hx hb dL_act_24 (by decide) (fun c45 => ?_) (fun c45 => absurd c45 (by omega))
    refine lv_iload_n hx hb dL_act_31 rfl (lv_at hl 3 rfl) ?_
    refine lv_bipush (v := nI 15) hx hb dL_act_32 (by decide) ?_
    refine lv_iand hx hb dL_act_34 ?_
    obtain ⟨k9, hk9, e9⟩ := and15 v
    have esl : slN σ.1 v = k9 := by unfold slN; rw [if_neg h0, e9, nI_clamp (by omega)]
    rw [e9]
    rcases (show k9 = 0 ∨ k9 = 1 ∨ k9 = 2 ∨ k9 = 3 ∨ k9 = 4 ∨ k9 = 5 ∨ k9 = 6 ∨ k9 = 7 ∨ k9 = 8 ∨ k9 = 9 ∨ k9 = 10 ∨ k9 = 11 ∨ k9 = 12 ∨ k9 = 13 ∨ k9 = 14 ∨ k9 = 15 by omega) with h9 | h9 | h9 | h9 | h9 | h9 | h9 | h9 | h9 | h9 | h9 | h9 | h9 | h9 | h9 | h9 <;> subst h9
    · refine lv_tableIn (tgt := 88) (off := 53) hx hb dL_act_35 (by decide) (by decide) (by decide) (by decide) ?_
      exact k88 _ ls (by omega) (lv_sub hl [0, 1, 2, 3, 4] rfl)
    · refine lv_tableIn (tgt := 88) (off := 53) hx hb dL_act_35 (by decide) (by decide) (by decide) (by decide) ?_
      exact k88 _ ls (by omega) (lv_sub hl [0, 1, 2, 3, 4] rfl)
    · refine lv_tableIn (tgt := 88) (off := 53) hx hb dL_act_35 (by decide) (by decide) (by decide) (by decide) ?_
      exact k88 _ ls (by omega) (lv_sub hl [0, 1, 2, 3, 4] rfl)
    · refine lv_tableIn (tgt := 138) (off := 103) hx hb dL_act_35 (by decide) (by decide) (by decide) (by decide) ?_
      exact k138 ls esl (lv_sub hl [0, 1, 2, 3, 4] rfl)
    · refine lv_tableIn (tgt := 156) (off := 121) hx hb dL_act_35 (by decide) (by decide) (by decide) (by decide) ?_
      exact k156 ls (by omega) (lv_sub hl [0, 1, 2, 3, 4] rfl)
    · refine lv_tableIn (tgt := 156) (off := 121) hx hb dL_act_35 (by decide) (by decide) (by decide) (by decide) ?_
      exact k156 ls (by omega) (lv_sub hl [0, 1, 2, 3, 4] rfl)
    · refine lv_tableIn (tgt := 161) (off := 126) hx hb dL_act_35 (by decide) (by decide) (by decide) (by decide) ?_
      exact k161 ls esl (lv_sub hl [0, 1, 2, 3, 4] rfl)
    · refine lv_tableIn (tgt := 181) (off := 146) hx hb dL_act_35 (by decide) (by decide) (by decide) (by decide) ?_
      exact k181 ls esl (lv_sub hl [0, 1, 2, 3, 4] rfl)
    · refine lv_tableIn (tgt := 224) (off := 189) hx hb dL_act_35 (by decide) (by decide) (by decide) (by decide) ?_
      exact k224 ls (by omega) (lv_sub hl [0, 1, 2, 3, 4] rfl)
    · refine lv_tableIn (tgt := 224) (off := 189) hx hb dL_act_35 (by decide) (by decide) (by decide) (by decide) ?_
      exact k224 ls (by omega) (lv_sub hl [0, 1, 2, 3, 4] rfl)
    · refine lv_tableOut (tgt := 240) hx hb dL_act_35 (by decide) (by decide) ?_
      exact k240 ls (by omega) (lv_sub hl [0, 1, 2, 3, 4] rfl)
    · refine lv_tableOut (tgt := 240) hx hb dL_act_35 (by decide) (by decide) ?_
      exact k240 ls (by omega) (lv_sub hl [0, 1, 2, 3, 4] rfl)
    · refine lv_tableOut (tgt := 240) hx hb dL_act_35 (by decide) (by decide) ?_
      exact k240 ls (by omega) (lv_sub hl [0, 1, 2, 3, 4] rfl)
    · refine lv_tableOut (tgt := 240) hx hb dL_act_35 (by decide) (by decide) ?_
      exact k240 ls (by omega) (lv_sub hl [0, 1, 2, 3, 4] rfl)
    · refine lv_tableOut (tgt := 240) hx hb dL_act_35 (by decide) (by decide) ?_
      exact k240 ls (by omega) (lv_sub hl [0, 1, 2, 3, 4] rfl)
    · refine lv_tableOut (tgt := 240) hx hb dL_act_35 (by decide) (by decide) ?_
      exact k240 ls (by omega) (lv_sub hl [0, 1, 2, 3, 4] rfl)
