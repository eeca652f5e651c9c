theorem V_sh (σ : SG) : V_shortShare σ = shT σ.1.2.1 (tS σ.1) := by
  obtain ⟨⟨z, r, f, j, T, L⟩, Hs, s0, s1, b⟩ := σ
  rfl
set_option maxHeartbeats 8000000 in
set_option maxRecDepth 100000 in
theorem kL_holds (l : Launch) (D : va_G) (ca : Nat → ClassId) (sz : Nat) (Ad : CA) (g : CG) (σ : SG) (hg : okCg g) (ha : abC g = σ) (B0 : Int) (hE0 : okE B0 σ.1) : Met l yL_holds wsL_holds RMT0 (pcZ D ca [.ref Ad.1] (cW ca Ad g) sz) (va_Qi (fun (zr : Int32) (g2 : CG) => (zr = nI 1 ∧ abC g2 = σ) ∧ okCg g2) (qB D (va_A (cW ca Ad g) sz) (cW ca Ad)) (va_A (cW ca Ad g) sz)) 0 0 (va_A (cW ca Ad g) sz) := by
  refine Met.ofW (cc := cL_holds) (maxL := 10) (ret := (some .boolean)) (by decide) rfl ?_
  intro p e s m args below meth c s₁ B hml hv
  obtain ⟨rfl, hsz, hP, hK, hD0, hZ⟩ := hv
  have hx := B.exec
  have hb := B.bytes
  have hr := B.returns
  have hts := atoms_spec (ws := wsL_holds) B.pre
  have hown : s.vm.findClass RL = some m.cls := findClass_of_methodNamed B.named
  have hlocks := B.notSynchronized
  subst hsz
  have hD := hD0.self (sz := s.heap.size)
  generalize hAe : va_A (cW ca Ad g) s.heap.size = A at hD hZ ⊢
  have hA : ∀ q : Nat, s.heap.size ≤ q → A q := fun q h => by rw [← hAe]; exact Or.inr h
  have hS : va_S A s.heap s.heap [] := va_S.rf
  have hl := lv_entry ([.ref Ad.1]) (n := 10) (kk_le rfl)
  rw [lg_entry_eq]
  generalize (lg_sl ([.ref Ad.1]) ++ List.replicate (10 - (lg_sl ([.ref Ad.1])).length) Slot.unset).toArray = ls at hl ⊢
  have hl : lv_has ls 10 [(0, .ref Ad.1)] := hl
  generalize hQz : MQ below _ _ _ _ _ _ = Qz
  have hzz : σ.1.1 ≤ 30 := okE_z hE0
  have hT2 : (tS σ.1).length ≤ 200 := t_200 hg ha
  have hL2 : (lS σ.1).length ≤ 20 := l_20 hg ha
  have hld := hE0.2.2.2.2.2
  have rnd : ∀ (bw : Bool) (q : Nat), (∀ (g : CG) (H : Heap) (locs : List Loc) (ls : Array Slot), okCg g → abC g = σ → va_P D vwCl (cW ca Ad g) H → va_D A (cW ca Ad g) → va_S A s.heap H locs → lv_has ls 10 [(1, .int (nI q)), (0, .ref Ad.1)] → W p l e RMT0 s m ([.ref Ad.1] : List Value).toArray below meth c H locs 0 0 Qz (F0 m 253 ls [])) → ∀ (g : CG) (H : Heap) (locs : List Loc) (ls : Array Slot), okCg g → abC g = σ → va_P D vwCl (cW ca Ad g) H → va_D A (cW ca Ad g) → va_S A s.heap H locs → lv_has ls 10 [(2, .int (bI bw)), (1, .int (nI q)), (0, .ref Ad.1)] → W p l e RMT0 s m ([.ref Ad.1] : List Value).toArray below meth c H locs 0 0 Qz (F0 m 18 ls []) := by
    intro bw q hN g H locs ls hg ha hP hD hS hl
    have hnl : (ltS σ.1 bw).length ≤ 40 := lt_40 hT2
    have hbn : (btS σ.1 bw).length ≤ (tS σ.1).length := bt_len σ.1 bw
    refine lv_aload_n hx hb dL_holds_18 rfl (lv_at hl 2 rfl) ?_
    refine lv_iload_n hx hb dL_holds_19 rfl (lv_at hl 0 rfl) ?_
    refine lv_iconst (v := nI 3) hx hb dL_holds_20 (by decide) ?_
    have hFc := my_free0 hD hS hA
    have hE : R_reads σ bw (nI 3) = (nI 0, nI ((ltS σ.1 bw).length), σ) := (e_reads σ bw (by omega)).trans rfl
    refine va_calli (va_runV (As := [.int (bI bw), .int (nI 3)]) (rest := []) ⟨hx, hb, hml, hown, hts⟩ (cE_reads l D ca H.size Ad g bw (nI 3) hg (zz_of ha hzz) (no_of (F := (fun s9 => R_reads s9 bw (nI 3))) ha hE)) (cwV 2 hts gL_holds_X5_reads rfl rfl rfl (by decide +kernel) ⟨kk_le rfl, kk_le rfl⟩) (pvZ hK hP (my_D_true hD) (hZ.at hS hFc) (cW_rc hK hP)) rfl rfl hl.1 rfl (lv_room (kk_le rfl)) dL_holds_21 ⟨kk_le rfl, kk_le rfl⟩) hS (fun q _ h => hFc q h) hFc (fun z1 g1 t H1 locs1 ht hvm hw1 hB1 hs1 hk1 hS => ?_)
    obtain ⟨hP, hD1⟩ := hB1
    rw [ht] at hP
    have hD := my_up hD1 hFc
    obtain ⟨hw1, hg⟩ := hw1
    obtain ⟨hz1, ha⟩ := rt_get (F := (fun s9 => R_reads s9 bw (nI 3))) ha hE hw1
    subst hz1
    refine lv_istore_n (lv' := [(3, .int (nI ((ltS σ.1 bw).length))), (2, .int (bI bw)), (1, .int (nI q)), (0, .ref Ad.1)]) hx hb dL_holds_24 rfl hl (by decide) rfl (fun ls hl => ?_)
    refine lv_aload_n hx hb dL_holds_25 rfl (lv_at hl 3 rfl) ?_
    refine lv_iload_n hx hb dL_holds_26 rfl (lv_at hl 1 rfl) ?_
    refine lv_iconst (v := nI 2) hx hb dL_holds_27 (by decide) ?_
    have hFc := my_free0 hD hS hA
    have hE : R_reads σ bw (nI 2) = (nI 0, rdV σ.1 bw 2, σ) := (e_reads σ bw (by omega)).trans rfl
    refine va_calli (va_runV (As := [.int (bI bw), .int (nI 2)]) (rest := []) ⟨hx, hb, hml, hown, hts⟩ (cE_reads l D ca H1.size Ad g1 bw (nI 2) hg (zz_of ha hzz) (no_of (F := (fun s9 => R_reads s9 bw (nI 2))) ha hE)) (cwV 2 hts gL_holds_X5_reads rfl rfl rfl (by decide +kernel) ⟨kk_le rfl, kk_le rfl⟩) (pvZ hK hP (my_D_true hD) (hZ.at hS hFc) (cW_rc hK hP)) rfl rfl hl.1 rfl (lv_room (kk_le rfl)) dL_holds_28 ⟨kk_le rfl, kk_le rfl⟩) hS (fun q _ h => hFc q h) hFc (fun z2 g2 t H2 locs2 ht hvm hw2 hB2 hs2 hk2 hS => ?_)
    obtain ⟨hP, hD2⟩ := hB2
    rw [ht] at hP
    have hD := my_up hD2 hFc
    obtain ⟨hw2, hg⟩ := hw2
    obtain ⟨hz2, ha⟩ := rt_get (F := (fun s9 => R_reads s9 bw (nI 2))) ha hE hw2
    subst hz2
    refine lv_istore (lv' := [(4, .int (rdV σ.1 bw 2)), (3, .int (nI ((ltS σ.1 bw).length))), (2, .int (bI bw)), (1, .int (nI q)), (0, .ref Ad.1)]) hx hb dL_holds_31 hl (by decide) rfl (fun ls hl => ?_)
    refine lv_aload_n hx hb dL_holds_33 rfl (lv_at hl 4 rfl) ?_
    refine lv_iload_n hx hb dL_holds_34 rfl (lv_at hl 2 rfl) ?_
    refine lv_iconst (v := nI 1) hx hb dL_holds_35 (by decide) ?_
    have hFc := my_free0 hD hS hA
    have hE : R_reads σ bw (nI 1) = (nI 0, nI ((btS σ.1 bw).length), σ) := (e_reads σ bw (by omega)).trans rfl
    refine va_calli (va_runV (As := [.int (bI bw), .int (nI 1)]) (rest := []) ⟨hx, hb, hml, hown, hts⟩ (cE_reads l D ca H2.size Ad g2 bw (nI 1) hg (zz_of ha hzz) (no_of (F := (fun s9 => R_reads s9 bw (nI 1))) ha hE)) (cwV 2 hts gL_holds_X5_reads rfl rfl rfl (by decide +kernel) ⟨kk_le rfl, kk_le rfl⟩) (pvZ hK hP (my_D_true hD) (hZ.at hS hFc) (cW_rc hK hP)) rfl rfl hl.1 rfl (lv_room (kk_le rfl)) dL_holds_36 ⟨kk_le rfl, kk_le rfl⟩) hS (fun q _ h => hFc q h) hFc (fun z3 g3 t H3 locs3 ht hvm hw3 hB3 hs3 hk3 hS => ?_)
    obtain ⟨hP, hD3⟩ := hB3
    rw [ht] at hP
    have hD := my_up hD3 hFc
    obtain ⟨hw3, hg⟩ := hw3
    obtain ⟨hz3, ha⟩ := rt_get (F := (fun s9 => R_reads s9 bw (nI 1))) ha hE hw3
    subst hz3
    refine lv_istore (lv' := [(5, .int (nI ((btS σ.1 bw).length))), (4, .int (rdV σ.1 bw 2)), (3, .int (nI ((ltS σ.1 bw).length))), (2, .int (bI bw)), (1, .int (nI q)), (0, .ref Ad.1)]) hx hb dL_holds_39 hl (by decide) rfl (fun ls hl => ?_)
    refine lv_aload_n hx hb dL_holds_41 rfl (lv_at hl 5 rfl) ?_
    refine lv_iload_n hx hb dL_holds_42 rfl (lv_at hl 3 rfl) ?_
    refine lv_iconst (v := nI 0) hx hb dL_holds_43 (by decide) ?_
    have hFc := my_free0 hD hS hA
    have hE : R_reads σ bw (nI 0) = (nI 0, rdV σ.1 bw 0, σ) := (e_reads σ bw (by omega)).trans rfl
    refine va_calli (va_runV (As := [.int (bI bw), .int (nI 0)]) (rest := []) ⟨hx, hb, hml, hown, hts⟩ (cE_reads l D ca H3.size Ad g3 bw (nI 0) hg (zz_of ha hzz) (no_of (F := (fun s9 => R_reads s9 bw (nI 0))) ha hE)) (cwV 2 hts gL_holds_X5_reads rfl rfl rfl (by decide +kernel) ⟨kk_le rfl, kk_le rfl⟩) (pvZ hK hP (my_D_true hD) (hZ.at hS hFc) (cW_rc hK hP)) rfl rfl hl.1 rfl (lv_room (kk_le rfl)) dL_holds_44 ⟨kk_le rfl, kk_le rfl⟩) hS (fun q _ h => hFc q h) hFc (fun z4 g4 t H4 locs4 ht hvm hw4 hB4 hs4 hk4 hS => ?_)
    obtain ⟨hP, hD4⟩ := hB4
    rw [ht] at hP
    have hD := my_up hD4 hFc
    obtain ⟨hw4, hg⟩ := hw4
    obtain ⟨hz4, ha⟩ := rt_get (F := (fun s9 => R_reads s9 bw (nI 0))) ha hE hw4
    subst hz4
    refine lv_istore (lv' := [(6, .int (rdV σ.1 bw 0)), (5, .int (nI ((btS σ.1 bw).length))), (4, .int (rdV σ.1 bw 2)), (3, .int (nI ((ltS σ.1 bw).length))), (2, .int (bI bw)), (1, .int (nI q)), (0, .ref Ad.1)]) hx hb dL_holds_47 hl (by decide) rfl (fun ls hl => ?_)
    refine lv_iconst (v := nI 4) hx hb dL_holds_49 (by decide) ?_
    refine lv_istore (lv' := [(7, .int (nI 4)), (6, .int (rdV σ.1 bw 0)), (5, .int (nI ((btS σ.1 bw).length))), (4, .int (rdV σ.1 bw 2)), (3, .int (nI ((ltS σ.1 bw).length))), (2, .int (bI bw)), (1, .int (nI q)), (0, .ref Ad.1)]) hx hb dL_holds_50 hl (by decide) rfl (fun ls hl => ?_)
    refine lv_iconst (v := nI 0) hx hb dL_holds_52 (by decide) ?_
    refine lv_istore (lv' := [(8, .int (nI 0)), (7, .int (nI 4)), (6, .int (rdV σ.1 bw 0)), (5, .int (nI ((btS σ.1 bw).length))), (4, .int (rdV σ.1 bw 2)), (3, .int (nI ((ltS σ.1 bw).length))), (2, .int (bI bw)), (1, .int (nI q)), (0, .ref Ad.1)]) hx hb dL_holds_53 hl (by decide) rfl (fun ls hl => ?_)
    have lp55 : ∀ (x4 x6 : Int32), (∀ (g : CG) (H : Heap) (locs : List Loc) (ls : Array Slot), okCg g → abC g = σ → va_P D vwCl (cW ca Ad g) H → va_D A (cW ca Ad g) → va_S A s.heap H locs → lv_has ls 10 [(7, .int (ckN (ltS σ.1 bw) ((ltS σ.1 bw).length))), (6, .int x6), (5, .int (nI ((btS σ.1 bw).length))), (4, .int x4), (3, .int (nI ((ltS σ.1 bw).length))), (2, .int (bI bw)), (1, .int (nI q)), (0, .ref Ad.1)] → W p l e RMT0 s m ([.ref Ad.1] : List Value).toArray below meth c H locs 0 0 Qz (F0 m 97 ls [])) → ∀ (n k : Nat), (ltS σ.1 bw).length - k < n → k ≤ (ltS σ.1 bw).length → ∀ (g : CG) (H : Heap) (locs : List Loc) (ls : Array Slot), okCg g → abC g = σ → va_P D vwCl (cW ca Ad g) H → va_D A (cW ca Ad g) → va_S A s.heap H locs → lv_has ls 10 [(8, .int (nI k)), (7, .int (ckN (ltS σ.1 bw) k)), (6, .int x6), (5, .int (nI ((btS σ.1 bw).length))), (4, .int x4), (3, .int (nI ((ltS σ.1 bw).length))), (2, .int (bI bw)), (1, .int (nI q)), (0, .ref Ad.1)] → W p l e RMT0 s m ([.ref Ad.1] : List Value).toArray below meth c H locs 0 0 Qz (F0 m 55 ls []) := by
      intro x4 x6 hX n
      induction n with
      | zero => intro k hn; exact absurd hn (Nat.not_lt_zero _)
      | succ n ih =>
        intro k hn hk g H locs ls hg ha hP hD hS hl
        refine lv_iload hx hb dL_holds_55 (lv_at hl 0 rfl) ?_
        refine lv_iload_n hx hb dL_holds_57 rfl (lv_at hl 5 rfl) ?_
        refine ni_icmp_ge (tgt := 97) (by omega) (by omega) hx hb dL_holds_58 (by decide) (fun c5 => ?_) (fun c5 => ?_)
        · obtain rfl : k = (ltS σ.1 bw).length := by omega
          exact hX _ _ _ _ hg ha hP hD hS (lv_sub hl [1, 2, 3, 4, 5, 6, 7, 8] rfl)
        · obtain ⟨v9, hv9, e9⟩ := lt_v (s := σ.1) (bw := bw) c5
          refine lv_aload_n hx hb dL_holds_61 rfl (lv_at hl 8 rfl) ?_
          refine lv_iload_n hx hb dL_holds_62 rfl (lv_at hl 6 rfl) ?_
          refine lv_iload hx hb dL_holds_63 (lv_at hl 0 rfl) ?_
          have hFc := my_free0 hD hS hA
          have hE : R_letter σ bw (nI k) = (nI 0, nI v9, σ) := (e_letter σ bw (by omega)).trans (by show (nI 0, (ltS σ.1 bw).getD k (-1), σ) = _; rw [e9])
          refine va_calli (va_runV (As := [.int (bI bw), .int (nI k)]) (rest := []) ⟨hx, hb, hml, hown, hts⟩ (cE_letter l D ca H.size Ad g bw (nI k) hg (zz_of ha hzz) (no_of (F := (fun s9 => R_letter s9 bw (nI k))) ha hE)) (cwV 2 hts gL_holds_X5_letter rfl rfl rfl (by decide +kernel) ⟨kk_le rfl, kk_le rfl⟩) (pvZ hK hP (my_D_true hD) (hZ.at hS hFc) (cW_rc hK hP)) rfl rfl hl.1 rfl (lv_room (kk_le rfl)) dL_holds_65 ⟨kk_le rfl, kk_le rfl⟩) hS (fun q _ h => hFc q h) hFc (fun z6 g6 t H6 locs6 ht hvm hw6 hB6 hs6 hk6 hS => ?_)
          obtain ⟨hP, hD6⟩ := hB6
          rw [ht] at hP
          have hD := my_up hD6 hFc
          obtain ⟨hw6, hg⟩ := hw6
          obtain ⟨hz6, ha⟩ := rt_get (F := (fun s9 => R_letter s9 bw (nI k))) ha hE hw6
          subst hz6
          refine lv_istore (lv' := [(9, .int (nI v9)), (8, .int (nI k)), (7, .int (ckN (ltS σ.1 bw) k)), (6, .int x6), (5, .int (nI ((btS σ.1 bw).length))), (4, .int x4), (3, .int (nI ((ltS σ.1 bw).length))), (2, .int (bI bw)), (1, .int (nI q)), (0, .ref Ad.1)]) hx hb dL_holds_68 hl (by decide) rfl (fun ls hl => ?_)
          refine lv_iload hx hb dL_holds_70 (lv_at hl 2 rfl) ?_
          refine lv_iload hx hb dL_holds_72 (lv_at hl 0 rfl) ?_
          refine lv_ixor hx hb dL_holds_74 ?_
          refine lv_istore (lv' := [(7, .int ((ckN (ltS σ.1 bw) k) ^^^ (nI v9))), (9, .int (nI v9)), (8, .int (nI k)), (6, .int x6), (5, .int (nI ((btS σ.1 bw).length))), (4, .int x4), (3, .int (nI ((ltS σ.1 bw).length))), (2, .int (bI bw)), (1, .int (nI q)), (0, .ref Ad.1)]) hx hb dL_holds_75 hl (by decide) rfl (fun ls hl => ?_)
          refine lv_iload hx hb dL_holds_77 (lv_at hl 1 rfl) ?_
          refine ni_if_lt (tgt := 89) (by omega) hx hb dL_holds_79 (by decide) (fun c7 => c7.elim) (fun c7 => ?_)
          refine lv_iload hx hb dL_holds_82 (lv_at hl 1 rfl) ?_
          refine lv_bipush (v := nI 14) hx hb dL_holds_84 (by decide) ?_
          refine ni_icmp_le (tgt := 91) (by omega) (by omega) hx hb dL_holds_86 (by decide) (fun c8 => ?_) (fun c8 => absurd c8 (by omega))
          refine lv_iinc (v := nI (k + 1)) (lv' := [(8, .int (nI (k + 1))), (7, .int ((ckN (ltS σ.1 bw) k) ^^^ (nI v9))), (9, .int (nI v9)), (6, .int x6), (5, .int (nI ((btS σ.1 bw).length))), (4, .int x4), (3, .int (nI ((ltS σ.1 bw).length))), (2, .int (bI bw)), (1, .int (nI q)), (0, .ref Ad.1)]) hx hb dL_holds_91 hl (k := 2) rfl (ni_inc _ _ (by decide)) (by decide) rfl (fun ls hl => ?_)
          refine lv_goto (tgt := 55) hx hb dL_holds_94 (by decide) ?_
          have e8 : ckN (ltS σ.1 bw) k ^^^ nI v9 = ckN (ltS σ.1 bw) (k + 1) := by rw [ck_s, e9]
          rw [e8] at hl
          exact ih (k + 1) (by omega) (by omega) _ _ _ _ hg ha hP hD hS (lv_sub hl [0, 1, 3, 4, 5, 6, 7, 8, 9] rfl)
    rcases hd_f σ.1 bw hT2 with ⟨h1, h2, h3 | h3⟩ | ⟨st, h1, h2, h3, h4⟩
    · rw [h1, h3] at hl
      have kx : ∀ (g : CG) (H : Heap) (locs : List Loc) (ls : Array Slot), okCg g → abC g = σ → va_P D vwCl (cW ca Ad g) H → va_D A (cW ca Ad g) → va_S A s.heap H locs → lv_has ls 10 [(7, .int (ckN (ltS σ.1 bw) ((ltS σ.1 bw).length))), (6, .int (nI 1)), (5, .int (nI ((btS σ.1 bw).length))), (4, .int (-1)), (3, .int (nI ((ltS σ.1 bw).length))), (2, .int (bI bw)), (1, .int (nI q)), (0, .ref Ad.1)] → W p l e RMT0 s m ([.ref Ad.1] : List Value).toArray below meth c H locs 0 0 Qz (F0 m 97 ls []) := by
        intro g H locs ls hg ha hP hD hS hl
        refine lv_iload hx hb dL_holds_97 (lv_at hl 1 rfl) ?_
        refine ni_if_ne (tgt := 146) (by omega) hx hb dL_holds_99 (by decide) (fun c9 => ?_) (fun c9 => absurd c9 (by decide))
        refine lv_iload hx hb dL_holds_146 (lv_at hl 3 rfl) ?_
        refine lv_if_ge (tgt := 175) hx hb dL_holds_148 (by decide) (fun c10 => absurd c10 (by decide)) (fun c10 => ?_)
        refine lv_iload_n hx hb dL_holds_151 rfl (lv_at hl 4 rfl) ?_
        refine ni_if_ne (tgt := 171) (by omega) hx hb dL_holds_152 (by decide) (fun c11 => absurd c11 (by omega)) (fun c11 => ?_)
        refine lv_iload hx hb dL_holds_155 (lv_at hl 1 rfl) ?_
        refine lv_iconst (v := nI 1) hx hb dL_holds_157 (by decide) ?_
        refine ni_icmp_eq (tgt := 167) (by omega) (by omega) hx hb dL_holds_158 (by decide) (fun c12 => ?_) (fun c12 => absurd rfl c12)
        refine lv_iconst (v := nI 1) hx hb dL_holds_167 (by decide) ?_
        refine lv_goto (tgt := 199) hx hb dL_holds_168 (by decide) ?_
        refine lv_istore (lv' := [(8, .int (nI 1)), (7, .int (ckN (ltS σ.1 bw) ((ltS σ.1 bw).length))), (6, .int (nI 1)), (5, .int (nI ((btS σ.1 bw).length))), (4, .int (-1)), (3, .int (nI ((ltS σ.1 bw).length))), (2, .int (bI bw)), (1, .int (nI q)), (0, .ref Ad.1)]) hx hb dL_holds_199 hl (by decide) rfl (fun ls hl => ?_)
        refine lv_iload hx hb dL_holds_201 (lv_at hl 2 rfl) ?_
        refine ni_if_ne (tgt := 215) (by omega) hx hb dL_holds_203 (by decide) (fun c13 => ?_) (fun c13 => absurd c13 (by decide))
        refine lv_iload hx hb dL_holds_215 (lv_at hl 0 rfl) ?_
        refine ni_if_eq (tgt := 251) (by omega) hx hb dL_holds_217 (by decide) (fun c14 => absurd c14 (by decide)) (fun c14 => ?_)
        refine lv_iload hx hb dL_holds_220 (lv_at hl 3 rfl) ?_
        refine lv_aload_n hx hb dL_holds_222 rfl (lv_at hl 8 rfl) ?_
        refine lv_iconst (v := nI 0) hx hb dL_holds_223 (by decide) ?_
        have hFc := my_free0 hD hS hA
        have hE : R_count σ (nI 0) = (nI 0, nI ((tS σ.1).length), σ) := (e_count σ (by omega)).trans rfl
        refine va_calli (va_runV (As := [.int (nI 0)]) (rest := [.int (nI ((btS σ.1 bw).length))]) ⟨hx, hb, hml, hown, hts⟩ (cE_count l D ca H.size Ad g (nI 0) hg (zz_of ha hzz) (no_of (F := (fun s9 => R_count s9 (nI 0))) ha hE)) (cwV 1 hts gL_holds_X5_count rfl rfl rfl (by decide +kernel) ⟨kk_le rfl, kk_le rfl⟩) (pvZ hK hP (my_D_true hD) (hZ.at hS hFc) (cW_rc hK hP)) rfl rfl hl.1 rfl (lv_room (kk_le rfl)) dL_holds_224 ⟨kk_le rfl, kk_le rfl⟩) hS (fun q _ h => hFc q h) hFc (fun z15 g15 t H15 locs15 ht hvm hw15 hB15 hs15 hk15 hS => ?_)
        obtain ⟨hP, hD15⟩ := hB15
        rw [ht] at hP
        have hD := my_up hD15 hFc
        obtain ⟨hw15, hg⟩ := hw15
        obtain ⟨hz15, ha⟩ := rt_get (F := (fun s9 => R_count s9 (nI 0))) ha hE hw15
        subst hz15
        refine ni_icmp_gt (tgt := 251) (by omega) (by omega) hx hb dL_holds_227 (by decide) (fun c16 => absurd c16 (by omega)) (fun c16 => ?_)
        refine lv_aload_n hx hb dL_holds_230 rfl (lv_at hl 8 rfl) ?_
        refine lv_iload_n hx hb dL_holds_231 rfl (lv_at hl 6 rfl) ?_
        refine lv_iload_n hx hb dL_holds_232 rfl (lv_at hl 5 rfl) ?_
        have hFc := my_free0 hD hS hA
        have hE : R_letter σ bw (nI ((ltS σ.1 bw).length)) = (nI 0, (-1), σ) := (e_letter σ bw (by omega)).trans (by show (nI 0, (ltS σ.1 bw).getD (ltS σ.1 bw).length (-1), σ) = _; rw [gd_end (Nat.le_refl _)])
        refine va_calli (va_runV (As := [.int (bI bw), .int (nI ((ltS σ.1 bw).length))]) (rest := []) ⟨hx, hb, hml, hown, hts⟩ (cE_letter l D ca H15.size Ad g15 bw (nI ((ltS σ.1 bw).length)) hg (zz_of ha hzz) (no_of (F := (fun s9 => R_letter s9 bw (nI ((ltS σ.1 bw).length)))) ha hE)) (cwV 2 hts gL_holds_X5_letter rfl rfl rfl (by decide +kernel) ⟨kk_le rfl, kk_le rfl⟩) (pvZ hK hP (my_D_true hD) (hZ.at hS hFc) (cW_rc hK hP)) rfl rfl hl.1 rfl (lv_room (kk_le rfl)) dL_holds_233 ⟨kk_le rfl, kk_le rfl⟩) hS (fun q _ h => hFc q h) hFc (fun z17 g17 t H17 locs17 ht hvm hw17 hB17 hs17 hk17 hS => ?_)
        obtain ⟨hP, hD17⟩ := hB17
        rw [ht] at hP
        have hD := my_up hD17 hFc
        obtain ⟨hw17, hg⟩ := hw17
        obtain ⟨hz17, ha⟩ := rt_get (F := (fun s9 => R_letter s9 bw (nI ((ltS σ.1 bw).length)))) ha hE hw17
        subst hz17
        refine lv_iconst (v := (-1)) hx hb dL_holds_236 (by decide) ?_
        refine lv_icmp_ne (tgt := 251) hx hb dL_holds_237 (by decide) (fun c18 => absurd rfl c18) (fun c18 => ?_)
        refine lv_aload_n hx hb dL_holds_240 rfl (lv_at hl 8 rfl) ?_
        refine lv_iload_n hx hb dL_holds_241 rfl (lv_at hl 6 rfl) ?_
        refine lv_iload hx hb dL_holds_242 (lv_at hl 3 rfl) ?_
        have hFc := my_free0 hD hS hA
        have hE : R_bit σ bw (nI ((btS σ.1 bw).length)) = (nI 0, (-1), σ) := (e_bit σ bw (by omega)).trans (by show (nI 0, (btS σ.1 bw).getD (btS σ.1 bw).length (-1), σ) = _; rw [gd_end (Nat.le_refl _)])
        refine va_calli (va_runV (As := [.int (bI bw), .int (nI ((btS σ.1 bw).length))]) (rest := []) ⟨hx, hb, hml, hown, hts⟩ (cE_bit l D ca H17.size Ad g17 bw (nI ((btS σ.1 bw).length)) hg (zz_of ha hzz) (no_of (F := (fun s9 => R_bit s9 bw (nI ((btS σ.1 bw).length)))) ha hE)) (cwV 2 hts gL_holds_X5_bit rfl rfl rfl (by decide +kernel) ⟨kk_le rfl, kk_le rfl⟩) (pvZ hK hP (my_D_true hD) (hZ.at hS hFc) (cW_rc hK hP)) rfl rfl hl.1 rfl (lv_room (kk_le rfl)) dL_holds_244 ⟨kk_le rfl, kk_le rfl⟩) hS (fun q _ h => hFc q h) hFc (fun z19 g19 t H19 locs19 ht hvm hw19 hB19 hs19 hk19 hS => ?_)
        obtain ⟨hP, hD19⟩ := hB19
        rw [ht] at hP
        have hD := my_up hD19 hFc
        obtain ⟨hw19, hg⟩ := hw19
        obtain ⟨hz19, ha⟩ := rt_get (F := (fun s9 => R_bit s9 bw (nI ((btS σ.1 bw).length)))) ha hE hw19
        subst hz19
        refine lv_iconst (v := (-1)) hx hb dL_holds_247 (by decide) ?_
        refine lv_icmp_eq (tgt := 253) hx hb dL_holds_248 (by decide) (fun c20 => ?_) (fun c20 => absurd rfl c20)
        exact hN _ _ _ _ hg ha hP hD hS (lv_sub hl [7, 8] rfl)
      exact lp55 _ _ kx _ 0 (Nat.lt_succ_self _) (Nat.zero_le _) _ _ _ _ hg ha hP hD hS (lv_sub hl [0, 1, 2, 3, 4, 5, 6, 7, 8] rfl)
    · rw [h1, h3] at hl
      have kx : ∀ (g : CG) (H : Heap) (locs : List Loc) (ls : Array Slot), okCg g → abC g = σ → va_P D vwCl (cW ca Ad g) H → va_D A (cW ca Ad g) → va_S A s.heap H locs → lv_has ls 10 [(7, .int (ckN (ltS σ.1 bw) ((ltS σ.1 bw).length))), (6, .int (nI 5)), (5, .int (nI ((btS σ.1 bw).length))), (4, .int (-1)), (3, .int (nI ((ltS σ.1 bw).length))), (2, .int (bI bw)), (1, .int (nI q)), (0, .ref Ad.1)] → W p l e RMT0 s m ([.ref Ad.1] : List Value).toArray below meth c H locs 0 0 Qz (F0 m 97 ls []) := by
        intro g H locs ls hg ha hP hD hS hl
        refine lv_iload hx hb dL_holds_97 (lv_at hl 1 rfl) ?_
        refine ni_if_ne (tgt := 146) (by omega) hx hb dL_holds_99 (by decide) (fun c21 => ?_) (fun c21 => absurd c21 (by decide))
        refine lv_iload hx hb dL_holds_146 (lv_at hl 3 rfl) ?_
        refine lv_if_ge (tgt := 175) hx hb dL_holds_148 (by decide) (fun c22 => absurd c22 (by decide)) (fun c22 => ?_)
        refine lv_iload_n hx hb dL_holds_151 rfl (lv_at hl 4 rfl) ?_
        refine ni_if_ne (tgt := 171) (by omega) hx hb dL_holds_152 (by decide) (fun c23 => absurd c23 (by omega)) (fun c23 => ?_)
        refine lv_iload hx hb dL_holds_155 (lv_at hl 1 rfl) ?_
        refine lv_iconst (v := nI 1) hx hb dL_holds_157 (by decide) ?_
        refine ni_icmp_eq (tgt := 167) (by omega) (by omega) hx hb dL_holds_158 (by decide) (fun c24 => absurd c24 (by decide)) (fun c24 => ?_)
        refine lv_iload hx hb dL_holds_161 (lv_at hl 1 rfl) ?_
        refine lv_iconst (v := nI 5) hx hb dL_holds_163 (by decide) ?_
        refine ni_icmp_ne (tgt := 171) (by omega) (by omega) hx hb dL_holds_164 (by decide) (fun c25 => absurd rfl c25) (fun c25 => ?_)
        refine lv_iconst (v := nI 1) hx hb dL_holds_167 (by decide) ?_
        refine lv_goto (tgt := 199) hx hb dL_holds_168 (by decide) ?_
        refine lv_istore (lv' := [(8, .int (nI 1)), (7, .int (ckN (ltS σ.1 bw) ((ltS σ.1 bw).length))), (6, .int (nI 5)), (5, .int (nI ((btS σ.1 bw).length))), (4, .int (-1)), (3, .int (nI ((ltS σ.1 bw).length))), (2, .int (bI bw)), (1, .int (nI q)), (0, .ref Ad.1)]) hx hb dL_holds_199 hl (by decide) rfl (fun ls hl => ?_)
        refine lv_iload hx hb dL_holds_201 (lv_at hl 2 rfl) ?_
        refine ni_if_ne (tgt := 215) (by omega) hx hb dL_holds_203 (by decide) (fun c26 => ?_) (fun c26 => absurd c26 (by decide))
        refine lv_iload hx hb dL_holds_215 (lv_at hl 0 rfl) ?_
        refine ni_if_eq (tgt := 251) (by omega) hx hb dL_holds_217 (by decide) (fun c27 => absurd c27 (by decide)) (fun c27 => ?_)
        refine lv_iload hx hb dL_holds_220 (lv_at hl 3 rfl) ?_
        refine lv_aload_n hx hb dL_holds_222 rfl (lv_at hl 8 rfl) ?_
        refine lv_iconst (v := nI 0) hx hb dL_holds_223 (by decide) ?_
        have hFc := my_free0 hD hS hA
        have hE : R_count σ (nI 0) = (nI 0, nI ((tS σ.1).length), σ) := (e_count σ (by omega)).trans rfl
        refine va_calli (va_runV (As := [.int (nI 0)]) (rest := [.int (nI ((btS σ.1 bw).length))]) ⟨hx, hb, hml, hown, hts⟩ (cE_count l D ca H.size Ad g (nI 0) hg (zz_of ha hzz) (no_of (F := (fun s9 => R_count s9 (nI 0))) ha hE)) (cwV 1 hts gL_holds_X5_count rfl rfl rfl (by decide +kernel) ⟨kk_le rfl, kk_le rfl⟩) (pvZ hK hP (my_D_true hD) (hZ.at hS hFc) (cW_rc hK hP)) rfl rfl hl.1 rfl (lv_room (kk_le rfl)) dL_holds_224 ⟨kk_le rfl, kk_le rfl⟩) hS (fun q _ h => hFc q h) hFc (fun z28 g28 t H28 locs28 ht hvm hw28 hB28 hs28 hk28 hS => ?_)
        obtain ⟨hP, hD28⟩ := hB28
        rw [ht] at hP
        have hD := my_up hD28 hFc
        obtain ⟨hw28, hg⟩ := hw28
        obtain ⟨hz28, ha⟩ := rt_get (F := (fun s9 => R_count s9 (nI 0))) ha hE hw28
        subst hz28
        refine ni_icmp_gt (tgt := 251) (by omega) (by omega) hx hb dL_holds_227 (by decide) (fun c29 => absurd c29 (by omega)) (fun c29 => ?_)
        refine lv_aload_n hx hb dL_holds_230 rfl (lv_at hl 8 rfl) ?_
        refine lv_iload_n hx hb dL_holds_231 rfl (lv_at hl 6 rfl) ?_
        refine lv_iload_n hx hb dL_holds_232 rfl (lv_at hl 5 rfl) ?_
        have hFc := my_free0 hD hS hA
        have hE : R_letter σ bw (nI ((ltS σ.1 bw).length)) = (nI 0, (-1), σ) := (e_letter σ bw (by omega)).trans (by show (nI 0, (ltS σ.1 bw).getD (ltS σ.1 bw).length (-1), σ) = _; rw [gd_end (Nat.le_refl _)])
        refine va_calli (va_runV (As := [.int (bI bw), .int (nI ((ltS σ.1 bw).length))]) (rest := []) ⟨hx, hb, hml, hown, hts⟩ (cE_letter l D ca H28.size Ad g28 bw (nI ((ltS σ.1 bw).length)) hg (zz_of ha hzz) (no_of (F := (fun s9 => R_letter s9 bw (nI ((ltS σ.1 bw).length)))) ha hE)) (cwV 2 hts gL_holds_X5_letter rfl rfl rfl (by decide +kernel) ⟨kk_le rfl, kk_le rfl⟩) (pvZ hK hP (my_D_true hD) (hZ.at hS hFc) (cW_rc hK hP)) rfl rfl hl.1 rfl (lv_room (kk_le rfl)) dL_holds_233 ⟨kk_le rfl, kk_le rfl⟩) hS (fun q _ h => hFc q h) hFc (fun z30 g30 t H30 locs30 ht hvm hw30 hB30 hs30 hk30 hS => ?_)
        obtain ⟨hP, hD30⟩ := hB30
        rw [ht] at hP
        have hD := my_up hD30 hFc
        obtain ⟨hw30, hg⟩ := hw30
        obtain ⟨hz30, ha⟩ := rt_get (F := (fun s9 => R_letter s9 bw (nI ((ltS σ.1 bw).length)))) ha hE hw30
        subst hz30
        refine lv_iconst (v := (-1)) hx hb dL_holds_236 (by decide) ?_
        refine lv_icmp_ne (tgt := 251) hx hb dL_holds_237 (by decide) (fun c31 => absurd rfl c31) (fun c31 => ?_)
        refine lv_aload_n hx hb dL_holds_240 rfl (lv_at hl 8 rfl) ?_
        refine lv_iload_n hx hb dL_holds_241 rfl (lv_at hl 6 rfl) ?_
        refine lv_iload hx hb dL_holds_242 (lv_at hl 3 rfl) ?_
        have hFc := my_free0 hD hS hA
        have hE : R_bit σ bw (nI ((btS σ.1 bw).length)) = (nI 0, (-1), σ) := (e_bit σ bw (by omega)).trans (by show (nI 0, (btS σ.1 bw).getD (btS σ.1 bw).length (-1), σ) = _; rw [gd_end (Nat.le_refl _)])
        refine va_calli (va_runV (As := [.int (bI bw), .int (nI ((btS σ.1 bw).length))]) (rest := []) ⟨hx, hb, hml, hown, hts⟩ (cE_bit l D ca H30.size Ad g30 bw (nI ((btS σ.1 bw).length)) hg (zz_of ha hzz) (no_of (F := (fun s9 => R_bit s9 bw (nI ((btS σ.1 bw).length)))) ha hE)) (cwV 2 hts gL_holds_X5_bit rfl rfl rfl (by decide +kernel) ⟨kk_le rfl, kk_le rfl⟩) (pvZ hK hP (my_D_true hD) (hZ.at hS hFc) (cW_rc hK hP)) rfl rfl hl.1 rfl (lv_room (kk_le rfl)) dL_holds_244 ⟨kk_le rfl, kk_le rfl⟩) hS (fun q _ h => hFc q h) hFc (fun z32 g32 t H32 locs32 ht hvm hw32 hB32 hs32 hk32 hS => ?_)
        obtain ⟨hP, hD32⟩ := hB32
        rw [ht] at hP
        have hD := my_up hD32 hFc
        obtain ⟨hw32, hg⟩ := hw32
        obtain ⟨hz32, ha⟩ := rt_get (F := (fun s9 => R_bit s9 bw (nI ((btS σ.1 bw).length)))) ha hE hw32
        subst hz32
        refine lv_iconst (v := (-1)) hx hb dL_holds_247 (by decide) ?_
        refine lv_icmp_eq (tgt := 253) hx hb dL_holds_248 (by decide) (fun c33 => ?_) (fun c33 => absurd rfl c33)
        exact hN _ _ _ _ hg ha hP hD hS (lv_sub hl [7, 8] rfl)
      exact lp55 _ _ kx _ 0 (Nat.lt_succ_self _) (Nat.zero_le _) _ _ _ _ hg ha hP hD hS (lv_sub hl [0, 1, 2, 3, 4, 5, 6, 7, 8] rfl)
    · by_cases h0 : rdV σ.1 bw 0 = nI 0
      · obtain ⟨h5, h6, h7⟩ := h4 h0
        rw [h1, h0] at hl
        have kx : ∀ (g : CG) (H : Heap) (locs : List Loc) (ls : Array Slot), okCg g → abC g = σ → va_P D vwCl (cW ca Ad g) H → va_D A (cW ca Ad g) → va_S A s.heap H locs → lv_has ls 10 [(7, .int (ckN (ltS σ.1 bw) ((ltS σ.1 bw).length))), (6, .int (nI 0)), (5, .int (nI ((btS σ.1 bw).length))), (4, .int (nI st)), (3, .int (nI ((ltS σ.1 bw).length))), (2, .int (bI bw)), (1, .int (nI q)), (0, .ref Ad.1)] → W p l e RMT0 s m ([.ref Ad.1] : List Value).toArray below meth c H locs 0 0 Qz (F0 m 97 ls []) := by
          intro g H locs ls hg ha hP hD hS hl
          rw [ck_e, h7] at hl
          refine lv_iload hx hb dL_holds_97 (lv_at hl 1 rfl) ?_
          refine ni_if_ne (tgt := 146) (by omega) hx hb dL_holds_99 (by decide) (fun c34 => absurd c34 (by decide)) (fun c34 => ?_)
          refine lv_iload hx hb dL_holds_102 (lv_at hl 3 rfl) ?_
          refine lv_bipush (v := nI 10) hx hb dL_holds_104 (by decide) ?_
          refine ni_iadd hx hb dL_holds_106 ?_
          refine lv_iconst (v := nI 5) hx hb dL_holds_107 (by decide) ?_
          refine lv_iload_n hx hb dL_holds_108 rfl (lv_at hl 4 rfl) ?_
          refine ni_imul hx hb dL_holds_109 ?_
          refine ni_iadd hx hb dL_holds_110 ?_
          refine lv_istore (lv' := [(8, .int (nI ((st + 10) + (5 * ((ltS σ.1 bw).length))))), (7, .int (numG (bf (btS σ.1 bw)) (st + 10 + 5 * (ltS σ.1 bw).length))), (6, .int (nI 0)), (5, .int (nI ((btS σ.1 bw).length))), (4, .int (nI st)), (3, .int (nI ((ltS σ.1 bw).length))), (2, .int (bI bw)), (1, .int (nI q)), (0, .ref Ad.1)]) hx hb dL_holds_111 hl (by decide) rfl (fun ls hl => ?_)
          refine lv_iconst (v := nI 0) hx hb dL_holds_113 (by decide) ?_
          refine lv_istore (lv' := [(9, .int (nI 0)), (8, .int (nI ((st + 10) + (5 * ((ltS σ.1 bw).length))))), (7, .int (numG (bf (btS σ.1 bw)) (st + 10 + 5 * (ltS σ.1 bw).length))), (6, .int (nI 0)), (5, .int (nI ((btS σ.1 bw).length))), (4, .int (nI st)), (3, .int (nI ((ltS σ.1 bw).length))), (2, .int (bI bw)), (1, .int (nI q)), (0, .ref Ad.1)]) hx hb dL_holds_114 hl (by decide) rfl (fun ls hl => ?_)
          have lp116 : ∀ (n k : Nat), 4 - k < n → k ≤ 4 → ∀ (g : CG) (H : Heap) (locs : List Loc) (ls : Array Slot), okCg g → abC g = σ → va_P D vwCl (cW ca Ad g) H → va_D A (cW ca Ad g) → va_S A s.heap H locs → lv_has ls 10 [(9, .int (nI k)), (8, .int (nI (st + 10 + 5 * (ltS σ.1 bw).length))), (7, .int (xoS (bf (btS σ.1 bw)) (st + 10 + 5 * (ltS σ.1 bw).length) (numG (bf (btS σ.1 bw)) (st + 10 + 5 * (ltS σ.1 bw).length)) k)), (6, .int (nI 0)), (5, .int (nI ((btS σ.1 bw).length))), (4, .int (nI st)), (3, .int (nI ((ltS σ.1 bw).length))), (2, .int (bI bw)), (1, .int (nI q)), (0, .ref Ad.1)] → W p l e RMT0 s m ([.ref Ad.1] : List Value).toArray below meth c H locs 0 0 Qz (F0 m 116 ls []) := by
            intro n
            induction n with
            | zero => intro k hn; exact absurd hn (Nat.not_lt_zero _)
            | succ n ih =>
              intro k hn hk g H locs ls hg ha hP hD hS hl
              refine lv_iload hx hb dL_holds_116 (lv_at hl 0 rfl) ?_
              refine lv_iconst (v := nI 4) hx hb dL_holds_118 (by decide) ?_
              refine ni_icmp_ge (tgt := 146) (by omega) (by omega) hx hb dL_holds_119 (by decide) (fun c35 => ?_) (fun c35 => ?_)
              · obtain rfl : k = 4 := by omega
                rw [xo_0 (bf_01 (bt_01S σ.1 bw))] at hl
                refine lv_iload hx hb dL_holds_146 (lv_at hl 5 rfl) ?_
                refine ni_if_ge (tgt := 175) (by omega) hx hb dL_holds_148 (by decide) (fun c36 => ?_) (fun c36 => c36.elim)
                refine lv_iload hx hb dL_holds_175 (lv_at hl 5 rfl) ?_
                refine lv_iconst (v := nI 5) hx hb dL_holds_177 (by decide) ?_
                refine ni_iadd hx hb dL_holds_178 ?_
                refine lv_iconst (v := nI 5) hx hb dL_holds_179 (by decide) ?_
                refine lv_iload_n hx hb dL_holds_180 rfl (lv_at hl 6 rfl) ?_
                refine ni_imul hx hb dL_holds_181 ?_
                refine ni_iadd hx hb dL_holds_182 ?_
                refine lv_iload hx hb dL_holds_183 (lv_at hl 4 rfl) ?_
                refine ni_icmp_gt (tgt := 198) (by omega) (by omega) hx hb dL_holds_185 (by decide) (fun c37 => absurd c37 (by omega)) (fun c37 => ?_)
                refine lv_iload hx hb dL_holds_188 (lv_at hl 3 rfl) ?_
                refine lv_iconst (v := nI 1) hx hb dL_holds_190 (by decide) ?_
                refine ni_icmp_eq (tgt := 198) (by omega) (by omega) hx hb dL_holds_191 (by decide) (fun c38 => absurd c38 (by decide)) (fun c38 => ?_)
                refine lv_iconst (v := nI 1) hx hb dL_holds_194 (by decide) ?_
                refine lv_goto (tgt := 199) hx hb dL_holds_195 (by decide) ?_
                refine lv_istore (lv' := [(8, .int (nI 1)), (9, .int (nI 4)), (7, .int (nI 0)), (6, .int (nI 0)), (5, .int (nI ((btS σ.1 bw).length))), (4, .int (nI st)), (3, .int (nI ((ltS σ.1 bw).length))), (2, .int (bI bw)), (1, .int (nI q)), (0, .ref Ad.1)]) hx hb dL_holds_199 hl (by decide) rfl (fun ls hl => ?_)
                refine lv_iload hx hb dL_holds_201 (lv_at hl 3 rfl) ?_
                refine ni_if_ne (tgt := 215) (by omega) hx hb dL_holds_203 (by decide) (fun c39 => absurd c39 (by decide)) (fun c39 => ?_)
                refine lv_iload hx hb dL_holds_206 (lv_at hl 2 rfl) ?_
                refine ni_if_ne (tgt := 251) (by omega) hx hb dL_holds_208 (by decide) (fun c40 => absurd c40 (by decide)) (fun c40 => ?_)
                refine lv_iload_n hx hb dL_holds_211 rfl (lv_at hl 6 rfl) ?_
                refine ni_if_eq (tgt := 251) (by omega) hx hb dL_holds_212 (by decide) (fun c41 => absurd c41 (by omega)) (fun c41 => ?_)
                refine lv_iload hx hb dL_holds_215 (lv_at hl 0 rfl) ?_
                refine ni_if_eq (tgt := 251) (by omega) hx hb dL_holds_217 (by decide) (fun c42 => absurd c42 (by decide)) (fun c42 => ?_)
                refine lv_iload hx hb dL_holds_220 (lv_at hl 4 rfl) ?_
                refine lv_aload_n hx hb dL_holds_222 rfl (lv_at hl 9 rfl) ?_
                refine lv_iconst (v := nI 0) hx hb dL_holds_223 (by decide) ?_
                have hFc := my_free0 hD hS hA
                have hE : R_count σ (nI 0) = (nI 0, nI ((tS σ.1).length), σ) := (e_count σ (by omega)).trans rfl
                refine va_calli (va_runV (As := [.int (nI 0)]) (rest := [.int (nI ((btS σ.1 bw).length))]) ⟨hx, hb, hml, hown, hts⟩ (cE_count l D ca H.size Ad g (nI 0) hg (zz_of ha hzz) (no_of (F := (fun s9 => R_count s9 (nI 0))) ha hE)) (cwV 1 hts gL_holds_X5_count rfl rfl rfl (by decide +kernel) ⟨kk_le rfl, kk_le rfl⟩) (pvZ hK hP (my_D_true hD) (hZ.at hS hFc) (cW_rc hK hP)) rfl rfl hl.1 rfl (lv_room (kk_le rfl)) dL_holds_224 ⟨kk_le rfl, kk_le rfl⟩) hS (fun q _ h => hFc q h) hFc (fun z43 g43 t H43 locs43 ht hvm hw43 hB43 hs43 hk43 hS => ?_)
                obtain ⟨hP, hD43⟩ := hB43
                rw [ht] at hP
                have hD := my_up hD43 hFc
                obtain ⟨hw43, hg⟩ := hw43
                obtain ⟨hz43, ha⟩ := rt_get (F := (fun s9 => R_count s9 (nI 0))) ha hE hw43
                subst hz43
                refine ni_icmp_gt (tgt := 251) (by omega) (by omega) hx hb dL_holds_227 (by decide) (fun c44 => absurd c44 (by omega)) (fun c44 => ?_)
                refine lv_aload_n hx hb dL_holds_230 rfl (lv_at hl 9 rfl) ?_
                refine lv_iload_n hx hb dL_holds_231 rfl (lv_at hl 7 rfl) ?_
                refine lv_iload_n hx hb dL_holds_232 rfl (lv_at hl 6 rfl) ?_
                have hFc := my_free0 hD hS hA
                have hE : R_letter σ bw (nI ((ltS σ.1 bw).length)) = (nI 0, (-1), σ) := (e_letter σ bw (by omega)).trans (by show (nI 0, (ltS σ.1 bw).getD (ltS σ.1 bw).length (-1), σ) = _; rw [gd_end (Nat.le_refl _)])
                refine va_calli (va_runV (As := [.int (bI bw), .int (nI ((ltS σ.1 bw).length))]) (rest := []) ⟨hx, hb, hml, hown, hts⟩ (cE_letter l D ca H43.size Ad g43 bw (nI ((ltS σ.1 bw).length)) hg (zz_of ha hzz) (no_of (F := (fun s9 => R_letter s9 bw (nI ((ltS σ.1 bw).length)))) ha hE)) (cwV 2 hts gL_holds_X5_letter rfl rfl rfl (by decide +kernel) ⟨kk_le rfl, kk_le rfl⟩) (pvZ hK hP (my_D_true hD) (hZ.at hS hFc) (cW_rc hK hP)) rfl rfl hl.1 rfl (lv_room (kk_le rfl)) dL_holds_233 ⟨kk_le rfl, kk_le rfl⟩) hS (fun q _ h => hFc q h) hFc (fun z45 g45 t H45 locs45 ht hvm hw45 hB45 hs45 hk45 hS => ?_)
                obtain ⟨hP, hD45⟩ := hB45
                rw [ht] at hP
                have hD := my_up hD45 hFc
                obtain ⟨hw45, hg⟩ := hw45
                obtain ⟨hz45, ha⟩ := rt_get (F := (fun s9 => R_letter s9 bw (nI ((ltS σ.1 bw).length)))) ha hE hw45
                subst hz45
                refine lv_iconst (v := (-1)) hx hb dL_holds_236 (by decide) ?_
                refine lv_icmp_ne (tgt := 251) hx hb dL_holds_237 (by decide) (fun c46 => absurd rfl c46) (fun c46 => ?_)
                refine lv_aload_n hx hb dL_holds_240 rfl (lv_at hl 9 rfl) ?_
                refine lv_iload_n hx hb dL_holds_241 rfl (lv_at hl 7 rfl) ?_
                refine lv_iload hx hb dL_holds_242 (lv_at hl 4 rfl) ?_
                have hFc := my_free0 hD hS hA
                have hE : R_bit σ bw (nI ((btS σ.1 bw).length)) = (nI 0, (-1), σ) := (e_bit σ bw (by omega)).trans (by show (nI 0, (btS σ.1 bw).getD (btS σ.1 bw).length (-1), σ) = _; rw [gd_end (Nat.le_refl _)])
                refine va_calli (va_runV (As := [.int (bI bw), .int (nI ((btS σ.1 bw).length))]) (rest := []) ⟨hx, hb, hml, hown, hts⟩ (cE_bit l D ca H45.size Ad g45 bw (nI ((btS σ.1 bw).length)) hg (zz_of ha hzz) (no_of (F := (fun s9 => R_bit s9 bw (nI ((btS σ.1 bw).length)))) ha hE)) (cwV 2 hts gL_holds_X5_bit rfl rfl rfl (by decide +kernel) ⟨kk_le rfl, kk_le rfl⟩) (pvZ hK hP (my_D_true hD) (hZ.at hS hFc) (cW_rc hK hP)) rfl rfl hl.1 rfl (lv_room (kk_le rfl)) dL_holds_244 ⟨kk_le rfl, kk_le rfl⟩) hS (fun q _ h => hFc q h) hFc (fun z47 g47 t H47 locs47 ht hvm hw47 hB47 hs47 hk47 hS => ?_)
                obtain ⟨hP, hD47⟩ := hB47
                rw [ht] at hP
                have hD := my_up hD47 hFc
                obtain ⟨hw47, hg⟩ := hw47
                obtain ⟨hz47, ha⟩ := rt_get (F := (fun s9 => R_bit s9 bw (nI ((btS σ.1 bw).length)))) ha hE hw47
                subst hz47
                refine lv_iconst (v := (-1)) hx hb dL_holds_247 (by decide) ?_
                refine lv_icmp_eq (tgt := 253) hx hb dL_holds_248 (by decide) (fun c48 => ?_) (fun c48 => absurd rfl c48)
                exact hN _ _ _ _ hg ha hP hD hS (lv_sub hl [8, 9] rfl)
              · refine lv_iload hx hb dL_holds_122 (lv_at hl 2 rfl) ?_
                refine lv_aload_n hx hb dL_holds_124 rfl (lv_at hl 9 rfl) ?_
                refine lv_iload_n hx hb dL_holds_125 rfl (lv_at hl 7 rfl) ?_
                refine lv_iload hx hb dL_holds_126 (lv_at hl 1 rfl) ?_
                refine lv_iload hx hb dL_holds_128 (lv_at hl 0 rfl) ?_
                refine ni_iadd hx hb dL_holds_130 ?_
                have hFc := my_free0 hD hS hA
                have hE : R_bit σ bw (nI ((st + 10 + 5 * (ltS σ.1 bw).length) + k)) = (nI 0, bf (btS σ.1 bw) (st + 10 + 5 * (ltS σ.1 bw).length + k), σ) := (e_bit σ bw (by omega)).trans (by show (nI 0, (btS σ.1 bw).getD _ (-1), σ) = _; rw [bf_gd (l := btS σ.1 bw) (k := st + 10 + 5 * (ltS σ.1 bw).length + k) (by omega)])
                refine va_calli (va_runV (As := [.int (bI bw), .int (nI ((st + 10 + 5 * (ltS σ.1 bw).length) + k))]) (rest := [.int (xoS (bf (btS σ.1 bw)) (st + 10 + 5 * (ltS σ.1 bw).length) (numG (bf (btS σ.1 bw)) (st + 10 + 5 * (ltS σ.1 bw).length)) k)]) ⟨hx, hb, hml, hown, hts⟩ (cE_bit l D ca H.size Ad g bw (nI ((st + 10 + 5 * (ltS σ.1 bw).length) + k)) hg (zz_of ha hzz) (no_of (F := (fun s9 => R_bit s9 bw (nI ((st + 10 + 5 * (ltS σ.1 bw).length) + k)))) ha hE)) (cwV 2 hts gL_holds_X5_bit rfl rfl rfl (by decide +kernel) ⟨kk_le rfl, kk_le rfl⟩) (pvZ hK hP (my_D_true hD) (hZ.at hS hFc) (cW_rc hK hP)) rfl rfl hl.1 rfl (lv_room (kk_le rfl)) dL_holds_131 ⟨kk_le rfl, kk_le rfl⟩) hS (fun q _ h => hFc q h) hFc (fun z49 g49 t H49 locs49 ht hvm hw49 hB49 hs49 hk49 hS => ?_)
                obtain ⟨hP, hD49⟩ := hB49
                rw [ht] at hP
                have hD := my_up hD49 hFc
                obtain ⟨hw49, hg⟩ := hw49
                obtain ⟨hz49, ha⟩ := rt_get (F := (fun s9 => R_bit s9 bw (nI ((st + 10 + 5 * (ltS σ.1 bw).length) + k)))) ha hE hw49
                subst hz49
                refine lv_iload hx hb dL_holds_134 (lv_at hl 0 rfl) ?_
                refine lv_ishl hx hb dL_holds_136 ?_
                refine lv_ixor hx hb dL_holds_137 ?_
                refine lv_istore (lv' := [(7, .int ((xoS (bf (btS σ.1 bw)) (st + 10 + 5 * (ltS σ.1 bw).length) (numG (bf (btS σ.1 bw)) (st + 10 + 5 * (ltS σ.1 bw).length)) k) ^^^ ((bf (btS σ.1 bw) (st + 10 + 5 * (ltS σ.1 bw).length + k)) <<< ((nI k) &&& 31)))), (9, .int (nI k)), (8, .int (nI (st + 10 + 5 * (ltS σ.1 bw).length))), (6, .int (nI 0)), (5, .int (nI ((btS σ.1 bw).length))), (4, .int (nI st)), (3, .int (nI ((ltS σ.1 bw).length))), (2, .int (bI bw)), (1, .int (nI q)), (0, .ref Ad.1)]) hx hb dL_holds_138 hl (by decide) rfl (fun ls hl => ?_)
                refine lv_iinc (v := nI (k + 1)) (lv' := [(9, .int (nI (k + 1))), (7, .int ((xoS (bf (btS σ.1 bw)) (st + 10 + 5 * (ltS σ.1 bw).length) (numG (bf (btS σ.1 bw)) (st + 10 + 5 * (ltS σ.1 bw).length)) k) ^^^ ((bf (btS σ.1 bw) (st + 10 + 5 * (ltS σ.1 bw).length + k)) <<< ((nI k) &&& 31)))), (8, .int (nI (st + 10 + 5 * (ltS σ.1 bw).length))), (6, .int (nI 0)), (5, .int (nI ((btS σ.1 bw).length))), (4, .int (nI st)), (3, .int (nI ((ltS σ.1 bw).length))), (2, .int (bI bw)), (1, .int (nI q)), (0, .ref Ad.1)]) hx hb dL_holds_140 hl (k := 1) rfl (ni_inc _ _ (by decide)) (by decide) rfl (fun ls hl => ?_)
                refine lv_goto (tgt := 116) hx hb dL_holds_143 (by decide) ?_
                exact ih (k + 1) (by omega) (by omega) _ _ _ _ hg ha hP hD hS (lv_sub hl [0, 2, 1, 3, 4, 5, 6, 7, 8, 9] rfl)
          exact lp116 _ 0 (Nat.lt_succ_self _) (Nat.zero_le _) _ _ _ _ hg ha hP hD hS (lv_sub hl [0, 1, 2, 3, 4, 5, 6, 7, 8, 9] rfl)
        exact lp55 _ _ kx _ 0 (Nat.lt_succ_self _) (Nat.zero_le _) _ _ _ _ hg ha hP hD hS (lv_sub hl [0, 1, 2, 3, 4, 5, 6, 7, 8] rfl)
      · rw [h1] at hl
        have hne0 : ¬ rdV σ.1 bw 0 = 0 := h0
        have hne1 := h3
        have kx : ∀ (g : CG) (H : Heap) (locs : List Loc) (ls : Array Slot), okCg g → abC g = σ → va_P D vwCl (cW ca Ad g) H → va_D A (cW ca Ad g) → va_S A s.heap H locs → lv_has ls 10 [(7, .int (ckN (ltS σ.1 bw) ((ltS σ.1 bw).length))), (6, .int (rdV σ.1 bw 0)), (5, .int (nI ((btS σ.1 bw).length))), (4, .int (nI st)), (3, .int (nI ((ltS σ.1 bw).length))), (2, .int (bI bw)), (1, .int (nI q)), (0, .ref Ad.1)] → W p l e RMT0 s m ([.ref Ad.1] : List Value).toArray below meth c H locs 0 0 Qz (F0 m 97 ls []) := by
          intro g H locs ls hg ha hP hD hS hl
          refine lv_iload hx hb dL_holds_97 (lv_at hl 1 rfl) ?_
          refine lv_if_ne (tgt := 146) hx hb dL_holds_99 (by decide) (fun c50 => ?_) (fun c50 => absurd c50 hne0)
          refine lv_iload hx hb dL_holds_146 (lv_at hl 3 rfl) ?_
          refine ni_if_ge (tgt := 175) (by omega) hx hb dL_holds_148 (by decide) (fun c51 => ?_) (fun c51 => c51.elim)
          refine lv_iload hx hb dL_holds_175 (lv_at hl 3 rfl) ?_
          refine lv_iconst (v := nI 5) hx hb dL_holds_177 (by decide) ?_
          refine ni_iadd hx hb dL_holds_178 ?_
          refine lv_iconst (v := nI 5) hx hb dL_holds_179 (by decide) ?_
          refine lv_iload_n hx hb dL_holds_180 rfl (lv_at hl 4 rfl) ?_
          refine ni_imul hx hb dL_holds_181 ?_
          refine ni_iadd hx hb dL_holds_182 ?_
          refine lv_iload hx hb dL_holds_183 (lv_at hl 2 rfl) ?_
          refine ni_icmp_gt (tgt := 198) (by omega) (by omega) hx hb dL_holds_185 (by decide) (fun c52 => absurd c52 (by omega)) (fun c52 => ?_)
          refine lv_iload hx hb dL_holds_188 (lv_at hl 1 rfl) ?_
          refine lv_iconst (v := nI 1) hx hb dL_holds_190 (by decide) ?_
          refine lv_icmp_eq (tgt := 198) hx hb dL_holds_191 (by decide) (fun c53 => absurd c53 hne1) (fun c53 => ?_)
          refine lv_iconst (v := nI 1) hx hb dL_holds_194 (by decide) ?_
          refine lv_goto (tgt := 199) hx hb dL_holds_195 (by decide) ?_
          refine lv_istore (lv' := [(8, .int (nI 1)), (7, .int (ckN (ltS σ.1 bw) ((ltS σ.1 bw).length))), (6, .int (rdV σ.1 bw 0)), (5, .int (nI ((btS σ.1 bw).length))), (4, .int (nI st)), (3, .int (nI ((ltS σ.1 bw).length))), (2, .int (bI bw)), (1, .int (nI q)), (0, .ref Ad.1)]) hx hb dL_holds_199 hl (by decide) rfl (fun ls hl => ?_)
          refine lv_iload hx hb dL_holds_201 (lv_at hl 2 rfl) ?_
          refine lv_if_ne (tgt := 215) hx hb dL_holds_203 (by decide) (fun c54 => ?_) (fun c54 => absurd c54 hne0)
          refine lv_iload hx hb dL_holds_215 (lv_at hl 0 rfl) ?_
          refine ni_if_eq (tgt := 251) (by omega) hx hb dL_holds_217 (by decide) (fun c55 => absurd c55 (by decide)) (fun c55 => ?_)
          refine lv_iload hx hb dL_holds_220 (lv_at hl 3 rfl) ?_
          refine lv_aload_n hx hb dL_holds_222 rfl (lv_at hl 8 rfl) ?_
          refine lv_iconst (v := nI 0) hx hb dL_holds_223 (by decide) ?_
          have hFc := my_free0 hD hS hA
          have hE : R_count σ (nI 0) = (nI 0, nI ((tS σ.1).length), σ) := (e_count σ (by omega)).trans rfl
          refine va_calli (va_runV (As := [.int (nI 0)]) (rest := [.int (nI ((btS σ.1 bw).length))]) ⟨hx, hb, hml, hown, hts⟩ (cE_count l D ca H.size Ad g (nI 0) hg (zz_of ha hzz) (no_of (F := (fun s9 => R_count s9 (nI 0))) ha hE)) (cwV 1 hts gL_holds_X5_count rfl rfl rfl (by decide +kernel) ⟨kk_le rfl, kk_le rfl⟩) (pvZ hK hP (my_D_true hD) (hZ.at hS hFc) (cW_rc hK hP)) rfl rfl hl.1 rfl (lv_room (kk_le rfl)) dL_holds_224 ⟨kk_le rfl, kk_le rfl⟩) hS (fun q _ h => hFc q h) hFc (fun z56 g56 t H56 locs56 ht hvm hw56 hB56 hs56 hk56 hS => ?_)
          obtain ⟨hP, hD56⟩ := hB56
          rw [ht] at hP
          have hD := my_up hD56 hFc
          obtain ⟨hw56, hg⟩ := hw56
          obtain ⟨hz56, ha⟩ := rt_get (F := (fun s9 => R_count s9 (nI 0))) ha hE hw56
          subst hz56
          refine ni_icmp_gt (tgt := 251) (by omega) (by omega) hx hb dL_holds_227 (by decide) (fun c57 => absurd c57 (by omega)) (fun c57 => ?_)
          refine lv_aload_n hx hb dL_holds_230 rfl (lv_at hl 8 rfl) ?_
          refine lv_iload_n hx hb dL_holds_231 rfl (lv_at hl 6 rfl) ?_
          refine lv_iload_n hx hb dL_holds_232 rfl (lv_at hl 5 rfl) ?_
          have hFc := my_free0 hD hS hA
          have hE : R_letter σ bw (nI ((ltS σ.1 bw).length)) = (nI 0, (-1), σ) := (e_letter σ bw (by omega)).trans (by show (nI 0, (ltS σ.1 bw).getD (ltS σ.1 bw).length (-1), σ) = _; rw [gd_end (Nat.le_refl _)])
          refine va_calli (va_runV (As := [.int (bI bw), .int (nI ((ltS σ.1 bw).length))]) (rest := []) ⟨hx, hb, hml, hown, hts⟩ (cE_letter l D ca H56.size Ad g56 bw (nI ((ltS σ.1 bw).length)) hg (zz_of ha hzz) (no_of (F := (fun s9 => R_letter s9 bw (nI ((ltS σ.1 bw).length)))) ha hE)) (cwV 2 hts gL_holds_X5_letter rfl rfl rfl (by decide +kernel) ⟨kk_le rfl, kk_le rfl⟩) (pvZ hK hP (my_D_true hD) (hZ.at hS hFc) (cW_rc hK hP)) rfl rfl hl.1 rfl (lv_room (kk_le rfl)) dL_holds_233 ⟨kk_le rfl, kk_le rfl⟩) hS (fun q _ h => hFc q h) hFc (fun z58 g58 t H58 locs58 ht hvm hw58 hB58 hs58 hk58 hS => ?_)
          obtain ⟨hP, hD58⟩ := hB58
          rw [ht] at hP
          have hD := my_up hD58 hFc
          obtain ⟨hw58, hg⟩ := hw58
          obtain ⟨hz58, ha⟩ := rt_get (F := (fun s9 => R_letter s9 bw (nI ((ltS σ.1 bw).length)))) ha hE hw58
          subst hz58
          refine lv_iconst (v := (-1)) hx hb dL_holds_236 (by decide) ?_
          refine lv_icmp_ne (tgt := 251) hx hb dL_holds_237 (by decide) (fun c59 => absurd rfl c59) (fun c59 => ?_)
          refine lv_aload_n hx hb dL_holds_240 rfl (lv_at hl 8 rfl) ?_
          refine lv_iload_n hx hb dL_holds_241 rfl (lv_at hl 6 rfl) ?_
          refine lv_iload hx hb dL_holds_242 (lv_at hl 3 rfl) ?_
          have hFc := my_free0 hD hS hA
          have hE : R_bit σ bw (nI ((btS σ.1 bw).length)) = (nI 0, (-1), σ) := (e_bit σ bw (by omega)).trans (by show (nI 0, (btS σ.1 bw).getD (btS σ.1 bw).length (-1), σ) = _; rw [gd_end (Nat.le_refl _)])
          refine va_calli (va_runV (As := [.int (bI bw), .int (nI ((btS σ.1 bw).length))]) (rest := []) ⟨hx, hb, hml, hown, hts⟩ (cE_bit l D ca H58.size Ad g58 bw (nI ((btS σ.1 bw).length)) hg (zz_of ha hzz) (no_of (F := (fun s9 => R_bit s9 bw (nI ((btS σ.1 bw).length)))) ha hE)) (cwV 2 hts gL_holds_X5_bit rfl rfl rfl (by decide +kernel) ⟨kk_le rfl, kk_le rfl⟩) (pvZ hK hP (my_D_true hD) (hZ.at hS hFc) (cW_rc hK hP)) rfl rfl hl.1 rfl (lv_room (kk_le rfl)) dL_holds_244 ⟨kk_le rfl, kk_le rfl⟩) hS (fun q _ h => hFc q h) hFc (fun z60 g60 t H60 locs60 ht hvm hw60 hB60 hs60 hk60 hS => ?_)
          obtain ⟨hP, hD60⟩ := hB60
          rw [ht] at hP
          have hD := my_up hD60 hFc
          obtain ⟨hw60, hg⟩ := hw60
          obtain ⟨hz60, ha⟩ := rt_get (F := (fun s9 => R_bit s9 bw (nI ((btS σ.1 bw).length)))) ha hE hw60
          subst hz60
          refine lv_iconst (v := (-1)) hx hb dL_holds_247 (by decide) ?_
          refine lv_icmp_eq (tgt := 253) hx hb dL_holds_248 (by decide) (fun c61 => ?_) (fun c61 => absurd rfl c61)
          exact hN _ _ _ _ hg ha hP hD hS (lv_sub hl [7, 8] rfl)
        exact lp55 _ _ kx _ 0 (Nat.lt_succ_self _) (Nat.zero_le _) _ _ _ _ hg ha hP hD hS (lv_sub hl [0, 1, 2, 3, 4, 5, 6, 7, 8] rfl)
  have tl : ∀ (g : CG) (H : Heap) (locs : List Loc) (ls : Array Slot), okCg g → abC g = σ → va_P D vwCl (cW ca Ad g) H → va_D A (cW ca Ad g) → va_S A s.heap H locs → lv_has ls 10 [(0, .ref Ad.1)] → W p l e RMT0 s m ([.ref Ad.1] : List Value).toArray below meth c H locs 0 0 Qz (F0 m 314 ls [.int (nI 1)]) := by
    intro g H locs ls hg ha hP hD hS hl
    refine lv_istore_n (lv' := [(2, .int (nI 1)), (0, .ref Ad.1)]) hx hb dL_holds_314 rfl hl (by decide) rfl (fun ls hl => ?_)
    refine lv_aload_n hx hb dL_holds_315 rfl (lv_at hl 1 rfl) ?_
    have hFc := my_free0 hD hS hA
    refine va_calld (va_runV (As := []) (rest := []) ⟨hx, hb, hml, hown, hts⟩ (cE_shortShare l D ca H.size Ad g hg (zz_of ha hzz)) (cwV 0 hts gL_holds_X5_shortShare rfl rfl rfl (by decide +kernel) ⟨kk_le rfl, kk_le rfl⟩) (pvZ hK hP (my_D_true hD) (hZ.at hS hFc) (cW_rc hK hP)) rfl rfl hl.1 rfl (lv_room (kk_le rfl)) dL_holds_316 ⟨kk_le rfl, kk_le rfl⟩) hS (fun q _ h => hFc q h) hFc (fun z62 g62 t H62 locs62 ht hvm hw62 hB62 hs62 hk62 hS => ?_)
    obtain ⟨hP, hD62⟩ := hB62
    rw [ht] at hP
    have hD := my_up hD62 hFc
    obtain ⟨⟨hz62, ha62⟩, hg⟩ := hw62
    have hsh : V_shortShare σ = z62 := by rw [← ha]; exact hz62
    have ha : abC g62 = σ := ha62.trans ha
    have hp9 : shP z62 = true := by rw [← hsh, V_sh]; exact sh_P _ hT2
    refine lv_dstore_n (lv' := [(3, .double z62), (2, .int (nI 1)), (0, .ref Ad.1)]) hx hb dL_holds_319 rfl hl (by decide) rfl (fun ls hl => ?_)
    by_cases hl0 : (lS σ.1).length = 0
    · refine lv_aload_n hx hb dL_holds_320 rfl (lv_at hl 2 rfl) ?_
      refine lv_iconst (v := nI 5) hx hb dL_holds_321 (by decide) ?_
      have hFc := my_free0 hD hS hA
      have hE : R_count σ (nI 5) = (nI 0, (-1), σ) := (e_count σ (by omega)).trans (by rw [c5_m _ _ _ hl0])
      refine va_calli (va_runV (As := [.int (nI 5)]) (rest := []) ⟨hx, hb, hml, hown, hts⟩ (cE_count l D ca H62.size Ad g62 (nI 5) hg (zz_of ha hzz) (no_of (F := (fun s9 => R_count s9 (nI 5))) ha hE)) (cwV 1 hts gL_holds_X5_count rfl rfl rfl (by decide +kernel) ⟨kk_le rfl, kk_le rfl⟩) (pvZ hK hP (my_D_true hD) (hZ.at hS hFc) (cW_rc hK hP)) rfl rfl hl.1 rfl (lv_room (kk_le rfl)) dL_holds_322 ⟨kk_le rfl, kk_le rfl⟩) hS (fun q _ h => hFc q h) hFc (fun z63 g63 t H63 locs63 ht hvm hw63 hB63 hs63 hk63 hS => ?_)
      obtain ⟨hP, hD63⟩ := hB63
      rw [ht] at hP
      have hD := my_up hD63 hFc
      obtain ⟨hw63, hg⟩ := hw63
      obtain ⟨hz63, ha⟩ := rt_get (F := (fun s9 => R_count s9 (nI 5))) ha hE hw63
      subst hz63
      refine lv_istore (lv' := [(5, .int (-1)), (3, .double z62), (2, .int (nI 1)), (0, .ref Ad.1)]) hx hb dL_holds_325 hl (by decide) rfl (fun ls hl => ?_)
      refine lv_iload_n hx hb dL_holds_327 rfl (lv_at hl 2 rfl) ?_
      refine ni_if_eq (tgt := 429) (by omega) hx hb dL_holds_328 (by decide) (fun c64 => absurd c64 (by decide)) (fun c64 => ?_)
      refine lv_dload_n hx hb dL_holds_331 rfl (lv_at hl 1 rfl) ?_
      refine lv_dconst0 hx hb dL_holds_332 ?_
      refine lv_dcmp hx hb dL_holds_333 ?_
      refine lv_if_lt (tgt := 429) hx hb dL_holds_334 (by decide) (fun c65 => absurd c65 (sh_A hp9)) (fun c65 => ?_)
      refine lv_dload_n hx hb dL_holds_337 rfl (lv_at hl 1 rfl) ?_
      refine lv_dconst1 hx hb dL_holds_338 ?_
      refine lv_dcmp hx hb dL_holds_339 ?_
      refine lv_if_gt (tgt := 429) hx hb dL_holds_340 (by decide) (fun c66 => absurd c66 (sh_B hp9)) (fun c66 => ?_)
      refine lv_aload_n hx hb dL_holds_343 rfl (lv_at hl 3 rfl) ?_
      refine lv_iconst (v := nI 2) hx hb dL_holds_344 (by decide) ?_
      have hFc := my_free0 hD hS hA
      have hE : R_count σ (nI 2) = (nI 0, minL (tS σ.1), σ) := (e_count σ (by omega)).trans rfl
      refine va_calli (va_runV (As := [.int (nI 2)]) (rest := []) ⟨hx, hb, hml, hown, hts⟩ (cE_count l D ca H63.size Ad g63 (nI 2) hg (zz_of ha hzz) (no_of (F := (fun s9 => R_count s9 (nI 2))) ha hE)) (cwV 1 hts gL_holds_X5_count rfl rfl rfl (by decide +kernel) ⟨kk_le rfl, kk_le rfl⟩) (pvZ hK hP (my_D_true hD) (hZ.at hS hFc) (cW_rc hK hP)) rfl rfl hl.1 rfl (lv_room (kk_le rfl)) dL_holds_345 ⟨kk_le rfl, kk_le rfl⟩) hS (fun q _ h => hFc q h) hFc (fun z67 g67 t H67 locs67 ht hvm hw67 hB67 hs67 hk67 hS => ?_)
      obtain ⟨hP, hD67⟩ := hB67
      rw [ht] at hP
      have hD := my_up hD67 hFc
      obtain ⟨hw67, hg⟩ := hw67
      obtain ⟨hz67, ha⟩ := rt_get (F := (fun s9 => R_count s9 (nI 2))) ha hE hw67
      subst hz67
      refine lv_aload_n hx hb dL_holds_348 rfl (lv_at hl 3 rfl) ?_
      refine lv_iconst (v := nI 3) hx hb dL_holds_349 (by decide) ?_
      have hFc := my_free0 hD hS hA
      have hE : R_count σ (nI 3) = (nI 0, maxL (tS σ.1), σ) := (e_count σ (by omega)).trans rfl
      refine va_calli (va_runV (As := [.int (nI 3)]) (rest := [.int (minL (tS σ.1))]) ⟨hx, hb, hml, hown, hts⟩ (cE_count l D ca H67.size Ad g67 (nI 3) hg (zz_of ha hzz) (no_of (F := (fun s9 => R_count s9 (nI 3))) ha hE)) (cwV 1 hts gL_holds_X5_count rfl rfl rfl (by decide +kernel) ⟨kk_le rfl, kk_le rfl⟩) (pvZ hK hP (my_D_true hD) (hZ.at hS hFc) (cW_rc hK hP)) rfl rfl hl.1 rfl (lv_room (kk_le rfl)) dL_holds_350 ⟨kk_le rfl, kk_le rfl⟩) hS (fun q _ h => hFc q h) hFc (fun z68 g68 t H68 locs68 ht hvm hw68 hB68 hs68 hk68 hS => ?_)
      obtain ⟨hP, hD68⟩ := hB68
      rw [ht] at hP
      have hD := my_up hD68 hFc
      obtain ⟨hw68, hg⟩ := hw68
      obtain ⟨hz68, ha⟩ := rt_get (F := (fun s9 => R_count s9 (nI 3))) ha hE hw68
      subst hz68
      refine lv_icmp_gt (tgt := 429) hx hb dL_holds_353 (by decide) (fun c69 => absurd c69 (mm_le _)) (fun c69 => ?_)
      refine lv_iload hx hb dL_holds_356 (lv_at hl 0 rfl) ?_
      refine lv_iconst (v := (-1)) hx hb dL_holds_358 (by decide) ?_
      refine lv_icmp_lt (tgt := 429) hx hb dL_holds_359 (by decide) (fun c70 => absurd c70 (by decide)) (fun c70 => ?_)
      refine lv_iload hx hb dL_holds_362 (lv_at hl 0 rfl) ?_
      refine lv_bipush (v := nI 16) hx hb dL_holds_364 (by decide) ?_
      refine lv_icmp_ge (tgt := 429) hx hb dL_holds_366 (by decide) (fun c71 => absurd c71 (by decide)) (fun c71 => ?_)
      refine lv_iload hx hb dL_holds_369 (lv_at hl 0 rfl) ?_
      refine lv_iconst (v := (-1)) hx hb dL_holds_371 (by decide) ?_
      refine lv_icmp_ne (tgt := 379) hx hb dL_holds_372 (by decide) (fun c72 => absurd rfl c72) (fun c72 => ?_)
      refine lv_iconst (v := nI 1) hx hb dL_holds_375 (by decide) ?_
      refine lv_goto (tgt := 380) hx hb dL_holds_376 (by decide) ?_
      refine lv_aload_n hx hb dL_holds_380 rfl (lv_at hl 3 rfl) ?_
      refine lv_iconst (v := nI 4) hx hb dL_holds_381 (by decide) ?_
      have hFc := my_free0 hD hS hA
      have hE : R_count σ (nI 4) = (nI 0, nI ((lS σ.1).length), σ) := (e_count σ (by omega)).trans rfl
      refine va_calli (va_runV (As := [.int (nI 4)]) (rest := [.int (nI 1)]) ⟨hx, hb, hml, hown, hts⟩ (cE_count l D ca H68.size Ad g68 (nI 4) hg (zz_of ha hzz) (no_of (F := (fun s9 => R_count s9 (nI 4))) ha hE)) (cwV 1 hts gL_holds_X5_count rfl rfl rfl (by decide +kernel) ⟨kk_le rfl, kk_le rfl⟩) (pvZ hK hP (my_D_true hD) (hZ.at hS hFc) (cW_rc hK hP)) rfl rfl hl.1 rfl (lv_room (kk_le rfl)) dL_holds_382 ⟨kk_le rfl, kk_le rfl⟩) hS (fun q _ h => hFc q h) hFc (fun z73 g73 t H73 locs73 ht hvm hw73 hB73 hs73 hk73 hS => ?_)
      obtain ⟨hP, hD73⟩ := hB73
      rw [ht] at hP
      have hD := my_up hD73 hFc
      obtain ⟨hw73, hg⟩ := hw73
      obtain ⟨hz73, ha⟩ := rt_get (F := (fun s9 => R_count s9 (nI 4))) ha hE hw73
      subst hz73
      refine ni_if_ne (tgt := 392) (by omega) hx hb dL_holds_385 (by decide) (fun c74 => absurd c74 (by omega)) (fun c74 => ?_)
      refine lv_iconst (v := nI 1) hx hb dL_holds_388 (by decide) ?_
      refine lv_goto (tgt := 393) hx hb dL_holds_389 (by decide) ?_
      refine ni_icmp_ne (tgt := 429) (by omega) (by omega) hx hb dL_holds_393 (by decide) (fun c75 => absurd rfl c75) (fun c75 => ?_)
      rcases rep_c σ.1.2.1 σ.1.2.2.1 (tS σ.1) with ⟨r1, r2⟩ | ⟨a9, b9, ha9, hb9, r1, r2⟩
      · refine lv_aload_n hx hb dL_holds_396 rfl (lv_at hl 3 rfl) ?_
        refine lv_iconst (v := nI 0) hx hb dL_holds_397 (by decide) ?_
        have hFc := my_free0 hD hS hA
        have hE : R_repair σ (nI 0) = (nI 0, (-1), σ) := (e_repair σ (by omega)).trans (by rw [r1])
        refine va_calli (va_runV (As := [.int (nI 0)]) (rest := []) ⟨hx, hb, hml, hown, hts⟩ (cE_repair l D ca H73.size Ad g73 (nI 0) hg (zz_of ha hzz) (no_of (F := (fun s9 => R_repair s9 (nI 0))) ha hE)) (cwV 1 hts gL_holds_X5_repair rfl rfl rfl (by decide +kernel) ⟨kk_le rfl, kk_le rfl⟩) (pvZ hK hP (my_D_true hD) (hZ.at hS hFc) (cW_rc hK hP)) rfl rfl hl.1 rfl (lv_room (kk_le rfl)) dL_holds_398 ⟨kk_le rfl, kk_le rfl⟩) hS (fun q _ h => hFc q h) hFc (fun z76 g76 t H76 locs76 ht hvm hw76 hB76 hs76 hk76 hS => ?_)
        obtain ⟨hP, hD76⟩ := hB76
        rw [ht] at hP
        have hD := my_up hD76 hFc
        obtain ⟨hw76, hg⟩ := hw76
        obtain ⟨hz76, ha⟩ := rt_get (F := (fun s9 => R_repair s9 (nI 0))) ha hE hw76
        subst hz76
        refine lv_if_ge (tgt := 408) hx hb dL_holds_401 (by decide) (fun c77 => absurd c77 (by decide)) (fun c77 => ?_)
        refine lv_iconst (v := nI 1) hx hb dL_holds_404 (by decide) ?_
        refine lv_goto (tgt := 409) hx hb dL_holds_405 (by decide) ?_
        refine lv_aload_n hx hb dL_holds_409 rfl (lv_at hl 3 rfl) ?_
        refine lv_iconst (v := nI 1) hx hb dL_holds_410 (by decide) ?_
        have hFc := my_free0 hD hS hA
        have hE : R_repair σ (nI 1) = (nI 0, (-1), σ) := (e_repair σ (by omega)).trans (by rw [r2])
        refine va_calli (va_runV (As := [.int (nI 1)]) (rest := [.int (nI 1)]) ⟨hx, hb, hml, hown, hts⟩ (cE_repair l D ca H76.size Ad g76 (nI 1) hg (zz_of ha hzz) (no_of (F := (fun s9 => R_repair s9 (nI 1))) ha hE)) (cwV 1 hts gL_holds_X5_repair rfl rfl rfl (by decide +kernel) ⟨kk_le rfl, kk_le rfl⟩) (pvZ hK hP (my_D_true hD) (hZ.at hS hFc) (cW_rc hK hP)) rfl rfl hl.1 rfl (lv_room (kk_le rfl)) dL_holds_411 ⟨kk_le rfl, kk_le rfl⟩) hS (fun q _ h => hFc q h) hFc (fun z78 g78 t H78 locs78 ht hvm hw78 hB78 hs78 hk78 hS => ?_)
        obtain ⟨hP, hD78⟩ := hB78
        rw [ht] at hP
        have hD := my_up hD78 hFc
        obtain ⟨hw78, hg⟩ := hw78
        obtain ⟨hz78, ha⟩ := rt_get (F := (fun s9 => R_repair s9 (nI 1))) ha hE hw78
        subst hz78
        refine lv_if_ge (tgt := 421) hx hb dL_holds_414 (by decide) (fun c79 => absurd c79 (by decide)) (fun c79 => ?_)
        refine lv_iconst (v := nI 1) hx hb dL_holds_417 (by decide) ?_
        refine lv_goto (tgt := 422) hx hb dL_holds_418 (by decide) ?_
        refine ni_icmp_ne (tgt := 429) (by omega) (by omega) hx hb dL_holds_422 (by decide) (fun c80 => absurd rfl c80) (fun c80 => ?_)
        refine lv_iconst (v := nI 1) hx hb dL_holds_425 (by decide) ?_
        refine lv_goto (tgt := 430) hx hb dL_holds_426 (by decide) ?_
        subst hQz
        exact W.zret (v := nI 1) hx hb hr (by first | rfl | exact bI_nar _ | exact bI_fit _ | (first | exact Or.inl rfl | exact Or.inr rfl)) (fun t ht hW => ⟨⟨_, g78, rfl, ⟨⟨rfl, ha⟩, hg⟩, by rw [ht]; exact hP, hD⟩, hS.F ht⟩) hS.2.2 dL_holds_430
      · refine lv_aload_n hx hb dL_holds_396 rfl (lv_at hl 3 rfl) ?_
        refine lv_iconst (v := nI 0) hx hb dL_holds_397 (by decide) ?_
        have hFc := my_free0 hD hS hA
        have hE : R_repair σ (nI 0) = (nI 0, nI a9, σ) := (e_repair σ (by omega)).trans (by rw [r1])
        refine va_calli (va_runV (As := [.int (nI 0)]) (rest := []) ⟨hx, hb, hml, hown, hts⟩ (cE_repair l D ca H73.size Ad g73 (nI 0) hg (zz_of ha hzz) (no_of (F := (fun s9 => R_repair s9 (nI 0))) ha hE)) (cwV 1 hts gL_holds_X5_repair rfl rfl rfl (by decide +kernel) ⟨kk_le rfl, kk_le rfl⟩) (pvZ hK hP (my_D_true hD) (hZ.at hS hFc) (cW_rc hK hP)) rfl rfl hl.1 rfl (lv_room (kk_le rfl)) dL_holds_398 ⟨kk_le rfl, kk_le rfl⟩) hS (fun q _ h => hFc q h) hFc (fun z81 g81 t H81 locs81 ht hvm hw81 hB81 hs81 hk81 hS => ?_)
        obtain ⟨hP, hD81⟩ := hB81
        rw [ht] at hP
        have hD := my_up hD81 hFc
        obtain ⟨hw81, hg⟩ := hw81
        obtain ⟨hz81, ha⟩ := rt_get (F := (fun s9 => R_repair s9 (nI 0))) ha hE hw81
        subst hz81
        refine ni_if_ge (tgt := 408) (by omega) hx hb dL_holds_401 (by decide) (fun c82 => ?_) (fun c82 => c82.elim)
        refine lv_iconst (v := nI 0) hx hb dL_holds_408 (by decide) ?_
        refine lv_aload_n hx hb dL_holds_409 rfl (lv_at hl 3 rfl) ?_
        refine lv_iconst (v := nI 1) hx hb dL_holds_410 (by decide) ?_
        have hFc := my_free0 hD hS hA
        have hE : R_repair σ (nI 1) = (nI 0, nI b9, σ) := (e_repair σ (by omega)).trans (by rw [r2])
        refine va_calli (va_runV (As := [.int (nI 1)]) (rest := [.int (nI 0)]) ⟨hx, hb, hml, hown, hts⟩ (cE_repair l D ca H81.size Ad g81 (nI 1) hg (zz_of ha hzz) (no_of (F := (fun s9 => R_repair s9 (nI 1))) ha hE)) (cwV 1 hts gL_holds_X5_repair rfl rfl rfl (by decide +kernel) ⟨kk_le rfl, kk_le rfl⟩) (pvZ hK hP (my_D_true hD) (hZ.at hS hFc) (cW_rc hK hP)) rfl rfl hl.1 rfl (lv_room (kk_le rfl)) dL_holds_411 ⟨kk_le rfl, kk_le rfl⟩) hS (fun q _ h => hFc q h) hFc (fun z83 g83 t H83 locs83 ht hvm hw83 hB83 hs83 hk83 hS => ?_)
        obtain ⟨hP, hD83⟩ := hB83
        rw [ht] at hP
        have hD := my_up hD83 hFc
        obtain ⟨hw83, hg⟩ := hw83
        obtain ⟨hz83, ha⟩ := rt_get (F := (fun s9 => R_repair s9 (nI 1))) ha hE hw83
        subst hz83
        refine ni_if_ge (tgt := 421) (by omega) hx hb dL_holds_414 (by decide) (fun c84 => ?_) (fun c84 => c84.elim)
        refine lv_iconst (v := nI 0) hx hb dL_holds_421 (by decide) ?_
        refine ni_icmp_ne (tgt := 429) (by omega) (by omega) hx hb dL_holds_422 (by decide) (fun c85 => absurd rfl c85) (fun c85 => ?_)
        refine lv_iconst (v := nI 1) hx hb dL_holds_425 (by decide) ?_
        refine lv_goto (tgt := 430) hx hb dL_holds_426 (by decide) ?_
        subst hQz
        exact W.zret (v := nI 1) hx hb hr (by first | rfl | exact bI_nar _ | exact bI_fit _ | (first | exact Or.inl rfl | exact Or.inr rfl)) (fun t ht hW => ⟨⟨_, g83, rfl, ⟨⟨rfl, ha⟩, hg⟩, by rw [ht]; exact hP, hD⟩, hS.F ht⟩) hS.2.2 dL_holds_430
    · obtain ⟨c9, hc9, e9⟩ := c5_of (tS σ.1) (lS σ.1) σ.2.1.length hld hl0
      have hcm : ¬ nI c9 < (-1 : Int32) := fun q9 => by have q8 := Int32.lt_iff_toInt_lt.mp q9; rw [nI_toInt (by omega), show (-1 : Int32).toInt = -1 from by decide] at q8; omega
      refine lv_aload_n hx hb dL_holds_320 rfl (lv_at hl 2 rfl) ?_
      refine lv_iconst (v := nI 5) hx hb dL_holds_321 (by decide) ?_
      have hFc := my_free0 hD hS hA
      have hE : R_count σ (nI 5) = (nI 0, nI c9, σ) := (e_count σ (by omega)).trans (by rw [e9])
      refine va_calli (va_runV (As := [.int (nI 5)]) (rest := []) ⟨hx, hb, hml, hown, hts⟩ (cE_count l D ca H62.size Ad g62 (nI 5) hg (zz_of ha hzz) (no_of (F := (fun s9 => R_count s9 (nI 5))) ha hE)) (cwV 1 hts gL_holds_X5_count rfl rfl rfl (by decide +kernel) ⟨kk_le rfl, kk_le rfl⟩) (pvZ hK hP (my_D_true hD) (hZ.at hS hFc) (cW_rc hK hP)) rfl rfl hl.1 rfl (lv_room (kk_le rfl)) dL_holds_322 ⟨kk_le rfl, kk_le rfl⟩) hS (fun q _ h => hFc q h) hFc (fun z86 g86 t H86 locs86 ht hvm hw86 hB86 hs86 hk86 hS => ?_)
      obtain ⟨hP, hD86⟩ := hB86
      rw [ht] at hP
      have hD := my_up hD86 hFc
      obtain ⟨hw86, hg⟩ := hw86
      obtain ⟨hz86, ha⟩ := rt_get (F := (fun s9 => R_count s9 (nI 5))) ha hE hw86
      subst hz86
      refine lv_istore (lv' := [(5, .int (nI c9)), (3, .double z62), (2, .int (nI 1)), (0, .ref Ad.1)]) hx hb dL_holds_325 hl (by decide) rfl (fun ls hl => ?_)
      refine lv_iload_n hx hb dL_holds_327 rfl (lv_at hl 2 rfl) ?_
      refine ni_if_eq (tgt := 429) (by omega) hx hb dL_holds_328 (by decide) (fun c87 => absurd c87 (by decide)) (fun c87 => ?_)
      refine lv_dload_n hx hb dL_holds_331 rfl (lv_at hl 1 rfl) ?_
      refine lv_dconst0 hx hb dL_holds_332 ?_
      refine lv_dcmp hx hb dL_holds_333 ?_
      refine lv_if_lt (tgt := 429) hx hb dL_holds_334 (by decide) (fun c88 => absurd c88 (sh_A hp9)) (fun c88 => ?_)
      refine lv_dload_n hx hb dL_holds_337 rfl (lv_at hl 1 rfl) ?_
      refine lv_dconst1 hx hb dL_holds_338 ?_
      refine lv_dcmp hx hb dL_holds_339 ?_
      refine lv_if_gt (tgt := 429) hx hb dL_holds_340 (by decide) (fun c89 => absurd c89 (sh_B hp9)) (fun c89 => ?_)
      refine lv_aload_n hx hb dL_holds_343 rfl (lv_at hl 3 rfl) ?_
      refine lv_iconst (v := nI 2) hx hb dL_holds_344 (by decide) ?_
      have hFc := my_free0 hD hS hA
      have hE : R_count σ (nI 2) = (nI 0, minL (tS σ.1), σ) := (e_count σ (by omega)).trans rfl
      refine va_calli (va_runV (As := [.int (nI 2)]) (rest := []) ⟨hx, hb, hml, hown, hts⟩ (cE_count l D ca H86.size Ad g86 (nI 2) hg (zz_of ha hzz) (no_of (F := (fun s9 => R_count s9 (nI 2))) ha hE)) (cwV 1 hts gL_holds_X5_count rfl rfl rfl (by decide +kernel) ⟨kk_le rfl, kk_le rfl⟩) (pvZ hK hP (my_D_true hD) (hZ.at hS hFc) (cW_rc hK hP)) rfl rfl hl.1 rfl (lv_room (kk_le rfl)) dL_holds_345 ⟨kk_le rfl, kk_le rfl⟩) hS (fun q _ h => hFc q h) hFc (fun z90 g90 t H90 locs90 ht hvm hw90 hB90 hs90 hk90 hS => ?_)
      obtain ⟨hP, hD90⟩ := hB90
      rw [ht] at hP
      have hD := my_up hD90 hFc
      obtain ⟨hw90, hg⟩ := hw90
      obtain ⟨hz90, ha⟩ := rt_get (F := (fun s9 => R_count s9 (nI 2))) ha hE hw90
      subst hz90
      refine lv_aload_n hx hb dL_holds_348 rfl (lv_at hl 3 rfl) ?_
      refine lv_iconst (v := nI 3) hx hb dL_holds_349 (by decide) ?_
      have hFc := my_free0 hD hS hA
      have hE : R_count σ (nI 3) = (nI 0, maxL (tS σ.1), σ) := (e_count σ (by omega)).trans rfl
      refine va_calli (va_runV (As := [.int (nI 3)]) (rest := [.int (minL (tS σ.1))]) ⟨hx, hb, hml, hown, hts⟩ (cE_count l D ca H90.size Ad g90 (nI 3) hg (zz_of ha hzz) (no_of (F := (fun s9 => R_count s9 (nI 3))) ha hE)) (cwV 1 hts gL_holds_X5_count rfl rfl rfl (by decide +kernel) ⟨kk_le rfl, kk_le rfl⟩) (pvZ hK hP (my_D_true hD) (hZ.at hS hFc) (cW_rc hK hP)) rfl rfl hl.1 rfl (lv_room (kk_le rfl)) dL_holds_350 ⟨kk_le rfl, kk_le rfl⟩) hS (fun q _ h => hFc q h) hFc (fun z91 g91 t H91 locs91 ht hvm hw91 hB91 hs91 hk91 hS => ?_)
      obtain ⟨hP, hD91⟩ := hB91
      rw [ht] at hP
      have hD := my_up hD91 hFc
      obtain ⟨hw91, hg⟩ := hw91
      obtain ⟨hz91, ha⟩ := rt_get (F := (fun s9 => R_count s9 (nI 3))) ha hE hw91
      subst hz91
      refine lv_icmp_gt (tgt := 429) hx hb dL_holds_353 (by decide) (fun c92 => absurd c92 (mm_le _)) (fun c92 => ?_)
      refine lv_iload hx hb dL_holds_356 (lv_at hl 0 rfl) ?_
      refine lv_iconst (v := (-1)) hx hb dL_holds_358 (by decide) ?_
      refine lv_icmp_lt (tgt := 429) hx hb dL_holds_359 (by decide) (fun c93 => absurd c93 hcm) (fun c93 => ?_)
      refine lv_iload hx hb dL_holds_362 (lv_at hl 0 rfl) ?_
      refine lv_bipush (v := nI 16) hx hb dL_holds_364 (by decide) ?_
      refine ni_icmp_ge (tgt := 429) (by omega) (by omega) hx hb dL_holds_366 (by decide) (fun c94 => absurd c94 (by omega)) (fun c94 => ?_)
      refine lv_iload hx hb dL_holds_369 (lv_at hl 0 rfl) ?_
      refine lv_iconst (v := (-1)) hx hb dL_holds_371 (by decide) ?_
      refine lv_icmp_ne (tgt := 379) hx hb dL_holds_372 (by decide) (fun c95 => ?_) (fun c95 => absurd c95 (ni_m1 (by omega)))
      refine lv_iconst (v := nI 0) hx hb dL_holds_379 (by decide) ?_
      refine lv_aload_n hx hb dL_holds_380 rfl (lv_at hl 3 rfl) ?_
      refine lv_iconst (v := nI 4) hx hb dL_holds_381 (by decide) ?_
      have hFc := my_free0 hD hS hA
      have hE : R_count σ (nI 4) = (nI 0, nI ((lS σ.1).length), σ) := (e_count σ (by omega)).trans rfl
      refine va_calli (va_runV (As := [.int (nI 4)]) (rest := [.int (nI 0)]) ⟨hx, hb, hml, hown, hts⟩ (cE_count l D ca H91.size Ad g91 (nI 4) hg (zz_of ha hzz) (no_of (F := (fun s9 => R_count s9 (nI 4))) ha hE)) (cwV 1 hts gL_holds_X5_count rfl rfl rfl (by decide +kernel) ⟨kk_le rfl, kk_le rfl⟩) (pvZ hK hP (my_D_true hD) (hZ.at hS hFc) (cW_rc hK hP)) rfl rfl hl.1 rfl (lv_room (kk_le rfl)) dL_holds_382 ⟨kk_le rfl, kk_le rfl⟩) hS (fun q _ h => hFc q h) hFc (fun z96 g96 t H96 locs96 ht hvm hw96 hB96 hs96 hk96 hS => ?_)
      obtain ⟨hP, hD96⟩ := hB96
      rw [ht] at hP
      have hD := my_up hD96 hFc
      obtain ⟨hw96, hg⟩ := hw96
      obtain ⟨hz96, ha⟩ := rt_get (F := (fun s9 => R_count s9 (nI 4))) ha hE hw96
      subst hz96
      refine ni_if_ne (tgt := 392) (by omega) hx hb dL_holds_385 (by decide) (fun c97 => ?_) (fun c97 => absurd c97 (by omega))
      refine lv_iconst (v := nI 0) hx hb dL_holds_392 (by decide) ?_
      refine ni_icmp_ne (tgt := 429) (by omega) (by omega) hx hb dL_holds_393 (by decide) (fun c98 => absurd rfl c98) (fun c98 => ?_)
      rcases rep_c σ.1.2.1 σ.1.2.2.1 (tS σ.1) with ⟨r1, r2⟩ | ⟨a9, b9, ha9, hb9, r1, r2⟩
      · refine lv_aload_n hx hb dL_holds_396 rfl (lv_at hl 3 rfl) ?_
        refine lv_iconst (v := nI 0) hx hb dL_holds_397 (by decide) ?_
        have hFc := my_free0 hD hS hA
        have hE : R_repair σ (nI 0) = (nI 0, (-1), σ) := (e_repair σ (by omega)).trans (by rw [r1])
        refine va_calli (va_runV (As := [.int (nI 0)]) (rest := []) ⟨hx, hb, hml, hown, hts⟩ (cE_repair l D ca H96.size Ad g96 (nI 0) hg (zz_of ha hzz) (no_of (F := (fun s9 => R_repair s9 (nI 0))) ha hE)) (cwV 1 hts gL_holds_X5_repair rfl rfl rfl (by decide +kernel) ⟨kk_le rfl, kk_le rfl⟩) (pvZ hK hP (my_D_true hD) (hZ.at hS hFc) (cW_rc hK hP)) rfl rfl hl.1 rfl (lv_room (kk_le rfl)) dL_holds_398 ⟨kk_le rfl, kk_le rfl⟩) hS (fun q _ h => hFc q h) hFc (fun z99 g99 t H99 locs99 ht hvm hw99 hB99 hs99 hk99 hS => ?_)
        obtain ⟨hP, hD99⟩ := hB99
        rw [ht] at hP
        have hD := my_up hD99 hFc
        obtain ⟨hw99, hg⟩ := hw99
        obtain ⟨hz99, ha⟩ := rt_get (F := (fun s9 => R_repair s9 (nI 0))) ha hE hw99
        subst hz99
        refine lv_if_ge (tgt := 408) hx hb dL_holds_401 (by decide) (fun c100 => absurd c100 (by decide)) (fun c100 => ?_)
        refine lv_iconst (v := nI 1) hx hb dL_holds_404 (by decide) ?_
        refine lv_goto (tgt := 409) hx hb dL_holds_405 (by decide) ?_
        refine lv_aload_n hx hb dL_holds_409 rfl (lv_at hl 3 rfl) ?_
        refine lv_iconst (v := nI 1) hx hb dL_holds_410 (by decide) ?_
        have hFc := my_free0 hD hS hA
        have hE : R_repair σ (nI 1) = (nI 0, (-1), σ) := (e_repair σ (by omega)).trans (by rw [r2])
        refine va_calli (va_runV (As := [.int (nI 1)]) (rest := [.int (nI 1)]) ⟨hx, hb, hml, hown, hts⟩ (cE_repair l D ca H99.size Ad g99 (nI 1) hg (zz_of ha hzz) (no_of (F := (fun s9 => R_repair s9 (nI 1))) ha hE)) (cwV 1 hts gL_holds_X5_repair rfl rfl rfl (by decide +kernel) ⟨kk_le rfl, kk_le rfl⟩) (pvZ hK hP (my_D_true hD) (hZ.at hS hFc) (cW_rc hK hP)) rfl rfl hl.1 rfl (lv_room (kk_le rfl)) dL_holds_411 ⟨kk_le rfl, kk_le rfl⟩) hS (fun q _ h => hFc q h) hFc (fun z101 g101 t H101 locs101 ht hvm hw101 hB101 hs101 hk101 hS => ?_)
        obtain ⟨hP, hD101⟩ := hB101
        rw [ht] at hP
        have hD := my_up hD101 hFc
        obtain ⟨hw101, hg⟩ := hw101
        obtain ⟨hz101, ha⟩ := rt_get (F := (fun s9 => R_repair s9 (nI 1))) ha hE hw101
        subst hz101
        refine lv_if_ge (tgt := 421) hx hb dL_holds_414 (by decide) (fun c102 => absurd c102 (by decide)) (fun c102 => ?_)
        refine lv_iconst (v := nI 1) hx hb dL_holds_417 (by decide) ?_
        refine lv_goto (tgt := 422) hx hb dL_holds_418 (by decide) ?_
        refine ni_icmp_ne (tgt := 429) (by omega) (by omega) hx hb dL_holds_422 (by decide) (fun c103 => absurd rfl c103) (fun c103 => ?_)
        refine lv_iconst (v := nI 1) hx hb dL_holds_425 (by decide) ?_
        refine lv_goto (tgt := 430) hx hb dL_holds_426 (by decide) ?_
        subst hQz
        exact W.zret (v := nI 1) hx hb hr (by first | rfl | exact bI_nar _ | exact bI_fit _ | (first | exact Or.inl rfl | exact Or.inr rfl)) (fun t ht hW => ⟨⟨_, g101, rfl, ⟨⟨rfl, ha⟩, hg⟩, by rw [ht]; exact hP, hD⟩, hS.F ht⟩) hS.2.2 dL_holds_430
      · refine lv_aload_n hx hb dL_holds_396 rfl (lv_at hl 3 rfl) ?_
        refine lv_iconst (v := nI 0) hx hb dL_holds_397 (by decide) ?_
        have hFc := my_free0 hD hS hA
        have hE : R_repair σ (nI 0) = (nI 0, nI a9, σ) := (e_repair σ (by omega)).trans (by rw [r1])
        refine va_calli (va_runV (As := [.int (nI 0)]) (rest := []) ⟨hx, hb, hml, hown, hts⟩ (cE_repair l D ca H96.size Ad g96 (nI 0) hg (zz_of ha hzz) (no_of (F := (fun s9 => R_repair s9 (nI 0))) ha hE)) (cwV 1 hts gL_holds_X5_repair rfl rfl rfl (by decide +kernel) ⟨kk_le rfl, kk_le rfl⟩) (pvZ hK hP (my_D_true hD) (hZ.at hS hFc) (cW_rc hK hP)) rfl rfl hl.1 rfl (lv_room (kk_le rfl)) dL_holds_398 ⟨kk_le rfl, kk_le rfl⟩) hS (fun q _ h => hFc q h) hFc (fun z104 g104 t H104 locs104 ht hvm hw104 hB104 hs104 hk104 hS => ?_)
        obtain ⟨hP, hD104⟩ := hB104
        rw [ht] at hP
        have hD := my_up hD104 hFc
        obtain ⟨hw104, hg⟩ := hw104
        obtain ⟨hz104, ha⟩ := rt_get (F := (fun s9 => R_repair s9 (nI 0))) ha hE hw104
        subst hz104
        refine ni_if_ge (tgt := 408) (by omega) hx hb dL_holds_401 (by decide) (fun c105 => ?_) (fun c105 => c105.elim)
        refine lv_iconst (v := nI 0) hx hb dL_holds_408 (by decide) ?_
        refine lv_aload_n hx hb dL_holds_409 rfl (lv_at hl 3 rfl) ?_
        refine lv_iconst (v := nI 1) hx hb dL_holds_410 (by decide) ?_
        have hFc := my_free0 hD hS hA
        have hE : R_repair σ (nI 1) = (nI 0, nI b9, σ) := (e_repair σ (by omega)).trans (by rw [r2])
        refine va_calli (va_runV (As := [.int (nI 1)]) (rest := [.int (nI 0)]) ⟨hx, hb, hml, hown, hts⟩ (cE_repair l D ca H104.size Ad g104 (nI 1) hg (zz_of ha hzz) (no_of (F := (fun s9 => R_repair s9 (nI 1))) ha hE)) (cwV 1 hts gL_holds_X5_repair rfl rfl rfl (by decide +kernel) ⟨kk_le rfl, kk_le rfl⟩) (pvZ hK hP (my_D_true hD) (hZ.at hS hFc) (cW_rc hK hP)) rfl rfl hl.1 rfl (lv_room (kk_le rfl)) dL_holds_411 ⟨kk_le rfl, kk_le rfl⟩) hS (fun q _ h => hFc q h) hFc (fun z106 g106 t H106 locs106 ht hvm hw106 hB106 hs106 hk106 hS => ?_)
        obtain ⟨hP, hD106⟩ := hB106
        rw [ht] at hP
        have hD := my_up hD106 hFc
        obtain ⟨hw106, hg⟩ := hw106
        obtain ⟨hz106, ha⟩ := rt_get (F := (fun s9 => R_repair s9 (nI 1))) ha hE hw106
        subst hz106
        refine ni_if_ge (tgt := 421) (by omega) hx hb dL_holds_414 (by decide) (fun c107 => ?_) (fun c107 => c107.elim)
        refine lv_iconst (v := nI 0) hx hb dL_holds_421 (by decide) ?_
        refine ni_icmp_ne (tgt := 429) (by omega) (by omega) hx hb dL_holds_422 (by decide) (fun c108 => absurd rfl c108) (fun c108 => ?_)
        refine lv_iconst (v := nI 1) hx hb dL_holds_425 (by decide) ?_
        refine lv_goto (tgt := 430) hx hb dL_holds_426 (by decide) ?_
        subst hQz
        exact W.zret (v := nI 1) hx hb hr (by first | rfl | exact bI_nar _ | exact bI_fit _ | (first | exact Or.inl rfl | exact Or.inr rfl)) (fun t ht hW => ⟨⟨_, g106, rfl, ⟨⟨rfl, ha⟩, hg⟩, by rw [ht]; exact hP, hD⟩, hS.F ht⟩) hS.2.2 dL_holds_430
  have k259 : ∀ (g : CG) (H : Heap) (locs : List Loc) (ls : Array Slot), okCg g → abC g = σ → va_P D vwCl (cW ca Ad g) H → va_D A (cW ca Ad g) → va_S A s.heap H locs → lv_has ls 10 [(1, .int (nI 2)), (0, .ref Ad.1)] → W p l e RMT0 s m ([.ref Ad.1] : List Value).toArray below meth c H locs 0 0 Qz (F0 m 259 ls []) := by
    intro g H locs ls hg ha hP hD hS hl
    rcases rg_c σ.1.2.1 σ.1.2.2.1 (tS σ.1) (lS σ.1) with ⟨r1, r2, r3⟩ | ⟨r1, r2, r3⟩ | r1
    · refine lv_aload_n hx hb dL_holds_259 rfl (lv_at hl 1 rfl) ?_
      have hFc := my_free0 hD hS hA
      have hE : R_isRight σ = (nI 0, nI 1, σ) := (e_isRight σ).trans (by rw [r1])
      refine va_calli (va_runV (As := []) (rest := []) ⟨hx, hb, hml, hown, hts⟩ (cE_isRight l D ca H.size Ad g hg (zz_of ha hzz)) (cwV 0 hts gL_holds_X5_isRight rfl rfl rfl (by decide +kernel) ⟨kk_le rfl, kk_le rfl⟩) (pvZ hK hP (my_D_true hD) (hZ.at hS hFc) (cW_rc hK hP)) rfl rfl hl.1 rfl (lv_room (kk_le rfl)) dL_holds_260 ⟨kk_le rfl, kk_le rfl⟩) hS (fun q _ h => hFc q h) hFc (fun z109 g109 t H109 locs109 ht hvm hw109 hB109 hs109 hk109 hS => ?_)
      obtain ⟨hP, hD109⟩ := hB109
      rw [ht] at hP
      have hD := my_up hD109 hFc
      obtain ⟨hw109, hg⟩ := hw109
      obtain ⟨hz109, ha⟩ := rt_get (F := R_isRight) ha hE hw109
      subst hz109
      refine lv_istore_n (lv' := [(1, .int (nI 1)), (0, .ref Ad.1)]) hx hb dL_holds_263 rfl hl (by decide) rfl (fun ls hl => ?_)
      refine lv_iload_n hx hb dL_holds_264 rfl (lv_at hl 0 rfl) ?_
      refine ni_if_eq (tgt := 309) (by omega) hx hb dL_holds_265 (by decide) (fun c110 => absurd c110 (by decide)) (fun c110 => ?_)
      refine lv_aload_n hx hb dL_holds_268 rfl (lv_at hl 1 rfl) ?_
      refine lv_iload_n hx hb dL_holds_269 rfl (lv_at hl 0 rfl) ?_
      refine lv_iconst (v := nI 2) hx hb dL_holds_270 (by decide) ?_
      refine ni_icmp_ne (tgt := 278) (by omega) (by omega) hx hb dL_holds_271 (by decide) (fun c111 => ?_) (fun c111 => absurd c111 (by decide))
      refine lv_iconst (v := bI false) hx hb dL_holds_278 (by decide) ?_
      refine lv_iconst (v := nI 0) hx hb dL_holds_279 (by decide) ?_
      have hFc := my_free0 hD hS hA
      have hE : R_reads σ false (nI 0) = (nI 0, nI 0, σ) := (e_reads σ false (by omega)).trans (by show (nI 0, rsT σ.1.2.1 σ.1.2.2.1 (tS σ.1), σ) = _; rw [r2])
      refine va_calli (va_runV (As := [.int (bI false), .int (nI 0)]) (rest := []) ⟨hx, hb, hml, hown, hts⟩ (cE_reads l D ca H109.size Ad g109 false (nI 0) hg (zz_of ha hzz) (no_of (F := (fun s9 => R_reads s9 false (nI 0))) ha hE)) (cwV 2 hts gL_holds_X5_reads rfl rfl rfl (by decide +kernel) ⟨kk_le rfl, kk_le rfl⟩) (pvZ hK hP (my_D_true hD) (hZ.at hS hFc) (cW_rc hK hP)) rfl rfl hl.1 rfl (lv_room (kk_le rfl)) dL_holds_280 ⟨kk_le rfl, kk_le rfl⟩) hS (fun q _ h => hFc q h) hFc (fun z112 g112 t H112 locs112 ht hvm hw112 hB112 hs112 hk112 hS => ?_)
      obtain ⟨hP, hD112⟩ := hB112
      rw [ht] at hP
      have hD := my_up hD112 hFc
      obtain ⟨hw112, hg⟩ := hw112
      obtain ⟨hz112, ha⟩ := rt_get (F := (fun s9 => R_reads s9 false (nI 0))) ha hE hw112
      subst hz112
      refine ni_if_ne (tgt := 313) (by omega) hx hb dL_holds_283 (by decide) (fun c113 => absurd c113 (by decide)) (fun c113 => ?_)
      refine lv_aload_n hx hb dL_holds_286 rfl (lv_at hl 1 rfl) ?_
      refine lv_iload_n hx hb dL_holds_287 rfl (lv_at hl 0 rfl) ?_
      refine lv_iconst (v := nI 2) hx hb dL_holds_288 (by decide) ?_
      refine ni_icmp_ne (tgt := 296) (by omega) (by omega) hx hb dL_holds_289 (by decide) (fun c114 => ?_) (fun c114 => absurd c114 (by decide))
      refine lv_iconst (v := bI false) hx hb dL_holds_296 (by decide) ?_
      refine lv_iconst (v := nI 3) hx hb dL_holds_297 (by decide) ?_
      have hFc := my_free0 hD hS hA
      have hE : R_reads σ false (nI 3) = (nI 0, nI ((lS σ.1).length), σ) := (e_reads σ false (by omega)).trans (by show (nI 0, nI (ltB (bitsT σ.1.2.1 σ.1.2.2.1 (tS σ.1))).length, σ) = _; rw [r3])
      refine va_calli (va_runV (As := [.int (bI false), .int (nI 3)]) (rest := []) ⟨hx, hb, hml, hown, hts⟩ (cE_reads l D ca H112.size Ad g112 false (nI 3) hg (zz_of ha hzz) (no_of (F := (fun s9 => R_reads s9 false (nI 3))) ha hE)) (cwV 2 hts gL_holds_X5_reads rfl rfl rfl (by decide +kernel) ⟨kk_le rfl, kk_le rfl⟩) (pvZ hK hP (my_D_true hD) (hZ.at hS hFc) (cW_rc hK hP)) rfl rfl hl.1 rfl (lv_room (kk_le rfl)) dL_holds_298 ⟨kk_le rfl, kk_le rfl⟩) hS (fun q _ h => hFc q h) hFc (fun z115 g115 t H115 locs115 ht hvm hw115 hB115 hs115 hk115 hS => ?_)
      obtain ⟨hP, hD115⟩ := hB115
      rw [ht] at hP
      have hD := my_up hD115 hFc
      obtain ⟨hw115, hg⟩ := hw115
      obtain ⟨hz115, ha⟩ := rt_get (F := (fun s9 => R_reads s9 false (nI 3))) ha hE hw115
      subst hz115
      refine lv_aload_n hx hb dL_holds_301 rfl (lv_at hl 1 rfl) ?_
      refine lv_iconst (v := nI 4) hx hb dL_holds_302 (by decide) ?_
      have hFc := my_free0 hD hS hA
      have hE : R_count σ (nI 4) = (nI 0, nI ((lS σ.1).length), σ) := (e_count σ (by omega)).trans rfl
      refine va_calli (va_runV (As := [.int (nI 4)]) (rest := [.int (nI ((lS σ.1).length))]) ⟨hx, hb, hml, hown, hts⟩ (cE_count l D ca H115.size Ad g115 (nI 4) hg (zz_of ha hzz) (no_of (F := (fun s9 => R_count s9 (nI 4))) ha hE)) (cwV 1 hts gL_holds_X5_count rfl rfl rfl (by decide +kernel) ⟨kk_le rfl, kk_le rfl⟩) (pvZ hK hP (my_D_true hD) (hZ.at hS hFc) (cW_rc hK hP)) rfl rfl hl.1 rfl (lv_room (kk_le rfl)) dL_holds_303 ⟨kk_le rfl, kk_le rfl⟩) hS (fun q _ h => hFc q h) hFc (fun z116 g116 t H116 locs116 ht hvm hw116 hB116 hs116 hk116 hS => ?_)
      obtain ⟨hP, hD116⟩ := hB116
      rw [ht] at hP
      have hD := my_up hD116 hFc
      obtain ⟨hw116, hg⟩ := hw116
      obtain ⟨hz116, ha⟩ := rt_get (F := (fun s9 => R_count s9 (nI 4))) ha hE hw116
      subst hz116
      refine ni_icmp_ne (tgt := 313) (by omega) (by omega) hx hb dL_holds_306 (by decide) (fun c117 => absurd rfl c117) (fun c117 => ?_)
      refine lv_iconst (v := nI 1) hx hb dL_holds_309 (by decide) ?_
      refine lv_goto (tgt := 314) hx hb dL_holds_310 (by decide) ?_
      exact tl _ _ _ _ hg ha hP hD hS (lv_sub hl [1] rfl)
    · refine lv_aload_n hx hb dL_holds_259 rfl (lv_at hl 1 rfl) ?_
      have hFc := my_free0 hD hS hA
      have hE : R_isRight σ = (nI 0, nI 2, σ) := (e_isRight σ).trans (by rw [r1])
      refine va_calli (va_runV (As := []) (rest := []) ⟨hx, hb, hml, hown, hts⟩ (cE_isRight l D ca H.size Ad g hg (zz_of ha hzz)) (cwV 0 hts gL_holds_X5_isRight rfl rfl rfl (by decide +kernel) ⟨kk_le rfl, kk_le rfl⟩) (pvZ hK hP (my_D_true hD) (hZ.at hS hFc) (cW_rc hK hP)) rfl rfl hl.1 rfl (lv_room (kk_le rfl)) dL_holds_260 ⟨kk_le rfl, kk_le rfl⟩) hS (fun q _ h => hFc q h) hFc (fun z118 g118 t H118 locs118 ht hvm hw118 hB118 hs118 hk118 hS => ?_)
      obtain ⟨hP, hD118⟩ := hB118
      rw [ht] at hP
      have hD := my_up hD118 hFc
      obtain ⟨hw118, hg⟩ := hw118
      obtain ⟨hz118, ha⟩ := rt_get (F := R_isRight) ha hE hw118
      subst hz118
      refine lv_istore_n (lv' := [(1, .int (nI 2)), (0, .ref Ad.1)]) hx hb dL_holds_263 rfl hl (by decide) rfl (fun ls hl => ?_)
      refine lv_iload_n hx hb dL_holds_264 rfl (lv_at hl 0 rfl) ?_
      refine ni_if_eq (tgt := 309) (by omega) hx hb dL_holds_265 (by decide) (fun c119 => absurd c119 (by decide)) (fun c119 => ?_)
      refine lv_aload_n hx hb dL_holds_268 rfl (lv_at hl 1 rfl) ?_
      refine lv_iload_n hx hb dL_holds_269 rfl (lv_at hl 0 rfl) ?_
      refine lv_iconst (v := nI 2) hx hb dL_holds_270 (by decide) ?_
      refine ni_icmp_ne (tgt := 278) (by omega) (by omega) hx hb dL_holds_271 (by decide) (fun c120 => absurd rfl c120) (fun c120 => ?_)
      refine lv_iconst (v := bI true) hx hb dL_holds_274 (by decide) ?_
      refine lv_goto (tgt := 279) hx hb dL_holds_275 (by decide) ?_
      refine lv_iconst (v := nI 0) hx hb dL_holds_279 (by decide) ?_
      have hFc := my_free0 hD hS hA
      have hE : R_reads σ true (nI 0) = (nI 0, nI 0, σ) := (e_reads σ true (by omega)).trans (by show (nI 0, rsT σ.1.2.1 σ.1.2.2.1 (tS σ.1).reverse, σ) = _; rw [r2])
      refine va_calli (va_runV (As := [.int (bI true), .int (nI 0)]) (rest := []) ⟨hx, hb, hml, hown, hts⟩ (cE_reads l D ca H118.size Ad g118 true (nI 0) hg (zz_of ha hzz) (no_of (F := (fun s9 => R_reads s9 true (nI 0))) ha hE)) (cwV 2 hts gL_holds_X5_reads rfl rfl rfl (by decide +kernel) ⟨kk_le rfl, kk_le rfl⟩) (pvZ hK hP (my_D_true hD) (hZ.at hS hFc) (cW_rc hK hP)) rfl rfl hl.1 rfl (lv_room (kk_le rfl)) dL_holds_280 ⟨kk_le rfl, kk_le rfl⟩) hS (fun q _ h => hFc q h) hFc (fun z121 g121 t H121 locs121 ht hvm hw121 hB121 hs121 hk121 hS => ?_)
      obtain ⟨hP, hD121⟩ := hB121
      rw [ht] at hP
      have hD := my_up hD121 hFc
      obtain ⟨hw121, hg⟩ := hw121
      obtain ⟨hz121, ha⟩ := rt_get (F := (fun s9 => R_reads s9 true (nI 0))) ha hE hw121
      subst hz121
      refine ni_if_ne (tgt := 313) (by omega) hx hb dL_holds_283 (by decide) (fun c122 => absurd c122 (by decide)) (fun c122 => ?_)
      refine lv_aload_n hx hb dL_holds_286 rfl (lv_at hl 1 rfl) ?_
      refine lv_iload_n hx hb dL_holds_287 rfl (lv_at hl 0 rfl) ?_
      refine lv_iconst (v := nI 2) hx hb dL_holds_288 (by decide) ?_
      refine ni_icmp_ne (tgt := 296) (by omega) (by omega) hx hb dL_holds_289 (by decide) (fun c123 => absurd rfl c123) (fun c123 => ?_)
      refine lv_iconst (v := bI true) hx hb dL_holds_292 (by decide) ?_
      refine lv_goto (tgt := 297) hx hb dL_holds_293 (by decide) ?_
      refine lv_iconst (v := nI 3) hx hb dL_holds_297 (by decide) ?_
      have hFc := my_free0 hD hS hA
      have hE : R_reads σ true (nI 3) = (nI 0, nI ((lS σ.1).length), σ) := (e_reads σ true (by omega)).trans (by show (nI 0, nI (ltB (bitsT σ.1.2.1 σ.1.2.2.1 (tS σ.1).reverse)).length, σ) = _; rw [r3])
      refine va_calli (va_runV (As := [.int (bI true), .int (nI 3)]) (rest := []) ⟨hx, hb, hml, hown, hts⟩ (cE_reads l D ca H121.size Ad g121 true (nI 3) hg (zz_of ha hzz) (no_of (F := (fun s9 => R_reads s9 true (nI 3))) ha hE)) (cwV 2 hts gL_holds_X5_reads rfl rfl rfl (by decide +kernel) ⟨kk_le rfl, kk_le rfl⟩) (pvZ hK hP (my_D_true hD) (hZ.at hS hFc) (cW_rc hK hP)) rfl rfl hl.1 rfl (lv_room (kk_le rfl)) dL_holds_298 ⟨kk_le rfl, kk_le rfl⟩) hS (fun q _ h => hFc q h) hFc (fun z124 g124 t H124 locs124 ht hvm hw124 hB124 hs124 hk124 hS => ?_)
      obtain ⟨hP, hD124⟩ := hB124
      rw [ht] at hP
      have hD := my_up hD124 hFc
      obtain ⟨hw124, hg⟩ := hw124
      obtain ⟨hz124, ha⟩ := rt_get (F := (fun s9 => R_reads s9 true (nI 3))) ha hE hw124
      subst hz124
      refine lv_aload_n hx hb dL_holds_301 rfl (lv_at hl 1 rfl) ?_
      refine lv_iconst (v := nI 4) hx hb dL_holds_302 (by decide) ?_
      have hFc := my_free0 hD hS hA
      have hE : R_count σ (nI 4) = (nI 0, nI ((lS σ.1).length), σ) := (e_count σ (by omega)).trans rfl
      refine va_calli (va_runV (As := [.int (nI 4)]) (rest := [.int (nI ((lS σ.1).length))]) ⟨hx, hb, hml, hown, hts⟩ (cE_count l D ca H124.size Ad g124 (nI 4) hg (zz_of ha hzz) (no_of (F := (fun s9 => R_count s9 (nI 4))) ha hE)) (cwV 1 hts gL_holds_X5_count rfl rfl rfl (by decide +kernel) ⟨kk_le rfl, kk_le rfl⟩) (pvZ hK hP (my_D_true hD) (hZ.at hS hFc) (cW_rc hK hP)) rfl rfl hl.1 rfl (lv_room (kk_le rfl)) dL_holds_303 ⟨kk_le rfl, kk_le rfl⟩) hS (fun q _ h => hFc q h) hFc (fun z125 g125 t H125 locs125 ht hvm hw125 hB125 hs125 hk125 hS => ?_)
      obtain ⟨hP, hD125⟩ := hB125
      rw [ht] at hP
      have hD := my_up hD125 hFc
      obtain ⟨hw125, hg⟩ := hw125
      obtain ⟨hz125, ha⟩ := rt_get (F := (fun s9 => R_count s9 (nI 4))) ha hE hw125
      subst hz125
      refine ni_icmp_ne (tgt := 313) (by omega) (by omega) hx hb dL_holds_306 (by decide) (fun c126 => absurd rfl c126) (fun c126 => ?_)
      refine lv_iconst (v := nI 1) hx hb dL_holds_309 (by decide) ?_
      refine lv_goto (tgt := 314) hx hb dL_holds_310 (by decide) ?_
      exact tl _ _ _ _ hg ha hP hD hS (lv_sub hl [1] rfl)
    · refine lv_aload_n hx hb dL_holds_259 rfl (lv_at hl 1 rfl) ?_
      have hFc := my_free0 hD hS hA
      have hE : R_isRight σ = (nI 0, nI 0, σ) := (e_isRight σ).trans (by rw [r1])
      refine va_calli (va_runV (As := []) (rest := []) ⟨hx, hb, hml, hown, hts⟩ (cE_isRight l D ca H.size Ad g hg (zz_of ha hzz)) (cwV 0 hts gL_holds_X5_isRight rfl rfl rfl (by decide +kernel) ⟨kk_le rfl, kk_le rfl⟩) (pvZ hK hP (my_D_true hD) (hZ.at hS hFc) (cW_rc hK hP)) rfl rfl hl.1 rfl (lv_room (kk_le rfl)) dL_holds_260 ⟨kk_le rfl, kk_le rfl⟩) hS (fun q _ h => hFc q h) hFc (fun z127 g127 t H127 locs127 ht hvm hw127 hB127 hs127 hk127 hS => ?_)
      obtain ⟨hP, hD127⟩ := hB127
      rw [ht] at hP
      have hD := my_up hD127 hFc
      obtain ⟨hw127, hg⟩ := hw127
      obtain ⟨hz127, ha⟩ := rt_get (F := R_isRight) ha hE hw127
      subst hz127
      refine lv_istore_n (lv' := [(1, .int (nI 0)), (0, .ref Ad.1)]) hx hb dL_holds_263 rfl hl (by decide) rfl (fun ls hl => ?_)
      refine lv_iload_n hx hb dL_holds_264 rfl (lv_at hl 0 rfl) ?_
      refine ni_if_eq (tgt := 309) (by omega) hx hb dL_holds_265 (by decide) (fun c128 => ?_) (fun c128 => absurd c128 (by decide))
      refine lv_iconst (v := nI 1) hx hb dL_holds_309 (by decide) ?_
      refine lv_goto (tgt := 314) hx hb dL_holds_310 (by decide) ?_
      exact tl _ _ _ _ hg ha hP hD hS (lv_sub hl [1] rfl)
  refine lv_iconst (v := nI 0) hx hb dL_holds_0 (by decide) ?_
  refine lv_istore_n (lv' := [(1, .int (nI 0)), (0, .ref Ad.1)]) hx hb dL_holds_1 rfl hl (by decide) rfl (fun ls hl => ?_)
  refine lv_iload_n hx hb dL_holds_2 rfl (lv_at hl 0 rfl) ?_
  refine lv_iconst (v := nI 2) hx hb dL_holds_3 (by decide) ?_
  refine ni_icmp_ge (tgt := 259) (by omega) (by omega) hx hb dL_holds_4 (by decide) (fun c129 => absurd c129 (by decide)) (fun c129 => ?_)
  refine lv_iload_n hx hb dL_holds_7 rfl (lv_at hl 0 rfl) ?_
  refine lv_iconst (v := nI 1) hx hb dL_holds_8 (by decide) ?_
  refine ni_icmp_ne (tgt := 16) (by omega) (by omega) hx hb dL_holds_9 (by decide) (fun c130 => ?_) (fun c130 => absurd c130 (by decide))
  refine lv_iconst (v := bI false) hx hb dL_holds_16 (by decide) ?_
  refine lv_istore_n (lv' := [(2, .int (bI false)), (1, .int (nI 0)), (0, .ref Ad.1)]) hx hb dL_holds_17 rfl hl (by decide) rfl (fun ls hl => ?_)
  refine rnd false 0 (fun g H locs ls hg ha hP hD hS hl => ?_) _ _ _ _ hg ha hP hD hS (lv_sub hl [0, 1, 2] rfl)
  refine lv_iinc (v := nI 1) (lv' := [(1, .int (nI 1)), (0, .ref Ad.1)]) hx hb dL_holds_253 hl (k := 0) rfl (ni_inc 0 1 (by decide)) (by decide) rfl (fun ls hl => ?_)
  refine lv_goto (tgt := 2) hx hb dL_holds_256 (by decide) ?_
  refine lv_iload_n hx hb dL_holds_2 rfl (lv_at hl 0 rfl) ?_
  refine lv_iconst (v := nI 2) hx hb dL_holds_3 (by decide) ?_
  refine ni_icmp_ge (tgt := 259) (by omega) (by omega) hx hb dL_holds_4 (by decide) (fun c131 => absurd c131 (by decide)) (fun c131 => ?_)
  refine lv_iload_n hx hb dL_holds_7 rfl (lv_at hl 0 rfl) ?_
  refine lv_iconst (v := nI 1) hx hb dL_holds_8 (by decide) ?_
  refine ni_icmp_ne (tgt := 16) (by omega) (by omega) hx hb dL_holds_9 (by decide) (fun c132 => absurd rfl c132) (fun c132 => ?_)
  refine lv_iconst (v := bI true) hx hb dL_holds_12 (by decide) ?_
  refine lv_goto (tgt := 17) hx hb dL_holds_13 (by decide) ?_
  refine lv_istore_n (lv' := [(2, .int (bI true)), (1, .int (nI 1)), (0, .ref Ad.1)]) hx hb dL_holds_17 rfl hl (by decide) rfl (fun ls hl => ?_)
  refine rnd true 1 (fun g H locs ls hg ha hP hD hS hl => ?_) _ _ _ _ hg ha hP hD hS (lv_sub hl [0, 1, 2] rfl)
  refine lv_iinc (v := nI 2) (lv' := [(1, .int (nI 2)), (0, .ref Ad.1)]) hx hb dL_holds_253 hl (k := 0) rfl (ni_inc 1 1 (by decide)) (by decide) rfl (fun ls hl => ?_)
  refine lv_goto (tgt := 2) hx hb dL_holds_256 (by decide) ?_
  refine lv_iload_n hx hb dL_holds_2 rfl (lv_at hl 0 rfl) ?_
  refine lv_iconst (v := nI 2) hx hb dL_holds_3 (by decide) ?_
  refine ni_icmp_ge (tgt := 259) (by omega) (by omega) hx hb dL_holds_4 (by decide) (fun c133 => ?_) (fun c133 => absurd c133 (by decide))
  exact k259 _ _ _ _ hg ha hP hD hS (lv_sub hl [0, 1] rfl)
