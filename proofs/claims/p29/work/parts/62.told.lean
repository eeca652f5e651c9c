theorem hF0 (f : Nat → Int32) (h : Int64) : hashF f 0 h = h := rfl
theorem hF1 (f : Nat → Int32) (k : Nat) (h : Int64) : hashF f (k + 1) h = 31 * hashF f k h + (f k).toInt64 := rfl
theorem hG0 (f g : Nat → Int32) (h : Int64) : hashG f g 0 h = h := rfl
theorem hG1 (f g : Nat → Int32) (k : Nat) (h : Int64) : hashG f g (k + 1) h = 31 * (31 * hashG f g k h + (f k).toInt64) + (g k).toInt64 := rfl
theorem hz0 {a b c : Int64} (h : a = b) (h2 : c = b) : a = c := h.trans h2.symm
theorem t_200 {g : CG} {σ : SG} (hg : okCg g) (h : abC g = σ) : (tS σ.1).length ≤ 200 := by
  subst h
  obtain ⟨⟨z, r, f, j, nt, nl, gl, gt⟩, ⟨LL, dp⟩, ⟨so0, so1⟩, ⟨fb, ln⟩, ⟨rs, sa, ck, fi, bn, fe, en⟩, ⟨fp, pn⟩, ⟨fw, wn⟩, ⟨fx, xn⟩, ⟨fg, gn⟩⟩ := g
  obtain ⟨hpn, hwn, hxn, hgn, hbn, hen, hln, hnt, hnl, h6, hdp, hok, hs0, hs1⟩ := hg
  show (lst gt nt).length ≤ 200
  rw [lst_len]; exact hnt
theorem l_20 {g : CG} {σ : SG} (hg : okCg g) (h : abC g = σ) : (lS σ.1).length ≤ 20 := by
  subst h
  obtain ⟨⟨z, r, f, j, nt, nl, gl, gt⟩, ⟨LL, dp⟩, ⟨so0, so1⟩, ⟨fb, ln⟩, ⟨rs, sa, ck, fi, bn, fe, en⟩, ⟨fp, pn⟩, ⟨fw, wn⟩, ⟨fx, xn⟩, ⟨fg, gn⟩⟩ := g
  obtain ⟨hpn, hwn, hxn, hgn, hbn, hen, hln, hnt, hnl, h6, hdp, hok, hs0, hs1⟩ := hg
  show (lst gl nl).length ≤ 20
  rw [lst_len]; exact hnl
def lowN (v : Int32) (n : Nat) : Nat := (v &&& 2147483647).toNatClampNeg % n
theorem low_and (v : Int32) : ∃ k, k < 2147483648 ∧ v &&& 2147483647 = nI k := by
  refine ⟨(v &&& 2147483647).toBitVec.toNat, ?_, ?_⟩
  · rw [Int32.toBitVec_and, BitVec.toNat_and]
    exact Nat.lt_of_le_of_lt Nat.and_le_right (by decide)
  · apply Int32.toBitVec_inj.mp
    show (v &&& 2147483647).toBitVec = BitVec.ofNat 32 (v &&& 2147483647).toBitVec.toNat
    simp
theorem low_lt (v : Int32) {n : Nat} (h : 0 < n) : lowN v n < n := Nat.mod_lt _ h
abbrev rm_kL_low : Room := { frames := 1, cells := 0, slots := 0, locals := 60 }
set_option maxHeartbeats 4000000 in
set_option maxRecDepth 100000 in
theorem kL_low (l : Launch) (v : Int32) (n : Nat) (hn : 0 < n ∧ n < 2147483648) : Met l yL_low wsL_low rm_kL_low (pcN [.int v, .int (nI n)]) (vp_Si (fun zr : Int32 => zr = nI (lowN v n))) 0 0 (fun _ => False) := by
  refine Met.ofW (cc := cL_low) (maxL := 2) (ret := (some .int)) (by decide) rfl ?_
  intro p e s m args below meth c s₁ B hml hv
  obtain ⟨rfl, -⟩ := hv
  have hx := B.exec
  have hb := B.bytes
  have hr := B.returns
  have hts := atoms_spec (ws := wsL_low) B.pre
  have hown : s.vm.findClass RL = some m.cls := findClass_of_methodNamed B.named
  have hlocks := B.notSynchronized
  have lc7 : (Cond.constant RL 7 (2147483647)).before _ s = true := hts _ (by decide +kernel)
  have hl := lv_entry ([.int v, .int (nI n)]) (n := 2) (kk_le rfl)
  rw [lg_entry_eq]
  generalize (lg_sl ([.int v, .int (nI n)]) ++ List.replicate (2 - (lg_sl ([.int v, .int (nI n)])).length) Slot.unset).toArray = ls at hl ⊢
  have hl : lv_has ls 2 [(0, .int v), (1, .int (nI n))] := hl
  refine lv_iload_n hx hb dL_low_0 rfl (lv_at hl 0 rfl) ?_
  refine lv_ldc (v := 2147483647) hx hb hown lc7 dL_low_1 ?_
  refine lv_iand hx hb dL_low_3 ?_
  refine lv_iload_n hx hb dL_low_4 rfl (lv_at hl 1 rfl) ?_
  obtain ⟨k9, hk9, e9⟩ := low_and v
  have ez : lowN v n = k9 % n := by unfold lowN; rw [e9, nI_clamp hk9]
  rw [e9, ez]
  refine ni_irem hn.1 hk9 hn.2 hx hb dL_low_5 ?_
  exact W.iret (v := nI (k9 % n)) hx hb hr (fun t ht _ => ⟨_, rfl, rfl, ht⟩) (fun _ h => nomatch h) dL_low_6
abbrev pcX (b L : Nat) (xs : Nat → Int32) (q : Nat) : Array Value → State → Prop := va_Pc [.ref b, .int (nI q)] (fun U => va_X b L xs U U.heap ∧ b < U.heap.size)
theorem psX {s : State} {H : Heap} {b L q : Nat} {xs : Nat → Int32} {A : Nat → Prop} {locs : List Loc} (hX : va_X b L xs s s.heap) (hbl : b < s.heap.size) (hbA : ¬ A b) (hS : va_S A s.heap H locs) : PreS s H (pcX b L xs q) [.ref b, .int (nI q)] :=
  ⟨fun a U g mk h => ⟨h.1, va_X.moved (u := U) (U := U.calling g mk a) (Vm.Alike.refl U.vm) h.2.1, h.2.2⟩, fun U hU hW => ⟨rfl, by show va_X b L xs U U.heap; rw [hU]; exact (hX.kept (hS.2.1 b hbl hbA)).moved hW.alike, by rw [hU]; exact Nat.lt_of_lt_of_le hbl hS.1⟩⟩
abbrev rm_kL_cell : Room := { frames := 1, cells := 0, slots := 0, locals := 60 }
set_option maxHeartbeats 4000000 in
set_option maxRecDepth 100000 in
theorem kL_cell (l : Launch) (b L : Nat) (xs : Nat → Int32) (q : Nat) (hq : q < 1000) (hL : L ≤ 260) : Met l yL_cell wsL_cell rm_kL_cell (pcX b L xs q) (vp_Si (fun zr : Int32 => True)) 0 0 (fun _ => False) := by
  refine Met.ofW (cc := cL_cell) (maxL := 2) (ret := (some .int)) (by decide) rfl ?_
  intro p e s m args below meth c s₁ B hml hv
  obtain ⟨rfl, hX, hbl⟩ := hv
  have hx := B.exec
  have hb := B.bytes
  have hr := B.returns
  have hts := atoms_spec (ws := wsL_cell) B.pre
  have hown : s.vm.findClass RL = some m.cls := findClass_of_methodNamed B.named
  have hlocks := B.notSynchronized
  have hS : va_S (fun _ => False) s.heap s.heap [] := va_S.rf
  have hl := lv_entry ([.ref b, .int (nI q)]) (n := 2) (kk_le rfl)
  rw [lg_entry_eq]
  generalize (lg_sl ([.ref b, .int (nI q)]) ++ List.replicate (2 - (lg_sl ([.ref b, .int (nI q)])).length) Slot.unset).toArray = ls at hl ⊢
  have hl : lv_has ls 2 [(0, .ref b), (1, .int (nI q))] := hl
  refine lv_iload_n hx hb dL_cell_0 rfl (lv_at hl 1 rfl) ?_
  refine lv_aload_n hx hb dL_cell_1 rfl (lv_at hl 0 rfl) ?_
  refine va_slen hx hb hX hbl (fun h => h) hS dL_cell_2 ?_
  rw [show Int32.ofNat L = nI L from rfl]
  refine ni_icmp_ge (tgt := 12) (by omega) (by omega) hx hb dL_cell_3 (by decide) (fun c1 => ?_) (fun c1 => ?_)
  · refine lv_sipush (v := nI 7919) hx hb dL_cell_12 (by decide) ?_
    refine lv_iload_n hx hb dL_cell_15 rfl (lv_at hl 1 rfl) ?_
    refine lv_iconst (v := nI 3) hx hb dL_cell_16 (by decide) ?_
    refine ni_iadd hx hb dL_cell_17 ?_
    refine ni_imul hx hb dL_cell_18 ?_
    refine lv_iload_n hx hb dL_cell_19 rfl (lv_at hl 1 rfl) ?_
    refine lv_bipush (v := nI 11) hx hb dL_cell_20 (by decide) ?_
    refine ni_iadd hx hb dL_cell_22 ?_
    refine ni_imul hx hb dL_cell_23 ?_
    exact W.iret (v := nI ((7919 * (q + 3)) * (q + 11))) hx hb hr (fun t ht _ => ⟨_, rfl, trivial, ht⟩) (fun _ h => nomatch h) dL_cell_24
  · refine lv_aload_n hx hb dL_cell_6 rfl (lv_at hl 0 rfl) ?_
    refine lv_iload_n hx hb dL_cell_7 rfl (lv_at hl 1 rfl) ?_
    refine va_sld hx hb hX hbl (fun h => h) hS (vp_in_nI (by omega) (by omega)) dL_cell_8 ?_
    refine lv_goto (tgt := 24) hx hb dL_cell_9 (by decide) ?_
    exact W.iret (v := xs (nI q).toNatClampNeg) hx hb hr (fun t ht _ => ⟨_, rfl, trivial, ht⟩) (fun _ h => nomatch h) dL_cell_24
abbrev RMT : Room := { frames := 9, cells := 8, slots := 240, locals := 290 }
abbrev RMT0 : Room := { frames := 9, cells := 0, slots := 0, locals := 290 }
set_option maxHeartbeats 4000000 in
set_option maxRecDepth 100000 in
theorem kL_told (l : Launch) (D : va_G) (ca : Nat → ClassId) (sz : Nat) (Ad : CA) (g : CG) (σ : SG) (hg : okCg g) (ha : abC g = σ) (hzz : σ.1.1 ≤ 30) : Met l yL_told wsL_told RMT0 (pcZ D ca [.ref Ad.1] (cW ca Ad g) sz) (va_Ql (fun (zr : Int64) (g2 : CG) => (zr = toldF σ.1 ∧ abC g2 = σ) ∧ okCg g2) (qB D (va_A (cW ca Ad g) sz) (cW ca Ad)) (va_A (cW ca Ad g) sz)) 0 0 (va_A (cW ca Ad g) sz) := by
  refine Met.ofW (cc := cL_told) (maxL := 4) (ret := (some .long)) (by decide) rfl ?_
  intro p e s m args below meth c s₁ B hml hv
  obtain ⟨rfl, hsz, hP, hK, hD0, hZ⟩ := hv
  have hx := B.exec
  have hb := B.bytes
  have hr := B.returns
  have hts := atoms_spec (ws := wsL_told) B.pre
  have hown : s.vm.findClass RL = some m.cls := findClass_of_methodNamed B.named
  have hlocks := B.notSynchronized
  subst hsz
  have hD := hD0.self (sz := s.heap.size)
  generalize hAe : va_A (cW ca Ad g) s.heap.size = A at hD hZ ⊢
  have hA : ∀ q : Nat, s.heap.size ≤ q → A q := fun q h => by rw [← hAe]; exact Or.inr h
  have hS : va_S A s.heap s.heap [] := va_S.rf
  have hl := lv_entry ([.ref Ad.1]) (n := 4) (kk_le rfl)
  rw [lg_entry_eq]
  generalize (lg_sl ([.ref Ad.1]) ++ List.replicate (4 - (lg_sl ([.ref Ad.1])).length) Slot.unset).toArray = ls at hl ⊢
  have hl : lv_has ls 4 [(0, .ref Ad.1)] := hl
  generalize hQz : MQ below _ _ _ _ _ _ = Qz
  have hT2 : (tS σ.1).length ≤ 200 := t_200 hg ha
  have hL2 : (lS σ.1).length ≤ 20 := l_20 hg ha
  have lc8 : (Cond.constantLong RL 8 (3)).before _ s = true := hts _ (by decide +kernel)
  have lc10 : (Cond.constantLong RL 10 (31)).before _ s = true := hts _ (by decide +kernel)
  have lp119 : ∀ (n i : Nat) (h : Int64), 5 - i < n → i ≤ 5 → h = hashG (rdV σ.1 false) (rdV σ.1 true) i (tl4 σ.1) → ∀ (g : CG) (H : Heap) (locs : List Loc), okCg g → abC g = σ → va_P D vwCl (cW ca Ad g) H → va_D A (cW ca Ad g) → va_S A s.heap H locs → ∀ (ls : Array Slot), lv_has ls 4 [(3, .int (nI i)), (1, .long h), (0, .ref Ad.1)] → W p l e RMT0 s m ([.ref Ad.1] : List Value).toArray below meth c H locs 0 0 Qz (F0 m 119 ls []) := by
    intro n
    induction n with
    | zero => intro i h hn; exact absurd hn (Nat.not_lt_zero _)
    | succ n ih =>
      intro i h hn hi hh g H locs hg ha hP hD hS ls hl
      refine lv_iload_n hx hb dL_told_119 rfl (lv_at hl 0 rfl) ?_
      refine lv_iconst (v := nI 5) hx hb dL_told_120 (by decide) ?_
      refine ni_icmp_ge (tgt := 156) (by omega) (by omega) hx hb dL_told_121 (by decide) (fun c1 => ?_) (fun c1 => ?_)
      · have ei : i = 5 := by omega
        rw [ei] at hh
        have hh : h = toldF σ.1 := hh
        subst hQz
        refine lv_lload_n hx hb dL_told_156 rfl (lv_at hl 1 rfl) ?_
        exact W.lret (v := h) hx hb hr (fun t ht hW => ⟨⟨_, g, rfl, ⟨⟨hh, ha⟩, hg⟩, by rw [ht]; exact hP, hD⟩, hS.F ht⟩) hS.2.2 dL_told_157
      · refine lv_ldc2 (v := 31) hx hb hown lc10 dL_told_124 ?_
        refine lv_ldc2 (v := 31) hx hb hown lc10 dL_told_127 ?_
        refine lv_lload_n hx hb dL_told_130 rfl (lv_at hl 1 rfl) ?_
        refine lv_lmul hx hb dL_told_131 ?_
        refine lv_aload_n hx hb dL_told_132 rfl (lv_at hl 2 rfl) ?_
        refine lv_iconst (v := bI false) hx hb dL_told_133 (by decide) ?_
        refine lv_iload_n hx hb dL_told_134 rfl (lv_at hl 0 rfl) ?_
        have hFc := my_free0 hD hS hA
        have hE : R_reads σ false (nI i) = (nI 0, rdV σ.1 false i, σ) := e_reads σ false (by omega)
        refine va_calli (va_runV (As := [.int (bI false), .int (nI i)]) (rest := [.long (31 * h), .long 31]) ⟨hx, hb, hml, hown, hts⟩ (cE_reads l D ca H.size Ad g false (nI i) hg (zz_of ha hzz) (no_of (F := (fun s9 => R_reads s9 false (nI i))) ha hE)) (cwV 2 hts gL_told_X5_reads rfl rfl rfl (by decide +kernel) ⟨kk_le rfl, kk_le rfl⟩) (pvZ hK hP (my_D_true hD) (hZ.at hS hFc) (cW_rc hK hP)) rfl rfl hl.1 rfl (lv_room (kk_le rfl)) dL_told_135 ⟨kk_le rfl, kk_le rfl⟩) hS (fun q _ h => hFc q h) hFc (fun z2 g2 t H2 locs2 ht hvm hw2 hB2 hs2 hk2 hS => ?_)
        obtain ⟨hP, hD2⟩ := hB2
        rw [ht] at hP
        have hD := my_up hD2 hFc
        obtain ⟨hw2, hg⟩ := hw2
        obtain ⟨hz2, ha⟩ := rt_get (F := (fun s9 => R_reads s9 false (nI i))) ha hE hw2
        subst hz2
        refine lv_i2l hx hb dL_told_138 rfl ?_
        refine lv_ladd hx hb dL_told_139 ?_
        refine lv_lmul hx hb dL_told_140 ?_
        refine lv_aload_n hx hb dL_told_141 rfl (lv_at hl 2 rfl) ?_
        refine lv_iconst (v := bI true) hx hb dL_told_142 (by decide) ?_
        refine lv_iload_n hx hb dL_told_143 rfl (lv_at hl 0 rfl) ?_
        have hFc := my_free0 hD hS hA
        have hE : R_reads σ true (nI i) = (nI 0, rdV σ.1 true i, σ) := e_reads σ true (by omega)
        refine va_calli (va_runV (As := [.int (bI true), .int (nI i)]) (rest := [.long (31 * ((31 * h) + ((rdV σ.1 false i).toInt64)))]) ⟨hx, hb, hml, hown, hts⟩ (cE_reads l D ca H2.size Ad g2 true (nI i) hg (zz_of ha hzz) (no_of (F := (fun s9 => R_reads s9 true (nI i))) ha hE)) (cwV 2 hts gL_told_X5_reads rfl rfl rfl (by decide +kernel) ⟨kk_le rfl, kk_le rfl⟩) (pvZ hK hP (my_D_true hD) (hZ.at hS hFc) (cW_rc hK hP)) rfl rfl hl.1 rfl (lv_room (kk_le rfl)) dL_told_144 ⟨kk_le rfl, kk_le rfl⟩) hS (fun q _ h => hFc q h) hFc (fun z3 g3 t H3 locs3 ht hvm hw3 hB3 hs3 hk3 hS => ?_)
        obtain ⟨hP, hD3⟩ := hB3
        rw [ht] at hP
        have hD := my_up hD3 hFc
        obtain ⟨hw3, hg⟩ := hw3
        obtain ⟨hz3, ha⟩ := rt_get (F := (fun s9 => R_reads s9 true (nI i))) ha hE hw3
        subst hz3
        refine lv_i2l hx hb dL_told_147 rfl ?_
        refine lv_ladd hx hb dL_told_148 ?_
        refine lv_lstore_n (lv' := [(1, .long ((31 * ((31 * h) + ((rdV σ.1 false i).toInt64))) + ((rdV σ.1 true i).toInt64))), (3, .int (nI i)), (0, .ref Ad.1)]) hx hb dL_told_149 rfl hl (by decide) rfl (fun ls hl => ?_)
        refine lv_iinc (v := nI (i + 1)) (lv' := [(3, .int (nI (i + 1))), (1, .long ((31 * ((31 * h) + ((rdV σ.1 false i).toInt64))) + ((rdV σ.1 true i).toInt64))), (0, .ref Ad.1)]) hx hb dL_told_150 hl (k := 1) rfl (ni_inc _ _ (by decide)) (by decide) rfl (fun ls hl => ?_)
        refine lv_goto (tgt := 119) hx hb dL_told_153 (by decide) ?_
        exact ih (i + 1) ((31 * ((31 * h) + ((rdV σ.1 false i).toInt64))) + ((rdV σ.1 true i).toInt64)) (by omega) (by omega) (by rw [hh, hG1]) _ _ _ hg ha hP hD hS ls (lv_sub hl [0, 1, 2] rfl)
  have lp89 : ∀ (n i : Nat) (h : Int64), (lS σ.1).length - i < n → i ≤ (lS σ.1).length → h = hashF (fun k => (lS σ.1).getD k (-1)) i (tl3 σ.1) → ∀ (g : CG) (H : Heap) (locs : List Loc), okCg g → abC g = σ → va_P D vwCl (cW ca Ad g) H → va_D A (cW ca Ad g) → va_S A s.heap H locs → ∀ (ls : Array Slot), lv_has ls 4 [(3, .int (nI i)), (1, .long h), (0, .ref Ad.1)] → W p l e RMT0 s m ([.ref Ad.1] : List Value).toArray below meth c H locs 0 0 Qz (F0 m 89 ls []) := by
    intro n
    induction n with
    | zero => intro i h hn; exact absurd hn (Nat.not_lt_zero _)
    | succ n ih =>
      intro i h hn hi hh g H locs hg ha hP hD hS ls hl
      refine lv_iload_n hx hb dL_told_89 rfl (lv_at hl 0 rfl) ?_
      refine lv_aload_n hx hb dL_told_90 rfl (lv_at hl 2 rfl) ?_
      refine lv_iconst (v := nI 4) hx hb dL_told_91 (by decide) ?_
      have hFc := my_free0 hD hS hA
      have hE : R_count σ (nI 4) = (nI 0, nI ((lS σ.1).length), σ) := (e_count σ (by omega)).trans rfl
      refine va_calli (va_runV (As := [.int (nI 4)]) (rest := [.int (nI i)]) ⟨hx, hb, hml, hown, hts⟩ (cE_count l D ca H.size Ad g (nI 4) hg (zz_of ha hzz) (no_of (F := (fun s9 => R_count s9 (nI 4))) ha hE)) (cwV 1 hts gL_told_X5_count rfl rfl rfl (by decide +kernel) ⟨kk_le rfl, kk_le rfl⟩) (pvZ hK hP (my_D_true hD) (hZ.at hS hFc) (cW_rc hK hP)) rfl rfl hl.1 rfl (lv_room (kk_le rfl)) dL_told_92 ⟨kk_le rfl, kk_le rfl⟩) hS (fun q _ h => hFc q h) hFc (fun z4 g4 t H4 locs4 ht hvm hw4 hB4 hs4 hk4 hS => ?_)
      obtain ⟨hP, hD4⟩ := hB4
      rw [ht] at hP
      have hD := my_up hD4 hFc
      obtain ⟨hw4, hg⟩ := hw4
      obtain ⟨hz4, ha⟩ := rt_get (F := (fun s9 => R_count s9 (nI 4))) ha hE hw4
      subst hz4
      refine ni_icmp_ge (tgt := 117) (by omega) (by omega) hx hb dL_told_95 (by decide) (fun c5 => ?_) (fun c5 => ?_)
      · have ei : i = (lS σ.1).length := by omega
        rw [ei] at hh
        have hh : h = tl4 σ.1 := hh
        refine lv_iconst (v := nI 0) hx hb dL_told_117 (by decide) ?_
        refine lv_istore_n (lv' := [(3, .int (nI 0)), (1, .long h), (0, .ref Ad.1)]) hx hb dL_told_118 rfl hl (by decide) rfl (fun ls hl => ?_)
        exact lp119 _ 0 h (Nat.lt_succ_self _) (Nat.zero_le _) (hz0 hh (hG0 _ _ _)) _ _ _ hg ha hP hD hS ls (lv_sub hl [0, 1, 2] rfl)
      · refine lv_ldc2 (v := 31) hx hb hown lc10 dL_told_98 ?_
        refine lv_lload_n hx hb dL_told_101 rfl (lv_at hl 1 rfl) ?_
        refine lv_lmul hx hb dL_told_102 ?_
        refine lv_aload_n hx hb dL_told_103 rfl (lv_at hl 2 rfl) ?_
        refine lv_iload_n hx hb dL_told_104 rfl (lv_at hl 0 rfl) ?_
        have hFc := my_free0 hD hS hA
        have hE : R_written σ (nI i) = (nI 0, (lS σ.1).getD i (-1), σ) := e_written σ (by omega)
        refine va_calli (va_runV (As := [.int (nI i)]) (rest := [.long (31 * h)]) ⟨hx, hb, hml, hown, hts⟩ (cE_written l D ca H4.size Ad g4 (nI i) hg (zz_of ha hzz) (no_of (F := (fun s9 => R_written s9 (nI i))) ha hE)) (cwV 1 hts gL_told_X5_written rfl rfl rfl (by decide +kernel) ⟨kk_le rfl, kk_le rfl⟩) (pvZ hK hP (my_D_true hD) (hZ.at hS hFc) (cW_rc hK hP)) rfl rfl hl.1 rfl (lv_room (kk_le rfl)) dL_told_105 ⟨kk_le rfl, kk_le rfl⟩) hS (fun q _ h => hFc q h) hFc (fun z6 g6 t H6 locs6 ht hvm hw6 hB6 hs6 hk6 hS => ?_)
        obtain ⟨hP, hD6⟩ := hB6
        rw [ht] at hP
        have hD := my_up hD6 hFc
        obtain ⟨hw6, hg⟩ := hw6
        obtain ⟨hz6, ha⟩ := rt_get (F := (fun s9 => R_written s9 (nI i))) ha hE hw6
        subst hz6
        refine lv_i2l hx hb dL_told_108 rfl ?_
        refine lv_ladd hx hb dL_told_109 ?_
        refine lv_lstore_n (lv' := [(1, .long ((31 * h) + (((lS σ.1).getD i (-1)).toInt64))), (3, .int (nI i)), (0, .ref Ad.1)]) hx hb dL_told_110 rfl hl (by decide) rfl (fun ls hl => ?_)
        refine lv_iinc (v := nI (i + 1)) (lv' := [(3, .int (nI (i + 1))), (1, .long ((31 * h) + (((lS σ.1).getD i (-1)).toInt64))), (0, .ref Ad.1)]) hx hb dL_told_111 hl (k := 1) rfl (ni_inc _ _ (by decide)) (by decide) rfl (fun ls hl => ?_)
        refine lv_goto (tgt := 89) hx hb dL_told_114 (by decide) ?_
        exact ih (i + 1) ((31 * h) + (((lS σ.1).getD i (-1)).toInt64)) (by omega) (by omega) (by rw [hh, hF1]) _ _ _ hg ha hP hD hS ls (lv_sub hl [0, 1, 2] rfl)
  have lp59 : ∀ (n i : Nat) (h : Int64), (tS σ.1).length - i < n → i ≤ (tS σ.1).length → h = hashF (fun k => (tS σ.1).getD k (-1)) i (tl2 σ.1) → ∀ (g : CG) (H : Heap) (locs : List Loc), okCg g → abC g = σ → va_P D vwCl (cW ca Ad g) H → va_D A (cW ca Ad g) → va_S A s.heap H locs → ∀ (ls : Array Slot), lv_has ls 4 [(3, .int (nI i)), (1, .long h), (0, .ref Ad.1)] → W p l e RMT0 s m ([.ref Ad.1] : List Value).toArray below meth c H locs 0 0 Qz (F0 m 59 ls []) := by
    intro n
    induction n with
    | zero => intro i h hn; exact absurd hn (Nat.not_lt_zero _)
    | succ n ih =>
      intro i h hn hi hh g H locs hg ha hP hD hS ls hl
      refine lv_iload_n hx hb dL_told_59 rfl (lv_at hl 0 rfl) ?_
      refine lv_aload_n hx hb dL_told_60 rfl (lv_at hl 2 rfl) ?_
      refine lv_iconst (v := nI 0) hx hb dL_told_61 (by decide) ?_
      have hFc := my_free0 hD hS hA
      have hE : R_count σ (nI 0) = (nI 0, nI ((tS σ.1).length), σ) := (e_count σ (by omega)).trans rfl
      refine va_calli (va_runV (As := [.int (nI 0)]) (rest := [.int (nI i)]) ⟨hx, hb, hml, hown, hts⟩ (cE_count l D ca H.size Ad g (nI 0) hg (zz_of ha hzz) (no_of (F := (fun s9 => R_count s9 (nI 0))) ha hE)) (cwV 1 hts gL_told_X5_count rfl rfl rfl (by decide +kernel) ⟨kk_le rfl, kk_le rfl⟩) (pvZ hK hP (my_D_true hD) (hZ.at hS hFc) (cW_rc hK hP)) rfl rfl hl.1 rfl (lv_room (kk_le rfl)) dL_told_62 ⟨kk_le rfl, kk_le rfl⟩) hS (fun q _ h => hFc q h) hFc (fun z7 g7 t H7 locs7 ht hvm hw7 hB7 hs7 hk7 hS => ?_)
      obtain ⟨hP, hD7⟩ := hB7
      rw [ht] at hP
      have hD := my_up hD7 hFc
      obtain ⟨hw7, hg⟩ := hw7
      obtain ⟨hz7, ha⟩ := rt_get (F := (fun s9 => R_count s9 (nI 0))) ha hE hw7
      subst hz7
      refine ni_icmp_ge (tgt := 87) (by omega) (by omega) hx hb dL_told_65 (by decide) (fun c8 => ?_) (fun c8 => ?_)
      · have ei : i = (tS σ.1).length := by omega
        rw [ei] at hh
        have hh : h = tl3 σ.1 := hh
        refine lv_iconst (v := nI 0) hx hb dL_told_87 (by decide) ?_
        refine lv_istore_n (lv' := [(3, .int (nI 0)), (1, .long h), (0, .ref Ad.1)]) hx hb dL_told_88 rfl hl (by decide) rfl (fun ls hl => ?_)
        exact lp89 _ 0 h (Nat.lt_succ_self _) (Nat.zero_le _) (hz0 hh (hF0 _ _)) _ _ _ hg ha hP hD hS ls (lv_sub hl [0, 1, 2] rfl)
      · refine lv_ldc2 (v := 31) hx hb hown lc10 dL_told_68 ?_
        refine lv_lload_n hx hb dL_told_71 rfl (lv_at hl 1 rfl) ?_
        refine lv_lmul hx hb dL_told_72 ?_
        refine lv_aload_n hx hb dL_told_73 rfl (lv_at hl 2 rfl) ?_
        refine lv_iload_n hx hb dL_told_74 rfl (lv_at hl 0 rfl) ?_
        have hFc := my_free0 hD hS hA
        have hE : R_time σ (nI i) = (nI 0, (tS σ.1).getD i (-1), σ) := e_time σ (by omega)
        refine va_calli (va_runV (As := [.int (nI i)]) (rest := [.long (31 * h)]) ⟨hx, hb, hml, hown, hts⟩ (cE_time l D ca H7.size Ad g7 (nI i) hg (zz_of ha hzz) (no_of (F := (fun s9 => R_time s9 (nI i))) ha hE)) (cwV 1 hts gL_told_X5_time rfl rfl rfl (by decide +kernel) ⟨kk_le rfl, kk_le rfl⟩) (pvZ hK hP (my_D_true hD) (hZ.at hS hFc) (cW_rc hK hP)) rfl rfl hl.1 rfl (lv_room (kk_le rfl)) dL_told_75 ⟨kk_le rfl, kk_le rfl⟩) hS (fun q _ h => hFc q h) hFc (fun z9 g9 t H9 locs9 ht hvm hw9 hB9 hs9 hk9 hS => ?_)
        obtain ⟨hP, hD9⟩ := hB9
        rw [ht] at hP
        have hD := my_up hD9 hFc
        obtain ⟨hw9, hg⟩ := hw9
        obtain ⟨hz9, ha⟩ := rt_get (F := (fun s9 => R_time s9 (nI i))) ha hE hw9
        subst hz9
        refine lv_i2l hx hb dL_told_78 rfl ?_
        refine lv_ladd hx hb dL_told_79 ?_
        refine lv_lstore_n (lv' := [(1, .long ((31 * h) + (((tS σ.1).getD i (-1)).toInt64))), (3, .int (nI i)), (0, .ref Ad.1)]) hx hb dL_told_80 rfl hl (by decide) rfl (fun ls hl => ?_)
        refine lv_iinc (v := nI (i + 1)) (lv' := [(3, .int (nI (i + 1))), (1, .long ((31 * h) + (((tS σ.1).getD i (-1)).toInt64))), (0, .ref Ad.1)]) hx hb dL_told_81 hl (k := 1) rfl (ni_inc _ _ (by decide)) (by decide) rfl (fun ls hl => ?_)
        refine lv_goto (tgt := 59) hx hb dL_told_84 (by decide) ?_
        exact ih (i + 1) ((31 * h) + (((tS σ.1).getD i (-1)).toInt64)) (by omega) (by omega) (by rw [hh, hF1]) _ _ _ hg ha hP hD hS ls (lv_sub hl [0, 1, 2] rfl)
  have lp33 : ∀ (n i : Nat) (h : Int64), 4 - i < n → i ≤ 4 → h = hashF (seS σ.1) i (tl1 σ.1) → ∀ (g : CG) (H : Heap) (locs : List Loc), okCg g → abC g = σ → va_P D vwCl (cW ca Ad g) H → va_D A (cW ca Ad g) → va_S A s.heap H locs → ∀ (ls : Array Slot), lv_has ls 4 [(3, .int (nI i)), (1, .long h), (0, .ref Ad.1)] → W p l e RMT0 s m ([.ref Ad.1] : List Value).toArray below meth c H locs 0 0 Qz (F0 m 33 ls []) := by
    intro n
    induction n with
    | zero => intro i h hn; exact absurd hn (Nat.not_lt_zero _)
    | succ n ih =>
      intro i h hn hi hh g H locs hg ha hP hD hS ls hl
      refine lv_iload_n hx hb dL_told_33 rfl (lv_at hl 0 rfl) ?_
      refine lv_iconst (v := nI 4) hx hb dL_told_34 (by decide) ?_
      refine ni_icmp_ge (tgt := 57) (by omega) (by omega) hx hb dL_told_35 (by decide) (fun c10 => ?_) (fun c10 => ?_)
      · have ei : i = 4 := by omega
        rw [ei] at hh
        have hh : h = tl2 σ.1 := hh
        refine lv_iconst (v := nI 0) hx hb dL_told_57 (by decide) ?_
        refine lv_istore_n (lv' := [(3, .int (nI 0)), (1, .long h), (0, .ref Ad.1)]) hx hb dL_told_58 rfl hl (by decide) rfl (fun ls hl => ?_)
        exact lp59 _ 0 h (Nat.lt_succ_self _) (Nat.zero_le _) (hz0 hh (hF0 _ _)) _ _ _ hg ha hP hD hS ls (lv_sub hl [0, 1, 2] rfl)
      · refine lv_ldc2 (v := 31) hx hb hown lc10 dL_told_38 ?_
        refine lv_lload_n hx hb dL_told_41 rfl (lv_at hl 1 rfl) ?_
        refine lv_lmul hx hb dL_told_42 ?_
        refine lv_aload_n hx hb dL_told_43 rfl (lv_at hl 2 rfl) ?_
        refine lv_iload_n hx hb dL_told_44 rfl (lv_at hl 0 rfl) ?_
        have hFc := my_free0 hD hS hA
        have hE : R_setting σ (nI i) = (nI 0, seS σ.1 i, σ) := e_setting σ (by omega)
        refine va_calli (va_runV (As := [.int (nI i)]) (rest := [.long (31 * h)]) ⟨hx, hb, hml, hown, hts⟩ (cE_setting l D ca H.size Ad g (nI i) hg (zz_of ha hzz) (no_of (F := (fun s9 => R_setting s9 (nI i))) ha hE)) (cwV 1 hts gL_told_X5_setting rfl rfl rfl (by decide +kernel) ⟨kk_le rfl, kk_le rfl⟩) (pvZ hK hP (my_D_true hD) (hZ.at hS hFc) (cW_rc hK hP)) rfl rfl hl.1 rfl (lv_room (kk_le rfl)) dL_told_45 ⟨kk_le rfl, kk_le rfl⟩) hS (fun q _ h => hFc q h) hFc (fun z11 g11 t H11 locs11 ht hvm hw11 hB11 hs11 hk11 hS => ?_)
        obtain ⟨hP, hD11⟩ := hB11
        rw [ht] at hP
        have hD := my_up hD11 hFc
        obtain ⟨hw11, hg⟩ := hw11
        obtain ⟨hz11, ha⟩ := rt_get (F := (fun s9 => R_setting s9 (nI i))) ha hE hw11
        subst hz11
        refine lv_i2l hx hb dL_told_48 rfl ?_
        refine lv_ladd hx hb dL_told_49 ?_
        refine lv_lstore_n (lv' := [(1, .long ((31 * h) + ((seS σ.1 i).toInt64))), (3, .int (nI i)), (0, .ref Ad.1)]) hx hb dL_told_50 rfl hl (by decide) rfl (fun ls hl => ?_)
        refine lv_iinc (v := nI (i + 1)) (lv' := [(3, .int (nI (i + 1))), (1, .long ((31 * h) + ((seS σ.1 i).toInt64))), (0, .ref Ad.1)]) hx hb dL_told_51 hl (k := 1) rfl (ni_inc _ _ (by decide)) (by decide) rfl (fun ls hl => ?_)
        refine lv_goto (tgt := 33) hx hb dL_told_54 (by decide) ?_
        exact ih (i + 1) ((31 * h) + ((seS σ.1 i).toInt64)) (by omega) (by omega) (by rw [hh, hF1]) _ _ _ hg ha hP hD hS ls (lv_sub hl [0, 1, 2] rfl)
  have lp6 : ∀ (n i : Nat) (h : Int64), 6 - i < n → i ≤ 6 → h = hashF (tvC σ.1) i 3 → ∀ (g : CG) (H : Heap) (locs : List Loc), okCg g → abC g = σ → va_P D vwCl (cW ca Ad g) H → va_D A (cW ca Ad g) → va_S A s.heap H locs → ∀ (ls : Array Slot), lv_has ls 4 [(3, .int (nI i)), (1, .long h), (0, .ref Ad.1)] → W p l e RMT0 s m ([.ref Ad.1] : List Value).toArray below meth c H locs 0 0 Qz (F0 m 6 ls []) := by
    intro n
    induction n with
    | zero => intro i h hn; exact absurd hn (Nat.not_lt_zero _)
    | succ n ih =>
      intro i h hn hi hh g H locs hg ha hP hD hS ls hl
      refine lv_iload_n hx hb dL_told_6 rfl (lv_at hl 0 rfl) ?_
      refine lv_bipush (v := nI 6) hx hb dL_told_7 (by decide) ?_
      refine ni_icmp_ge (tgt := 31) (by omega) (by omega) hx hb dL_told_9 (by decide) (fun c12 => ?_) (fun c12 => ?_)
      · have ei : i = 6 := by omega
        rw [ei] at hh
        have hh : h = tl1 σ.1 := hh
        refine lv_iconst (v := nI 0) hx hb dL_told_31 (by decide) ?_
        refine lv_istore_n (lv' := [(3, .int (nI 0)), (1, .long h), (0, .ref Ad.1)]) hx hb dL_told_32 rfl hl (by decide) rfl (fun ls hl => ?_)
        exact lp33 _ 0 h (Nat.lt_succ_self _) (Nat.zero_le _) (hz0 hh (hF0 _ _)) _ _ _ hg ha hP hD hS ls (lv_sub hl [0, 1, 2] rfl)
      · refine lv_ldc2 (v := 31) hx hb hown lc10 dL_told_12 ?_
        refine lv_lload_n hx hb dL_told_15 rfl (lv_at hl 1 rfl) ?_
        refine lv_lmul hx hb dL_told_16 ?_
        refine lv_aload_n hx hb dL_told_17 rfl (lv_at hl 2 rfl) ?_
        refine lv_iload_n hx hb dL_told_18 rfl (lv_at hl 0 rfl) ?_
        have hFc := my_free0 hD hS hA
        have hE : R_count σ (nI i) = (nI 0, tvC σ.1 i, σ) := (e_count σ (by omega)).trans (by rw [cnt_sv (by omega)]; rfl)
        refine va_calli (va_runV (As := [.int (nI i)]) (rest := [.long (31 * h)]) ⟨hx, hb, hml, hown, hts⟩ (cE_count l D ca H.size Ad g (nI i) hg (zz_of ha hzz) (no_of (F := (fun s9 => R_count s9 (nI i))) ha hE)) (cwV 1 hts gL_told_X5_count rfl rfl rfl (by decide +kernel) ⟨kk_le rfl, kk_le rfl⟩) (pvZ hK hP (my_D_true hD) (hZ.at hS hFc) (cW_rc hK hP)) rfl rfl hl.1 rfl (lv_room (kk_le rfl)) dL_told_19 ⟨kk_le rfl, kk_le rfl⟩) hS (fun q _ h => hFc q h) hFc (fun z13 g13 t H13 locs13 ht hvm hw13 hB13 hs13 hk13 hS => ?_)
        obtain ⟨hP, hD13⟩ := hB13
        rw [ht] at hP
        have hD := my_up hD13 hFc
        obtain ⟨hw13, hg⟩ := hw13
        obtain ⟨hz13, ha⟩ := rt_get (F := (fun s9 => R_count s9 (nI i))) ha hE hw13
        subst hz13
        refine lv_i2l hx hb dL_told_22 rfl ?_
        refine lv_ladd hx hb dL_told_23 ?_
        refine lv_lstore_n (lv' := [(1, .long ((31 * h) + ((tvC σ.1 i).toInt64))), (3, .int (nI i)), (0, .ref Ad.1)]) hx hb dL_told_24 rfl hl (by decide) rfl (fun ls hl => ?_)
        refine lv_iinc (v := nI (i + 1)) (lv' := [(3, .int (nI (i + 1))), (1, .long ((31 * h) + ((tvC σ.1 i).toInt64))), (0, .ref Ad.1)]) hx hb dL_told_25 hl (k := 1) rfl (ni_inc _ _ (by decide)) (by decide) rfl (fun ls hl => ?_)
        refine lv_goto (tgt := 6) hx hb dL_told_28 (by decide) ?_
        exact ih (i + 1) ((31 * h) + ((tvC σ.1 i).toInt64)) (by omega) (by omega) (by rw [hh, hF1]) _ _ _ hg ha hP hD hS ls (lv_sub hl [0, 1, 2] rfl)
  refine lv_ldc2 (v := 3) hx hb hown lc8 dL_told_0 ?_
  refine lv_lstore_n (lv' := [(1, .long 3), (0, .ref Ad.1)]) hx hb dL_told_3 rfl hl (by decide) rfl (fun ls hl => ?_)
  refine lv_iconst (v := nI 0) hx hb dL_told_4 (by decide) ?_
  refine lv_istore_n (lv' := [(3, .int (nI 0)), (1, .long 3), (0, .ref Ad.1)]) hx hb dL_told_5 rfl hl (by decide) rfl (fun ls hl => ?_)
  exact lp6 _ 0 3 (Nat.lt_succ_self _) (Nat.zero_le _) (hF0 _ _).symm _ _ _ hg ha hP hD hS ls (lv_sub hl [0, 1, 2] rfl)
