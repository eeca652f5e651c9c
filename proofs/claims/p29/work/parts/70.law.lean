theorem rm_c {n : Nat} (h : n ≤ 600172) : n ≤ room_1.cells := h
theorem rm_s {n : Nat} (h : n ≤ 7300668) : n ≤ room_1.slots := h
theorem sv_l {Hs : List S6} {s : S6} (h : Hs.length < 6) : svL Hs s = Hs ++ [s] := by
  unfold svL; rw [if_neg (by omega)]
theorem un_2 {Hs : List S6} (h : Hs.length = 6) : ∃ Y y2 y1, Hs = (Y ++ [y2]) ++ [y1] ∧ Y.length = 4 := by
  rcases List.eq_nil_or_concat Hs with e | ⟨X, y1, e⟩
  · rw [e] at h; exact absurd h (by decide)
  · rw [List.concat_eq_append] at e
    have hX : X.length = 5 := by rw [e, List.length_append] at h; have h2 : X.length + 1 = 6 := h; omega
    rcases List.eq_nil_or_concat X with e2 | ⟨Y, y2, e2⟩
    · rw [e2] at hX; exact absurd hX (by decide)
    · rw [List.concat_eq_append] at e2
      have hY : Y.length = 4 := by rw [e2, List.length_append] at hX; have h2 : Y.length + 1 = 5 := hX; omega
      exact ⟨Y, y2, y1, by rw [e, e2], hY⟩
theorem act_9 {B : Int} {s : S6} {v w : Int32} (h : okE B s) (hB2 : B ≤ 2000000) (h9 : (actS s v w).1 = -9) : (actS s v w).2 = s := by
  by_cases c0 : slN s v ≤ 2
  · rw [ac_w c0] at h9
    exact absurd h9 (ne9_n (by have := pl_le (j := s.2.2.2.1) (nb_le h.2.1 (dg_len w)); omega))
  have hn0 := sl_n c0
  have hpl := pl_lt (v := v) hn0
  have hTT := okE_T h
  by_cases c1 : slN s v = 3
  · by_cases d : (lS s).length = 0
    · rw [ac_s9 c1 d]
    · rw [ac_s c1 d] at h9
      exact absurd h9 (ne9_n (by have := pl_le (j := s.2.2.2.1) (nb_le h.2.1 h.2.2.2.2.1); omega))
  by_cases c2 : slN s v = 4 ∨ slN s v = 5
  · rw [ac_t c2] at h9
    exact absurd h9 (ne9_of (hTT.2.1 _ (List.mem_reverse.mp (hd_mem (by rw [List.length_reverse]; exact hn0)))))
  by_cases c3 : slN s v = 6
  · by_cases d : plN s v + 1 < (tS s).length
    · rw [ac_j c3 d] at h9
      exact absurd h9 (ne9_of ((ok_jo hTT.2 (by omega) d).1 _ (jo_mem d)))
    · rw [ac_j9 c3 d]
  by_cases c4 : slN s v = 7
  · by_cases d : (tS s).length < 200 ∧ nI 1 < (tS s).getD (plN s v) (-1)
    · rw [ac_c c4 d] at h9
      exact absurd h9 (ne9_n (by have := hTT.1; omega))
    · rw [ac_c9 c4 d]
  by_cases c5 : slN s v = 8 ∨ slN s v = 9
  · rw [ac_h c5] at h9
    exact absurd h9 (ne9_of (hTT.2.1 _ (gd_mem hpl)))
  · rw [ac_e (by omega)] at h9
    exact absurd h9 (se_ne9 h (low_lt w (by decide)))
set_option maxHeartbeats 8000000 in
set_option maxRecDepth 100000 in
theorem law_211 {p : Program} {e : Env} {s : State} {m : MethodId} {below : List Frame} {meth : Method} {c : Code} {l : Launch} {b L : Nat} {xs : Nat → Int32} (hL : L ≤ 260) (hx : p.tables.exec = Jvm.exec) (hb : c.code = code) (hml : c.maxLocals = 13) (hown : s.vm.findClass RL = some m.cls) (hts : ∀ w ∈ wsL_law, w.before #[Value.ref b] s = true) (hX : va_X b L xs s s.heap) (hbl : b < s.heap.size) {D : va_G} {ca : Nat → ClassId} (hK : KK D ca s) (hZ : ZZ (fun q : Nat => s.heap.size ≤ q) s s.heap) {Q : State → Prop} {Ad : CA} {k n : Nat} (hk : k ≤ 100000) (hn : n ≤ 1000000) {i : Nat} {v w x10 x7 : Int32} {x8 : Int64} {B : Int} {s1 s2 : S6} {Hs : List S6} {bb : IL} (hE : okE B s2) (hE1 : okE B s1)
    (hN : ∀ (g : CG) (s1 : S6) (H : Heap) (locs : List Loc) (ls : Array Slot), okCg g → abC g = (s2, Hs, some s1, (none : Option S6), bb) → okE B s1 → va_P D vwCl (cW ca Ad g) H → va_D (fun q : Nat => s.heap.size ≤ q) (cW ca Ad g) → va_S (fun q : Nat => s.heap.size ≤ q) s.heap H locs → lv_has ls 13 [(4, .int (nI i)), (2, .long (toldF s1)), (1, .ref Ad.1), (0, .ref b)] → W p l e room_1 s m #[Value.ref b] below meth c H locs (k + 16) (n + 480) Q (F0 m 306 ls []))
    {g : CG} (hg : okCg g) (ha : abC g = (s2, Hs, some s1, (none : Option S6), bb)) {H : Heap} {locs : List Loc} (hP : va_P D vwCl (cW ca Ad g) H) (hD : va_D (fun q : Nat => s.heap.size ≤ q) (cW ca Ad g)) (hS : va_S (fun q : Nat => s.heap.size ≤ q) s.heap H locs) {ls : Array Slot} (hl : lv_has ls 13 [(11, .long (toldF s2)), (10, .int x10), (8, .long x8), (7, .int x7), (6, .int w), (5, .int v), (4, .int (nI i)), (2, .long (toldF s1)), (1, .ref Ad.1), (0, .ref b)]) :
    W p l e room_1 s m #[Value.ref b] below meth c H locs (k) (n) Q (F0 m 211 ls []) := by
  have hA : ∀ q : Nat, s.heap.size ≤ q → (fun q : Nat => s.heap.size ≤ q) q := fun _ h => h
  have hzz : s2.1 ≤ 30 := okE_z hE
  refine lv_aload_n hx hb dL_law_211 rfl (lv_at hl 8 rfl) ?_
  have hFc := my_free0 hD hS hA
  refine va_calli (va_runS (As := [.ref Ad.1]) (rest := []) ⟨hx, hb, hml, hown, hts⟩ (kL_holds l D ca H.size Ad g (s2, Hs, some s1, (none : Option S6), bb) hg ha B hE) (va_cwS 1 hts gL_law_L_holds rfl rfl rfl (by decide +kernel) ⟨kk_le rfl, kk_le rfl⟩) (psZ hK hP (my_D_true hD) (hZ.at hS hFc)) rfl rfl hl.1 rfl (lv_room (kk_le rfl)) dL_law_212 ⟨rm_c (by omega), rm_s (by omega)⟩) hS (fun q _ h => hFc q h) hFc (fun z1 g1 t H1 locs1 ht hvm hw1 hB1 hs1 hk1 hS => ?_)
  obtain ⟨hP, hD1⟩ := hB1
  rw [ht] at hP
  have hD := my_up hD1 hFc
  obtain ⟨⟨hz1, ha⟩, hg⟩ := hw1
  subst hz1
  refine ni_if_ne (tgt := 220) (by omega) hx hb dL_law_215 (by decide) (fun c2 => ?_) (fun c2 => absurd c2 (by decide))
  refine lv_iload hx hb dL_law_220 (lv_at hl 5 rfl) ?_
  refine lv_bipush (v := nI 13) hx hb dL_law_222 (by decide) ?_
  refine lv_ishr hx hb dL_law_224 ?_
  refine lv_iconst (v := nI 3) hx hb dL_law_225 (by decide) ?_
  refine lv_iand hx hb dL_law_226 ?_
  refine lv_if_ne (tgt := 242) hx hb dL_law_227 (by decide) (fun c3 => ?_) (fun c3 => ?_)
  · refine lv_iload hx hb dL_law_242 (lv_at hl 5 rfl) ?_
    refine lv_bipush (v := nI 13) hx hb dL_law_244 (by decide) ?_
    refine lv_ishr hx hb dL_law_246 ?_
    refine lv_bipush (v := nI 15) hx hb dL_law_247 (by decide) ?_
    refine lv_iand hx hb dL_law_249 ?_
    refine lv_iconst (v := nI 5) hx hb dL_law_250 (by decide) ?_
    refine lv_icmp_ne (tgt := 306) hx hb dL_law_251 (by decide) (fun c4 => ?_) (fun c4 => ?_)
    · refine W.widen (k := k + 16) (n := n + 480) (by omega) (by omega) ?_
      exact hN _ s1 _ _ _ hg ha hE1 hP hD hS (lv_sub hl [6, 7, 8, 9] rfl)
    · have hH6 := hs_6 hg ha
      have hH6 : Hs.length ≤ 6 := hH6
      refine lv_aload_n hx hb dL_law_254 rfl (lv_at hl 8 rfl) ?_
      refine lv_bipush (v := nI 6) hx hb dL_law_255 (by decide) ?_
      have hFc := my_free0 hD hS hA
      have hQ9 : R_count (s2, Hs, some s1, (none : Option S6), bb) (nI 6) = (nI 0, nI Hs.length, (s2, Hs, some s1, (none : Option S6), bb)) := (e_count _ (by omega)).trans rfl
      refine va_calli (va_runV (As := [.int (nI 6)]) (rest := []) ⟨hx, hb, hml, hown, hts⟩ (cE_count l D ca H1.size Ad g1 (nI 6) hg (zz_of ha hzz) (no_of (F := (fun s9 => R_count s9 (nI 6))) ha hQ9)) (cwV 1 hts gL_law_X5_count rfl rfl rfl (by decide +kernel) ⟨kk_le rfl, kk_le rfl⟩) (pvZ hK hP (my_D_true hD) (hZ.at hS hFc) (cW_rc hK hP)) rfl rfl hl.1 rfl (lv_room (kk_le rfl)) dL_law_257 ⟨rm_c (by omega), rm_s (by omega)⟩) hS (fun q _ h => hFc q h) hFc (fun z5 g5 t H5 locs5 ht hvm hw5 hB5 hs5 hk5 hS => ?_)
      obtain ⟨hP, hD5⟩ := hB5
      rw [ht] at hP
      have hD := my_up hD5 hFc
      obtain ⟨hw5, hg⟩ := hw5
      obtain ⟨hz5, ha⟩ := rt_get (F := (fun s9 => R_count s9 (nI 6))) ha hQ9 hw5
      subst hz5
      refine lv_bipush (v := nI 6) hx hb dL_law_260 (by decide) ?_
      refine ni_icmp_ge (tgt := 306) (by omega) (by omega) hx hb dL_law_262 (by decide) (fun c6 => ?_) (fun c6 => ?_)
      · refine W.widen (k := k + 16) (n := n + 480) (by omega) (by omega) ?_
        exact hN _ s1 _ _ _ hg ha hE1 hP hD hS (lv_sub hl [6, 7, 8, 9] rfl)
      · have hsv : svL Hs s2 = Hs ++ [s2] := sv_l c6
        have hT1 := (okE_T hE1).1
        refine lv_aload_n hx hb dL_law_265 rfl (lv_at hl 8 rfl) ?_
        refine lv_iconst (v := nI 0) hx hb dL_law_266 (by decide) ?_
        have hFc := my_free0 hD hS hA
        have hQ9 : R_goBack (s2, Hs, some s1, (none : Option S6), bb) (nI 0) = (nI 0, nI ((tS s1).length), (s1, (Hs ++ [s2]), some s1, (none : Option S6), bb)) := (R_goBack_0s s2 s1 Hs (none : Option S6) bb).trans (by rw [hsv])
        refine va_calli (va_runV (As := [.int (nI 0)]) (rest := []) ⟨hx, hb, hml, hown, hts⟩ (cE_goBack l D ca H5.size Ad g5 (nI 0) hg (zz_of ha hzz) (no_of (F := (fun s9 => R_goBack s9 (nI 0))) ha hQ9)) (cwV 1 hts gL_law_X5_goBack rfl rfl rfl (by decide +kernel) ⟨kk_le rfl, kk_le rfl⟩) (pvZ hK hP (my_D_true hD) (hZ.at hS hFc) (cW_rc hK hP)) rfl rfl hl.1 rfl (lv_room (kk_le rfl)) dL_law_267 ⟨rm_c (by omega), rm_s (by omega)⟩) hS (fun q _ h => hFc q h) hFc (fun z7 g7 t H7 locs7 ht hvm hw7 hB7 hs7 hk7 hS => ?_)
        obtain ⟨hP, hD7⟩ := hB7
        rw [ht] at hP
        have hD := my_up hD7 hFc
        obtain ⟨hw7, hg⟩ := hw7
        obtain ⟨hz7, ha⟩ := rt_get (F := (fun s9 => R_goBack s9 (nI 0))) ha hQ9 hw7
        subst hz7
        have hzz : s1.1 ≤ 30 := okE_z hE1
        refine lv_aload_n hx hb dL_law_270 rfl (lv_at hl 8 rfl) ?_
        refine lv_iconst (v := nI 0) hx hb dL_law_271 (by decide) ?_
        have hFc := my_free0 hD hS hA
        have hQ9 : R_count (s1, (Hs ++ [s2]), some s1, (none : Option S6), bb) (nI 0) = (nI 0, nI ((tS s1).length), (s1, (Hs ++ [s2]), some s1, (none : Option S6), bb)) := (e_count _ (by omega)).trans rfl
        refine va_calli (va_runV (As := [.int (nI 0)]) (rest := [.int (nI ((tS s1).length))]) ⟨hx, hb, hml, hown, hts⟩ (cE_count l D ca H7.size Ad g7 (nI 0) hg (zz_of ha hzz) (no_of (F := (fun s9 => R_count s9 (nI 0))) ha hQ9)) (cwV 1 hts gL_law_X5_count rfl rfl rfl (by decide +kernel) ⟨kk_le rfl, kk_le rfl⟩) (pvZ hK hP (my_D_true hD) (hZ.at hS hFc) (cW_rc hK hP)) rfl rfl hl.1 rfl (lv_room (kk_le rfl)) dL_law_272 ⟨rm_c (by omega), rm_s (by omega)⟩) hS (fun q _ h => hFc q h) hFc (fun z8 g8 t H8 locs8 ht hvm hw8 hB8 hs8 hk8 hS => ?_)
        obtain ⟨hP, hD8⟩ := hB8
        rw [ht] at hP
        have hD := my_up hD8 hFc
        obtain ⟨hw8, hg⟩ := hw8
        obtain ⟨hz8, ha⟩ := rt_get (F := (fun s9 => R_count s9 (nI 0))) ha hQ9 hw8
        subst hz8
        refine ni_icmp_ne (tgt := 304) (by omega) (by omega) hx hb dL_law_275 (by decide) (fun c9 => absurd rfl c9) (fun c9 => ?_)
        refine lv_aload_n hx hb dL_law_278 rfl (lv_at hl 8 rfl) ?_
        have hFc := my_free0 hD hS hA
        refine va_calll (va_runS (As := [.ref Ad.1]) (rest := []) ⟨hx, hb, hml, hown, hts⟩ (kL_told l D ca H8.size Ad g8 (s1, (Hs ++ [s2]), some s1, (none : Option S6), bb) hg ha hzz) (va_cwS 1 hts gL_law_L_told rfl rfl rfl (by decide +kernel) ⟨kk_le rfl, kk_le rfl⟩) (psZ hK hP (my_D_true hD) (hZ.at hS hFc)) rfl rfl hl.1 rfl (lv_room (kk_le rfl)) dL_law_279 ⟨rm_c (by omega), rm_s (by omega)⟩) hS (fun q _ h => hFc q h) hFc (fun z10 g10 t H10 locs10 ht hvm hw10 hB10 hs10 hk10 hS => ?_)
        obtain ⟨hP, hD10⟩ := hB10
        rw [ht] at hP
        have hD := my_up hD10 hFc
        obtain ⟨⟨hz10, ha⟩, hg⟩ := hw10
        subst hz10
        refine lv_lload_n hx hb dL_law_282 rfl (lv_at hl 7 rfl) ?_
        refine W.lcmp hx hb dL_law_283 ?_
        refine lv_if_ne (tgt := 304) hx hb dL_law_284 (by decide) (fun c11 => absurd ((lg_cmp_eq _ _).mpr rfl) c11) (fun c11 => ?_)
        refine lv_aload_n hx hb dL_law_287 rfl (lv_at hl 8 rfl) ?_
        have hFc := my_free0 hD hS hA
        have hQ9 : R_undo (s1, (Hs ++ [s2]), some s1, (none : Option S6), bb) = (nI 0, nI Hs.length, (s2, Hs, some s1, (none : Option S6), bb)) := e_undo
        refine va_calli (va_runV (As := []) (rest := []) ⟨hx, hb, hml, hown, hts⟩ (cE_undo l D ca H10.size Ad g10 hg (zz_of ha hzz) (no_of (F := R_undo) ha hQ9)) (cwV 0 hts gL_law_X5_undo rfl rfl rfl (by decide +kernel) ⟨kk_le rfl, kk_le rfl⟩) (pvZ hK hP (my_D_true hD) (hZ.at hS hFc) (cW_rc hK hP)) rfl rfl hl.1 rfl (lv_room (kk_le rfl)) dL_law_288 ⟨rm_c (by omega), rm_s (by omega)⟩) hS (fun q _ h => hFc q h) hFc (fun z12 g12 t H12 locs12 ht hvm hw12 hB12 hs12 hk12 hS => ?_)
        obtain ⟨hP, hD12⟩ := hB12
        rw [ht] at hP
        have hD := my_up hD12 hFc
        obtain ⟨hw12, hg⟩ := hw12
        obtain ⟨hz12, ha⟩ := rt_get (F := R_undo) ha hQ9 hw12
        subst hz12
        have hzz : s2.1 ≤ 30 := okE_z hE
        refine ni_if_lt (tgt := 304) (by omega) hx hb dL_law_291 (by decide) (fun c13 => c13.elim) (fun c13 => ?_)
        refine lv_aload_n hx hb dL_law_294 rfl (lv_at hl 8 rfl) ?_
        have hFc := my_free0 hD hS hA
        refine va_calll (va_runS (As := [.ref Ad.1]) (rest := []) ⟨hx, hb, hml, hown, hts⟩ (kL_told l D ca H12.size Ad g12 (s2, Hs, some s1, (none : Option S6), bb) hg ha hzz) (va_cwS 1 hts gL_law_L_told rfl rfl rfl (by decide +kernel) ⟨kk_le rfl, kk_le rfl⟩) (psZ hK hP (my_D_true hD) (hZ.at hS hFc)) rfl rfl hl.1 rfl (lv_room (kk_le rfl)) dL_law_295 ⟨rm_c (by omega), rm_s (by omega)⟩) hS (fun q _ h => hFc q h) hFc (fun z14 g14 t H14 locs14 ht hvm hw14 hB14 hs14 hk14 hS => ?_)
        obtain ⟨hP, hD14⟩ := hB14
        rw [ht] at hP
        have hD := my_up hD14 hFc
        obtain ⟨⟨hz14, ha⟩, hg⟩ := hw14
        subst hz14
        refine lv_lload hx hb dL_law_298 (lv_at hl 0 rfl) ?_
        refine W.lcmp hx hb dL_law_300 ?_
        refine lv_if_eq (tgt := 306) hx hb dL_law_301 (by decide) (fun c15 => ?_) (fun c15 => absurd ((lg_cmp_eq _ _).mpr rfl) c15)
        refine W.widen (k := k + 16) (n := n + 480) (by omega) (by omega) ?_
        exact hN _ s1 _ _ _ hg ha hE1 hP hD hS (lv_sub hl [6, 7, 8, 9] rfl)
  · refine lv_aload_n hx hb dL_law_230 rfl (lv_at hl 8 rfl) ?_
    refine lv_iconst (v := nI 0) hx hb dL_law_231 (by decide) ?_
    have hFc := my_free0 hD hS hA
    have hQ9 : R_keep (s2, Hs, some s1, (none : Option S6), bb) (nI 0) = (nI 0, nI ((tS s2).length), (s2, Hs, some s2, (none : Option S6), bb)) := R_keep_0 s2 Hs (some s1) (none : Option S6) bb
    refine va_calli (va_runV (As := [.int (nI 0)]) (rest := []) ⟨hx, hb, hml, hown, hts⟩ (cE_keep l D ca H1.size Ad g1 (nI 0) hg (zz_of ha hzz) (no_of (F := (fun s9 => R_keep s9 (nI 0))) ha hQ9)) (cwV 1 hts gL_law_X5_keep rfl rfl rfl (by decide +kernel) ⟨kk_le rfl, kk_le rfl⟩) (pvZ hK hP (my_D_true hD) (hZ.at hS hFc) (cW_rc hK hP)) rfl rfl hl.1 rfl (lv_room (kk_le rfl)) dL_law_232 ⟨rm_c (by omega), rm_s (by omega)⟩) hS (fun q _ h => hFc q h) hFc (fun z16 g16 t H16 locs16 ht hvm hw16 hB16 hs16 hk16 hS => ?_)
    obtain ⟨hP, hD16⟩ := hB16
    rw [ht] at hP
    have hD := my_up hD16 hFc
    obtain ⟨hw16, hg⟩ := hw16
    obtain ⟨hz16, ha⟩ := rt_get (F := (fun s9 => R_keep s9 (nI 0))) ha hQ9 hw16
    subst hz16
    refine lv_pop hx hb dL_law_235 rfl ?_
    refine lv_lload hx hb dL_law_236 (lv_at hl 0 rfl) ?_
    refine lv_lstore_n (lv' := [(2, .long (toldF s2)), (11, .long (toldF s2)), (10, .int x10), (8, .long x8), (7, .int x7), (6, .int w), (5, .int v), (4, .int (nI i)), (1, .ref Ad.1), (0, .ref b)]) hx hb dL_law_238 rfl hl (by decide) rfl (fun ls hl => ?_)
    refine lv_goto (tgt := 306) hx hb dL_law_239 (by decide) ?_
    refine W.widen (k := k + 16) (n := n + 480) (by omega) (by omega) ?_
    exact hN _ s2 _ _ _ hg ha hE hP hD hS (lv_sub hl [7, 0, 8, 9] rfl)
set_option maxHeartbeats 8000000 in
set_option maxRecDepth 100000 in
theorem law_150 {p : Program} {e : Env} {s : State} {m : MethodId} {below : List Frame} {meth : Method} {c : Code} {l : Launch} {b L : Nat} {xs : Nat → Int32} (hL : L ≤ 260) (hx : p.tables.exec = Jvm.exec) (hb : c.code = code) (hml : c.maxLocals = 13) (hown : s.vm.findClass RL = some m.cls) (hts : ∀ w ∈ wsL_law, w.before #[Value.ref b] s = true) (hX : va_X b L xs s s.heap) (hbl : b < s.heap.size) {D : va_G} {ca : Nat → ClassId} (hK : KK D ca s) (hZ : ZZ (fun q : Nat => s.heap.size ≤ q) s s.heap) {Q : State → Prop} {Ad : CA} {k n : Nat} (hk : k ≤ 100000) (hn : n ≤ 1000000) {i : Nat} {v w : Int32} {B : Int} {s0 s1 : S6} {Hs : List S6} {bb : IL} (hE : okE B s0) (hE1 : okE B s1) (hB1 : 56000 ≤ B) (hB2 : B ≤ 2000000) (hH5 : Hs.length ≤ 5)
    (hN : ∀ (g : CG) (bb : IL) (H : Heap) (locs : List Loc) (ls : Array Slot), okCg g → abC g = ((actS s0 v w).2, (if (actS s0 v w).1 = -9 then Hs else svL Hs s0), some s1, (none : Option S6), bb) → va_P D vwCl (cW ca Ad g) H → va_D (fun q : Nat => s.heap.size ≤ q) (cW ca Ad g) → va_S (fun q : Nat => s.heap.size ≤ q) s.heap H locs → lv_has ls 13 [(11, .long (toldF ((actS s0 v w).2))), (10, .int ((actS s0 v w).1)), (8, .long (toldF s0)), (7, .int (nI Hs.length)), (6, .int w), (5, .int v), (4, .int (nI i)), (2, .long (toldF s1)), (1, .ref Ad.1), (0, .ref b)] → W p l e room_1 s m #[Value.ref b] below meth c H locs (k + 16) (n + 480) Q (F0 m 211 ls []))
    {g : CG} (hg : okCg g) (ha : abC g = ((actS s0 v w).2, (if (actS s0 v w).1 = -9 then Hs else svL Hs s0), some s1, (none : Option S6), bb)) {H : Heap} {locs : List Loc} (hP : va_P D vwCl (cW ca Ad g) H) (hD : va_D (fun q : Nat => s.heap.size ≤ q) (cW ca Ad g)) (hS : va_S (fun q : Nat => s.heap.size ≤ q) s.heap H locs) {ls : Array Slot} (hl : lv_has ls 13 [(11, .long (toldF ((actS s0 v w).2))), (10, .int ((actS s0 v w).1)), (8, .long (toldF s0)), (7, .int (nI Hs.length)), (6, .int w), (5, .int v), (4, .int (nI i)), (2, .long (toldF s1)), (1, .ref Ad.1), (0, .ref b)]) :
    W p l e room_1 s m #[Value.ref b] below meth c H locs (k) (n) Q (F0 m 150 ls []) := by
  have hA : ∀ q : Nat, s.heap.size ≤ q → (fun q : Nat => s.heap.size ≤ q) q := fun _ h => h
  have hzz : ((actS s0 v w).2).1 ≤ 30 := okE_z (act_ok v w hE hB1 hB2)
  refine lv_iload hx hb dL_law_150 (lv_at hl 1 rfl) ?_
  refine lv_bipush (v := (-9)) hx hb dL_law_152 (by decide) ?_
  refine lv_icmp_le (tgt := 211) hx hb dL_law_154 (by decide) (fun c1 => ?_) (fun c1 => ?_)
  · refine W.widen (k := k + 16) (n := n + 480) (by omega) (by omega) ?_
    exact hN _ _ _ _ _ hg ha hP hD hS (lv_sub hl [0, 1, 2, 3, 4, 5, 6, 7, 8, 9] rfl)
  · have hne : ¬ (actS s0 v w).1 = -9 := fun q9 => c1 (by rw [q9]; exact Int32.le_iff_toInt_le.mpr (Int.le_refl _))
    refine lv_iload hx hb dL_law_157 (lv_at hl 5 rfl) ?_
    refine lv_bipush (v := nI 12) hx hb dL_law_159 (by decide) ?_
    refine lv_ishr hx hb dL_law_161 ?_
    refine lv_iconst (v := nI 1) hx hb dL_law_162 (by decide) ?_
    refine lv_iand hx hb dL_law_163 ?_
    refine lv_if_ne (tgt := 211) hx hb dL_law_164 (by decide) (fun c2 => ?_) (fun c2 => ?_)
    · refine W.widen (k := k + 16) (n := n + 480) (by omega) (by omega) ?_
      exact hN _ _ _ _ _ hg ha hP hD hS (lv_sub hl [0, 1, 2, 3, 4, 5, 6, 7, 8, 9] rfl)
    · refine lv_aload_n hx hb dL_law_167 rfl (lv_at hl 8 rfl) ?_
      have hFc := my_free0 hD hS hA
      have hQ9 : R_undo ((actS s0 v w).2, (if (actS s0 v w).1 = -9 then Hs else svL Hs s0), some s1, (none : Option S6), bb) = (nI 0, nI Hs.length, (s0, Hs, some s1, (none : Option S6), bb)) := by rw [if_neg hne, sv_l (by omega)]; exact e_undo
      refine va_calli (va_runV (As := []) (rest := []) ⟨hx, hb, hml, hown, hts⟩ (cE_undo l D ca H.size Ad g hg (zz_of ha hzz) (no_of (F := R_undo) ha hQ9)) (cwV 0 hts gL_law_X5_undo rfl rfl rfl (by decide +kernel) ⟨kk_le rfl, kk_le rfl⟩) (pvZ hK hP (my_D_true hD) (hZ.at hS hFc) (cW_rc hK hP)) rfl rfl hl.1 rfl (lv_room (kk_le rfl)) dL_law_168 ⟨rm_c (by omega), rm_s (by omega)⟩) hS (fun q _ h => hFc q h) hFc (fun z3 g3 t H3 locs3 ht hvm hw3 hB3 hs3 hk3 hS => ?_)
      obtain ⟨hP, hD3⟩ := hB3
      rw [ht] at hP
      have hD := my_up hD3 hFc
      obtain ⟨hw3, hg⟩ := hw3
      obtain ⟨hz3, ha⟩ := rt_get (F := R_undo) ha hQ9 hw3
      subst hz3
      have hzz : s0.1 ≤ 30 := okE_z hE
      refine lv_iload hx hb dL_law_171 (lv_at hl 3 rfl) ?_
      refine ni_icmp_ne (tgt := 209) (by omega) (by omega) hx hb dL_law_173 (by decide) (fun c4 => absurd rfl c4) (fun c4 => ?_)
      refine lv_aload_n hx hb dL_law_176 rfl (lv_at hl 8 rfl) ?_
      have hFc := my_free0 hD hS hA
      refine va_calll (va_runS (As := [.ref Ad.1]) (rest := []) ⟨hx, hb, hml, hown, hts⟩ (kL_told l D ca H3.size Ad g3 (s0, Hs, some s1, (none : Option S6), bb) hg ha hzz) (va_cwS 1 hts gL_law_L_told rfl rfl rfl (by decide +kernel) ⟨kk_le rfl, kk_le rfl⟩) (psZ hK hP (my_D_true hD) (hZ.at hS hFc)) rfl rfl hl.1 rfl (lv_room (kk_le rfl)) dL_law_177 ⟨rm_c (by omega), rm_s (by omega)⟩) hS (fun q _ h => hFc q h) hFc (fun z5 g5 t H5 locs5 ht hvm hw5 hB5 hs5 hk5 hS => ?_)
      obtain ⟨hP, hD5⟩ := hB5
      rw [ht] at hP
      have hD := my_up hD5 hFc
      obtain ⟨⟨hz5, ha⟩, hg⟩ := hw5
      subst hz5
      refine lv_lload hx hb dL_law_180 (lv_at hl 2 rfl) ?_
      refine W.lcmp hx hb dL_law_182 ?_
      refine lv_if_ne (tgt := 209) hx hb dL_law_183 (by decide) (fun c6 => absurd ((lg_cmp_eq _ _).mpr rfl) c6) (fun c6 => ?_)
      refine lv_aload_n hx hb dL_law_186 rfl (lv_at hl 8 rfl) ?_
      refine lv_iload hx hb dL_law_187 (lv_at hl 5 rfl) ?_
      refine lv_iload hx hb dL_law_189 (lv_at hl 4 rfl) ?_
      have hFc := my_free0 hD hS hA
      refine va_calli (va_runS (As := [.ref Ad.1, .int v, .int w]) (rest := []) ⟨hx, hb, hml, hown, hts⟩ (kL_act l D ca H5.size Ad g5 (s0, Hs, some s1, (none : Option S6), bb) v w hg ha B hE hB1 hB2) (va_cwS 3 hts gL_law_L_act rfl rfl rfl (by decide +kernel) ⟨kk_le rfl, kk_le rfl⟩) (psZ hK hP (my_D_true hD) (hZ.at hS hFc)) rfl rfl hl.1 rfl (lv_room (kk_le rfl)) dL_law_191 ⟨rm_c (by omega), rm_s (by omega)⟩) hS (fun q _ h => hFc q h) hFc (fun z7 g7 t H7 locs7 ht hvm hw7 hB7 hs7 hk7 hS => ?_)
      obtain ⟨hP, hD7⟩ := hB7
      rw [ht] at hP
      have hD := my_up hD7 hFc
      obtain ⟨⟨hz7, bb7, ha⟩, hg⟩ := hw7
      have ha : abC g7 = ((actS s0 v w).2, (if (actS s0 v w).1 = -9 then Hs else svL Hs s0), some s1, (none : Option S6), bb7) := ha
      have hz7 : z7 = (actS s0 v w).1 := hz7
      subst hz7
      have hzz : ((actS s0 v w).2).1 ≤ 30 := okE_z (act_ok v w hE hB1 hB2)
      refine lv_iload hx hb dL_law_194 (lv_at hl 1 rfl) ?_
      refine lv_icmp_ne (tgt := 209) hx hb dL_law_196 (by decide) (fun c8 => absurd rfl c8) (fun c8 => ?_)
      refine lv_aload_n hx hb dL_law_199 rfl (lv_at hl 8 rfl) ?_
      have hFc := my_free0 hD hS hA
      refine va_calll (va_runS (As := [.ref Ad.1]) (rest := []) ⟨hx, hb, hml, hown, hts⟩ (kL_told l D ca H7.size Ad g7 ((actS s0 v w).2, (if (actS s0 v w).1 = -9 then Hs else svL Hs s0), some s1, (none : Option S6), bb7) hg ha hzz) (va_cwS 1 hts gL_law_L_told rfl rfl rfl (by decide +kernel) ⟨kk_le rfl, kk_le rfl⟩) (psZ hK hP (my_D_true hD) (hZ.at hS hFc)) rfl rfl hl.1 rfl (lv_room (kk_le rfl)) dL_law_200 ⟨rm_c (by omega), rm_s (by omega)⟩) hS (fun q _ h => hFc q h) hFc (fun z9 g9 t H9 locs9 ht hvm hw9 hB9 hs9 hk9 hS => ?_)
      obtain ⟨hP, hD9⟩ := hB9
      rw [ht] at hP
      have hD := my_up hD9 hFc
      obtain ⟨⟨hz9, ha⟩, hg⟩ := hw9
      subst hz9
      refine lv_lload hx hb dL_law_203 (lv_at hl 0 rfl) ?_
      refine W.lcmp hx hb dL_law_205 ?_
      refine lv_if_eq (tgt := 211) hx hb dL_law_206 (by decide) (fun c10 => ?_) (fun c10 => absurd ((lg_cmp_eq _ _).mpr rfl) c10)
      refine W.widen (k := k + 16) (n := n + 480) (by omega) (by omega) ?_
      exact hN _ _ _ _ _ hg ha hP hD hS (lv_sub hl [0, 1, 2, 3, 4, 5, 6, 7, 8, 9] rfl)
set_option maxHeartbeats 8000000 in
set_option maxRecDepth 100000 in
theorem law_76 {p : Program} {e : Env} {s : State} {m : MethodId} {below : List Frame} {meth : Method} {c : Code} {l : Launch} {b L : Nat} {xs : Nat → Int32} (hL : L ≤ 260) (hx : p.tables.exec = Jvm.exec) (hb : c.code = code) (hml : c.maxLocals = 13) (hown : s.vm.findClass RL = some m.cls) (hts : ∀ w ∈ wsL_law, w.before #[Value.ref b] s = true) (hX : va_X b L xs s s.heap) (hbl : b < s.heap.size) {D : va_G} {ca : Nat → ClassId} (hK : KK D ca s) (hZ : ZZ (fun q : Nat => s.heap.size ≤ q) s s.heap) {Q : State → Prop} {Ad : CA} {k n : Nat} (hk : k ≤ 100000) (hn : n ≤ 1000000) {i : Nat} {v w : Int32} {B : Int} {s0 s1 : S6} {Hs : List S6} {bb : IL} (hE : okE B s0) (hB1 : 56000 ≤ B) (hB2 : B ≤ 2000000) (hH5 : Hs.length ≤ 5)
    (hN : ∀ (g : CG) (bb : IL) (H : Heap) (locs : List Loc) (ls : Array Slot), okCg g → abC g = ((actS s0 v w).2, (if (actS s0 v w).1 = -9 then Hs else svL Hs s0), some s1, (none : Option S6), bb) → va_P D vwCl (cW ca Ad g) H → va_D (fun q : Nat => s.heap.size ≤ q) (cW ca Ad g) → va_S (fun q : Nat => s.heap.size ≤ q) s.heap H locs → lv_has ls 13 [(11, .long (toldF ((actS s0 v w).2))), (10, .int ((actS s0 v w).1)), (8, .long (toldF s0)), (7, .int (nI Hs.length)), (6, .int w), (5, .int v), (4, .int (nI i)), (2, .long (toldF s1)), (1, .ref Ad.1), (0, .ref b)] → W p l e room_1 s m #[Value.ref b] below meth c H locs (k + 8) (n + 240) Q (F0 m 150 ls []))
    {g : CG} (hg : okCg g) (ha : abC g = (s0, Hs, some s1, (none : Option S6), bb)) {H : Heap} {locs : List Loc} (hP : va_P D vwCl (cW ca Ad g) H) (hD : va_D (fun q : Nat => s.heap.size ≤ q) (cW ca Ad g)) (hS : va_S (fun q : Nat => s.heap.size ≤ q) s.heap H locs) {ls : Array Slot} (hl : lv_has ls 13 [(6, .int w), (5, .int v), (4, .int (nI i)), (2, .long (toldF s1)), (1, .ref Ad.1), (0, .ref b)]) :
    W p l e room_1 s m #[Value.ref b] below meth c H locs (k) (n) Q (F0 m 76 ls []) := by
  have hA : ∀ q : Nat, s.heap.size ≤ q → (fun q : Nat => s.heap.size ≤ q) q := fun _ h => h
  have hzz : s0.1 ≤ 30 := okE_z hE
  refine lv_aload_n hx hb dL_law_76 rfl (lv_at hl 4 rfl) ?_
  refine lv_bipush (v := nI 6) hx hb dL_law_77 (by decide) ?_
  have hFc := my_free0 hD hS hA
  have hQ9 : R_count (s0, Hs, some s1, (none : Option S6), bb) (nI 6) = (nI 0, nI Hs.length, (s0, Hs, some s1, (none : Option S6), bb)) := (e_count _ (by omega)).trans rfl
  refine va_calli (va_runV (As := [.int (nI 6)]) (rest := []) ⟨hx, hb, hml, hown, hts⟩ (cE_count l D ca H.size Ad g (nI 6) hg (zz_of ha hzz) (no_of (F := (fun s9 => R_count s9 (nI 6))) ha hQ9)) (cwV 1 hts gL_law_X5_count rfl rfl rfl (by decide +kernel) ⟨kk_le rfl, kk_le rfl⟩) (pvZ hK hP (my_D_true hD) (hZ.at hS hFc) (cW_rc hK hP)) rfl rfl hl.1 rfl (lv_room (kk_le rfl)) dL_law_79 ⟨rm_c (by omega), rm_s (by omega)⟩) hS (fun q _ h => hFc q h) hFc (fun z1 g1 t H1 locs1 ht hvm hw1 hB1 hs1 hk1 hS => ?_)
  obtain ⟨hP, hD1⟩ := hB1
  rw [ht] at hP
  have hD := my_up hD1 hFc
  obtain ⟨hw1, hg⟩ := hw1
  obtain ⟨hz1, ha⟩ := rt_get (F := (fun s9 => R_count s9 (nI 6))) ha hQ9 hw1
  subst hz1
  refine lv_istore (lv' := [(7, .int (nI Hs.length)), (6, .int w), (5, .int v), (4, .int (nI i)), (2, .long (toldF s1)), (1, .ref Ad.1), (0, .ref b)]) hx hb dL_law_82 hl (by decide) rfl (fun ls hl => ?_)
  refine lv_aload_n hx hb dL_law_84 rfl (lv_at hl 5 rfl) ?_
  have hFc := my_free0 hD hS hA
  refine va_calll (va_runS (As := [.ref Ad.1]) (rest := []) ⟨hx, hb, hml, hown, hts⟩ (kL_told l D ca H1.size Ad g1 (s0, Hs, some s1, (none : Option S6), bb) hg ha hzz) (va_cwS 1 hts gL_law_L_told rfl rfl rfl (by decide +kernel) ⟨kk_le rfl, kk_le rfl⟩) (psZ hK hP (my_D_true hD) (hZ.at hS hFc)) rfl rfl hl.1 rfl (lv_room (kk_le rfl)) dL_law_85 ⟨rm_c (by omega), rm_s (by omega)⟩) hS (fun q _ h => hFc q h) hFc (fun z2 g2 t H2 locs2 ht hvm hw2 hB2 hs2 hk2 hS => ?_)
  obtain ⟨hP, hD2⟩ := hB2
  rw [ht] at hP
  have hD := my_up hD2 hFc
  obtain ⟨⟨hz2, ha⟩, hg⟩ := hw2
  subst hz2
  refine lv_lstore (lv' := [(8, .long (toldF s0)), (7, .int (nI Hs.length)), (6, .int w), (5, .int v), (4, .int (nI i)), (2, .long (toldF s1)), (1, .ref Ad.1), (0, .ref b)]) hx hb dL_law_88 hl (by decide) rfl (fun ls hl => ?_)
  refine lv_aload_n hx hb dL_law_90 rfl (lv_at hl 6 rfl) ?_
  refine lv_iload hx hb dL_law_91 (lv_at hl 3 rfl) ?_
  refine lv_iload hx hb dL_law_93 (lv_at hl 2 rfl) ?_
  have hFc := my_free0 hD hS hA
  refine va_calli (va_runS (As := [.ref Ad.1, .int v, .int w]) (rest := []) ⟨hx, hb, hml, hown, hts⟩ (kL_act l D ca H2.size Ad g2 (s0, Hs, some s1, (none : Option S6), bb) v w hg ha B hE hB1 hB2) (va_cwS 3 hts gL_law_L_act rfl rfl rfl (by decide +kernel) ⟨kk_le rfl, kk_le rfl⟩) (psZ hK hP (my_D_true hD) (hZ.at hS hFc)) rfl rfl hl.1 rfl (lv_room (kk_le rfl)) dL_law_95 ⟨rm_c (by omega), rm_s (by omega)⟩) hS (fun q _ h => hFc q h) hFc (fun z3 g3 t H3 locs3 ht hvm hw3 hB3 hs3 hk3 hS => ?_)
  obtain ⟨hP, hD3⟩ := hB3
  rw [ht] at hP
  have hD := my_up hD3 hFc
  obtain ⟨⟨hz3, bb3, ha⟩, hg⟩ := hw3
  have ha : abC g3 = ((actS s0 v w).2, (if (actS s0 v w).1 = -9 then Hs else svL Hs s0), some s1, (none : Option S6), bb3) := ha
  have hz3 : z3 = (actS s0 v w).1 := hz3
  subst hz3
  have hzz : ((actS s0 v w).2).1 ≤ 30 := okE_z (act_ok v w hE hB1 hB2)
  refine lv_istore (lv' := [(10, .int ((actS s0 v w).1)), (8, .long (toldF s0)), (7, .int (nI Hs.length)), (6, .int w), (5, .int v), (4, .int (nI i)), (2, .long (toldF s1)), (1, .ref Ad.1), (0, .ref b)]) hx hb dL_law_98 hl (by decide) rfl (fun ls hl => ?_)
  refine lv_aload_n hx hb dL_law_100 rfl (lv_at hl 7 rfl) ?_
  have hFc := my_free0 hD hS hA
  refine va_calll (va_runS (As := [.ref Ad.1]) (rest := []) ⟨hx, hb, hml, hown, hts⟩ (kL_told l D ca H3.size Ad g3 ((actS s0 v w).2, (if (actS s0 v w).1 = -9 then Hs else svL Hs s0), some s1, (none : Option S6), bb3) hg ha hzz) (va_cwS 1 hts gL_law_L_told rfl rfl rfl (by decide +kernel) ⟨kk_le rfl, kk_le rfl⟩) (psZ hK hP (my_D_true hD) (hZ.at hS hFc)) rfl rfl hl.1 rfl (lv_room (kk_le rfl)) dL_law_101 ⟨rm_c (by omega), rm_s (by omega)⟩) hS (fun q _ h => hFc q h) hFc (fun z4 g4 t H4 locs4 ht hvm hw4 hB4 hs4 hk4 hS => ?_)
  obtain ⟨hP, hD4⟩ := hB4
  rw [ht] at hP
  have hD := my_up hD4 hFc
  obtain ⟨⟨hz4, ha⟩, hg⟩ := hw4
  subst hz4
  refine lv_lstore (lv' := [(11, .long (toldF ((actS s0 v w).2))), (10, .int ((actS s0 v w).1)), (8, .long (toldF s0)), (7, .int (nI Hs.length)), (6, .int w), (5, .int v), (4, .int (nI i)), (2, .long (toldF s1)), (1, .ref Ad.1), (0, .ref b)]) hx hb dL_law_104 hl (by decide) rfl (fun ls hl => ?_)
  refine lv_iload hx hb dL_law_106 (lv_at hl 1 rfl) ?_
  refine lv_bipush (v := (-9)) hx hb dL_law_108 (by decide) ?_
  refine lv_icmp_ne (tgt := 135) hx hb dL_law_110 (by decide) (fun c5 => ?_) (fun c5 => ?_)
  · refine lv_aload_n hx hb dL_law_135 rfl (lv_at hl 8 rfl) ?_
    refine lv_bipush (v := nI 6) hx hb dL_law_136 (by decide) ?_
    have hFc := my_free0 hD hS hA
    have hQ9 : R_count ((actS s0 v w).2, (if (actS s0 v w).1 = -9 then Hs else svL Hs s0), some s1, (none : Option S6), bb3) (nI 6) = (nI 0, nI (Hs.length + 1), ((actS s0 v w).2, (if (actS s0 v w).1 = -9 then Hs else svL Hs s0), some s1, (none : Option S6), bb3)) := (e_count _ (by omega)).trans (by show (nI 0, nI ((if (actS s0 v w).1 = -9 then Hs else svL Hs s0)).length, _) = _; rw [if_neg c5, sv_l (by omega), List.length_append]; rfl)
    refine va_calli (va_runV (As := [.int (nI 6)]) (rest := []) ⟨hx, hb, hml, hown, hts⟩ (cE_count l D ca H4.size Ad g4 (nI 6) hg (zz_of ha hzz) (no_of (F := (fun s9 => R_count s9 (nI 6))) ha hQ9)) (cwV 1 hts gL_law_X5_count rfl rfl rfl (by decide +kernel) ⟨kk_le rfl, kk_le rfl⟩) (pvZ hK hP (my_D_true hD) (hZ.at hS hFc) (cW_rc hK hP)) rfl rfl hl.1 rfl (lv_room (kk_le rfl)) dL_law_138 ⟨rm_c (by omega), rm_s (by omega)⟩) hS (fun q _ h => hFc q h) hFc (fun z6 g6 t H6 locs6 ht hvm hw6 hB6 hs6 hk6 hS => ?_)
    obtain ⟨hP, hD6⟩ := hB6
    rw [ht] at hP
    have hD := my_up hD6 hFc
    obtain ⟨hw6, hg⟩ := hw6
    obtain ⟨hz6, ha⟩ := rt_get (F := (fun s9 => R_count s9 (nI 6))) ha hQ9 hw6
    subst hz6
    refine lv_iload hx hb dL_law_141 (lv_at hl 3 rfl) ?_
    refine lv_iconst (v := nI 1) hx hb dL_law_143 (by decide) ?_
    refine ni_iadd hx hb dL_law_144 ?_
    refine ni_icmp_eq (tgt := 150) (by omega) (by omega) hx hb dL_law_145 (by decide) (fun c7 => ?_) (fun c7 => absurd rfl c7)
    refine W.widen (k := k + 8) (n := n + 240) (by omega) (by omega) ?_
    exact hN _ _ _ _ _ hg ha hP hD hS (lv_sub hl [0, 1, 2, 3, 4, 5, 6, 7, 8, 9] rfl)
  · have es : (actS s0 v w).2 = s0 := act_9 hE hB2 c5
    refine lv_lload hx hb dL_law_113 (lv_at hl 0 rfl) ?_
    refine lv_lload hx hb dL_law_115 (lv_at hl 2 rfl) ?_
    refine W.lcmp hx hb dL_law_117 ?_
    refine lv_if_ne (tgt := 148) hx hb dL_law_118 (by decide) (fun c8 => absurd ((lg_cmp_eq _ _).mpr (by rw [es])) c8) (fun c8 => ?_)
    refine lv_aload_n hx hb dL_law_121 rfl (lv_at hl 8 rfl) ?_
    refine lv_bipush (v := nI 6) hx hb dL_law_122 (by decide) ?_
    have hFc := my_free0 hD hS hA
    have hQ9 : R_count ((actS s0 v w).2, (if (actS s0 v w).1 = -9 then Hs else svL Hs s0), some s1, (none : Option S6), bb3) (nI 6) = (nI 0, nI Hs.length, ((actS s0 v w).2, (if (actS s0 v w).1 = -9 then Hs else svL Hs s0), some s1, (none : Option S6), bb3)) := (e_count _ (by omega)).trans (by show (nI 0, nI ((if (actS s0 v w).1 = -9 then Hs else svL Hs s0)).length, _) = _; rw [if_pos c5])
    refine va_calli (va_runV (As := [.int (nI 6)]) (rest := []) ⟨hx, hb, hml, hown, hts⟩ (cE_count l D ca H4.size Ad g4 (nI 6) hg (zz_of ha hzz) (no_of (F := (fun s9 => R_count s9 (nI 6))) ha hQ9)) (cwV 1 hts gL_law_X5_count rfl rfl rfl (by decide +kernel) ⟨kk_le rfl, kk_le rfl⟩) (pvZ hK hP (my_D_true hD) (hZ.at hS hFc) (cW_rc hK hP)) rfl rfl hl.1 rfl (lv_room (kk_le rfl)) dL_law_124 ⟨rm_c (by omega), rm_s (by omega)⟩) hS (fun q _ h => hFc q h) hFc (fun z9 g9 t H9 locs9 ht hvm hw9 hB9 hs9 hk9 hS => ?_)
    obtain ⟨hP, hD9⟩ := hB9
    rw [ht] at hP
    have hD := my_up hD9 hFc
    obtain ⟨hw9, hg⟩ := hw9
    obtain ⟨hz9, ha⟩ := rt_get (F := (fun s9 => R_count s9 (nI 6))) ha hQ9 hw9
    subst hz9
    refine lv_iload hx hb dL_law_127 (lv_at hl 3 rfl) ?_
    refine ni_icmp_eq (tgt := 150) (by omega) (by omega) hx hb dL_law_129 (by decide) (fun c10 => ?_) (fun c10 => absurd rfl c10)
    refine W.widen (k := k + 8) (n := n + 240) (by omega) (by omega) ?_
    exact hN _ _ _ _ _ hg ha hP hD hS (lv_sub hl [0, 1, 2, 3, 4, 5, 6, 7, 8, 9] rfl)
set_option maxHeartbeats 8000000 in
set_option maxRecDepth 100000 in
theorem law_33 {p : Program} {e : Env} {s : State} {m : MethodId} {below : List Frame} {meth : Method} {c : Code} {l : Launch} {b L : Nat} {xs : Nat → Int32} (hL : L ≤ 260) (hx : p.tables.exec = Jvm.exec) (hb : c.code = code) (hml : c.maxLocals = 13) (hown : s.vm.findClass RL = some m.cls) (hts : ∀ w ∈ wsL_law, w.before #[Value.ref b] s = true) (hX : va_X b L xs s s.heap) (hbl : b < s.heap.size) {D : va_G} {ca : Nat → ClassId} (hK : KK D ca s) (hZ : ZZ (fun q : Nat => s.heap.size ≤ q) s s.heap) {Q : State → Prop} {Ad : CA} {k n : Nat} (hk : k ≤ 100000) (hn : n ≤ 1000000) {i : Nat} (hi : i < 18) {B : Int} {s0 s1 : S6} {Hs : List S6} {bb : IL} (hE : okE B s0) (hEH : ∀ x ∈ Hs, okE B x)
    (hN : ∀ (v w : Int32) (s0 : S6) (Hs : List S6) (g : CG) (H : Heap) (locs : List Loc) (ls : Array Slot), Hs.length ≤ 5 → okE B s0 → (∀ x ∈ Hs, okE B x) → okCg g → abC g = (s0, Hs, some s1, (none : Option S6), bb) → va_P D vwCl (cW ca Ad g) H → va_D (fun q : Nat => s.heap.size ≤ q) (cW ca Ad g) → va_S (fun q : Nat => s.heap.size ≤ q) s.heap H locs → lv_has ls 13 [(6, .int w), (5, .int v), (4, .int (nI i)), (2, .long (toldF s1)), (1, .ref Ad.1), (0, .ref b)] → W p l e room_1 s m #[Value.ref b] below meth c H locs (k + 16) (n + 480) Q (F0 m 76 ls []))
    {g : CG} (hg : okCg g) (ha : abC g = (s0, Hs, some s1, (none : Option S6), bb)) {H : Heap} {locs : List Loc} (hP : va_P D vwCl (cW ca Ad g) H) (hD : va_D (fun q : Nat => s.heap.size ≤ q) (cW ca Ad g)) (hS : va_S (fun q : Nat => s.heap.size ≤ q) s.heap H locs) {ls : Array Slot} (hl : lv_has ls 13 [(4, .int (nI i)), (2, .long (toldF s1)), (1, .ref Ad.1), (0, .ref b)]) :
    W p l e room_1 s m #[Value.ref b] below meth c H locs (k) (n) Q (F0 m 33 ls []) := by
  have hA : ∀ q : Nat, s.heap.size ≤ q → (fun q : Nat => s.heap.size ≤ q) q := fun _ h => h
  have hzz : s0.1 ≤ 30 := okE_z hE
  have hbA : ¬ (fun q : Nat => s.heap.size ≤ q) b := Nat.not_le.mpr hbl
  have hH6 : Hs.length ≤ 6 := hs_6 hg ha
  refine lv_aload_n hx hb dL_law_33 rfl (lv_at hl 3 rfl) ?_
  refine lv_iconst (v := nI 2) hx hb dL_law_34 (by decide) ?_
  refine lv_iload hx hb dL_law_35 (lv_at hl 0 rfl) ?_
  refine ni_imul hx hb dL_law_37 ?_
  refine vp_callSi (va_Run.run (va_runS (As := [.ref b, .int (nI (2 * i))]) (rest := []) ⟨hx, hb, hml, hown, hts⟩ (kL_cell l b L xs (2 * i) (by omega) hL) (va_cwS 2 hts gL_law_L_cell rfl rfl rfl (by decide +kernel) ⟨kk_le rfl, kk_le rfl⟩) (psX hX hbl hbA hS) rfl rfl hl.1 rfl (lv_room (kk_le rfl)) dL_law_38 ⟨rm_c (by omega), rm_s (by omega)⟩)) (fun v hv9 => ?_)
  refine lv_istore (lv' := [(5, .int v), (4, .int (nI i)), (2, .long (toldF s1)), (1, .ref Ad.1), (0, .ref b)]) hx hb dL_law_41 hl (by decide) rfl (fun ls hl => ?_)
  refine lv_aload_n hx hb dL_law_43 rfl (lv_at hl 4 rfl) ?_
  refine lv_iconst (v := nI 2) hx hb dL_law_44 (by decide) ?_
  refine lv_iload hx hb dL_law_45 (lv_at hl 1 rfl) ?_
  refine ni_imul hx hb dL_law_47 ?_
  refine lv_iconst (v := nI 1) hx hb dL_law_48 (by decide) ?_
  refine ni_iadd hx hb dL_law_49 ?_
  refine vp_callSi (va_Run.run (va_runS (As := [.ref b, .int (nI ((2 * i) + 1))]) (rest := []) ⟨hx, hb, hml, hown, hts⟩ (kL_cell l b L xs ((2 * i) + 1) (by omega) hL) (va_cwS 2 hts gL_law_L_cell rfl rfl rfl (by decide +kernel) ⟨kk_le rfl, kk_le rfl⟩) (psX hX hbl hbA hS) rfl rfl hl.1 rfl (lv_room (kk_le rfl)) dL_law_50 ⟨rm_c (by omega), rm_s (by omega)⟩)) (fun w hw9 => ?_)
  refine lv_istore (lv' := [(6, .int w), (5, .int v), (4, .int (nI i)), (2, .long (toldF s1)), (1, .ref Ad.1), (0, .ref b)]) hx hb dL_law_53 hl (by decide) rfl (fun ls hl => ?_)
  refine lv_aload_n hx hb dL_law_55 rfl (lv_at hl 4 rfl) ?_
  refine lv_bipush (v := nI 6) hx hb dL_law_56 (by decide) ?_
  have hFc := my_free0 hD hS hA
  have hQ9 : R_count (s0, Hs, some s1, (none : Option S6), bb) (nI 6) = (nI 0, nI Hs.length, (s0, Hs, some s1, (none : Option S6), bb)) := (e_count _ (by omega)).trans rfl
  refine va_calli (va_runV (As := [.int (nI 6)]) (rest := []) ⟨hx, hb, hml, hown, hts⟩ (cE_count l D ca H.size Ad g (nI 6) hg (zz_of ha hzz) (no_of (F := (fun s9 => R_count s9 (nI 6))) ha hQ9)) (cwV 1 hts gL_law_X5_count rfl rfl rfl (by decide +kernel) ⟨kk_le rfl, kk_le rfl⟩) (pvZ hK hP (my_D_true hD) (hZ.at hS hFc) (cW_rc hK hP)) rfl rfl hl.1 rfl (lv_room (kk_le rfl)) dL_law_58 ⟨rm_c (by omega), rm_s (by omega)⟩) hS (fun q _ h => hFc q h) hFc (fun z1 g1 t H1 locs1 ht hvm hw1 hB1 hs1 hk1 hS => ?_)
  obtain ⟨hP, hD1⟩ := hB1
  rw [ht] at hP
  have hD := my_up hD1 hFc
  obtain ⟨hw1, hg⟩ := hw1
  obtain ⟨hz1, ha⟩ := rt_get (F := (fun s9 => R_count s9 (nI 6))) ha hQ9 hw1
  subst hz1
  refine lv_bipush (v := nI 6) hx hb dL_law_61 (by decide) ?_
  refine ni_icmp_ne (tgt := 76) (by omega) (by omega) hx hb dL_law_63 (by decide) (fun c2 => ?_) (fun c2 => ?_)
  · refine W.widen (k := k + 16) (n := n + 480) (by omega) (by omega) ?_
    exact hN v w s0 Hs _ _ _ _ (by omega) hE hEH hg ha hP hD hS (lv_sub hl [0, 1, 2, 3, 4, 5] rfl)
  · obtain ⟨Y, y2, y1, rfl, hY⟩ := un_2 c2
    have hE1 : okE B y1 := hEH _ (List.mem_append_right _ List.mem_cons_self)
    have hE2 : okE B y2 := hEH _ (List.mem_append_left _ (List.mem_append_right _ List.mem_cons_self))
    refine lv_aload_n hx hb dL_law_66 rfl (lv_at hl 4 rfl) ?_
    have hFc := my_free0 hD hS hA
    have hQ9 : R_undo (s0, ((Y ++ [y2]) ++ [y1]), some s1, (none : Option S6), bb) = (nI 0, nI (Y ++ [y2]).length, (y1, (Y ++ [y2]), some s1, (none : Option S6), bb)) := e_undo
    refine va_calli (va_runV (As := []) (rest := []) ⟨hx, hb, hml, hown, hts⟩ (cE_undo l D ca H1.size Ad g1 hg (zz_of ha hzz) (no_of (F := R_undo) ha hQ9)) (cwV 0 hts gL_law_X5_undo rfl rfl rfl (by decide +kernel) ⟨kk_le rfl, kk_le rfl⟩) (pvZ hK hP (my_D_true hD) (hZ.at hS hFc) (cW_rc hK hP)) rfl rfl hl.1 rfl (lv_room (kk_le rfl)) dL_law_67 ⟨rm_c (by omega), rm_s (by omega)⟩) hS (fun q _ h => hFc q h) hFc (fun z3 g3 t H3 locs3 ht hvm hw3 hB3 hs3 hk3 hS => ?_)
    obtain ⟨hP, hD3⟩ := hB3
    rw [ht] at hP
    have hD := my_up hD3 hFc
    obtain ⟨hw3, hg⟩ := hw3
    obtain ⟨hz3, ha⟩ := rt_get (F := R_undo) ha hQ9 hw3
    subst hz3
    have hzz : y1.1 ≤ 30 := okE_z hE1
    refine lv_pop hx hb dL_law_70 rfl ?_
    refine lv_aload_n hx hb dL_law_71 rfl (lv_at hl 4 rfl) ?_
    have hFc := my_free0 hD hS hA
    have hQ9 : R_undo (y1, (Y ++ [y2]), some s1, (none : Option S6), bb) = (nI 0, nI Y.length, (y2, Y, some s1, (none : Option S6), bb)) := e_undo
    refine va_calli (va_runV (As := []) (rest := []) ⟨hx, hb, hml, hown, hts⟩ (cE_undo l D ca H3.size Ad g3 hg (zz_of ha hzz) (no_of (F := R_undo) ha hQ9)) (cwV 0 hts gL_law_X5_undo rfl rfl rfl (by decide +kernel) ⟨kk_le rfl, kk_le rfl⟩) (pvZ hK hP (my_D_true hD) (hZ.at hS hFc) (cW_rc hK hP)) rfl rfl hl.1 rfl (lv_room (kk_le rfl)) dL_law_72 ⟨rm_c (by omega), rm_s (by omega)⟩) hS (fun q _ h => hFc q h) hFc (fun z4 g4 t H4 locs4 ht hvm hw4 hB4 hs4 hk4 hS => ?_)
    obtain ⟨hP, hD4⟩ := hB4
    rw [ht] at hP
    have hD := my_up hD4 hFc
    obtain ⟨hw4, hg⟩ := hw4
    obtain ⟨hz4, ha⟩ := rt_get (F := R_undo) ha hQ9 hw4
    subst hz4
    refine lv_pop hx hb dL_law_75 rfl ?_
    refine W.widen (k := k + 16) (n := n + 480) (by omega) (by omega) ?_
    exact hN v w y2 Y _ _ _ _ (by omega) hE2 (fun x hx9 => hEH x (List.mem_append_left _ (List.mem_append_left _ hx9))) hg ha hP hD hS (lv_sub hl [0, 1, 2, 3, 4, 5] rfl)
set_option maxHeartbeats 8000000 in
set_option maxRecDepth 100000 in
theorem law_loop {p : Program} {e : Env} {s : State} {m : MethodId} {below : List Frame} {meth : Method} {c : Code} {l : Launch} {b L : Nat} {xs : Nat → Int32} (hL : L ≤ 260) (hx : p.tables.exec = Jvm.exec) (hb : c.code = code) (hml : c.maxLocals = 13) (hown : s.vm.findClass RL = some m.cls) (hts : ∀ w ∈ wsL_law, w.before #[Value.ref b] s = true) (hX : va_X b L xs s s.heap) (hbl : b < s.heap.size) {D : va_G} {ca : Nat → ClassId} (hK : KK D ca s) (hZ : ZZ (fun q : Nat => s.heap.size ≤ q) s s.heap) {Q : State → Prop} {Ad : CA}
    (hE9 : ∀ (H : Heap) (locs : List Loc) (ls : Array Slot) (i : Nat), i ≤ 18 → (∀ z ∈ locs, s.heap.size ≤ z.base) → W p l e room_1 s m #[Value.ref b] below meth c H locs (128 + 64 * i) (8192 + 4096 * i) Q (F0 m 312 ls [])) :
    ∀ (n i : Nat), 18 - i < n → i ≤ 18 → ∀ (g : CG) (s0 s1 : S6) (Hs : List S6) (bb : IL), okCg g → abC g = (s0, Hs, some s1, (none : Option S6), bb) → okE (56000 + 999 * (i : Int)) s0 → (∀ x ∈ Hs, okE (56000 + 999 * (i : Int)) x) → okE (56000 + 999 * (i : Int)) s1 → ∀ (H : Heap) (locs : List Loc) (ls : Array Slot), va_P D vwCl (cW ca Ad g) H → va_D (fun q : Nat => s.heap.size ≤ q) (cW ca Ad g) → va_S (fun q : Nat => s.heap.size ≤ q) s.heap H locs → lv_has ls 13 [(4, .int (nI i)), (2, .long (toldF s1)), (1, .ref Ad.1), (0, .ref b)] → W p l e room_1 s m #[Value.ref b] below meth c H locs (128 + 64 * i) (8192 + 4096 * i) Q (F0 m 26 ls []) := by
  intro n
  induction n with
  | zero => intro i hn; exact absurd hn (Nat.not_lt_zero _)
  | succ n ih =>
    intro i hn hi g s0 s1 Hs bb hg ha hE hEH hE1 H locs ls hP hD hS hl
    refine lv_iload hx hb dL_law_26 (lv_at hl 0 rfl) ?_
    refine lv_bipush (v := nI 18) hx hb dL_law_28 (by decide) ?_
    refine ni_icmp_ge (tgt := 312) (by omega) (by omega) hx hb dL_law_30 (by decide) (fun c1 => ?_) (fun c1 => ?_)
    · exact hE9 _ _ _ i hi hS.2.2
    · refine law_33 hL hx hb hml hown hts hX hbl hK hZ (by omega) (by omega) c1 hE hEH ?_ hg ha hP hD hS (lv_sub hl [0, 1, 2, 3] rfl)
      intro v w s0 Hs g H locs ls hH5 hE hEH hg ha hP hD hS hl
      refine law_76 hL hx hb hml hown hts hX hbl hK hZ (by omega) (by omega) hE (by omega) (by omega) hH5 ?_ hg ha hP hD hS hl
      intro g bb1 H locs ls hg ha hP hD hS hl
      refine law_150 hL hx hb hml hown hts hX hbl hK hZ (by omega) (by omega) hE hE1 (by omega) (by omega) hH5 ?_ hg ha hP hD hS hl
      intro g bb2 H locs ls hg ha hP hD hS hl
      have hE2 : okE (56000 + 999 * (i : Int) + 999) (actS s0 v w).2 := act_ok v w hE (by omega) (by omega)
      have hE3 : okE (56000 + 999 * (i : Int) + 999) s1 := okE_mono (by omega) hE1
      have hE0 : okE (56000 + 999 * (i : Int) + 999) s0 := okE_mono (by omega) hE
      have hEH2 : ∀ x ∈ Hs, okE (56000 + 999 * (i : Int) + 999) x := fun x hx9 => okE_mono (by omega) (hEH x hx9)
      refine law_211 hL hx hb hml hown hts hX hbl hK hZ (by omega) (by omega) hE2 hE3 ?_ hg ha hP hD hS hl
      intro g s9 H locs ls hg ha hE4 hP hD hS hl
      refine lv_iinc (v := nI (i + 1)) (lv' := [(4, .int (nI (i + 1))), (2, .long (toldF s9)), (1, .ref Ad.1), (0, .ref b)]) hx hb dL_law_306 hl (k := 0) rfl (ni_inc _ _ (by decide)) (by decide) rfl (fun ls hl => ?_)
      refine lv_goto (tgt := 26) hx hb dL_law_309 (by decide) ?_
      refine W.widen (k := 128 + 64 * (i + 1)) (n := 8192 + 4096 * (i + 1)) (by omega) (by omega) ?_
      have eB : 56000 + 999 * ((i + 1 : Nat) : Int) = 56000 + 999 * (i : Int) + 999 := by omega
      have hEH3 : ∀ x ∈ (if (actS s0 v w).1 = -9 then Hs else svL Hs s0), okE (56000 + 999 * (i : Int) + 999) x := by
        intro x hx9
        split at hx9
        · exact hEH2 x hx9
        · exact sv_mem (P := okE (56000 + 999 * (i : Int) + 999)) hEH2 hE0 x hx9
      exact ih (i + 1) (by omega) (by omega) g _ s9 _ bb2 hg ha (by rw [eB]; exact hE2) (by rw [eB]; exact hEH3) (by rw [eB]; exact hE4) _ _ _ hP hD hS hl
