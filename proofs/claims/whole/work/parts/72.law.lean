set_option maxHeartbeats 8000000 in
set_option maxRecDepth 100000 in
theorem lwc_0 {p : Program} {e : Env} {s : State} {m : MethodId} {below : List Frame} {meth : Method} {c : Code} {l : Launch} (hl0 : l.stackTraces = false) {b L : Nat} {xs : Nat → Int32} (hL : L ≤ 1536) (hx : p.tables.exec = Jvm.exec) (hb : c.code = code) (hml : c.maxLocals = 9) (hown : s.vm.findClass RL = some m.cls) (hts : ∀ w ∈ wsL_law, w.before #[Value.ref b] s = true) (hX : va_X b L xs s s.heap) (hbl : b < s.heap.size) {D : va_G} {ca : Nat → ClassId} (hK : KK D ca s) (hZ : ZZ (fun q : Nat => s.heap.size ≤ q) s s.heap) {Q : State → Prop} {Ad : CA} {Md : MA} {o : Nat} {i : Nat} (hi : i + 3 ≤ L) {g : CG} {h : MG} {v0 : Nat → Int64} (hRel : RelL i g h) {H : Heap} {locs : List Loc} (hP : va_P D vwCl (oW ca o v0 ++ cW ca Ad g ++ mW ca Md h) H) (hD : va_D (fun q : Nat => s.heap.size ≤ q) (oW ca o v0 ++ cW ca Ad g ++ mW ca Md h)) (hS : va_S (fun q : Nat => s.heap.size ≤ q) s.heap H locs) {ls : Array Slot} (hl : lv_has ls 9 [(4, .int (nI i)), (3, .ref o), (2, .ref Md.1), (1, .ref Ad.1), (0, .ref b)])
    (hN : ∀ (g' : CG) (h' : MG) (v' : Nat → Int64) (H' : Heap) (locs' : List Loc) (ls' : Array Slot), RelL (i + 3) g' h' → va_P D vwCl (oW ca o v' ++ cW ca Ad g' ++ mW ca Md h') H' → va_D (fun q : Nat => s.heap.size ≤ q) (oW ca o v' ++ cW ca Ad g' ++ mW ca Md h') → va_S (fun q : Nat => s.heap.size ≤ q) s.heap H' locs' → lv_has ls' 9 [(4, .int (nI i)), (3, .ref o), (2, .ref Md.1), (1, .ref Ad.1), (0, .ref b)] → W p l e room_1 s m #[Value.ref b] below meth c H' locs' (64 + 8 * i + 24) (4096 + 240 * i + 720) Q (F0 m 1424 ls' [])) :
    W p l e room_1 s m #[Value.ref b] below meth c H locs (64 + 8 * i) (4096 + 240 * i) Q (F0 m 156 ls []) := by
  have hbA : ¬ (fun q : Nat => s.heap.size ≤ q) b := Nat.not_le.mpr hbl
  refine lv_aload_n hx hb dL_law_156 rfl (lv_at hl 3 rfl) ?_
  refine lv_aload_n hx hb dL_law_157 rfl (lv_at hl 1 rfl) ?_
  have hFc := my_free hD hS (fun q h => h)
  refine va_calli (vx_runSW (As := [.ref Ad.1, .ref o]) (rest := []) ⟨hx, hb, hml, hown, hts⟩ (wL_write l hl0 D ca H.size Ad g o v0  hRel.2.1 (rel_z hRel)) (vx_cwSW 2 hts gL_law_L_write rfl rfl rfl (by decide +kernel) ⟨kk_le rfl, kk_le rfl⟩) (psZ hK (my_P_left hP) (my_D_true (my_D_left hD)) (hZ.at hS hFc)) rfl rfl hl.1 rfl (lv_room (kk_le rfl)) dL_law_158 ⟨rm_c (by omega), rm_s (by omega)⟩) hS (fun q _ h => hFc q h) hFc (fun z1 u1 t H1 locs1 ht hvm hw1 hB1 hs1 hk1 hS => ?_)
  obtain ⟨g1, v1⟩ := u1
  obtain ⟨hP1, hD1⟩ := hB1
  rw [ht] at hP1
  obtain ⟨hP, hD⟩ := my_join hP hD hk1 hFc hP1 hD1
  have hP : va_P D vwCl (oW ca o v1 ++ cW ca Ad g1 ++ mW ca Md h) H1 := hP
  have hD : va_D (fun q : Nat => s.heap.size ≤ q) (oW ca o v1 ++ cW ca Ad g1 ++ mW ca Md h) := hD
  refine lv_istore (lv' := [(5, .int z1), (4, .int (nI i)), (3, .ref o), (2, .ref Md.1), (1, .ref Ad.1), (0, .ref b)]) hx hb dL_law_161 hl (by decide) rfl (fun ls hl => ?_)
  refine lv_aload_n hx hb dL_law_163 rfl (lv_at hl 3 rfl) ?_
  have hP9 := my_P_perm hP List.perm_append_comm
  have hD9 := my_D_perm hD List.perm_append_comm
  have hFc := my_free hD9 hS (fun q h => h)
  refine va_calli (va_runV (As := []) (rest := []) ⟨hx, hb, hml, hown, hts⟩ (cM_write l D ca H1.size Md h  hRel.2.2.1 (rel_zm hRel) (rel_p hRel)) (cwV 0 hts gL_law_X6_write rfl rfl rfl (by decide +kernel) ⟨kk_le rfl, kk_le rfl⟩) (pvM hK (my_P_left hP9) (my_D_true (my_D_left hD9)) (mW_rc hK (my_P_left hP9))) rfl rfl hl.1 rfl (lv_room (kk_le rfl)) dL_law_164 ⟨rm_c (by omega), rm_s (by omega)⟩) hS (fun q _ h => hFc q h) hFc (fun z2 h2 t H2 locs2 ht hvm hw2 hB2 hs2 hk2 hS => ?_)
  obtain ⟨hP2, hD2⟩ := hB2
  rw [ht] at hP2
  obtain ⟨hP, hD⟩ := my_join hP9 hD9 hk2 hFc hP2 hD2
  have hP : va_P D vwCl (oW ca o v1 ++ cW ca Ad g1 ++ mW ca Md h2) H2 := my_P_perm hP List.perm_append_comm
  have hD : va_D (fun q : Nat => s.heap.size ≤ q) (oW ca o v1 ++ cW ca Ad g1 ++ mW ca Md h2) := my_D_perm hD List.perm_append_comm
  refine lv_istore (lv' := [(6, .int z2), (5, .int z1), (4, .int (nI i)), (3, .ref o), (2, .ref Md.1), (1, .ref Ad.1), (0, .ref b)]) hx hb dL_law_167 hl (by decide) rfl (fun ls hl => ?_)
  refine lv_aload_n hx hb dL_law_169 rfl (lv_at hl 4 rfl) ?_
  have hP9 := my_P_perm hP List.perm_append_comm
  have hD9 := my_D_perm hD List.perm_append_comm
  have hFc := my_free hD9 hS (fun q h => h)
  refine va_calli (va_runV (As := []) (rest := []) ⟨hx, hb, hml, hown, hts⟩ (cM_thrown l D ca H2.size Md h2) (cwV 0 hts gL_law_X6_thrown rfl rfl rfl (by decide +kernel) ⟨kk_le rfl, kk_le rfl⟩) (pvM hK (my_P_left hP9) (my_D_true (my_D_left hD9)) (mW_rc hK (my_P_left hP9))) rfl rfl hl.1 rfl (lv_room (kk_le rfl)) dL_law_170 ⟨rm_c (by omega), rm_s (by omega)⟩) hS (fun q _ h => hFc q h) hFc (fun z3 h3 t H3 locs3 ht hvm hw3 hB3 hs3 hk3 hS => ?_)
  obtain ⟨hP3, hD3⟩ := hB3
  rw [ht] at hP3
  obtain ⟨e3, e4⟩ := hw3
  subst e4
  obtain ⟨hP, hD⟩ := my_join hP9 hD9 hk3 hFc hP3 hD3
  have hP : va_P D vwCl (oW ca o v1 ++ cW ca Ad g1 ++ mW ca Md h3) H3 := my_P_perm hP List.perm_append_comm
  have hD : va_D (fun q : Nat => s.heap.size ≤ q) (oW ca o v1 ++ cW ca Ad g1 ++ mW ca Md h3) := my_D_perm hD List.perm_append_comm
  obtain ⟨f1, f2⟩ := hw2
  have e1 : thM h3 = z1 := by have q := hw1.1; rw [hRel.1, f1] at q; exact q
  have e2 : z1 = nI 0 → v1 0 = z2.toInt64 := by have q := hw1.2.1; rw [hRel.1, f1] at q; exact q
  have hR : RelL (i + 3) g1 h3 := rel_next (R := (fun s9 => R_write s9)) hRel (so_write) (by omega) hw1.2.2.1 hw1.2.2.2 (by rw [f1]) f2
  refine lv_iload hx hb dL_law_173 (lv_at hl 1 rfl) ?_
  refine lv_icmp_eq (tgt := 180) hx hb dL_law_175 (by decide) (fun c5 => ?_) (fun c5 => absurd (e3.trans e1) c5)
  refine lv_iload hx hb dL_law_180 (lv_at hl 1 rfl) ?_
  refine lv_if_ne (tgt := 197) hx hb dL_law_182 (by decide) (fun c4 => ?_) (fun c4 => ?_)
  · refine lv_goto (tgt := 1424) hx hb dL_law_197 (by decide) ?_
    refine W.widen (k := 64 + 8 * i + 24) (n := 4096 + 240 * i + 720) (by omega) (by omega) ?_
    exact hN g1 h3 v1 _ _ _ hR hP hD hS (lv_sub hl [2, 3, 4, 5, 6] rfl)
  · refine lv_aload_n hx hb dL_law_185 rfl (lv_at hl 3 rfl) ?_
    refine lv_iconst (v := nI 0) hx hb dL_law_186 (by decide) ?_
    refine my_lald hx hb hK hP 0 rfl (by omega) (by omega) dL_law_187 ?_
    refine lv_iload hx hb dL_law_188 (lv_at hl 0 rfl) ?_
    refine lv_i2l hx hb dL_law_190 rfl ?_
    refine W.lcmp hx hb dL_law_191 ?_
    refine lv_if_eq (tgt := 197) hx hb dL_law_192 (by decide) (fun c3 => ?_) (fun c3 => absurd ((lg_cmp_eq _ _).mpr (e2 c4)) c3)
    refine lv_goto (tgt := 1424) hx hb dL_law_197 (by decide) ?_
    refine W.widen (k := 64 + 8 * i + 24) (n := 4096 + 240 * i + 720) (by omega) (by omega) ?_
    exact hN g1 h3 v1 _ _ _ hR hP hD hS (lv_sub hl [2, 3, 4, 5, 6] rfl)
set_option maxHeartbeats 8000000 in
set_option maxRecDepth 100000 in
theorem lwc_1 {p : Program} {e : Env} {s : State} {m : MethodId} {below : List Frame} {meth : Method} {c : Code} {l : Launch} (hl0 : l.stackTraces = false) {b L : Nat} {xs : Nat → Int32} (hL : L ≤ 1536) (hx : p.tables.exec = Jvm.exec) (hb : c.code = code) (hml : c.maxLocals = 9) (hown : s.vm.findClass RL = some m.cls) (hts : ∀ w ∈ wsL_law, w.before #[Value.ref b] s = true) (hX : va_X b L xs s s.heap) (hbl : b < s.heap.size) {D : va_G} {ca : Nat → ClassId} (hK : KK D ca s) (hZ : ZZ (fun q : Nat => s.heap.size ≤ q) s s.heap) {Q : State → Prop} {Ad : CA} {Md : MA} {o : Nat} {i : Nat} (hi : i + 3 ≤ L) {g : CG} {h : MG} {v0 : Nat → Int64} (hRel : RelL i g h) {H : Heap} {locs : List Loc} (hP : va_P D vwCl (oW ca o v0 ++ cW ca Ad g ++ mW ca Md h) H) (hD : va_D (fun q : Nat => s.heap.size ≤ q) (oW ca o v0 ++ cW ca Ad g ++ mW ca Md h)) (hS : va_S (fun q : Nat => s.heap.size ≤ q) s.heap H locs) {ls : Array Slot} (hl : lv_has ls 9 [(4, .int (nI i)), (3, .ref o), (2, .ref Md.1), (1, .ref Ad.1), (0, .ref b)])
    (hN : ∀ (g' : CG) (h' : MG) (v' : Nat → Int64) (H' : Heap) (locs' : List Loc) (ls' : Array Slot), RelL (i + 3) g' h' → va_P D vwCl (oW ca o v' ++ cW ca Ad g' ++ mW ca Md h') H' → va_D (fun q : Nat => s.heap.size ≤ q) (oW ca o v' ++ cW ca Ad g' ++ mW ca Md h') → va_S (fun q : Nat => s.heap.size ≤ q) s.heap H' locs' → lv_has ls' 9 [(4, .int (nI i)), (3, .ref o), (2, .ref Md.1), (1, .ref Ad.1), (0, .ref b)] → W p l e room_1 s m #[Value.ref b] below meth c H' locs' (64 + 8 * i + 24) (4096 + 240 * i + 720) Q (F0 m 1424 ls' [])) :
    W p l e room_1 s m #[Value.ref b] below meth c H locs (64 + 8 * i) (4096 + 240 * i) Q (F0 m 200 ls []) := by
  have hbA : ¬ (fun q : Nat => s.heap.size ≤ q) b := Nat.not_le.mpr hbl
  refine lv_aload_n hx hb dL_law_200 rfl (lv_at hl 3 rfl) ?_
  refine lv_aload_n hx hb dL_law_201 rfl (lv_at hl 1 rfl) ?_
  have hFc := my_free hD hS (fun q h => h)
  refine va_calli (vx_runSW (As := [.ref Ad.1, .ref o]) (rest := []) ⟨hx, hb, hml, hown, hts⟩ (wL_swipe l hl0 D ca H.size Ad g o v0  hRel.2.1 (rel_z hRel)) (vx_cwSW 2 hts gL_law_L_swipe rfl rfl rfl (by decide +kernel) ⟨kk_le rfl, kk_le rfl⟩) (psZ hK (my_P_left hP) (my_D_true (my_D_left hD)) (hZ.at hS hFc)) rfl rfl hl.1 rfl (lv_room (kk_le rfl)) dL_law_202 ⟨rm_c (by omega), rm_s (by omega)⟩) hS (fun q _ h => hFc q h) hFc (fun z1 u1 t H1 locs1 ht hvm hw1 hB1 hs1 hk1 hS => ?_)
  obtain ⟨g1, v1⟩ := u1
  obtain ⟨hP1, hD1⟩ := hB1
  rw [ht] at hP1
  obtain ⟨hP, hD⟩ := my_join hP hD hk1 hFc hP1 hD1
  have hP : va_P D vwCl (oW ca o v1 ++ cW ca Ad g1 ++ mW ca Md h) H1 := hP
  have hD : va_D (fun q : Nat => s.heap.size ≤ q) (oW ca o v1 ++ cW ca Ad g1 ++ mW ca Md h) := hD
  refine lv_istore (lv' := [(5, .int z1), (4, .int (nI i)), (3, .ref o), (2, .ref Md.1), (1, .ref Ad.1), (0, .ref b)]) hx hb dL_law_205 hl (by decide) rfl (fun ls hl => ?_)
  refine lv_aload_n hx hb dL_law_207 rfl (lv_at hl 3 rfl) ?_
  have hP9 := my_P_perm hP List.perm_append_comm
  have hD9 := my_D_perm hD List.perm_append_comm
  have hFc := my_free hD9 hS (fun q h => h)
  refine va_calli (va_runV (As := []) (rest := []) ⟨hx, hb, hml, hown, hts⟩ (cM_swipe l D ca H1.size Md h  hRel.2.2.1 (rel_zm hRel) (rel_p hRel)) (cwV 0 hts gL_law_X6_swipe rfl rfl rfl (by decide +kernel) ⟨kk_le rfl, kk_le rfl⟩) (pvM hK (my_P_left hP9) (my_D_true (my_D_left hD9)) (mW_rc hK (my_P_left hP9))) rfl rfl hl.1 rfl (lv_room (kk_le rfl)) dL_law_208 ⟨rm_c (by omega), rm_s (by omega)⟩) hS (fun q _ h => hFc q h) hFc (fun z2 h2 t H2 locs2 ht hvm hw2 hB2 hs2 hk2 hS => ?_)
  obtain ⟨hP2, hD2⟩ := hB2
  rw [ht] at hP2
  obtain ⟨hP, hD⟩ := my_join hP9 hD9 hk2 hFc hP2 hD2
  have hP : va_P D vwCl (oW ca o v1 ++ cW ca Ad g1 ++ mW ca Md h2) H2 := my_P_perm hP List.perm_append_comm
  have hD : va_D (fun q : Nat => s.heap.size ≤ q) (oW ca o v1 ++ cW ca Ad g1 ++ mW ca Md h2) := my_D_perm hD List.perm_append_comm
  refine lv_istore (lv' := [(6, .int z2), (5, .int z1), (4, .int (nI i)), (3, .ref o), (2, .ref Md.1), (1, .ref Ad.1), (0, .ref b)]) hx hb dL_law_211 hl (by decide) rfl (fun ls hl => ?_)
  refine lv_aload_n hx hb dL_law_213 rfl (lv_at hl 4 rfl) ?_
  have hP9 := my_P_perm hP List.perm_append_comm
  have hD9 := my_D_perm hD List.perm_append_comm
  have hFc := my_free hD9 hS (fun q h => h)
  refine va_calli (va_runV (As := []) (rest := []) ⟨hx, hb, hml, hown, hts⟩ (cM_thrown l D ca H2.size Md h2) (cwV 0 hts gL_law_X6_thrown rfl rfl rfl (by decide +kernel) ⟨kk_le rfl, kk_le rfl⟩) (pvM hK (my_P_left hP9) (my_D_true (my_D_left hD9)) (mW_rc hK (my_P_left hP9))) rfl rfl hl.1 rfl (lv_room (kk_le rfl)) dL_law_214 ⟨rm_c (by omega), rm_s (by omega)⟩) hS (fun q _ h => hFc q h) hFc (fun z3 h3 t H3 locs3 ht hvm hw3 hB3 hs3 hk3 hS => ?_)
  obtain ⟨hP3, hD3⟩ := hB3
  rw [ht] at hP3
  obtain ⟨e3, e4⟩ := hw3
  subst e4
  obtain ⟨hP, hD⟩ := my_join hP9 hD9 hk3 hFc hP3 hD3
  have hP : va_P D vwCl (oW ca o v1 ++ cW ca Ad g1 ++ mW ca Md h3) H3 := my_P_perm hP List.perm_append_comm
  have hD : va_D (fun q : Nat => s.heap.size ≤ q) (oW ca o v1 ++ cW ca Ad g1 ++ mW ca Md h3) := my_D_perm hD List.perm_append_comm
  obtain ⟨f1, f2⟩ := hw2
  have e1 : thM h3 = z1 := by have q := hw1.1; rw [hRel.1, f1] at q; exact q
  have e2 : z1 = nI 0 → v1 0 = z2.toInt64 := by have q := hw1.2.1; rw [hRel.1, f1] at q; exact q
  have hR : RelL (i + 3) g1 h3 := rel_next (R := (fun s9 => R_swipe s9)) hRel (so_swipe) (by omega) hw1.2.2.1 hw1.2.2.2 (by rw [f1]) f2
  refine lv_iload hx hb dL_law_217 (lv_at hl 1 rfl) ?_
  refine lv_icmp_eq (tgt := 224) hx hb dL_law_219 (by decide) (fun c5 => ?_) (fun c5 => absurd (e3.trans e1) c5)
  refine lv_iload hx hb dL_law_224 (lv_at hl 1 rfl) ?_
  refine lv_if_ne (tgt := 241) hx hb dL_law_226 (by decide) (fun c4 => ?_) (fun c4 => ?_)
  · refine lv_goto (tgt := 1424) hx hb dL_law_241 (by decide) ?_
    refine W.widen (k := 64 + 8 * i + 24) (n := 4096 + 240 * i + 720) (by omega) (by omega) ?_
    exact hN g1 h3 v1 _ _ _ hR hP hD hS (lv_sub hl [2, 3, 4, 5, 6] rfl)
  · refine lv_aload_n hx hb dL_law_229 rfl (lv_at hl 3 rfl) ?_
    refine lv_iconst (v := nI 0) hx hb dL_law_230 (by decide) ?_
    refine my_lald hx hb hK hP 0 rfl (by omega) (by omega) dL_law_231 ?_
    refine lv_iload hx hb dL_law_232 (lv_at hl 0 rfl) ?_
    refine lv_i2l hx hb dL_law_234 rfl ?_
    refine W.lcmp hx hb dL_law_235 ?_
    refine lv_if_eq (tgt := 241) hx hb dL_law_236 (by decide) (fun c3 => ?_) (fun c3 => absurd ((lg_cmp_eq _ _).mpr (e2 c4)) c3)
    refine lv_goto (tgt := 1424) hx hb dL_law_241 (by decide) ?_
    refine W.widen (k := 64 + 8 * i + 24) (n := 4096 + 240 * i + 720) (by omega) (by omega) ?_
    exact hN g1 h3 v1 _ _ _ hR hP hD hS (lv_sub hl [2, 3, 4, 5, 6] rfl)
set_option maxHeartbeats 8000000 in
set_option maxRecDepth 100000 in
theorem lwc_2 {p : Program} {e : Env} {s : State} {m : MethodId} {below : List Frame} {meth : Method} {c : Code} {l : Launch} (hl0 : l.stackTraces = false) {b L : Nat} {xs : Nat → Int32} (hL : L ≤ 1536) (hx : p.tables.exec = Jvm.exec) (hb : c.code = code) (hml : c.maxLocals = 9) (hown : s.vm.findClass RL = some m.cls) (hts : ∀ w ∈ wsL_law, w.before #[Value.ref b] s = true) (hX : va_X b L xs s s.heap) (hbl : b < s.heap.size) {D : va_G} {ca : Nat → ClassId} (hK : KK D ca s) (hZ : ZZ (fun q : Nat => s.heap.size ≤ q) s s.heap) {Q : State → Prop} {Ad : CA} {Md : MA} {o : Nat} {i : Nat} (hi : i + 3 ≤ L) {g : CG} {h : MG} {v0 : Nat → Int64} (hRel : RelL i g h) {H : Heap} {locs : List Loc} (hP : va_P D vwCl (oW ca o v0 ++ cW ca Ad g ++ mW ca Md h) H) (hD : va_D (fun q : Nat => s.heap.size ≤ q) (oW ca o v0 ++ cW ca Ad g ++ mW ca Md h)) (hS : va_S (fun q : Nat => s.heap.size ≤ q) s.heap H locs) {ls : Array Slot} (hl : lv_has ls 9 [(4, .int (nI i)), (3, .ref o), (2, .ref Md.1), (1, .ref Ad.1), (0, .ref b)])
    (hN : ∀ (g' : CG) (h' : MG) (v' : Nat → Int64) (H' : Heap) (locs' : List Loc) (ls' : Array Slot), RelL (i + 3) g' h' → va_P D vwCl (oW ca o v' ++ cW ca Ad g' ++ mW ca Md h') H' → va_D (fun q : Nat => s.heap.size ≤ q) (oW ca o v' ++ cW ca Ad g' ++ mW ca Md h') → va_S (fun q : Nat => s.heap.size ≤ q) s.heap H' locs' → lv_has ls' 9 [(4, .int (nI i)), (3, .ref o), (2, .ref Md.1), (1, .ref Ad.1), (0, .ref b)] → W p l e room_1 s m #[Value.ref b] below meth c H' locs' (64 + 8 * i + 24) (4096 + 240 * i + 720) Q (F0 m 1424 ls' [])) :
    W p l e room_1 s m #[Value.ref b] below meth c H locs (64 + 8 * i) (4096 + 240 * i) Q (F0 m 244 ls []) := by
  have hbA : ¬ (fun q : Nat => s.heap.size ≤ q) b := Nat.not_le.mpr hbl
  refine lv_aload_n hx hb dL_law_244 rfl (lv_at hl 3 rfl) ?_
  have hP9 : va_P D vwCl (cW ca Ad g ++ (oW ca o v0 ++ mW ca Md h)) H := my_P_perm hP pq_1
  have hD9 : va_D (fun q : Nat => s.heap.size ≤ q) (cW ca Ad g ++ (oW ca o v0 ++ mW ca Md h)) := my_D_perm hD pq_1
  have hFc := my_free hD9 hS (fun q h => h)
  refine va_calli (va_runV (As := []) (rest := []) ⟨hx, hb, hml, hown, hts⟩ (cC_turn l D ca H.size Ad g hRel.2.1 (rel_z hRel)) (cwV 0 hts gL_law_X5_turn rfl rfl rfl (by decide +kernel) ⟨kk_le rfl, kk_le rfl⟩) (pvZ hK (my_P_left hP9) (my_D_true (my_D_left hD9)) (hZ.at hS hFc) (cW_rc hK (my_P_left hP9))) rfl rfl hl.1 rfl (lv_room (kk_le rfl)) dL_law_245 ⟨rm_c (by omega), rm_s (by omega)⟩) hS (fun q _ h => hFc q h) hFc (fun z1 g1 t H1 locs1 ht hvm hw1 hB1 hs1 hk1 hS => ?_)
  obtain ⟨hP1, hD1⟩ := hB1
  rw [ht] at hP1
  obtain ⟨hP, hD⟩ := my_join hP9 hD9 hk1 hFc hP1 hD1
  have hP : va_P D vwCl (oW ca o v0 ++ cW ca Ad g1 ++ mW ca Md h) H1 := my_P_perm hP pq_1.symm
  have hD : va_D (fun q : Nat => s.heap.size ≤ q) (oW ca o v0 ++ cW ca Ad g1 ++ mW ca Md h) := my_D_perm hD pq_1.symm
  refine lv_aload_n hx hb dL_law_248 rfl (lv_at hl 2 rfl) ?_
  have hP9 := my_P_perm hP List.perm_append_comm
  have hD9 := my_D_perm hD List.perm_append_comm
  have hFc := my_free hD9 hS (fun q h => h)
  refine va_calli (va_runV (As := []) (rest := [.int z1]) ⟨hx, hb, hml, hown, hts⟩ (cM_turn l D ca H1.size Md h  hRel.2.2.1 (rel_zm hRel) (rel_p hRel)) (cwV 0 hts gL_law_X6_turn rfl rfl rfl (by decide +kernel) ⟨kk_le rfl, kk_le rfl⟩) (pvM hK (my_P_left hP9) (my_D_true (my_D_left hD9)) (mW_rc hK (my_P_left hP9))) rfl rfl hl.1 rfl (lv_room (kk_le rfl)) dL_law_249 ⟨rm_c (by omega), rm_s (by omega)⟩) hS (fun q _ h => hFc q h) hFc (fun z2 h2 t H2 locs2 ht hvm hw2 hB2 hs2 hk2 hS => ?_)
  obtain ⟨hP2, hD2⟩ := hB2
  rw [ht] at hP2
  obtain ⟨hP, hD⟩ := my_join hP9 hD9 hk2 hFc hP2 hD2
  have hP : va_P D vwCl (oW ca o v0 ++ cW ca Ad g1 ++ mW ca Md h2) H2 := my_P_perm hP List.perm_append_comm
  have hD : va_D (fun q : Nat => s.heap.size ≤ q) (oW ca o v0 ++ cW ca Ad g1 ++ mW ca Md h2) := my_D_perm hD List.perm_append_comm
  obtain ⟨f1, f2⟩ := hw2
  have e1 : z1 = z2 := by have q := hw1.1; rw [hRel.1, f1] at q; exact (congrArg (fun y : RT => y.2.1) q).symm
  have hR : RelL (i + 3) g1 h2 := rel_next (R := R_turn) hRel so_turn (by omega) (by rw [hw1.1]) hw1.2 (by rw [f1]) f2
  refine lv_icmp_eq (tgt := 1424) hx hb dL_law_252 (by decide) (fun c5 => ?_) (fun c5 => absurd e1 c5)
  refine W.widen (k := 64 + 8 * i + 24) (n := 4096 + 240 * i + 720) (by omega) (by omega) ?_
  exact hN g1 h2 v0 _ _ _ hR hP hD hS (lv_sub hl [0, 1, 2, 3, 4] rfl)
set_option maxHeartbeats 8000000 in
set_option maxRecDepth 100000 in
theorem lwc_3 {p : Program} {e : Env} {s : State} {m : MethodId} {below : List Frame} {meth : Method} {c : Code} {l : Launch} (hl0 : l.stackTraces = false) {b L : Nat} {xs : Nat → Int32} (hL : L ≤ 1536) (hx : p.tables.exec = Jvm.exec) (hb : c.code = code) (hml : c.maxLocals = 9) (hown : s.vm.findClass RL = some m.cls) (hts : ∀ w ∈ wsL_law, w.before #[Value.ref b] s = true) (hX : va_X b L xs s s.heap) (hbl : b < s.heap.size) {D : va_G} {ca : Nat → ClassId} (hK : KK D ca s) (hZ : ZZ (fun q : Nat => s.heap.size ≤ q) s s.heap) {Q : State → Prop} {Ad : CA} {Md : MA} {o : Nat} {i : Nat} (hi : i + 3 ≤ L) {g : CG} {h : MG} {v0 : Nat → Int64} (hRel : RelL i g h) {H : Heap} {locs : List Loc} (hP : va_P D vwCl (oW ca o v0 ++ cW ca Ad g ++ mW ca Md h) H) (hD : va_D (fun q : Nat => s.heap.size ≤ q) (oW ca o v0 ++ cW ca Ad g ++ mW ca Md h)) (hS : va_S (fun q : Nat => s.heap.size ≤ q) s.heap H locs) {ls : Array Slot} (hl : lv_has ls 9 [(4, .int (nI i)), (3, .ref o), (2, .ref Md.1), (1, .ref Ad.1), (0, .ref b)])
    (hN : ∀ (g' : CG) (h' : MG) (v' : Nat → Int64) (H' : Heap) (locs' : List Loc) (ls' : Array Slot), RelL (i + 3) g' h' → va_P D vwCl (oW ca o v' ++ cW ca Ad g' ++ mW ca Md h') H' → va_D (fun q : Nat => s.heap.size ≤ q) (oW ca o v' ++ cW ca Ad g' ++ mW ca Md h') → va_S (fun q : Nat => s.heap.size ≤ q) s.heap H' locs' → lv_has ls' 9 [(4, .int (nI i)), (3, .ref o), (2, .ref Md.1), (1, .ref Ad.1), (0, .ref b)] → W p l e room_1 s m #[Value.ref b] below meth c H' locs' (64 + 8 * i + 24) (4096 + 240 * i + 720) Q (F0 m 1424 ls' [])) :
    W p l e room_1 s m #[Value.ref b] below meth c H locs (64 + 8 * i) (4096 + 240 * i) Q (F0 m 257 ls []) := by
  have hbA : ¬ (fun q : Nat => s.heap.size ≤ q) b := Nat.not_le.mpr hbl
  refine lv_aload_n hx hb dL_law_257 rfl (lv_at hl 3 rfl) ?_
  refine lv_aload_n hx hb dL_law_258 rfl (lv_at hl 4 rfl) ?_
  refine lv_iload hx hb dL_law_259 (lv_at hl 0 rfl) ?_
  refine lv_iconst (v := nI 1) hx hb dL_law_261 (by decide) ?_
  refine ni_iadd hx hb dL_law_262 ?_
  refine va_sld hx hb hX hbl hbA hS (vp_in_nI (by omega) (by omega)) dL_law_263 ?_
  rw [nI_clamp (by omega)]
  refine lv_aload_n hx hb dL_law_264 rfl (lv_at hl 1 rfl) ?_
  have hFc := my_free hD hS (fun q h => h)
  refine va_calli (vx_runSW (As := [.ref Ad.1, .int (xs (i + 1)), .ref o]) (rest := []) ⟨hx, hb, hml, hown, hts⟩ (wL_join l hl0 D ca H.size Ad g o v0 (xs (i + 1)) hRel.2.1 (rel_z hRel)) (vx_cwSW 3 hts gL_law_L_join rfl rfl rfl (by decide +kernel) ⟨kk_le rfl, kk_le rfl⟩) (psZ hK (my_P_left hP) (my_D_true (my_D_left hD)) (hZ.at hS hFc)) rfl rfl hl.1 rfl (lv_room (kk_le rfl)) dL_law_265 ⟨rm_c (by omega), rm_s (by omega)⟩) hS (fun q _ h => hFc q h) hFc (fun z1 u1 t H1 locs1 ht hvm hw1 hB1 hs1 hk1 hS => ?_)
  obtain ⟨g1, v1⟩ := u1
  obtain ⟨hP1, hD1⟩ := hB1
  rw [ht] at hP1
  obtain ⟨hP, hD⟩ := my_join hP hD hk1 hFc hP1 hD1
  have hP : va_P D vwCl (oW ca o v1 ++ cW ca Ad g1 ++ mW ca Md h) H1 := hP
  have hD : va_D (fun q : Nat => s.heap.size ≤ q) (oW ca o v1 ++ cW ca Ad g1 ++ mW ca Md h) := hD
  refine lv_istore (lv' := [(5, .int z1), (4, .int (nI i)), (3, .ref o), (2, .ref Md.1), (1, .ref Ad.1), (0, .ref b)]) hx hb dL_law_268 hl (by decide) rfl (fun ls hl => ?_)
  refine lv_aload_n hx hb dL_law_270 rfl (lv_at hl 3 rfl) ?_
  refine lv_aload_n hx hb dL_law_271 rfl (lv_at hl 5 rfl) ?_
  refine lv_iload hx hb dL_law_272 (lv_at hl 1 rfl) ?_
  refine lv_iconst (v := nI 1) hx hb dL_law_274 (by decide) ?_
  refine ni_iadd hx hb dL_law_275 ?_
  refine va_sld hx hb hX hbl hbA hS (vp_in_nI (by omega) (by omega)) dL_law_276 ?_
  rw [nI_clamp (by omega)]
  have hP9 := my_P_perm hP List.perm_append_comm
  have hD9 := my_D_perm hD List.perm_append_comm
  have hFc := my_free hD9 hS (fun q h => h)
  refine va_calli (va_runV (As := [.int (xs (i + 1))]) (rest := []) ⟨hx, hb, hml, hown, hts⟩ (cM_join l D ca H1.size Md h (xs (i + 1)) hRel.2.2.1 (rel_zm hRel) (rel_p hRel)) (cwV 1 hts gL_law_X6_join rfl rfl rfl (by decide +kernel) ⟨kk_le rfl, kk_le rfl⟩) (pvM hK (my_P_left hP9) (my_D_true (my_D_left hD9)) (mW_rc hK (my_P_left hP9))) rfl rfl hl.1 rfl (lv_room (kk_le rfl)) dL_law_277 ⟨rm_c (by omega), rm_s (by omega)⟩) hS (fun q _ h => hFc q h) hFc (fun z2 h2 t H2 locs2 ht hvm hw2 hB2 hs2 hk2 hS => ?_)
  obtain ⟨hP2, hD2⟩ := hB2
  rw [ht] at hP2
  obtain ⟨hP, hD⟩ := my_join hP9 hD9 hk2 hFc hP2 hD2
  have hP : va_P D vwCl (oW ca o v1 ++ cW ca Ad g1 ++ mW ca Md h2) H2 := my_P_perm hP List.perm_append_comm
  have hD : va_D (fun q : Nat => s.heap.size ≤ q) (oW ca o v1 ++ cW ca Ad g1 ++ mW ca Md h2) := my_D_perm hD List.perm_append_comm
  refine lv_istore (lv' := [(6, .int z2), (5, .int z1), (4, .int (nI i)), (3, .ref o), (2, .ref Md.1), (1, .ref Ad.1), (0, .ref b)]) hx hb dL_law_280 hl (by decide) rfl (fun ls hl => ?_)
  refine lv_aload_n hx hb dL_law_282 rfl (lv_at hl 4 rfl) ?_
  have hP9 := my_P_perm hP List.perm_append_comm
  have hD9 := my_D_perm hD List.perm_append_comm
  have hFc := my_free hD9 hS (fun q h => h)
  refine va_calli (va_runV (As := []) (rest := []) ⟨hx, hb, hml, hown, hts⟩ (cM_thrown l D ca H2.size Md h2) (cwV 0 hts gL_law_X6_thrown rfl rfl rfl (by decide +kernel) ⟨kk_le rfl, kk_le rfl⟩) (pvM hK (my_P_left hP9) (my_D_true (my_D_left hD9)) (mW_rc hK (my_P_left hP9))) rfl rfl hl.1 rfl (lv_room (kk_le rfl)) dL_law_283 ⟨rm_c (by omega), rm_s (by omega)⟩) hS (fun q _ h => hFc q h) hFc (fun z3 h3 t H3 locs3 ht hvm hw3 hB3 hs3 hk3 hS => ?_)
  obtain ⟨hP3, hD3⟩ := hB3
  rw [ht] at hP3
  obtain ⟨e3, e4⟩ := hw3
  subst e4
  obtain ⟨hP, hD⟩ := my_join hP9 hD9 hk3 hFc hP3 hD3
  have hP : va_P D vwCl (oW ca o v1 ++ cW ca Ad g1 ++ mW ca Md h3) H3 := my_P_perm hP List.perm_append_comm
  have hD : va_D (fun q : Nat => s.heap.size ≤ q) (oW ca o v1 ++ cW ca Ad g1 ++ mW ca Md h3) := my_D_perm hD List.perm_append_comm
  obtain ⟨f1, f2⟩ := hw2
  have e1 : thM h3 = z1 := by have q := hw1.1; rw [hRel.1, f1] at q; exact q
  have e2 : z1 = nI 0 → v1 0 = z2.toInt64 := by have q := hw1.2.1; rw [hRel.1, f1] at q; exact q
  have hR : RelL (i + 3) g1 h3 := rel_next (R := (fun s9 => R_join s9 (xs (i + 1)))) hRel (so_join (xs (i + 1))) (by omega) hw1.2.2.1 hw1.2.2.2 (by rw [f1]) f2
  refine lv_iload hx hb dL_law_286 (lv_at hl 1 rfl) ?_
  refine lv_icmp_eq (tgt := 293) hx hb dL_law_288 (by decide) (fun c5 => ?_) (fun c5 => absurd (e3.trans e1) c5)
  refine lv_iload hx hb dL_law_293 (lv_at hl 1 rfl) ?_
  refine lv_if_ne (tgt := 310) hx hb dL_law_295 (by decide) (fun c4 => ?_) (fun c4 => ?_)
  · refine lv_goto (tgt := 1424) hx hb dL_law_310 (by decide) ?_
    refine W.widen (k := 64 + 8 * i + 24) (n := 4096 + 240 * i + 720) (by omega) (by omega) ?_
    exact hN g1 h3 v1 _ _ _ hR hP hD hS (lv_sub hl [2, 3, 4, 5, 6] rfl)
  · refine lv_aload_n hx hb dL_law_298 rfl (lv_at hl 3 rfl) ?_
    refine lv_iconst (v := nI 0) hx hb dL_law_299 (by decide) ?_
    refine my_lald hx hb hK hP 0 rfl (by omega) (by omega) dL_law_300 ?_
    refine lv_iload hx hb dL_law_301 (lv_at hl 0 rfl) ?_
    refine lv_i2l hx hb dL_law_303 rfl ?_
    refine W.lcmp hx hb dL_law_304 ?_
    refine lv_if_eq (tgt := 310) hx hb dL_law_305 (by decide) (fun c3 => ?_) (fun c3 => absurd ((lg_cmp_eq _ _).mpr (e2 c4)) c3)
    refine lv_goto (tgt := 1424) hx hb dL_law_310 (by decide) ?_
    refine W.widen (k := 64 + 8 * i + 24) (n := 4096 + 240 * i + 720) (by omega) (by omega) ?_
    exact hN g1 h3 v1 _ _ _ hR hP hD hS (lv_sub hl [2, 3, 4, 5, 6] rfl)
set_option maxHeartbeats 8000000 in
set_option maxRecDepth 100000 in
theorem lwc_4 {p : Program} {e : Env} {s : State} {m : MethodId} {below : List Frame} {meth : Method} {c : Code} {l : Launch} (hl0 : l.stackTraces = false) {b L : Nat} {xs : Nat → Int32} (hL : L ≤ 1536) (hx : p.tables.exec = Jvm.exec) (hb : c.code = code) (hml : c.maxLocals = 9) (hown : s.vm.findClass RL = some m.cls) (hts : ∀ w ∈ wsL_law, w.before #[Value.ref b] s = true) (hX : va_X b L xs s s.heap) (hbl : b < s.heap.size) {D : va_G} {ca : Nat → ClassId} (hK : KK D ca s) (hZ : ZZ (fun q : Nat => s.heap.size ≤ q) s s.heap) {Q : State → Prop} {Ad : CA} {Md : MA} {o : Nat} {i : Nat} (hi : i + 3 ≤ L) {g : CG} {h : MG} {v0 : Nat → Int64} (hRel : RelL i g h) {H : Heap} {locs : List Loc} (hP : va_P D vwCl (oW ca o v0 ++ cW ca Ad g ++ mW ca Md h) H) (hD : va_D (fun q : Nat => s.heap.size ≤ q) (oW ca o v0 ++ cW ca Ad g ++ mW ca Md h)) (hS : va_S (fun q : Nat => s.heap.size ≤ q) s.heap H locs) {ls : Array Slot} (hl : lv_has ls 9 [(4, .int (nI i)), (3, .ref o), (2, .ref Md.1), (1, .ref Ad.1), (0, .ref b)])
    (hN : ∀ (g' : CG) (h' : MG) (v' : Nat → Int64) (H' : Heap) (locs' : List Loc) (ls' : Array Slot), RelL (i + 3) g' h' → va_P D vwCl (oW ca o v' ++ cW ca Ad g' ++ mW ca Md h') H' → va_D (fun q : Nat => s.heap.size ≤ q) (oW ca o v' ++ cW ca Ad g' ++ mW ca Md h') → va_S (fun q : Nat => s.heap.size ≤ q) s.heap H' locs' → lv_has ls' 9 [(4, .int (nI i)), (3, .ref o), (2, .ref Md.1), (1, .ref Ad.1), (0, .ref b)] → W p l e room_1 s m #[Value.ref b] below meth c H' locs' (64 + 8 * i + 24) (4096 + 240 * i + 720) Q (F0 m 1424 ls' [])) :
    W p l e room_1 s m #[Value.ref b] below meth c H locs (64 + 8 * i) (4096 + 240 * i) Q (F0 m 313 ls []) := by
  have hbA : ¬ (fun q : Nat => s.heap.size ≤ q) b := Nat.not_le.mpr hbl
  refine lv_aload_n hx hb dL_law_313 rfl (lv_at hl 3 rfl) ?_
  refine lv_aload_n hx hb dL_law_314 rfl (lv_at hl 4 rfl) ?_
  refine lv_iload hx hb dL_law_315 (lv_at hl 0 rfl) ?_
  refine lv_iconst (v := nI 1) hx hb dL_law_317 (by decide) ?_
  refine ni_iadd hx hb dL_law_318 ?_
  refine va_sld hx hb hX hbl hbA hS (vp_in_nI (by omega) (by omega)) dL_law_319 ?_
  rw [nI_clamp (by omega)]
  refine lv_aload_n hx hb dL_law_320 rfl (lv_at hl 4 rfl) ?_
  refine lv_iload hx hb dL_law_321 (lv_at hl 0 rfl) ?_
  refine lv_iconst (v := nI 2) hx hb dL_law_323 (by decide) ?_
  refine ni_iadd hx hb dL_law_324 ?_
  refine va_sld hx hb hX hbl hbA hS (vp_in_nI (by omega) (by omega)) dL_law_325 ?_
  rw [nI_clamp (by omega)]
  refine lv_aload_n hx hb dL_law_326 rfl (lv_at hl 1 rfl) ?_
  have hFc := my_free hD hS (fun q h => h)
  refine va_calli (vx_runSW (As := [.ref Ad.1, .int (xs (i + 1)), .int (xs (i + 2)), .ref o]) (rest := []) ⟨hx, hb, hml, hown, hts⟩ (wL_scratch l hl0 D ca H.size Ad g o v0 (xs (i + 1)) (xs (i + 2)) hRel.2.1 (rel_z hRel)) (vx_cwSW 4 hts gL_law_L_scratch rfl rfl rfl (by decide +kernel) ⟨kk_le rfl, kk_le rfl⟩) (psZ hK (my_P_left hP) (my_D_true (my_D_left hD)) (hZ.at hS hFc)) rfl rfl hl.1 rfl (lv_room (kk_le rfl)) dL_law_327 ⟨rm_c (by omega), rm_s (by omega)⟩) hS (fun q _ h => hFc q h) hFc (fun z1 u1 t H1 locs1 ht hvm hw1 hB1 hs1 hk1 hS => ?_)
  obtain ⟨g1, v1⟩ := u1
  obtain ⟨hP1, hD1⟩ := hB1
  rw [ht] at hP1
  obtain ⟨hP, hD⟩ := my_join hP hD hk1 hFc hP1 hD1
  have hP : va_P D vwCl (oW ca o v1 ++ cW ca Ad g1 ++ mW ca Md h) H1 := hP
  have hD : va_D (fun q : Nat => s.heap.size ≤ q) (oW ca o v1 ++ cW ca Ad g1 ++ mW ca Md h) := hD
  refine lv_istore (lv' := [(5, .int z1), (4, .int (nI i)), (3, .ref o), (2, .ref Md.1), (1, .ref Ad.1), (0, .ref b)]) hx hb dL_law_330 hl (by decide) rfl (fun ls hl => ?_)
  refine lv_aload_n hx hb dL_law_332 rfl (lv_at hl 3 rfl) ?_
  refine lv_aload_n hx hb dL_law_333 rfl (lv_at hl 5 rfl) ?_
  refine lv_iload hx hb dL_law_334 (lv_at hl 1 rfl) ?_
  refine lv_iconst (v := nI 1) hx hb dL_law_336 (by decide) ?_
  refine ni_iadd hx hb dL_law_337 ?_
  refine va_sld hx hb hX hbl hbA hS (vp_in_nI (by omega) (by omega)) dL_law_338 ?_
  rw [nI_clamp (by omega)]
  refine lv_aload_n hx hb dL_law_339 rfl (lv_at hl 5 rfl) ?_
  refine lv_iload hx hb dL_law_340 (lv_at hl 1 rfl) ?_
  refine lv_iconst (v := nI 2) hx hb dL_law_342 (by decide) ?_
  refine ni_iadd hx hb dL_law_343 ?_
  refine va_sld hx hb hX hbl hbA hS (vp_in_nI (by omega) (by omega)) dL_law_344 ?_
  rw [nI_clamp (by omega)]
  have hP9 := my_P_perm hP List.perm_append_comm
  have hD9 := my_D_perm hD List.perm_append_comm
  have hFc := my_free hD9 hS (fun q h => h)
  refine va_calli (va_runV (As := [.int (xs (i + 1)), .int (xs (i + 2))]) (rest := []) ⟨hx, hb, hml, hown, hts⟩ (cM_scratch l D ca H1.size Md h (xs (i + 1)) (xs (i + 2)) hRel.2.2.1 (rel_zm hRel) (rel_p hRel)) (cwV 2 hts gL_law_X6_scratch rfl rfl rfl (by decide +kernel) ⟨kk_le rfl, kk_le rfl⟩) (pvM hK (my_P_left hP9) (my_D_true (my_D_left hD9)) (mW_rc hK (my_P_left hP9))) rfl rfl hl.1 rfl (lv_room (kk_le rfl)) dL_law_345 ⟨rm_c (by omega), rm_s (by omega)⟩) hS (fun q _ h => hFc q h) hFc (fun z2 h2 t H2 locs2 ht hvm hw2 hB2 hs2 hk2 hS => ?_)
  obtain ⟨hP2, hD2⟩ := hB2
  rw [ht] at hP2
  obtain ⟨hP, hD⟩ := my_join hP9 hD9 hk2 hFc hP2 hD2
  have hP : va_P D vwCl (oW ca o v1 ++ cW ca Ad g1 ++ mW ca Md h2) H2 := my_P_perm hP List.perm_append_comm
  have hD : va_D (fun q : Nat => s.heap.size ≤ q) (oW ca o v1 ++ cW ca Ad g1 ++ mW ca Md h2) := my_D_perm hD List.perm_append_comm
  refine lv_istore (lv' := [(6, .int z2), (5, .int z1), (4, .int (nI i)), (3, .ref o), (2, .ref Md.1), (1, .ref Ad.1), (0, .ref b)]) hx hb dL_law_348 hl (by decide) rfl (fun ls hl => ?_)
  refine lv_aload_n hx hb dL_law_350 rfl (lv_at hl 4 rfl) ?_
  have hP9 := my_P_perm hP List.perm_append_comm
  have hD9 := my_D_perm hD List.perm_append_comm
  have hFc := my_free hD9 hS (fun q h => h)
  refine va_calli (va_runV (As := []) (rest := []) ⟨hx, hb, hml, hown, hts⟩ (cM_thrown l D ca H2.size Md h2) (cwV 0 hts gL_law_X6_thrown rfl rfl rfl (by decide +kernel) ⟨kk_le rfl, kk_le rfl⟩) (pvM hK (my_P_left hP9) (my_D_true (my_D_left hD9)) (mW_rc hK (my_P_left hP9))) rfl rfl hl.1 rfl (lv_room (kk_le rfl)) dL_law_351 ⟨rm_c (by omega), rm_s (by omega)⟩) hS (fun q _ h => hFc q h) hFc (fun z3 h3 t H3 locs3 ht hvm hw3 hB3 hs3 hk3 hS => ?_)
  obtain ⟨hP3, hD3⟩ := hB3
  rw [ht] at hP3
  obtain ⟨e3, e4⟩ := hw3
  subst e4
  obtain ⟨hP, hD⟩ := my_join hP9 hD9 hk3 hFc hP3 hD3
  have hP : va_P D vwCl (oW ca o v1 ++ cW ca Ad g1 ++ mW ca Md h3) H3 := my_P_perm hP List.perm_append_comm
  have hD : va_D (fun q : Nat => s.heap.size ≤ q) (oW ca o v1 ++ cW ca Ad g1 ++ mW ca Md h3) := my_D_perm hD List.perm_append_comm
  obtain ⟨f1, f2⟩ := hw2
  have e1 : thM h3 = z1 := by have q := hw1.1; rw [hRel.1, f1] at q; exact q
  have e2 : z1 = nI 0 → v1 0 = z2.toInt64 := by have q := hw1.2.1; rw [hRel.1, f1] at q; exact q
  have hR : RelL (i + 3) g1 h3 := rel_next (R := (fun s9 => R_scratch s9 (xs (i + 1)) (xs (i + 2)))) hRel (so_scratch (xs (i + 1)) (xs (i + 2))) (by omega) hw1.2.2.1 hw1.2.2.2 (by rw [f1]) f2
  refine lv_iload hx hb dL_law_354 (lv_at hl 1 rfl) ?_
  refine lv_icmp_eq (tgt := 361) hx hb dL_law_356 (by decide) (fun c5 => ?_) (fun c5 => absurd (e3.trans e1) c5)
  refine lv_iload hx hb dL_law_361 (lv_at hl 1 rfl) ?_
  refine lv_if_ne (tgt := 378) hx hb dL_law_363 (by decide) (fun c4 => ?_) (fun c4 => ?_)
  · refine lv_goto (tgt := 1424) hx hb dL_law_378 (by decide) ?_
    refine W.widen (k := 64 + 8 * i + 24) (n := 4096 + 240 * i + 720) (by omega) (by omega) ?_
    exact hN g1 h3 v1 _ _ _ hR hP hD hS (lv_sub hl [2, 3, 4, 5, 6] rfl)
  · refine lv_aload_n hx hb dL_law_366 rfl (lv_at hl 3 rfl) ?_
    refine lv_iconst (v := nI 0) hx hb dL_law_367 (by decide) ?_
    refine my_lald hx hb hK hP 0 rfl (by omega) (by omega) dL_law_368 ?_
    refine lv_iload hx hb dL_law_369 (lv_at hl 0 rfl) ?_
    refine lv_i2l hx hb dL_law_371 rfl ?_
    refine W.lcmp hx hb dL_law_372 ?_
    refine lv_if_eq (tgt := 378) hx hb dL_law_373 (by decide) (fun c3 => ?_) (fun c3 => absurd ((lg_cmp_eq _ _).mpr (e2 c4)) c3)
    refine lv_goto (tgt := 1424) hx hb dL_law_378 (by decide) ?_
    refine W.widen (k := 64 + 8 * i + 24) (n := 4096 + 240 * i + 720) (by omega) (by omega) ?_
    exact hN g1 h3 v1 _ _ _ hR hP hD hS (lv_sub hl [2, 3, 4, 5, 6] rfl)
set_option maxHeartbeats 8000000 in
set_option maxRecDepth 100000 in
theorem lwc_5 {p : Program} {e : Env} {s : State} {m : MethodId} {below : List Frame} {meth : Method} {c : Code} {l : Launch} (hl0 : l.stackTraces = false) {b L : Nat} {xs : Nat → Int32} (hL : L ≤ 1536) (hx : p.tables.exec = Jvm.exec) (hb : c.code = code) (hml : c.maxLocals = 9) (hown : s.vm.findClass RL = some m.cls) (hts : ∀ w ∈ wsL_law, w.before #[Value.ref b] s = true) (hX : va_X b L xs s s.heap) (hbl : b < s.heap.size) {D : va_G} {ca : Nat → ClassId} (hK : KK D ca s) (hZ : ZZ (fun q : Nat => s.heap.size ≤ q) s s.heap) {Q : State → Prop} {Ad : CA} {Md : MA} {o : Nat} {i : Nat} (hi : i + 3 ≤ L) {g : CG} {h : MG} {v0 : Nat → Int64} (hRel : RelL i g h) {H : Heap} {locs : List Loc} (hP : va_P D vwCl (oW ca o v0 ++ cW ca Ad g ++ mW ca Md h) H) (hD : va_D (fun q : Nat => s.heap.size ≤ q) (oW ca o v0 ++ cW ca Ad g ++ mW ca Md h)) (hS : va_S (fun q : Nat => s.heap.size ≤ q) s.heap H locs) {ls : Array Slot} (hl : lv_has ls 9 [(4, .int (nI i)), (3, .ref o), (2, .ref Md.1), (1, .ref Ad.1), (0, .ref b)])
    (hN : ∀ (g' : CG) (h' : MG) (v' : Nat → Int64) (H' : Heap) (locs' : List Loc) (ls' : Array Slot), RelL (i + 3) g' h' → va_P D vwCl (oW ca o v' ++ cW ca Ad g' ++ mW ca Md h') H' → va_D (fun q : Nat => s.heap.size ≤ q) (oW ca o v' ++ cW ca Ad g' ++ mW ca Md h') → va_S (fun q : Nat => s.heap.size ≤ q) s.heap H' locs' → lv_has ls' 9 [(4, .int (nI i)), (3, .ref o), (2, .ref Md.1), (1, .ref Ad.1), (0, .ref b)] → W p l e room_1 s m #[Value.ref b] below meth c H' locs' (64 + 8 * i + 24) (4096 + 240 * i + 720) Q (F0 m 1424 ls' [])) :
    W p l e room_1 s m #[Value.ref b] below meth c H locs (64 + 8 * i) (4096 + 240 * i) Q (F0 m 381 ls []) := by
  have hbA : ¬ (fun q : Nat => s.heap.size ≤ q) b := Nat.not_le.mpr hbl
  refine lv_aload_n hx hb dL_law_381 rfl (lv_at hl 3 rfl) ?_
  refine lv_aload_n hx hb dL_law_382 rfl (lv_at hl 4 rfl) ?_
  refine lv_iload hx hb dL_law_383 (lv_at hl 0 rfl) ?_
  refine lv_iconst (v := nI 1) hx hb dL_law_385 (by decide) ?_
  refine ni_iadd hx hb dL_law_386 ?_
  refine va_sld hx hb hX hbl hbA hS (vp_in_nI (by omega) (by omega)) dL_law_387 ?_
  rw [nI_clamp (by omega)]
  refine lv_aload_n hx hb dL_law_388 rfl (lv_at hl 4 rfl) ?_
  refine lv_iload hx hb dL_law_389 (lv_at hl 0 rfl) ?_
  refine lv_iconst (v := nI 2) hx hb dL_law_391 (by decide) ?_
  refine ni_iadd hx hb dL_law_392 ?_
  refine va_sld hx hb hX hbl hbA hS (vp_in_nI (by omega) (by omega)) dL_law_393 ?_
  rw [nI_clamp (by omega)]
  refine lv_aload_n hx hb dL_law_394 rfl (lv_at hl 1 rfl) ?_
  have hFc := my_free hD hS (fun q h => h)
  refine va_calli (vx_runSW (As := [.ref Ad.1, .int (xs (i + 1)), .int (xs (i + 2)), .ref o]) (rest := []) ⟨hx, hb, hml, hown, hts⟩ (wL_change l hl0 D ca H.size Ad g o v0 (xs (i + 1)) (xs (i + 2)) hRel.2.1 (rel_z hRel)) (vx_cwSW 4 hts gL_law_L_change rfl rfl rfl (by decide +kernel) ⟨kk_le rfl, kk_le rfl⟩) (psZ hK (my_P_left hP) (my_D_true (my_D_left hD)) (hZ.at hS hFc)) rfl rfl hl.1 rfl (lv_room (kk_le rfl)) dL_law_395 ⟨rm_c (by omega), rm_s (by omega)⟩) hS (fun q _ h => hFc q h) hFc (fun z1 u1 t H1 locs1 ht hvm hw1 hB1 hs1 hk1 hS => ?_)
  obtain ⟨g1, v1⟩ := u1
  obtain ⟨hP1, hD1⟩ := hB1
  rw [ht] at hP1
  obtain ⟨hP, hD⟩ := my_join hP hD hk1 hFc hP1 hD1
  have hP : va_P D vwCl (oW ca o v1 ++ cW ca Ad g1 ++ mW ca Md h) H1 := hP
  have hD : va_D (fun q : Nat => s.heap.size ≤ q) (oW ca o v1 ++ cW ca Ad g1 ++ mW ca Md h) := hD
  refine lv_istore (lv' := [(5, .int z1), (4, .int (nI i)), (3, .ref o), (2, .ref Md.1), (1, .ref Ad.1), (0, .ref b)]) hx hb dL_law_398 hl (by decide) rfl (fun ls hl => ?_)
  refine lv_aload_n hx hb dL_law_400 rfl (lv_at hl 3 rfl) ?_
  refine lv_aload_n hx hb dL_law_401 rfl (lv_at hl 5 rfl) ?_
  refine lv_iload hx hb dL_law_402 (lv_at hl 1 rfl) ?_
  refine lv_iconst (v := nI 1) hx hb dL_law_404 (by decide) ?_
  refine ni_iadd hx hb dL_law_405 ?_
  refine va_sld hx hb hX hbl hbA hS (vp_in_nI (by omega) (by omega)) dL_law_406 ?_
  rw [nI_clamp (by omega)]
  refine lv_aload_n hx hb dL_law_407 rfl (lv_at hl 5 rfl) ?_
  refine lv_iload hx hb dL_law_408 (lv_at hl 1 rfl) ?_
  refine lv_iconst (v := nI 2) hx hb dL_law_410 (by decide) ?_
  refine ni_iadd hx hb dL_law_411 ?_
  refine va_sld hx hb hX hbl hbA hS (vp_in_nI (by omega) (by omega)) dL_law_412 ?_
  rw [nI_clamp (by omega)]
  have hP9 := my_P_perm hP List.perm_append_comm
  have hD9 := my_D_perm hD List.perm_append_comm
  have hFc := my_free hD9 hS (fun q h => h)
  refine va_calli (va_runV (As := [.int (xs (i + 1)), .int (xs (i + 2))]) (rest := []) ⟨hx, hb, hml, hown, hts⟩ (cM_change l D ca H1.size Md h (xs (i + 1)) (xs (i + 2)) hRel.2.2.1 (rel_zm hRel) (rel_p hRel)) (cwV 2 hts gL_law_X6_change rfl rfl rfl (by decide +kernel) ⟨kk_le rfl, kk_le rfl⟩) (pvM hK (my_P_left hP9) (my_D_true (my_D_left hD9)) (mW_rc hK (my_P_left hP9))) rfl rfl hl.1 rfl (lv_room (kk_le rfl)) dL_law_413 ⟨rm_c (by omega), rm_s (by omega)⟩) hS (fun q _ h => hFc q h) hFc (fun z2 h2 t H2 locs2 ht hvm hw2 hB2 hs2 hk2 hS => ?_)
  obtain ⟨hP2, hD2⟩ := hB2
  rw [ht] at hP2
  obtain ⟨hP, hD⟩ := my_join hP9 hD9 hk2 hFc hP2 hD2
  have hP : va_P D vwCl (oW ca o v1 ++ cW ca Ad g1 ++ mW ca Md h2) H2 := my_P_perm hP List.perm_append_comm
  have hD : va_D (fun q : Nat => s.heap.size ≤ q) (oW ca o v1 ++ cW ca Ad g1 ++ mW ca Md h2) := my_D_perm hD List.perm_append_comm
  refine lv_istore (lv' := [(6, .int z2), (5, .int z1), (4, .int (nI i)), (3, .ref o), (2, .ref Md.1), (1, .ref Ad.1), (0, .ref b)]) hx hb dL_law_416 hl (by decide) rfl (fun ls hl => ?_)
  refine lv_aload_n hx hb dL_law_418 rfl (lv_at hl 4 rfl) ?_
  have hP9 := my_P_perm hP List.perm_append_comm
  have hD9 := my_D_perm hD List.perm_append_comm
  have hFc := my_free hD9 hS (fun q h => h)
  refine va_calli (va_runV (As := []) (rest := []) ⟨hx, hb, hml, hown, hts⟩ (cM_thrown l D ca H2.size Md h2) (cwV 0 hts gL_law_X6_thrown rfl rfl rfl (by decide +kernel) ⟨kk_le rfl, kk_le rfl⟩) (pvM hK (my_P_left hP9) (my_D_true (my_D_left hD9)) (mW_rc hK (my_P_left hP9))) rfl rfl hl.1 rfl (lv_room (kk_le rfl)) dL_law_419 ⟨rm_c (by omega), rm_s (by omega)⟩) hS (fun q _ h => hFc q h) hFc (fun z3 h3 t H3 locs3 ht hvm hw3 hB3 hs3 hk3 hS => ?_)
  obtain ⟨hP3, hD3⟩ := hB3
  rw [ht] at hP3
  obtain ⟨e3, e4⟩ := hw3
  subst e4
  obtain ⟨hP, hD⟩ := my_join hP9 hD9 hk3 hFc hP3 hD3
  have hP : va_P D vwCl (oW ca o v1 ++ cW ca Ad g1 ++ mW ca Md h3) H3 := my_P_perm hP List.perm_append_comm
  have hD : va_D (fun q : Nat => s.heap.size ≤ q) (oW ca o v1 ++ cW ca Ad g1 ++ mW ca Md h3) := my_D_perm hD List.perm_append_comm
  obtain ⟨f1, f2⟩ := hw2
  have e1 : thM h3 = z1 := by have q := hw1.1; rw [hRel.1, f1] at q; exact q
  have e2 : z1 = nI 0 → v1 0 = z2.toInt64 := by have q := hw1.2.1; rw [hRel.1, f1] at q; exact q
  have hR : RelL (i + 3) g1 h3 := rel_next (R := (fun s9 => R_change s9 (xs (i + 1)) (xs (i + 2)))) hRel (so_change (xs (i + 1)) (xs (i + 2))) (by omega) hw1.2.2.1 hw1.2.2.2 (by rw [f1]) f2
  refine lv_iload hx hb dL_law_422 (lv_at hl 1 rfl) ?_
  refine lv_icmp_eq (tgt := 429) hx hb dL_law_424 (by decide) (fun c5 => ?_) (fun c5 => absurd (e3.trans e1) c5)
  refine lv_iload hx hb dL_law_429 (lv_at hl 1 rfl) ?_
  refine lv_if_ne (tgt := 446) hx hb dL_law_431 (by decide) (fun c4 => ?_) (fun c4 => ?_)
  · refine lv_goto (tgt := 1424) hx hb dL_law_446 (by decide) ?_
    refine W.widen (k := 64 + 8 * i + 24) (n := 4096 + 240 * i + 720) (by omega) (by omega) ?_
    exact hN g1 h3 v1 _ _ _ hR hP hD hS (lv_sub hl [2, 3, 4, 5, 6] rfl)
  · refine lv_aload_n hx hb dL_law_434 rfl (lv_at hl 3 rfl) ?_
    refine lv_iconst (v := nI 0) hx hb dL_law_435 (by decide) ?_
    refine my_lald hx hb hK hP 0 rfl (by omega) (by omega) dL_law_436 ?_
    refine lv_iload hx hb dL_law_437 (lv_at hl 0 rfl) ?_
    refine lv_i2l hx hb dL_law_439 rfl ?_
    refine W.lcmp hx hb dL_law_440 ?_
    refine lv_if_eq (tgt := 446) hx hb dL_law_441 (by decide) (fun c3 => ?_) (fun c3 => absurd ((lg_cmp_eq _ _).mpr (e2 c4)) c3)
    refine lv_goto (tgt := 1424) hx hb dL_law_446 (by decide) ?_
    refine W.widen (k := 64 + 8 * i + 24) (n := 4096 + 240 * i + 720) (by omega) (by omega) ?_
    exact hN g1 h3 v1 _ _ _ hR hP hD hS (lv_sub hl [2, 3, 4, 5, 6] rfl)
set_option maxHeartbeats 8000000 in
set_option maxRecDepth 100000 in
theorem lwc_6 {p : Program} {e : Env} {s : State} {m : MethodId} {below : List Frame} {meth : Method} {c : Code} {l : Launch} (hl0 : l.stackTraces = false) {b L : Nat} {xs : Nat → Int32} (hL : L ≤ 1536) (hx : p.tables.exec = Jvm.exec) (hb : c.code = code) (hml : c.maxLocals = 9) (hown : s.vm.findClass RL = some m.cls) (hts : ∀ w ∈ wsL_law, w.before #[Value.ref b] s = true) (hX : va_X b L xs s s.heap) (hbl : b < s.heap.size) {D : va_G} {ca : Nat → ClassId} (hK : KK D ca s) (hZ : ZZ (fun q : Nat => s.heap.size ≤ q) s s.heap) {Q : State → Prop} {Ad : CA} {Md : MA} {o : Nat} {i : Nat} (hi : i + 3 ≤ L) {g : CG} {h : MG} {v0 : Nat → Int64} (hRel : RelL i g h) {H : Heap} {locs : List Loc} (hP : va_P D vwCl (oW ca o v0 ++ cW ca Ad g ++ mW ca Md h) H) (hD : va_D (fun q : Nat => s.heap.size ≤ q) (oW ca o v0 ++ cW ca Ad g ++ mW ca Md h)) (hS : va_S (fun q : Nat => s.heap.size ≤ q) s.heap H locs) {ls : Array Slot} (hl : lv_has ls 9 [(4, .int (nI i)), (3, .ref o), (2, .ref Md.1), (1, .ref Ad.1), (0, .ref b)])
    (hN : ∀ (g' : CG) (h' : MG) (v' : Nat → Int64) (H' : Heap) (locs' : List Loc) (ls' : Array Slot), RelL (i + 3) g' h' → va_P D vwCl (oW ca o v' ++ cW ca Ad g' ++ mW ca Md h') H' → va_D (fun q : Nat => s.heap.size ≤ q) (oW ca o v' ++ cW ca Ad g' ++ mW ca Md h') → va_S (fun q : Nat => s.heap.size ≤ q) s.heap H' locs' → lv_has ls' 9 [(4, .int (nI i)), (3, .ref o), (2, .ref Md.1), (1, .ref Ad.1), (0, .ref b)] → W p l e room_1 s m #[Value.ref b] below meth c H' locs' (64 + 8 * i + 24) (4096 + 240 * i + 720) Q (F0 m 1424 ls' [])) :
    W p l e room_1 s m #[Value.ref b] below meth c H locs (64 + 8 * i) (4096 + 240 * i) Q (F0 m 449 ls []) := by
  have hbA : ¬ (fun q : Nat => s.heap.size ≤ q) b := Nat.not_le.mpr hbl
  refine lv_aload_n hx hb dL_law_449 rfl (lv_at hl 3 rfl) ?_
  refine lv_aload_n hx hb dL_law_450 rfl (lv_at hl 4 rfl) ?_
  refine lv_iload hx hb dL_law_451 (lv_at hl 0 rfl) ?_
  refine lv_iconst (v := nI 1) hx hb dL_law_453 (by decide) ?_
  refine ni_iadd hx hb dL_law_454 ?_
  refine va_sld hx hb hX hbl hbA hS (vp_in_nI (by omega) (by omega)) dL_law_455 ?_
  rw [nI_clamp (by omega)]
  refine lv_aload_n hx hb dL_law_456 rfl (lv_at hl 4 rfl) ?_
  refine lv_iload hx hb dL_law_457 (lv_at hl 0 rfl) ?_
  refine lv_iconst (v := nI 2) hx hb dL_law_459 (by decide) ?_
  refine ni_iadd hx hb dL_law_460 ?_
  refine va_sld hx hb hX hbl hbA hS (vp_in_nI (by omega) (by omega)) dL_law_461 ?_
  rw [nI_clamp (by omega)]
  refine lv_aload_n hx hb dL_law_462 rfl (lv_at hl 1 rfl) ?_
  have hFc := my_free hD hS (fun q h => h)
  refine va_calli (vx_runSW (As := [.ref Ad.1, .int (xs (i + 1)), .int (xs (i + 2)), .ref o]) (rest := []) ⟨hx, hb, hml, hown, hts⟩ (wL_set l hl0 D ca H.size Ad g o v0 (xs (i + 1)) (xs (i + 2)) hRel.2.1 (rel_z hRel)) (vx_cwSW 4 hts gL_law_L_set rfl rfl rfl (by decide +kernel) ⟨kk_le rfl, kk_le rfl⟩) (psZ hK (my_P_left hP) (my_D_true (my_D_left hD)) (hZ.at hS hFc)) rfl rfl hl.1 rfl (lv_room (kk_le rfl)) dL_law_463 ⟨rm_c (by omega), rm_s (by omega)⟩) hS (fun q _ h => hFc q h) hFc (fun z1 u1 t H1 locs1 ht hvm hw1 hB1 hs1 hk1 hS => ?_)
  obtain ⟨g1, v1⟩ := u1
  obtain ⟨hP1, hD1⟩ := hB1
  rw [ht] at hP1
  obtain ⟨hP, hD⟩ := my_join hP hD hk1 hFc hP1 hD1
  have hP : va_P D vwCl (oW ca o v1 ++ cW ca Ad g1 ++ mW ca Md h) H1 := hP
  have hD : va_D (fun q : Nat => s.heap.size ≤ q) (oW ca o v1 ++ cW ca Ad g1 ++ mW ca Md h) := hD
  refine lv_istore (lv' := [(5, .int z1), (4, .int (nI i)), (3, .ref o), (2, .ref Md.1), (1, .ref Ad.1), (0, .ref b)]) hx hb dL_law_466 hl (by decide) rfl (fun ls hl => ?_)
  refine lv_aload_n hx hb dL_law_468 rfl (lv_at hl 3 rfl) ?_
  refine lv_aload_n hx hb dL_law_469 rfl (lv_at hl 5 rfl) ?_
  refine lv_iload hx hb dL_law_470 (lv_at hl 1 rfl) ?_
  refine lv_iconst (v := nI 1) hx hb dL_law_472 (by decide) ?_
  refine ni_iadd hx hb dL_law_473 ?_
  refine va_sld hx hb hX hbl hbA hS (vp_in_nI (by omega) (by omega)) dL_law_474 ?_
  rw [nI_clamp (by omega)]
  refine lv_aload_n hx hb dL_law_475 rfl (lv_at hl 5 rfl) ?_
  refine lv_iload hx hb dL_law_476 (lv_at hl 1 rfl) ?_
  refine lv_iconst (v := nI 2) hx hb dL_law_478 (by decide) ?_
  refine ni_iadd hx hb dL_law_479 ?_
  refine va_sld hx hb hX hbl hbA hS (vp_in_nI (by omega) (by omega)) dL_law_480 ?_
  rw [nI_clamp (by omega)]
  have hP9 := my_P_perm hP List.perm_append_comm
  have hD9 := my_D_perm hD List.perm_append_comm
  have hFc := my_free hD9 hS (fun q h => h)
  refine va_calli (va_runV (As := [.int (xs (i + 1)), .int (xs (i + 2))]) (rest := []) ⟨hx, hb, hml, hown, hts⟩ (cM_set l D ca H1.size Md h (xs (i + 1)) (xs (i + 2)) hRel.2.2.1 (rel_zm hRel) (rel_p hRel)) (cwV 2 hts gL_law_X6_set rfl rfl rfl (by decide +kernel) ⟨kk_le rfl, kk_le rfl⟩) (pvM hK (my_P_left hP9) (my_D_true (my_D_left hD9)) (mW_rc hK (my_P_left hP9))) rfl rfl hl.1 rfl (lv_room (kk_le rfl)) dL_law_481 ⟨rm_c (by omega), rm_s (by omega)⟩) hS (fun q _ h => hFc q h) hFc (fun z2 h2 t H2 locs2 ht hvm hw2 hB2 hs2 hk2 hS => ?_)
  obtain ⟨hP2, hD2⟩ := hB2
  rw [ht] at hP2
  obtain ⟨hP, hD⟩ := my_join hP9 hD9 hk2 hFc hP2 hD2
  have hP : va_P D vwCl (oW ca o v1 ++ cW ca Ad g1 ++ mW ca Md h2) H2 := my_P_perm hP List.perm_append_comm
  have hD : va_D (fun q : Nat => s.heap.size ≤ q) (oW ca o v1 ++ cW ca Ad g1 ++ mW ca Md h2) := my_D_perm hD List.perm_append_comm
  refine lv_istore (lv' := [(6, .int z2), (5, .int z1), (4, .int (nI i)), (3, .ref o), (2, .ref Md.1), (1, .ref Ad.1), (0, .ref b)]) hx hb dL_law_484 hl (by decide) rfl (fun ls hl => ?_)
  refine lv_aload_n hx hb dL_law_486 rfl (lv_at hl 4 rfl) ?_
  have hP9 := my_P_perm hP List.perm_append_comm
  have hD9 := my_D_perm hD List.perm_append_comm
  have hFc := my_free hD9 hS (fun q h => h)
  refine va_calli (va_runV (As := []) (rest := []) ⟨hx, hb, hml, hown, hts⟩ (cM_thrown l D ca H2.size Md h2) (cwV 0 hts gL_law_X6_thrown rfl rfl rfl (by decide +kernel) ⟨kk_le rfl, kk_le rfl⟩) (pvM hK (my_P_left hP9) (my_D_true (my_D_left hD9)) (mW_rc hK (my_P_left hP9))) rfl rfl hl.1 rfl (lv_room (kk_le rfl)) dL_law_487 ⟨rm_c (by omega), rm_s (by omega)⟩) hS (fun q _ h => hFc q h) hFc (fun z3 h3 t H3 locs3 ht hvm hw3 hB3 hs3 hk3 hS => ?_)
  obtain ⟨hP3, hD3⟩ := hB3
  rw [ht] at hP3
  obtain ⟨e3, e4⟩ := hw3
  subst e4
  obtain ⟨hP, hD⟩ := my_join hP9 hD9 hk3 hFc hP3 hD3
  have hP : va_P D vwCl (oW ca o v1 ++ cW ca Ad g1 ++ mW ca Md h3) H3 := my_P_perm hP List.perm_append_comm
  have hD : va_D (fun q : Nat => s.heap.size ≤ q) (oW ca o v1 ++ cW ca Ad g1 ++ mW ca Md h3) := my_D_perm hD List.perm_append_comm
  obtain ⟨f1, f2⟩ := hw2
  have e1 : thM h3 = z1 := by have q := hw1.1; rw [hRel.1, f1] at q; exact q
  have e2 : z1 = nI 0 → v1 0 = z2.toInt64 := by have q := hw1.2.1; rw [hRel.1, f1] at q; exact q
  have hR : RelL (i + 3) g1 h3 := rel_next (R := (fun s9 => R_set s9 (xs (i + 1)) (xs (i + 2)))) hRel (so_set (xs (i + 1)) (xs (i + 2))) (by omega) hw1.2.2.1 hw1.2.2.2 (by rw [f1]) f2
  refine lv_iload hx hb dL_law_490 (lv_at hl 1 rfl) ?_
  refine lv_icmp_eq (tgt := 497) hx hb dL_law_492 (by decide) (fun c5 => ?_) (fun c5 => absurd (e3.trans e1) c5)
  refine lv_iload hx hb dL_law_497 (lv_at hl 1 rfl) ?_
  refine lv_if_ne (tgt := 514) hx hb dL_law_499 (by decide) (fun c4 => ?_) (fun c4 => ?_)
  · refine lv_goto (tgt := 1424) hx hb dL_law_514 (by decide) ?_
    refine W.widen (k := 64 + 8 * i + 24) (n := 4096 + 240 * i + 720) (by omega) (by omega) ?_
    exact hN g1 h3 v1 _ _ _ hR hP hD hS (lv_sub hl [2, 3, 4, 5, 6] rfl)
  · refine lv_aload_n hx hb dL_law_502 rfl (lv_at hl 3 rfl) ?_
    refine lv_iconst (v := nI 0) hx hb dL_law_503 (by decide) ?_
    refine my_lald hx hb hK hP 0 rfl (by omega) (by omega) dL_law_504 ?_
    refine lv_iload hx hb dL_law_505 (lv_at hl 0 rfl) ?_
    refine lv_i2l hx hb dL_law_507 rfl ?_
    refine W.lcmp hx hb dL_law_508 ?_
    refine lv_if_eq (tgt := 514) hx hb dL_law_509 (by decide) (fun c3 => ?_) (fun c3 => absurd ((lg_cmp_eq _ _).mpr (e2 c4)) c3)
    refine lv_goto (tgt := 1424) hx hb dL_law_514 (by decide) ?_
    refine W.widen (k := 64 + 8 * i + 24) (n := 4096 + 240 * i + 720) (by omega) (by omega) ?_
    exact hN g1 h3 v1 _ _ _ hR hP hD hS (lv_sub hl [2, 3, 4, 5, 6] rfl)
set_option maxHeartbeats 8000000 in
set_option maxRecDepth 100000 in
theorem lwc_7 {p : Program} {e : Env} {s : State} {m : MethodId} {below : List Frame} {meth : Method} {c : Code} {l : Launch} (hl0 : l.stackTraces = false) {b L : Nat} {xs : Nat → Int32} (hL : L ≤ 1536) (hx : p.tables.exec = Jvm.exec) (hb : c.code = code) (hml : c.maxLocals = 9) (hown : s.vm.findClass RL = some m.cls) (hts : ∀ w ∈ wsL_law, w.before #[Value.ref b] s = true) (hX : va_X b L xs s s.heap) (hbl : b < s.heap.size) {D : va_G} {ca : Nat → ClassId} (hK : KK D ca s) (hZ : ZZ (fun q : Nat => s.heap.size ≤ q) s s.heap) {Q : State → Prop} {Ad : CA} {Md : MA} {o : Nat} {i : Nat} (hi : i + 3 ≤ L) {g : CG} {h : MG} {v0 : Nat → Int64} (hRel : RelL i g h) {H : Heap} {locs : List Loc} (hP : va_P D vwCl (oW ca o v0 ++ cW ca Ad g ++ mW ca Md h) H) (hD : va_D (fun q : Nat => s.heap.size ≤ q) (oW ca o v0 ++ cW ca Ad g ++ mW ca Md h)) (hS : va_S (fun q : Nat => s.heap.size ≤ q) s.heap H locs) {ls : Array Slot} (hl : lv_has ls 9 [(4, .int (nI i)), (3, .ref o), (2, .ref Md.1), (1, .ref Ad.1), (0, .ref b)])
    (hN : ∀ (g' : CG) (h' : MG) (v' : Nat → Int64) (H' : Heap) (locs' : List Loc) (ls' : Array Slot), RelL (i + 3) g' h' → va_P D vwCl (oW ca o v' ++ cW ca Ad g' ++ mW ca Md h') H' → va_D (fun q : Nat => s.heap.size ≤ q) (oW ca o v' ++ cW ca Ad g' ++ mW ca Md h') → va_S (fun q : Nat => s.heap.size ≤ q) s.heap H' locs' → lv_has ls' 9 [(4, .int (nI i)), (3, .ref o), (2, .ref Md.1), (1, .ref Ad.1), (0, .ref b)] → W p l e room_1 s m #[Value.ref b] below meth c H' locs' (64 + 8 * i + 24) (4096 + 240 * i + 720) Q (F0 m 1424 ls' [])) :
    W p l e room_1 s m #[Value.ref b] below meth c H locs (64 + 8 * i) (4096 + 240 * i) Q (F0 m 517 ls []) := by
  have hbA : ¬ (fun q : Nat => s.heap.size ≤ q) b := Nat.not_le.mpr hbl
  refine lv_aload_n hx hb dL_law_517 rfl (lv_at hl 3 rfl) ?_
  refine lv_aload_n hx hb dL_law_518 rfl (lv_at hl 4 rfl) ?_
  refine lv_iload hx hb dL_law_519 (lv_at hl 0 rfl) ?_
  refine lv_iconst (v := nI 1) hx hb dL_law_521 (by decide) ?_
  refine ni_iadd hx hb dL_law_522 ?_
  refine va_sld hx hb hX hbl hbA hS (vp_in_nI (by omega) (by omega)) dL_law_523 ?_
  rw [nI_clamp (by omega)]
  refine lv_aload_n hx hb dL_law_524 rfl (lv_at hl 1 rfl) ?_
  have hFc := my_free hD hS (fun q h => h)
  refine va_calli (vx_runSW (As := [.ref Ad.1, .int (xs (i + 1)), .ref o]) (rest := []) ⟨hx, hb, hml, hown, hts⟩ (wL_append l hl0 D ca H.size Ad g o v0 (xs (i + 1)) hRel.2.1 (rel_z hRel)) (vx_cwSW 3 hts gL_law_L_append rfl rfl rfl (by decide +kernel) ⟨kk_le rfl, kk_le rfl⟩) (psZ hK (my_P_left hP) (my_D_true (my_D_left hD)) (hZ.at hS hFc)) rfl rfl hl.1 rfl (lv_room (kk_le rfl)) dL_law_525 ⟨rm_c (by omega), rm_s (by omega)⟩) hS (fun q _ h => hFc q h) hFc (fun z1 u1 t H1 locs1 ht hvm hw1 hB1 hs1 hk1 hS => ?_)
  obtain ⟨g1, v1⟩ := u1
  obtain ⟨hP1, hD1⟩ := hB1
  rw [ht] at hP1
  obtain ⟨hP, hD⟩ := my_join hP hD hk1 hFc hP1 hD1
  have hP : va_P D vwCl (oW ca o v1 ++ cW ca Ad g1 ++ mW ca Md h) H1 := hP
  have hD : va_D (fun q : Nat => s.heap.size ≤ q) (oW ca o v1 ++ cW ca Ad g1 ++ mW ca Md h) := hD
  refine lv_istore (lv' := [(5, .int z1), (4, .int (nI i)), (3, .ref o), (2, .ref Md.1), (1, .ref Ad.1), (0, .ref b)]) hx hb dL_law_528 hl (by decide) rfl (fun ls hl => ?_)
  refine lv_aload_n hx hb dL_law_530 rfl (lv_at hl 3 rfl) ?_
  refine lv_aload_n hx hb dL_law_531 rfl (lv_at hl 5 rfl) ?_
  refine lv_iload hx hb dL_law_532 (lv_at hl 1 rfl) ?_
  refine lv_iconst (v := nI 1) hx hb dL_law_534 (by decide) ?_
  refine ni_iadd hx hb dL_law_535 ?_
  refine va_sld hx hb hX hbl hbA hS (vp_in_nI (by omega) (by omega)) dL_law_536 ?_
  rw [nI_clamp (by omega)]
  have hP9 := my_P_perm hP List.perm_append_comm
  have hD9 := my_D_perm hD List.perm_append_comm
  have hFc := my_free hD9 hS (fun q h => h)
  refine va_calli (va_runV (As := [.int (xs (i + 1))]) (rest := []) ⟨hx, hb, hml, hown, hts⟩ (cM_append l D ca H1.size Md h (xs (i + 1)) hRel.2.2.1 (rel_zm hRel) (rel_p hRel)) (cwV 1 hts gL_law_X6_append rfl rfl rfl (by decide +kernel) ⟨kk_le rfl, kk_le rfl⟩) (pvM hK (my_P_left hP9) (my_D_true (my_D_left hD9)) (mW_rc hK (my_P_left hP9))) rfl rfl hl.1 rfl (lv_room (kk_le rfl)) dL_law_537 ⟨rm_c (by omega), rm_s (by omega)⟩) hS (fun q _ h => hFc q h) hFc (fun z2 h2 t H2 locs2 ht hvm hw2 hB2 hs2 hk2 hS => ?_)
  obtain ⟨hP2, hD2⟩ := hB2
  rw [ht] at hP2
  obtain ⟨hP, hD⟩ := my_join hP9 hD9 hk2 hFc hP2 hD2
  have hP : va_P D vwCl (oW ca o v1 ++ cW ca Ad g1 ++ mW ca Md h2) H2 := my_P_perm hP List.perm_append_comm
  have hD : va_D (fun q : Nat => s.heap.size ≤ q) (oW ca o v1 ++ cW ca Ad g1 ++ mW ca Md h2) := my_D_perm hD List.perm_append_comm
  refine lv_istore (lv' := [(6, .int z2), (5, .int z1), (4, .int (nI i)), (3, .ref o), (2, .ref Md.1), (1, .ref Ad.1), (0, .ref b)]) hx hb dL_law_540 hl (by decide) rfl (fun ls hl => ?_)
  refine lv_aload_n hx hb dL_law_542 rfl (lv_at hl 4 rfl) ?_
  have hP9 := my_P_perm hP List.perm_append_comm
  have hD9 := my_D_perm hD List.perm_append_comm
  have hFc := my_free hD9 hS (fun q h => h)
  refine va_calli (va_runV (As := []) (rest := []) ⟨hx, hb, hml, hown, hts⟩ (cM_thrown l D ca H2.size Md h2) (cwV 0 hts gL_law_X6_thrown rfl rfl rfl (by decide +kernel) ⟨kk_le rfl, kk_le rfl⟩) (pvM hK (my_P_left hP9) (my_D_true (my_D_left hD9)) (mW_rc hK (my_P_left hP9))) rfl rfl hl.1 rfl (lv_room (kk_le rfl)) dL_law_543 ⟨rm_c (by omega), rm_s (by omega)⟩) hS (fun q _ h => hFc q h) hFc (fun z3 h3 t H3 locs3 ht hvm hw3 hB3 hs3 hk3 hS => ?_)
  obtain ⟨hP3, hD3⟩ := hB3
  rw [ht] at hP3
  obtain ⟨e3, e4⟩ := hw3
  subst e4
  obtain ⟨hP, hD⟩ := my_join hP9 hD9 hk3 hFc hP3 hD3
  have hP : va_P D vwCl (oW ca o v1 ++ cW ca Ad g1 ++ mW ca Md h3) H3 := my_P_perm hP List.perm_append_comm
  have hD : va_D (fun q : Nat => s.heap.size ≤ q) (oW ca o v1 ++ cW ca Ad g1 ++ mW ca Md h3) := my_D_perm hD List.perm_append_comm
  obtain ⟨f1, f2⟩ := hw2
  have e1 : thM h3 = z1 := by have q := hw1.1; rw [hRel.1, f1] at q; exact q
  have e2 : z1 = nI 0 → v1 0 = z2.toInt64 := by have q := hw1.2.1; rw [hRel.1, f1] at q; exact q
  have hR : RelL (i + 3) g1 h3 := rel_next (R := (fun s9 => R_append s9 (xs (i + 1)))) hRel (so_append (xs (i + 1))) (by omega) hw1.2.2.1 hw1.2.2.2 (by rw [f1]) f2
  refine lv_iload hx hb dL_law_546 (lv_at hl 1 rfl) ?_
  refine lv_icmp_eq (tgt := 553) hx hb dL_law_548 (by decide) (fun c5 => ?_) (fun c5 => absurd (e3.trans e1) c5)
  refine lv_iload hx hb dL_law_553 (lv_at hl 1 rfl) ?_
  refine lv_if_ne (tgt := 570) hx hb dL_law_555 (by decide) (fun c4 => ?_) (fun c4 => ?_)
  · refine lv_goto (tgt := 1424) hx hb dL_law_570 (by decide) ?_
    refine W.widen (k := 64 + 8 * i + 24) (n := 4096 + 240 * i + 720) (by omega) (by omega) ?_
    exact hN g1 h3 v1 _ _ _ hR hP hD hS (lv_sub hl [2, 3, 4, 5, 6] rfl)
  · refine lv_aload_n hx hb dL_law_558 rfl (lv_at hl 3 rfl) ?_
    refine lv_iconst (v := nI 0) hx hb dL_law_559 (by decide) ?_
    refine my_lald hx hb hK hP 0 rfl (by omega) (by omega) dL_law_560 ?_
    refine lv_iload hx hb dL_law_561 (lv_at hl 0 rfl) ?_
    refine lv_i2l hx hb dL_law_563 rfl ?_
    refine W.lcmp hx hb dL_law_564 ?_
    refine lv_if_eq (tgt := 570) hx hb dL_law_565 (by decide) (fun c3 => ?_) (fun c3 => absurd ((lg_cmp_eq _ _).mpr (e2 c4)) c3)
    refine lv_goto (tgt := 1424) hx hb dL_law_570 (by decide) ?_
    refine W.widen (k := 64 + 8 * i + 24) (n := 4096 + 240 * i + 720) (by omega) (by omega) ?_
    exact hN g1 h3 v1 _ _ _ hR hP hD hS (lv_sub hl [2, 3, 4, 5, 6] rfl)
set_option maxHeartbeats 8000000 in
set_option maxRecDepth 100000 in
theorem lwc_8 {p : Program} {e : Env} {s : State} {m : MethodId} {below : List Frame} {meth : Method} {c : Code} {l : Launch} (hl0 : l.stackTraces = false) {b L : Nat} {xs : Nat → Int32} (hL : L ≤ 1536) (hx : p.tables.exec = Jvm.exec) (hb : c.code = code) (hml : c.maxLocals = 9) (hown : s.vm.findClass RL = some m.cls) (hts : ∀ w ∈ wsL_law, w.before #[Value.ref b] s = true) (hX : va_X b L xs s s.heap) (hbl : b < s.heap.size) {D : va_G} {ca : Nat → ClassId} (hK : KK D ca s) (hZ : ZZ (fun q : Nat => s.heap.size ≤ q) s s.heap) {Q : State → Prop} {Ad : CA} {Md : MA} {o : Nat} {i : Nat} (hi : i + 3 ≤ L) {g : CG} {h : MG} {v0 : Nat → Int64} (hRel : RelL i g h) {H : Heap} {locs : List Loc} (hP : va_P D vwCl (oW ca o v0 ++ cW ca Ad g ++ mW ca Md h) H) (hD : va_D (fun q : Nat => s.heap.size ≤ q) (oW ca o v0 ++ cW ca Ad g ++ mW ca Md h)) (hS : va_S (fun q : Nat => s.heap.size ≤ q) s.heap H locs) {ls : Array Slot} (hl : lv_has ls 9 [(4, .int (nI i)), (3, .ref o), (2, .ref Md.1), (1, .ref Ad.1), (0, .ref b)])
    (hN : ∀ (g' : CG) (h' : MG) (v' : Nat → Int64) (H' : Heap) (locs' : List Loc) (ls' : Array Slot), RelL (i + 3) g' h' → va_P D vwCl (oW ca o v' ++ cW ca Ad g' ++ mW ca Md h') H' → va_D (fun q : Nat => s.heap.size ≤ q) (oW ca o v' ++ cW ca Ad g' ++ mW ca Md h') → va_S (fun q : Nat => s.heap.size ≤ q) s.heap H' locs' → lv_has ls' 9 [(4, .int (nI i)), (3, .ref o), (2, .ref Md.1), (1, .ref Ad.1), (0, .ref b)] → W p l e room_1 s m #[Value.ref b] below meth c H' locs' (64 + 8 * i + 24) (4096 + 240 * i + 720) Q (F0 m 1424 ls' [])) :
    W p l e room_1 s m #[Value.ref b] below meth c H locs (64 + 8 * i) (4096 + 240 * i) Q (F0 m 573 ls []) := by
  have hbA : ¬ (fun q : Nat => s.heap.size ≤ q) b := Nat.not_le.mpr hbl
  refine lv_aload_n hx hb dL_law_573 rfl (lv_at hl 3 rfl) ?_
  have hP9 : va_P D vwCl (cW ca Ad g ++ (oW ca o v0 ++ mW ca Md h)) H := my_P_perm hP pq_1
  have hD9 : va_D (fun q : Nat => s.heap.size ≤ q) (cW ca Ad g ++ (oW ca o v0 ++ mW ca Md h)) := my_D_perm hD pq_1
  have hFc := my_free hD9 hS (fun q h => h)
  refine va_calli (va_runV (As := []) (rest := []) ⟨hx, hb, hml, hown, hts⟩ (cC_clearBuffer l D ca H.size Ad g hRel.2.1 (rel_z hRel)) (cwV 0 hts gL_law_X5_clearBuffer rfl rfl rfl (by decide +kernel) ⟨kk_le rfl, kk_le rfl⟩) (pvZ hK (my_P_left hP9) (my_D_true (my_D_left hD9)) (hZ.at hS hFc) (cW_rc hK (my_P_left hP9))) rfl rfl hl.1 rfl (lv_room (kk_le rfl)) dL_law_574 ⟨rm_c (by omega), rm_s (by omega)⟩) hS (fun q _ h => hFc q h) hFc (fun z1 g1 t H1 locs1 ht hvm hw1 hB1 hs1 hk1 hS => ?_)
  obtain ⟨hP1, hD1⟩ := hB1
  rw [ht] at hP1
  obtain ⟨hP, hD⟩ := my_join hP9 hD9 hk1 hFc hP1 hD1
  have hP : va_P D vwCl (oW ca o v0 ++ cW ca Ad g1 ++ mW ca Md h) H1 := my_P_perm hP pq_1.symm
  have hD : va_D (fun q : Nat => s.heap.size ≤ q) (oW ca o v0 ++ cW ca Ad g1 ++ mW ca Md h) := my_D_perm hD pq_1.symm
  refine lv_aload_n hx hb dL_law_577 rfl (lv_at hl 2 rfl) ?_
  have hP9 := my_P_perm hP List.perm_append_comm
  have hD9 := my_D_perm hD List.perm_append_comm
  have hFc := my_free hD9 hS (fun q h => h)
  refine va_calli (va_runV (As := []) (rest := [.int z1]) ⟨hx, hb, hml, hown, hts⟩ (cM_clearBuffer l D ca H1.size Md h  hRel.2.2.1 (rel_zm hRel) (rel_p hRel)) (cwV 0 hts gL_law_X6_clearBuffer rfl rfl rfl (by decide +kernel) ⟨kk_le rfl, kk_le rfl⟩) (pvM hK (my_P_left hP9) (my_D_true (my_D_left hD9)) (mW_rc hK (my_P_left hP9))) rfl rfl hl.1 rfl (lv_room (kk_le rfl)) dL_law_578 ⟨rm_c (by omega), rm_s (by omega)⟩) hS (fun q _ h => hFc q h) hFc (fun z2 h2 t H2 locs2 ht hvm hw2 hB2 hs2 hk2 hS => ?_)
  obtain ⟨hP2, hD2⟩ := hB2
  rw [ht] at hP2
  obtain ⟨hP, hD⟩ := my_join hP9 hD9 hk2 hFc hP2 hD2
  have hP : va_P D vwCl (oW ca o v0 ++ cW ca Ad g1 ++ mW ca Md h2) H2 := my_P_perm hP List.perm_append_comm
  have hD : va_D (fun q : Nat => s.heap.size ≤ q) (oW ca o v0 ++ cW ca Ad g1 ++ mW ca Md h2) := my_D_perm hD List.perm_append_comm
  obtain ⟨f1, f2⟩ := hw2
  have e1 : z1 = z2 := by have q := hw1.1; rw [hRel.1, f1] at q; exact (congrArg (fun y : RT => y.2.1) q).symm
  have hR : RelL (i + 3) g1 h2 := rel_next (R := R_clearBuffer) hRel so_clearBuffer (by omega) (by rw [hw1.1]) hw1.2 (by rw [f1]) f2
  refine lv_icmp_eq (tgt := 1424) hx hb dL_law_581 (by decide) (fun c5 => ?_) (fun c5 => absurd e1 c5)
  refine W.widen (k := 64 + 8 * i + 24) (n := 4096 + 240 * i + 720) (by omega) (by omega) ?_
  exact hN g1 h2 v0 _ _ _ hR hP hD hS (lv_sub hl [0, 1, 2, 3, 4] rfl)
set_option maxHeartbeats 8000000 in
set_option maxRecDepth 100000 in
theorem lwc_9 {p : Program} {e : Env} {s : State} {m : MethodId} {below : List Frame} {meth : Method} {c : Code} {l : Launch} (hl0 : l.stackTraces = false) {b L : Nat} {xs : Nat → Int32} (hL : L ≤ 1536) (hx : p.tables.exec = Jvm.exec) (hb : c.code = code) (hml : c.maxLocals = 9) (hown : s.vm.findClass RL = some m.cls) (hts : ∀ w ∈ wsL_law, w.before #[Value.ref b] s = true) (hX : va_X b L xs s s.heap) (hbl : b < s.heap.size) {D : va_G} {ca : Nat → ClassId} (hK : KK D ca s) (hZ : ZZ (fun q : Nat => s.heap.size ≤ q) s s.heap) {Q : State → Prop} {Ad : CA} {Md : MA} {o : Nat} {i : Nat} (hi : i + 3 ≤ L) {g : CG} {h : MG} {v0 : Nat → Int64} (hRel : RelL i g h) {H : Heap} {locs : List Loc} (hP : va_P D vwCl (oW ca o v0 ++ cW ca Ad g ++ mW ca Md h) H) (hD : va_D (fun q : Nat => s.heap.size ≤ q) (oW ca o v0 ++ cW ca Ad g ++ mW ca Md h)) (hS : va_S (fun q : Nat => s.heap.size ≤ q) s.heap H locs) {ls : Array Slot} (hl : lv_has ls 9 [(4, .int (nI i)), (3, .ref o), (2, .ref Md.1), (1, .ref Ad.1), (0, .ref b)])
    (hN : ∀ (g' : CG) (h' : MG) (v' : Nat → Int64) (H' : Heap) (locs' : List Loc) (ls' : Array Slot), RelL (i + 3) g' h' → va_P D vwCl (oW ca o v' ++ cW ca Ad g' ++ mW ca Md h') H' → va_D (fun q : Nat => s.heap.size ≤ q) (oW ca o v' ++ cW ca Ad g' ++ mW ca Md h') → va_S (fun q : Nat => s.heap.size ≤ q) s.heap H' locs' → lv_has ls' 9 [(4, .int (nI i)), (3, .ref o), (2, .ref Md.1), (1, .ref Ad.1), (0, .ref b)] → W p l e room_1 s m #[Value.ref b] below meth c H' locs' (64 + 8 * i + 24) (4096 + 240 * i + 720) Q (F0 m 1424 ls' [])) :
    W p l e room_1 s m #[Value.ref b] below meth c H locs (64 + 8 * i) (4096 + 240 * i) Q (F0 m 586 ls []) := by
  have hbA : ¬ (fun q : Nat => s.heap.size ≤ q) b := Nat.not_le.mpr hbl
  refine lv_aload_n hx hb dL_law_586 rfl (lv_at hl 3 rfl) ?_
  have hP9 : va_P D vwCl (cW ca Ad g ++ (oW ca o v0 ++ mW ca Md h)) H := my_P_perm hP pq_1
  have hD9 : va_D (fun q : Nat => s.heap.size ≤ q) (cW ca Ad g ++ (oW ca o v0 ++ mW ca Md h)) := my_D_perm hD pq_1
  have hFc := my_free hD9 hS (fun q h => h)
  refine va_calli (va_runV (As := []) (rest := []) ⟨hx, hb, hml, hown, hts⟩ (cC_firstError l D ca H.size Ad g hRel.2.1 (rel_z hRel)) (cwV 0 hts gL_law_X5_firstError rfl rfl rfl (by decide +kernel) ⟨kk_le rfl, kk_le rfl⟩) (pvZ hK (my_P_left hP9) (my_D_true (my_D_left hD9)) (hZ.at hS hFc) (cW_rc hK (my_P_left hP9))) rfl rfl hl.1 rfl (lv_room (kk_le rfl)) dL_law_587 ⟨rm_c (by omega), rm_s (by omega)⟩) hS (fun q _ h => hFc q h) hFc (fun z1 g1 t H1 locs1 ht hvm hw1 hB1 hs1 hk1 hS => ?_)
  obtain ⟨hP1, hD1⟩ := hB1
  rw [ht] at hP1
  obtain ⟨hP, hD⟩ := my_join hP9 hD9 hk1 hFc hP1 hD1
  have hP : va_P D vwCl (oW ca o v0 ++ cW ca Ad g1 ++ mW ca Md h) H1 := my_P_perm hP pq_1.symm
  have hD : va_D (fun q : Nat => s.heap.size ≤ q) (oW ca o v0 ++ cW ca Ad g1 ++ mW ca Md h) := my_D_perm hD pq_1.symm
  refine lv_aload_n hx hb dL_law_590 rfl (lv_at hl 2 rfl) ?_
  have hP9 := my_P_perm hP List.perm_append_comm
  have hD9 := my_D_perm hD List.perm_append_comm
  have hFc := my_free hD9 hS (fun q h => h)
  refine va_calli (va_runV (As := []) (rest := [.int z1]) ⟨hx, hb, hml, hown, hts⟩ (cM_firstError l D ca H1.size Md h  hRel.2.2.1 (rel_zm hRel) (rel_p hRel)) (cwV 0 hts gL_law_X6_firstError rfl rfl rfl (by decide +kernel) ⟨kk_le rfl, kk_le rfl⟩) (pvM hK (my_P_left hP9) (my_D_true (my_D_left hD9)) (mW_rc hK (my_P_left hP9))) rfl rfl hl.1 rfl (lv_room (kk_le rfl)) dL_law_591 ⟨rm_c (by omega), rm_s (by omega)⟩) hS (fun q _ h => hFc q h) hFc (fun z2 h2 t H2 locs2 ht hvm hw2 hB2 hs2 hk2 hS => ?_)
  obtain ⟨hP2, hD2⟩ := hB2
  rw [ht] at hP2
  obtain ⟨hP, hD⟩ := my_join hP9 hD9 hk2 hFc hP2 hD2
  have hP : va_P D vwCl (oW ca o v0 ++ cW ca Ad g1 ++ mW ca Md h2) H2 := my_P_perm hP List.perm_append_comm
  have hD : va_D (fun q : Nat => s.heap.size ≤ q) (oW ca o v0 ++ cW ca Ad g1 ++ mW ca Md h2) := my_D_perm hD List.perm_append_comm
  obtain ⟨f1, f2⟩ := hw2
  have e1 : z1 = z2 := by have q := hw1.1; rw [hRel.1, f1] at q; exact (congrArg (fun y : RT => y.2.1) q).symm
  have hR : RelL (i + 3) g1 h2 := rel_next (R := R_firstError) hRel so_firstError (by omega) (by rw [hw1.1]) hw1.2 (by rw [f1]) f2
  refine lv_icmp_eq (tgt := 1424) hx hb dL_law_594 (by decide) (fun c5 => ?_) (fun c5 => absurd e1 c5)
  refine W.widen (k := 64 + 8 * i + 24) (n := 4096 + 240 * i + 720) (by omega) (by omega) ?_
  exact hN g1 h2 v0 _ _ _ hR hP hD hS (lv_sub hl [0, 1, 2, 3, 4] rfl)
set_option maxHeartbeats 8000000 in
set_option maxRecDepth 100000 in
theorem lwc_10 {p : Program} {e : Env} {s : State} {m : MethodId} {below : List Frame} {meth : Method} {c : Code} {l : Launch} (hl0 : l.stackTraces = false) {b L : Nat} {xs : Nat → Int32} (hL : L ≤ 1536) (hx : p.tables.exec = Jvm.exec) (hb : c.code = code) (hml : c.maxLocals = 9) (hown : s.vm.findClass RL = some m.cls) (hts : ∀ w ∈ wsL_law, w.before #[Value.ref b] s = true) (hX : va_X b L xs s s.heap) (hbl : b < s.heap.size) {D : va_G} {ca : Nat → ClassId} (hK : KK D ca s) (hZ : ZZ (fun q : Nat => s.heap.size ≤ q) s s.heap) {Q : State → Prop} {Ad : CA} {Md : MA} {o : Nat} {i : Nat} (hi : i + 3 ≤ L) {g : CG} {h : MG} {v0 : Nat → Int64} (hRel : RelL i g h) {H : Heap} {locs : List Loc} (hP : va_P D vwCl (oW ca o v0 ++ cW ca Ad g ++ mW ca Md h) H) (hD : va_D (fun q : Nat => s.heap.size ≤ q) (oW ca o v0 ++ cW ca Ad g ++ mW ca Md h)) (hS : va_S (fun q : Nat => s.heap.size ≤ q) s.heap H locs) {ls : Array Slot} (hl : lv_has ls 9 [(4, .int (nI i)), (3, .ref o), (2, .ref Md.1), (1, .ref Ad.1), (0, .ref b)])
    (hN : ∀ (g' : CG) (h' : MG) (v' : Nat → Int64) (H' : Heap) (locs' : List Loc) (ls' : Array Slot), RelL (i + 3) g' h' → va_P D vwCl (oW ca o v' ++ cW ca Ad g' ++ mW ca Md h') H' → va_D (fun q : Nat => s.heap.size ≤ q) (oW ca o v' ++ cW ca Ad g' ++ mW ca Md h') → va_S (fun q : Nat => s.heap.size ≤ q) s.heap H' locs' → lv_has ls' 9 [(4, .int (nI i)), (3, .ref o), (2, .ref Md.1), (1, .ref Ad.1), (0, .ref b)] → W p l e room_1 s m #[Value.ref b] below meth c H' locs' (64 + 8 * i + 24) (4096 + 240 * i + 720) Q (F0 m 1424 ls' [])) :
    W p l e room_1 s m #[Value.ref b] below meth c H locs (64 + 8 * i) (4096 + 240 * i) Q (F0 m 599 ls []) := by
  have hbA : ¬ (fun q : Nat => s.heap.size ≤ q) b := Nat.not_le.mpr hbl
  refine lv_aload_n hx hb dL_law_599 rfl (lv_at hl 3 rfl) ?_
  refine lv_aload_n hx hb dL_law_600 rfl (lv_at hl 4 rfl) ?_
  refine lv_iload hx hb dL_law_601 (lv_at hl 0 rfl) ?_
  refine lv_iconst (v := nI 1) hx hb dL_law_603 (by decide) ?_
  refine ni_iadd hx hb dL_law_604 ?_
  refine va_sld hx hb hX hbl hbA hS (vp_in_nI (by omega) (by omega)) dL_law_605 ?_
  rw [nI_clamp (by omega)]
  refine lv_aload_n hx hb dL_law_606 rfl (lv_at hl 1 rfl) ?_
  have hFc := my_free hD hS (fun q h => h)
  refine va_calli (vx_runSW (As := [.ref Ad.1, .int (xs (i + 1)), .ref o]) (rest := []) ⟨hx, hb, hml, hown, hts⟩ (wL_keep l hl0 D ca H.size Ad g o v0 (xs (i + 1)) hRel.2.1 (rel_z hRel)) (vx_cwSW 3 hts gL_law_L_keep rfl rfl rfl (by decide +kernel) ⟨kk_le rfl, kk_le rfl⟩) (psZ hK (my_P_left hP) (my_D_true (my_D_left hD)) (hZ.at hS hFc)) rfl rfl hl.1 rfl (lv_room (kk_le rfl)) dL_law_607 ⟨rm_c (by omega), rm_s (by omega)⟩) hS (fun q _ h => hFc q h) hFc (fun z1 u1 t H1 locs1 ht hvm hw1 hB1 hs1 hk1 hS => ?_)
  obtain ⟨g1, v1⟩ := u1
  obtain ⟨hP1, hD1⟩ := hB1
  rw [ht] at hP1
  obtain ⟨hP, hD⟩ := my_join hP hD hk1 hFc hP1 hD1
  have hP : va_P D vwCl (oW ca o v1 ++ cW ca Ad g1 ++ mW ca Md h) H1 := hP
  have hD : va_D (fun q : Nat => s.heap.size ≤ q) (oW ca o v1 ++ cW ca Ad g1 ++ mW ca Md h) := hD
  refine lv_istore (lv' := [(5, .int z1), (4, .int (nI i)), (3, .ref o), (2, .ref Md.1), (1, .ref Ad.1), (0, .ref b)]) hx hb dL_law_610 hl (by decide) rfl (fun ls hl => ?_)
  refine lv_aload_n hx hb dL_law_612 rfl (lv_at hl 3 rfl) ?_
  refine lv_aload_n hx hb dL_law_613 rfl (lv_at hl 5 rfl) ?_
  refine lv_iload hx hb dL_law_614 (lv_at hl 1 rfl) ?_
  refine lv_iconst (v := nI 1) hx hb dL_law_616 (by decide) ?_
  refine ni_iadd hx hb dL_law_617 ?_
  refine va_sld hx hb hX hbl hbA hS (vp_in_nI (by omega) (by omega)) dL_law_618 ?_
  rw [nI_clamp (by omega)]
  have hP9 := my_P_perm hP List.perm_append_comm
  have hD9 := my_D_perm hD List.perm_append_comm
  have hFc := my_free hD9 hS (fun q h => h)
  refine va_calli (va_runV (As := [.int (xs (i + 1))]) (rest := []) ⟨hx, hb, hml, hown, hts⟩ (cM_keep l D ca H1.size Md h (xs (i + 1)) hRel.2.2.1 (rel_zm hRel) (rel_p hRel)) (cwV 1 hts gL_law_X6_keep rfl rfl rfl (by decide +kernel) ⟨kk_le rfl, kk_le rfl⟩) (pvM hK (my_P_left hP9) (my_D_true (my_D_left hD9)) (mW_rc hK (my_P_left hP9))) rfl rfl hl.1 rfl (lv_room (kk_le rfl)) dL_law_619 ⟨rm_c (by omega), rm_s (by omega)⟩) hS (fun q _ h => hFc q h) hFc (fun z2 h2 t H2 locs2 ht hvm hw2 hB2 hs2 hk2 hS => ?_)
  obtain ⟨hP2, hD2⟩ := hB2
  rw [ht] at hP2
  obtain ⟨hP, hD⟩ := my_join hP9 hD9 hk2 hFc hP2 hD2
  have hP : va_P D vwCl (oW ca o v1 ++ cW ca Ad g1 ++ mW ca Md h2) H2 := my_P_perm hP List.perm_append_comm
  have hD : va_D (fun q : Nat => s.heap.size ≤ q) (oW ca o v1 ++ cW ca Ad g1 ++ mW ca Md h2) := my_D_perm hD List.perm_append_comm
  refine lv_istore (lv' := [(6, .int z2), (5, .int z1), (4, .int (nI i)), (3, .ref o), (2, .ref Md.1), (1, .ref Ad.1), (0, .ref b)]) hx hb dL_law_622 hl (by decide) rfl (fun ls hl => ?_)
  refine lv_aload_n hx hb dL_law_624 rfl (lv_at hl 4 rfl) ?_
  have hP9 := my_P_perm hP List.perm_append_comm
  have hD9 := my_D_perm hD List.perm_append_comm
  have hFc := my_free hD9 hS (fun q h => h)
  refine va_calli (va_runV (As := []) (rest := []) ⟨hx, hb, hml, hown, hts⟩ (cM_thrown l D ca H2.size Md h2) (cwV 0 hts gL_law_X6_thrown rfl rfl rfl (by decide +kernel) ⟨kk_le rfl, kk_le rfl⟩) (pvM hK (my_P_left hP9) (my_D_true (my_D_left hD9)) (mW_rc hK (my_P_left hP9))) rfl rfl hl.1 rfl (lv_room (kk_le rfl)) dL_law_625 ⟨rm_c (by omega), rm_s (by omega)⟩) hS (fun q _ h => hFc q h) hFc (fun z3 h3 t H3 locs3 ht hvm hw3 hB3 hs3 hk3 hS => ?_)
  obtain ⟨hP3, hD3⟩ := hB3
  rw [ht] at hP3
  obtain ⟨e3, e4⟩ := hw3
  subst e4
  obtain ⟨hP, hD⟩ := my_join hP9 hD9 hk3 hFc hP3 hD3
  have hP : va_P D vwCl (oW ca o v1 ++ cW ca Ad g1 ++ mW ca Md h3) H3 := my_P_perm hP List.perm_append_comm
  have hD : va_D (fun q : Nat => s.heap.size ≤ q) (oW ca o v1 ++ cW ca Ad g1 ++ mW ca Md h3) := my_D_perm hD List.perm_append_comm
  obtain ⟨f1, f2⟩ := hw2
  have e1 : thM h3 = z1 := by have q := hw1.1; rw [hRel.1, f1] at q; exact q
  have e2 : z1 = nI 0 → v1 0 = z2.toInt64 := by have q := hw1.2.1; rw [hRel.1, f1] at q; exact q
  have hR : RelL (i + 3) g1 h3 := rel_next (R := (fun s9 => R_keep s9 (xs (i + 1)))) hRel (so_keep (xs (i + 1))) (by omega) hw1.2.2.1 hw1.2.2.2 (by rw [f1]) f2
  refine lv_iload hx hb dL_law_628 (lv_at hl 1 rfl) ?_
  refine lv_icmp_eq (tgt := 635) hx hb dL_law_630 (by decide) (fun c5 => ?_) (fun c5 => absurd (e3.trans e1) c5)
  refine lv_iload hx hb dL_law_635 (lv_at hl 1 rfl) ?_
  refine lv_if_ne (tgt := 652) hx hb dL_law_637 (by decide) (fun c4 => ?_) (fun c4 => ?_)
  · refine lv_goto (tgt := 1424) hx hb dL_law_652 (by decide) ?_
    refine W.widen (k := 64 + 8 * i + 24) (n := 4096 + 240 * i + 720) (by omega) (by omega) ?_
    exact hN g1 h3 v1 _ _ _ hR hP hD hS (lv_sub hl [2, 3, 4, 5, 6] rfl)
  · refine lv_aload_n hx hb dL_law_640 rfl (lv_at hl 3 rfl) ?_
    refine lv_iconst (v := nI 0) hx hb dL_law_641 (by decide) ?_
    refine my_lald hx hb hK hP 0 rfl (by omega) (by omega) dL_law_642 ?_
    refine lv_iload hx hb dL_law_643 (lv_at hl 0 rfl) ?_
    refine lv_i2l hx hb dL_law_645 rfl ?_
    refine W.lcmp hx hb dL_law_646 ?_
    refine lv_if_eq (tgt := 652) hx hb dL_law_647 (by decide) (fun c3 => ?_) (fun c3 => absurd ((lg_cmp_eq _ _).mpr (e2 c4)) c3)
    refine lv_goto (tgt := 1424) hx hb dL_law_652 (by decide) ?_
    refine W.widen (k := 64 + 8 * i + 24) (n := 4096 + 240 * i + 720) (by omega) (by omega) ?_
    exact hN g1 h3 v1 _ _ _ hR hP hD hS (lv_sub hl [2, 3, 4, 5, 6] rfl)
set_option maxHeartbeats 8000000 in
set_option maxRecDepth 100000 in
theorem lwc_11 {p : Program} {e : Env} {s : State} {m : MethodId} {below : List Frame} {meth : Method} {c : Code} {l : Launch} (hl0 : l.stackTraces = false) {b L : Nat} {xs : Nat → Int32} (hL : L ≤ 1536) (hx : p.tables.exec = Jvm.exec) (hb : c.code = code) (hml : c.maxLocals = 9) (hown : s.vm.findClass RL = some m.cls) (hts : ∀ w ∈ wsL_law, w.before #[Value.ref b] s = true) (hX : va_X b L xs s s.heap) (hbl : b < s.heap.size) {D : va_G} {ca : Nat → ClassId} (hK : KK D ca s) (hZ : ZZ (fun q : Nat => s.heap.size ≤ q) s s.heap) {Q : State → Prop} {Ad : CA} {Md : MA} {o : Nat} {i : Nat} (hi : i + 3 ≤ L) {g : CG} {h : MG} {v0 : Nat → Int64} (hRel : RelL i g h) {H : Heap} {locs : List Loc} (hP : va_P D vwCl (oW ca o v0 ++ cW ca Ad g ++ mW ca Md h) H) (hD : va_D (fun q : Nat => s.heap.size ≤ q) (oW ca o v0 ++ cW ca Ad g ++ mW ca Md h)) (hS : va_S (fun q : Nat => s.heap.size ≤ q) s.heap H locs) {ls : Array Slot} (hl : lv_has ls 9 [(4, .int (nI i)), (3, .ref o), (2, .ref Md.1), (1, .ref Ad.1), (0, .ref b)])
    (hN : ∀ (g' : CG) (h' : MG) (v' : Nat → Int64) (H' : Heap) (locs' : List Loc) (ls' : Array Slot), RelL (i + 3) g' h' → va_P D vwCl (oW ca o v' ++ cW ca Ad g' ++ mW ca Md h') H' → va_D (fun q : Nat => s.heap.size ≤ q) (oW ca o v' ++ cW ca Ad g' ++ mW ca Md h') → va_S (fun q : Nat => s.heap.size ≤ q) s.heap H' locs' → lv_has ls' 9 [(4, .int (nI i)), (3, .ref o), (2, .ref Md.1), (1, .ref Ad.1), (0, .ref b)] → W p l e room_1 s m #[Value.ref b] below meth c H' locs' (64 + 8 * i + 24) (4096 + 240 * i + 720) Q (F0 m 1424 ls' [])) :
    W p l e room_1 s m #[Value.ref b] below meth c H locs (64 + 8 * i) (4096 + 240 * i) Q (F0 m 655 ls []) := by
  have hbA : ¬ (fun q : Nat => s.heap.size ≤ q) b := Nat.not_le.mpr hbl
  refine lv_aload_n hx hb dL_law_655 rfl (lv_at hl 3 rfl) ?_
  refine lv_aload_n hx hb dL_law_656 rfl (lv_at hl 4 rfl) ?_
  refine lv_iload hx hb dL_law_657 (lv_at hl 0 rfl) ?_
  refine lv_iconst (v := nI 1) hx hb dL_law_659 (by decide) ?_
  refine ni_iadd hx hb dL_law_660 ?_
  refine va_sld hx hb hX hbl hbA hS (vp_in_nI (by omega) (by omega)) dL_law_661 ?_
  rw [nI_clamp (by omega)]
  refine lv_aload_n hx hb dL_law_662 rfl (lv_at hl 1 rfl) ?_
  have hFc := my_free hD hS (fun q h => h)
  refine va_calli (vx_runSW (As := [.ref Ad.1, .int (xs (i + 1)), .ref o]) (rest := []) ⟨hx, hb, hml, hown, hts⟩ (wL_goBack l hl0 D ca H.size Ad g o v0 (xs (i + 1)) hRel.2.1 (rel_z hRel)) (vx_cwSW 3 hts gL_law_L_goBack rfl rfl rfl (by decide +kernel) ⟨kk_le rfl, kk_le rfl⟩) (psZ hK (my_P_left hP) (my_D_true (my_D_left hD)) (hZ.at hS hFc)) rfl rfl hl.1 rfl (lv_room (kk_le rfl)) dL_law_663 ⟨rm_c (by omega), rm_s (by omega)⟩) hS (fun q _ h => hFc q h) hFc (fun z1 u1 t H1 locs1 ht hvm hw1 hB1 hs1 hk1 hS => ?_)
  obtain ⟨g1, v1⟩ := u1
  obtain ⟨hP1, hD1⟩ := hB1
  rw [ht] at hP1
  obtain ⟨hP, hD⟩ := my_join hP hD hk1 hFc hP1 hD1
  have hP : va_P D vwCl (oW ca o v1 ++ cW ca Ad g1 ++ mW ca Md h) H1 := hP
  have hD : va_D (fun q : Nat => s.heap.size ≤ q) (oW ca o v1 ++ cW ca Ad g1 ++ mW ca Md h) := hD
  refine lv_istore (lv' := [(5, .int z1), (4, .int (nI i)), (3, .ref o), (2, .ref Md.1), (1, .ref Ad.1), (0, .ref b)]) hx hb dL_law_666 hl (by decide) rfl (fun ls hl => ?_)
  refine lv_aload_n hx hb dL_law_668 rfl (lv_at hl 3 rfl) ?_
  refine lv_aload_n hx hb dL_law_669 rfl (lv_at hl 5 rfl) ?_
  refine lv_iload hx hb dL_law_670 (lv_at hl 1 rfl) ?_
  refine lv_iconst (v := nI 1) hx hb dL_law_672 (by decide) ?_
  refine ni_iadd hx hb dL_law_673 ?_
  refine va_sld hx hb hX hbl hbA hS (vp_in_nI (by omega) (by omega)) dL_law_674 ?_
  rw [nI_clamp (by omega)]
  have hP9 := my_P_perm hP List.perm_append_comm
  have hD9 := my_D_perm hD List.perm_append_comm
  have hFc := my_free hD9 hS (fun q h => h)
  refine va_calli (va_runV (As := [.int (xs (i + 1))]) (rest := []) ⟨hx, hb, hml, hown, hts⟩ (cM_goBack l D ca H1.size Md h (xs (i + 1)) hRel.2.2.1 (rel_zm hRel) (rel_p hRel)) (cwV 1 hts gL_law_X6_goBack rfl rfl rfl (by decide +kernel) ⟨kk_le rfl, kk_le rfl⟩) (pvM hK (my_P_left hP9) (my_D_true (my_D_left hD9)) (mW_rc hK (my_P_left hP9))) rfl rfl hl.1 rfl (lv_room (kk_le rfl)) dL_law_675 ⟨rm_c (by omega), rm_s (by omega)⟩) hS (fun q _ h => hFc q h) hFc (fun z2 h2 t H2 locs2 ht hvm hw2 hB2 hs2 hk2 hS => ?_)
  obtain ⟨hP2, hD2⟩ := hB2
  rw [ht] at hP2
  obtain ⟨hP, hD⟩ := my_join hP9 hD9 hk2 hFc hP2 hD2
  have hP : va_P D vwCl (oW ca o v1 ++ cW ca Ad g1 ++ mW ca Md h2) H2 := my_P_perm hP List.perm_append_comm
  have hD : va_D (fun q : Nat => s.heap.size ≤ q) (oW ca o v1 ++ cW ca Ad g1 ++ mW ca Md h2) := my_D_perm hD List.perm_append_comm
  refine lv_istore (lv' := [(6, .int z2), (5, .int z1), (4, .int (nI i)), (3, .ref o), (2, .ref Md.1), (1, .ref Ad.1), (0, .ref b)]) hx hb dL_law_678 hl (by decide) rfl (fun ls hl => ?_)
  refine lv_aload_n hx hb dL_law_680 rfl (lv_at hl 4 rfl) ?_
  have hP9 := my_P_perm hP List.perm_append_comm
  have hD9 := my_D_perm hD List.perm_append_comm
  have hFc := my_free hD9 hS (fun q h => h)
  refine va_calli (va_runV (As := []) (rest := []) ⟨hx, hb, hml, hown, hts⟩ (cM_thrown l D ca H2.size Md h2) (cwV 0 hts gL_law_X6_thrown rfl rfl rfl (by decide +kernel) ⟨kk_le rfl, kk_le rfl⟩) (pvM hK (my_P_left hP9) (my_D_true (my_D_left hD9)) (mW_rc hK (my_P_left hP9))) rfl rfl hl.1 rfl (lv_room (kk_le rfl)) dL_law_681 ⟨rm_c (by omega), rm_s (by omega)⟩) hS (fun q _ h => hFc q h) hFc (fun z3 h3 t H3 locs3 ht hvm hw3 hB3 hs3 hk3 hS => ?_)
  obtain ⟨hP3, hD3⟩ := hB3
  rw [ht] at hP3
  obtain ⟨e3, e4⟩ := hw3
  subst e4
  obtain ⟨hP, hD⟩ := my_join hP9 hD9 hk3 hFc hP3 hD3
  have hP : va_P D vwCl (oW ca o v1 ++ cW ca Ad g1 ++ mW ca Md h3) H3 := my_P_perm hP List.perm_append_comm
  have hD : va_D (fun q : Nat => s.heap.size ≤ q) (oW ca o v1 ++ cW ca Ad g1 ++ mW ca Md h3) := my_D_perm hD List.perm_append_comm
  obtain ⟨f1, f2⟩ := hw2
  have e1 : thM h3 = z1 := by have q := hw1.1; rw [hRel.1, f1] at q; exact q
  have e2 : z1 = nI 0 → v1 0 = z2.toInt64 := by have q := hw1.2.1; rw [hRel.1, f1] at q; exact q
  have hR : RelL (i + 3) g1 h3 := rel_next (R := (fun s9 => R_goBack s9 (xs (i + 1)))) hRel (so_goBack (xs (i + 1))) (by omega) hw1.2.2.1 hw1.2.2.2 (by rw [f1]) f2
  refine lv_iload hx hb dL_law_684 (lv_at hl 1 rfl) ?_
  refine lv_icmp_eq (tgt := 691) hx hb dL_law_686 (by decide) (fun c5 => ?_) (fun c5 => absurd (e3.trans e1) c5)
  refine lv_iload hx hb dL_law_691 (lv_at hl 1 rfl) ?_
  refine lv_if_ne (tgt := 708) hx hb dL_law_693 (by decide) (fun c4 => ?_) (fun c4 => ?_)
  · refine lv_goto (tgt := 1424) hx hb dL_law_708 (by decide) ?_
    refine W.widen (k := 64 + 8 * i + 24) (n := 4096 + 240 * i + 720) (by omega) (by omega) ?_
    exact hN g1 h3 v1 _ _ _ hR hP hD hS (lv_sub hl [2, 3, 4, 5, 6] rfl)
  · refine lv_aload_n hx hb dL_law_696 rfl (lv_at hl 3 rfl) ?_
    refine lv_iconst (v := nI 0) hx hb dL_law_697 (by decide) ?_
    refine my_lald hx hb hK hP 0 rfl (by omega) (by omega) dL_law_698 ?_
    refine lv_iload hx hb dL_law_699 (lv_at hl 0 rfl) ?_
    refine lv_i2l hx hb dL_law_701 rfl ?_
    refine W.lcmp hx hb dL_law_702 ?_
    refine lv_if_eq (tgt := 708) hx hb dL_law_703 (by decide) (fun c3 => ?_) (fun c3 => absurd ((lg_cmp_eq _ _).mpr (e2 c4)) c3)
    refine lv_goto (tgt := 1424) hx hb dL_law_708 (by decide) ?_
    refine W.widen (k := 64 + 8 * i + 24) (n := 4096 + 240 * i + 720) (by omega) (by omega) ?_
    exact hN g1 h3 v1 _ _ _ hR hP hD hS (lv_sub hl [2, 3, 4, 5, 6] rfl)
set_option maxHeartbeats 8000000 in
set_option maxRecDepth 100000 in
theorem lwc_12 {p : Program} {e : Env} {s : State} {m : MethodId} {below : List Frame} {meth : Method} {c : Code} {l : Launch} (hl0 : l.stackTraces = false) {b L : Nat} {xs : Nat → Int32} (hL : L ≤ 1536) (hx : p.tables.exec = Jvm.exec) (hb : c.code = code) (hml : c.maxLocals = 9) (hown : s.vm.findClass RL = some m.cls) (hts : ∀ w ∈ wsL_law, w.before #[Value.ref b] s = true) (hX : va_X b L xs s s.heap) (hbl : b < s.heap.size) {D : va_G} {ca : Nat → ClassId} (hK : KK D ca s) (hZ : ZZ (fun q : Nat => s.heap.size ≤ q) s s.heap) {Q : State → Prop} {Ad : CA} {Md : MA} {o : Nat} {i : Nat} (hi : i + 3 ≤ L) {g : CG} {h : MG} {v0 : Nat → Int64} (hRel : RelL i g h) {H : Heap} {locs : List Loc} (hP : va_P D vwCl (oW ca o v0 ++ cW ca Ad g ++ mW ca Md h) H) (hD : va_D (fun q : Nat => s.heap.size ≤ q) (oW ca o v0 ++ cW ca Ad g ++ mW ca Md h)) (hS : va_S (fun q : Nat => s.heap.size ≤ q) s.heap H locs) {ls : Array Slot} (hl : lv_has ls 9 [(4, .int (nI i)), (3, .ref o), (2, .ref Md.1), (1, .ref Ad.1), (0, .ref b)])
    (hN : ∀ (g' : CG) (h' : MG) (v' : Nat → Int64) (H' : Heap) (locs' : List Loc) (ls' : Array Slot), RelL (i + 3) g' h' → va_P D vwCl (oW ca o v' ++ cW ca Ad g' ++ mW ca Md h') H' → va_D (fun q : Nat => s.heap.size ≤ q) (oW ca o v' ++ cW ca Ad g' ++ mW ca Md h') → va_S (fun q : Nat => s.heap.size ≤ q) s.heap H' locs' → lv_has ls' 9 [(4, .int (nI i)), (3, .ref o), (2, .ref Md.1), (1, .ref Ad.1), (0, .ref b)] → W p l e room_1 s m #[Value.ref b] below meth c H' locs' (64 + 8 * i + 24) (4096 + 240 * i + 720) Q (F0 m 1424 ls' [])) :
    W p l e room_1 s m #[Value.ref b] below meth c H locs (64 + 8 * i) (4096 + 240 * i) Q (F0 m 711 ls []) := by
  have hbA : ¬ (fun q : Nat => s.heap.size ≤ q) b := Nat.not_le.mpr hbl
  refine lv_aload_n hx hb dL_law_711 rfl (lv_at hl 3 rfl) ?_
  refine lv_aload_n hx hb dL_law_712 rfl (lv_at hl 1 rfl) ?_
  have hFc := my_free hD hS (fun q h => h)
  refine va_calli (vx_runSW (As := [.ref Ad.1, .ref o]) (rest := []) ⟨hx, hb, hml, hown, hts⟩ (wL_undo l hl0 D ca H.size Ad g o v0  hRel.2.1 (rel_z hRel)) (vx_cwSW 2 hts gL_law_L_undo rfl rfl rfl (by decide +kernel) ⟨kk_le rfl, kk_le rfl⟩) (psZ hK (my_P_left hP) (my_D_true (my_D_left hD)) (hZ.at hS hFc)) rfl rfl hl.1 rfl (lv_room (kk_le rfl)) dL_law_713 ⟨rm_c (by omega), rm_s (by omega)⟩) hS (fun q _ h => hFc q h) hFc (fun z1 u1 t H1 locs1 ht hvm hw1 hB1 hs1 hk1 hS => ?_)
  obtain ⟨g1, v1⟩ := u1
  obtain ⟨hP1, hD1⟩ := hB1
  rw [ht] at hP1
  obtain ⟨hP, hD⟩ := my_join hP hD hk1 hFc hP1 hD1
  have hP : va_P D vwCl (oW ca o v1 ++ cW ca Ad g1 ++ mW ca Md h) H1 := hP
  have hD : va_D (fun q : Nat => s.heap.size ≤ q) (oW ca o v1 ++ cW ca Ad g1 ++ mW ca Md h) := hD
  refine lv_istore (lv' := [(5, .int z1), (4, .int (nI i)), (3, .ref o), (2, .ref Md.1), (1, .ref Ad.1), (0, .ref b)]) hx hb dL_law_716 hl (by decide) rfl (fun ls hl => ?_)
  refine lv_aload_n hx hb dL_law_718 rfl (lv_at hl 3 rfl) ?_
  have hP9 := my_P_perm hP List.perm_append_comm
  have hD9 := my_D_perm hD List.perm_append_comm
  have hFc := my_free hD9 hS (fun q h => h)
  refine va_calli (va_runV (As := []) (rest := []) ⟨hx, hb, hml, hown, hts⟩ (cM_undo l D ca H1.size Md h  hRel.2.2.1 (rel_zm hRel) (rel_p hRel)) (cwV 0 hts gL_law_X6_undo rfl rfl rfl (by decide +kernel) ⟨kk_le rfl, kk_le rfl⟩) (pvM hK (my_P_left hP9) (my_D_true (my_D_left hD9)) (mW_rc hK (my_P_left hP9))) rfl rfl hl.1 rfl (lv_room (kk_le rfl)) dL_law_719 ⟨rm_c (by omega), rm_s (by omega)⟩) hS (fun q _ h => hFc q h) hFc (fun z2 h2 t H2 locs2 ht hvm hw2 hB2 hs2 hk2 hS => ?_)
  obtain ⟨hP2, hD2⟩ := hB2
  rw [ht] at hP2
  obtain ⟨hP, hD⟩ := my_join hP9 hD9 hk2 hFc hP2 hD2
  have hP : va_P D vwCl (oW ca o v1 ++ cW ca Ad g1 ++ mW ca Md h2) H2 := my_P_perm hP List.perm_append_comm
  have hD : va_D (fun q : Nat => s.heap.size ≤ q) (oW ca o v1 ++ cW ca Ad g1 ++ mW ca Md h2) := my_D_perm hD List.perm_append_comm
  refine lv_istore (lv' := [(6, .int z2), (5, .int z1), (4, .int (nI i)), (3, .ref o), (2, .ref Md.1), (1, .ref Ad.1), (0, .ref b)]) hx hb dL_law_722 hl (by decide) rfl (fun ls hl => ?_)
  refine lv_aload_n hx hb dL_law_724 rfl (lv_at hl 4 rfl) ?_
  have hP9 := my_P_perm hP List.perm_append_comm
  have hD9 := my_D_perm hD List.perm_append_comm
  have hFc := my_free hD9 hS (fun q h => h)
  refine va_calli (va_runV (As := []) (rest := []) ⟨hx, hb, hml, hown, hts⟩ (cM_thrown l D ca H2.size Md h2) (cwV 0 hts gL_law_X6_thrown rfl rfl rfl (by decide +kernel) ⟨kk_le rfl, kk_le rfl⟩) (pvM hK (my_P_left hP9) (my_D_true (my_D_left hD9)) (mW_rc hK (my_P_left hP9))) rfl rfl hl.1 rfl (lv_room (kk_le rfl)) dL_law_725 ⟨rm_c (by omega), rm_s (by omega)⟩) hS (fun q _ h => hFc q h) hFc (fun z3 h3 t H3 locs3 ht hvm hw3 hB3 hs3 hk3 hS => ?_)
  obtain ⟨hP3, hD3⟩ := hB3
  rw [ht] at hP3
  obtain ⟨e3, e4⟩ := hw3
  subst e4
  obtain ⟨hP, hD⟩ := my_join hP9 hD9 hk3 hFc hP3 hD3
  have hP : va_P D vwCl (oW ca o v1 ++ cW ca Ad g1 ++ mW ca Md h3) H3 := my_P_perm hP List.perm_append_comm
  have hD : va_D (fun q : Nat => s.heap.size ≤ q) (oW ca o v1 ++ cW ca Ad g1 ++ mW ca Md h3) := my_D_perm hD List.perm_append_comm
  obtain ⟨f1, f2⟩ := hw2
  have e1 : thM h3 = z1 := by have q := hw1.1; rw [hRel.1, f1] at q; exact q
  have e2 : z1 = nI 0 → v1 0 = z2.toInt64 := by have q := hw1.2.1; rw [hRel.1, f1] at q; exact q
  have hR : RelL (i + 3) g1 h3 := rel_next (R := (fun s9 => R_undo s9)) hRel (so_undo) (by omega) hw1.2.2.1 hw1.2.2.2 (by rw [f1]) f2
  refine lv_iload hx hb dL_law_728 (lv_at hl 1 rfl) ?_
  refine lv_icmp_eq (tgt := 735) hx hb dL_law_730 (by decide) (fun c5 => ?_) (fun c5 => absurd (e3.trans e1) c5)
  refine lv_iload hx hb dL_law_735 (lv_at hl 1 rfl) ?_
  refine lv_if_ne (tgt := 752) hx hb dL_law_737 (by decide) (fun c4 => ?_) (fun c4 => ?_)
  · refine lv_goto (tgt := 1424) hx hb dL_law_752 (by decide) ?_
    refine W.widen (k := 64 + 8 * i + 24) (n := 4096 + 240 * i + 720) (by omega) (by omega) ?_
    exact hN g1 h3 v1 _ _ _ hR hP hD hS (lv_sub hl [2, 3, 4, 5, 6] rfl)
  · refine lv_aload_n hx hb dL_law_740 rfl (lv_at hl 3 rfl) ?_
    refine lv_iconst (v := nI 0) hx hb dL_law_741 (by decide) ?_
    refine my_lald hx hb hK hP 0 rfl (by omega) (by omega) dL_law_742 ?_
    refine lv_iload hx hb dL_law_743 (lv_at hl 0 rfl) ?_
    refine lv_i2l hx hb dL_law_745 rfl ?_
    refine W.lcmp hx hb dL_law_746 ?_
    refine lv_if_eq (tgt := 752) hx hb dL_law_747 (by decide) (fun c3 => ?_) (fun c3 => absurd ((lg_cmp_eq _ _).mpr (e2 c4)) c3)
    refine lv_goto (tgt := 1424) hx hb dL_law_752 (by decide) ?_
    refine W.widen (k := 64 + 8 * i + 24) (n := 4096 + 240 * i + 720) (by omega) (by omega) ?_
    exact hN g1 h3 v1 _ _ _ hR hP hD hS (lv_sub hl [2, 3, 4, 5, 6] rfl)
set_option maxHeartbeats 8000000 in
set_option maxRecDepth 100000 in
theorem lwc_13 {p : Program} {e : Env} {s : State} {m : MethodId} {below : List Frame} {meth : Method} {c : Code} {l : Launch} (hl0 : l.stackTraces = false) {b L : Nat} {xs : Nat → Int32} (hL : L ≤ 1536) (hx : p.tables.exec = Jvm.exec) (hb : c.code = code) (hml : c.maxLocals = 9) (hown : s.vm.findClass RL = some m.cls) (hts : ∀ w ∈ wsL_law, w.before #[Value.ref b] s = true) (hX : va_X b L xs s s.heap) (hbl : b < s.heap.size) {D : va_G} {ca : Nat → ClassId} (hK : KK D ca s) (hZ : ZZ (fun q : Nat => s.heap.size ≤ q) s s.heap) {Q : State → Prop} {Ad : CA} {Md : MA} {o : Nat} {i : Nat} (hi : i + 3 ≤ L) {g : CG} {h : MG} {v0 : Nat → Int64} (hRel : RelL i g h) {H : Heap} {locs : List Loc} (hP : va_P D vwCl (oW ca o v0 ++ cW ca Ad g ++ mW ca Md h) H) (hD : va_D (fun q : Nat => s.heap.size ≤ q) (oW ca o v0 ++ cW ca Ad g ++ mW ca Md h)) (hS : va_S (fun q : Nat => s.heap.size ≤ q) s.heap H locs) {ls : Array Slot} (hl : lv_has ls 9 [(4, .int (nI i)), (3, .ref o), (2, .ref Md.1), (1, .ref Ad.1), (0, .ref b)])
    (hN : ∀ (g' : CG) (h' : MG) (v' : Nat → Int64) (H' : Heap) (locs' : List Loc) (ls' : Array Slot), RelL (i + 3) g' h' → va_P D vwCl (oW ca o v' ++ cW ca Ad g' ++ mW ca Md h') H' → va_D (fun q : Nat => s.heap.size ≤ q) (oW ca o v' ++ cW ca Ad g' ++ mW ca Md h') → va_S (fun q : Nat => s.heap.size ≤ q) s.heap H' locs' → lv_has ls' 9 [(4, .int (nI i)), (3, .ref o), (2, .ref Md.1), (1, .ref Ad.1), (0, .ref b)] → W p l e room_1 s m #[Value.ref b] below meth c H' locs' (64 + 8 * i + 24) (4096 + 240 * i + 720) Q (F0 m 1424 ls' [])) :
    W p l e room_1 s m #[Value.ref b] below meth c H locs (64 + 8 * i) (4096 + 240 * i) Q (F0 m 755 ls []) := by
  have hbA : ¬ (fun q : Nat => s.heap.size ≤ q) b := Nat.not_le.mpr hbl
  refine lv_aload_n hx hb dL_law_755 rfl (lv_at hl 3 rfl) ?_
  refine lv_aload_n hx hb dL_law_756 rfl (lv_at hl 4 rfl) ?_
  refine lv_iload hx hb dL_law_757 (lv_at hl 0 rfl) ?_
  refine lv_iconst (v := nI 1) hx hb dL_law_759 (by decide) ?_
  refine ni_iadd hx hb dL_law_760 ?_
  refine va_sld hx hb hX hbl hbA hS (vp_in_nI (by omega) (by omega)) dL_law_761 ?_
  rw [nI_clamp (by omega)]
  refine lv_aload_n hx hb dL_law_762 rfl (lv_at hl 1 rfl) ?_
  have hFc := my_free hD hS (fun q h => h)
  refine va_calli (vx_runSW (As := [.ref Ad.1, .int (xs (i + 1)), .ref o]) (rest := []) ⟨hx, hb, hml, hown, hts⟩ (wL_time l hl0 D ca H.size Ad g o v0 (xs (i + 1)) hRel.2.1 (rel_z hRel)) (vx_cwSW 3 hts gL_law_L_time rfl rfl rfl (by decide +kernel) ⟨kk_le rfl, kk_le rfl⟩) (psZ hK (my_P_left hP) (my_D_true (my_D_left hD)) (hZ.at hS hFc)) rfl rfl hl.1 rfl (lv_room (kk_le rfl)) dL_law_763 ⟨rm_c (by omega), rm_s (by omega)⟩) hS (fun q _ h => hFc q h) hFc (fun z1 u1 t H1 locs1 ht hvm hw1 hB1 hs1 hk1 hS => ?_)
  obtain ⟨g1, v1⟩ := u1
  obtain ⟨hP1, hD1⟩ := hB1
  rw [ht] at hP1
  obtain ⟨hP, hD⟩ := my_join hP hD hk1 hFc hP1 hD1
  have hP : va_P D vwCl (oW ca o v1 ++ cW ca Ad g1 ++ mW ca Md h) H1 := hP
  have hD : va_D (fun q : Nat => s.heap.size ≤ q) (oW ca o v1 ++ cW ca Ad g1 ++ mW ca Md h) := hD
  refine lv_istore (lv' := [(5, .int z1), (4, .int (nI i)), (3, .ref o), (2, .ref Md.1), (1, .ref Ad.1), (0, .ref b)]) hx hb dL_law_766 hl (by decide) rfl (fun ls hl => ?_)
  refine lv_aload_n hx hb dL_law_768 rfl (lv_at hl 3 rfl) ?_
  refine lv_aload_n hx hb dL_law_769 rfl (lv_at hl 5 rfl) ?_
  refine lv_iload hx hb dL_law_770 (lv_at hl 1 rfl) ?_
  refine lv_iconst (v := nI 1) hx hb dL_law_772 (by decide) ?_
  refine ni_iadd hx hb dL_law_773 ?_
  refine va_sld hx hb hX hbl hbA hS (vp_in_nI (by omega) (by omega)) dL_law_774 ?_
  rw [nI_clamp (by omega)]
  have hP9 := my_P_perm hP List.perm_append_comm
  have hD9 := my_D_perm hD List.perm_append_comm
  have hFc := my_free hD9 hS (fun q h => h)
  refine va_calli (va_runV (As := [.int (xs (i + 1))]) (rest := []) ⟨hx, hb, hml, hown, hts⟩ (cM_time l D ca H1.size Md h (xs (i + 1)) hRel.2.2.1 (rel_zm hRel) (rel_p hRel)) (cwV 1 hts gL_law_X6_time rfl rfl rfl (by decide +kernel) ⟨kk_le rfl, kk_le rfl⟩) (pvM hK (my_P_left hP9) (my_D_true (my_D_left hD9)) (mW_rc hK (my_P_left hP9))) rfl rfl hl.1 rfl (lv_room (kk_le rfl)) dL_law_775 ⟨rm_c (by omega), rm_s (by omega)⟩) hS (fun q _ h => hFc q h) hFc (fun z2 h2 t H2 locs2 ht hvm hw2 hB2 hs2 hk2 hS => ?_)
  obtain ⟨hP2, hD2⟩ := hB2
  rw [ht] at hP2
  obtain ⟨hP, hD⟩ := my_join hP9 hD9 hk2 hFc hP2 hD2
  have hP : va_P D vwCl (oW ca o v1 ++ cW ca Ad g1 ++ mW ca Md h2) H2 := my_P_perm hP List.perm_append_comm
  have hD : va_D (fun q : Nat => s.heap.size ≤ q) (oW ca o v1 ++ cW ca Ad g1 ++ mW ca Md h2) := my_D_perm hD List.perm_append_comm
  refine lv_istore (lv' := [(6, .int z2), (5, .int z1), (4, .int (nI i)), (3, .ref o), (2, .ref Md.1), (1, .ref Ad.1), (0, .ref b)]) hx hb dL_law_778 hl (by decide) rfl (fun ls hl => ?_)
  refine lv_aload_n hx hb dL_law_780 rfl (lv_at hl 4 rfl) ?_
  have hP9 := my_P_perm hP List.perm_append_comm
  have hD9 := my_D_perm hD List.perm_append_comm
  have hFc := my_free hD9 hS (fun q h => h)
  refine va_calli (va_runV (As := []) (rest := []) ⟨hx, hb, hml, hown, hts⟩ (cM_thrown l D ca H2.size Md h2) (cwV 0 hts gL_law_X6_thrown rfl rfl rfl (by decide +kernel) ⟨kk_le rfl, kk_le rfl⟩) (pvM hK (my_P_left hP9) (my_D_true (my_D_left hD9)) (mW_rc hK (my_P_left hP9))) rfl rfl hl.1 rfl (lv_room (kk_le rfl)) dL_law_781 ⟨rm_c (by omega), rm_s (by omega)⟩) hS (fun q _ h => hFc q h) hFc (fun z3 h3 t H3 locs3 ht hvm hw3 hB3 hs3 hk3 hS => ?_)
  obtain ⟨hP3, hD3⟩ := hB3
  rw [ht] at hP3
  obtain ⟨e3, e4⟩ := hw3
  subst e4
  obtain ⟨hP, hD⟩ := my_join hP9 hD9 hk3 hFc hP3 hD3
  have hP : va_P D vwCl (oW ca o v1 ++ cW ca Ad g1 ++ mW ca Md h3) H3 := my_P_perm hP List.perm_append_comm
  have hD : va_D (fun q : Nat => s.heap.size ≤ q) (oW ca o v1 ++ cW ca Ad g1 ++ mW ca Md h3) := my_D_perm hD List.perm_append_comm
  obtain ⟨f1, f2⟩ := hw2
  have e1 : thM h3 = z1 := by have q := hw1.1; rw [hRel.1, f1] at q; exact q
  have e2 : z1 = nI 0 → v1 0 = z2.toInt64 := by have q := hw1.2.1; rw [hRel.1, f1] at q; exact q
  have hR : RelL (i + 3) g1 h3 := rel_next (R := (fun s9 => R_time s9 (xs (i + 1)))) hRel (so_time (xs (i + 1))) (by omega) hw1.2.2.1 hw1.2.2.2 (by rw [f1]) f2
  refine lv_iload hx hb dL_law_784 (lv_at hl 1 rfl) ?_
  refine lv_icmp_eq (tgt := 791) hx hb dL_law_786 (by decide) (fun c5 => ?_) (fun c5 => absurd (e3.trans e1) c5)
  refine lv_iload hx hb dL_law_791 (lv_at hl 1 rfl) ?_
  refine lv_if_ne (tgt := 808) hx hb dL_law_793 (by decide) (fun c4 => ?_) (fun c4 => ?_)
  · refine lv_goto (tgt := 1424) hx hb dL_law_808 (by decide) ?_
    refine W.widen (k := 64 + 8 * i + 24) (n := 4096 + 240 * i + 720) (by omega) (by omega) ?_
    exact hN g1 h3 v1 _ _ _ hR hP hD hS (lv_sub hl [2, 3, 4, 5, 6] rfl)
  · refine lv_aload_n hx hb dL_law_796 rfl (lv_at hl 3 rfl) ?_
    refine lv_iconst (v := nI 0) hx hb dL_law_797 (by decide) ?_
    refine my_lald hx hb hK hP 0 rfl (by omega) (by omega) dL_law_798 ?_
    refine lv_iload hx hb dL_law_799 (lv_at hl 0 rfl) ?_
    refine lv_i2l hx hb dL_law_801 rfl ?_
    refine W.lcmp hx hb dL_law_802 ?_
    refine lv_if_eq (tgt := 808) hx hb dL_law_803 (by decide) (fun c3 => ?_) (fun c3 => absurd ((lg_cmp_eq _ _).mpr (e2 c4)) c3)
    refine lv_goto (tgt := 1424) hx hb dL_law_808 (by decide) ?_
    refine W.widen (k := 64 + 8 * i + 24) (n := 4096 + 240 * i + 720) (by omega) (by omega) ?_
    exact hN g1 h3 v1 _ _ _ hR hP hD hS (lv_sub hl [2, 3, 4, 5, 6] rfl)
set_option maxHeartbeats 8000000 in
set_option maxRecDepth 100000 in
theorem lwc_14 {p : Program} {e : Env} {s : State} {m : MethodId} {below : List Frame} {meth : Method} {c : Code} {l : Launch} (hl0 : l.stackTraces = false) {b L : Nat} {xs : Nat → Int32} (hL : L ≤ 1536) (hx : p.tables.exec = Jvm.exec) (hb : c.code = code) (hml : c.maxLocals = 9) (hown : s.vm.findClass RL = some m.cls) (hts : ∀ w ∈ wsL_law, w.before #[Value.ref b] s = true) (hX : va_X b L xs s s.heap) (hbl : b < s.heap.size) {D : va_G} {ca : Nat → ClassId} (hK : KK D ca s) (hZ : ZZ (fun q : Nat => s.heap.size ≤ q) s s.heap) {Q : State → Prop} {Ad : CA} {Md : MA} {o : Nat} {i : Nat} (hi : i + 3 ≤ L) {g : CG} {h : MG} {v0 : Nat → Int64} (hRel : RelL i g h) {H : Heap} {locs : List Loc} (hP : va_P D vwCl (oW ca o v0 ++ cW ca Ad g ++ mW ca Md h) H) (hD : va_D (fun q : Nat => s.heap.size ≤ q) (oW ca o v0 ++ cW ca Ad g ++ mW ca Md h)) (hS : va_S (fun q : Nat => s.heap.size ≤ q) s.heap H locs) {ls : Array Slot} (hl : lv_has ls 9 [(4, .int (nI i)), (3, .ref o), (2, .ref Md.1), (1, .ref Ad.1), (0, .ref b)])
    (hN : ∀ (g' : CG) (h' : MG) (v' : Nat → Int64) (H' : Heap) (locs' : List Loc) (ls' : Array Slot), RelL (i + 3) g' h' → va_P D vwCl (oW ca o v' ++ cW ca Ad g' ++ mW ca Md h') H' → va_D (fun q : Nat => s.heap.size ≤ q) (oW ca o v' ++ cW ca Ad g' ++ mW ca Md h') → va_S (fun q : Nat => s.heap.size ≤ q) s.heap H' locs' → lv_has ls' 9 [(4, .int (nI i)), (3, .ref o), (2, .ref Md.1), (1, .ref Ad.1), (0, .ref b)] → W p l e room_1 s m #[Value.ref b] below meth c H' locs' (64 + 8 * i + 24) (4096 + 240 * i + 720) Q (F0 m 1424 ls' [])) :
    W p l e room_1 s m #[Value.ref b] below meth c H locs (64 + 8 * i) (4096 + 240 * i) Q (F0 m 811 ls []) := by
  have hbA : ¬ (fun q : Nat => s.heap.size ≤ q) b := Nat.not_le.mpr hbl
  refine lv_aload_n hx hb dL_law_811 rfl (lv_at hl 3 rfl) ?_
  refine lv_aload_n hx hb dL_law_812 rfl (lv_at hl 4 rfl) ?_
  refine lv_iload hx hb dL_law_813 (lv_at hl 0 rfl) ?_
  refine lv_iconst (v := nI 1) hx hb dL_law_815 (by decide) ?_
  refine ni_iadd hx hb dL_law_816 ?_
  refine va_sld hx hb hX hbl hbA hS (vp_in_nI (by omega) (by omega)) dL_law_817 ?_
  rw [nI_clamp (by omega)]
  refine lv_aload_n hx hb dL_law_818 rfl (lv_at hl 1 rfl) ?_
  have hFc := my_free hD hS (fun q h => h)
  refine va_calli (vx_runSW (As := [.ref Ad.1, .int (xs (i + 1)), .ref o]) (rest := []) ⟨hx, hb, hml, hown, hts⟩ (wL_written l hl0 D ca H.size Ad g o v0 (xs (i + 1)) hRel.2.1 (rel_z hRel)) (vx_cwSW 3 hts gL_law_L_written rfl rfl rfl (by decide +kernel) ⟨kk_le rfl, kk_le rfl⟩) (psZ hK (my_P_left hP) (my_D_true (my_D_left hD)) (hZ.at hS hFc)) rfl rfl hl.1 rfl (lv_room (kk_le rfl)) dL_law_819 ⟨rm_c (by omega), rm_s (by omega)⟩) hS (fun q _ h => hFc q h) hFc (fun z1 u1 t H1 locs1 ht hvm hw1 hB1 hs1 hk1 hS => ?_)
  obtain ⟨g1, v1⟩ := u1
  obtain ⟨hP1, hD1⟩ := hB1
  rw [ht] at hP1
  obtain ⟨hP, hD⟩ := my_join hP hD hk1 hFc hP1 hD1
  have hP : va_P D vwCl (oW ca o v1 ++ cW ca Ad g1 ++ mW ca Md h) H1 := hP
  have hD : va_D (fun q : Nat => s.heap.size ≤ q) (oW ca o v1 ++ cW ca Ad g1 ++ mW ca Md h) := hD
  refine lv_istore (lv' := [(5, .int z1), (4, .int (nI i)), (3, .ref o), (2, .ref Md.1), (1, .ref Ad.1), (0, .ref b)]) hx hb dL_law_822 hl (by decide) rfl (fun ls hl => ?_)
  refine lv_aload_n hx hb dL_law_824 rfl (lv_at hl 3 rfl) ?_
  refine lv_aload_n hx hb dL_law_825 rfl (lv_at hl 5 rfl) ?_
  refine lv_iload hx hb dL_law_826 (lv_at hl 1 rfl) ?_
  refine lv_iconst (v := nI 1) hx hb dL_law_828 (by decide) ?_
  refine ni_iadd hx hb dL_law_829 ?_
  refine va_sld hx hb hX hbl hbA hS (vp_in_nI (by omega) (by omega)) dL_law_830 ?_
  rw [nI_clamp (by omega)]
  have hP9 := my_P_perm hP List.perm_append_comm
  have hD9 := my_D_perm hD List.perm_append_comm
  have hFc := my_free hD9 hS (fun q h => h)
  refine va_calli (va_runV (As := [.int (xs (i + 1))]) (rest := []) ⟨hx, hb, hml, hown, hts⟩ (cM_written l D ca H1.size Md h (xs (i + 1)) hRel.2.2.1 (rel_zm hRel) (rel_p hRel)) (cwV 1 hts gL_law_X6_written rfl rfl rfl (by decide +kernel) ⟨kk_le rfl, kk_le rfl⟩) (pvM hK (my_P_left hP9) (my_D_true (my_D_left hD9)) (mW_rc hK (my_P_left hP9))) rfl rfl hl.1 rfl (lv_room (kk_le rfl)) dL_law_831 ⟨rm_c (by omega), rm_s (by omega)⟩) hS (fun q _ h => hFc q h) hFc (fun z2 h2 t H2 locs2 ht hvm hw2 hB2 hs2 hk2 hS => ?_)
  obtain ⟨hP2, hD2⟩ := hB2
  rw [ht] at hP2
  obtain ⟨hP, hD⟩ := my_join hP9 hD9 hk2 hFc hP2 hD2
  have hP : va_P D vwCl (oW ca o v1 ++ cW ca Ad g1 ++ mW ca Md h2) H2 := my_P_perm hP List.perm_append_comm
  have hD : va_D (fun q : Nat => s.heap.size ≤ q) (oW ca o v1 ++ cW ca Ad g1 ++ mW ca Md h2) := my_D_perm hD List.perm_append_comm
  refine lv_istore (lv' := [(6, .int z2), (5, .int z1), (4, .int (nI i)), (3, .ref o), (2, .ref Md.1), (1, .ref Ad.1), (0, .ref b)]) hx hb dL_law_834 hl (by decide) rfl (fun ls hl => ?_)
  refine lv_aload_n hx hb dL_law_836 rfl (lv_at hl 4 rfl) ?_
  have hP9 := my_P_perm hP List.perm_append_comm
  have hD9 := my_D_perm hD List.perm_append_comm
  have hFc := my_free hD9 hS (fun q h => h)
  refine va_calli (va_runV (As := []) (rest := []) ⟨hx, hb, hml, hown, hts⟩ (cM_thrown l D ca H2.size Md h2) (cwV 0 hts gL_law_X6_thrown rfl rfl rfl (by decide +kernel) ⟨kk_le rfl, kk_le rfl⟩) (pvM hK (my_P_left hP9) (my_D_true (my_D_left hD9)) (mW_rc hK (my_P_left hP9))) rfl rfl hl.1 rfl (lv_room (kk_le rfl)) dL_law_837 ⟨rm_c (by omega), rm_s (by omega)⟩) hS (fun q _ h => hFc q h) hFc (fun z3 h3 t H3 locs3 ht hvm hw3 hB3 hs3 hk3 hS => ?_)
  obtain ⟨hP3, hD3⟩ := hB3
  rw [ht] at hP3
  obtain ⟨e3, e4⟩ := hw3
  subst e4
  obtain ⟨hP, hD⟩ := my_join hP9 hD9 hk3 hFc hP3 hD3
  have hP : va_P D vwCl (oW ca o v1 ++ cW ca Ad g1 ++ mW ca Md h3) H3 := my_P_perm hP List.perm_append_comm
  have hD : va_D (fun q : Nat => s.heap.size ≤ q) (oW ca o v1 ++ cW ca Ad g1 ++ mW ca Md h3) := my_D_perm hD List.perm_append_comm
  obtain ⟨f1, f2⟩ := hw2
  have e1 : thM h3 = z1 := by have q := hw1.1; rw [hRel.1, f1] at q; exact q
  have e2 : z1 = nI 0 → v1 0 = z2.toInt64 := by have q := hw1.2.1; rw [hRel.1, f1] at q; exact q
  have hR : RelL (i + 3) g1 h3 := rel_next (R := (fun s9 => R_written s9 (xs (i + 1)))) hRel (so_written (xs (i + 1))) (by omega) hw1.2.2.1 hw1.2.2.2 (by rw [f1]) f2
  refine lv_iload hx hb dL_law_840 (lv_at hl 1 rfl) ?_
  refine lv_icmp_eq (tgt := 847) hx hb dL_law_842 (by decide) (fun c5 => ?_) (fun c5 => absurd (e3.trans e1) c5)
  refine lv_iload hx hb dL_law_847 (lv_at hl 1 rfl) ?_
  refine lv_if_ne (tgt := 864) hx hb dL_law_849 (by decide) (fun c4 => ?_) (fun c4 => ?_)
  · refine lv_goto (tgt := 1424) hx hb dL_law_864 (by decide) ?_
    refine W.widen (k := 64 + 8 * i + 24) (n := 4096 + 240 * i + 720) (by omega) (by omega) ?_
    exact hN g1 h3 v1 _ _ _ hR hP hD hS (lv_sub hl [2, 3, 4, 5, 6] rfl)
  · refine lv_aload_n hx hb dL_law_852 rfl (lv_at hl 3 rfl) ?_
    refine lv_iconst (v := nI 0) hx hb dL_law_853 (by decide) ?_
    refine my_lald hx hb hK hP 0 rfl (by omega) (by omega) dL_law_854 ?_
    refine lv_iload hx hb dL_law_855 (lv_at hl 0 rfl) ?_
    refine lv_i2l hx hb dL_law_857 rfl ?_
    refine W.lcmp hx hb dL_law_858 ?_
    refine lv_if_eq (tgt := 864) hx hb dL_law_859 (by decide) (fun c3 => ?_) (fun c3 => absurd ((lg_cmp_eq _ _).mpr (e2 c4)) c3)
    refine lv_goto (tgt := 1424) hx hb dL_law_864 (by decide) ?_
    refine W.widen (k := 64 + 8 * i + 24) (n := 4096 + 240 * i + 720) (by omega) (by omega) ?_
    exact hN g1 h3 v1 _ _ _ hR hP hD hS (lv_sub hl [2, 3, 4, 5, 6] rfl)
set_option maxHeartbeats 8000000 in
set_option maxRecDepth 100000 in
theorem lwc_15 {p : Program} {e : Env} {s : State} {m : MethodId} {below : List Frame} {meth : Method} {c : Code} {l : Launch} (hl0 : l.stackTraces = false) {b L : Nat} {xs : Nat → Int32} (hL : L ≤ 1536) (hx : p.tables.exec = Jvm.exec) (hb : c.code = code) (hml : c.maxLocals = 9) (hown : s.vm.findClass RL = some m.cls) (hts : ∀ w ∈ wsL_law, w.before #[Value.ref b] s = true) (hX : va_X b L xs s s.heap) (hbl : b < s.heap.size) {D : va_G} {ca : Nat → ClassId} (hK : KK D ca s) (hZ : ZZ (fun q : Nat => s.heap.size ≤ q) s s.heap) {Q : State → Prop} {Ad : CA} {Md : MA} {o : Nat} {i : Nat} (hi : i + 3 ≤ L) {g : CG} {h : MG} {v0 : Nat → Int64} (hRel : RelL i g h) {H : Heap} {locs : List Loc} (hP : va_P D vwCl (oW ca o v0 ++ cW ca Ad g ++ mW ca Md h) H) (hD : va_D (fun q : Nat => s.heap.size ≤ q) (oW ca o v0 ++ cW ca Ad g ++ mW ca Md h)) (hS : va_S (fun q : Nat => s.heap.size ≤ q) s.heap H locs) {ls : Array Slot} (hl : lv_has ls 9 [(4, .int (nI i)), (3, .ref o), (2, .ref Md.1), (1, .ref Ad.1), (0, .ref b)])
    (hN : ∀ (g' : CG) (h' : MG) (v' : Nat → Int64) (H' : Heap) (locs' : List Loc) (ls' : Array Slot), RelL (i + 3) g' h' → va_P D vwCl (oW ca o v' ++ cW ca Ad g' ++ mW ca Md h') H' → va_D (fun q : Nat => s.heap.size ≤ q) (oW ca o v' ++ cW ca Ad g' ++ mW ca Md h') → va_S (fun q : Nat => s.heap.size ≤ q) s.heap H' locs' → lv_has ls' 9 [(4, .int (nI i)), (3, .ref o), (2, .ref Md.1), (1, .ref Ad.1), (0, .ref b)] → W p l e room_1 s m #[Value.ref b] below meth c H' locs' (64 + 8 * i + 24) (4096 + 240 * i + 720) Q (F0 m 1424 ls' [])) :
    W p l e room_1 s m #[Value.ref b] below meth c H locs (64 + 8 * i) (4096 + 240 * i) Q (F0 m 867 ls []) := by
  have hbA : ¬ (fun q : Nat => s.heap.size ≤ q) b := Nat.not_le.mpr hbl
  refine lv_aload_n hx hb dL_law_867 rfl (lv_at hl 3 rfl) ?_
  refine lv_aload_n hx hb dL_law_868 rfl (lv_at hl 4 rfl) ?_
  refine lv_iload hx hb dL_law_869 (lv_at hl 0 rfl) ?_
  refine lv_iconst (v := nI 1) hx hb dL_law_871 (by decide) ?_
  refine ni_iadd hx hb dL_law_872 ?_
  refine va_sld hx hb hX hbl hbA hS (vp_in_nI (by omega) (by omega)) dL_law_873 ?_
  rw [nI_clamp (by omega)]
  refine lv_if_eq (tgt := 881) hx hb dL_law_874 (by decide) (fun c1 => ?_) (fun c1 => ?_)
  · refine lv_iconst (v := nI 0) hx hb dL_law_881 (by decide) ?_
    refine lv_aload_n hx hb dL_law_882 rfl (lv_at hl 4 rfl) ?_
    refine lv_iload hx hb dL_law_883 (lv_at hl 0 rfl) ?_
    refine lv_iconst (v := nI 2) hx hb dL_law_885 (by decide) ?_
    refine ni_iadd hx hb dL_law_886 ?_
    refine va_sld hx hb hX hbl hbA hS (vp_in_nI (by omega) (by omega)) dL_law_887 ?_
    rw [nI_clamp (by omega)]
    refine lv_aload_n hx hb dL_law_888 rfl (lv_at hl 1 rfl) ?_
    have hFc := my_free hD hS (fun q h => h)
    refine va_calli (vx_runSW (As := [.ref Ad.1, .int (bI false), .int (xs (i + 2)), .ref o]) (rest := []) ⟨hx, hb, hml, hown, hts⟩ (wL_reads l hl0 D ca H.size Ad g o v0 false (xs (i + 2)) hRel.2.1 (rel_z hRel)) (vx_cwSW 4 hts gL_law_L_reads rfl rfl rfl (by decide +kernel) ⟨kk_le rfl, kk_le rfl⟩) (psZ hK (my_P_left hP) (my_D_true (my_D_left hD)) (hZ.at hS hFc)) rfl rfl hl.1 rfl (lv_room (kk_le rfl)) dL_law_889 ⟨rm_c (by omega), rm_s (by omega)⟩) hS (fun q _ h => hFc q h) hFc (fun z1 u1 t H1 locs1 ht hvm hw1 hB1 hs1 hk1 hS => ?_)
    obtain ⟨g1, v1⟩ := u1
    obtain ⟨hP1, hD1⟩ := hB1
    rw [ht] at hP1
    obtain ⟨hP, hD⟩ := my_join hP hD hk1 hFc hP1 hD1
    have hP : va_P D vwCl (oW ca o v1 ++ cW ca Ad g1 ++ mW ca Md h) H1 := hP
    have hD : va_D (fun q : Nat => s.heap.size ≤ q) (oW ca o v1 ++ cW ca Ad g1 ++ mW ca Md h) := hD
    refine lv_istore (lv' := [(5, .int z1), (4, .int (nI i)), (3, .ref o), (2, .ref Md.1), (1, .ref Ad.1), (0, .ref b)]) hx hb dL_law_892 hl (by decide) rfl (fun ls hl => ?_)
    refine lv_aload_n hx hb dL_law_894 rfl (lv_at hl 3 rfl) ?_
    refine lv_aload_n hx hb dL_law_895 rfl (lv_at hl 5 rfl) ?_
    refine lv_iload hx hb dL_law_896 (lv_at hl 1 rfl) ?_
    refine lv_iconst (v := nI 1) hx hb dL_law_898 (by decide) ?_
    refine ni_iadd hx hb dL_law_899 ?_
    refine va_sld hx hb hX hbl hbA hS (vp_in_nI (by omega) (by omega)) dL_law_900 ?_
    rw [nI_clamp (by omega)]
    refine lv_if_eq (tgt := 908) hx hb dL_law_901 (by decide) (fun c2 => ?_) (fun c2 => ?_)
    · refine lv_iconst (v := nI 0) hx hb dL_law_908 (by decide) ?_
      refine lv_aload_n hx hb dL_law_909 rfl (lv_at hl 5 rfl) ?_
      refine lv_iload hx hb dL_law_910 (lv_at hl 1 rfl) ?_
      refine lv_iconst (v := nI 2) hx hb dL_law_912 (by decide) ?_
      refine ni_iadd hx hb dL_law_913 ?_
      refine va_sld hx hb hX hbl hbA hS (vp_in_nI (by omega) (by omega)) dL_law_914 ?_
      rw [nI_clamp (by omega)]
      have hP9 := my_P_perm hP List.perm_append_comm
      have hD9 := my_D_perm hD List.perm_append_comm
      have hFc := my_free hD9 hS (fun q h => h)
      refine va_calli (va_runV (As := [.int (bI false), .int (xs (i + 2))]) (rest := []) ⟨hx, hb, hml, hown, hts⟩ (cM_reads l D ca H1.size Md h false (xs (i + 2)) hRel.2.2.1 (rel_zm hRel) (rel_p hRel)) (cwV 2 hts gL_law_X6_reads rfl rfl rfl (by decide +kernel) ⟨kk_le rfl, kk_le rfl⟩) (pvM hK (my_P_left hP9) (my_D_true (my_D_left hD9)) (mW_rc hK (my_P_left hP9))) rfl rfl hl.1 rfl (lv_room (kk_le rfl)) dL_law_915 ⟨rm_c (by omega), rm_s (by omega)⟩) hS (fun q _ h => hFc q h) hFc (fun z2 h2 t H2 locs2 ht hvm hw2 hB2 hs2 hk2 hS => ?_)
      obtain ⟨hP2, hD2⟩ := hB2
      rw [ht] at hP2
      obtain ⟨hP, hD⟩ := my_join hP9 hD9 hk2 hFc hP2 hD2
      have hP : va_P D vwCl (oW ca o v1 ++ cW ca Ad g1 ++ mW ca Md h2) H2 := my_P_perm hP List.perm_append_comm
      have hD : va_D (fun q : Nat => s.heap.size ≤ q) (oW ca o v1 ++ cW ca Ad g1 ++ mW ca Md h2) := my_D_perm hD List.perm_append_comm
      refine lv_istore (lv' := [(6, .int z2), (5, .int z1), (4, .int (nI i)), (3, .ref o), (2, .ref Md.1), (1, .ref Ad.1), (0, .ref b)]) hx hb dL_law_918 hl (by decide) rfl (fun ls hl => ?_)
      refine lv_aload_n hx hb dL_law_920 rfl (lv_at hl 4 rfl) ?_
      have hP9 := my_P_perm hP List.perm_append_comm
      have hD9 := my_D_perm hD List.perm_append_comm
      have hFc := my_free hD9 hS (fun q h => h)
      refine va_calli (va_runV (As := []) (rest := []) ⟨hx, hb, hml, hown, hts⟩ (cM_thrown l D ca H2.size Md h2) (cwV 0 hts gL_law_X6_thrown rfl rfl rfl (by decide +kernel) ⟨kk_le rfl, kk_le rfl⟩) (pvM hK (my_P_left hP9) (my_D_true (my_D_left hD9)) (mW_rc hK (my_P_left hP9))) rfl rfl hl.1 rfl (lv_room (kk_le rfl)) dL_law_921 ⟨rm_c (by omega), rm_s (by omega)⟩) hS (fun q _ h => hFc q h) hFc (fun z3 h3 t H3 locs3 ht hvm hw3 hB3 hs3 hk3 hS => ?_)
      obtain ⟨hP3, hD3⟩ := hB3
      rw [ht] at hP3
      obtain ⟨e3, e4⟩ := hw3
      subst e4
      obtain ⟨hP, hD⟩ := my_join hP9 hD9 hk3 hFc hP3 hD3
      have hP : va_P D vwCl (oW ca o v1 ++ cW ca Ad g1 ++ mW ca Md h3) H3 := my_P_perm hP List.perm_append_comm
      have hD : va_D (fun q : Nat => s.heap.size ≤ q) (oW ca o v1 ++ cW ca Ad g1 ++ mW ca Md h3) := my_D_perm hD List.perm_append_comm
      obtain ⟨f1, f2⟩ := hw2
      have e1 : thM h3 = z1 := by have q := hw1.1; rw [hRel.1, f1] at q; exact q
      have e2 : z1 = nI 0 → v1 0 = z2.toInt64 := by have q := hw1.2.1; rw [hRel.1, f1] at q; exact q
      have hR : RelL (i + 3) g1 h3 := rel_next (R := (fun s9 => R_reads s9 false (xs (i + 2)))) hRel (so_reads false (xs (i + 2))) (by omega) hw1.2.2.1 hw1.2.2.2 (by rw [f1]) f2
      refine lv_iload hx hb dL_law_924 (lv_at hl 1 rfl) ?_
      refine lv_icmp_eq (tgt := 931) hx hb dL_law_926 (by decide) (fun c5 => ?_) (fun c5 => absurd (e3.trans e1) c5)
      refine lv_iload hx hb dL_law_931 (lv_at hl 1 rfl) ?_
      refine lv_if_ne (tgt := 948) hx hb dL_law_933 (by decide) (fun c4 => ?_) (fun c4 => ?_)
      · refine lv_goto (tgt := 1424) hx hb dL_law_948 (by decide) ?_
        refine W.widen (k := 64 + 8 * i + 24) (n := 4096 + 240 * i + 720) (by omega) (by omega) ?_
        exact hN g1 h3 v1 _ _ _ hR hP hD hS (lv_sub hl [2, 3, 4, 5, 6] rfl)
      · refine lv_aload_n hx hb dL_law_936 rfl (lv_at hl 3 rfl) ?_
        refine lv_iconst (v := nI 0) hx hb dL_law_937 (by decide) ?_
        refine my_lald hx hb hK hP 0 rfl (by omega) (by omega) dL_law_938 ?_
        refine lv_iload hx hb dL_law_939 (lv_at hl 0 rfl) ?_
        refine lv_i2l hx hb dL_law_941 rfl ?_
        refine W.lcmp hx hb dL_law_942 ?_
        refine lv_if_eq (tgt := 948) hx hb dL_law_943 (by decide) (fun c3 => ?_) (fun c3 => absurd ((lg_cmp_eq _ _).mpr (e2 c4)) c3)
        refine lv_goto (tgt := 1424) hx hb dL_law_948 (by decide) ?_
        refine W.widen (k := 64 + 8 * i + 24) (n := 4096 + 240 * i + 720) (by omega) (by omega) ?_
        exact hN g1 h3 v1 _ _ _ hR hP hD hS (lv_sub hl [2, 3, 4, 5, 6] rfl)
    · exact absurd c1 c2
  · refine lv_iconst (v := nI 1) hx hb dL_law_877 (by decide) ?_
    refine lv_goto (tgt := 882) hx hb dL_law_878 (by decide) ?_
    refine lv_aload_n hx hb dL_law_882 rfl (lv_at hl 4 rfl) ?_
    refine lv_iload hx hb dL_law_883 (lv_at hl 0 rfl) ?_
    refine lv_iconst (v := nI 2) hx hb dL_law_885 (by decide) ?_
    refine ni_iadd hx hb dL_law_886 ?_
    refine va_sld hx hb hX hbl hbA hS (vp_in_nI (by omega) (by omega)) dL_law_887 ?_
    rw [nI_clamp (by omega)]
    refine lv_aload_n hx hb dL_law_888 rfl (lv_at hl 1 rfl) ?_
    have hFc := my_free hD hS (fun q h => h)
    refine va_calli (vx_runSW (As := [.ref Ad.1, .int (bI true), .int (xs (i + 2)), .ref o]) (rest := []) ⟨hx, hb, hml, hown, hts⟩ (wL_reads l hl0 D ca H.size Ad g o v0 true (xs (i + 2)) hRel.2.1 (rel_z hRel)) (vx_cwSW 4 hts gL_law_L_reads rfl rfl rfl (by decide +kernel) ⟨kk_le rfl, kk_le rfl⟩) (psZ hK (my_P_left hP) (my_D_true (my_D_left hD)) (hZ.at hS hFc)) rfl rfl hl.1 rfl (lv_room (kk_le rfl)) dL_law_889 ⟨rm_c (by omega), rm_s (by omega)⟩) hS (fun q _ h => hFc q h) hFc (fun z1 u1 t H1 locs1 ht hvm hw1 hB1 hs1 hk1 hS => ?_)
    obtain ⟨g1, v1⟩ := u1
    obtain ⟨hP1, hD1⟩ := hB1
    rw [ht] at hP1
    obtain ⟨hP, hD⟩ := my_join hP hD hk1 hFc hP1 hD1
    have hP : va_P D vwCl (oW ca o v1 ++ cW ca Ad g1 ++ mW ca Md h) H1 := hP
    have hD : va_D (fun q : Nat => s.heap.size ≤ q) (oW ca o v1 ++ cW ca Ad g1 ++ mW ca Md h) := hD
    refine lv_istore (lv' := [(5, .int z1), (4, .int (nI i)), (3, .ref o), (2, .ref Md.1), (1, .ref Ad.1), (0, .ref b)]) hx hb dL_law_892 hl (by decide) rfl (fun ls hl => ?_)
    refine lv_aload_n hx hb dL_law_894 rfl (lv_at hl 3 rfl) ?_
    refine lv_aload_n hx hb dL_law_895 rfl (lv_at hl 5 rfl) ?_
    refine lv_iload hx hb dL_law_896 (lv_at hl 1 rfl) ?_
    refine lv_iconst (v := nI 1) hx hb dL_law_898 (by decide) ?_
    refine ni_iadd hx hb dL_law_899 ?_
    refine va_sld hx hb hX hbl hbA hS (vp_in_nI (by omega) (by omega)) dL_law_900 ?_
    rw [nI_clamp (by omega)]
    refine lv_if_eq (tgt := 908) hx hb dL_law_901 (by decide) (fun c2 => ?_) (fun c2 => ?_)
    · exact absurd c2 c1
    · refine lv_iconst (v := nI 1) hx hb dL_law_904 (by decide) ?_
      refine lv_goto (tgt := 909) hx hb dL_law_905 (by decide) ?_
      refine lv_aload_n hx hb dL_law_909 rfl (lv_at hl 5 rfl) ?_
      refine lv_iload hx hb dL_law_910 (lv_at hl 1 rfl) ?_
      refine lv_iconst (v := nI 2) hx hb dL_law_912 (by decide) ?_
      refine ni_iadd hx hb dL_law_913 ?_
      refine va_sld hx hb hX hbl hbA hS (vp_in_nI (by omega) (by omega)) dL_law_914 ?_
      rw [nI_clamp (by omega)]
      have hP9 := my_P_perm hP List.perm_append_comm
      have hD9 := my_D_perm hD List.perm_append_comm
      have hFc := my_free hD9 hS (fun q h => h)
      refine va_calli (va_runV (As := [.int (bI true), .int (xs (i + 2))]) (rest := []) ⟨hx, hb, hml, hown, hts⟩ (cM_reads l D ca H1.size Md h true (xs (i + 2)) hRel.2.2.1 (rel_zm hRel) (rel_p hRel)) (cwV 2 hts gL_law_X6_reads rfl rfl rfl (by decide +kernel) ⟨kk_le rfl, kk_le rfl⟩) (pvM hK (my_P_left hP9) (my_D_true (my_D_left hD9)) (mW_rc hK (my_P_left hP9))) rfl rfl hl.1 rfl (lv_room (kk_le rfl)) dL_law_915 ⟨rm_c (by omega), rm_s (by omega)⟩) hS (fun q _ h => hFc q h) hFc (fun z2 h2 t H2 locs2 ht hvm hw2 hB2 hs2 hk2 hS => ?_)
      obtain ⟨hP2, hD2⟩ := hB2
      rw [ht] at hP2
      obtain ⟨hP, hD⟩ := my_join hP9 hD9 hk2 hFc hP2 hD2
      have hP : va_P D vwCl (oW ca o v1 ++ cW ca Ad g1 ++ mW ca Md h2) H2 := my_P_perm hP List.perm_append_comm
      have hD : va_D (fun q : Nat => s.heap.size ≤ q) (oW ca o v1 ++ cW ca Ad g1 ++ mW ca Md h2) := my_D_perm hD List.perm_append_comm
      refine lv_istore (lv' := [(6, .int z2), (5, .int z1), (4, .int (nI i)), (3, .ref o), (2, .ref Md.1), (1, .ref Ad.1), (0, .ref b)]) hx hb dL_law_918 hl (by decide) rfl (fun ls hl => ?_)
      refine lv_aload_n hx hb dL_law_920 rfl (lv_at hl 4 rfl) ?_
      have hP9 := my_P_perm hP List.perm_append_comm
      have hD9 := my_D_perm hD List.perm_append_comm
      have hFc := my_free hD9 hS (fun q h => h)
      refine va_calli (va_runV (As := []) (rest := []) ⟨hx, hb, hml, hown, hts⟩ (cM_thrown l D ca H2.size Md h2) (cwV 0 hts gL_law_X6_thrown rfl rfl rfl (by decide +kernel) ⟨kk_le rfl, kk_le rfl⟩) (pvM hK (my_P_left hP9) (my_D_true (my_D_left hD9)) (mW_rc hK (my_P_left hP9))) rfl rfl hl.1 rfl (lv_room (kk_le rfl)) dL_law_921 ⟨rm_c (by omega), rm_s (by omega)⟩) hS (fun q _ h => hFc q h) hFc (fun z3 h3 t H3 locs3 ht hvm hw3 hB3 hs3 hk3 hS => ?_)
      obtain ⟨hP3, hD3⟩ := hB3
      rw [ht] at hP3
      obtain ⟨e3, e4⟩ := hw3
      subst e4
      obtain ⟨hP, hD⟩ := my_join hP9 hD9 hk3 hFc hP3 hD3
      have hP : va_P D vwCl (oW ca o v1 ++ cW ca Ad g1 ++ mW ca Md h3) H3 := my_P_perm hP List.perm_append_comm
      have hD : va_D (fun q : Nat => s.heap.size ≤ q) (oW ca o v1 ++ cW ca Ad g1 ++ mW ca Md h3) := my_D_perm hD List.perm_append_comm
      obtain ⟨f1, f2⟩ := hw2
      have e1 : thM h3 = z1 := by have q := hw1.1; rw [hRel.1, f1] at q; exact q
      have e2 : z1 = nI 0 → v1 0 = z2.toInt64 := by have q := hw1.2.1; rw [hRel.1, f1] at q; exact q
      have hR : RelL (i + 3) g1 h3 := rel_next (R := (fun s9 => R_reads s9 true (xs (i + 2)))) hRel (so_reads true (xs (i + 2))) (by omega) hw1.2.2.1 hw1.2.2.2 (by rw [f1]) f2
      refine lv_iload hx hb dL_law_924 (lv_at hl 1 rfl) ?_
      refine lv_icmp_eq (tgt := 931) hx hb dL_law_926 (by decide) (fun c5 => ?_) (fun c5 => absurd (e3.trans e1) c5)
      refine lv_iload hx hb dL_law_931 (lv_at hl 1 rfl) ?_
      refine lv_if_ne (tgt := 948) hx hb dL_law_933 (by decide) (fun c4 => ?_) (fun c4 => ?_)
      · refine lv_goto (tgt := 1424) hx hb dL_law_948 (by decide) ?_
        refine W.widen (k := 64 + 8 * i + 24) (n := 4096 + 240 * i + 720) (by omega) (by omega) ?_
        exact hN g1 h3 v1 _ _ _ hR hP hD hS (lv_sub hl [2, 3, 4, 5, 6] rfl)
      · refine lv_aload_n hx hb dL_law_936 rfl (lv_at hl 3 rfl) ?_
        refine lv_iconst (v := nI 0) hx hb dL_law_937 (by decide) ?_
        refine my_lald hx hb hK hP 0 rfl (by omega) (by omega) dL_law_938 ?_
        refine lv_iload hx hb dL_law_939 (lv_at hl 0 rfl) ?_
        refine lv_i2l hx hb dL_law_941 rfl ?_
        refine W.lcmp hx hb dL_law_942 ?_
        refine lv_if_eq (tgt := 948) hx hb dL_law_943 (by decide) (fun c3 => ?_) (fun c3 => absurd ((lg_cmp_eq _ _).mpr (e2 c4)) c3)
        refine lv_goto (tgt := 1424) hx hb dL_law_948 (by decide) ?_
        refine W.widen (k := 64 + 8 * i + 24) (n := 4096 + 240 * i + 720) (by omega) (by omega) ?_
        exact hN g1 h3 v1 _ _ _ hR hP hD hS (lv_sub hl [2, 3, 4, 5, 6] rfl)
set_option maxHeartbeats 8000000 in
set_option maxRecDepth 100000 in
theorem lwc_16 {p : Program} {e : Env} {s : State} {m : MethodId} {below : List Frame} {meth : Method} {c : Code} {l : Launch} (hl0 : l.stackTraces = false) {b L : Nat} {xs : Nat → Int32} (hL : L ≤ 1536) (hx : p.tables.exec = Jvm.exec) (hb : c.code = code) (hml : c.maxLocals = 9) (hown : s.vm.findClass RL = some m.cls) (hts : ∀ w ∈ wsL_law, w.before #[Value.ref b] s = true) (hX : va_X b L xs s s.heap) (hbl : b < s.heap.size) {D : va_G} {ca : Nat → ClassId} (hK : KK D ca s) (hZ : ZZ (fun q : Nat => s.heap.size ≤ q) s s.heap) {Q : State → Prop} {Ad : CA} {Md : MA} {o : Nat} {i : Nat} (hi : i + 3 ≤ L) {g : CG} {h : MG} {v0 : Nat → Int64} (hRel : RelL i g h) {H : Heap} {locs : List Loc} (hP : va_P D vwCl (oW ca o v0 ++ cW ca Ad g ++ mW ca Md h) H) (hD : va_D (fun q : Nat => s.heap.size ≤ q) (oW ca o v0 ++ cW ca Ad g ++ mW ca Md h)) (hS : va_S (fun q : Nat => s.heap.size ≤ q) s.heap H locs) {ls : Array Slot} (hl : lv_has ls 9 [(4, .int (nI i)), (3, .ref o), (2, .ref Md.1), (1, .ref Ad.1), (0, .ref b)])
    (hN : ∀ (g' : CG) (h' : MG) (v' : Nat → Int64) (H' : Heap) (locs' : List Loc) (ls' : Array Slot), RelL (i + 3) g' h' → va_P D vwCl (oW ca o v' ++ cW ca Ad g' ++ mW ca Md h') H' → va_D (fun q : Nat => s.heap.size ≤ q) (oW ca o v' ++ cW ca Ad g' ++ mW ca Md h') → va_S (fun q : Nat => s.heap.size ≤ q) s.heap H' locs' → lv_has ls' 9 [(4, .int (nI i)), (3, .ref o), (2, .ref Md.1), (1, .ref Ad.1), (0, .ref b)] → W p l e room_1 s m #[Value.ref b] below meth c H' locs' (64 + 8 * i + 24) (4096 + 240 * i + 720) Q (F0 m 1424 ls' [])) :
    W p l e room_1 s m #[Value.ref b] below meth c H locs (64 + 8 * i) (4096 + 240 * i) Q (F0 m 951 ls []) := by
  have hbA : ¬ (fun q : Nat => s.heap.size ≤ q) b := Nat.not_le.mpr hbl
  refine lv_aload_n hx hb dL_law_951 rfl (lv_at hl 3 rfl) ?_
  refine lv_aload_n hx hb dL_law_952 rfl (lv_at hl 4 rfl) ?_
  refine lv_iload hx hb dL_law_953 (lv_at hl 0 rfl) ?_
  refine lv_iconst (v := nI 1) hx hb dL_law_955 (by decide) ?_
  refine ni_iadd hx hb dL_law_956 ?_
  refine va_sld hx hb hX hbl hbA hS (vp_in_nI (by omega) (by omega)) dL_law_957 ?_
  rw [nI_clamp (by omega)]
  refine lv_if_eq (tgt := 965) hx hb dL_law_958 (by decide) (fun c1 => ?_) (fun c1 => ?_)
  · refine lv_iconst (v := nI 0) hx hb dL_law_965 (by decide) ?_
    refine lv_aload_n hx hb dL_law_966 rfl (lv_at hl 4 rfl) ?_
    refine lv_iload hx hb dL_law_967 (lv_at hl 0 rfl) ?_
    refine lv_iconst (v := nI 2) hx hb dL_law_969 (by decide) ?_
    refine ni_iadd hx hb dL_law_970 ?_
    refine va_sld hx hb hX hbl hbA hS (vp_in_nI (by omega) (by omega)) dL_law_971 ?_
    rw [nI_clamp (by omega)]
    refine lv_aload_n hx hb dL_law_972 rfl (lv_at hl 1 rfl) ?_
    have hFc := my_free hD hS (fun q h => h)
    refine va_calli (vx_runSW (As := [.ref Ad.1, .int (bI false), .int (xs (i + 2)), .ref o]) (rest := []) ⟨hx, hb, hml, hown, hts⟩ (wL_bit l hl0 D ca H.size Ad g o v0 false (xs (i + 2)) hRel.2.1 (rel_z hRel)) (vx_cwSW 4 hts gL_law_L_bit rfl rfl rfl (by decide +kernel) ⟨kk_le rfl, kk_le rfl⟩) (psZ hK (my_P_left hP) (my_D_true (my_D_left hD)) (hZ.at hS hFc)) rfl rfl hl.1 rfl (lv_room (kk_le rfl)) dL_law_973 ⟨rm_c (by omega), rm_s (by omega)⟩) hS (fun q _ h => hFc q h) hFc (fun z1 u1 t H1 locs1 ht hvm hw1 hB1 hs1 hk1 hS => ?_)
    obtain ⟨g1, v1⟩ := u1
    obtain ⟨hP1, hD1⟩ := hB1
    rw [ht] at hP1
    obtain ⟨hP, hD⟩ := my_join hP hD hk1 hFc hP1 hD1
    have hP : va_P D vwCl (oW ca o v1 ++ cW ca Ad g1 ++ mW ca Md h) H1 := hP
    have hD : va_D (fun q : Nat => s.heap.size ≤ q) (oW ca o v1 ++ cW ca Ad g1 ++ mW ca Md h) := hD
    refine lv_istore (lv' := [(5, .int z1), (4, .int (nI i)), (3, .ref o), (2, .ref Md.1), (1, .ref Ad.1), (0, .ref b)]) hx hb dL_law_976 hl (by decide) rfl (fun ls hl => ?_)
    refine lv_aload_n hx hb dL_law_978 rfl (lv_at hl 3 rfl) ?_
    refine lv_aload_n hx hb dL_law_979 rfl (lv_at hl 5 rfl) ?_
    refine lv_iload hx hb dL_law_980 (lv_at hl 1 rfl) ?_
    refine lv_iconst (v := nI 1) hx hb dL_law_982 (by decide) ?_
    refine ni_iadd hx hb dL_law_983 ?_
    refine va_sld hx hb hX hbl hbA hS (vp_in_nI (by omega) (by omega)) dL_law_984 ?_
    rw [nI_clamp (by omega)]
    refine lv_if_eq (tgt := 992) hx hb dL_law_985 (by decide) (fun c2 => ?_) (fun c2 => ?_)
    · refine lv_iconst (v := nI 0) hx hb dL_law_992 (by decide) ?_
      refine lv_aload_n hx hb dL_law_993 rfl (lv_at hl 5 rfl) ?_
      refine lv_iload hx hb dL_law_994 (lv_at hl 1 rfl) ?_
      refine lv_iconst (v := nI 2) hx hb dL_law_996 (by decide) ?_
      refine ni_iadd hx hb dL_law_997 ?_
      refine va_sld hx hb hX hbl hbA hS (vp_in_nI (by omega) (by omega)) dL_law_998 ?_
      rw [nI_clamp (by omega)]
      have hP9 := my_P_perm hP List.perm_append_comm
      have hD9 := my_D_perm hD List.perm_append_comm
      have hFc := my_free hD9 hS (fun q h => h)
      refine va_calli (va_runV (As := [.int (bI false), .int (xs (i + 2))]) (rest := []) ⟨hx, hb, hml, hown, hts⟩ (cM_bit l D ca H1.size Md h false (xs (i + 2)) hRel.2.2.1 (rel_zm hRel) (rel_p hRel)) (cwV 2 hts gL_law_X6_bit rfl rfl rfl (by decide +kernel) ⟨kk_le rfl, kk_le rfl⟩) (pvM hK (my_P_left hP9) (my_D_true (my_D_left hD9)) (mW_rc hK (my_P_left hP9))) rfl rfl hl.1 rfl (lv_room (kk_le rfl)) dL_law_999 ⟨rm_c (by omega), rm_s (by omega)⟩) hS (fun q _ h => hFc q h) hFc (fun z2 h2 t H2 locs2 ht hvm hw2 hB2 hs2 hk2 hS => ?_)
      obtain ⟨hP2, hD2⟩ := hB2
      rw [ht] at hP2
      obtain ⟨hP, hD⟩ := my_join hP9 hD9 hk2 hFc hP2 hD2
      have hP : va_P D vwCl (oW ca o v1 ++ cW ca Ad g1 ++ mW ca Md h2) H2 := my_P_perm hP List.perm_append_comm
      have hD : va_D (fun q : Nat => s.heap.size ≤ q) (oW ca o v1 ++ cW ca Ad g1 ++ mW ca Md h2) := my_D_perm hD List.perm_append_comm
      refine lv_istore (lv' := [(6, .int z2), (5, .int z1), (4, .int (nI i)), (3, .ref o), (2, .ref Md.1), (1, .ref Ad.1), (0, .ref b)]) hx hb dL_law_1002 hl (by decide) rfl (fun ls hl => ?_)
      refine lv_aload_n hx hb dL_law_1004 rfl (lv_at hl 4 rfl) ?_
      have hP9 := my_P_perm hP List.perm_append_comm
      have hD9 := my_D_perm hD List.perm_append_comm
      have hFc := my_free hD9 hS (fun q h => h)
      refine va_calli (va_runV (As := []) (rest := []) ⟨hx, hb, hml, hown, hts⟩ (cM_thrown l D ca H2.size Md h2) (cwV 0 hts gL_law_X6_thrown rfl rfl rfl (by decide +kernel) ⟨kk_le rfl, kk_le rfl⟩) (pvM hK (my_P_left hP9) (my_D_true (my_D_left hD9)) (mW_rc hK (my_P_left hP9))) rfl rfl hl.1 rfl (lv_room (kk_le rfl)) dL_law_1005 ⟨rm_c (by omega), rm_s (by omega)⟩) hS (fun q _ h => hFc q h) hFc (fun z3 h3 t H3 locs3 ht hvm hw3 hB3 hs3 hk3 hS => ?_)
      obtain ⟨hP3, hD3⟩ := hB3
      rw [ht] at hP3
      obtain ⟨e3, e4⟩ := hw3
      subst e4
      obtain ⟨hP, hD⟩ := my_join hP9 hD9 hk3 hFc hP3 hD3
      have hP : va_P D vwCl (oW ca o v1 ++ cW ca Ad g1 ++ mW ca Md h3) H3 := my_P_perm hP List.perm_append_comm
      have hD : va_D (fun q : Nat => s.heap.size ≤ q) (oW ca o v1 ++ cW ca Ad g1 ++ mW ca Md h3) := my_D_perm hD List.perm_append_comm
      obtain ⟨f1, f2⟩ := hw2
      have e1 : thM h3 = z1 := by have q := hw1.1; rw [hRel.1, f1] at q; exact q
      have e2 : z1 = nI 0 → v1 0 = z2.toInt64 := by have q := hw1.2.1; rw [hRel.1, f1] at q; exact q
      have hR : RelL (i + 3) g1 h3 := rel_next (R := (fun s9 => R_bit s9 false (xs (i + 2)))) hRel (so_bit false (xs (i + 2))) (by omega) hw1.2.2.1 hw1.2.2.2 (by rw [f1]) f2
      refine lv_iload hx hb dL_law_1008 (lv_at hl 1 rfl) ?_
      refine lv_icmp_eq (tgt := 1015) hx hb dL_law_1010 (by decide) (fun c5 => ?_) (fun c5 => absurd (e3.trans e1) c5)
      refine lv_iload hx hb dL_law_1015 (lv_at hl 1 rfl) ?_
      refine lv_if_ne (tgt := 1032) hx hb dL_law_1017 (by decide) (fun c4 => ?_) (fun c4 => ?_)
      · refine lv_goto (tgt := 1424) hx hb dL_law_1032 (by decide) ?_
        refine W.widen (k := 64 + 8 * i + 24) (n := 4096 + 240 * i + 720) (by omega) (by omega) ?_
        exact hN g1 h3 v1 _ _ _ hR hP hD hS (lv_sub hl [2, 3, 4, 5, 6] rfl)
      · refine lv_aload_n hx hb dL_law_1020 rfl (lv_at hl 3 rfl) ?_
        refine lv_iconst (v := nI 0) hx hb dL_law_1021 (by decide) ?_
        refine my_lald hx hb hK hP 0 rfl (by omega) (by omega) dL_law_1022 ?_
        refine lv_iload hx hb dL_law_1023 (lv_at hl 0 rfl) ?_
        refine lv_i2l hx hb dL_law_1025 rfl ?_
        refine W.lcmp hx hb dL_law_1026 ?_
        refine lv_if_eq (tgt := 1032) hx hb dL_law_1027 (by decide) (fun c3 => ?_) (fun c3 => absurd ((lg_cmp_eq _ _).mpr (e2 c4)) c3)
        refine lv_goto (tgt := 1424) hx hb dL_law_1032 (by decide) ?_
        refine W.widen (k := 64 + 8 * i + 24) (n := 4096 + 240 * i + 720) (by omega) (by omega) ?_
        exact hN g1 h3 v1 _ _ _ hR hP hD hS (lv_sub hl [2, 3, 4, 5, 6] rfl)
    · exact absurd c1 c2
  · refine lv_iconst (v := nI 1) hx hb dL_law_961 (by decide) ?_
    refine lv_goto (tgt := 966) hx hb dL_law_962 (by decide) ?_
    refine lv_aload_n hx hb dL_law_966 rfl (lv_at hl 4 rfl) ?_
    refine lv_iload hx hb dL_law_967 (lv_at hl 0 rfl) ?_
    refine lv_iconst (v := nI 2) hx hb dL_law_969 (by decide) ?_
    refine ni_iadd hx hb dL_law_970 ?_
    refine va_sld hx hb hX hbl hbA hS (vp_in_nI (by omega) (by omega)) dL_law_971 ?_
    rw [nI_clamp (by omega)]
    refine lv_aload_n hx hb dL_law_972 rfl (lv_at hl 1 rfl) ?_
    have hFc := my_free hD hS (fun q h => h)
    refine va_calli (vx_runSW (As := [.ref Ad.1, .int (bI true), .int (xs (i + 2)), .ref o]) (rest := []) ⟨hx, hb, hml, hown, hts⟩ (wL_bit l hl0 D ca H.size Ad g o v0 true (xs (i + 2)) hRel.2.1 (rel_z hRel)) (vx_cwSW 4 hts gL_law_L_bit rfl rfl rfl (by decide +kernel) ⟨kk_le rfl, kk_le rfl⟩) (psZ hK (my_P_left hP) (my_D_true (my_D_left hD)) (hZ.at hS hFc)) rfl rfl hl.1 rfl (lv_room (kk_le rfl)) dL_law_973 ⟨rm_c (by omega), rm_s (by omega)⟩) hS (fun q _ h => hFc q h) hFc (fun z1 u1 t H1 locs1 ht hvm hw1 hB1 hs1 hk1 hS => ?_)
    obtain ⟨g1, v1⟩ := u1
    obtain ⟨hP1, hD1⟩ := hB1
    rw [ht] at hP1
    obtain ⟨hP, hD⟩ := my_join hP hD hk1 hFc hP1 hD1
    have hP : va_P D vwCl (oW ca o v1 ++ cW ca Ad g1 ++ mW ca Md h) H1 := hP
    have hD : va_D (fun q : Nat => s.heap.size ≤ q) (oW ca o v1 ++ cW ca Ad g1 ++ mW ca Md h) := hD
    refine lv_istore (lv' := [(5, .int z1), (4, .int (nI i)), (3, .ref o), (2, .ref Md.1), (1, .ref Ad.1), (0, .ref b)]) hx hb dL_law_976 hl (by decide) rfl (fun ls hl => ?_)
    refine lv_aload_n hx hb dL_law_978 rfl (lv_at hl 3 rfl) ?_
    refine lv_aload_n hx hb dL_law_979 rfl (lv_at hl 5 rfl) ?_
    refine lv_iload hx hb dL_law_980 (lv_at hl 1 rfl) ?_
    refine lv_iconst (v := nI 1) hx hb dL_law_982 (by decide) ?_
    refine ni_iadd hx hb dL_law_983 ?_
    refine va_sld hx hb hX hbl hbA hS (vp_in_nI (by omega) (by omega)) dL_law_984 ?_
    rw [nI_clamp (by omega)]
    refine lv_if_eq (tgt := 992) hx hb dL_law_985 (by decide) (fun c2 => ?_) (fun c2 => ?_)
    · exact absurd c2 c1
    · refine lv_iconst (v := nI 1) hx hb dL_law_988 (by decide) ?_
      refine lv_goto (tgt := 993) hx hb dL_law_989 (by decide) ?_
      refine lv_aload_n hx hb dL_law_993 rfl (lv_at hl 5 rfl) ?_
      refine lv_iload hx hb dL_law_994 (lv_at hl 1 rfl) ?_
      refine lv_iconst (v := nI 2) hx hb dL_law_996 (by decide) ?_
      refine ni_iadd hx hb dL_law_997 ?_
      refine va_sld hx hb hX hbl hbA hS (vp_in_nI (by omega) (by omega)) dL_law_998 ?_
      rw [nI_clamp (by omega)]
      have hP9 := my_P_perm hP List.perm_append_comm
      have hD9 := my_D_perm hD List.perm_append_comm
      have hFc := my_free hD9 hS (fun q h => h)
      refine va_calli (va_runV (As := [.int (bI true), .int (xs (i + 2))]) (rest := []) ⟨hx, hb, hml, hown, hts⟩ (cM_bit l D ca H1.size Md h true (xs (i + 2)) hRel.2.2.1 (rel_zm hRel) (rel_p hRel)) (cwV 2 hts gL_law_X6_bit rfl rfl rfl (by decide +kernel) ⟨kk_le rfl, kk_le rfl⟩) (pvM hK (my_P_left hP9) (my_D_true (my_D_left hD9)) (mW_rc hK (my_P_left hP9))) rfl rfl hl.1 rfl (lv_room (kk_le rfl)) dL_law_999 ⟨rm_c (by omega), rm_s (by omega)⟩) hS (fun q _ h => hFc q h) hFc (fun z2 h2 t H2 locs2 ht hvm hw2 hB2 hs2 hk2 hS => ?_)
      obtain ⟨hP2, hD2⟩ := hB2
      rw [ht] at hP2
      obtain ⟨hP, hD⟩ := my_join hP9 hD9 hk2 hFc hP2 hD2
      have hP : va_P D vwCl (oW ca o v1 ++ cW ca Ad g1 ++ mW ca Md h2) H2 := my_P_perm hP List.perm_append_comm
      have hD : va_D (fun q : Nat => s.heap.size ≤ q) (oW ca o v1 ++ cW ca Ad g1 ++ mW ca Md h2) := my_D_perm hD List.perm_append_comm
      refine lv_istore (lv' := [(6, .int z2), (5, .int z1), (4, .int (nI i)), (3, .ref o), (2, .ref Md.1), (1, .ref Ad.1), (0, .ref b)]) hx hb dL_law_1002 hl (by decide) rfl (fun ls hl => ?_)
      refine lv_aload_n hx hb dL_law_1004 rfl (lv_at hl 4 rfl) ?_
      have hP9 := my_P_perm hP List.perm_append_comm
      have hD9 := my_D_perm hD List.perm_append_comm
      have hFc := my_free hD9 hS (fun q h => h)
      refine va_calli (va_runV (As := []) (rest := []) ⟨hx, hb, hml, hown, hts⟩ (cM_thrown l D ca H2.size Md h2) (cwV 0 hts gL_law_X6_thrown rfl rfl rfl (by decide +kernel) ⟨kk_le rfl, kk_le rfl⟩) (pvM hK (my_P_left hP9) (my_D_true (my_D_left hD9)) (mW_rc hK (my_P_left hP9))) rfl rfl hl.1 rfl (lv_room (kk_le rfl)) dL_law_1005 ⟨rm_c (by omega), rm_s (by omega)⟩) hS (fun q _ h => hFc q h) hFc (fun z3 h3 t H3 locs3 ht hvm hw3 hB3 hs3 hk3 hS => ?_)
      obtain ⟨hP3, hD3⟩ := hB3
      rw [ht] at hP3
      obtain ⟨e3, e4⟩ := hw3
      subst e4
      obtain ⟨hP, hD⟩ := my_join hP9 hD9 hk3 hFc hP3 hD3
      have hP : va_P D vwCl (oW ca o v1 ++ cW ca Ad g1 ++ mW ca Md h3) H3 := my_P_perm hP List.perm_append_comm
      have hD : va_D (fun q : Nat => s.heap.size ≤ q) (oW ca o v1 ++ cW ca Ad g1 ++ mW ca Md h3) := my_D_perm hD List.perm_append_comm
      obtain ⟨f1, f2⟩ := hw2
      have e1 : thM h3 = z1 := by have q := hw1.1; rw [hRel.1, f1] at q; exact q
      have e2 : z1 = nI 0 → v1 0 = z2.toInt64 := by have q := hw1.2.1; rw [hRel.1, f1] at q; exact q
      have hR : RelL (i + 3) g1 h3 := rel_next (R := (fun s9 => R_bit s9 true (xs (i + 2)))) hRel (so_bit true (xs (i + 2))) (by omega) hw1.2.2.1 hw1.2.2.2 (by rw [f1]) f2
      refine lv_iload hx hb dL_law_1008 (lv_at hl 1 rfl) ?_
      refine lv_icmp_eq (tgt := 1015) hx hb dL_law_1010 (by decide) (fun c5 => ?_) (fun c5 => absurd (e3.trans e1) c5)
      refine lv_iload hx hb dL_law_1015 (lv_at hl 1 rfl) ?_
      refine lv_if_ne (tgt := 1032) hx hb dL_law_1017 (by decide) (fun c4 => ?_) (fun c4 => ?_)
      · refine lv_goto (tgt := 1424) hx hb dL_law_1032 (by decide) ?_
        refine W.widen (k := 64 + 8 * i + 24) (n := 4096 + 240 * i + 720) (by omega) (by omega) ?_
        exact hN g1 h3 v1 _ _ _ hR hP hD hS (lv_sub hl [2, 3, 4, 5, 6] rfl)
      · refine lv_aload_n hx hb dL_law_1020 rfl (lv_at hl 3 rfl) ?_
        refine lv_iconst (v := nI 0) hx hb dL_law_1021 (by decide) ?_
        refine my_lald hx hb hK hP 0 rfl (by omega) (by omega) dL_law_1022 ?_
        refine lv_iload hx hb dL_law_1023 (lv_at hl 0 rfl) ?_
        refine lv_i2l hx hb dL_law_1025 rfl ?_
        refine W.lcmp hx hb dL_law_1026 ?_
        refine lv_if_eq (tgt := 1032) hx hb dL_law_1027 (by decide) (fun c3 => ?_) (fun c3 => absurd ((lg_cmp_eq _ _).mpr (e2 c4)) c3)
        refine lv_goto (tgt := 1424) hx hb dL_law_1032 (by decide) ?_
        refine W.widen (k := 64 + 8 * i + 24) (n := 4096 + 240 * i + 720) (by omega) (by omega) ?_
        exact hN g1 h3 v1 _ _ _ hR hP hD hS (lv_sub hl [2, 3, 4, 5, 6] rfl)
set_option maxHeartbeats 8000000 in
set_option maxRecDepth 100000 in
theorem lwc_17 {p : Program} {e : Env} {s : State} {m : MethodId} {below : List Frame} {meth : Method} {c : Code} {l : Launch} (hl0 : l.stackTraces = false) {b L : Nat} {xs : Nat → Int32} (hL : L ≤ 1536) (hx : p.tables.exec = Jvm.exec) (hb : c.code = code) (hml : c.maxLocals = 9) (hown : s.vm.findClass RL = some m.cls) (hts : ∀ w ∈ wsL_law, w.before #[Value.ref b] s = true) (hX : va_X b L xs s s.heap) (hbl : b < s.heap.size) {D : va_G} {ca : Nat → ClassId} (hK : KK D ca s) (hZ : ZZ (fun q : Nat => s.heap.size ≤ q) s s.heap) {Q : State → Prop} {Ad : CA} {Md : MA} {o : Nat} {i : Nat} (hi : i + 3 ≤ L) {g : CG} {h : MG} {v0 : Nat → Int64} (hRel : RelL i g h) {H : Heap} {locs : List Loc} (hP : va_P D vwCl (oW ca o v0 ++ cW ca Ad g ++ mW ca Md h) H) (hD : va_D (fun q : Nat => s.heap.size ≤ q) (oW ca o v0 ++ cW ca Ad g ++ mW ca Md h)) (hS : va_S (fun q : Nat => s.heap.size ≤ q) s.heap H locs) {ls : Array Slot} (hl : lv_has ls 9 [(4, .int (nI i)), (3, .ref o), (2, .ref Md.1), (1, .ref Ad.1), (0, .ref b)])
    (hN : ∀ (g' : CG) (h' : MG) (v' : Nat → Int64) (H' : Heap) (locs' : List Loc) (ls' : Array Slot), RelL (i + 3) g' h' → va_P D vwCl (oW ca o v' ++ cW ca Ad g' ++ mW ca Md h') H' → va_D (fun q : Nat => s.heap.size ≤ q) (oW ca o v' ++ cW ca Ad g' ++ mW ca Md h') → va_S (fun q : Nat => s.heap.size ≤ q) s.heap H' locs' → lv_has ls' 9 [(4, .int (nI i)), (3, .ref o), (2, .ref Md.1), (1, .ref Ad.1), (0, .ref b)] → W p l e room_1 s m #[Value.ref b] below meth c H' locs' (64 + 8 * i + 24) (4096 + 240 * i + 720) Q (F0 m 1424 ls' [])) :
    W p l e room_1 s m #[Value.ref b] below meth c H locs (64 + 8 * i) (4096 + 240 * i) Q (F0 m 1035 ls []) := by
  have hbA : ¬ (fun q : Nat => s.heap.size ≤ q) b := Nat.not_le.mpr hbl
  refine lv_aload_n hx hb dL_law_1035 rfl (lv_at hl 3 rfl) ?_
  refine lv_aload_n hx hb dL_law_1036 rfl (lv_at hl 4 rfl) ?_
  refine lv_iload hx hb dL_law_1037 (lv_at hl 0 rfl) ?_
  refine lv_iconst (v := nI 1) hx hb dL_law_1039 (by decide) ?_
  refine ni_iadd hx hb dL_law_1040 ?_
  refine va_sld hx hb hX hbl hbA hS (vp_in_nI (by omega) (by omega)) dL_law_1041 ?_
  rw [nI_clamp (by omega)]
  refine lv_if_eq (tgt := 1049) hx hb dL_law_1042 (by decide) (fun c1 => ?_) (fun c1 => ?_)
  · refine lv_iconst (v := nI 0) hx hb dL_law_1049 (by decide) ?_
    refine lv_aload_n hx hb dL_law_1050 rfl (lv_at hl 4 rfl) ?_
    refine lv_iload hx hb dL_law_1051 (lv_at hl 0 rfl) ?_
    refine lv_iconst (v := nI 2) hx hb dL_law_1053 (by decide) ?_
    refine ni_iadd hx hb dL_law_1054 ?_
    refine va_sld hx hb hX hbl hbA hS (vp_in_nI (by omega) (by omega)) dL_law_1055 ?_
    rw [nI_clamp (by omega)]
    refine lv_aload_n hx hb dL_law_1056 rfl (lv_at hl 1 rfl) ?_
    have hFc := my_free hD hS (fun q h => h)
    refine va_calli (vx_runSW (As := [.ref Ad.1, .int (bI false), .int (xs (i + 2)), .ref o]) (rest := []) ⟨hx, hb, hml, hown, hts⟩ (wL_letter l hl0 D ca H.size Ad g o v0 false (xs (i + 2)) hRel.2.1 (rel_z hRel)) (vx_cwSW 4 hts gL_law_L_letter rfl rfl rfl (by decide +kernel) ⟨kk_le rfl, kk_le rfl⟩) (psZ hK (my_P_left hP) (my_D_true (my_D_left hD)) (hZ.at hS hFc)) rfl rfl hl.1 rfl (lv_room (kk_le rfl)) dL_law_1057 ⟨rm_c (by omega), rm_s (by omega)⟩) hS (fun q _ h => hFc q h) hFc (fun z1 u1 t H1 locs1 ht hvm hw1 hB1 hs1 hk1 hS => ?_)
    obtain ⟨g1, v1⟩ := u1
    obtain ⟨hP1, hD1⟩ := hB1
    rw [ht] at hP1
    obtain ⟨hP, hD⟩ := my_join hP hD hk1 hFc hP1 hD1
    have hP : va_P D vwCl (oW ca o v1 ++ cW ca Ad g1 ++ mW ca Md h) H1 := hP
    have hD : va_D (fun q : Nat => s.heap.size ≤ q) (oW ca o v1 ++ cW ca Ad g1 ++ mW ca Md h) := hD
    refine lv_istore (lv' := [(5, .int z1), (4, .int (nI i)), (3, .ref o), (2, .ref Md.1), (1, .ref Ad.1), (0, .ref b)]) hx hb dL_law_1060 hl (by decide) rfl (fun ls hl => ?_)
    refine lv_aload_n hx hb dL_law_1062 rfl (lv_at hl 3 rfl) ?_
    refine lv_aload_n hx hb dL_law_1063 rfl (lv_at hl 5 rfl) ?_
    refine lv_iload hx hb dL_law_1064 (lv_at hl 1 rfl) ?_
    refine lv_iconst (v := nI 1) hx hb dL_law_1066 (by decide) ?_
    refine ni_iadd hx hb dL_law_1067 ?_
    refine va_sld hx hb hX hbl hbA hS (vp_in_nI (by omega) (by omega)) dL_law_1068 ?_
    rw [nI_clamp (by omega)]
    refine lv_if_eq (tgt := 1076) hx hb dL_law_1069 (by decide) (fun c2 => ?_) (fun c2 => ?_)
    · refine lv_iconst (v := nI 0) hx hb dL_law_1076 (by decide) ?_
      refine lv_aload_n hx hb dL_law_1077 rfl (lv_at hl 5 rfl) ?_
      refine lv_iload hx hb dL_law_1078 (lv_at hl 1 rfl) ?_
      refine lv_iconst (v := nI 2) hx hb dL_law_1080 (by decide) ?_
      refine ni_iadd hx hb dL_law_1081 ?_
      refine va_sld hx hb hX hbl hbA hS (vp_in_nI (by omega) (by omega)) dL_law_1082 ?_
      rw [nI_clamp (by omega)]
      have hP9 := my_P_perm hP List.perm_append_comm
      have hD9 := my_D_perm hD List.perm_append_comm
      have hFc := my_free hD9 hS (fun q h => h)
      refine va_calli (va_runV (As := [.int (bI false), .int (xs (i + 2))]) (rest := []) ⟨hx, hb, hml, hown, hts⟩ (cM_letter l D ca H1.size Md h false (xs (i + 2)) hRel.2.2.1 (rel_zm hRel) (rel_p hRel)) (cwV 2 hts gL_law_X6_letter rfl rfl rfl (by decide +kernel) ⟨kk_le rfl, kk_le rfl⟩) (pvM hK (my_P_left hP9) (my_D_true (my_D_left hD9)) (mW_rc hK (my_P_left hP9))) rfl rfl hl.1 rfl (lv_room (kk_le rfl)) dL_law_1083 ⟨rm_c (by omega), rm_s (by omega)⟩) hS (fun q _ h => hFc q h) hFc (fun z2 h2 t H2 locs2 ht hvm hw2 hB2 hs2 hk2 hS => ?_)
      obtain ⟨hP2, hD2⟩ := hB2
      rw [ht] at hP2
      obtain ⟨hP, hD⟩ := my_join hP9 hD9 hk2 hFc hP2 hD2
      have hP : va_P D vwCl (oW ca o v1 ++ cW ca Ad g1 ++ mW ca Md h2) H2 := my_P_perm hP List.perm_append_comm
      have hD : va_D (fun q : Nat => s.heap.size ≤ q) (oW ca o v1 ++ cW ca Ad g1 ++ mW ca Md h2) := my_D_perm hD List.perm_append_comm
      refine lv_istore (lv' := [(6, .int z2), (5, .int z1), (4, .int (nI i)), (3, .ref o), (2, .ref Md.1), (1, .ref Ad.1), (0, .ref b)]) hx hb dL_law_1086 hl (by decide) rfl (fun ls hl => ?_)
      refine lv_aload_n hx hb dL_law_1088 rfl (lv_at hl 4 rfl) ?_
      have hP9 := my_P_perm hP List.perm_append_comm
      have hD9 := my_D_perm hD List.perm_append_comm
      have hFc := my_free hD9 hS (fun q h => h)
      refine va_calli (va_runV (As := []) (rest := []) ⟨hx, hb, hml, hown, hts⟩ (cM_thrown l D ca H2.size Md h2) (cwV 0 hts gL_law_X6_thrown rfl rfl rfl (by decide +kernel) ⟨kk_le rfl, kk_le rfl⟩) (pvM hK (my_P_left hP9) (my_D_true (my_D_left hD9)) (mW_rc hK (my_P_left hP9))) rfl rfl hl.1 rfl (lv_room (kk_le rfl)) dL_law_1089 ⟨rm_c (by omega), rm_s (by omega)⟩) hS (fun q _ h => hFc q h) hFc (fun z3 h3 t H3 locs3 ht hvm hw3 hB3 hs3 hk3 hS => ?_)
      obtain ⟨hP3, hD3⟩ := hB3
      rw [ht] at hP3
      obtain ⟨e3, e4⟩ := hw3
      subst e4
      obtain ⟨hP, hD⟩ := my_join hP9 hD9 hk3 hFc hP3 hD3
      have hP : va_P D vwCl (oW ca o v1 ++ cW ca Ad g1 ++ mW ca Md h3) H3 := my_P_perm hP List.perm_append_comm
      have hD : va_D (fun q : Nat => s.heap.size ≤ q) (oW ca o v1 ++ cW ca Ad g1 ++ mW ca Md h3) := my_D_perm hD List.perm_append_comm
      obtain ⟨f1, f2⟩ := hw2
      have e1 : thM h3 = z1 := by have q := hw1.1; rw [hRel.1, f1] at q; exact q
      have e2 : z1 = nI 0 → v1 0 = z2.toInt64 := by have q := hw1.2.1; rw [hRel.1, f1] at q; exact q
      have hR : RelL (i + 3) g1 h3 := rel_next (R := (fun s9 => R_letter s9 false (xs (i + 2)))) hRel (so_letter false (xs (i + 2))) (by omega) hw1.2.2.1 hw1.2.2.2 (by rw [f1]) f2
      refine lv_iload hx hb dL_law_1092 (lv_at hl 1 rfl) ?_
      refine lv_icmp_eq (tgt := 1099) hx hb dL_law_1094 (by decide) (fun c5 => ?_) (fun c5 => absurd (e3.trans e1) c5)
      refine lv_iload hx hb dL_law_1099 (lv_at hl 1 rfl) ?_
      refine lv_if_ne (tgt := 1116) hx hb dL_law_1101 (by decide) (fun c4 => ?_) (fun c4 => ?_)
      · refine lv_goto (tgt := 1424) hx hb dL_law_1116 (by decide) ?_
        refine W.widen (k := 64 + 8 * i + 24) (n := 4096 + 240 * i + 720) (by omega) (by omega) ?_
        exact hN g1 h3 v1 _ _ _ hR hP hD hS (lv_sub hl [2, 3, 4, 5, 6] rfl)
      · refine lv_aload_n hx hb dL_law_1104 rfl (lv_at hl 3 rfl) ?_
        refine lv_iconst (v := nI 0) hx hb dL_law_1105 (by decide) ?_
        refine my_lald hx hb hK hP 0 rfl (by omega) (by omega) dL_law_1106 ?_
        refine lv_iload hx hb dL_law_1107 (lv_at hl 0 rfl) ?_
        refine lv_i2l hx hb dL_law_1109 rfl ?_
        refine W.lcmp hx hb dL_law_1110 ?_
        refine lv_if_eq (tgt := 1116) hx hb dL_law_1111 (by decide) (fun c3 => ?_) (fun c3 => absurd ((lg_cmp_eq _ _).mpr (e2 c4)) c3)
        refine lv_goto (tgt := 1424) hx hb dL_law_1116 (by decide) ?_
        refine W.widen (k := 64 + 8 * i + 24) (n := 4096 + 240 * i + 720) (by omega) (by omega) ?_
        exact hN g1 h3 v1 _ _ _ hR hP hD hS (lv_sub hl [2, 3, 4, 5, 6] rfl)
    · exact absurd c1 c2
  · refine lv_iconst (v := nI 1) hx hb dL_law_1045 (by decide) ?_
    refine lv_goto (tgt := 1050) hx hb dL_law_1046 (by decide) ?_
    refine lv_aload_n hx hb dL_law_1050 rfl (lv_at hl 4 rfl) ?_
    refine lv_iload hx hb dL_law_1051 (lv_at hl 0 rfl) ?_
    refine lv_iconst (v := nI 2) hx hb dL_law_1053 (by decide) ?_
    refine ni_iadd hx hb dL_law_1054 ?_
    refine va_sld hx hb hX hbl hbA hS (vp_in_nI (by omega) (by omega)) dL_law_1055 ?_
    rw [nI_clamp (by omega)]
    refine lv_aload_n hx hb dL_law_1056 rfl (lv_at hl 1 rfl) ?_
    have hFc := my_free hD hS (fun q h => h)
    refine va_calli (vx_runSW (As := [.ref Ad.1, .int (bI true), .int (xs (i + 2)), .ref o]) (rest := []) ⟨hx, hb, hml, hown, hts⟩ (wL_letter l hl0 D ca H.size Ad g o v0 true (xs (i + 2)) hRel.2.1 (rel_z hRel)) (vx_cwSW 4 hts gL_law_L_letter rfl rfl rfl (by decide +kernel) ⟨kk_le rfl, kk_le rfl⟩) (psZ hK (my_P_left hP) (my_D_true (my_D_left hD)) (hZ.at hS hFc)) rfl rfl hl.1 rfl (lv_room (kk_le rfl)) dL_law_1057 ⟨rm_c (by omega), rm_s (by omega)⟩) hS (fun q _ h => hFc q h) hFc (fun z1 u1 t H1 locs1 ht hvm hw1 hB1 hs1 hk1 hS => ?_)
    obtain ⟨g1, v1⟩ := u1
    obtain ⟨hP1, hD1⟩ := hB1
    rw [ht] at hP1
    obtain ⟨hP, hD⟩ := my_join hP hD hk1 hFc hP1 hD1
    have hP : va_P D vwCl (oW ca o v1 ++ cW ca Ad g1 ++ mW ca Md h) H1 := hP
    have hD : va_D (fun q : Nat => s.heap.size ≤ q) (oW ca o v1 ++ cW ca Ad g1 ++ mW ca Md h) := hD
    refine lv_istore (lv' := [(5, .int z1), (4, .int (nI i)), (3, .ref o), (2, .ref Md.1), (1, .ref Ad.1), (0, .ref b)]) hx hb dL_law_1060 hl (by decide) rfl (fun ls hl => ?_)
    refine lv_aload_n hx hb dL_law_1062 rfl (lv_at hl 3 rfl) ?_
    refine lv_aload_n hx hb dL_law_1063 rfl (lv_at hl 5 rfl) ?_
    refine lv_iload hx hb dL_law_1064 (lv_at hl 1 rfl) ?_
    refine lv_iconst (v := nI 1) hx hb dL_law_1066 (by decide) ?_
    refine ni_iadd hx hb dL_law_1067 ?_
    refine va_sld hx hb hX hbl hbA hS (vp_in_nI (by omega) (by omega)) dL_law_1068 ?_
    rw [nI_clamp (by omega)]
    refine lv_if_eq (tgt := 1076) hx hb dL_law_1069 (by decide) (fun c2 => ?_) (fun c2 => ?_)
    · exact absurd c2 c1
    · refine lv_iconst (v := nI 1) hx hb dL_law_1072 (by decide) ?_
      refine lv_goto (tgt := 1077) hx hb dL_law_1073 (by decide) ?_
      refine lv_aload_n hx hb dL_law_1077 rfl (lv_at hl 5 rfl) ?_
      refine lv_iload hx hb dL_law_1078 (lv_at hl 1 rfl) ?_
      refine lv_iconst (v := nI 2) hx hb dL_law_1080 (by decide) ?_
      refine ni_iadd hx hb dL_law_1081 ?_
      refine va_sld hx hb hX hbl hbA hS (vp_in_nI (by omega) (by omega)) dL_law_1082 ?_
      rw [nI_clamp (by omega)]
      have hP9 := my_P_perm hP List.perm_append_comm
      have hD9 := my_D_perm hD List.perm_append_comm
      have hFc := my_free hD9 hS (fun q h => h)
      refine va_calli (va_runV (As := [.int (bI true), .int (xs (i + 2))]) (rest := []) ⟨hx, hb, hml, hown, hts⟩ (cM_letter l D ca H1.size Md h true (xs (i + 2)) hRel.2.2.1 (rel_zm hRel) (rel_p hRel)) (cwV 2 hts gL_law_X6_letter rfl rfl rfl (by decide +kernel) ⟨kk_le rfl, kk_le rfl⟩) (pvM hK (my_P_left hP9) (my_D_true (my_D_left hD9)) (mW_rc hK (my_P_left hP9))) rfl rfl hl.1 rfl (lv_room (kk_le rfl)) dL_law_1083 ⟨rm_c (by omega), rm_s (by omega)⟩) hS (fun q _ h => hFc q h) hFc (fun z2 h2 t H2 locs2 ht hvm hw2 hB2 hs2 hk2 hS => ?_)
      obtain ⟨hP2, hD2⟩ := hB2
      rw [ht] at hP2
      obtain ⟨hP, hD⟩ := my_join hP9 hD9 hk2 hFc hP2 hD2
      have hP : va_P D vwCl (oW ca o v1 ++ cW ca Ad g1 ++ mW ca Md h2) H2 := my_P_perm hP List.perm_append_comm
      have hD : va_D (fun q : Nat => s.heap.size ≤ q) (oW ca o v1 ++ cW ca Ad g1 ++ mW ca Md h2) := my_D_perm hD List.perm_append_comm
      refine lv_istore (lv' := [(6, .int z2), (5, .int z1), (4, .int (nI i)), (3, .ref o), (2, .ref Md.1), (1, .ref Ad.1), (0, .ref b)]) hx hb dL_law_1086 hl (by decide) rfl (fun ls hl => ?_)
      refine lv_aload_n hx hb dL_law_1088 rfl (lv_at hl 4 rfl) ?_
      have hP9 := my_P_perm hP List.perm_append_comm
      have hD9 := my_D_perm hD List.perm_append_comm
      have hFc := my_free hD9 hS (fun q h => h)
      refine va_calli (va_runV (As := []) (rest := []) ⟨hx, hb, hml, hown, hts⟩ (cM_thrown l D ca H2.size Md h2) (cwV 0 hts gL_law_X6_thrown rfl rfl rfl (by decide +kernel) ⟨kk_le rfl, kk_le rfl⟩) (pvM hK (my_P_left hP9) (my_D_true (my_D_left hD9)) (mW_rc hK (my_P_left hP9))) rfl rfl hl.1 rfl (lv_room (kk_le rfl)) dL_law_1089 ⟨rm_c (by omega), rm_s (by omega)⟩) hS (fun q _ h => hFc q h) hFc (fun z3 h3 t H3 locs3 ht hvm hw3 hB3 hs3 hk3 hS => ?_)
      obtain ⟨hP3, hD3⟩ := hB3
      rw [ht] at hP3
      obtain ⟨e3, e4⟩ := hw3
      subst e4
      obtain ⟨hP, hD⟩ := my_join hP9 hD9 hk3 hFc hP3 hD3
      have hP : va_P D vwCl (oW ca o v1 ++ cW ca Ad g1 ++ mW ca Md h3) H3 := my_P_perm hP List.perm_append_comm
      have hD : va_D (fun q : Nat => s.heap.size ≤ q) (oW ca o v1 ++ cW ca Ad g1 ++ mW ca Md h3) := my_D_perm hD List.perm_append_comm
      obtain ⟨f1, f2⟩ := hw2
      have e1 : thM h3 = z1 := by have q := hw1.1; rw [hRel.1, f1] at q; exact q
      have e2 : z1 = nI 0 → v1 0 = z2.toInt64 := by have q := hw1.2.1; rw [hRel.1, f1] at q; exact q
      have hR : RelL (i + 3) g1 h3 := rel_next (R := (fun s9 => R_letter s9 true (xs (i + 2)))) hRel (so_letter true (xs (i + 2))) (by omega) hw1.2.2.1 hw1.2.2.2 (by rw [f1]) f2
      refine lv_iload hx hb dL_law_1092 (lv_at hl 1 rfl) ?_
      refine lv_icmp_eq (tgt := 1099) hx hb dL_law_1094 (by decide) (fun c5 => ?_) (fun c5 => absurd (e3.trans e1) c5)
      refine lv_iload hx hb dL_law_1099 (lv_at hl 1 rfl) ?_
      refine lv_if_ne (tgt := 1116) hx hb dL_law_1101 (by decide) (fun c4 => ?_) (fun c4 => ?_)
      · refine lv_goto (tgt := 1424) hx hb dL_law_1116 (by decide) ?_
        refine W.widen (k := 64 + 8 * i + 24) (n := 4096 + 240 * i + 720) (by omega) (by omega) ?_
        exact hN g1 h3 v1 _ _ _ hR hP hD hS (lv_sub hl [2, 3, 4, 5, 6] rfl)
      · refine lv_aload_n hx hb dL_law_1104 rfl (lv_at hl 3 rfl) ?_
        refine lv_iconst (v := nI 0) hx hb dL_law_1105 (by decide) ?_
        refine my_lald hx hb hK hP 0 rfl (by omega) (by omega) dL_law_1106 ?_
        refine lv_iload hx hb dL_law_1107 (lv_at hl 0 rfl) ?_
        refine lv_i2l hx hb dL_law_1109 rfl ?_
        refine W.lcmp hx hb dL_law_1110 ?_
        refine lv_if_eq (tgt := 1116) hx hb dL_law_1111 (by decide) (fun c3 => ?_) (fun c3 => absurd ((lg_cmp_eq _ _).mpr (e2 c4)) c3)
        refine lv_goto (tgt := 1424) hx hb dL_law_1116 (by decide) ?_
        refine W.widen (k := 64 + 8 * i + 24) (n := 4096 + 240 * i + 720) (by omega) (by omega) ?_
        exact hN g1 h3 v1 _ _ _ hR hP hD hS (lv_sub hl [2, 3, 4, 5, 6] rfl)
set_option maxHeartbeats 8000000 in
set_option maxRecDepth 100000 in
theorem lwc_18 {p : Program} {e : Env} {s : State} {m : MethodId} {below : List Frame} {meth : Method} {c : Code} {l : Launch} (hl0 : l.stackTraces = false) {b L : Nat} {xs : Nat → Int32} (hL : L ≤ 1536) (hx : p.tables.exec = Jvm.exec) (hb : c.code = code) (hml : c.maxLocals = 9) (hown : s.vm.findClass RL = some m.cls) (hts : ∀ w ∈ wsL_law, w.before #[Value.ref b] s = true) (hX : va_X b L xs s s.heap) (hbl : b < s.heap.size) {D : va_G} {ca : Nat → ClassId} (hK : KK D ca s) (hZ : ZZ (fun q : Nat => s.heap.size ≤ q) s s.heap) {Q : State → Prop} {Ad : CA} {Md : MA} {o : Nat} {i : Nat} (hi : i + 3 ≤ L) {g : CG} {h : MG} {v0 : Nat → Int64} (hRel : RelL i g h) {H : Heap} {locs : List Loc} (hP : va_P D vwCl (oW ca o v0 ++ cW ca Ad g ++ mW ca Md h) H) (hD : va_D (fun q : Nat => s.heap.size ≤ q) (oW ca o v0 ++ cW ca Ad g ++ mW ca Md h)) (hS : va_S (fun q : Nat => s.heap.size ≤ q) s.heap H locs) {ls : Array Slot} (hl : lv_has ls 9 [(4, .int (nI i)), (3, .ref o), (2, .ref Md.1), (1, .ref Ad.1), (0, .ref b)])
    (hN : ∀ (g' : CG) (h' : MG) (v' : Nat → Int64) (H' : Heap) (locs' : List Loc) (ls' : Array Slot), RelL (i + 3) g' h' → va_P D vwCl (oW ca o v' ++ cW ca Ad g' ++ mW ca Md h') H' → va_D (fun q : Nat => s.heap.size ≤ q) (oW ca o v' ++ cW ca Ad g' ++ mW ca Md h') → va_S (fun q : Nat => s.heap.size ≤ q) s.heap H' locs' → lv_has ls' 9 [(4, .int (nI i)), (3, .ref o), (2, .ref Md.1), (1, .ref Ad.1), (0, .ref b)] → W p l e room_1 s m #[Value.ref b] below meth c H' locs' (64 + 8 * i + 24) (4096 + 240 * i + 720) Q (F0 m 1424 ls' [])) :
    W p l e room_1 s m #[Value.ref b] below meth c H locs (64 + 8 * i) (4096 + 240 * i) Q (F0 m 1119 ls []) := by
  have hbA : ¬ (fun q : Nat => s.heap.size ≤ q) b := Nat.not_le.mpr hbl
  refine lv_aload_n hx hb dL_law_1119 rfl (lv_at hl 3 rfl) ?_
  refine lv_aload_n hx hb dL_law_1120 rfl (lv_at hl 4 rfl) ?_
  refine lv_iload hx hb dL_law_1121 (lv_at hl 0 rfl) ?_
  refine lv_iconst (v := nI 1) hx hb dL_law_1123 (by decide) ?_
  refine ni_iadd hx hb dL_law_1124 ?_
  refine va_sld hx hb hX hbl hbA hS (vp_in_nI (by omega) (by omega)) dL_law_1125 ?_
  rw [nI_clamp (by omega)]
  refine lv_aload_n hx hb dL_law_1126 rfl (lv_at hl 1 rfl) ?_
  have hFc := my_free hD hS (fun q h => h)
  refine va_calli (vx_runSW (As := [.ref Ad.1, .int (xs (i + 1)), .ref o]) (rest := []) ⟨hx, hb, hml, hown, hts⟩ (wL_count l hl0 D ca H.size Ad g o v0 (xs (i + 1)) hRel.2.1 (rel_z hRel)) (vx_cwSW 3 hts gL_law_L_count rfl rfl rfl (by decide +kernel) ⟨kk_le rfl, kk_le rfl⟩) (psZ hK (my_P_left hP) (my_D_true (my_D_left hD)) (hZ.at hS hFc)) rfl rfl hl.1 rfl (lv_room (kk_le rfl)) dL_law_1127 ⟨rm_c (by omega), rm_s (by omega)⟩) hS (fun q _ h => hFc q h) hFc (fun z1 u1 t H1 locs1 ht hvm hw1 hB1 hs1 hk1 hS => ?_)
  obtain ⟨g1, v1⟩ := u1
  obtain ⟨hP1, hD1⟩ := hB1
  rw [ht] at hP1
  obtain ⟨hP, hD⟩ := my_join hP hD hk1 hFc hP1 hD1
  have hP : va_P D vwCl (oW ca o v1 ++ cW ca Ad g1 ++ mW ca Md h) H1 := hP
  have hD : va_D (fun q : Nat => s.heap.size ≤ q) (oW ca o v1 ++ cW ca Ad g1 ++ mW ca Md h) := hD
  refine lv_istore (lv' := [(5, .int z1), (4, .int (nI i)), (3, .ref o), (2, .ref Md.1), (1, .ref Ad.1), (0, .ref b)]) hx hb dL_law_1130 hl (by decide) rfl (fun ls hl => ?_)
  refine lv_aload_n hx hb dL_law_1132 rfl (lv_at hl 3 rfl) ?_
  refine lv_aload_n hx hb dL_law_1133 rfl (lv_at hl 5 rfl) ?_
  refine lv_iload hx hb dL_law_1134 (lv_at hl 1 rfl) ?_
  refine lv_iconst (v := nI 1) hx hb dL_law_1136 (by decide) ?_
  refine ni_iadd hx hb dL_law_1137 ?_
  refine va_sld hx hb hX hbl hbA hS (vp_in_nI (by omega) (by omega)) dL_law_1138 ?_
  rw [nI_clamp (by omega)]
  have hP9 := my_P_perm hP List.perm_append_comm
  have hD9 := my_D_perm hD List.perm_append_comm
  have hFc := my_free hD9 hS (fun q h => h)
  refine va_calli (va_runV (As := [.int (xs (i + 1))]) (rest := []) ⟨hx, hb, hml, hown, hts⟩ (cM_count l D ca H1.size Md h (xs (i + 1)) hRel.2.2.1 (rel_zm hRel) (rel_p hRel)) (cwV 1 hts gL_law_X6_count rfl rfl rfl (by decide +kernel) ⟨kk_le rfl, kk_le rfl⟩) (pvM hK (my_P_left hP9) (my_D_true (my_D_left hD9)) (mW_rc hK (my_P_left hP9))) rfl rfl hl.1 rfl (lv_room (kk_le rfl)) dL_law_1139 ⟨rm_c (by omega), rm_s (by omega)⟩) hS (fun q _ h => hFc q h) hFc (fun z2 h2 t H2 locs2 ht hvm hw2 hB2 hs2 hk2 hS => ?_)
  obtain ⟨hP2, hD2⟩ := hB2
  rw [ht] at hP2
  obtain ⟨hP, hD⟩ := my_join hP9 hD9 hk2 hFc hP2 hD2
  have hP : va_P D vwCl (oW ca o v1 ++ cW ca Ad g1 ++ mW ca Md h2) H2 := my_P_perm hP List.perm_append_comm
  have hD : va_D (fun q : Nat => s.heap.size ≤ q) (oW ca o v1 ++ cW ca Ad g1 ++ mW ca Md h2) := my_D_perm hD List.perm_append_comm
  refine lv_istore (lv' := [(6, .int z2), (5, .int z1), (4, .int (nI i)), (3, .ref o), (2, .ref Md.1), (1, .ref Ad.1), (0, .ref b)]) hx hb dL_law_1142 hl (by decide) rfl (fun ls hl => ?_)
  refine lv_aload_n hx hb dL_law_1144 rfl (lv_at hl 4 rfl) ?_
  have hP9 := my_P_perm hP List.perm_append_comm
  have hD9 := my_D_perm hD List.perm_append_comm
  have hFc := my_free hD9 hS (fun q h => h)
  refine va_calli (va_runV (As := []) (rest := []) ⟨hx, hb, hml, hown, hts⟩ (cM_thrown l D ca H2.size Md h2) (cwV 0 hts gL_law_X6_thrown rfl rfl rfl (by decide +kernel) ⟨kk_le rfl, kk_le rfl⟩) (pvM hK (my_P_left hP9) (my_D_true (my_D_left hD9)) (mW_rc hK (my_P_left hP9))) rfl rfl hl.1 rfl (lv_room (kk_le rfl)) dL_law_1145 ⟨rm_c (by omega), rm_s (by omega)⟩) hS (fun q _ h => hFc q h) hFc (fun z3 h3 t H3 locs3 ht hvm hw3 hB3 hs3 hk3 hS => ?_)
  obtain ⟨hP3, hD3⟩ := hB3
  rw [ht] at hP3
  obtain ⟨e3, e4⟩ := hw3
  subst e4
  obtain ⟨hP, hD⟩ := my_join hP9 hD9 hk3 hFc hP3 hD3
  have hP : va_P D vwCl (oW ca o v1 ++ cW ca Ad g1 ++ mW ca Md h3) H3 := my_P_perm hP List.perm_append_comm
  have hD : va_D (fun q : Nat => s.heap.size ≤ q) (oW ca o v1 ++ cW ca Ad g1 ++ mW ca Md h3) := my_D_perm hD List.perm_append_comm
  obtain ⟨f1, f2⟩ := hw2
  have e1 : thM h3 = z1 := by have q := hw1.1; rw [hRel.1, f1] at q; exact q
  have e2 : z1 = nI 0 → v1 0 = z2.toInt64 := by have q := hw1.2.1; rw [hRel.1, f1] at q; exact q
  have hR : RelL (i + 3) g1 h3 := rel_next (R := (fun s9 => R_count s9 (xs (i + 1)))) hRel (so_count (xs (i + 1))) (by omega) hw1.2.2.1 hw1.2.2.2 (by rw [f1]) f2
  refine lv_iload hx hb dL_law_1148 (lv_at hl 1 rfl) ?_
  refine lv_icmp_eq (tgt := 1155) hx hb dL_law_1150 (by decide) (fun c5 => ?_) (fun c5 => absurd (e3.trans e1) c5)
  refine lv_iload hx hb dL_law_1155 (lv_at hl 1 rfl) ?_
  refine lv_if_ne (tgt := 1172) hx hb dL_law_1157 (by decide) (fun c4 => ?_) (fun c4 => ?_)
  · refine lv_goto (tgt := 1424) hx hb dL_law_1172 (by decide) ?_
    refine W.widen (k := 64 + 8 * i + 24) (n := 4096 + 240 * i + 720) (by omega) (by omega) ?_
    exact hN g1 h3 v1 _ _ _ hR hP hD hS (lv_sub hl [2, 3, 4, 5, 6] rfl)
  · refine lv_aload_n hx hb dL_law_1160 rfl (lv_at hl 3 rfl) ?_
    refine lv_iconst (v := nI 0) hx hb dL_law_1161 (by decide) ?_
    refine my_lald hx hb hK hP 0 rfl (by omega) (by omega) dL_law_1162 ?_
    refine lv_iload hx hb dL_law_1163 (lv_at hl 0 rfl) ?_
    refine lv_i2l hx hb dL_law_1165 rfl ?_
    refine W.lcmp hx hb dL_law_1166 ?_
    refine lv_if_eq (tgt := 1172) hx hb dL_law_1167 (by decide) (fun c3 => ?_) (fun c3 => absurd ((lg_cmp_eq _ _).mpr (e2 c4)) c3)
    refine lv_goto (tgt := 1424) hx hb dL_law_1172 (by decide) ?_
    refine W.widen (k := 64 + 8 * i + 24) (n := 4096 + 240 * i + 720) (by omega) (by omega) ?_
    exact hN g1 h3 v1 _ _ _ hR hP hD hS (lv_sub hl [2, 3, 4, 5, 6] rfl)
set_option maxHeartbeats 8000000 in
set_option maxRecDepth 100000 in
theorem lwc_19 {p : Program} {e : Env} {s : State} {m : MethodId} {below : List Frame} {meth : Method} {c : Code} {l : Launch} (hl0 : l.stackTraces = false) {b L : Nat} {xs : Nat → Int32} (hL : L ≤ 1536) (hx : p.tables.exec = Jvm.exec) (hb : c.code = code) (hml : c.maxLocals = 9) (hown : s.vm.findClass RL = some m.cls) (hts : ∀ w ∈ wsL_law, w.before #[Value.ref b] s = true) (hX : va_X b L xs s s.heap) (hbl : b < s.heap.size) {D : va_G} {ca : Nat → ClassId} (hK : KK D ca s) (hZ : ZZ (fun q : Nat => s.heap.size ≤ q) s s.heap) {Q : State → Prop} {Ad : CA} {Md : MA} {o : Nat} {i : Nat} (hi : i + 3 ≤ L) {g : CG} {h : MG} {v0 : Nat → Int64} (hRel : RelL i g h) {H : Heap} {locs : List Loc} (hP : va_P D vwCl (oW ca o v0 ++ cW ca Ad g ++ mW ca Md h) H) (hD : va_D (fun q : Nat => s.heap.size ≤ q) (oW ca o v0 ++ cW ca Ad g ++ mW ca Md h)) (hS : va_S (fun q : Nat => s.heap.size ≤ q) s.heap H locs) {ls : Array Slot} (hl : lv_has ls 9 [(4, .int (nI i)), (3, .ref o), (2, .ref Md.1), (1, .ref Ad.1), (0, .ref b)])
    (hN : ∀ (g' : CG) (h' : MG) (v' : Nat → Int64) (H' : Heap) (locs' : List Loc) (ls' : Array Slot), RelL (i + 3) g' h' → va_P D vwCl (oW ca o v' ++ cW ca Ad g' ++ mW ca Md h') H' → va_D (fun q : Nat => s.heap.size ≤ q) (oW ca o v' ++ cW ca Ad g' ++ mW ca Md h') → va_S (fun q : Nat => s.heap.size ≤ q) s.heap H' locs' → lv_has ls' 9 [(4, .int (nI i)), (3, .ref o), (2, .ref Md.1), (1, .ref Ad.1), (0, .ref b)] → W p l e room_1 s m #[Value.ref b] below meth c H' locs' (64 + 8 * i + 24) (4096 + 240 * i + 720) Q (F0 m 1424 ls' [])) :
    W p l e room_1 s m #[Value.ref b] below meth c H locs (64 + 8 * i) (4096 + 240 * i) Q (F0 m 1175 ls []) := by
  have hbA : ¬ (fun q : Nat => s.heap.size ≤ q) b := Nat.not_le.mpr hbl
  refine lv_aload_n hx hb dL_law_1175 rfl (lv_at hl 3 rfl) ?_
  refine lv_aload_n hx hb dL_law_1176 rfl (lv_at hl 4 rfl) ?_
  refine lv_iload hx hb dL_law_1177 (lv_at hl 0 rfl) ?_
  refine lv_iconst (v := nI 1) hx hb dL_law_1179 (by decide) ?_
  refine ni_iadd hx hb dL_law_1180 ?_
  refine va_sld hx hb hX hbl hbA hS (vp_in_nI (by omega) (by omega)) dL_law_1181 ?_
  rw [nI_clamp (by omega)]
  refine lv_aload_n hx hb dL_law_1182 rfl (lv_at hl 1 rfl) ?_
  have hFc := my_free hD hS (fun q h => h)
  refine va_calli (vx_runSW (As := [.ref Ad.1, .int (xs (i + 1)), .ref o]) (rest := []) ⟨hx, hb, hml, hown, hts⟩ (wL_setting l hl0 D ca H.size Ad g o v0 (xs (i + 1)) hRel.2.1 (rel_z hRel)) (vx_cwSW 3 hts gL_law_L_setting rfl rfl rfl (by decide +kernel) ⟨kk_le rfl, kk_le rfl⟩) (psZ hK (my_P_left hP) (my_D_true (my_D_left hD)) (hZ.at hS hFc)) rfl rfl hl.1 rfl (lv_room (kk_le rfl)) dL_law_1183 ⟨rm_c (by omega), rm_s (by omega)⟩) hS (fun q _ h => hFc q h) hFc (fun z1 u1 t H1 locs1 ht hvm hw1 hB1 hs1 hk1 hS => ?_)
  obtain ⟨g1, v1⟩ := u1
  obtain ⟨hP1, hD1⟩ := hB1
  rw [ht] at hP1
  obtain ⟨hP, hD⟩ := my_join hP hD hk1 hFc hP1 hD1
  have hP : va_P D vwCl (oW ca o v1 ++ cW ca Ad g1 ++ mW ca Md h) H1 := hP
  have hD : va_D (fun q : Nat => s.heap.size ≤ q) (oW ca o v1 ++ cW ca Ad g1 ++ mW ca Md h) := hD
  refine lv_istore (lv' := [(5, .int z1), (4, .int (nI i)), (3, .ref o), (2, .ref Md.1), (1, .ref Ad.1), (0, .ref b)]) hx hb dL_law_1186 hl (by decide) rfl (fun ls hl => ?_)
  refine lv_aload_n hx hb dL_law_1188 rfl (lv_at hl 3 rfl) ?_
  refine lv_aload_n hx hb dL_law_1189 rfl (lv_at hl 5 rfl) ?_
  refine lv_iload hx hb dL_law_1190 (lv_at hl 1 rfl) ?_
  refine lv_iconst (v := nI 1) hx hb dL_law_1192 (by decide) ?_
  refine ni_iadd hx hb dL_law_1193 ?_
  refine va_sld hx hb hX hbl hbA hS (vp_in_nI (by omega) (by omega)) dL_law_1194 ?_
  rw [nI_clamp (by omega)]
  have hP9 := my_P_perm hP List.perm_append_comm
  have hD9 := my_D_perm hD List.perm_append_comm
  have hFc := my_free hD9 hS (fun q h => h)
  refine va_calli (va_runV (As := [.int (xs (i + 1))]) (rest := []) ⟨hx, hb, hml, hown, hts⟩ (cM_setting l D ca H1.size Md h (xs (i + 1)) hRel.2.2.1 (rel_zm hRel) (rel_p hRel)) (cwV 1 hts gL_law_X6_setting rfl rfl rfl (by decide +kernel) ⟨kk_le rfl, kk_le rfl⟩) (pvM hK (my_P_left hP9) (my_D_true (my_D_left hD9)) (mW_rc hK (my_P_left hP9))) rfl rfl hl.1 rfl (lv_room (kk_le rfl)) dL_law_1195 ⟨rm_c (by omega), rm_s (by omega)⟩) hS (fun q _ h => hFc q h) hFc (fun z2 h2 t H2 locs2 ht hvm hw2 hB2 hs2 hk2 hS => ?_)
  obtain ⟨hP2, hD2⟩ := hB2
  rw [ht] at hP2
  obtain ⟨hP, hD⟩ := my_join hP9 hD9 hk2 hFc hP2 hD2
  have hP : va_P D vwCl (oW ca o v1 ++ cW ca Ad g1 ++ mW ca Md h2) H2 := my_P_perm hP List.perm_append_comm
  have hD : va_D (fun q : Nat => s.heap.size ≤ q) (oW ca o v1 ++ cW ca Ad g1 ++ mW ca Md h2) := my_D_perm hD List.perm_append_comm
  refine lv_istore (lv' := [(6, .int z2), (5, .int z1), (4, .int (nI i)), (3, .ref o), (2, .ref Md.1), (1, .ref Ad.1), (0, .ref b)]) hx hb dL_law_1198 hl (by decide) rfl (fun ls hl => ?_)
  refine lv_aload_n hx hb dL_law_1200 rfl (lv_at hl 4 rfl) ?_
  have hP9 := my_P_perm hP List.perm_append_comm
  have hD9 := my_D_perm hD List.perm_append_comm
  have hFc := my_free hD9 hS (fun q h => h)
  refine va_calli (va_runV (As := []) (rest := []) ⟨hx, hb, hml, hown, hts⟩ (cM_thrown l D ca H2.size Md h2) (cwV 0 hts gL_law_X6_thrown rfl rfl rfl (by decide +kernel) ⟨kk_le rfl, kk_le rfl⟩) (pvM hK (my_P_left hP9) (my_D_true (my_D_left hD9)) (mW_rc hK (my_P_left hP9))) rfl rfl hl.1 rfl (lv_room (kk_le rfl)) dL_law_1201 ⟨rm_c (by omega), rm_s (by omega)⟩) hS (fun q _ h => hFc q h) hFc (fun z3 h3 t H3 locs3 ht hvm hw3 hB3 hs3 hk3 hS => ?_)
  obtain ⟨hP3, hD3⟩ := hB3
  rw [ht] at hP3
  obtain ⟨e3, e4⟩ := hw3
  subst e4
  obtain ⟨hP, hD⟩ := my_join hP9 hD9 hk3 hFc hP3 hD3
  have hP : va_P D vwCl (oW ca o v1 ++ cW ca Ad g1 ++ mW ca Md h3) H3 := my_P_perm hP List.perm_append_comm
  have hD : va_D (fun q : Nat => s.heap.size ≤ q) (oW ca o v1 ++ cW ca Ad g1 ++ mW ca Md h3) := my_D_perm hD List.perm_append_comm
  obtain ⟨f1, f2⟩ := hw2
  have e1 : thM h3 = z1 := by have q := hw1.1; rw [hRel.1, f1] at q; exact q
  have e2 : z1 = nI 0 → v1 0 = z2.toInt64 := by have q := hw1.2.1; rw [hRel.1, f1] at q; exact q
  have hR : RelL (i + 3) g1 h3 := rel_next (R := (fun s9 => R_setting s9 (xs (i + 1)))) hRel (so_setting (xs (i + 1))) (by omega) hw1.2.2.1 hw1.2.2.2 (by rw [f1]) f2
  refine lv_iload hx hb dL_law_1204 (lv_at hl 1 rfl) ?_
  refine lv_icmp_eq (tgt := 1211) hx hb dL_law_1206 (by decide) (fun c5 => ?_) (fun c5 => absurd (e3.trans e1) c5)
  refine lv_iload hx hb dL_law_1211 (lv_at hl 1 rfl) ?_
  refine lv_if_ne (tgt := 1228) hx hb dL_law_1213 (by decide) (fun c4 => ?_) (fun c4 => ?_)
  · refine lv_goto (tgt := 1424) hx hb dL_law_1228 (by decide) ?_
    refine W.widen (k := 64 + 8 * i + 24) (n := 4096 + 240 * i + 720) (by omega) (by omega) ?_
    exact hN g1 h3 v1 _ _ _ hR hP hD hS (lv_sub hl [2, 3, 4, 5, 6] rfl)
  · refine lv_aload_n hx hb dL_law_1216 rfl (lv_at hl 3 rfl) ?_
    refine lv_iconst (v := nI 0) hx hb dL_law_1217 (by decide) ?_
    refine my_lald hx hb hK hP 0 rfl (by omega) (by omega) dL_law_1218 ?_
    refine lv_iload hx hb dL_law_1219 (lv_at hl 0 rfl) ?_
    refine lv_i2l hx hb dL_law_1221 rfl ?_
    refine W.lcmp hx hb dL_law_1222 ?_
    refine lv_if_eq (tgt := 1228) hx hb dL_law_1223 (by decide) (fun c3 => ?_) (fun c3 => absurd ((lg_cmp_eq _ _).mpr (e2 c4)) c3)
    refine lv_goto (tgt := 1424) hx hb dL_law_1228 (by decide) ?_
    refine W.widen (k := 64 + 8 * i + 24) (n := 4096 + 240 * i + 720) (by omega) (by omega) ?_
    exact hN g1 h3 v1 _ _ _ hR hP hD hS (lv_sub hl [2, 3, 4, 5, 6] rfl)
set_option maxHeartbeats 8000000 in
set_option maxRecDepth 100000 in
theorem lwc_20 {p : Program} {e : Env} {s : State} {m : MethodId} {below : List Frame} {meth : Method} {c : Code} {l : Launch} (hl0 : l.stackTraces = false) {b L : Nat} {xs : Nat → Int32} (hL : L ≤ 1536) (hx : p.tables.exec = Jvm.exec) (hb : c.code = code) (hml : c.maxLocals = 9) (hown : s.vm.findClass RL = some m.cls) (hts : ∀ w ∈ wsL_law, w.before #[Value.ref b] s = true) (hX : va_X b L xs s s.heap) (hbl : b < s.heap.size) {D : va_G} {ca : Nat → ClassId} (hK : KK D ca s) (hZ : ZZ (fun q : Nat => s.heap.size ≤ q) s s.heap) {Q : State → Prop} {Ad : CA} {Md : MA} {o : Nat} {i : Nat} (hi : i + 3 ≤ L) {g : CG} {h : MG} {v0 : Nat → Int64} (hRel : RelL i g h) {H : Heap} {locs : List Loc} (hP : va_P D vwCl (oW ca o v0 ++ cW ca Ad g ++ mW ca Md h) H) (hD : va_D (fun q : Nat => s.heap.size ≤ q) (oW ca o v0 ++ cW ca Ad g ++ mW ca Md h)) (hS : va_S (fun q : Nat => s.heap.size ≤ q) s.heap H locs) {ls : Array Slot} (hl : lv_has ls 9 [(4, .int (nI i)), (3, .ref o), (2, .ref Md.1), (1, .ref Ad.1), (0, .ref b)])
    (hN : ∀ (g' : CG) (h' : MG) (v' : Nat → Int64) (H' : Heap) (locs' : List Loc) (ls' : Array Slot), RelL (i + 3) g' h' → va_P D vwCl (oW ca o v' ++ cW ca Ad g' ++ mW ca Md h') H' → va_D (fun q : Nat => s.heap.size ≤ q) (oW ca o v' ++ cW ca Ad g' ++ mW ca Md h') → va_S (fun q : Nat => s.heap.size ≤ q) s.heap H' locs' → lv_has ls' 9 [(4, .int (nI i)), (3, .ref o), (2, .ref Md.1), (1, .ref Ad.1), (0, .ref b)] → W p l e room_1 s m #[Value.ref b] below meth c H' locs' (64 + 8 * i + 24) (4096 + 240 * i + 720) Q (F0 m 1424 ls' [])) :
    W p l e room_1 s m #[Value.ref b] below meth c H locs (64 + 8 * i) (4096 + 240 * i) Q (F0 m 1231 ls []) := by
  have hbA : ¬ (fun q : Nat => s.heap.size ≤ q) b := Nat.not_le.mpr hbl
  refine lv_aload_n hx hb dL_law_1231 rfl (lv_at hl 3 rfl) ?_
  have hP9 : va_P D vwCl (cW ca Ad g ++ (oW ca o v0 ++ mW ca Md h)) H := my_P_perm hP pq_1
  have hD9 : va_D (fun q : Nat => s.heap.size ≤ q) (cW ca Ad g ++ (oW ca o v0 ++ mW ca Md h)) := my_D_perm hD pq_1
  have hFc := my_free hD9 hS (fun q h => h)
  refine va_calli (va_runV (As := []) (rest := []) ⟨hx, hb, hml, hown, hts⟩ (cC_isRight l D ca H.size Ad g hRel.2.1 (rel_z hRel)) (cwV 0 hts gL_law_X5_isRight rfl rfl rfl (by decide +kernel) ⟨kk_le rfl, kk_le rfl⟩) (pvZ hK (my_P_left hP9) (my_D_true (my_D_left hD9)) (hZ.at hS hFc) (cW_rc hK (my_P_left hP9))) rfl rfl hl.1 rfl (lv_room (kk_le rfl)) dL_law_1232 ⟨rm_c (by omega), rm_s (by omega)⟩) hS (fun q _ h => hFc q h) hFc (fun z1 g1 t H1 locs1 ht hvm hw1 hB1 hs1 hk1 hS => ?_)
  obtain ⟨hP1, hD1⟩ := hB1
  rw [ht] at hP1
  obtain ⟨hP, hD⟩ := my_join hP9 hD9 hk1 hFc hP1 hD1
  have hP : va_P D vwCl (oW ca o v0 ++ cW ca Ad g1 ++ mW ca Md h) H1 := my_P_perm hP pq_1.symm
  have hD : va_D (fun q : Nat => s.heap.size ≤ q) (oW ca o v0 ++ cW ca Ad g1 ++ mW ca Md h) := my_D_perm hD pq_1.symm
  refine lv_aload_n hx hb dL_law_1235 rfl (lv_at hl 2 rfl) ?_
  have hP9 := my_P_perm hP List.perm_append_comm
  have hD9 := my_D_perm hD List.perm_append_comm
  have hFc := my_free hD9 hS (fun q h => h)
  refine va_calli (va_runV (As := []) (rest := [.int z1]) ⟨hx, hb, hml, hown, hts⟩ (cM_isRight l D ca H1.size Md h  hRel.2.2.1 (rel_zm hRel) (rel_p hRel)) (cwV 0 hts gL_law_X6_isRight rfl rfl rfl (by decide +kernel) ⟨kk_le rfl, kk_le rfl⟩) (pvM hK (my_P_left hP9) (my_D_true (my_D_left hD9)) (mW_rc hK (my_P_left hP9))) rfl rfl hl.1 rfl (lv_room (kk_le rfl)) dL_law_1236 ⟨rm_c (by omega), rm_s (by omega)⟩) hS (fun q _ h => hFc q h) hFc (fun z2 h2 t H2 locs2 ht hvm hw2 hB2 hs2 hk2 hS => ?_)
  obtain ⟨hP2, hD2⟩ := hB2
  rw [ht] at hP2
  obtain ⟨hP, hD⟩ := my_join hP9 hD9 hk2 hFc hP2 hD2
  have hP : va_P D vwCl (oW ca o v0 ++ cW ca Ad g1 ++ mW ca Md h2) H2 := my_P_perm hP List.perm_append_comm
  have hD : va_D (fun q : Nat => s.heap.size ≤ q) (oW ca o v0 ++ cW ca Ad g1 ++ mW ca Md h2) := my_D_perm hD List.perm_append_comm
  obtain ⟨f1, f2⟩ := hw2
  have e1 : z1 = z2 := by have q := hw1.1; rw [hRel.1, f1] at q; exact (congrArg (fun y : RT => y.2.1) q).symm
  have hR : RelL (i + 3) g1 h2 := rel_next (R := R_isRight) hRel so_isRight (by omega) (by rw [hw1.1]) hw1.2 (by rw [f1]) f2
  refine lv_icmp_eq (tgt := 1424) hx hb dL_law_1239 (by decide) (fun c5 => ?_) (fun c5 => absurd e1 c5)
  refine W.widen (k := 64 + 8 * i + 24) (n := 4096 + 240 * i + 720) (by omega) (by omega) ?_
  exact hN g1 h2 v0 _ _ _ hR hP hD hS (lv_sub hl [0, 1, 2, 3, 4] rfl)
set_option maxHeartbeats 8000000 in
set_option maxRecDepth 100000 in
theorem lwc_21 {p : Program} {e : Env} {s : State} {m : MethodId} {below : List Frame} {meth : Method} {c : Code} {l : Launch} (hl0 : l.stackTraces = false) {b L : Nat} {xs : Nat → Int32} (hL : L ≤ 1536) (hx : p.tables.exec = Jvm.exec) (hb : c.code = code) (hml : c.maxLocals = 9) (hown : s.vm.findClass RL = some m.cls) (hts : ∀ w ∈ wsL_law, w.before #[Value.ref b] s = true) (hX : va_X b L xs s s.heap) (hbl : b < s.heap.size) {D : va_G} {ca : Nat → ClassId} (hK : KK D ca s) (hZ : ZZ (fun q : Nat => s.heap.size ≤ q) s s.heap) {Q : State → Prop} {Ad : CA} {Md : MA} {o : Nat} {i : Nat} (hi : i + 3 ≤ L) {g : CG} {h : MG} {v0 : Nat → Int64} (hRel : RelL i g h) {H : Heap} {locs : List Loc} (hP : va_P D vwCl (oW ca o v0 ++ cW ca Ad g ++ mW ca Md h) H) (hD : va_D (fun q : Nat => s.heap.size ≤ q) (oW ca o v0 ++ cW ca Ad g ++ mW ca Md h)) (hS : va_S (fun q : Nat => s.heap.size ≤ q) s.heap H locs) {ls : Array Slot} (hl : lv_has ls 9 [(4, .int (nI i)), (3, .ref o), (2, .ref Md.1), (1, .ref Ad.1), (0, .ref b)])
    (hN : ∀ (g' : CG) (h' : MG) (v' : Nat → Int64) (H' : Heap) (locs' : List Loc) (ls' : Array Slot), RelL (i + 3) g' h' → va_P D vwCl (oW ca o v' ++ cW ca Ad g' ++ mW ca Md h') H' → va_D (fun q : Nat => s.heap.size ≤ q) (oW ca o v' ++ cW ca Ad g' ++ mW ca Md h') → va_S (fun q : Nat => s.heap.size ≤ q) s.heap H' locs' → lv_has ls' 9 [(4, .int (nI i)), (3, .ref o), (2, .ref Md.1), (1, .ref Ad.1), (0, .ref b)] → W p l e room_1 s m #[Value.ref b] below meth c H' locs' (64 + 8 * i + 24) (4096 + 240 * i + 720) Q (F0 m 1424 ls' [])) :
    W p l e room_1 s m #[Value.ref b] below meth c H locs (64 + 8 * i) (4096 + 240 * i) Q (F0 m 1244 ls []) := by
  have hbA : ¬ (fun q : Nat => s.heap.size ≤ q) b := Nat.not_le.mpr hbl
  refine lv_aload_n hx hb dL_law_1244 rfl (lv_at hl 3 rfl) ?_
  refine lv_aload_n hx hb dL_law_1245 rfl (lv_at hl 4 rfl) ?_
  refine lv_iload hx hb dL_law_1246 (lv_at hl 0 rfl) ?_
  refine lv_iconst (v := nI 1) hx hb dL_law_1248 (by decide) ?_
  refine ni_iadd hx hb dL_law_1249 ?_
  refine va_sld hx hb hX hbl hbA hS (vp_in_nI (by omega) (by omega)) dL_law_1250 ?_
  rw [nI_clamp (by omega)]
  refine lv_aload_n hx hb dL_law_1251 rfl (lv_at hl 1 rfl) ?_
  have hFc := my_free hD hS (fun q h => h)
  refine va_calli (vx_runSW (As := [.ref Ad.1, .int (xs (i + 1)), .ref o]) (rest := []) ⟨hx, hb, hml, hown, hts⟩ (wL_repair l hl0 D ca H.size Ad g o v0 (xs (i + 1)) hRel.2.1 (rel_z hRel)) (vx_cwSW 3 hts gL_law_L_repair rfl rfl rfl (by decide +kernel) ⟨kk_le rfl, kk_le rfl⟩) (psZ hK (my_P_left hP) (my_D_true (my_D_left hD)) (hZ.at hS hFc)) rfl rfl hl.1 rfl (lv_room (kk_le rfl)) dL_law_1252 ⟨rm_c (by omega), rm_s (by omega)⟩) hS (fun q _ h => hFc q h) hFc (fun z1 u1 t H1 locs1 ht hvm hw1 hB1 hs1 hk1 hS => ?_)
  obtain ⟨g1, v1⟩ := u1
  obtain ⟨hP1, hD1⟩ := hB1
  rw [ht] at hP1
  obtain ⟨hP, hD⟩ := my_join hP hD hk1 hFc hP1 hD1
  have hP : va_P D vwCl (oW ca o v1 ++ cW ca Ad g1 ++ mW ca Md h) H1 := hP
  have hD : va_D (fun q : Nat => s.heap.size ≤ q) (oW ca o v1 ++ cW ca Ad g1 ++ mW ca Md h) := hD
  refine lv_istore (lv' := [(5, .int z1), (4, .int (nI i)), (3, .ref o), (2, .ref Md.1), (1, .ref Ad.1), (0, .ref b)]) hx hb dL_law_1255 hl (by decide) rfl (fun ls hl => ?_)
  refine lv_aload_n hx hb dL_law_1257 rfl (lv_at hl 3 rfl) ?_
  refine lv_aload_n hx hb dL_law_1258 rfl (lv_at hl 5 rfl) ?_
  refine lv_iload hx hb dL_law_1259 (lv_at hl 1 rfl) ?_
  refine lv_iconst (v := nI 1) hx hb dL_law_1261 (by decide) ?_
  refine ni_iadd hx hb dL_law_1262 ?_
  refine va_sld hx hb hX hbl hbA hS (vp_in_nI (by omega) (by omega)) dL_law_1263 ?_
  rw [nI_clamp (by omega)]
  have hP9 := my_P_perm hP List.perm_append_comm
  have hD9 := my_D_perm hD List.perm_append_comm
  have hFc := my_free hD9 hS (fun q h => h)
  refine va_calli (va_runV (As := [.int (xs (i + 1))]) (rest := []) ⟨hx, hb, hml, hown, hts⟩ (cM_repair l D ca H1.size Md h (xs (i + 1)) hRel.2.2.1 (rel_zm hRel) (rel_p hRel)) (cwV 1 hts gL_law_X6_repair rfl rfl rfl (by decide +kernel) ⟨kk_le rfl, kk_le rfl⟩) (pvM hK (my_P_left hP9) (my_D_true (my_D_left hD9)) (mW_rc hK (my_P_left hP9))) rfl rfl hl.1 rfl (lv_room (kk_le rfl)) dL_law_1264 ⟨rm_c (by omega), rm_s (by omega)⟩) hS (fun q _ h => hFc q h) hFc (fun z2 h2 t H2 locs2 ht hvm hw2 hB2 hs2 hk2 hS => ?_)
  obtain ⟨hP2, hD2⟩ := hB2
  rw [ht] at hP2
  obtain ⟨hP, hD⟩ := my_join hP9 hD9 hk2 hFc hP2 hD2
  have hP : va_P D vwCl (oW ca o v1 ++ cW ca Ad g1 ++ mW ca Md h2) H2 := my_P_perm hP List.perm_append_comm
  have hD : va_D (fun q : Nat => s.heap.size ≤ q) (oW ca o v1 ++ cW ca Ad g1 ++ mW ca Md h2) := my_D_perm hD List.perm_append_comm
  refine lv_istore (lv' := [(6, .int z2), (5, .int z1), (4, .int (nI i)), (3, .ref o), (2, .ref Md.1), (1, .ref Ad.1), (0, .ref b)]) hx hb dL_law_1267 hl (by decide) rfl (fun ls hl => ?_)
  refine lv_aload_n hx hb dL_law_1269 rfl (lv_at hl 4 rfl) ?_
  have hP9 := my_P_perm hP List.perm_append_comm
  have hD9 := my_D_perm hD List.perm_append_comm
  have hFc := my_free hD9 hS (fun q h => h)
  refine va_calli (va_runV (As := []) (rest := []) ⟨hx, hb, hml, hown, hts⟩ (cM_thrown l D ca H2.size Md h2) (cwV 0 hts gL_law_X6_thrown rfl rfl rfl (by decide +kernel) ⟨kk_le rfl, kk_le rfl⟩) (pvM hK (my_P_left hP9) (my_D_true (my_D_left hD9)) (mW_rc hK (my_P_left hP9))) rfl rfl hl.1 rfl (lv_room (kk_le rfl)) dL_law_1270 ⟨rm_c (by omega), rm_s (by omega)⟩) hS (fun q _ h => hFc q h) hFc (fun z3 h3 t H3 locs3 ht hvm hw3 hB3 hs3 hk3 hS => ?_)
  obtain ⟨hP3, hD3⟩ := hB3
  rw [ht] at hP3
  obtain ⟨e3, e4⟩ := hw3
  subst e4
  obtain ⟨hP, hD⟩ := my_join hP9 hD9 hk3 hFc hP3 hD3
  have hP : va_P D vwCl (oW ca o v1 ++ cW ca Ad g1 ++ mW ca Md h3) H3 := my_P_perm hP List.perm_append_comm
  have hD : va_D (fun q : Nat => s.heap.size ≤ q) (oW ca o v1 ++ cW ca Ad g1 ++ mW ca Md h3) := my_D_perm hD List.perm_append_comm
  obtain ⟨f1, f2⟩ := hw2
  have e1 : thM h3 = z1 := by have q := hw1.1; rw [hRel.1, f1] at q; exact q
  have e2 : z1 = nI 0 → v1 0 = z2.toInt64 := by have q := hw1.2.1; rw [hRel.1, f1] at q; exact q
  have hR : RelL (i + 3) g1 h3 := rel_next (R := (fun s9 => R_repair s9 (xs (i + 1)))) hRel (so_repair (xs (i + 1))) (by omega) hw1.2.2.1 hw1.2.2.2 (by rw [f1]) f2
  refine lv_iload hx hb dL_law_1273 (lv_at hl 1 rfl) ?_
  refine lv_icmp_eq (tgt := 1280) hx hb dL_law_1275 (by decide) (fun c5 => ?_) (fun c5 => absurd (e3.trans e1) c5)
  refine lv_iload hx hb dL_law_1280 (lv_at hl 1 rfl) ?_
  refine lv_if_ne (tgt := 1297) hx hb dL_law_1282 (by decide) (fun c4 => ?_) (fun c4 => ?_)
  · refine lv_goto (tgt := 1424) hx hb dL_law_1297 (by decide) ?_
    refine W.widen (k := 64 + 8 * i + 24) (n := 4096 + 240 * i + 720) (by omega) (by omega) ?_
    exact hN g1 h3 v1 _ _ _ hR hP hD hS (lv_sub hl [2, 3, 4, 5, 6] rfl)
  · refine lv_aload_n hx hb dL_law_1285 rfl (lv_at hl 3 rfl) ?_
    refine lv_iconst (v := nI 0) hx hb dL_law_1286 (by decide) ?_
    refine my_lald hx hb hK hP 0 rfl (by omega) (by omega) dL_law_1287 ?_
    refine lv_iload hx hb dL_law_1288 (lv_at hl 0 rfl) ?_
    refine lv_i2l hx hb dL_law_1290 rfl ?_
    refine W.lcmp hx hb dL_law_1291 ?_
    refine lv_if_eq (tgt := 1297) hx hb dL_law_1292 (by decide) (fun c3 => ?_) (fun c3 => absurd ((lg_cmp_eq _ _).mpr (e2 c4)) c3)
    refine lv_goto (tgt := 1424) hx hb dL_law_1297 (by decide) ?_
    refine W.widen (k := 64 + 8 * i + 24) (n := 4096 + 240 * i + 720) (by omega) (by omega) ?_
    exact hN g1 h3 v1 _ _ _ hR hP hD hS (lv_sub hl [2, 3, 4, 5, 6] rfl)
set_option maxHeartbeats 8000000 in
set_option maxRecDepth 100000 in
theorem lwc_22 {p : Program} {e : Env} {s : State} {m : MethodId} {below : List Frame} {meth : Method} {c : Code} {l : Launch} (hl0 : l.stackTraces = false) {b L : Nat} {xs : Nat → Int32} (hL : L ≤ 1536) (hx : p.tables.exec = Jvm.exec) (hb : c.code = code) (hml : c.maxLocals = 9) (hown : s.vm.findClass RL = some m.cls) (hts : ∀ w ∈ wsL_law, w.before #[Value.ref b] s = true) (hX : va_X b L xs s s.heap) (hbl : b < s.heap.size) {D : va_G} {ca : Nat → ClassId} (hK : KK D ca s) (hZ : ZZ (fun q : Nat => s.heap.size ≤ q) s s.heap) {Q : State → Prop} {Ad : CA} {Md : MA} {o : Nat} {i : Nat} (hi : i + 3 ≤ L) {g : CG} {h : MG} {v0 : Nat → Int64} (hRel : RelL i g h) {H : Heap} {locs : List Loc} (hP : va_P D vwCl (oW ca o v0 ++ cW ca Ad g ++ mW ca Md h) H) (hD : va_D (fun q : Nat => s.heap.size ≤ q) (oW ca o v0 ++ cW ca Ad g ++ mW ca Md h)) (hS : va_S (fun q : Nat => s.heap.size ≤ q) s.heap H locs) {ls : Array Slot} (hl : lv_has ls 9 [(4, .int (nI i)), (3, .ref o), (2, .ref Md.1), (1, .ref Ad.1), (0, .ref b)])
    (hN : ∀ (g' : CG) (h' : MG) (v' : Nat → Int64) (H' : Heap) (locs' : List Loc) (ls' : Array Slot), RelL (i + 3) g' h' → va_P D vwCl (oW ca o v' ++ cW ca Ad g' ++ mW ca Md h') H' → va_D (fun q : Nat => s.heap.size ≤ q) (oW ca o v' ++ cW ca Ad g' ++ mW ca Md h') → va_S (fun q : Nat => s.heap.size ≤ q) s.heap H' locs' → lv_has ls' 9 [(4, .int (nI i)), (3, .ref o), (2, .ref Md.1), (1, .ref Ad.1), (0, .ref b)] → W p l e room_1 s m #[Value.ref b] below meth c H' locs' (64 + 8 * i + 24) (4096 + 240 * i + 720) Q (F0 m 1424 ls' [])) :
    W p l e room_1 s m #[Value.ref b] below meth c H locs (64 + 8 * i) (4096 + 240 * i) Q (F0 m 1300 ls []) := by
  have hbA : ¬ (fun q : Nat => s.heap.size ≤ q) b := Nat.not_le.mpr hbl
  refine lv_aload_n hx hb dL_law_1300 rfl (lv_at hl 3 rfl) ?_
  refine lv_aload_n hx hb dL_law_1301 rfl (lv_at hl 4 rfl) ?_
  refine lv_iload hx hb dL_law_1302 (lv_at hl 0 rfl) ?_
  refine lv_iconst (v := nI 1) hx hb dL_law_1304 (by decide) ?_
  refine ni_iadd hx hb dL_law_1305 ?_
  refine va_sld hx hb hX hbl hbA hS (vp_in_nI (by omega) (by omega)) dL_law_1306 ?_
  rw [nI_clamp (by omega)]
  refine lv_aload_n hx hb dL_law_1307 rfl (lv_at hl 1 rfl) ?_
  have hFc := my_free hD hS (fun q h => h)
  refine va_calli (vx_runSW (As := [.ref Ad.1, .int (xs (i + 1)), .ref o]) (rest := []) ⟨hx, hb, hml, hown, hts⟩ (wL_ratios l hl0 D ca H.size Ad g o v0 (xs (i + 1)) hRel.2.1 (rel_z hRel)) (vx_cwSW 3 hts gL_law_L_ratios rfl rfl rfl (by decide +kernel) ⟨kk_le rfl, kk_le rfl⟩) (psZ hK (my_P_left hP) (my_D_true (my_D_left hD)) (hZ.at hS hFc)) rfl rfl hl.1 rfl (lv_room (kk_le rfl)) dL_law_1308 ⟨rm_c (by omega), rm_s (by omega)⟩) hS (fun q _ h => hFc q h) hFc (fun z1 u1 t H1 locs1 ht hvm hw1 hB1 hs1 hk1 hS => ?_)
  obtain ⟨g1, v1⟩ := u1
  obtain ⟨hP1, hD1⟩ := hB1
  rw [ht] at hP1
  obtain ⟨hP, hD⟩ := my_join hP hD hk1 hFc hP1 hD1
  have hP : va_P D vwCl (oW ca o v1 ++ cW ca Ad g1 ++ mW ca Md h) H1 := hP
  have hD : va_D (fun q : Nat => s.heap.size ≤ q) (oW ca o v1 ++ cW ca Ad g1 ++ mW ca Md h) := hD
  refine lv_istore (lv' := [(5, .int z1), (4, .int (nI i)), (3, .ref o), (2, .ref Md.1), (1, .ref Ad.1), (0, .ref b)]) hx hb dL_law_1311 hl (by decide) rfl (fun ls hl => ?_)
  refine lv_aload_n hx hb dL_law_1313 rfl (lv_at hl 3 rfl) ?_
  refine lv_aload_n hx hb dL_law_1314 rfl (lv_at hl 5 rfl) ?_
  refine lv_iload hx hb dL_law_1315 (lv_at hl 1 rfl) ?_
  refine lv_iconst (v := nI 1) hx hb dL_law_1317 (by decide) ?_
  refine ni_iadd hx hb dL_law_1318 ?_
  refine va_sld hx hb hX hbl hbA hS (vp_in_nI (by omega) (by omega)) dL_law_1319 ?_
  rw [nI_clamp (by omega)]
  have hP9 := my_P_perm hP List.perm_append_comm
  have hD9 := my_D_perm hD List.perm_append_comm
  have hFc := my_free hD9 hS (fun q h => h)
  refine va_calli (va_runV (As := [.int (xs (i + 1))]) (rest := []) ⟨hx, hb, hml, hown, hts⟩ (cM_ratios l D ca H1.size Md h (xs (i + 1)) hRel.2.2.1 (rel_zm hRel) (rel_p hRel)) (cwV 1 hts gL_law_X6_ratios rfl rfl rfl (by decide +kernel) ⟨kk_le rfl, kk_le rfl⟩) (pvM hK (my_P_left hP9) (my_D_true (my_D_left hD9)) (mW_rc hK (my_P_left hP9))) rfl rfl hl.1 rfl (lv_room (kk_le rfl)) dL_law_1320 ⟨rm_c (by omega), rm_s (by omega)⟩) hS (fun q _ h => hFc q h) hFc (fun z2 h2 t H2 locs2 ht hvm hw2 hB2 hs2 hk2 hS => ?_)
  obtain ⟨hP2, hD2⟩ := hB2
  rw [ht] at hP2
  obtain ⟨hP, hD⟩ := my_join hP9 hD9 hk2 hFc hP2 hD2
  have hP : va_P D vwCl (oW ca o v1 ++ cW ca Ad g1 ++ mW ca Md h2) H2 := my_P_perm hP List.perm_append_comm
  have hD : va_D (fun q : Nat => s.heap.size ≤ q) (oW ca o v1 ++ cW ca Ad g1 ++ mW ca Md h2) := my_D_perm hD List.perm_append_comm
  refine lv_istore (lv' := [(6, .int z2), (5, .int z1), (4, .int (nI i)), (3, .ref o), (2, .ref Md.1), (1, .ref Ad.1), (0, .ref b)]) hx hb dL_law_1323 hl (by decide) rfl (fun ls hl => ?_)
  refine lv_aload_n hx hb dL_law_1325 rfl (lv_at hl 4 rfl) ?_
  have hP9 := my_P_perm hP List.perm_append_comm
  have hD9 := my_D_perm hD List.perm_append_comm
  have hFc := my_free hD9 hS (fun q h => h)
  refine va_calli (va_runV (As := []) (rest := []) ⟨hx, hb, hml, hown, hts⟩ (cM_thrown l D ca H2.size Md h2) (cwV 0 hts gL_law_X6_thrown rfl rfl rfl (by decide +kernel) ⟨kk_le rfl, kk_le rfl⟩) (pvM hK (my_P_left hP9) (my_D_true (my_D_left hD9)) (mW_rc hK (my_P_left hP9))) rfl rfl hl.1 rfl (lv_room (kk_le rfl)) dL_law_1326 ⟨rm_c (by omega), rm_s (by omega)⟩) hS (fun q _ h => hFc q h) hFc (fun z3 h3 t H3 locs3 ht hvm hw3 hB3 hs3 hk3 hS => ?_)
  obtain ⟨hP3, hD3⟩ := hB3
  rw [ht] at hP3
  obtain ⟨e3, e4⟩ := hw3
  subst e4
  obtain ⟨hP, hD⟩ := my_join hP9 hD9 hk3 hFc hP3 hD3
  have hP : va_P D vwCl (oW ca o v1 ++ cW ca Ad g1 ++ mW ca Md h3) H3 := my_P_perm hP List.perm_append_comm
  have hD : va_D (fun q : Nat => s.heap.size ≤ q) (oW ca o v1 ++ cW ca Ad g1 ++ mW ca Md h3) := my_D_perm hD List.perm_append_comm
  obtain ⟨f1, f2⟩ := hw2
  have e1 : thM h3 = z1 := by have q := hw1.1; rw [hRel.1, f1] at q; exact q
  have e2 : z1 = nI 0 → v1 0 = z2.toInt64 := by have q := hw1.2.1; rw [hRel.1, f1] at q; exact q
  have hR : RelL (i + 3) g1 h3 := rel_next (R := (fun s9 => R_ratios s9 (xs (i + 1)))) hRel (so_ratios (xs (i + 1))) (by omega) hw1.2.2.1 hw1.2.2.2 (by rw [f1]) f2
  refine lv_iload hx hb dL_law_1329 (lv_at hl 1 rfl) ?_
  refine lv_icmp_eq (tgt := 1336) hx hb dL_law_1331 (by decide) (fun c5 => ?_) (fun c5 => absurd (e3.trans e1) c5)
  refine lv_iload hx hb dL_law_1336 (lv_at hl 1 rfl) ?_
  refine lv_if_ne (tgt := 1353) hx hb dL_law_1338 (by decide) (fun c4 => ?_) (fun c4 => ?_)
  · refine lv_goto (tgt := 1424) hx hb dL_law_1353 (by decide) ?_
    refine W.widen (k := 64 + 8 * i + 24) (n := 4096 + 240 * i + 720) (by omega) (by omega) ?_
    exact hN g1 h3 v1 _ _ _ hR hP hD hS (lv_sub hl [2, 3, 4, 5, 6] rfl)
  · refine lv_aload_n hx hb dL_law_1341 rfl (lv_at hl 3 rfl) ?_
    refine lv_iconst (v := nI 0) hx hb dL_law_1342 (by decide) ?_
    refine my_lald hx hb hK hP 0 rfl (by omega) (by omega) dL_law_1343 ?_
    refine lv_iload hx hb dL_law_1344 (lv_at hl 0 rfl) ?_
    refine lv_i2l hx hb dL_law_1346 rfl ?_
    refine W.lcmp hx hb dL_law_1347 ?_
    refine lv_if_eq (tgt := 1353) hx hb dL_law_1348 (by decide) (fun c3 => ?_) (fun c3 => absurd ((lg_cmp_eq _ _).mpr (e2 c4)) c3)
    refine lv_goto (tgt := 1424) hx hb dL_law_1353 (by decide) ?_
    refine W.widen (k := 64 + 8 * i + 24) (n := 4096 + 240 * i + 720) (by omega) (by omega) ?_
    exact hN g1 h3 v1 _ _ _ hR hP hD hS (lv_sub hl [2, 3, 4, 5, 6] rfl)
set_option maxHeartbeats 8000000 in
set_option maxRecDepth 100000 in
theorem lwc_23 {p : Program} {e : Env} {s : State} {m : MethodId} {below : List Frame} {meth : Method} {c : Code} {l : Launch} (hl0 : l.stackTraces = false) {b L : Nat} {xs : Nat → Int32} (hL : L ≤ 1536) (hx : p.tables.exec = Jvm.exec) (hb : c.code = code) (hml : c.maxLocals = 9) (hown : s.vm.findClass RL = some m.cls) (hts : ∀ w ∈ wsL_law, w.before #[Value.ref b] s = true) (hX : va_X b L xs s s.heap) (hbl : b < s.heap.size) {D : va_G} {ca : Nat → ClassId} (hK : KK D ca s) (hZ : ZZ (fun q : Nat => s.heap.size ≤ q) s s.heap) {Q : State → Prop} {Ad : CA} {Md : MA} {o : Nat} {i : Nat} (hi : i + 3 ≤ L) {g : CG} {h : MG} {v0 : Nat → Int64} (hRel : RelL i g h) {H : Heap} {locs : List Loc} (hP : va_P D vwCl (oW ca o v0 ++ cW ca Ad g ++ mW ca Md h) H) (hD : va_D (fun q : Nat => s.heap.size ≤ q) (oW ca o v0 ++ cW ca Ad g ++ mW ca Md h)) (hS : va_S (fun q : Nat => s.heap.size ≤ q) s.heap H locs) {ls : Array Slot} (hl : lv_has ls 9 [(4, .int (nI i)), (3, .ref o), (2, .ref Md.1), (1, .ref Ad.1), (0, .ref b)])
    (hN : ∀ (g' : CG) (h' : MG) (v' : Nat → Int64) (H' : Heap) (locs' : List Loc) (ls' : Array Slot), RelL (i + 3) g' h' → va_P D vwCl (oW ca o v' ++ cW ca Ad g' ++ mW ca Md h') H' → va_D (fun q : Nat => s.heap.size ≤ q) (oW ca o v' ++ cW ca Ad g' ++ mW ca Md h') → va_S (fun q : Nat => s.heap.size ≤ q) s.heap H' locs' → lv_has ls' 9 [(4, .int (nI i)), (3, .ref o), (2, .ref Md.1), (1, .ref Ad.1), (0, .ref b)] → W p l e room_1 s m #[Value.ref b] below meth c H' locs' (64 + 8 * i + 24) (4096 + 240 * i + 720) Q (F0 m 1424 ls' [])) :
    W p l e room_1 s m #[Value.ref b] below meth c H locs (64 + 8 * i) (4096 + 240 * i) Q (F0 m 1356 ls []) := by
  have hbA : ¬ (fun q : Nat => s.heap.size ≤ q) b := Nat.not_le.mpr hbl
  refine lv_aload_n hx hb dL_law_1356 rfl (lv_at hl 3 rfl) ?_
  have hP9 : va_P D vwCl (cW ca Ad g ++ (oW ca o v0 ++ mW ca Md h)) H := my_P_perm hP pq_1
  have hD9 : va_D (fun q : Nat => s.heap.size ≤ q) (cW ca Ad g ++ (oW ca o v0 ++ mW ca Md h)) := my_D_perm hD pq_1
  have hFc := my_free hD9 hS (fun q h => h)
  refine va_calli (va_runV (As := []) (rest := []) ⟨hx, hb, hml, hown, hts⟩ (cC_greatestJerk l D ca H.size Ad g hRel.2.1 (rel_z hRel)) (cwV 0 hts gL_law_X5_greatestJerk rfl rfl rfl (by decide +kernel) ⟨kk_le rfl, kk_le rfl⟩) (pvZ hK (my_P_left hP9) (my_D_true (my_D_left hD9)) (hZ.at hS hFc) (cW_rc hK (my_P_left hP9))) rfl rfl hl.1 rfl (lv_room (kk_le rfl)) dL_law_1357 ⟨rm_c (by omega), rm_s (by omega)⟩) hS (fun q _ h => hFc q h) hFc (fun z1 g1 t H1 locs1 ht hvm hw1 hB1 hs1 hk1 hS => ?_)
  obtain ⟨hP1, hD1⟩ := hB1
  rw [ht] at hP1
  obtain ⟨hP, hD⟩ := my_join hP9 hD9 hk1 hFc hP1 hD1
  have hP : va_P D vwCl (oW ca o v0 ++ cW ca Ad g1 ++ mW ca Md h) H1 := my_P_perm hP pq_1.symm
  have hD : va_D (fun q : Nat => s.heap.size ≤ q) (oW ca o v0 ++ cW ca Ad g1 ++ mW ca Md h) := my_D_perm hD pq_1.symm
  refine lv_aload_n hx hb dL_law_1360 rfl (lv_at hl 2 rfl) ?_
  have hP9 := my_P_perm hP List.perm_append_comm
  have hD9 := my_D_perm hD List.perm_append_comm
  have hFc := my_free hD9 hS (fun q h => h)
  refine va_calli (va_runV (As := []) (rest := [.int z1]) ⟨hx, hb, hml, hown, hts⟩ (cM_greatestJerk l D ca H1.size Md h  hRel.2.2.1 (rel_zm hRel) (rel_p hRel)) (cwV 0 hts gL_law_X6_greatestJerk rfl rfl rfl (by decide +kernel) ⟨kk_le rfl, kk_le rfl⟩) (pvM hK (my_P_left hP9) (my_D_true (my_D_left hD9)) (mW_rc hK (my_P_left hP9))) rfl rfl hl.1 rfl (lv_room (kk_le rfl)) dL_law_1361 ⟨rm_c (by omega), rm_s (by omega)⟩) hS (fun q _ h => hFc q h) hFc (fun z2 h2 t H2 locs2 ht hvm hw2 hB2 hs2 hk2 hS => ?_)
  obtain ⟨hP2, hD2⟩ := hB2
  rw [ht] at hP2
  obtain ⟨hP, hD⟩ := my_join hP9 hD9 hk2 hFc hP2 hD2
  have hP : va_P D vwCl (oW ca o v0 ++ cW ca Ad g1 ++ mW ca Md h2) H2 := my_P_perm hP List.perm_append_comm
  have hD : va_D (fun q : Nat => s.heap.size ≤ q) (oW ca o v0 ++ cW ca Ad g1 ++ mW ca Md h2) := my_D_perm hD List.perm_append_comm
  obtain ⟨f1, f2⟩ := hw2
  have e1 : z1 = z2 := by have q := hw1.1; rw [hRel.1, f1] at q; exact (congrArg (fun y : RT => y.2.1) q).symm
  have hR : RelL (i + 3) g1 h2 := rel_next (R := R_greatestJerk) hRel so_greatestJerk (by omega) (by rw [hw1.1]) hw1.2 (by rw [f1]) f2
  refine lv_icmp_eq (tgt := 1424) hx hb dL_law_1364 (by decide) (fun c5 => ?_) (fun c5 => absurd e1 c5)
  refine W.widen (k := 64 + 8 * i + 24) (n := 4096 + 240 * i + 720) (by omega) (by omega) ?_
  exact hN g1 h2 v0 _ _ _ hR hP hD hS (lv_sub hl [0, 1, 2, 3, 4] rfl)
set_option maxHeartbeats 8000000 in
set_option maxRecDepth 100000 in
theorem lwc_24 {p : Program} {e : Env} {s : State} {m : MethodId} {below : List Frame} {meth : Method} {c : Code} {l : Launch} (hl0 : l.stackTraces = false) {b L : Nat} {xs : Nat → Int32} (hL : L ≤ 1536) (hx : p.tables.exec = Jvm.exec) (hb : c.code = code) (hml : c.maxLocals = 9) (hown : s.vm.findClass RL = some m.cls) (hts : ∀ w ∈ wsL_law, w.before #[Value.ref b] s = true) (hX : va_X b L xs s s.heap) (hbl : b < s.heap.size) {D : va_G} {ca : Nat → ClassId} (hK : KK D ca s) (hZ : ZZ (fun q : Nat => s.heap.size ≤ q) s s.heap) {Q : State → Prop} {Ad : CA} {Md : MA} {o : Nat} {i : Nat} (hi : i + 3 ≤ L) {g : CG} {h : MG} {v0 : Nat → Int64} (hRel : RelL i g h) {H : Heap} {locs : List Loc} (hP : va_P D vwCl (oW ca o v0 ++ cW ca Ad g ++ mW ca Md h) H) (hD : va_D (fun q : Nat => s.heap.size ≤ q) (oW ca o v0 ++ cW ca Ad g ++ mW ca Md h)) (hS : va_S (fun q : Nat => s.heap.size ≤ q) s.heap H locs) {ls : Array Slot} (hl : lv_has ls 9 [(4, .int (nI i)), (3, .ref o), (2, .ref Md.1), (1, .ref Ad.1), (0, .ref b)])
    (hN : ∀ (g' : CG) (h' : MG) (v' : Nat → Int64) (H' : Heap) (locs' : List Loc) (ls' : Array Slot), RelL (i + 3) g' h' → va_P D vwCl (oW ca o v' ++ cW ca Ad g' ++ mW ca Md h') H' → va_D (fun q : Nat => s.heap.size ≤ q) (oW ca o v' ++ cW ca Ad g' ++ mW ca Md h') → va_S (fun q : Nat => s.heap.size ≤ q) s.heap H' locs' → lv_has ls' 9 [(4, .int (nI i)), (3, .ref o), (2, .ref Md.1), (1, .ref Ad.1), (0, .ref b)] → W p l e room_1 s m #[Value.ref b] below meth c H' locs' (64 + 8 * i + 24) (4096 + 240 * i + 720) Q (F0 m 1424 ls' [])) :
    W p l e room_1 s m #[Value.ref b] below meth c H locs (64 + 8 * i) (4096 + 240 * i) Q (F0 m 1369 ls []) := by
  have hbA : ¬ (fun q : Nat => s.heap.size ≤ q) b := Nat.not_le.mpr hbl
  refine lv_aload_n hx hb dL_law_1369 rfl (lv_at hl 3 rfl) ?_
  have hP9 : va_P D vwCl (cW ca Ad g ++ (oW ca o v0 ++ mW ca Md h)) H := my_P_perm hP pq_1
  have hD9 : va_D (fun q : Nat => s.heap.size ≤ q) (cW ca Ad g ++ (oW ca o v0 ++ mW ca Md h)) := my_D_perm hD pq_1
  have hFc := my_free hD9 hS (fun q h => h)
  refine va_calld (va_runV (As := []) (rest := []) ⟨hx, hb, hml, hown, hts⟩ (cC_shortShare l D ca H.size Ad g hRel.2.1 (rel_z hRel)) (cwV 0 hts gL_law_X5_shortShare rfl rfl rfl (by decide +kernel) ⟨kk_le rfl, kk_le rfl⟩) (pvZ hK (my_P_left hP9) (my_D_true (my_D_left hD9)) (hZ.at hS hFc) (cW_rc hK (my_P_left hP9))) rfl rfl hl.1 rfl (lv_room (kk_le rfl)) dL_law_1370 ⟨rm_c (by omega), rm_s (by omega)⟩) hS (fun q _ h => hFc q h) hFc (fun z1 g1 t H1 locs1 ht hvm hw1 hB1 hs1 hk1 hS => ?_)
  obtain ⟨hP1, hD1⟩ := hB1
  rw [ht] at hP1
  obtain ⟨hP, hD⟩ := my_join hP9 hD9 hk1 hFc hP1 hD1
  have hP : va_P D vwCl (oW ca o v0 ++ cW ca Ad g1 ++ mW ca Md h) H1 := my_P_perm hP pq_1.symm
  have hD : va_D (fun q : Nat => s.heap.size ≤ q) (oW ca o v0 ++ cW ca Ad g1 ++ mW ca Md h) := my_D_perm hD pq_1.symm
  refine lv_dstore (lv' := [(5, .double z1), (4, .int (nI i)), (3, .ref o), (2, .ref Md.1), (1, .ref Ad.1), (0, .ref b)]) hx hb dL_law_1373 hl (by decide) rfl (fun ls hl => ?_)
  refine lv_aload_n hx hb dL_law_1375 rfl (lv_at hl 3 rfl) ?_
  have hP9 := my_P_perm hP List.perm_append_comm
  have hD9 := my_D_perm hD List.perm_append_comm
  have hFc := my_free hD9 hS (fun q h => h)
  refine va_calld (va_runV (As := []) (rest := []) ⟨hx, hb, hml, hown, hts⟩ (cM_shortShare l D ca H1.size Md h  hRel.2.2.1 (rel_zm hRel) (rel_p hRel)) (cwV 0 hts gL_law_X6_shortShare rfl rfl rfl (by decide +kernel) ⟨kk_le rfl, kk_le rfl⟩) (pvM hK (my_P_left hP9) (my_D_true (my_D_left hD9)) (mW_rc hK (my_P_left hP9))) rfl rfl hl.1 rfl (lv_room (kk_le rfl)) dL_law_1376 ⟨rm_c (by omega), rm_s (by omega)⟩) hS (fun q _ h => hFc q h) hFc (fun z2 h2 t H2 locs2 ht hvm hw2 hB2 hs2 hk2 hS => ?_)
  obtain ⟨hP2, hD2⟩ := hB2
  rw [ht] at hP2
  obtain ⟨hP, hD⟩ := my_join hP9 hD9 hk2 hFc hP2 hD2
  have hP : va_P D vwCl (oW ca o v0 ++ cW ca Ad g1 ++ mW ca Md h2) H2 := my_P_perm hP List.perm_append_comm
  have hD : va_D (fun q : Nat => s.heap.size ≤ q) (oW ca o v0 ++ cW ca Ad g1 ++ mW ca Md h2) := my_D_perm hD List.perm_append_comm
  have e1 : z1 = z2 := by rw [← hw1.1.1, ← hw2.1.1, hRel.1]
  have hR : RelL (i + 3) g1 h2 := rel_same hRel hw1.1.2 hw1.2 hw2.1.2 hw2.2
  subst e1
  have hdc : Op.cmpValue (FP.dcmp z1 z1) .l = 0 := by rw [← hw1.1.1, vs_cmp hRel.2.2.2]; rfl
  refine lv_dstore (lv' := [(7, .double z1), (5, .double z1), (4, .int (nI i)), (3, .ref o), (2, .ref Md.1), (1, .ref Ad.1), (0, .ref b)]) hx hb dL_law_1379 hl (by decide) rfl (fun ls hl => ?_)
  refine lv_dload hx hb dL_law_1381 (lv_at hl 1 rfl) ?_
  refine lv_dload hx hb dL_law_1383 (lv_at hl 0 rfl) ?_
  refine lv_dcmp hx hb dL_law_1385 ?_
  rw [hdc]
  refine lv_if_eq (tgt := 1407) hx hb dL_law_1386 (by decide) (fun c3 => ?_) (fun c3 => absurd (by decide) c3)
  refine lv_goto (tgt := 1424) hx hb dL_law_1407 (by decide) ?_
  refine W.widen (k := 64 + 8 * i + 24) (n := 4096 + 240 * i + 720) (by omega) (by omega) ?_
  exact hN g1 h2 v0 _ _ _ hR hP hD hS (lv_sub hl [2, 3, 4, 5, 6] rfl)
