set_option maxHeartbeats 8000000 in
set_option maxRecDepth 100000 in
theorem lwc_25 {p : Program} {e : Env} {s : State} {m : MethodId} {below : List Frame} {meth : Method} {c : Code} {l : Launch} (hl0 : l.stackTraces = false) {b L : Nat} {xs : Nat → Int32} (hL : L ≤ 1536) (hx : p.tables.exec = Jvm.exec) (hb : c.code = code) (hml : c.maxLocals = 9) (hown : s.vm.findClass RL = some m.cls) (hts : ∀ w ∈ wsL_law, w.before #[Value.ref b] s = true) (hX : va_X b L xs s s.heap) (hbl : b < s.heap.size) {D : va_G} {ca : Nat → ClassId} (hK : KK D ca s) (hZ : ZZ (fun q : Nat => s.heap.size ≤ q) s s.heap) {Q : State → Prop} {Ad : CA} {Md : MA} {o : Nat} {i : Nat} (hi : i + 3 ≤ L) {g : CG} {h : MG} {v0 : Nat → Int64} (hRel : RelL i g h) {H : Heap} {locs : List Loc} (hP : va_P D vwCl (oW ca o v0 ++ cW ca Ad g ++ mW ca Md h) H) (hD : va_D (fun q : Nat => s.heap.size ≤ q) (oW ca o v0 ++ cW ca Ad g ++ mW ca Md h)) (hS : va_S (fun q : Nat => s.heap.size ≤ q) s.heap H locs) {ls : Array Slot} (hl : lv_has ls 9 [(4, .int (nI i)), (3, .ref o), (2, .ref Md.1), (1, .ref Ad.1), (0, .ref b)])
    (hN : ∀ (g' : CG) (h' : MG) (v' : Nat → Int64) (H' : Heap) (locs' : List Loc) (ls' : Array Slot), RelL (i + 3) g' h' → va_P D vwCl (oW ca o v' ++ cW ca Ad g' ++ mW ca Md h') H' → va_D (fun q : Nat => s.heap.size ≤ q) (oW ca o v' ++ cW ca Ad g' ++ mW ca Md h') → va_S (fun q : Nat => s.heap.size ≤ q) s.heap H' locs' → lv_has ls' 9 [(4, .int (nI i)), (3, .ref o), (2, .ref Md.1), (1, .ref Ad.1), (0, .ref b)] → W p l e room_1 s m #[Value.ref b] below meth c H' locs' (64 + 8 * i + 24) (4096 + 240 * i + 720) Q (F0 m 1424 ls' [])) :
    W p l e room_1 s m #[Value.ref b] below meth c H locs (64 + 8 * i) (4096 + 240 * i) Q (F0 m 1410 ls []) := by
  have hbA : ¬ (fun q : Nat => s.heap.size ≤ q) b := Nat.not_le.mpr hbl
  refine lv_aload_n hx hb dL_law_1410 rfl (lv_at hl 3 rfl) ?_
  have hP9 : va_P D vwCl (cW ca Ad g ++ (oW ca o v0 ++ mW ca Md h)) H := my_P_perm hP pq_1
  have hD9 : va_D (fun q : Nat => s.heap.size ≤ q) (cW ca Ad g ++ (oW ca o v0 ++ mW ca Md h)) := my_D_perm hD pq_1
  have hFc := my_free hD9 hS (fun q h => h)
  refine va_calll (va_runV (As := []) (rest := []) ⟨hx, hb, hml, hown, hts⟩ (cC_digest l D ca H.size Ad g hRel.2.1 (rel_z hRel)) (cwV 0 hts gL_law_X5_digest rfl rfl rfl (by decide +kernel) ⟨kk_le rfl, kk_le rfl⟩) (pvZ hK (my_P_left hP9) (my_D_true (my_D_left hD9)) (hZ.at hS hFc) (cW_rc hK (my_P_left hP9))) rfl rfl hl.1 rfl (lv_room (kk_le rfl)) dL_law_1411 ⟨rm_c (by omega), rm_s (by omega)⟩) hS (fun q _ h => hFc q h) hFc (fun z1 g1 t H1 locs1 ht hvm hw1 hB1 hs1 hk1 hS => ?_)
  obtain ⟨hP1, hD1⟩ := hB1
  rw [ht] at hP1
  obtain ⟨hP, hD⟩ := my_join hP9 hD9 hk1 hFc hP1 hD1
  have hP : va_P D vwCl (oW ca o v0 ++ cW ca Ad g1 ++ mW ca Md h) H1 := my_P_perm hP pq_1.symm
  have hD : va_D (fun q : Nat => s.heap.size ≤ q) (oW ca o v0 ++ cW ca Ad g1 ++ mW ca Md h) := my_D_perm hD pq_1.symm
  refine lv_aload_n hx hb dL_law_1414 rfl (lv_at hl 2 rfl) ?_
  have hP9 := my_P_perm hP List.perm_append_comm
  have hD9 := my_D_perm hD List.perm_append_comm
  have hFc := my_free hD9 hS (fun q h => h)
  refine va_calll (va_runV (As := []) (rest := [.long z1]) ⟨hx, hb, hml, hown, hts⟩ (cM_digest l D ca H1.size Md h  hRel.2.2.1 (rel_zm hRel) (rel_p hRel)) (cwV 0 hts gL_law_X6_digest rfl rfl rfl (by decide +kernel) ⟨kk_le rfl, kk_le rfl⟩) (pvM hK (my_P_left hP9) (my_D_true (my_D_left hD9)) (mW_rc hK (my_P_left hP9))) rfl rfl hl.1 rfl (lv_room (kk_le rfl)) dL_law_1415 ⟨rm_c (by omega), rm_s (by omega)⟩) hS (fun q _ h => hFc q h) hFc (fun z2 h2 t H2 locs2 ht hvm hw2 hB2 hs2 hk2 hS => ?_)
  obtain ⟨hP2, hD2⟩ := hB2
  rw [ht] at hP2
  obtain ⟨hP, hD⟩ := my_join hP9 hD9 hk2 hFc hP2 hD2
  have hP : va_P D vwCl (oW ca o v0 ++ cW ca Ad g1 ++ mW ca Md h2) H2 := my_P_perm hP List.perm_append_comm
  have hD : va_D (fun q : Nat => s.heap.size ≤ q) (oW ca o v0 ++ cW ca Ad g1 ++ mW ca Md h2) := my_D_perm hD List.perm_append_comm
  have e1 : z1 = z2 := by rw [← hw1.1.1, ← hw2.1.1, hRel.1]
  have hR : RelL (i + 3) g1 h2 := rel_same hRel hw1.1.2 hw1.2 hw2.1.2 hw2.2
  refine W.lcmp hx hb dL_law_1418 ?_
  refine lv_if_eq (tgt := 1424) hx hb dL_law_1419 (by decide) (fun c3 => ?_) (fun c3 => absurd ((lg_cmp_eq _ _).mpr e1) c3)
  refine W.widen (k := 64 + 8 * i + 24) (n := 4096 + 240 * i + 720) (by omega) (by omega) ?_
  exact hN g1 h2 v0 _ _ _ hR hP hD hS (lv_sub hl [0, 1, 2, 3, 4] rfl)
