theorem and31 (x : Int32) : ∃ k, k < 32 ∧ x &&& nI 31 = nI k := by
  refine ⟨(x &&& nI 31).toBitVec.toNat, ?_, ?_⟩
  · rw [Int32.toBitVec_and, BitVec.toNat_and]
    exact Nat.lt_of_le_of_lt Nat.and_le_right (by decide)
  · apply Int32.toBitVec_inj.mp
    show (x &&& nI 31).toBitVec = BitVec.ofNat 32 (x &&& nI 31).toBitVec.toNat
    simp
theorem lp_in {L i : Nat} (hL : L ≤ 1536) (hi : i ≤ L) (h : ¬ (Int32.ofNat L - nI 3 < nI i)) : i + 3 ≤ L := by
  have h2 := Int32.le_iff_toInt_le.mp (Int32.not_lt.mp h)
  have e1 : (Int32.ofNat L - nI 3).toInt = (L : Int) - 3 := by
    rw [Int32.toInt_sub, show (Int32.ofNat L).toInt = (L : Int) from nI_toInt (by omega), nI_toInt (by decide), Int.bmod_eq_of_le (by omega) (by omega)]
    rfl
  rw [e1, nI_toInt (by omega)] at h2
  omega
set_option maxHeartbeats 8000000 in
set_option maxRecDepth 100000 in
theorem law_loop {p : Program} {e : Env} {s : State} {m : MethodId} {below : List Frame} {meth : Method} {c : Code} {l : Launch} (hl0 : l.stackTraces = false) {b L : Nat} {xs : Nat → Int32} (hL : L ≤ 1536) (hx : p.tables.exec = Jvm.exec) (hb : c.code = code) (hml : c.maxLocals = 9) (hown : s.vm.findClass RL = some m.cls) (hts : ∀ w ∈ wsL_law, w.before #[Value.ref b] s = true) (hX : va_X b L xs s s.heap) (hbl : b < s.heap.size) {D : va_G} {ca : Nat → ClassId} (hK : KK D ca s) (hZ : ZZ (fun q : Nat => s.heap.size ≤ q) s s.heap) {Q : State → Prop} {Ad : CA} {Md : MA} {o : Nat} 
    (hE : ∀ (H' : Heap) (locs' : List Loc) (ls' : Array Slot) (i : Nat), i ≤ L → (∀ z ∈ locs', s.heap.size ≤ z.base) → W p l e room_1 s m #[Value.ref b] below meth c H' locs' (64 + 8 * i) (4096 + 240 * i) Q (F0 m 1430 ls' [])) :
    ∀ (k i : Nat), L - i < k → i ≤ L → ∀ (g : CG) (h : MG) (v0 : Nat → Int64), RelL i g h → ∀ (H : Heap) (locs : List Loc), va_P D vwCl (oW ca o v0 ++ cW ca Ad g ++ mW ca Md h) H → va_D (fun q : Nat => s.heap.size ≤ q) (oW ca o v0 ++ cW ca Ad g ++ mW ca Md h) → va_S (fun q : Nat => s.heap.size ≤ q) s.heap H locs → ∀ (ls : Array Slot), lv_has ls 9 [(4, .int (nI i)), (3, .ref o), (2, .ref Md.1), (1, .ref Ad.1), (0, .ref b)] →
    W p l e room_1 s m #[Value.ref b] below meth c H locs (64 + 8 * i) (4096 + 240 * i) Q (F0 m 23 ls []) := by
  have hbA : ¬ (fun q : Nat => s.heap.size ≤ q) b := Nat.not_le.mpr hbl
  intro k
  induction k with
  | zero => intro i hk; exact absurd hk (Nat.not_lt_zero _)
  | succ k ih =>
    intro i hk hiL g h v0 hRel H locs hP hD hS ls hl
    refine lv_iload hx hb dL_law_23 (lv_at hl 0 rfl) ?_
    refine lv_aload_n hx hb dL_law_25 rfl (lv_at hl 4 rfl) ?_
    refine va_slen hx hb hX hbl hbA hS dL_law_26 ?_
    refine lv_iconst (v := nI 3) hx hb dL_law_27 (by decide) ?_
    refine lv_isub hx hb dL_law_28 ?_
    refine lv_icmp_gt (tgt := 1430) hx hb dL_law_29 (by decide) (fun c1 => ?_) (fun c1 => ?_)
    · exact hE _ _ _ i hiL hS.2.2
    · have hi := lp_in hL hiL c1
      refine lv_aload_n hx hb dL_law_32 rfl (lv_at hl 4 rfl) ?_
      refine lv_iload hx hb dL_law_33 (lv_at hl 0 rfl) ?_
      refine va_sld hx hb hX hbl hbA hS (vp_in_nI (by omega) (by omega)) dL_law_35 ?_
      refine lv_bipush (v := nI 31) hx hb dL_law_36 (by decide) ?_
      refine lv_iand hx hb dL_law_38 ?_
      obtain ⟨q9, hq9, e9⟩ := and31 (xs (nI i).toNatClampNeg)
      rw [e9]
      have hN : ∀ (g' : CG) (h' : MG) (v' : Nat → Int64) (H' : Heap) (locs' : List Loc) (ls' : Array Slot), RelL (i + 3) g' h' → va_P D vwCl (oW ca o v' ++ cW ca Ad g' ++ mW ca Md h') H' → va_D (fun q : Nat => s.heap.size ≤ q) (oW ca o v' ++ cW ca Ad g' ++ mW ca Md h') → va_S (fun q : Nat => s.heap.size ≤ q) s.heap H' locs' → lv_has ls' 9 [(4, .int (nI i)), (3, .ref o), (2, .ref Md.1), (1, .ref Ad.1), (0, .ref b)] → W p l e room_1 s m #[Value.ref b] below meth c H' locs' (64 + 8 * i + 24) (4096 + 240 * i + 720) Q (F0 m 1424 ls' []) := by
        intro g' h' v' H' locs' ls' hR' hP' hD' hS' hl'
        refine lv_iinc (v := nI (i + 3)) (lv' := [(4, .int (nI (i + 3))), (3, .ref o), (2, .ref Md.1), (1, .ref Ad.1), (0, .ref b)]) hx hb dL_law_1424 hl' (k := 0) rfl (ni_inc _ _ (by decide)) (by decide) rfl (fun ls hl => ?_)
        refine lv_goto (tgt := 23) hx hb dL_law_1427 (by decide) ?_
        refine W.widen (k := 64 + 8 * (i + 3)) (n := 4096 + 240 * (i + 3)) (by omega) (by omega) ?_
        exact ih (i + 3) (by omega) (by omega) g' h' v' hR' H' locs' hP' hD' hS' ls hl
      rcases (show q9 = 0 ∨ q9 = 1 ∨ q9 = 2 ∨ q9 = 3 ∨ q9 = 4 ∨ q9 = 5 ∨ q9 = 6 ∨ q9 = 7 ∨ q9 = 8 ∨ q9 = 9 ∨ q9 = 10 ∨ q9 = 11 ∨ q9 = 12 ∨ q9 = 13 ∨ q9 = 14 ∨ q9 = 15 ∨ q9 = 16 ∨ q9 = 17 ∨ q9 = 18 ∨ q9 = 19 ∨ q9 = 20 ∨ q9 = 21 ∨ q9 = 22 ∨ q9 = 23 ∨ q9 = 24 ∨ q9 = 25 ∨ q9 = 26 ∨ q9 = 27 ∨ q9 = 28 ∨ q9 = 29 ∨ q9 = 30 ∨ q9 = 31 by omega) with rfl | rfl | rfl | rfl | rfl | rfl | rfl | rfl | rfl | rfl | rfl | rfl | rfl | rfl | rfl | rfl | rfl | rfl | rfl | rfl | rfl | rfl | rfl | rfl | rfl | rfl | rfl | rfl | rfl | rfl | rfl | rfl
      · refine lv_tableIn (tgt := 156) (off := 117) hx hb dL_law_39 (by decide) (by decide) (by decide) (by decide) ?_
        exact lwc_0 hl0 hL hx hb hml hown hts hX hbl hK hZ hi hRel hP hD hS hl hN
      · refine lv_tableIn (tgt := 200) (off := 161) hx hb dL_law_39 (by decide) (by decide) (by decide) (by decide) ?_
        exact lwc_1 hl0 hL hx hb hml hown hts hX hbl hK hZ hi hRel hP hD hS hl hN
      · refine lv_tableIn (tgt := 244) (off := 205) hx hb dL_law_39 (by decide) (by decide) (by decide) (by decide) ?_
        exact lwc_2 hl0 hL hx hb hml hown hts hX hbl hK hZ hi hRel hP hD hS hl hN
      · refine lv_tableIn (tgt := 257) (off := 218) hx hb dL_law_39 (by decide) (by decide) (by decide) (by decide) ?_
        exact lwc_3 hl0 hL hx hb hml hown hts hX hbl hK hZ hi hRel hP hD hS hl hN
      · refine lv_tableIn (tgt := 313) (off := 274) hx hb dL_law_39 (by decide) (by decide) (by decide) (by decide) ?_
        exact lwc_4 hl0 hL hx hb hml hown hts hX hbl hK hZ hi hRel hP hD hS hl hN
      · refine lv_tableIn (tgt := 381) (off := 342) hx hb dL_law_39 (by decide) (by decide) (by decide) (by decide) ?_
        exact lwc_5 hl0 hL hx hb hml hown hts hX hbl hK hZ hi hRel hP hD hS hl hN
      · refine lv_tableIn (tgt := 449) (off := 410) hx hb dL_law_39 (by decide) (by decide) (by decide) (by decide) ?_
        exact lwc_6 hl0 hL hx hb hml hown hts hX hbl hK hZ hi hRel hP hD hS hl hN
      · refine lv_tableIn (tgt := 517) (off := 478) hx hb dL_law_39 (by decide) (by decide) (by decide) (by decide) ?_
        exact lwc_7 hl0 hL hx hb hml hown hts hX hbl hK hZ hi hRel hP hD hS hl hN
      · refine lv_tableIn (tgt := 573) (off := 534) hx hb dL_law_39 (by decide) (by decide) (by decide) (by decide) ?_
        exact lwc_8 hl0 hL hx hb hml hown hts hX hbl hK hZ hi hRel hP hD hS hl hN
      · refine lv_tableIn (tgt := 586) (off := 547) hx hb dL_law_39 (by decide) (by decide) (by decide) (by decide) ?_
        exact lwc_9 hl0 hL hx hb hml hown hts hX hbl hK hZ hi hRel hP hD hS hl hN
      · refine lv_tableIn (tgt := 599) (off := 560) hx hb dL_law_39 (by decide) (by decide) (by decide) (by decide) ?_
        exact lwc_10 hl0 hL hx hb hml hown hts hX hbl hK hZ hi hRel hP hD hS hl hN
      · refine lv_tableIn (tgt := 655) (off := 616) hx hb dL_law_39 (by decide) (by decide) (by decide) (by decide) ?_
        exact lwc_11 hl0 hL hx hb hml hown hts hX hbl hK hZ hi hRel hP hD hS hl hN
      · refine lv_tableIn (tgt := 711) (off := 672) hx hb dL_law_39 (by decide) (by decide) (by decide) (by decide) ?_
        exact lwc_12 hl0 hL hx hb hml hown hts hX hbl hK hZ hi hRel hP hD hS hl hN
      · refine lv_tableIn (tgt := 755) (off := 716) hx hb dL_law_39 (by decide) (by decide) (by decide) (by decide) ?_
        exact lwc_13 hl0 hL hx hb hml hown hts hX hbl hK hZ hi hRel hP hD hS hl hN
      · refine lv_tableIn (tgt := 811) (off := 772) hx hb dL_law_39 (by decide) (by decide) (by decide) (by decide) ?_
        exact lwc_14 hl0 hL hx hb hml hown hts hX hbl hK hZ hi hRel hP hD hS hl hN
      · refine lv_tableIn (tgt := 867) (off := 828) hx hb dL_law_39 (by decide) (by decide) (by decide) (by decide) ?_
        exact lwc_15 hl0 hL hx hb hml hown hts hX hbl hK hZ hi hRel hP hD hS hl hN
      · refine lv_tableIn (tgt := 951) (off := 912) hx hb dL_law_39 (by decide) (by decide) (by decide) (by decide) ?_
        exact lwc_16 hl0 hL hx hb hml hown hts hX hbl hK hZ hi hRel hP hD hS hl hN
      · refine lv_tableIn (tgt := 1035) (off := 996) hx hb dL_law_39 (by decide) (by decide) (by decide) (by decide) ?_
        exact lwc_17 hl0 hL hx hb hml hown hts hX hbl hK hZ hi hRel hP hD hS hl hN
      · refine lv_tableIn (tgt := 1119) (off := 1080) hx hb dL_law_39 (by decide) (by decide) (by decide) (by decide) ?_
        exact lwc_18 hl0 hL hx hb hml hown hts hX hbl hK hZ hi hRel hP hD hS hl hN
      · refine lv_tableIn (tgt := 1175) (off := 1136) hx hb dL_law_39 (by decide) (by decide) (by decide) (by decide) ?_
        exact lwc_19 hl0 hL hx hb hml hown hts hX hbl hK hZ hi hRel hP hD hS hl hN
      · refine lv_tableIn (tgt := 1231) (off := 1192) hx hb dL_law_39 (by decide) (by decide) (by decide) (by decide) ?_
        exact lwc_20 hl0 hL hx hb hml hown hts hX hbl hK hZ hi hRel hP hD hS hl hN
      · refine lv_tableIn (tgt := 1244) (off := 1205) hx hb dL_law_39 (by decide) (by decide) (by decide) (by decide) ?_
        exact lwc_21 hl0 hL hx hb hml hown hts hX hbl hK hZ hi hRel hP hD hS hl hN
      · refine lv_tableIn (tgt := 1300) (off := 1261) hx hb dL_law_39 (by decide) (by decide) (by decide) (by decide) ?_
        exact lwc_22 hl0 hL hx hb hml hown hts hX hbl hK hZ hi hRel hP hD hS hl hN
      · refine lv_tableIn (tgt := 1356) (off := 1317) hx hb dL_law_39 (by decide) (by decide) (by decide) (by decide) ?_
        exact lwc_23 hl0 hL hx hb hml hown hts hX hbl hK hZ hi hRel hP hD hS hl hN
      · refine lv_tableIn (tgt := 1369) (off := 1330) hx hb dL_law_39 (by decide) (by decide) (by decide) (by decide) ?_
        exact lwc_24 hl0 hL hx hb hml hown hts hX hbl hK hZ hi hRel hP hD hS hl hN
      · refine lv_tableIn (tgt := 1410) (off := 1371) hx hb dL_law_39 (by decide) (by decide) (by decide) (by decide) ?_
        exact lwc_25 hl0 hL hx hb hml hown hts hX hbl hK hZ hi hRel hP hD hS hl hN
      · refine lv_tableOut (tgt := 1424) hx hb dL_law_39 (by decide) (by decide) ?_
        refine W.widen (k := 64 + 8 * i + 24) (n := 4096 + 240 * i + 720) (by omega) (by omega) ?_
        exact hN g h v0 _ _ _ (rel_idle hRel) hP hD hS hl
      · refine lv_tableOut (tgt := 1424) hx hb dL_law_39 (by decide) (by decide) ?_
        refine W.widen (k := 64 + 8 * i + 24) (n := 4096 + 240 * i + 720) (by omega) (by omega) ?_
        exact hN g h v0 _ _ _ (rel_idle hRel) hP hD hS hl
      · refine lv_tableOut (tgt := 1424) hx hb dL_law_39 (by decide) (by decide) ?_
        refine W.widen (k := 64 + 8 * i + 24) (n := 4096 + 240 * i + 720) (by omega) (by omega) ?_
        exact hN g h v0 _ _ _ (rel_idle hRel) hP hD hS hl
      · refine lv_tableOut (tgt := 1424) hx hb dL_law_39 (by decide) (by decide) ?_
        refine W.widen (k := 64 + 8 * i + 24) (n := 4096 + 240 * i + 720) (by omega) (by omega) ?_
        exact hN g h v0 _ _ _ (rel_idle hRel) hP hD hS hl
      · refine lv_tableOut (tgt := 1424) hx hb dL_law_39 (by decide) (by decide) ?_
        refine W.widen (k := 64 + 8 * i + 24) (n := 4096 + 240 * i + 720) (by omega) (by omega) ?_
        exact hN g h v0 _ _ _ (rel_idle hRel) hP hD hS hl
      · refine lv_tableOut (tgt := 1424) hx hb dL_law_39 (by decide) (by decide) ?_
        refine W.widen (k := 64 + 8 * i + 24) (n := 4096 + 240 * i + 720) (by omega) (by omega) ?_
        exact hN g h v0 _ _ _ (rel_idle hRel) hP hD hS hl
