theorem bs_step {k : Nat} {x : UInt64} {e : Int64} (h : Op.cmpValue (FP.dcmp x FP.dconst1) .g < 0) : bsL (k + 1) x e = bsL k (FP.dmul x dT) (e - 1) := by simp only [bsL]; rw [if_pos h]
theorem bs_stop {k : Nat} {x : UInt64} {e : Int64} (h : ¬ Op.cmpValue (FP.dcmp x FP.dconst1) .g < 0) : bsL k x e = (x, e) := by
  cases k with
  | zero => rfl
  | succ k => simp only [bsL]; rw [if_neg h]
theorem bn_step {k : Nat} {x : UInt64} (hn : bsN (k + 1) x = true) (h : Op.cmpValue (FP.dcmp x FP.dconst1) .g < 0) : vf_n64 (FP.dmul x dT) ∧ bsN k (FP.dmul x dT) = true := by
  simp only [bsN] at hn; rw [if_pos h] at hn
  exact ⟨nn64_f (Bool.and_eq_true_iff.mp hn).1, (Bool.and_eq_true_iff.mp hn).2⟩
theorem tb_1 {n : Nat} (h : tbk n = true) {a : Nat} (h1 : 1 ≤ a) (h2 : a < n) : tb1 a n = true := by
  have h3 := List.all_eq_true.mp (Bool.and_eq_true_iff.mp h).1 a (List.mem_range.mpr h2)
  simp only [Bool.and_eq_true, Bool.or_eq_true, decide_eq_true_eq] at h3
  exact h3.1.1.resolve_left (by omega)
theorem tb_2 {n : Nat} (h : tbk n = true) {b : Nat} (h1 : n ≤ b) (h2 : b < 2 * n) : tb2 b n = true := by
  have h3 := List.all_eq_true.mp (Bool.and_eq_true_iff.mp h).1 (b - n) (List.mem_range.mpr (by omega))
  simp only [Bool.and_eq_true] at h3
  rw [show n + (b - n) = b by omega] at h3
  exact h3.1.2
theorem tb_3 {n : Nat} (h : tbk n = true) {a : Nat} (h1 : 1 ≤ a) (h2 : a ≤ n) : tb3 a n = true := by
  have h3 := List.all_eq_true.mp (Bool.and_eq_true_iff.mp h).1 (a - 1) (List.mem_range.mpr (by omega))
  simp only [Bool.and_eq_true] at h3
  rw [show a - 1 + 1 = a by omega] at h3
  exact h3.2
theorem bn_stop {k : Nat} {x : UInt64} (h : ¬ Op.cmpValue (FP.dcmp x FP.dconst1) .g < 0) : bsN k x = true := by
  cases k with
  | zero => rfl
  | succ k => simp only [bsN]; rw [if_neg h]
theorem tb2_c {b n : Nat} (h : tb2 b n = true) : ¬ Op.cmpValue (FP.dcmp (DD b n) FP.dconst1) .g < 0 := by
  simp only [tb2, Bool.and_eq_true, Bool.not_eq_true', decide_eq_false_iff_not] at h; exact h.1.1
theorem ch_L {n : Nat} (h : tbk n = true) : ∀ (f F a : Nat) (e : Int64), f ≤ F → 1 ≤ a → a < 2 * n → n ≤ a * 2 ^ f →
    bsL F (DD a n) e = (DD (chD f a n).1 n, exK (chD f a n).2 e) ∧ bsN F (DD a n) = true ∧ n ≤ (chD f a n).1 ∧ (chD f a n).1 < 2 * n := by
  intro f
  induction f with
  | zero =>
    intro F a e hF h1 h2 h3
    have hc := tb2_c (tb_2 h (show n ≤ a by omega) h2)
    exact ⟨bs_stop hc, bn_stop hc, by show n ≤ a; omega, h2⟩
  | succ f ih =>
    intro F a e hF h1 h2 h3
    by_cases hn : n ≤ a
    · have hc := tb2_c (tb_2 h hn h2)
      have e0 : chD (f + 1) a n = (a, 0) := if_pos hn
      rw [e0]
      exact ⟨bs_stop hc, bn_stop hc, hn, h2⟩
    · obtain ⟨F, rfl⟩ : ∃ F', F = F' + 1 := ⟨F - 1, by omega⟩
      have t := tb_1 h h1 (show a < n by omega)
      simp only [tb1, Bool.and_eq_true, decide_eq_true_eq] at t
      obtain ⟨⟨t1, t2⟩, t3⟩ := t
      have e0 : chD (f + 1) a n = ((chD f (2 * a) n).1, (chD f (2 * a) n).2 + 1) := if_neg hn
      obtain ⟨i1, i2, i3, i4⟩ := ih F (2 * a) (e - 1) (by omega) (by omega) (by omega) (Nat.le_trans h3 (by rw [Nat.pow_succ, Nat.mul_comm (2 ^ f) 2, ← Nat.mul_assoc, Nat.mul_comm a 2]; exact Nat.le_refl _))
      rw [e0]
      refine ⟨?_, ?_, i3, i4⟩
      · rw [bs_step t1, t2, i1]; rfl
      · simp only [bsN]; rw [if_pos t1, t2, t3, i2]; rfl
set_option maxRecDepth 100000 in
theorem bs_zero : bsK 0 = true := by decide +kernel
theorem bk_nn {a n : Nat} (h0 : 0 < n) (h : a ≤ n) (h2 : n ≤ 200) : bsK (FP.ddiv (FP.i2d (nI a)) (FP.i2d (nI n))) = true := by
  show bsK (DD a n) = true
  have ht := tb_all h0 h2
  rcases Nat.eq_zero_or_pos a with q | q
  · subst q
    rw [of_decide_eq_true (Bool.and_eq_true_iff.mp ht).2]; exact bs_zero
  · have h8 : n ≤ a * 2 ^ 8 := Nat.le_trans (show n ≤ 1 * 2 ^ 8 by omega) (Nat.mul_le_mul_right _ q)
    obtain ⟨i1, i2, i3, i4⟩ := ch_L ht 8 64 a 1023 (by decide) q (by omega) h8
    have t3 := tb_3 ht q h
    have t2 := tb_2 ht i3 i4
    simp only [tb3, Bool.and_eq_true, decide_eq_true_eq] at t3
    simp only [tb2, Bool.and_eq_true] at t2
    unfold bsK
    rw [i2, i1]
    dsimp only
    rw [t2.1.2, t2.2]
    unfold bsF
    rw [if_pos t3.1, i1]
    exact decide_eq_true t3.2
theorem bs_sh (r : Int32) {t : IL} (h : t.length ≤ 200) : bsK (shT r t) = true := by
  unfold shT
  split
  · decide +kernel
  · exact bk_nn (by omega) (ltC_le _ _) h
abbrev rm_kX5_bitsOfShare : Room := { frames := 0, cells := 0, slots := 0, locals := 0 }
set_option maxHeartbeats 4000000 in
set_option maxRecDepth 100000 in
theorem kX5_bitsOfShare (l : Launch) (v : UInt64) (hk : bsK v = true) : Met l yX5_bitsOfShare wsX5_bitsOfShare rm_kX5_bitsOfShare (pcN [.double v]) (vp_Sl (fun zr : Int64 => zr = v.toInt64)) 0 0 (fun _ => False) := by
  refine Met.ofW (cc := cX5_bitsOfShare) (maxL := 8) (ret := (some .long)) (by decide) rfl ?_
  intro p e s m args below meth c s₁ B hml hv
  obtain ⟨rfl, -⟩ := hv
  have hx := B.exec
  have hb := B.bytes
  have hr := B.returns
  have hts := atoms_spec (ws := wsX5_bitsOfShare) B.pre
  have hown : s.vm.findClass RX5 = some m.cls := findClass_of_methodNamed B.named
  have hlocks := B.notSynchronized
  have hl := lv_entry ([.double v]) (n := 8) (kk_le rfl)
  rw [lg_entry_eq]
  generalize (lg_sl ([.double v]) ++ List.replicate (8 - (lg_sl ([.double v])).length) Slot.unset).toArray = ls at hl ⊢
  have hl : lv_has ls 8 [(0, .double v)] := hl
  generalize hQz : MQ below _ _ _ _ _ _ = Qz
  simp only [bsK, Bool.and_eq_true, decide_eq_true_eq] at hk
  obtain ⟨⟨⟨hk1, hk2⟩, hk3⟩, hk4⟩ := hk
  have lc272 : (Cond.constantLong RX5 272 (1023)).before _ s = true := hts _ (by decide +kernel)
  have lc276 : (Cond.constantDouble RX5 276 (4841369599423283200)).before _ s = true := hts _ (by decide +kernel)
  have lc274 : (Cond.constantDouble RX5 274 (4611686018427387904)).before _ s = true := hts _ (by decide +kernel)
  refine lv_dload_n hx hb dX5_bitsOfShare_0 rfl (lv_at hl 0 rfl) ?_
  refine lv_dconst0 hx hb dX5_bitsOfShare_1 ?_
  refine lv_dcmp hx hb dX5_bitsOfShare_2 ?_
  refine lv_if_gt (tgt := 8) hx hb dX5_bitsOfShare_3 (by decide) (fun c1 => ?_) (fun c1 => ?_)
  · refine lv_dload_n hx hb dX5_bitsOfShare_8 rfl (lv_at hl 0 rfl) ?_
    refine lv_dstore_n (lv' := [(2, .double v), (0, .double v)]) hx hb dX5_bitsOfShare_9 rfl hl (by decide) rfl (fun ls hl => ?_)
    refine lv_ldc2 (v := 1023) hx hb hown lc272 dX5_bitsOfShare_10 ?_
    refine lv_lstore (lv' := [(4, .long 1023), (2, .double v), (0, .double v)]) hx hb dX5_bitsOfShare_13 hl (by decide) rfl (fun ls hl => ?_)
    refine lv_iconst (v := nI 0) hx hb dX5_bitsOfShare_15 (by decide) ?_
    refine lv_istore (lv' := [(6, .int (nI 0)), (4, .long 1023), (2, .double v), (0, .double v)]) hx hb dX5_bitsOfShare_16 hl (by decide) rfl (fun ls hl => ?_)
    have lp18_1 : ∀ (k1 : Nat) (i : Nat) (fr : UInt64) (ex : Int64), 64 - i < k1 → (i ≤ 64) → (bsL (64 - i) fr ex = bsL 64 v 1023) → (bsN (64 - i) fr = true) → ∀ (ls : Array Slot), lv_has ls 8 [(6, .int (nI i)), (4, .long ex), (2, .double fr), (0, .double v)] → W p l e rm_kX5_bitsOfShare s m ([.double v] : List Value).toArray below meth c s.heap [] 0 0 Qz (F0 m 18 ls []) := by
      intro k1
      induction k1 with
      | zero => intro i fr ex hm1; exact absurd hm1 (Nat.not_lt_zero _)
      | succ k1 ih1 =>
        intro i fr ex hm1 hi hbl hbn ls hl
        refine lv_iload hx hb dX5_bitsOfShare_18 (lv_at hl 0 rfl) ?_
        refine lv_bipush (v := nI 64) hx hb dX5_bitsOfShare_20 (by decide) ?_
        refine ni_icmp_ge (tgt := 49) (by omega) (by omega) hx hb dX5_bitsOfShare_22 (by decide) (fun c3 => ?_) (fun c3 => ?_)
        · have hfe : bsL 64 v 1023 = (fr, ex) := by rw [← hbl, show 64 - i = 0 by omega]; rfl
          refine lv_dload_n hx hb dX5_bitsOfShare_49 rfl (lv_at hl 2 rfl) ?_
          refine lv_dconst1 hx hb dX5_bitsOfShare_50 ?_
          refine lv_dsub hx hb dX5_bitsOfShare_51 (by (rw [hfe] at hk2; exact nn64_f hk2)) ?_
          refine lv_ldc2d (v := 4841369599423283200) hx hb hown lc276 dX5_bitsOfShare_52 ?_
          refine lv_dmul hx hb dX5_bitsOfShare_55 (by (rw [hfe] at hk3; exact nn64_f hk3)) ?_
          refine lv_d2l hx hb dX5_bitsOfShare_56 ?_
          refine lv_lstore (lv' := [(6, .long (FP.d2l (FP.dmul (FP.dsub fr FP.dconst1) 4841369599423283200))), (4, .long ex), (2, .double fr), (0, .double v)]) hx hb dX5_bitsOfShare_57 hl (by decide) rfl (fun ls hl => ?_)
          refine lv_lload hx hb dX5_bitsOfShare_59 (lv_at hl 1 rfl) ?_
          refine lv_bipush (v := nI 52) hx hb dX5_bitsOfShare_61 (by decide) ?_
          refine lv_lshl hx hb dX5_bitsOfShare_63 rfl ?_
          refine lv_lload hx hb dX5_bitsOfShare_64 (lv_at hl 0 rfl) ?_
          refine lv_lor hx hb dX5_bitsOfShare_66 ?_
          subst hQz
          exact W.lret (v := (ex <<< ((nI 52).toInt64 &&& 63)) ||| (FP.d2l (FP.dmul (FP.dsub fr FP.dconst1) 4841369599423283200))) hx hb hr (fun t ht _ => ⟨_, rfl, by (rw [← hk4]; unfold bsF; rw [if_pos (by first | assumption | exact Decidable.byContradiction (by assumption)), hfe]; rfl), ht⟩) (fun _ h => nomatch h) dX5_bitsOfShare_67
        · refine lv_dload_n hx hb dX5_bitsOfShare_25 rfl (lv_at hl 2 rfl) ?_
          refine lv_dconst1 hx hb dX5_bitsOfShare_26 ?_
          refine lv_dcmp hx hb dX5_bitsOfShare_27 ?_
          refine lv_if_ge (tgt := 49) hx hb dX5_bitsOfShare_28 (by decide) (fun c4 => ?_) (fun c4 => ?_)
          · have hfe : bsL 64 v 1023 = (fr, ex) := by rw [← hbl]; exact bs_stop (Int32.not_lt.mpr c4)
            refine lv_dload_n hx hb dX5_bitsOfShare_49 rfl (lv_at hl 2 rfl) ?_
            refine lv_dconst1 hx hb dX5_bitsOfShare_50 ?_
            refine lv_dsub hx hb dX5_bitsOfShare_51 (by (rw [hfe] at hk2; exact nn64_f hk2)) ?_
            refine lv_ldc2d (v := 4841369599423283200) hx hb hown lc276 dX5_bitsOfShare_52 ?_
            refine lv_dmul hx hb dX5_bitsOfShare_55 (by (rw [hfe] at hk3; exact nn64_f hk3)) ?_
            refine lv_d2l hx hb dX5_bitsOfShare_56 ?_
            refine lv_lstore (lv' := [(6, .long (FP.d2l (FP.dmul (FP.dsub fr FP.dconst1) 4841369599423283200))), (4, .long ex), (2, .double fr), (0, .double v)]) hx hb dX5_bitsOfShare_57 hl (by decide) rfl (fun ls hl => ?_)
            refine lv_lload hx hb dX5_bitsOfShare_59 (lv_at hl 1 rfl) ?_
            refine lv_bipush (v := nI 52) hx hb dX5_bitsOfShare_61 (by decide) ?_
            refine lv_lshl hx hb dX5_bitsOfShare_63 rfl ?_
            refine lv_lload hx hb dX5_bitsOfShare_64 (lv_at hl 0 rfl) ?_
            refine lv_lor hx hb dX5_bitsOfShare_66 ?_
            subst hQz
            exact W.lret (v := (ex <<< ((nI 52).toInt64 &&& 63)) ||| (FP.d2l (FP.dmul (FP.dsub fr FP.dconst1) 4841369599423283200))) hx hb hr (fun t ht _ => ⟨_, rfl, by (rw [← hk4]; unfold bsF; rw [if_pos (by first | assumption | exact Decidable.byContradiction (by assumption)), hfe]; rfl), ht⟩) (fun _ h => nomatch h) dX5_bitsOfShare_67
          · have hlt1 : Op.cmpValue (FP.dcmp fr FP.dconst1) .g < 0 := Int32.not_le.mp c4
            obtain ⟨k8, hk8⟩ : ∃ k8, 64 - i = k8 + 1 := ⟨64 - i - 1, by omega⟩
            have hk9 : 64 - (i + 1) = k8 := by omega
            rw [hk8] at hbl hbn
            have hbs := bn_step hbn hlt1
            refine lv_dload_n hx hb dX5_bitsOfShare_31 rfl (lv_at hl 2 rfl) ?_
            refine lv_ldc2d (v := 4611686018427387904) hx hb hown lc274 dX5_bitsOfShare_32 ?_
            refine lv_dmul hx hb dX5_bitsOfShare_35 (by exact hbs.1) ?_
            refine lv_dstore_n (lv' := [(2, .double (FP.dmul fr 4611686018427387904)), (6, .int (nI i)), (4, .long ex), (0, .double v)]) hx hb dX5_bitsOfShare_36 rfl hl (by decide) rfl (fun ls hl => ?_)
            refine lv_lload hx hb dX5_bitsOfShare_37 (lv_at hl 2 rfl) ?_
            refine lv_lconst (v := 1) hx hb dX5_bitsOfShare_39 (by decide) ?_
            refine lv_lsub hx hb dX5_bitsOfShare_40 ?_
            refine lv_lstore (lv' := [(4, .long (ex - 1)), (2, .double (FP.dmul fr 4611686018427387904)), (6, .int (nI i)), (0, .double v)]) hx hb dX5_bitsOfShare_41 hl (by decide) rfl (fun ls hl => ?_)
            refine lv_iinc (v := nI (i + 1)) (lv' := [(6, .int (nI (i + 1))), (4, .long (ex - 1)), (2, .double (FP.dmul fr 4611686018427387904)), (0, .double v)]) hx hb dX5_bitsOfShare_43 hl (k := 2) rfl (ni_inc _ _ (by decide)) (by decide) rfl (fun ls hl => ?_)
            refine lv_goto (tgt := 18) hx hb dX5_bitsOfShare_46 (by decide) ?_
            exact ih1 (i + 1) (FP.dmul fr 4611686018427387904) (ex - 1) (by omega) (by omega) (by rw [hk9, ← hbl]; exact (bs_step hlt1).symm) (by rw [hk9]; exact hbs.2) ls (lv_sub hl [0, 1, 2, 3] rfl)
    exact lp18_1 ((64 - 0) + 1) 0 v 1023 (by omega) (by omega) (by rfl) (by exact hk1) ls (lv_sub hl [0, 1, 2, 3] rfl)
  · refine lv_lconst (v := 0) hx hb dX5_bitsOfShare_6 (by decide) ?_
    subst hQz
    exact W.lret (v := 0) hx hb hr (fun t ht _ => ⟨_, rfl, by (rw [← hk4]; unfold bsF; rw [if_neg (by first | assumption | exact Int32.not_lt.mpr (by assumption))]), ht⟩) (fun _ h => nomatch h) dX5_bitsOfShare_7
