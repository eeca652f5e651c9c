def joF (g : Nat → Int32) (nt p i : Nat) : Nat → Int32 := remL (upd g p (g p + g (p + 1))) (p + 1) i
theorem joF_0 (g : Nat → Int32) (nt p : Nat) : upd g p (g p + g (p + 1)) = joF g nt p (p + 1) := (remL_0 _ _).symm
theorem joF_step (g : Nat → Int32) (nt : Nat) {p i : Nat} (h : p + 1 ≤ i) : upd (joF g nt p i) i (joF g nt p i (i + 1)) = joF g nt p (i + 1) := remL_step _ h
/-- the times behind a place one place later, from the last on -/
def shR (g : Nat → Int32) (nt i : Nat) : Nat → Int32 := fun k => if i < k ∧ k ≤ nt then g (k - 1) else g k
theorem shR_0 (g : Nat → Int32) (nt : Nat) : g = shR g nt nt := by funext k; simp only [shR]; rw [if_neg (by omega)]
theorem shR_step (g : Nat → Int32) {nt i : Nat} (h : i ≤ nt) (h2 : 1 ≤ i) : upd (shR g nt i) i (shR g nt i (i - 1)) = shR g nt (i - 1) := by
  funext k
  simp only [shR, upd]
  rw [if_neg (show ¬ (i < i - 1 ∧ i - 1 ≤ nt) by omega)]
  by_cases q : k = i
  · rw [if_pos q, if_pos (by omega), q]
  · rw [if_neg q]
    by_cases q2 : i < k ∧ k ≤ nt
    · rw [if_pos q2, if_pos (by omega)]
    · rw [if_neg q2, if_neg (by omega)]
def scF (g : Nat → Int32) (nt p : Nat) (v : Int32) : Nat → Int32 := upd (upd (shR g nt (p + 1)) (p + 1) (g p - v)) p v
theorem shR_lo (g : Nat → Int32) {nt i k : Nat} (h : k ≤ i) : shR g nt i k = g k := by simp only [shR]; rw [if_neg (by omega)]
def okSet (w : Nat) (v : Int32) : Bool := if w = 0 then inF v (nI 5) (nI 30) else if w = 1 then inF v (nI 50) (nI 95) else if w = 2 then inF v (nI 0) (nI 100) else inF v (nI 0) (nI 40)
theorem sF_copy (z : Nat) (r f j : Int32) (nt nl : Nat) (gl gt fs : Nat → Int32) (g : Nat → Int32) (h : ∀ k, k < 226 → g k = sF z r f j nt nl gl gt k) {i : Nat} (hi : 226 ≤ i) : ∀ k, k < 226 → cpF g fs i k = sF z r f j nt nl gl gt k := fun k hk => by
  simp only [cpF]; rw [if_pos (by omega)]; exact h k hk
/-- the letters of the buffer in the state's row -/
def wrL (ft gl : Nat → Int32) (tm i : Nat) : Nat → Int32 := cpF (fun k => if k < tm then ft k else nI 0) gl i
theorem wrL_0 (ft gl : Nat → Int32) (tm : Nat) : gl = wrL ft gl tm 0 := (cpF_0 _ _).symm
theorem wrL_1 (ft gl : Nat → Int32) {tm i : Nat} (h : i < tm) : upd (wrL ft gl tm i) i (ft i) = wrL ft gl tm (i + 1) := by
  have := cpF_step (fun k => if k < tm then ft k else nI 0) gl i
  rw [if_pos h] at this; exact this
theorem wrL_2 (ft gl : Nat → Int32) {tm i : Nat} (h : ¬ i < tm) : upd (wrL ft gl tm i) i (nI 0) = wrL ft gl tm (i + 1) := by
  have := cpF_step (fun k => if k < tm then ft k else nI 0) gl i
  rw [if_neg h] at this; exact this
theorem wrL_lst (ft fb gl : Nat → Int32) {tm i : Nat} (h : tm ≤ i) : lst (wrL (apF ft 0 (lcL fb tm)) gl tm i) tm = lcL fb tm := by
  have hl : (lcL fb tm).length = tm := by unfold lcL; exact lst_len _ _
  unfold lcL
  refine lst_ext fun k hk => ?_
  simp only [wrL, cpF]
  rw [if_pos (by omega), if_pos hk]
  have := apF_in ft (lcL fb tm) (k := k) (by rw [hl]; exact hk)
  unfold lcL at this
  rw [this, getD_lst _ hk]
theorem tn_end (g : Nat → Int32) (n : Nat) {i : Nat} (h : n / 2 ≤ i) : revL g n i = revF g n := revL_end g h
theorem okSet_hi {w : Nat} {v : Int32} (h : 2 < w) : okSet w v = inF v (nI 0) (nI 40) := by unfold okSet; rw [if_neg (by omega), if_neg (by omega), if_neg (by omega)]
theorem tn_step (g : Nat → Int32) (n : Nat) {i : Nat} (h : i < n / 2) : upd (upd (revL g n i) i (revL g n i (n - 1 - i))) (n - 1 - i) (revL g n i i) = revL g n (i + 1) := revL_step g h
abbrev rm_kX6_swipe_ok : Room := { frames := 4, cells := 0, slots := 0, locals := 88 }
set_option maxHeartbeats 4000000 in
set_option maxRecDepth 100000 in
theorem kX6_swipe_ok (l : Launch) (D : va_G) (ca : Nat → ClassId) (sz : Nat) (om a1 a2 a3 a4 a5 a6 a7 a8 a9 : Nat) (thr ln bm br ck sa lm rs at_ tm : Int32) (hs : Int64) (sv : Nat) (z : Nat) (r f j : Int32) (nt nl : Nat) (gl gt : Nat → Int32) (fv : Nat → Int32) (hnt : nt ≤ 200) (hnl : nl ≤ 20) (hz : z ≤ 30) (hsv : sv ≤ 6) (h0 : 0 < nl) (hne : (2 * z + 5 * (nl + 3)) + onesN (strp z (lst gl nl)) ≤ 200) : Met l yX6_swipe wsX6_swipe rm_kX6_swipe_ok (pcM D ca [.ref om] [(om, .inr (6, [.int thr, .ref a1, .ref a2, .ref a3, .int (nI sv), .ref a4, .ref a5, .ref a6, .int ln, .ref a7, .int bm, .int br, .int ck, .int sa, .ref a8, .int lm, .int rs, .int at_, .ref a9, .int tm, .long hs])), (a1, .inl (ca 0, 226, .inl (sF z r f j nt nl gl gt))), (a3, .inl (ca 0, 1356, .inl fv))] sz) (va_Qi (fun (zr : Int32) (u : Unit) => zr = nI (passL j 0 (strp z (lst gl nl))).length ∧ True) (qB D (va_A [(om, .inr (6, [.int thr, .ref a1, .ref a2, .ref a3, .int (nI sv), .ref a4, .ref a5, .ref a6, .int ln, .ref a7, .int bm, .int br, .int ck, .int sa, .ref a8, .int lm, .int rs, .int at_, .ref a9, .int tm, .long hs])), (a1, .inl (ca 0, 226, .inl (sF z r f j nt nl gl gt))), (a3, .inl (ca 0, 1356, .inl fv))] sz) (fun u : Unit => [(om, .inr (6, [.int (nI 0), .ref a1, .ref a2, .ref a3, .int (nI (svN sv)), .ref a4, .ref a5, .ref a6, .int ln, .ref a7, .int bm, .int br, .int ck, .int sa, .ref a8, .int lm, .int rs, .int at_, .ref a9, .int tm, .long hs])), (a1, .inl (ca 0, 226, .inl (sF z r f j (passL j 0 (strp z (lst gl nl))).length nl gl (apF (gzF gt 200) 0 (passL j 0 (strp z (lst gl nl))))))), (a3, .inl (ca 0, 1356, .inl (savF fv sv (sF z r f j nt nl gl gt))))])) (va_A [(om, .inr (6, [.int thr, .ref a1, .ref a2, .ref a3, .int (nI sv), .ref a4, .ref a5, .ref a6, .int ln, .ref a7, .int bm, .int br, .int ck, .int sa, .ref a8, .int lm, .int rs, .int at_, .ref a9, .int tm, .long hs])), (a1, .inl (ca 0, 226, .inl (sF z r f j nt nl gl gt))), (a3, .inl (ca 0, 1356, .inl fv))] sz)) 0 0 (va_A [(om, .inr (6, [.int thr, .ref a1, .ref a2, .ref a3, .int (nI sv), .ref a4, .ref a5, .ref a6, .int ln, .ref a7, .int bm, .int br, .int ck, .int sa, .ref a8, .int lm, .int rs, .int at_, .ref a9, .int tm, .long hs])), (a1, .inl (ca 0, 226, .inl (sF z r f j nt nl gl gt))), (a3, .inl (ca 0, 1356, .inl fv))] sz) := by
  refine Met.ofW (cc := cX6_swipe) (maxL := 1) (ret := (some .int)) (by decide) rfl ?_
  intro p e s m args below meth c s₁ B hml hv
  obtain ⟨rfl, hsz, hP, hK, hD0⟩ := hv
  have hx := B.exec
  have hb := B.bytes
  have hr := B.returns
  have hts := atoms_spec (ws := wsX6_swipe) B.pre
  have hown : s.vm.findClass RX6 = some m.cls := findClass_of_methodNamed B.named
  have hlocks := B.notSynchronized
  subst hsz
  have hD := hD0.self (sz := s.heap.size)
  generalize hAe : va_A [(om, .inr (6, [.int thr, .ref a1, .ref a2, .ref a3, .int (nI sv), .ref a4, .ref a5, .ref a6, .int ln, .ref a7, .int bm, .int br, .int ck, .int sa, .ref a8, .int lm, .int rs, .int at_, .ref a9, .int tm, .long hs])), (a1, .inl (ca 0, 226, .inl (sF z r f j nt nl gl gt))), (a3, .inl (ca 0, 1356, .inl fv))] s.heap.size = A at hD ⊢
  have hA : ∀ q : Nat, s.heap.size ≤ q → A q := fun q h => by rw [← hAe]; exact Or.inr h
  have hS : va_S A s.heap s.heap [] := va_S.rf
  have hP : va_P D vwCl [(om, .inr (6, [.int thr, .ref a1, .ref a2, .ref a3, .int (nI sv), .ref a4, .ref a5, .ref a6, .int ln, .ref a7, .int bm, .int br, .int ck, .int sa, .ref a8, .int lm, .int rs, .int at_, .ref a9, .int tm, .long hs])), (a1, .inl (ca 0, 226, .inl (sF z r f j nt nl gl gt))), (a3, .inl (ca 0, 1356, .inl fv))] s.heap := hP
  have hKv := hK.1
  have hl := lv_entry ([.ref om]) (n := 1) (kk_le rfl)
  rw [lg_entry_eq]
  generalize (lg_sl ([.ref om]) ++ List.replicate (1 - (lg_sl ([.ref om])).length) Slot.unset).toArray = ls at hl ⊢
  have hl : lv_has ls 1 [(0, .ref om)] := hl
  have hon9 := onesN_le (strp z (lst gl nl)); rw [strp_len, lst_len] at hon9
  have hiX6 : ∀ w ∈ u_ws RX6 TX6 21, w ∈ wsX6_swipe := fun w h => by first | exact List.mem_cons_of_mem _ (List.mem_append_right _ h) | exact List.mem_cons_of_mem _ (List.mem_append_left _ (List.mem_append_right _ h)) | exact List.mem_cons_of_mem _ (List.mem_append_left _ (List.mem_append_left _ (List.mem_append_right _ h))) | exact List.mem_cons_of_mem _ (List.mem_append_left _ (List.mem_append_left _ (List.mem_append_left _ (List.mem_append_right _ h)))) | (revert w h; decide +kernel)
  have lk38 : (Cond.fieldLink RX6 38 "StripeSwipesModel" "thrown" "I").before _ s = true := hts _ (by decide +kernel)
  have lk7 : (Cond.fieldLink RX6 7 "StripeSwipesModel" "s" "[I").before _ s = true := hts _ (by decide +kernel)
  refine lv_aload_n hx hb dX6_swipe_0 rfl (lv_at hl 0 rfl) ?_
  refine lv_iconst (v := nI 0) hx hb dX6_swipe_1 (by decide) ?_
  refine va_put (D := D) (ci := 6) (v := .int (nI 0)) (ty := .int) (C := RX6) (T := TX6) (N := 21) hx hb hts hiX6 tyX6 tyX6_ok nmX6 hown hKv hP hD hS 0 rfl rfl 0 (by decide) lk38 (fun _ h9 => h9) rfl (by decide +kernel) rfl rfl (kk_le rfl) dX6_swipe_2 (fun H locs hP hD hS => ?_)
  have hP : va_P D vwCl [(om, .inr (6, [.int (nI 0), .ref a1, .ref a2, .ref a3, .int (nI sv), .ref a4, .ref a5, .ref a6, .int ln, .ref a7, .int bm, .int br, .int ck, .int sa, .ref a8, .int lm, .int rs, .int at_, .ref a9, .int tm, .long hs])), (a1, .inl (ca 0, 226, .inl (sF z r f j nt nl gl gt))), (a3, .inl (ca 0, 1356, .inl fv))] H := hP
  have hD : va_D A [(om, .inr (6, [.int (nI 0), .ref a1, .ref a2, .ref a3, .int (nI sv), .ref a4, .ref a5, .ref a6, .int ln, .ref a7, .int bm, .int br, .int ck, .int sa, .ref a8, .int lm, .int rs, .int at_, .ref a9, .int tm, .long hs])), (a1, .inl (ca 0, 226, .inl (sF z r f j nt nl gl gt))), (a3, .inl (ca 0, 1356, .inl fv))] := hD
  refine lv_aload_n hx hb dX6_swipe_5 rfl (lv_at hl 0 rfl) ?_
  refine va_get (D := D) (ci := 6) (C := RX6) (T := TX6) (N := 21) hx hb hts hiX6 hown hKv hP 0 rfl rfl 1 (by decide) lk7 (fun _ h9 => h9) rfl dX6_swipe_6 ?_
  refine lv_iconst (v := nI 5) hx hb dX6_swipe_9 (by decide) ?_
  refine my_iald hx hb hK hP 1 rfl (by omega) (by omega) dX6_swipe_10 ?_
  rw [show sF z r f j nt nl gl gt 5 = nI nl from rfl]
  refine ni_if_eq (tgt := 24) (by omega) hx hb dX6_swipe_11 (by decide) (fun c1 => ?_) (fun c1 => ?_)
  · exact absurd c1 (by omega)
  · refine lv_aload_n hx hb dX6_swipe_14 rfl (lv_at hl 0 rfl) ?_
    refine vp_callSi (va_Run.run (va_runV (As := []) (rest := []) ⟨hx, hb, hml, hown, hts⟩ (kX6_swipeMany l D ca om a1 a2 a3 a4 a5 a6 a7 a8 a9 (nI 0) (nI sv) ln bm br ck sa lm rs at_ tm hs z r f j nt nl gl gt (by first | rfl | assumption | omega | trivial | (exfalso; omega)) (by first | rfl | assumption | omega | trivial | (exfalso; omega)) (by first | rfl | assumption | omega | trivial | (exfalso; omega))) (cwV 0 hts gX6_swipe_X6_swipeMany rfl rfl rfl (by decide +kernel) ⟨kk_le rfl, kk_le rfl⟩) (pvR hK (hP.sub (ws' := [(om, .inr (6, [.int (nI 0), .ref a1, .ref a2, .ref a3, .int (nI sv), .ref a4, .ref a5, .ref a6, .int ln, .ref a7, .int bm, .int br, .int ck, .int sa, .ref a8, .int lm, .int rs, .int at_, .ref a9, .int tm, .long hs])), (a1, .inl (ca 0, 226, .inl (sF z r f j nt nl gl gt)))]) [0, 1] rfl) (va_recv hKv hP (ci := 6) (q0 := 0) rfl rfl)) rfl rfl hl.1 rfl (lv_room (kk_le rfl)) dX6_swipe_15 ⟨kk_le rfl, kk_le rfl⟩)) (fun r2 hr2 => ?_)
    subst hr2
    refine lv_sipush (v := nI 200) hx hb dX6_swipe_18 (by decide) ?_
    refine ni_icmp_le (tgt := 30) (by omega) (by omega) hx hb dX6_swipe_21 (by decide) (fun c3 => ?_) (fun c3 => ?_)
    · refine lv_aload_n hx hb dX6_swipe_30 rfl (lv_at hl 0 rfl) ?_
      have hPc := hP
      have hDc := hD
      have hFc := va_free (wc := [(om, .inr (6, [.int (nI 0), .ref a1, .ref a2, .ref a3, .int (nI sv), .ref a4, .ref a5, .ref a6, .int ln, .ref a7, .int bm, .int br, .int ck, .int sa, .ref a8, .int lm, .int rs, .int at_, .ref a9, .int tm, .long hs])), (a1, .inl (ca 0, 226, .inl (sF z r f j nt nl gl gt))), (a3, .inl (ca 0, 1356, .inl fv))]) hD hS hA [0, 1, 2] rfl
      refine va_callv (va_runV (As := []) (rest := []) ⟨hx, hb, hml, hown, hts⟩ (kX6_saves l D ca H.size om a1 a2 a3 a4 a5 a6 a7 a8 a9 (nI 0) ln bm br ck sa lm rs at_ tm hs z r f j nt nl gl gt sv fv (by first | rfl | assumption | omega | trivial | (exfalso; omega))) (cwV 0 hts gX6_swipe_X6_saves rfl rfl rfl (by decide +kernel) ⟨kk_le rfl, kk_le rfl⟩) (pvM hK hPc (my_D_true hDc) (va_recv hKv hP (ci := 6) (q0 := 0) rfl rfl)) rfl rfl hl.1 rfl (lv_room (kk_le rfl)) dX6_swipe_31 ⟨kk_le rfl, kk_le rfl⟩) hS (fun q _ h => hFc q h) hFc (fun u t H1 locs ht hvm hwv hBv hz1 hk1 hS => ?_)
      obtain ⟨hP1, hD1⟩ := hBv
      rw [ht] at hP1
      have hP1 : va_P D vwCl [(om, .inr (6, [.int (nI 0), .ref a1, .ref a2, .ref a3, .int (nI (svN sv)), .ref a4, .ref a5, .ref a6, .int ln, .ref a7, .int bm, .int br, .int ck, .int sa, .ref a8, .int lm, .int rs, .int at_, .ref a9, .int tm, .long hs])), (a1, .inl (ca 0, 226, .inl (sF z r f j nt nl gl gt))), (a3, .inl (ca 0, 1356, .inl (savF fv sv (sF z r f j nt nl gl gt))))] H1 := hP1
      have hD1 : va_D _ [(om, .inr (6, [.int (nI 0), .ref a1, .ref a2, .ref a3, .int (nI (svN sv)), .ref a4, .ref a5, .ref a6, .int ln, .ref a7, .int bm, .int br, .int ck, .int sa, .ref a8, .int lm, .int rs, .int at_, .ref a9, .int tm, .long hs])), (a1, .inl (ca 0, 226, .inl (sF z r f j nt nl gl gt))), (a3, .inl (ca 0, 1356, .inl (savF fv sv (sF z r f j nt nl gl gt))))] := hD1
      have hw4 := hwv
      have hP := hP1
      have hD := hD1.weaken (fun _ _ _ h => hFc _ h)
      generalize H1 = H at hP hS ⊢
      have hP : va_P D vwCl [(om, .inr (6, [.int (nI 0), .ref a1, .ref a2, .ref a3, .int (nI (svN sv)), .ref a4, .ref a5, .ref a6, .int ln, .ref a7, .int bm, .int br, .int ck, .int sa, .ref a8, .int lm, .int rs, .int at_, .ref a9, .int tm, .long hs])), (a1, .inl (ca 0, 226, .inl (sF z r f j nt nl gl gt))), (a3, .inl (ca 0, 1356, .inl (savF fv sv (sF z r f j nt nl gl gt))))] H := hP
      have hD : va_D A [(om, .inr (6, [.int (nI 0), .ref a1, .ref a2, .ref a3, .int (nI (svN sv)), .ref a4, .ref a5, .ref a6, .int ln, .ref a7, .int bm, .int br, .int ck, .int sa, .ref a8, .int lm, .int rs, .int at_, .ref a9, .int tm, .long hs])), (a1, .inl (ca 0, 226, .inl (sF z r f j nt nl gl gt))), (a3, .inl (ca 0, 1356, .inl (savF fv sv (sF z r f j nt nl gl gt))))] := hD
      refine lv_aload_n hx hb dX6_swipe_34 rfl (lv_at hl 0 rfl) ?_
      have hPc := hP.sub (ws' := [(om, .inr (6, [.int (nI 0), .ref a1, .ref a2, .ref a3, .int (nI (svN sv)), .ref a4, .ref a5, .ref a6, .int ln, .ref a7, .int bm, .int br, .int ck, .int sa, .ref a8, .int lm, .int rs, .int at_, .ref a9, .int tm, .long hs])), (a1, .inl (ca 0, 226, .inl (sF z r f j nt nl gl gt)))]) [0, 1] rfl
      have hDc := hD.sub (ws' := [(om, .inr (6, [.int (nI 0), .ref a1, .ref a2, .ref a3, .int (nI (svN sv)), .ref a4, .ref a5, .ref a6, .int ln, .ref a7, .int bm, .int br, .int ck, .int sa, .ref a8, .int lm, .int rs, .int at_, .ref a9, .int tm, .long hs])), (a1, .inl (ca 0, 226, .inl (sF z r f j nt nl gl gt)))]) [0, 1] (by decide) rfl
      have hFc := va_free (wc := [(om, .inr (6, [.int (nI 0), .ref a1, .ref a2, .ref a3, .int (nI (svN sv)), .ref a4, .ref a5, .ref a6, .int ln, .ref a7, .int bm, .int br, .int ck, .int sa, .ref a8, .int lm, .int rs, .int at_, .ref a9, .int tm, .long hs])), (a1, .inl (ca 0, 226, .inl (sF z r f j nt nl gl gt)))]) hD hS hA [0, 1] rfl
      refine va_callv (va_runV (As := []) (rest := []) ⟨hx, hb, hml, hown, hts⟩ (kX6_swipes l D ca H.size om a1 a2 a3 a4 a5 a6 a7 a8 a9 (nI 0) (nI (svN sv)) ln bm br ck sa lm rs at_ tm hs z r f j nt nl gl gt (by omega) (by omega) (by omega) (by exact hne)) (cwV 0 hts gX6_swipe_X6_swipes rfl rfl rfl (by decide +kernel) ⟨kk_le rfl, kk_le rfl⟩) (pvM hK hPc (my_D_true hDc) (va_recv hKv hP (ci := 6) (q0 := 0) rfl rfl)) rfl rfl hl.1 rfl (lv_room (kk_le rfl)) dX6_swipe_35 ⟨kk_le rfl, kk_le rfl⟩) hS (fun q _ h => hFc q h) hFc (fun u t H1 locs ht hvm hwv hBv hz1 hk1 hS => ?_)
      obtain ⟨hP1, hD1⟩ := hBv
      rw [ht] at hP1
      have hP1 : va_P D vwCl [(om, .inr (6, [.int (nI 0), .ref a1, .ref a2, .ref a3, .int (nI (svN sv)), .ref a4, .ref a5, .ref a6, .int ln, .ref a7, .int bm, .int br, .int ck, .int sa, .ref a8, .int lm, .int rs, .int at_, .ref a9, .int tm, .long hs])), (a1, .inl (ca 0, 226, .inl (sF z r f j (passL j 0 (strp z (lst gl nl))).length nl gl (apF (gzF gt 200) 0 (passL j 0 (strp z (lst gl nl)))))))] H1 := hP1
      have hD1 : va_D _ [(om, .inr (6, [.int (nI 0), .ref a1, .ref a2, .ref a3, .int (nI (svN sv)), .ref a4, .ref a5, .ref a6, .int ln, .ref a7, .int bm, .int br, .int ck, .int sa, .ref a8, .int lm, .int rs, .int at_, .ref a9, .int tm, .long hs])), (a1, .inl (ca 0, 226, .inl (sF z r f j (passL j 0 (strp z (lst gl nl))).length nl gl (apF (gzF gt 200) 0 (passL j 0 (strp z (lst gl nl)))))))] := hD1
      have hw6 := hwv
      obtain ⟨hP, hD⟩ := va_join (wr := [(a3, .inl (ca 0, 1356, .inl (savF fv sv (sF z r f j nt nl gl gt))))]) (w1 := [(om, .inr (6, [.int (nI 0), .ref a1, .ref a2, .ref a3, .int (nI (svN sv)), .ref a4, .ref a5, .ref a6, .int ln, .ref a7, .int bm, .int br, .int ck, .int sa, .ref a8, .int lm, .int rs, .int at_, .ref a9, .int tm, .long hs])), (a1, .inl (ca 0, 226, .inl (sF z r f j (passL j 0 (strp z (lst gl nl))).length nl gl (apF (gzF gt 200) 0 (passL j 0 (strp z (lst gl nl)))))))]) hP hD [0, 1] [2] rfl rfl (by decide) (by decide) hk1 hFc hP1 hD1
      generalize H1 = H at hP hS ⊢
      have hP := hP.sub (ws' := [(om, .inr (6, [.int (nI 0), .ref a1, .ref a2, .ref a3, .int (nI (svN sv)), .ref a4, .ref a5, .ref a6, .int ln, .ref a7, .int bm, .int br, .int ck, .int sa, .ref a8, .int lm, .int rs, .int at_, .ref a9, .int tm, .long hs])), (a1, .inl (ca 0, 226, .inl (sF z r f j (passL j 0 (strp z (lst gl nl))).length nl gl (apF (gzF gt 200) 0 (passL j 0 (strp z (lst gl nl))))))), (a3, .inl (ca 0, 1356, .inl (savF fv sv (sF z r f j nt nl gl gt))))]) [1, 2, 0] rfl
      have hD := hD.sub (ws' := [(om, .inr (6, [.int (nI 0), .ref a1, .ref a2, .ref a3, .int (nI (svN sv)), .ref a4, .ref a5, .ref a6, .int ln, .ref a7, .int bm, .int br, .int ck, .int sa, .ref a8, .int lm, .int rs, .int at_, .ref a9, .int tm, .long hs])), (a1, .inl (ca 0, 226, .inl (sF z r f j (passL j 0 (strp z (lst gl nl))).length nl gl (apF (gzF gt 200) 0 (passL j 0 (strp z (lst gl nl))))))), (a3, .inl (ca 0, 1356, .inl (savF fv sv (sF z r f j nt nl gl gt))))]) [1, 2, 0] (by decide) rfl
      refine lv_aload_n hx hb dX6_swipe_38 rfl (lv_at hl 0 rfl) ?_
      refine va_get (D := D) (ci := 6) (C := RX6) (T := TX6) (N := 21) hx hb hts hiX6 hown hKv hP 0 rfl rfl 1 (by decide) lk7 (fun _ h9 => h9) rfl dX6_swipe_39 ?_
      refine lv_iconst (v := nI 4) hx hb dX6_swipe_42 (by decide) ?_
      refine my_iald hx hb hK hP 1 rfl (by omega) (by omega) dX6_swipe_43 ?_
      rw [show sF z r f j (passL j 0 (strp z (lst gl nl))).length nl gl (apF (gzF gt 200) 0 (passL j 0 (strp z (lst gl nl)))) 4 = nI ((passL j 0 (strp z (lst gl nl))).length) from rfl]
      exact W.iret (v := nI ((passL j 0 (strp z (lst gl nl))).length)) hx hb hr (fun t ht hW => ⟨⟨_, (), rfl, ⟨by rfl, by trivial⟩, by rw [ht]; exact hP, hD⟩, hS.F ht⟩) hS.2.2 dX6_swipe_44
    · exact absurd c3 (by omega)
abbrev rm_kX6_swipe_bad : Room := { frames := 4, cells := 0, slots := 0, locals := 87 }
set_option maxHeartbeats 4000000 in
set_option maxRecDepth 100000 in
theorem kX6_swipe_bad (l : Launch) (D : va_G) (ca : Nat → ClassId) (sz : Nat) (om a1 a2 a3 a4 a5 a6 a7 a8 a9 : Nat) (thr sv ln bm br ck sa lm rs at_ tm : Int32) (hs : Int64) (z : Nat) (r f j : Int32) (nt nl : Nat) (gl gt : Nat → Int32) (hnt : nt ≤ 200) (hnl : nl ≤ 20) (hz : z ≤ 30) (hbad : nl = 0 ∨ 200 < (2 * z + 5 * (nl + 3)) + onesN (strp z (lst gl nl))) : Met l yX6_swipe wsX6_swipe rm_kX6_swipe_bad (pcM D ca [.ref om] [(om, .inr (6, [.int thr, .ref a1, .ref a2, .ref a3, .int sv, .ref a4, .ref a5, .ref a6, .int ln, .ref a7, .int bm, .int br, .int ck, .int sa, .ref a8, .int lm, .int rs, .int at_, .ref a9, .int tm, .long hs])), (a1, .inl (ca 0, 226, .inl (sF z r f j nt nl gl gt)))] sz) (va_Qi (fun (zr : Int32) (u : Unit) => zr = nI 0 ∧ True) (qB D (va_A [(om, .inr (6, [.int thr, .ref a1, .ref a2, .ref a3, .int sv, .ref a4, .ref a5, .ref a6, .int ln, .ref a7, .int bm, .int br, .int ck, .int sa, .ref a8, .int lm, .int rs, .int at_, .ref a9, .int tm, .long hs])), (a1, .inl (ca 0, 226, .inl (sF z r f j nt nl gl gt)))] sz) (fun u : Unit => [(om, .inr (6, [.int (nI 1), .ref a1, .ref a2, .ref a3, .int sv, .ref a4, .ref a5, .ref a6, .int ln, .ref a7, .int bm, .int br, .int ck, .int sa, .ref a8, .int lm, .int rs, .int at_, .ref a9, .int tm, .long hs])), (a1, .inl (ca 0, 226, .inl (sF z r f j nt nl gl gt)))])) (va_A [(om, .inr (6, [.int thr, .ref a1, .ref a2, .ref a3, .int sv, .ref a4, .ref a5, .ref a6, .int ln, .ref a7, .int bm, .int br, .int ck, .int sa, .ref a8, .int lm, .int rs, .int at_, .ref a9, .int tm, .long hs])), (a1, .inl (ca 0, 226, .inl (sF z r f j nt nl gl gt)))] sz)) 0 0 (va_A [(om, .inr (6, [.int thr, .ref a1, .ref a2, .ref a3, .int sv, .ref a4, .ref a5, .ref a6, .int ln, .ref a7, .int bm, .int br, .int ck, .int sa, .ref a8, .int lm, .int rs, .int at_, .ref a9, .int tm, .long hs])), (a1, .inl (ca 0, 226, .inl (sF z r f j nt nl gl gt)))] sz) := by
  refine Met.ofW (cc := cX6_swipe) (maxL := 1) (ret := (some .int)) (by decide) rfl ?_
  intro p e s m args below meth c s₁ B hml hv
  obtain ⟨rfl, hsz, hP, hK, hD0⟩ := hv
  have hx := B.exec
  have hb := B.bytes
  have hr := B.returns
  have hts := atoms_spec (ws := wsX6_swipe) B.pre
  have hown : s.vm.findClass RX6 = some m.cls := findClass_of_methodNamed B.named
  have hlocks := B.notSynchronized
  subst hsz
  have hD := hD0.self (sz := s.heap.size)
  generalize hAe : va_A [(om, .inr (6, [.int thr, .ref a1, .ref a2, .ref a3, .int sv, .ref a4, .ref a5, .ref a6, .int ln, .ref a7, .int bm, .int br, .int ck, .int sa, .ref a8, .int lm, .int rs, .int at_, .ref a9, .int tm, .long hs])), (a1, .inl (ca 0, 226, .inl (sF z r f j nt nl gl gt)))] s.heap.size = A at hD ⊢
  have hA : ∀ q : Nat, s.heap.size ≤ q → A q := fun q h => by rw [← hAe]; exact Or.inr h
  have hS : va_S A s.heap s.heap [] := va_S.rf
  have hP : va_P D vwCl [(om, .inr (6, [.int thr, .ref a1, .ref a2, .ref a3, .int sv, .ref a4, .ref a5, .ref a6, .int ln, .ref a7, .int bm, .int br, .int ck, .int sa, .ref a8, .int lm, .int rs, .int at_, .ref a9, .int tm, .long hs])), (a1, .inl (ca 0, 226, .inl (sF z r f j nt nl gl gt)))] s.heap := hP
  have hKv := hK.1
  have hl := lv_entry ([.ref om]) (n := 1) (kk_le rfl)
  rw [lg_entry_eq]
  generalize (lg_sl ([.ref om]) ++ List.replicate (1 - (lg_sl ([.ref om])).length) Slot.unset).toArray = ls at hl ⊢
  have hl : lv_has ls 1 [(0, .ref om)] := hl
  have hon9 := onesN_le (strp z (lst gl nl)); rw [strp_len, lst_len] at hon9
  have hiX6 : ∀ w ∈ u_ws RX6 TX6 21, w ∈ wsX6_swipe := fun w h => by first | exact List.mem_cons_of_mem _ (List.mem_append_right _ h) | exact List.mem_cons_of_mem _ (List.mem_append_left _ (List.mem_append_right _ h)) | exact List.mem_cons_of_mem _ (List.mem_append_left _ (List.mem_append_left _ (List.mem_append_right _ h))) | exact List.mem_cons_of_mem _ (List.mem_append_left _ (List.mem_append_left _ (List.mem_append_left _ (List.mem_append_right _ h)))) | (revert w h; decide +kernel)
  have lk38 : (Cond.fieldLink RX6 38 "StripeSwipesModel" "thrown" "I").before _ s = true := hts _ (by decide +kernel)
  have lk7 : (Cond.fieldLink RX6 7 "StripeSwipesModel" "s" "[I").before _ s = true := hts _ (by decide +kernel)
  refine lv_aload_n hx hb dX6_swipe_0 rfl (lv_at hl 0 rfl) ?_
  refine lv_iconst (v := nI 0) hx hb dX6_swipe_1 (by decide) ?_
  refine va_put (D := D) (ci := 6) (v := .int (nI 0)) (ty := .int) (C := RX6) (T := TX6) (N := 21) hx hb hts hiX6 tyX6 tyX6_ok nmX6 hown hKv hP hD hS 0 rfl rfl 0 (by decide) lk38 (fun _ h9 => h9) rfl (by decide +kernel) rfl rfl (kk_le rfl) dX6_swipe_2 (fun H locs hP hD hS => ?_)
  have hP : va_P D vwCl [(om, .inr (6, [.int (nI 0), .ref a1, .ref a2, .ref a3, .int sv, .ref a4, .ref a5, .ref a6, .int ln, .ref a7, .int bm, .int br, .int ck, .int sa, .ref a8, .int lm, .int rs, .int at_, .ref a9, .int tm, .long hs])), (a1, .inl (ca 0, 226, .inl (sF z r f j nt nl gl gt)))] H := hP
  have hD : va_D A [(om, .inr (6, [.int (nI 0), .ref a1, .ref a2, .ref a3, .int sv, .ref a4, .ref a5, .ref a6, .int ln, .ref a7, .int bm, .int br, .int ck, .int sa, .ref a8, .int lm, .int rs, .int at_, .ref a9, .int tm, .long hs])), (a1, .inl (ca 0, 226, .inl (sF z r f j nt nl gl gt)))] := hD
  refine lv_aload_n hx hb dX6_swipe_5 rfl (lv_at hl 0 rfl) ?_
  refine va_get (D := D) (ci := 6) (C := RX6) (T := TX6) (N := 21) hx hb hts hiX6 hown hKv hP 0 rfl rfl 1 (by decide) lk7 (fun _ h9 => h9) rfl dX6_swipe_6 ?_
  refine lv_iconst (v := nI 5) hx hb dX6_swipe_9 (by decide) ?_
  refine my_iald hx hb hK hP 1 rfl (by omega) (by omega) dX6_swipe_10 ?_
  rw [show sF z r f j nt nl gl gt 5 = nI nl from rfl]
  refine ni_if_eq (tgt := 24) (by omega) hx hb dX6_swipe_11 (by decide) (fun c1 => ?_) (fun c1 => ?_)
  · refine lv_aload_n hx hb dX6_swipe_24 rfl (lv_at hl 0 rfl) ?_
    refine lv_iconst (v := nI 1) hx hb dX6_swipe_25 (by decide) ?_
    have hPc := hP.sub (ws' := [(om, .inr (6, [.int (nI 0), .ref a1, .ref a2, .ref a3, .int sv, .ref a4, .ref a5, .ref a6, .int ln, .ref a7, .int bm, .int br, .int ck, .int sa, .ref a8, .int lm, .int rs, .int at_, .ref a9, .int tm, .long hs]))]) [0] rfl
    have hDc := hD.sub (ws' := [(om, .inr (6, [.int (nI 0), .ref a1, .ref a2, .ref a3, .int sv, .ref a4, .ref a5, .ref a6, .int ln, .ref a7, .int bm, .int br, .int ck, .int sa, .ref a8, .int lm, .int rs, .int at_, .ref a9, .int tm, .long hs]))]) [0] (by decide) rfl
    have hFc := va_free (wc := [(om, .inr (6, [.int (nI 0), .ref a1, .ref a2, .ref a3, .int sv, .ref a4, .ref a5, .ref a6, .int ln, .ref a7, .int bm, .int br, .int ck, .int sa, .ref a8, .int lm, .int rs, .int at_, .ref a9, .int tm, .long hs]))]) hD hS hA [0] rfl
    refine va_calli (va_runV (As := [.int (nI 1)]) (rest := []) ⟨hx, hb, hml, hown, hts⟩ (kX6_fails l D ca H.size om a1 a2 a3 a4 a5 a6 a7 a8 a9 (nI 0) sv ln bm br ck sa lm rs at_ tm hs (nI 1)) (cwV 1 hts gX6_swipe_X6_fails rfl rfl rfl (by decide +kernel) ⟨kk_le rfl, kk_le rfl⟩) (pvM hK hPc (my_D_true hDc) (va_recv hKv hP (ci := 6) (q0 := 0) rfl rfl)) rfl rfl hl.1 rfl (lv_room (kk_le rfl)) dX6_swipe_26 ⟨kk_le rfl, kk_le rfl⟩) hS (fun q _ h => hFc q h) hFc (fun r2 u t H1 locs ht hvm hwv hBv hz1 hk1 hS => ?_)
    obtain ⟨hP1, hD1⟩ := hBv
    rw [ht] at hP1
    have hP1 : va_P D vwCl [(om, .inr (6, [.int (nI 1), .ref a1, .ref a2, .ref a3, .int sv, .ref a4, .ref a5, .ref a6, .int ln, .ref a7, .int bm, .int br, .int ck, .int sa, .ref a8, .int lm, .int rs, .int at_, .ref a9, .int tm, .long hs]))] H1 := hP1
    have hD1 : va_D _ [(om, .inr (6, [.int (nI 1), .ref a1, .ref a2, .ref a3, .int sv, .ref a4, .ref a5, .ref a6, .int ln, .ref a7, .int bm, .int br, .int ck, .int sa, .ref a8, .int lm, .int rs, .int at_, .ref a9, .int tm, .long hs]))] := hD1
    obtain ⟨hr2, hw2⟩ := hwv
    subst hr2
    obtain ⟨hP, hD⟩ := va_join (wr := [(a1, .inl (ca 0, 226, .inl (sF z r f j nt nl gl gt)))]) (w1 := [(om, .inr (6, [.int (nI 1), .ref a1, .ref a2, .ref a3, .int sv, .ref a4, .ref a5, .ref a6, .int ln, .ref a7, .int bm, .int br, .int ck, .int sa, .ref a8, .int lm, .int rs, .int at_, .ref a9, .int tm, .long hs]))]) hP hD [0] [1] rfl rfl (by decide) (by decide) hk1 hFc hP1 hD1
    generalize H1 = H at hP hS ⊢
    have hP := hP.sub (ws' := [(om, .inr (6, [.int (nI 1), .ref a1, .ref a2, .ref a3, .int sv, .ref a4, .ref a5, .ref a6, .int ln, .ref a7, .int bm, .int br, .int ck, .int sa, .ref a8, .int lm, .int rs, .int at_, .ref a9, .int tm, .long hs])), (a1, .inl (ca 0, 226, .inl (sF z r f j nt nl gl gt)))]) [1, 0] rfl
    have hD := hD.sub (ws' := [(om, .inr (6, [.int (nI 1), .ref a1, .ref a2, .ref a3, .int sv, .ref a4, .ref a5, .ref a6, .int ln, .ref a7, .int bm, .int br, .int ck, .int sa, .ref a8, .int lm, .int rs, .int at_, .ref a9, .int tm, .long hs])), (a1, .inl (ca 0, 226, .inl (sF z r f j nt nl gl gt)))]) [1, 0] (by decide) rfl
    exact W.iret (v := nI 0) hx hb hr (fun t ht hW => ⟨⟨_, (), rfl, ⟨by rfl, by trivial⟩, by rw [ht]; exact hP, hD⟩, hS.F ht⟩) hS.2.2 dX6_swipe_29
  · refine lv_aload_n hx hb dX6_swipe_14 rfl (lv_at hl 0 rfl) ?_
    refine vp_callSi (va_Run.run (va_runV (As := []) (rest := []) ⟨hx, hb, hml, hown, hts⟩ (kX6_swipeMany l D ca om a1 a2 a3 a4 a5 a6 a7 a8 a9 (nI 0) sv ln bm br ck sa lm rs at_ tm hs z r f j nt nl gl gt (by first | rfl | assumption | omega | trivial | (exfalso; omega)) (by first | rfl | assumption | omega | trivial | (exfalso; omega)) (by first | rfl | assumption | omega | trivial | (exfalso; omega))) (cwV 0 hts gX6_swipe_X6_swipeMany rfl rfl rfl (by decide +kernel) ⟨kk_le rfl, kk_le rfl⟩) (pvR hK hP (va_recv hKv hP (ci := 6) (q0 := 0) rfl rfl)) rfl rfl hl.1 rfl (lv_room (kk_le rfl)) dX6_swipe_15 ⟨kk_le rfl, kk_le rfl⟩)) (fun r4 hr4 => ?_)
    subst hr4
    refine lv_sipush (v := nI 200) hx hb dX6_swipe_18 (by decide) ?_
    refine ni_icmp_le (tgt := 30) (by omega) (by omega) hx hb dX6_swipe_21 (by decide) (fun c5 => ?_) (fun c5 => ?_)
    · exact absurd c5 (by omega)
    · refine lv_aload_n hx hb dX6_swipe_24 rfl (lv_at hl 0 rfl) ?_
      refine lv_iconst (v := nI 1) hx hb dX6_swipe_25 (by decide) ?_
      have hPc := hP.sub (ws' := [(om, .inr (6, [.int (nI 0), .ref a1, .ref a2, .ref a3, .int sv, .ref a4, .ref a5, .ref a6, .int ln, .ref a7, .int bm, .int br, .int ck, .int sa, .ref a8, .int lm, .int rs, .int at_, .ref a9, .int tm, .long hs]))]) [0] rfl
      have hDc := hD.sub (ws' := [(om, .inr (6, [.int (nI 0), .ref a1, .ref a2, .ref a3, .int sv, .ref a4, .ref a5, .ref a6, .int ln, .ref a7, .int bm, .int br, .int ck, .int sa, .ref a8, .int lm, .int rs, .int at_, .ref a9, .int tm, .long hs]))]) [0] (by decide) rfl
      have hFc := va_free (wc := [(om, .inr (6, [.int (nI 0), .ref a1, .ref a2, .ref a3, .int sv, .ref a4, .ref a5, .ref a6, .int ln, .ref a7, .int bm, .int br, .int ck, .int sa, .ref a8, .int lm, .int rs, .int at_, .ref a9, .int tm, .long hs]))]) hD hS hA [0] rfl
      refine va_calli (va_runV (As := [.int (nI 1)]) (rest := []) ⟨hx, hb, hml, hown, hts⟩ (kX6_fails l D ca H.size om a1 a2 a3 a4 a5 a6 a7 a8 a9 (nI 0) sv ln bm br ck sa lm rs at_ tm hs (nI 1)) (cwV 1 hts gX6_swipe_X6_fails rfl rfl rfl (by decide +kernel) ⟨kk_le rfl, kk_le rfl⟩) (pvM hK hPc (my_D_true hDc) (va_recv hKv hP (ci := 6) (q0 := 0) rfl rfl)) rfl rfl hl.1 rfl (lv_room (kk_le rfl)) dX6_swipe_26 ⟨kk_le rfl, kk_le rfl⟩) hS (fun q _ h => hFc q h) hFc (fun r6 u t H1 locs ht hvm hwv hBv hz1 hk1 hS => ?_)
      obtain ⟨hP1, hD1⟩ := hBv
      rw [ht] at hP1
      have hP1 : va_P D vwCl [(om, .inr (6, [.int (nI 1), .ref a1, .ref a2, .ref a3, .int sv, .ref a4, .ref a5, .ref a6, .int ln, .ref a7, .int bm, .int br, .int ck, .int sa, .ref a8, .int lm, .int rs, .int at_, .ref a9, .int tm, .long hs]))] H1 := hP1
      have hD1 : va_D _ [(om, .inr (6, [.int (nI 1), .ref a1, .ref a2, .ref a3, .int sv, .ref a4, .ref a5, .ref a6, .int ln, .ref a7, .int bm, .int br, .int ck, .int sa, .ref a8, .int lm, .int rs, .int at_, .ref a9, .int tm, .long hs]))] := hD1
      obtain ⟨hr6, hw6⟩ := hwv
      subst hr6
      obtain ⟨hP, hD⟩ := va_join (wr := [(a1, .inl (ca 0, 226, .inl (sF z r f j nt nl gl gt)))]) (w1 := [(om, .inr (6, [.int (nI 1), .ref a1, .ref a2, .ref a3, .int sv, .ref a4, .ref a5, .ref a6, .int ln, .ref a7, .int bm, .int br, .int ck, .int sa, .ref a8, .int lm, .int rs, .int at_, .ref a9, .int tm, .long hs]))]) hP hD [0] [1] rfl rfl (by decide) (by decide) hk1 hFc hP1 hD1
      generalize H1 = H at hP hS ⊢
      have hP := hP.sub (ws' := [(om, .inr (6, [.int (nI 1), .ref a1, .ref a2, .ref a3, .int sv, .ref a4, .ref a5, .ref a6, .int ln, .ref a7, .int bm, .int br, .int ck, .int sa, .ref a8, .int lm, .int rs, .int at_, .ref a9, .int tm, .long hs])), (a1, .inl (ca 0, 226, .inl (sF z r f j nt nl gl gt)))]) [1, 0] rfl
      have hD := hD.sub (ws' := [(om, .inr (6, [.int (nI 1), .ref a1, .ref a2, .ref a3, .int sv, .ref a4, .ref a5, .ref a6, .int ln, .ref a7, .int bm, .int br, .int ck, .int sa, .ref a8, .int lm, .int rs, .int at_, .ref a9, .int tm, .long hs])), (a1, .inl (ca 0, 226, .inl (sF z r f j nt nl gl gt)))]) [1, 0] (by decide) rfl
      exact W.iret (v := nI 0) hx hb hr (fun t ht hW => ⟨⟨_, (), rfl, ⟨by rfl, by trivial⟩, by rw [ht]; exact hP, hD⟩, hS.F ht⟩) hS.2.2 dX6_swipe_29
abbrev rm_kX6_turn_ok : Room := { frames := 1, cells := 0, slots := 0, locals := 21 }
set_option maxHeartbeats 4000000 in
set_option maxRecDepth 100000 in
theorem kX6_turn_ok (l : Launch) (D : va_G) (ca : Nat → ClassId) (sz : Nat) (om a1 a2 a3 a4 a5 a6 a7 a8 a9 : Nat) (thr ln bm br ck sa lm rs at_ tm : Int32) (hs : Int64) (sv : Nat) (z : Nat) (r f j : Int32) (nt nl : Nat) (gl gt : Nat → Int32) (fv : Nat → Int32) (hnt : nt ≤ 200) (hnl : nl ≤ 20) (hz : z ≤ 30) (hsv : sv ≤ 6) : Met l yX6_turn wsX6_turn rm_kX6_turn_ok (pcM D ca [.ref om] [(om, .inr (6, [.int thr, .ref a1, .ref a2, .ref a3, .int (nI sv), .ref a4, .ref a5, .ref a6, .int ln, .ref a7, .int bm, .int br, .int ck, .int sa, .ref a8, .int lm, .int rs, .int at_, .ref a9, .int tm, .long hs])), (a1, .inl (ca 0, 226, .inl (sF z r f j nt nl gl gt))), (a3, .inl (ca 0, 1356, .inl fv))] sz) (va_Qi (fun (zr : Int32) (u : Unit) => zr = (if nt = 0 then nI 0 else revF gt nt 0) ∧ True) (qB D (va_A [(om, .inr (6, [.int thr, .ref a1, .ref a2, .ref a3, .int (nI sv), .ref a4, .ref a5, .ref a6, .int ln, .ref a7, .int bm, .int br, .int ck, .int sa, .ref a8, .int lm, .int rs, .int at_, .ref a9, .int tm, .long hs])), (a1, .inl (ca 0, 226, .inl (sF z r f j nt nl gl gt))), (a3, .inl (ca 0, 1356, .inl fv))] sz) (fun u : Unit => [(om, .inr (6, [.int (nI 0), .ref a1, .ref a2, .ref a3, .int (nI (svN sv)), .ref a4, .ref a5, .ref a6, .int ln, .ref a7, .int bm, .int br, .int ck, .int sa, .ref a8, .int lm, .int rs, .int at_, .ref a9, .int tm, .long hs])), (a1, .inl (ca 0, 226, .inl (sF z r f j nt nl gl (revF gt nt)))), (a3, .inl (ca 0, 1356, .inl (savF fv sv (sF z r f j nt nl gl gt))))])) (va_A [(om, .inr (6, [.int thr, .ref a1, .ref a2, .ref a3, .int (nI sv), .ref a4, .ref a5, .ref a6, .int ln, .ref a7, .int bm, .int br, .int ck, .int sa, .ref a8, .int lm, .int rs, .int at_, .ref a9, .int tm, .long hs])), (a1, .inl (ca 0, 226, .inl (sF z r f j nt nl gl gt))), (a3, .inl (ca 0, 1356, .inl fv))] sz)) 0 0 (va_A [(om, .inr (6, [.int thr, .ref a1, .ref a2, .ref a3, .int (nI sv), .ref a4, .ref a5, .ref a6, .int ln, .ref a7, .int bm, .int br, .int ck, .int sa, .ref a8, .int lm, .int rs, .int at_, .ref a9, .int tm, .long hs])), (a1, .inl (ca 0, 226, .inl (sF z r f j nt nl gl gt))), (a3, .inl (ca 0, 1356, .inl fv))] sz) := by
  refine Met.ofW (cc := cX6_turn) (maxL := 3) (ret := (some .int)) (by decide) rfl ?_
  intro p e s m args below meth c s₁ B hml hv
  obtain ⟨rfl, hsz, hP, hK, hD0⟩ := hv
  have hx := B.exec
  have hb := B.bytes
  have hr := B.returns
  have hts := atoms_spec (ws := wsX6_turn) B.pre
  have hown : s.vm.findClass RX6 = some m.cls := findClass_of_methodNamed B.named
  have hlocks := B.notSynchronized
  subst hsz
  have hD := hD0.self (sz := s.heap.size)
  generalize hAe : va_A [(om, .inr (6, [.int thr, .ref a1, .ref a2, .ref a3, .int (nI sv), .ref a4, .ref a5, .ref a6, .int ln, .ref a7, .int bm, .int br, .int ck, .int sa, .ref a8, .int lm, .int rs, .int at_, .ref a9, .int tm, .long hs])), (a1, .inl (ca 0, 226, .inl (sF z r f j nt nl gl gt))), (a3, .inl (ca 0, 1356, .inl fv))] s.heap.size = A at hD ⊢
  have hA : ∀ q : Nat, s.heap.size ≤ q → A q := fun q h => by rw [← hAe]; exact Or.inr h
  have hS : va_S A s.heap s.heap [] := va_S.rf
  have hP : va_P D vwCl [(om, .inr (6, [.int thr, .ref a1, .ref a2, .ref a3, .int (nI sv), .ref a4, .ref a5, .ref a6, .int ln, .ref a7, .int bm, .int br, .int ck, .int sa, .ref a8, .int lm, .int rs, .int at_, .ref a9, .int tm, .long hs])), (a1, .inl (ca 0, 226, .inl (sF z r f j nt nl gl gt))), (a3, .inl (ca 0, 1356, .inl fv))] s.heap := hP
  have hKv := hK.1
  have hl := lv_entry ([.ref om]) (n := 3) (kk_le rfl)
  rw [lg_entry_eq]
  generalize (lg_sl ([.ref om]) ++ List.replicate (3 - (lg_sl ([.ref om])).length) Slot.unset).toArray = ls at hl ⊢
  have hl : lv_has ls 3 [(0, .ref om)] := hl
  generalize hQz : MQ below _ _ _ _ _ _ = Qz
  have hiX6 : ∀ w ∈ u_ws RX6 TX6 21, w ∈ wsX6_turn := fun w h => by first | exact List.mem_cons_of_mem _ (List.mem_append_right _ h) | exact List.mem_cons_of_mem _ (List.mem_append_left _ (List.mem_append_right _ h)) | exact List.mem_cons_of_mem _ (List.mem_append_left _ (List.mem_append_left _ (List.mem_append_right _ h))) | exact List.mem_cons_of_mem _ (List.mem_append_left _ (List.mem_append_left _ (List.mem_append_left _ (List.mem_append_right _ h)))) | (revert w h; decide +kernel)
  have lk38 : (Cond.fieldLink RX6 38 "StripeSwipesModel" "thrown" "I").before _ s = true := hts _ (by decide +kernel)
  have lk7 : (Cond.fieldLink RX6 7 "StripeSwipesModel" "s" "[I").before _ s = true := hts _ (by decide +kernel)
  refine lv_aload_n hx hb dX6_turn_0 rfl (lv_at hl 0 rfl) ?_
  refine lv_iconst (v := nI 0) hx hb dX6_turn_1 (by decide) ?_
  refine va_put (D := D) (ci := 6) (v := .int (nI 0)) (ty := .int) (C := RX6) (T := TX6) (N := 21) hx hb hts hiX6 tyX6 tyX6_ok nmX6 hown hKv hP hD hS 0 rfl rfl 0 (by decide) lk38 (fun _ h9 => h9) rfl (by decide +kernel) rfl rfl (kk_le rfl) dX6_turn_2 (fun H locs hP hD hS => ?_)
  have hP : va_P D vwCl [(om, .inr (6, [.int (nI 0), .ref a1, .ref a2, .ref a3, .int (nI sv), .ref a4, .ref a5, .ref a6, .int ln, .ref a7, .int bm, .int br, .int ck, .int sa, .ref a8, .int lm, .int rs, .int at_, .ref a9, .int tm, .long hs])), (a1, .inl (ca 0, 226, .inl (sF z r f j nt nl gl gt))), (a3, .inl (ca 0, 1356, .inl fv))] H := hP
  have hD : va_D A [(om, .inr (6, [.int (nI 0), .ref a1, .ref a2, .ref a3, .int (nI sv), .ref a4, .ref a5, .ref a6, .int ln, .ref a7, .int bm, .int br, .int ck, .int sa, .ref a8, .int lm, .int rs, .int at_, .ref a9, .int tm, .long hs])), (a1, .inl (ca 0, 226, .inl (sF z r f j nt nl gl gt))), (a3, .inl (ca 0, 1356, .inl fv))] := hD
  refine lv_aload_n hx hb dX6_turn_5 rfl (lv_at hl 0 rfl) ?_
  have hPc := hP
  have hDc := hD
  have hFc := va_free (wc := [(om, .inr (6, [.int (nI 0), .ref a1, .ref a2, .ref a3, .int (nI sv), .ref a4, .ref a5, .ref a6, .int ln, .ref a7, .int bm, .int br, .int ck, .int sa, .ref a8, .int lm, .int rs, .int at_, .ref a9, .int tm, .long hs])), (a1, .inl (ca 0, 226, .inl (sF z r f j nt nl gl gt))), (a3, .inl (ca 0, 1356, .inl fv))]) hD hS hA [0, 1, 2] rfl
  refine va_callv (va_runV (As := []) (rest := []) ⟨hx, hb, hml, hown, hts⟩ (kX6_saves l D ca H.size om a1 a2 a3 a4 a5 a6 a7 a8 a9 (nI 0) ln bm br ck sa lm rs at_ tm hs z r f j nt nl gl gt sv fv (by first | rfl | assumption | omega | trivial | (exfalso; omega))) (cwV 0 hts gX6_turn_X6_saves rfl rfl rfl (by decide +kernel) ⟨kk_le rfl, kk_le rfl⟩) (pvM hK hPc (my_D_true hDc) (va_recv hKv hP (ci := 6) (q0 := 0) rfl rfl)) rfl rfl hl.1 rfl (lv_room (kk_le rfl)) dX6_turn_6 ⟨kk_le rfl, kk_le rfl⟩) hS (fun q _ h => hFc q h) hFc (fun u t H1 locs ht hvm hwv hBv hz1 hk1 hS => ?_)
  obtain ⟨hP1, hD1⟩ := hBv
  rw [ht] at hP1
  have hP1 : va_P D vwCl [(om, .inr (6, [.int (nI 0), .ref a1, .ref a2, .ref a3, .int (nI (svN sv)), .ref a4, .ref a5, .ref a6, .int ln, .ref a7, .int bm, .int br, .int ck, .int sa, .ref a8, .int lm, .int rs, .int at_, .ref a9, .int tm, .long hs])), (a1, .inl (ca 0, 226, .inl (sF z r f j nt nl gl gt))), (a3, .inl (ca 0, 1356, .inl (savF fv sv (sF z r f j nt nl gl gt))))] H1 := hP1
  have hD1 : va_D _ [(om, .inr (6, [.int (nI 0), .ref a1, .ref a2, .ref a3, .int (nI (svN sv)), .ref a4, .ref a5, .ref a6, .int ln, .ref a7, .int bm, .int br, .int ck, .int sa, .ref a8, .int lm, .int rs, .int at_, .ref a9, .int tm, .long hs])), (a1, .inl (ca 0, 226, .inl (sF z r f j nt nl gl gt))), (a3, .inl (ca 0, 1356, .inl (savF fv sv (sF z r f j nt nl gl gt))))] := hD1
  have hw1 := hwv
  have hP := hP1
  have hD := hD1.weaken (fun _ _ _ h => hFc _ h)
  generalize H1 = H at hP hS ⊢
  have hP : va_P D vwCl [(om, .inr (6, [.int (nI 0), .ref a1, .ref a2, .ref a3, .int (nI (svN sv)), .ref a4, .ref a5, .ref a6, .int ln, .ref a7, .int bm, .int br, .int ck, .int sa, .ref a8, .int lm, .int rs, .int at_, .ref a9, .int tm, .long hs])), (a1, .inl (ca 0, 226, .inl (sF z r f j nt nl gl gt))), (a3, .inl (ca 0, 1356, .inl (savF fv sv (sF z r f j nt nl gl gt))))] H := hP
  have hD : va_D A [(om, .inr (6, [.int (nI 0), .ref a1, .ref a2, .ref a3, .int (nI (svN sv)), .ref a4, .ref a5, .ref a6, .int ln, .ref a7, .int bm, .int br, .int ck, .int sa, .ref a8, .int lm, .int rs, .int at_, .ref a9, .int tm, .long hs])), (a1, .inl (ca 0, 226, .inl (sF z r f j nt nl gl gt))), (a3, .inl (ca 0, 1356, .inl (savF fv sv (sF z r f j nt nl gl gt))))] := hD
  refine lv_iconst (v := nI 0) hx hb dX6_turn_9 (by decide) ?_
  refine lv_istore_n (lv' := [(1, .int (nI 0)), (0, .ref om)]) hx hb dX6_turn_10 rfl hl (by decide) rfl (fun ls hl => ?_)
  have lp11_2 : ∀ (k1 : Nat) (i : Nat), nt / 2 - i < k1 → (i ≤ nt / 2) → ∀ (H : Heap) (locs : List Loc), va_P D vwCl [(om, .inr (6, [.int (nI 0), .ref a1, .ref a2, .ref a3, .int (nI (svN sv)), .ref a4, .ref a5, .ref a6, .int ln, .ref a7, .int bm, .int br, .int ck, .int sa, .ref a8, .int lm, .int rs, .int at_, .ref a9, .int tm, .long hs])), (a1, .inl (ca 0, 226, .inl (sF z r f j nt nl gl (revL gt nt i)))), (a3, .inl (ca 0, 1356, .inl (savF fv sv (sF z r f j nt nl gl gt))))] H → va_D A [(om, .inr (6, [.int (nI 0), .ref a1, .ref a2, .ref a3, .int (nI (svN sv)), .ref a4, .ref a5, .ref a6, .int ln, .ref a7, .int bm, .int br, .int ck, .int sa, .ref a8, .int lm, .int rs, .int at_, .ref a9, .int tm, .long hs])), (a1, .inl (ca 0, 226, .inl (sF z r f j nt nl gl (revL gt nt i)))), (a3, .inl (ca 0, 1356, .inl (savF fv sv (sF z r f j nt nl gl gt))))] → va_S A s.heap H locs → ∀ (ls : Array Slot), lv_has ls 3 [(1, .int (nI i)), (0, .ref om)] → W p l e rm_kX6_turn_ok s m ([.ref om] : List Value).toArray below meth c H locs 0 0 Qz (F0 m 11 ls []) := by
    intro k1
    induction k1 with
    | zero => intro i hm1; exact absurd hm1 (Nat.not_lt_zero _)
    | succ k1 ih1 =>
      intro i hm1 hi H locs hP hD hS ls hl
      refine lv_iload_n hx hb dX6_turn_11 rfl (lv_at hl 0 rfl) ?_
      refine lv_aload_n hx hb dX6_turn_12 rfl (lv_at hl 1 rfl) ?_
      refine va_get (D := D) (ci := 6) (C := RX6) (T := TX6) (N := 21) hx hb hts hiX6 hown hKv hP 0 rfl rfl 1 (by decide) lk7 (fun _ h9 => h9) rfl dX6_turn_13 ?_
      refine lv_iconst (v := nI 4) hx hb dX6_turn_16 (by decide) ?_
      refine my_iald hx hb hK hP 1 rfl (by omega) (by omega) dX6_turn_17 ?_
      rw [show sF z r f j nt nl gl (revL gt nt i) 4 = nI nt from rfl]
      refine lv_iconst (v := nI 2) hx hb dX6_turn_18 (by decide) ?_
      refine ni_idiv (by omega) (by omega) (by omega) hx hb dX6_turn_19 ?_
      refine ni_icmp_ge (tgt := 85) (by omega) (by omega) hx hb dX6_turn_20 (by decide) (fun c4 => ?_) (fun c4 => ?_)
      · refine lv_aload_n hx hb dX6_turn_85 rfl (lv_at hl 1 rfl) ?_
        refine va_get (D := D) (ci := 6) (C := RX6) (T := TX6) (N := 21) hx hb hts hiX6 hown hKv hP 0 rfl rfl 1 (by decide) lk7 (fun _ h9 => h9) rfl dX6_turn_86 ?_
        refine lv_iconst (v := nI 4) hx hb dX6_turn_89 (by decide) ?_
        refine my_iald hx hb hK hP 1 rfl (by omega) (by omega) dX6_turn_90 ?_
        rw [show sF z r f j nt nl gl (revL gt nt i) 4 = nI nt from rfl]
        refine ni_if_ne (tgt := 98) (by omega) hx hb dX6_turn_91 (by decide) (fun c5 => ?_) (fun c5 => ?_)
        · refine lv_aload_n hx hb dX6_turn_98 rfl (lv_at hl 1 rfl) ?_
          refine va_get (D := D) (ci := 6) (C := RX6) (T := TX6) (N := 21) hx hb hts hiX6 hown hKv hP 0 rfl rfl 1 (by decide) lk7 (fun _ h9 => h9) rfl dX6_turn_99 ?_
          refine lv_bipush (v := nI 26) hx hb dX6_turn_102 (by decide) ?_
          refine my_iald hx hb hK hP 1 rfl (by omega) (by omega) dX6_turn_104 ?_
          rw [show sF z r f j nt nl gl (revL gt nt i) 26 = (revL gt nt i) 0 from sF_gt _ _ _ _ _ _ _ _ (by omega)]
          subst hQz
          have e6 : (sF z r f j nt nl gl (revL gt nt i) : Nat → Int32) = sF z r f j nt nl gl (revF gt nt) := by exact congrArg (sF z r f j nt nl gl) (tn_end gt nt (by omega))
          have hP : va_P D vwCl [(om, .inr (6, [.int (nI 0), .ref a1, .ref a2, .ref a3, .int (nI (svN sv)), .ref a4, .ref a5, .ref a6, .int ln, .ref a7, .int bm, .int br, .int ck, .int sa, .ref a8, .int lm, .int rs, .int at_, .ref a9, .int tm, .long hs])), (a1, .inl (ca 0, 226, .inl (sF z r f j nt nl gl (revF gt nt)))), (a3, .inl (ca 0, 1356, .inl (savF fv sv (sF z r f j nt nl gl gt))))] H := Eq.mp (congrArg (fun z9 : Nat → Int32 => va_P D vwCl [(om, .inr (6, [.int (nI 0), .ref a1, .ref a2, .ref a3, .int (nI (svN sv)), .ref a4, .ref a5, .ref a6, .int ln, .ref a7, .int bm, .int br, .int ck, .int sa, .ref a8, .int lm, .int rs, .int at_, .ref a9, .int tm, .long hs])), (a1, .inl (ca 0, 226, .inl z9)), (a3, .inl (ca 0, 1356, .inl (savF fv sv (sF z r f j nt nl gl gt))))] H) e6) hP
          have hD : va_D A [(om, .inr (6, [.int (nI 0), .ref a1, .ref a2, .ref a3, .int (nI (svN sv)), .ref a4, .ref a5, .ref a6, .int ln, .ref a7, .int bm, .int br, .int ck, .int sa, .ref a8, .int lm, .int rs, .int at_, .ref a9, .int tm, .long hs])), (a1, .inl (ca 0, 226, .inl (sF z r f j nt nl gl (revF gt nt)))), (a3, .inl (ca 0, 1356, .inl (savF fv sv (sF z r f j nt nl gl gt))))] := Eq.mp (congrArg (fun z9 : Nat → Int32 => va_D A [(om, .inr (6, [.int (nI 0), .ref a1, .ref a2, .ref a3, .int (nI (svN sv)), .ref a4, .ref a5, .ref a6, .int ln, .ref a7, .int bm, .int br, .int ck, .int sa, .ref a8, .int lm, .int rs, .int at_, .ref a9, .int tm, .long hs])), (a1, .inl (ca 0, 226, .inl z9)), (a3, .inl (ca 0, 1356, .inl (savF fv sv (sF z r f j nt nl gl gt))))]) e6) hD
          exact W.iret (v := (revL gt nt i) 0) hx hb hr (fun t ht hW => ⟨⟨_, (), rfl, ⟨by first | rw [if_pos (by omega)] | (rw [if_neg (by omega)]; exact congrFun (tn_end gt nt (by omega)) 0), by trivial⟩, by rw [ht]; exact hP, hD⟩, hS.F ht⟩) hS.2.2 dX6_turn_105
        · refine lv_iconst (v := nI 0) hx hb dX6_turn_94 (by decide) ?_
          refine lv_goto (tgt := 105) hx hb dX6_turn_95 (by decide) ?_
          subst hQz
          have e7 : (sF z r f j nt nl gl (revL gt nt i) : Nat → Int32) = sF z r f j nt nl gl (revF gt nt) := by exact congrArg (sF z r f j nt nl gl) (tn_end gt nt (by omega))
          have hP : va_P D vwCl [(om, .inr (6, [.int (nI 0), .ref a1, .ref a2, .ref a3, .int (nI (svN sv)), .ref a4, .ref a5, .ref a6, .int ln, .ref a7, .int bm, .int br, .int ck, .int sa, .ref a8, .int lm, .int rs, .int at_, .ref a9, .int tm, .long hs])), (a1, .inl (ca 0, 226, .inl (sF z r f j nt nl gl (revF gt nt)))), (a3, .inl (ca 0, 1356, .inl (savF fv sv (sF z r f j nt nl gl gt))))] H := Eq.mp (congrArg (fun z9 : Nat → Int32 => va_P D vwCl [(om, .inr (6, [.int (nI 0), .ref a1, .ref a2, .ref a3, .int (nI (svN sv)), .ref a4, .ref a5, .ref a6, .int ln, .ref a7, .int bm, .int br, .int ck, .int sa, .ref a8, .int lm, .int rs, .int at_, .ref a9, .int tm, .long hs])), (a1, .inl (ca 0, 226, .inl z9)), (a3, .inl (ca 0, 1356, .inl (savF fv sv (sF z r f j nt nl gl gt))))] H) e7) hP
          have hD : va_D A [(om, .inr (6, [.int (nI 0), .ref a1, .ref a2, .ref a3, .int (nI (svN sv)), .ref a4, .ref a5, .ref a6, .int ln, .ref a7, .int bm, .int br, .int ck, .int sa, .ref a8, .int lm, .int rs, .int at_, .ref a9, .int tm, .long hs])), (a1, .inl (ca 0, 226, .inl (sF z r f j nt nl gl (revF gt nt)))), (a3, .inl (ca 0, 1356, .inl (savF fv sv (sF z r f j nt nl gl gt))))] := Eq.mp (congrArg (fun z9 : Nat → Int32 => va_D A [(om, .inr (6, [.int (nI 0), .ref a1, .ref a2, .ref a3, .int (nI (svN sv)), .ref a4, .ref a5, .ref a6, .int ln, .ref a7, .int bm, .int br, .int ck, .int sa, .ref a8, .int lm, .int rs, .int at_, .ref a9, .int tm, .long hs])), (a1, .inl (ca 0, 226, .inl z9)), (a3, .inl (ca 0, 1356, .inl (savF fv sv (sF z r f j nt nl gl gt))))]) e7) hD
          exact W.iret (v := nI 0) hx hb hr (fun t ht hW => ⟨⟨_, (), rfl, ⟨by first | rw [if_pos (by omega)] | (rw [if_neg (by omega)]; exact congrFun (tn_end gt nt (by omega)) 0), by trivial⟩, by rw [ht]; exact hP, hD⟩, hS.F ht⟩) hS.2.2 dX6_turn_105
      · refine lv_aload_n hx hb dX6_turn_23 rfl (lv_at hl 1 rfl) ?_
        refine va_get (D := D) (ci := 6) (C := RX6) (T := TX6) (N := 21) hx hb hts hiX6 hown hKv hP 0 rfl rfl 1 (by decide) lk7 (fun _ h9 => h9) rfl dX6_turn_24 ?_
        refine lv_bipush (v := nI 26) hx hb dX6_turn_27 (by decide) ?_
        refine lv_iload_n hx hb dX6_turn_29 rfl (lv_at hl 0 rfl) ?_
        refine ni_iadd hx hb dX6_turn_30 ?_
        refine my_iald hx hb hK hP 1 rfl (by omega) (by omega) dX6_turn_31 ?_
        rw [show sF z r f j nt nl gl (revL gt nt i) (26 + i) = (revL gt nt i) i from sF_gt _ _ _ _ _ _ _ _ (by omega)]
        refine lv_istore_n (lv' := [(2, .int ((revL gt nt i) i)), (1, .int (nI i)), (0, .ref om)]) hx hb dX6_turn_32 rfl hl (by decide) rfl (fun ls hl => ?_)
        refine lv_aload_n hx hb dX6_turn_33 rfl (lv_at hl 2 rfl) ?_
        refine va_get (D := D) (ci := 6) (C := RX6) (T := TX6) (N := 21) hx hb hts hiX6 hown hKv hP 0 rfl rfl 1 (by decide) lk7 (fun _ h9 => h9) rfl dX6_turn_34 ?_
        refine lv_bipush (v := nI 26) hx hb dX6_turn_37 (by decide) ?_
        refine lv_iload_n hx hb dX6_turn_39 rfl (lv_at hl 1 rfl) ?_
        refine ni_iadd hx hb dX6_turn_40 ?_
        refine lv_aload_n hx hb dX6_turn_41 rfl (lv_at hl 2 rfl) ?_
        refine va_get (D := D) (ci := 6) (C := RX6) (T := TX6) (N := 21) hx hb hts hiX6 hown hKv hP 0 rfl rfl 1 (by decide) lk7 (fun _ h9 => h9) rfl dX6_turn_42 ?_
        refine lv_bipush (v := nI 26) hx hb dX6_turn_45 (by decide) ?_
        refine lv_aload_n hx hb dX6_turn_47 rfl (lv_at hl 2 rfl) ?_
        refine va_get (D := D) (ci := 6) (C := RX6) (T := TX6) (N := 21) hx hb hts hiX6 hown hKv hP 0 rfl rfl 1 (by decide) lk7 (fun _ h9 => h9) rfl dX6_turn_48 ?_
        refine lv_iconst (v := nI 4) hx hb dX6_turn_51 (by decide) ?_
        refine my_iald hx hb hK hP 1 rfl (by omega) (by omega) dX6_turn_52 ?_
        rw [show sF z r f j nt nl gl (revL gt nt i) 4 = nI nt from rfl]
        refine ni_iadd hx hb dX6_turn_53 ?_
        refine lv_iconst (v := nI 1) hx hb dX6_turn_54 (by decide) ?_
        refine ni_isub (by omega) hx hb dX6_turn_55 ?_
        refine lv_iload_n hx hb dX6_turn_56 rfl (lv_at hl 1 rfl) ?_
        refine ni_isub (by omega) hx hb dX6_turn_57 ?_
        refine my_iald hx hb hK hP 1 rfl (by omega) (by omega) dX6_turn_58 ?_
        rw [show sF z r f j nt nl gl (revL gt nt i) (((26 + nt) - 1) - i) = (revL gt nt i) ((nt - 1) - i) from sF_gt _ _ _ _ _ _ _ _ (by omega)]
        refine my_iast hx hb hK hP hD hS 1 rfl (by omega) (by omega) dX6_turn_59 (fun H locs hP hD hS => ?_)
        have hP : va_P D vwCl [(om, .inr (6, [.int (nI 0), .ref a1, .ref a2, .ref a3, .int (nI (svN sv)), .ref a4, .ref a5, .ref a6, .int ln, .ref a7, .int bm, .int br, .int ck, .int sa, .ref a8, .int lm, .int rs, .int at_, .ref a9, .int tm, .long hs])), (a1, .inl (ca 0, 226, .inl (upd (sF z r f j nt nl gl (revL gt nt i)) (26 + i) ((revL gt nt i) ((nt - 1) - i))))), (a3, .inl (ca 0, 1356, .inl (savF fv sv (sF z r f j nt nl gl gt))))] H := hP
        have hD : va_D A [(om, .inr (6, [.int (nI 0), .ref a1, .ref a2, .ref a3, .int (nI (svN sv)), .ref a4, .ref a5, .ref a6, .int ln, .ref a7, .int bm, .int br, .int ck, .int sa, .ref a8, .int lm, .int rs, .int at_, .ref a9, .int tm, .long hs])), (a1, .inl (ca 0, 226, .inl (upd (sF z r f j nt nl gl (revL gt nt i)) (26 + i) ((revL gt nt i) ((nt - 1) - i))))), (a3, .inl (ca 0, 1356, .inl (savF fv sv (sF z r f j nt nl gl gt))))] := hD
        have e8 : (upd (sF z r f j nt nl gl (revL gt nt i)) (26 + i) ((revL gt nt i) ((nt - 1) - i)) : Nat → Int32) = sF z r f j nt nl gl (upd (revL gt nt i) i ((revL gt nt i) ((nt - 1) - i))) := sF_wt _ _ _ _ _ _ _ _ _ (by omega)
        have hP : va_P D vwCl [(om, .inr (6, [.int (nI 0), .ref a1, .ref a2, .ref a3, .int (nI (svN sv)), .ref a4, .ref a5, .ref a6, .int ln, .ref a7, .int bm, .int br, .int ck, .int sa, .ref a8, .int lm, .int rs, .int at_, .ref a9, .int tm, .long hs])), (a1, .inl (ca 0, 226, .inl (sF z r f j nt nl gl (upd (revL gt nt i) i ((revL gt nt i) ((nt - 1) - i)))))), (a3, .inl (ca 0, 1356, .inl (savF fv sv (sF z r f j nt nl gl gt))))] H := Eq.mp (congrArg (fun z9 : Nat → Int32 => va_P D vwCl [(om, .inr (6, [.int (nI 0), .ref a1, .ref a2, .ref a3, .int (nI (svN sv)), .ref a4, .ref a5, .ref a6, .int ln, .ref a7, .int bm, .int br, .int ck, .int sa, .ref a8, .int lm, .int rs, .int at_, .ref a9, .int tm, .long hs])), (a1, .inl (ca 0, 226, .inl z9)), (a3, .inl (ca 0, 1356, .inl (savF fv sv (sF z r f j nt nl gl gt))))] H) e8) hP
        have hD : va_D A [(om, .inr (6, [.int (nI 0), .ref a1, .ref a2, .ref a3, .int (nI (svN sv)), .ref a4, .ref a5, .ref a6, .int ln, .ref a7, .int bm, .int br, .int ck, .int sa, .ref a8, .int lm, .int rs, .int at_, .ref a9, .int tm, .long hs])), (a1, .inl (ca 0, 226, .inl (sF z r f j nt nl gl (upd (revL gt nt i) i ((revL gt nt i) ((nt - 1) - i)))))), (a3, .inl (ca 0, 1356, .inl (savF fv sv (sF z r f j nt nl gl gt))))] := Eq.mp (congrArg (fun z9 : Nat → Int32 => va_D A [(om, .inr (6, [.int (nI 0), .ref a1, .ref a2, .ref a3, .int (nI (svN sv)), .ref a4, .ref a5, .ref a6, .int ln, .ref a7, .int bm, .int br, .int ck, .int sa, .ref a8, .int lm, .int rs, .int at_, .ref a9, .int tm, .long hs])), (a1, .inl (ca 0, 226, .inl z9)), (a3, .inl (ca 0, 1356, .inl (savF fv sv (sF z r f j nt nl gl gt))))]) e8) hD
        refine lv_aload_n hx hb dX6_turn_60 rfl (lv_at hl 2 rfl) ?_
        refine va_get (D := D) (ci := 6) (C := RX6) (T := TX6) (N := 21) hx hb hts hiX6 hown hKv hP 0 rfl rfl 1 (by decide) lk7 (fun _ h9 => h9) rfl dX6_turn_61 ?_
        refine lv_bipush (v := nI 26) hx hb dX6_turn_64 (by decide) ?_
        refine lv_aload_n hx hb dX6_turn_66 rfl (lv_at hl 2 rfl) ?_
        refine va_get (D := D) (ci := 6) (C := RX6) (T := TX6) (N := 21) hx hb hts hiX6 hown hKv hP 0 rfl rfl 1 (by decide) lk7 (fun _ h9 => h9) rfl dX6_turn_67 ?_
        refine lv_iconst (v := nI 4) hx hb dX6_turn_70 (by decide) ?_
        refine my_iald hx hb hK hP 1 rfl (by omega) (by omega) dX6_turn_71 ?_
        rw [show sF z r f j nt nl gl (upd (revL gt nt i) i ((revL gt nt i) ((nt - 1) - i))) 4 = nI nt from rfl]
        refine ni_iadd hx hb dX6_turn_72 ?_
        refine lv_iconst (v := nI 1) hx hb dX6_turn_73 (by decide) ?_
        refine ni_isub (by omega) hx hb dX6_turn_74 ?_
        refine lv_iload_n hx hb dX6_turn_75 rfl (lv_at hl 1 rfl) ?_
        refine ni_isub (by omega) hx hb dX6_turn_76 ?_
        refine lv_iload_n hx hb dX6_turn_77 rfl (lv_at hl 0 rfl) ?_
        refine my_iast hx hb hK hP hD hS 1 rfl (by omega) (by omega) dX6_turn_78 (fun H locs hP hD hS => ?_)
        have hP : va_P D vwCl [(om, .inr (6, [.int (nI 0), .ref a1, .ref a2, .ref a3, .int (nI (svN sv)), .ref a4, .ref a5, .ref a6, .int ln, .ref a7, .int bm, .int br, .int ck, .int sa, .ref a8, .int lm, .int rs, .int at_, .ref a9, .int tm, .long hs])), (a1, .inl (ca 0, 226, .inl (upd (sF z r f j nt nl gl (upd (revL gt nt i) i ((revL gt nt i) ((nt - 1) - i)))) (((26 + nt) - 1) - i) ((revL gt nt i) i)))), (a3, .inl (ca 0, 1356, .inl (savF fv sv (sF z r f j nt nl gl gt))))] H := hP
        have hD : va_D A [(om, .inr (6, [.int (nI 0), .ref a1, .ref a2, .ref a3, .int (nI (svN sv)), .ref a4, .ref a5, .ref a6, .int ln, .ref a7, .int bm, .int br, .int ck, .int sa, .ref a8, .int lm, .int rs, .int at_, .ref a9, .int tm, .long hs])), (a1, .inl (ca 0, 226, .inl (upd (sF z r f j nt nl gl (upd (revL gt nt i) i ((revL gt nt i) ((nt - 1) - i)))) (((26 + nt) - 1) - i) ((revL gt nt i) i)))), (a3, .inl (ca 0, 1356, .inl (savF fv sv (sF z r f j nt nl gl gt))))] := hD
        have e9 : (upd (sF z r f j nt nl gl (upd (revL gt nt i) i ((revL gt nt i) ((nt - 1) - i)))) (((26 + nt) - 1) - i) ((revL gt nt i) i) : Nat → Int32) = sF z r f j nt nl gl (upd (upd (revL gt nt i) i ((revL gt nt i) ((nt - 1) - i))) ((nt - 1) - i) ((revL gt nt i) i)) := sF_wt _ _ _ _ _ _ _ _ _ (by omega)
        have hP : va_P D vwCl [(om, .inr (6, [.int (nI 0), .ref a1, .ref a2, .ref a3, .int (nI (svN sv)), .ref a4, .ref a5, .ref a6, .int ln, .ref a7, .int bm, .int br, .int ck, .int sa, .ref a8, .int lm, .int rs, .int at_, .ref a9, .int tm, .long hs])), (a1, .inl (ca 0, 226, .inl (sF z r f j nt nl gl (upd (upd (revL gt nt i) i ((revL gt nt i) ((nt - 1) - i))) ((nt - 1) - i) ((revL gt nt i) i))))), (a3, .inl (ca 0, 1356, .inl (savF fv sv (sF z r f j nt nl gl gt))))] H := Eq.mp (congrArg (fun z9 : Nat → Int32 => va_P D vwCl [(om, .inr (6, [.int (nI 0), .ref a1, .ref a2, .ref a3, .int (nI (svN sv)), .ref a4, .ref a5, .ref a6, .int ln, .ref a7, .int bm, .int br, .int ck, .int sa, .ref a8, .int lm, .int rs, .int at_, .ref a9, .int tm, .long hs])), (a1, .inl (ca 0, 226, .inl z9)), (a3, .inl (ca 0, 1356, .inl (savF fv sv (sF z r f j nt nl gl gt))))] H) e9) hP
        have hD : va_D A [(om, .inr (6, [.int (nI 0), .ref a1, .ref a2, .ref a3, .int (nI (svN sv)), .ref a4, .ref a5, .ref a6, .int ln, .ref a7, .int bm, .int br, .int ck, .int sa, .ref a8, .int lm, .int rs, .int at_, .ref a9, .int tm, .long hs])), (a1, .inl (ca 0, 226, .inl (sF z r f j nt nl gl (upd (upd (revL gt nt i) i ((revL gt nt i) ((nt - 1) - i))) ((nt - 1) - i) ((revL gt nt i) i))))), (a3, .inl (ca 0, 1356, .inl (savF fv sv (sF z r f j nt nl gl gt))))] := Eq.mp (congrArg (fun z9 : Nat → Int32 => va_D A [(om, .inr (6, [.int (nI 0), .ref a1, .ref a2, .ref a3, .int (nI (svN sv)), .ref a4, .ref a5, .ref a6, .int ln, .ref a7, .int bm, .int br, .int ck, .int sa, .ref a8, .int lm, .int rs, .int at_, .ref a9, .int tm, .long hs])), (a1, .inl (ca 0, 226, .inl z9)), (a3, .inl (ca 0, 1356, .inl (savF fv sv (sF z r f j nt nl gl gt))))]) e9) hD
        refine lv_iinc (v := nI (i + 1)) (lv' := [(1, .int (nI (i + 1))), (2, .int ((revL gt nt i) i)), (0, .ref om)]) hx hb dX6_turn_79 hl (k := 1) rfl (ni_inc _ _ (by decide)) (by decide) rfl (fun ls hl => ?_)
        refine lv_goto (tgt := 11) hx hb dX6_turn_82 (by decide) ?_
        have e10 : (sF z r f j nt nl gl (upd (upd (revL gt nt i) i ((revL gt nt i) ((nt - 1) - i))) ((nt - 1) - i) ((revL gt nt i) i)) : Nat → Int32) = sF z r f j nt nl gl (revL gt nt (i + 1)) := by exact congrArg (sF z r f j nt nl gl) (tn_step gt nt (by omega))
        have hP : va_P D vwCl [(om, .inr (6, [.int (nI 0), .ref a1, .ref a2, .ref a3, .int (nI (svN sv)), .ref a4, .ref a5, .ref a6, .int ln, .ref a7, .int bm, .int br, .int ck, .int sa, .ref a8, .int lm, .int rs, .int at_, .ref a9, .int tm, .long hs])), (a1, .inl (ca 0, 226, .inl (sF z r f j nt nl gl (revL gt nt (i + 1))))), (a3, .inl (ca 0, 1356, .inl (savF fv sv (sF z r f j nt nl gl gt))))] H := Eq.mp (congrArg (fun z9 : Nat → Int32 => va_P D vwCl [(om, .inr (6, [.int (nI 0), .ref a1, .ref a2, .ref a3, .int (nI (svN sv)), .ref a4, .ref a5, .ref a6, .int ln, .ref a7, .int bm, .int br, .int ck, .int sa, .ref a8, .int lm, .int rs, .int at_, .ref a9, .int tm, .long hs])), (a1, .inl (ca 0, 226, .inl z9)), (a3, .inl (ca 0, 1356, .inl (savF fv sv (sF z r f j nt nl gl gt))))] H) e10) hP
        have hD : va_D A [(om, .inr (6, [.int (nI 0), .ref a1, .ref a2, .ref a3, .int (nI (svN sv)), .ref a4, .ref a5, .ref a6, .int ln, .ref a7, .int bm, .int br, .int ck, .int sa, .ref a8, .int lm, .int rs, .int at_, .ref a9, .int tm, .long hs])), (a1, .inl (ca 0, 226, .inl (sF z r f j nt nl gl (revL gt nt (i + 1))))), (a3, .inl (ca 0, 1356, .inl (savF fv sv (sF z r f j nt nl gl gt))))] := Eq.mp (congrArg (fun z9 : Nat → Int32 => va_D A [(om, .inr (6, [.int (nI 0), .ref a1, .ref a2, .ref a3, .int (nI (svN sv)), .ref a4, .ref a5, .ref a6, .int ln, .ref a7, .int bm, .int br, .int ck, .int sa, .ref a8, .int lm, .int rs, .int at_, .ref a9, .int tm, .long hs])), (a1, .inl (ca 0, 226, .inl z9)), (a3, .inl (ca 0, 1356, .inl (savF fv sv (sF z r f j nt nl gl gt))))]) e10) hD
        exact ih1 (i + 1) (by omega) (by omega) _ _ hP hD hS ls (lv_sub hl [0, 2] rfl)
  have e11 : (sF z r f j nt nl gl gt : Nat → Int32) = sF z r f j nt nl gl (revL gt nt 0) := by exact congrArg (sF z r f j nt nl gl) (revL_0 gt nt).symm
  have hP : va_P D vwCl [(om, .inr (6, [.int (nI 0), .ref a1, .ref a2, .ref a3, .int (nI (svN sv)), .ref a4, .ref a5, .ref a6, .int ln, .ref a7, .int bm, .int br, .int ck, .int sa, .ref a8, .int lm, .int rs, .int at_, .ref a9, .int tm, .long hs])), (a1, .inl (ca 0, 226, .inl (sF z r f j nt nl gl (revL gt nt 0)))), (a3, .inl (ca 0, 1356, .inl (savF fv sv (sF z r f j nt nl gl gt))))] H := Eq.mp (congrArg (fun z9 : Nat → Int32 => va_P D vwCl [(om, .inr (6, [.int (nI 0), .ref a1, .ref a2, .ref a3, .int (nI (svN sv)), .ref a4, .ref a5, .ref a6, .int ln, .ref a7, .int bm, .int br, .int ck, .int sa, .ref a8, .int lm, .int rs, .int at_, .ref a9, .int tm, .long hs])), (a1, .inl (ca 0, 226, .inl z9)), (a3, .inl (ca 0, 1356, .inl (savF fv sv (sF z r f j nt nl gl gt))))] H) e11) hP
  have hD : va_D A [(om, .inr (6, [.int (nI 0), .ref a1, .ref a2, .ref a3, .int (nI (svN sv)), .ref a4, .ref a5, .ref a6, .int ln, .ref a7, .int bm, .int br, .int ck, .int sa, .ref a8, .int lm, .int rs, .int at_, .ref a9, .int tm, .long hs])), (a1, .inl (ca 0, 226, .inl (sF z r f j nt nl gl (revL gt nt 0)))), (a3, .inl (ca 0, 1356, .inl (savF fv sv (sF z r f j nt nl gl gt))))] := Eq.mp (congrArg (fun z9 : Nat → Int32 => va_D A [(om, .inr (6, [.int (nI 0), .ref a1, .ref a2, .ref a3, .int (nI (svN sv)), .ref a4, .ref a5, .ref a6, .int ln, .ref a7, .int bm, .int br, .int ck, .int sa, .ref a8, .int lm, .int rs, .int at_, .ref a9, .int tm, .long hs])), (a1, .inl (ca 0, 226, .inl z9)), (a3, .inl (ca 0, 1356, .inl (savF fv sv (sF z r f j nt nl gl gt))))]) e11) hD
  exact lp11_2 ((nt / 2 - 0) + 1) 0 (by omega) (by omega) _ _ hP hD hS ls (lv_sub hl [0, 1] rfl)
abbrev rm_kX6_join_ok : Room := { frames := 1, cells := 0, slots := 0, locals := 22 }
set_option maxHeartbeats 4000000 in
set_option maxRecDepth 100000 in
theorem kX6_join_ok (l : Launch) (D : va_G) (ca : Nat → ClassId) (sz : Nat) (om a1 a2 a3 a4 a5 a6 a7 a8 a9 : Nat) (thr ln bm br ck sa lm rs at_ tm : Int32) (hs : Int64) (sv : Nat) (z : Nat) (r f j : Int32) (nt nl : Nat) (gl gt : Nat → Int32) (fv : Nat → Int32) (q : Nat) (hnt : nt ≤ 200) (hnl : nl ≤ 20) (hz : z ≤ 30) (hsv : sv ≤ 6) (hq : q + 1 < nt) : Met l yX6_join wsX6_join rm_kX6_join_ok (pcM D ca [.ref om, .int (nI q)] [(om, .inr (6, [.int thr, .ref a1, .ref a2, .ref a3, .int (nI sv), .ref a4, .ref a5, .ref a6, .int ln, .ref a7, .int bm, .int br, .int ck, .int sa, .ref a8, .int lm, .int rs, .int at_, .ref a9, .int tm, .long hs])), (a1, .inl (ca 0, 226, .inl (sF z r f j nt nl gl gt))), (a3, .inl (ca 0, 1356, .inl fv))] sz) (va_Qi (fun (zr : Int32) (u : Unit) => zr = gt q + gt (q + 1) ∧ True) (qB D (va_A [(om, .inr (6, [.int thr, .ref a1, .ref a2, .ref a3, .int (nI sv), .ref a4, .ref a5, .ref a6, .int ln, .ref a7, .int bm, .int br, .int ck, .int sa, .ref a8, .int lm, .int rs, .int at_, .ref a9, .int tm, .long hs])), (a1, .inl (ca 0, 226, .inl (sF z r f j nt nl gl gt))), (a3, .inl (ca 0, 1356, .inl fv))] sz) (fun u : Unit => [(om, .inr (6, [.int (nI 0), .ref a1, .ref a2, .ref a3, .int (nI (svN sv)), .ref a4, .ref a5, .ref a6, .int ln, .ref a7, .int bm, .int br, .int ck, .int sa, .ref a8, .int lm, .int rs, .int at_, .ref a9, .int tm, .long hs])), (a1, .inl (ca 0, 226, .inl (sF z r f j (nt - 1) nl gl (upd (joF gt nt q (nt - 1)) (nt - 1) (nI 0))))), (a3, .inl (ca 0, 1356, .inl (savF fv sv (sF z r f j nt nl gl gt))))])) (va_A [(om, .inr (6, [.int thr, .ref a1, .ref a2, .ref a3, .int (nI sv), .ref a4, .ref a5, .ref a6, .int ln, .ref a7, .int bm, .int br, .int ck, .int sa, .ref a8, .int lm, .int rs, .int at_, .ref a9, .int tm, .long hs])), (a1, .inl (ca 0, 226, .inl (sF z r f j nt nl gl gt))), (a3, .inl (ca 0, 1356, .inl fv))] sz)) 0 0 (va_A [(om, .inr (6, [.int thr, .ref a1, .ref a2, .ref a3, .int (nI sv), .ref a4, .ref a5, .ref a6, .int ln, .ref a7, .int bm, .int br, .int ck, .int sa, .ref a8, .int lm, .int rs, .int at_, .ref a9, .int tm, .long hs])), (a1, .inl (ca 0, 226, .inl (sF z r f j nt nl gl gt))), (a3, .inl (ca 0, 1356, .inl fv))] sz) := by
  refine Met.ofW (cc := cX6_join) (maxL := 4) (ret := (some .int)) (by decide) rfl ?_
  intro p e s m args below meth c s₁ B hml hv
  obtain ⟨rfl, hsz, hP, hK, hD0⟩ := hv
  have hx := B.exec
  have hb := B.bytes
  have hr := B.returns
  have hts := atoms_spec (ws := wsX6_join) B.pre
  have hown : s.vm.findClass RX6 = some m.cls := findClass_of_methodNamed B.named
  have hlocks := B.notSynchronized
  subst hsz
  have hD := hD0.self (sz := s.heap.size)
  generalize hAe : va_A [(om, .inr (6, [.int thr, .ref a1, .ref a2, .ref a3, .int (nI sv), .ref a4, .ref a5, .ref a6, .int ln, .ref a7, .int bm, .int br, .int ck, .int sa, .ref a8, .int lm, .int rs, .int at_, .ref a9, .int tm, .long hs])), (a1, .inl (ca 0, 226, .inl (sF z r f j nt nl gl gt))), (a3, .inl (ca 0, 1356, .inl fv))] s.heap.size = A at hD ⊢
  have hA : ∀ q : Nat, s.heap.size ≤ q → A q := fun q h => by rw [← hAe]; exact Or.inr h
  have hS : va_S A s.heap s.heap [] := va_S.rf
  have hP : va_P D vwCl [(om, .inr (6, [.int thr, .ref a1, .ref a2, .ref a3, .int (nI sv), .ref a4, .ref a5, .ref a6, .int ln, .ref a7, .int bm, .int br, .int ck, .int sa, .ref a8, .int lm, .int rs, .int at_, .ref a9, .int tm, .long hs])), (a1, .inl (ca 0, 226, .inl (sF z r f j nt nl gl gt))), (a3, .inl (ca 0, 1356, .inl fv))] s.heap := hP
  have hKv := hK.1
  have hl := lv_entry ([.ref om, .int (nI q)]) (n := 4) (kk_le rfl)
  rw [lg_entry_eq]
  generalize (lg_sl ([.ref om, .int (nI q)]) ++ List.replicate (4 - (lg_sl ([.ref om, .int (nI q)])).length) Slot.unset).toArray = ls at hl ⊢
  have hl : lv_has ls 4 [(0, .ref om), (1, .int (nI q))] := hl
  generalize hQz : MQ below _ _ _ _ _ _ = Qz
  have hiX6 : ∀ w ∈ u_ws RX6 TX6 21, w ∈ wsX6_join := fun w h => by first | exact List.mem_cons_of_mem _ (List.mem_append_right _ h) | exact List.mem_cons_of_mem _ (List.mem_append_left _ (List.mem_append_right _ h)) | exact List.mem_cons_of_mem _ (List.mem_append_left _ (List.mem_append_left _ (List.mem_append_right _ h))) | exact List.mem_cons_of_mem _ (List.mem_append_left _ (List.mem_append_left _ (List.mem_append_left _ (List.mem_append_right _ h)))) | (revert w h; decide +kernel)
  have lk38 : (Cond.fieldLink RX6 38 "StripeSwipesModel" "thrown" "I").before _ s = true := hts _ (by decide +kernel)
  have lk7 : (Cond.fieldLink RX6 7 "StripeSwipesModel" "s" "[I").before _ s = true := hts _ (by decide +kernel)
  refine lv_aload_n hx hb dX6_join_0 rfl (lv_at hl 0 rfl) ?_
  refine lv_iconst (v := nI 0) hx hb dX6_join_1 (by decide) ?_
  refine va_put (D := D) (ci := 6) (v := .int (nI 0)) (ty := .int) (C := RX6) (T := TX6) (N := 21) hx hb hts hiX6 tyX6 tyX6_ok nmX6 hown hKv hP hD hS 0 rfl rfl 0 (by decide) lk38 (fun _ h9 => h9) rfl (by decide +kernel) rfl rfl (kk_le rfl) dX6_join_2 (fun H locs hP hD hS => ?_)
  have hP : va_P D vwCl [(om, .inr (6, [.int (nI 0), .ref a1, .ref a2, .ref a3, .int (nI sv), .ref a4, .ref a5, .ref a6, .int ln, .ref a7, .int bm, .int br, .int ck, .int sa, .ref a8, .int lm, .int rs, .int at_, .ref a9, .int tm, .long hs])), (a1, .inl (ca 0, 226, .inl (sF z r f j nt nl gl gt))), (a3, .inl (ca 0, 1356, .inl fv))] H := hP
  have hD : va_D A [(om, .inr (6, [.int (nI 0), .ref a1, .ref a2, .ref a3, .int (nI sv), .ref a4, .ref a5, .ref a6, .int ln, .ref a7, .int bm, .int br, .int ck, .int sa, .ref a8, .int lm, .int rs, .int at_, .ref a9, .int tm, .long hs])), (a1, .inl (ca 0, 226, .inl (sF z r f j nt nl gl gt))), (a3, .inl (ca 0, 1356, .inl fv))] := hD
  refine lv_iload_n hx hb dX6_join_5 rfl (lv_at hl 1 rfl) ?_
  refine lv_iconst (v := nI 0) hx hb dX6_join_6 (by decide) ?_
  refine lv_aload_n hx hb dX6_join_7 rfl (lv_at hl 0 rfl) ?_
  refine va_get (D := D) (ci := 6) (C := RX6) (T := TX6) (N := 21) hx hb hts hiX6 hown hKv hP 0 rfl rfl 1 (by decide) lk7 (fun _ h9 => h9) rfl dX6_join_8 ?_
  refine lv_iconst (v := nI 4) hx hb dX6_join_11 (by decide) ?_
  refine my_iald hx hb hK hP 1 rfl (by omega) (by omega) dX6_join_12 ?_
  rw [show sF z r f j nt nl gl gt 4 = nI nt from rfl]
  refine lv_iconst (v := nI 2) hx hb dX6_join_13 (by decide) ?_
  refine lv_isub hx hb dX6_join_14 ?_
  refine vp_callSi (va_Run.run (va_runS (As := [.int (nI q), .int (nI 0), .int ((nI nt) - (nI 2))]) (rest := []) ⟨hx, hb, hml, hown, hts⟩ (kX6_in l (nI q) (nI 0) ((nI nt) - (nI 2))) (va_cwS 3 hts gX6_join_X6_in rfl rfl rfl (by decide +kernel) ⟨kk_le rfl, kk_le rfl⟩) psN rfl rfl hl.1 rfl (lv_room (kk_le rfl)) dX6_join_15 ⟨kk_le rfl, kk_le rfl⟩)) (fun r1 hr1 => ?_)
  subst hr1
  have e2 : (bI (inF (nI q) (nI 0) ((nI nt) - (nI 2))) : Int32) = bI true := congrArg bI ((inp_m (d := 2) (by omega) (by decide) (by decide)).trans ((hasF_n (by omega) (by omega)).trans (decide_eq_true (by omega))))
  rw [e2]
  refine bi_if_ne (tgt := 27) hx hb dX6_join_18 (by decide) (fun c3 => ?_) (fun c3 => ?_)
  · refine lv_aload_n hx hb dX6_join_27 rfl (lv_at hl 0 rfl) ?_
    have hPc := hP
    have hDc := hD
    have hFc := va_free (wc := [(om, .inr (6, [.int (nI 0), .ref a1, .ref a2, .ref a3, .int (nI sv), .ref a4, .ref a5, .ref a6, .int ln, .ref a7, .int bm, .int br, .int ck, .int sa, .ref a8, .int lm, .int rs, .int at_, .ref a9, .int tm, .long hs])), (a1, .inl (ca 0, 226, .inl (sF z r f j nt nl gl gt))), (a3, .inl (ca 0, 1356, .inl fv))]) hD hS hA [0, 1, 2] rfl
    refine va_callv (va_runV (As := []) (rest := []) ⟨hx, hb, hml, hown, hts⟩ (kX6_saves l D ca H.size om a1 a2 a3 a4 a5 a6 a7 a8 a9 (nI 0) ln bm br ck sa lm rs at_ tm hs z r f j nt nl gl gt sv fv (by first | rfl | assumption | omega | trivial | (exfalso; omega))) (cwV 0 hts gX6_join_X6_saves rfl rfl rfl (by decide +kernel) ⟨kk_le rfl, kk_le rfl⟩) (pvM hK hPc (my_D_true hDc) (va_recv hKv hP (ci := 6) (q0 := 0) rfl rfl)) rfl rfl hl.1 rfl (lv_room (kk_le rfl)) dX6_join_28 ⟨kk_le rfl, kk_le rfl⟩) hS (fun q _ h => hFc q h) hFc (fun u t H1 locs ht hvm hwv hBv hz1 hk1 hS => ?_)
    obtain ⟨hP1, hD1⟩ := hBv
    rw [ht] at hP1
    have hP1 : va_P D vwCl [(om, .inr (6, [.int (nI 0), .ref a1, .ref a2, .ref a3, .int (nI (svN sv)), .ref a4, .ref a5, .ref a6, .int ln, .ref a7, .int bm, .int br, .int ck, .int sa, .ref a8, .int lm, .int rs, .int at_, .ref a9, .int tm, .long hs])), (a1, .inl (ca 0, 226, .inl (sF z r f j nt nl gl gt))), (a3, .inl (ca 0, 1356, .inl (savF fv sv (sF z r f j nt nl gl gt))))] H1 := hP1
    have hD1 : va_D _ [(om, .inr (6, [.int (nI 0), .ref a1, .ref a2, .ref a3, .int (nI (svN sv)), .ref a4, .ref a5, .ref a6, .int ln, .ref a7, .int bm, .int br, .int ck, .int sa, .ref a8, .int lm, .int rs, .int at_, .ref a9, .int tm, .long hs])), (a1, .inl (ca 0, 226, .inl (sF z r f j nt nl gl gt))), (a3, .inl (ca 0, 1356, .inl (savF fv sv (sF z r f j nt nl gl gt))))] := hD1
    have hw4 := hwv
    have hP := hP1
    have hD := hD1.weaken (fun _ _ _ h => hFc _ h)
    generalize H1 = H at hP hS ⊢
    have hP : va_P D vwCl [(om, .inr (6, [.int (nI 0), .ref a1, .ref a2, .ref a3, .int (nI (svN sv)), .ref a4, .ref a5, .ref a6, .int ln, .ref a7, .int bm, .int br, .int ck, .int sa, .ref a8, .int lm, .int rs, .int at_, .ref a9, .int tm, .long hs])), (a1, .inl (ca 0, 226, .inl (sF z r f j nt nl gl gt))), (a3, .inl (ca 0, 1356, .inl (savF fv sv (sF z r f j nt nl gl gt))))] H := hP
    have hD : va_D A [(om, .inr (6, [.int (nI 0), .ref a1, .ref a2, .ref a3, .int (nI (svN sv)), .ref a4, .ref a5, .ref a6, .int ln, .ref a7, .int bm, .int br, .int ck, .int sa, .ref a8, .int lm, .int rs, .int at_, .ref a9, .int tm, .long hs])), (a1, .inl (ca 0, 226, .inl (sF z r f j nt nl gl gt))), (a3, .inl (ca 0, 1356, .inl (savF fv sv (sF z r f j nt nl gl gt))))] := hD
    refine lv_aload_n hx hb dX6_join_31 rfl (lv_at hl 0 rfl) ?_
    refine va_get (D := D) (ci := 6) (C := RX6) (T := TX6) (N := 21) hx hb hts hiX6 hown hKv hP 0 rfl rfl 1 (by decide) lk7 (fun _ h9 => h9) rfl dX6_join_32 ?_
    refine lv_bipush (v := nI 26) hx hb dX6_join_35 (by decide) ?_
    refine lv_iload_n hx hb dX6_join_37 rfl (lv_at hl 1 rfl) ?_
    refine ni_iadd hx hb dX6_join_38 ?_
    refine my_iald hx hb hK hP 1 rfl (by omega) (by omega) dX6_join_39 ?_
    rw [show sF z r f j nt nl gl gt (26 + q) = gt q from sF_gt _ _ _ _ _ _ _ _ (by omega)]
    refine lv_aload_n hx hb dX6_join_40 rfl (lv_at hl 0 rfl) ?_
    refine va_get (D := D) (ci := 6) (C := RX6) (T := TX6) (N := 21) hx hb hts hiX6 hown hKv hP 0 rfl rfl 1 (by decide) lk7 (fun _ h9 => h9) rfl dX6_join_41 ?_
    refine lv_bipush (v := nI 26) hx hb dX6_join_44 (by decide) ?_
    refine lv_iload_n hx hb dX6_join_46 rfl (lv_at hl 1 rfl) ?_
    refine ni_iadd hx hb dX6_join_47 ?_
    refine lv_iconst (v := nI 1) hx hb dX6_join_48 (by decide) ?_
    refine ni_iadd hx hb dX6_join_49 ?_
    refine my_iald hx hb hK hP 1 rfl (by omega) (by omega) dX6_join_50 ?_
    rw [show sF z r f j nt nl gl gt ((26 + q) + 1) = gt (q + 1) from sF_gt _ _ _ _ _ _ _ _ (by omega)]
    refine lv_iadd hx hb dX6_join_51 ?_
    refine lv_istore_n (lv' := [(2, .int ((gt q) + (gt (q + 1)))), (0, .ref om), (1, .int (nI q))]) hx hb dX6_join_52 rfl hl (by decide) rfl (fun ls hl => ?_)
    refine lv_aload_n hx hb dX6_join_53 rfl (lv_at hl 1 rfl) ?_
    refine va_get (D := D) (ci := 6) (C := RX6) (T := TX6) (N := 21) hx hb hts hiX6 hown hKv hP 0 rfl rfl 1 (by decide) lk7 (fun _ h9 => h9) rfl dX6_join_54 ?_
    refine lv_bipush (v := nI 26) hx hb dX6_join_57 (by decide) ?_
    refine lv_iload_n hx hb dX6_join_59 rfl (lv_at hl 2 rfl) ?_
    refine ni_iadd hx hb dX6_join_60 ?_
    refine lv_iload_n hx hb dX6_join_61 rfl (lv_at hl 0 rfl) ?_
    refine my_iast hx hb hK hP hD hS 1 rfl (by omega) (by omega) dX6_join_62 (fun H locs hP hD hS => ?_)
    have hP : va_P D vwCl [(om, .inr (6, [.int (nI 0), .ref a1, .ref a2, .ref a3, .int (nI (svN sv)), .ref a4, .ref a5, .ref a6, .int ln, .ref a7, .int bm, .int br, .int ck, .int sa, .ref a8, .int lm, .int rs, .int at_, .ref a9, .int tm, .long hs])), (a1, .inl (ca 0, 226, .inl (upd (sF z r f j nt nl gl gt) (26 + q) ((gt q) + (gt (q + 1)))))), (a3, .inl (ca 0, 1356, .inl (savF fv sv (sF z r f j nt nl gl gt))))] H := hP
    have hD : va_D A [(om, .inr (6, [.int (nI 0), .ref a1, .ref a2, .ref a3, .int (nI (svN sv)), .ref a4, .ref a5, .ref a6, .int ln, .ref a7, .int bm, .int br, .int ck, .int sa, .ref a8, .int lm, .int rs, .int at_, .ref a9, .int tm, .long hs])), (a1, .inl (ca 0, 226, .inl (upd (sF z r f j nt nl gl gt) (26 + q) ((gt q) + (gt (q + 1)))))), (a3, .inl (ca 0, 1356, .inl (savF fv sv (sF z r f j nt nl gl gt))))] := hD
    have e6 : (upd (sF z r f j nt nl gl gt) (26 + q) ((gt q) + (gt (q + 1))) : Nat → Int32) = sF z r f j nt nl gl (upd gt q ((gt q) + (gt (q + 1)))) := sF_wt _ _ _ _ _ _ _ _ _ (by omega)
    have hP : va_P D vwCl [(om, .inr (6, [.int (nI 0), .ref a1, .ref a2, .ref a3, .int (nI (svN sv)), .ref a4, .ref a5, .ref a6, .int ln, .ref a7, .int bm, .int br, .int ck, .int sa, .ref a8, .int lm, .int rs, .int at_, .ref a9, .int tm, .long hs])), (a1, .inl (ca 0, 226, .inl (sF z r f j nt nl gl (upd gt q ((gt q) + (gt (q + 1))))))), (a3, .inl (ca 0, 1356, .inl (savF fv sv (sF z r f j nt nl gl gt))))] H := Eq.mp (congrArg (fun z9 : Nat → Int32 => va_P D vwCl [(om, .inr (6, [.int (nI 0), .ref a1, .ref a2, .ref a3, .int (nI (svN sv)), .ref a4, .ref a5, .ref a6, .int ln, .ref a7, .int bm, .int br, .int ck, .int sa, .ref a8, .int lm, .int rs, .int at_, .ref a9, .int tm, .long hs])), (a1, .inl (ca 0, 226, .inl z9)), (a3, .inl (ca 0, 1356, .inl (savF fv sv (sF z r f j nt nl gl gt))))] H) e6) hP
    have hD : va_D A [(om, .inr (6, [.int (nI 0), .ref a1, .ref a2, .ref a3, .int (nI (svN sv)), .ref a4, .ref a5, .ref a6, .int ln, .ref a7, .int bm, .int br, .int ck, .int sa, .ref a8, .int lm, .int rs, .int at_, .ref a9, .int tm, .long hs])), (a1, .inl (ca 0, 226, .inl (sF z r f j nt nl gl (upd gt q ((gt q) + (gt (q + 1))))))), (a3, .inl (ca 0, 1356, .inl (savF fv sv (sF z r f j nt nl gl gt))))] := Eq.mp (congrArg (fun z9 : Nat → Int32 => va_D A [(om, .inr (6, [.int (nI 0), .ref a1, .ref a2, .ref a3, .int (nI (svN sv)), .ref a4, .ref a5, .ref a6, .int ln, .ref a7, .int bm, .int br, .int ck, .int sa, .ref a8, .int lm, .int rs, .int at_, .ref a9, .int tm, .long hs])), (a1, .inl (ca 0, 226, .inl z9)), (a3, .inl (ca 0, 1356, .inl (savF fv sv (sF z r f j nt nl gl gt))))]) e6) hD
    refine lv_aload_n hx hb dX6_join_63 rfl (lv_at hl 1 rfl) ?_
    refine va_get (D := D) (ci := 6) (C := RX6) (T := TX6) (N := 21) hx hb hts hiX6 hown hKv hP 0 rfl rfl 1 (by decide) lk7 (fun _ h9 => h9) rfl dX6_join_64 ?_
    refine lv_iconst (v := nI 4) hx hb dX6_join_67 (by decide) ?_
    refine lv_dup2_11 hx hb dX6_join_68 rfl rfl ?_
    refine my_iald hx hb hK hP 1 rfl (by omega) (by omega) dX6_join_69 ?_
    rw [show sF z r f j nt nl gl (upd gt q ((gt q) + (gt (q + 1)))) 4 = nI nt from rfl]
    refine lv_iconst (v := nI 1) hx hb dX6_join_70 (by decide) ?_
    refine ni_isub (by omega) hx hb dX6_join_71 ?_
    refine my_iast hx hb hK hP hD hS 1 rfl (by omega) (by omega) dX6_join_72 (fun H locs hP hD hS => ?_)
    have hP : va_P D vwCl [(om, .inr (6, [.int (nI 0), .ref a1, .ref a2, .ref a3, .int (nI (svN sv)), .ref a4, .ref a5, .ref a6, .int ln, .ref a7, .int bm, .int br, .int ck, .int sa, .ref a8, .int lm, .int rs, .int at_, .ref a9, .int tm, .long hs])), (a1, .inl (ca 0, 226, .inl (upd (sF z r f j nt nl gl (upd gt q ((gt q) + (gt (q + 1))))) 4 (nI (nt - 1))))), (a3, .inl (ca 0, 1356, .inl (savF fv sv (sF z r f j nt nl gl gt))))] H := hP
    have hD : va_D A [(om, .inr (6, [.int (nI 0), .ref a1, .ref a2, .ref a3, .int (nI (svN sv)), .ref a4, .ref a5, .ref a6, .int ln, .ref a7, .int bm, .int br, .int ck, .int sa, .ref a8, .int lm, .int rs, .int at_, .ref a9, .int tm, .long hs])), (a1, .inl (ca 0, 226, .inl (upd (sF z r f j nt nl gl (upd gt q ((gt q) + (gt (q + 1))))) 4 (nI (nt - 1))))), (a3, .inl (ca 0, 1356, .inl (savF fv sv (sF z r f j nt nl gl gt))))] := hD
    have e7 : (upd (sF z r f j nt nl gl (upd gt q ((gt q) + (gt (q + 1))))) 4 (nI (nt - 1)) : Nat → Int32) = sF z r f j (nt - 1) nl gl (upd gt q ((gt q) + (gt (q + 1)))) := sF_w4 _ _ _ _ _ _ _ _ _
    have hP : va_P D vwCl [(om, .inr (6, [.int (nI 0), .ref a1, .ref a2, .ref a3, .int (nI (svN sv)), .ref a4, .ref a5, .ref a6, .int ln, .ref a7, .int bm, .int br, .int ck, .int sa, .ref a8, .int lm, .int rs, .int at_, .ref a9, .int tm, .long hs])), (a1, .inl (ca 0, 226, .inl (sF z r f j (nt - 1) nl gl (upd gt q ((gt q) + (gt (q + 1))))))), (a3, .inl (ca 0, 1356, .inl (savF fv sv (sF z r f j nt nl gl gt))))] H := Eq.mp (congrArg (fun z9 : Nat → Int32 => va_P D vwCl [(om, .inr (6, [.int (nI 0), .ref a1, .ref a2, .ref a3, .int (nI (svN sv)), .ref a4, .ref a5, .ref a6, .int ln, .ref a7, .int bm, .int br, .int ck, .int sa, .ref a8, .int lm, .int rs, .int at_, .ref a9, .int tm, .long hs])), (a1, .inl (ca 0, 226, .inl z9)), (a3, .inl (ca 0, 1356, .inl (savF fv sv (sF z r f j nt nl gl gt))))] H) e7) hP
    have hD : va_D A [(om, .inr (6, [.int (nI 0), .ref a1, .ref a2, .ref a3, .int (nI (svN sv)), .ref a4, .ref a5, .ref a6, .int ln, .ref a7, .int bm, .int br, .int ck, .int sa, .ref a8, .int lm, .int rs, .int at_, .ref a9, .int tm, .long hs])), (a1, .inl (ca 0, 226, .inl (sF z r f j (nt - 1) nl gl (upd gt q ((gt q) + (gt (q + 1))))))), (a3, .inl (ca 0, 1356, .inl (savF fv sv (sF z r f j nt nl gl gt))))] := Eq.mp (congrArg (fun z9 : Nat → Int32 => va_D A [(om, .inr (6, [.int (nI 0), .ref a1, .ref a2, .ref a3, .int (nI (svN sv)), .ref a4, .ref a5, .ref a6, .int ln, .ref a7, .int bm, .int br, .int ck, .int sa, .ref a8, .int lm, .int rs, .int at_, .ref a9, .int tm, .long hs])), (a1, .inl (ca 0, 226, .inl z9)), (a3, .inl (ca 0, 1356, .inl (savF fv sv (sF z r f j nt nl gl gt))))]) e7) hD
    refine lv_iload_n hx hb dX6_join_73 rfl (lv_at hl 2 rfl) ?_
    refine lv_iconst (v := nI 1) hx hb dX6_join_74 (by decide) ?_
    refine ni_iadd hx hb dX6_join_75 ?_
    refine lv_istore_n (lv' := [(3, .int (nI (q + 1))), (2, .int ((gt q) + (gt (q + 1)))), (0, .ref om), (1, .int (nI q))]) hx hb dX6_join_76 rfl hl (by decide) rfl (fun ls hl => ?_)
    have lp77_7 : ∀ (k1 : Nat) (i : Nat), nt - i < k1 → (i ≤ nt - 1) → (q + 1 ≤ i) → ∀ (H : Heap) (locs : List Loc), va_P D vwCl [(om, .inr (6, [.int (nI 0), .ref a1, .ref a2, .ref a3, .int (nI (svN sv)), .ref a4, .ref a5, .ref a6, .int ln, .ref a7, .int bm, .int br, .int ck, .int sa, .ref a8, .int lm, .int rs, .int at_, .ref a9, .int tm, .long hs])), (a1, .inl (ca 0, 226, .inl (sF z r f j (nt - 1) nl gl (joF gt nt q i)))), (a3, .inl (ca 0, 1356, .inl (savF fv sv (sF z r f j nt nl gl gt))))] H → va_D A [(om, .inr (6, [.int (nI 0), .ref a1, .ref a2, .ref a3, .int (nI (svN sv)), .ref a4, .ref a5, .ref a6, .int ln, .ref a7, .int bm, .int br, .int ck, .int sa, .ref a8, .int lm, .int rs, .int at_, .ref a9, .int tm, .long hs])), (a1, .inl (ca 0, 226, .inl (sF z r f j (nt - 1) nl gl (joF gt nt q i)))), (a3, .inl (ca 0, 1356, .inl (savF fv sv (sF z r f j nt nl gl gt))))] → va_S A s.heap H locs → ∀ (ls : Array Slot), lv_has ls 4 [(3, .int (nI i)), (2, .int ((gt q) + (gt (q + 1)))), (0, .ref om), (1, .int (nI q))] → W p l e rm_kX6_join_ok s m ([.ref om, .int (nI q)] : List Value).toArray below meth c H locs 0 0 Qz (F0 m 77 ls []) := by
      intro k1
      induction k1 with
      | zero => intro i hm1; exact absurd hm1 (Nat.not_lt_zero _)
      | succ k1 ih1 =>
        intro i hm1 hi hi2 H locs hP hD hS ls hl
        refine lv_iload_n hx hb dX6_join_77 rfl (lv_at hl 0 rfl) ?_
        refine lv_aload_n hx hb dX6_join_78 rfl (lv_at hl 2 rfl) ?_
        refine va_get (D := D) (ci := 6) (C := RX6) (T := TX6) (N := 21) hx hb hts hiX6 hown hKv hP 0 rfl rfl 1 (by decide) lk7 (fun _ h9 => h9) rfl dX6_join_79 ?_
        refine lv_iconst (v := nI 4) hx hb dX6_join_82 (by decide) ?_
        refine my_iald hx hb hK hP 1 rfl (by omega) (by omega) dX6_join_83 ?_
        rw [show sF z r f j (nt - 1) nl gl (joF gt nt q i) 4 = nI (nt - 1) from rfl]
        refine ni_icmp_ge (tgt := 113) (by omega) (by omega) hx hb dX6_join_84 (by decide) (fun c9 => ?_) (fun c9 => ?_)
        · refine lv_aload_n hx hb dX6_join_113 rfl (lv_at hl 2 rfl) ?_
          refine va_get (D := D) (ci := 6) (C := RX6) (T := TX6) (N := 21) hx hb hts hiX6 hown hKv hP 0 rfl rfl 1 (by decide) lk7 (fun _ h9 => h9) rfl dX6_join_114 ?_
          refine lv_bipush (v := nI 26) hx hb dX6_join_117 (by decide) ?_
          refine lv_aload_n hx hb dX6_join_119 rfl (lv_at hl 2 rfl) ?_
          refine va_get (D := D) (ci := 6) (C := RX6) (T := TX6) (N := 21) hx hb hts hiX6 hown hKv hP 0 rfl rfl 1 (by decide) lk7 (fun _ h9 => h9) rfl dX6_join_120 ?_
          refine lv_iconst (v := nI 4) hx hb dX6_join_123 (by decide) ?_
          refine my_iald hx hb hK hP 1 rfl (by omega) (by omega) dX6_join_124 ?_
          rw [show sF z r f j (nt - 1) nl gl (joF gt nt q i) 4 = nI (nt - 1) from rfl]
          refine ni_iadd hx hb dX6_join_125 ?_
          refine lv_iconst (v := nI 0) hx hb dX6_join_126 (by decide) ?_
          refine my_iast hx hb hK hP hD hS 1 rfl (by omega) (by omega) dX6_join_127 (fun H locs hP hD hS => ?_)
          have hP : va_P D vwCl [(om, .inr (6, [.int (nI 0), .ref a1, .ref a2, .ref a3, .int (nI (svN sv)), .ref a4, .ref a5, .ref a6, .int ln, .ref a7, .int bm, .int br, .int ck, .int sa, .ref a8, .int lm, .int rs, .int at_, .ref a9, .int tm, .long hs])), (a1, .inl (ca 0, 226, .inl (upd (sF z r f j (nt - 1) nl gl (joF gt nt q i)) (26 + (nt - 1)) (nI 0)))), (a3, .inl (ca 0, 1356, .inl (savF fv sv (sF z r f j nt nl gl gt))))] H := hP
          have hD : va_D A [(om, .inr (6, [.int (nI 0), .ref a1, .ref a2, .ref a3, .int (nI (svN sv)), .ref a4, .ref a5, .ref a6, .int ln, .ref a7, .int bm, .int br, .int ck, .int sa, .ref a8, .int lm, .int rs, .int at_, .ref a9, .int tm, .long hs])), (a1, .inl (ca 0, 226, .inl (upd (sF z r f j (nt - 1) nl gl (joF gt nt q i)) (26 + (nt - 1)) (nI 0)))), (a3, .inl (ca 0, 1356, .inl (savF fv sv (sF z r f j nt nl gl gt))))] := hD
          have e10 : (upd (sF z r f j (nt - 1) nl gl (joF gt nt q i)) (26 + (nt - 1)) (nI 0) : Nat → Int32) = sF z r f j (nt - 1) nl gl (upd (joF gt nt q i) (nt - 1) (nI 0)) := sF_wt _ _ _ _ _ _ _ _ _ (by omega)
          have hP : va_P D vwCl [(om, .inr (6, [.int (nI 0), .ref a1, .ref a2, .ref a3, .int (nI (svN sv)), .ref a4, .ref a5, .ref a6, .int ln, .ref a7, .int bm, .int br, .int ck, .int sa, .ref a8, .int lm, .int rs, .int at_, .ref a9, .int tm, .long hs])), (a1, .inl (ca 0, 226, .inl (sF z r f j (nt - 1) nl gl (upd (joF gt nt q i) (nt - 1) (nI 0))))), (a3, .inl (ca 0, 1356, .inl (savF fv sv (sF z r f j nt nl gl gt))))] H := Eq.mp (congrArg (fun z9 : Nat → Int32 => va_P D vwCl [(om, .inr (6, [.int (nI 0), .ref a1, .ref a2, .ref a3, .int (nI (svN sv)), .ref a4, .ref a5, .ref a6, .int ln, .ref a7, .int bm, .int br, .int ck, .int sa, .ref a8, .int lm, .int rs, .int at_, .ref a9, .int tm, .long hs])), (a1, .inl (ca 0, 226, .inl z9)), (a3, .inl (ca 0, 1356, .inl (savF fv sv (sF z r f j nt nl gl gt))))] H) e10) hP
          have hD : va_D A [(om, .inr (6, [.int (nI 0), .ref a1, .ref a2, .ref a3, .int (nI (svN sv)), .ref a4, .ref a5, .ref a6, .int ln, .ref a7, .int bm, .int br, .int ck, .int sa, .ref a8, .int lm, .int rs, .int at_, .ref a9, .int tm, .long hs])), (a1, .inl (ca 0, 226, .inl (sF z r f j (nt - 1) nl gl (upd (joF gt nt q i) (nt - 1) (nI 0))))), (a3, .inl (ca 0, 1356, .inl (savF fv sv (sF z r f j nt nl gl gt))))] := Eq.mp (congrArg (fun z9 : Nat → Int32 => va_D A [(om, .inr (6, [.int (nI 0), .ref a1, .ref a2, .ref a3, .int (nI (svN sv)), .ref a4, .ref a5, .ref a6, .int ln, .ref a7, .int bm, .int br, .int ck, .int sa, .ref a8, .int lm, .int rs, .int at_, .ref a9, .int tm, .long hs])), (a1, .inl (ca 0, 226, .inl z9)), (a3, .inl (ca 0, 1356, .inl (savF fv sv (sF z r f j nt nl gl gt))))]) e10) hD
          refine lv_iload_n hx hb dX6_join_128 rfl (lv_at hl 1 rfl) ?_
          subst hQz
          have e11 : (sF z r f j (nt - 1) nl gl (upd (joF gt nt q i) (nt - 1) (nI 0)) : Nat → Int32) = sF z r f j (nt - 1) nl gl (upd (joF gt nt q (nt - 1)) (nt - 1) (nI 0)) := by (have hz9 : i = nt - 1 := (by omega); rw [hz9])
          have hP : va_P D vwCl [(om, .inr (6, [.int (nI 0), .ref a1, .ref a2, .ref a3, .int (nI (svN sv)), .ref a4, .ref a5, .ref a6, .int ln, .ref a7, .int bm, .int br, .int ck, .int sa, .ref a8, .int lm, .int rs, .int at_, .ref a9, .int tm, .long hs])), (a1, .inl (ca 0, 226, .inl (sF z r f j (nt - 1) nl gl (upd (joF gt nt q (nt - 1)) (nt - 1) (nI 0))))), (a3, .inl (ca 0, 1356, .inl (savF fv sv (sF z r f j nt nl gl gt))))] H := Eq.mp (congrArg (fun z9 : Nat → Int32 => va_P D vwCl [(om, .inr (6, [.int (nI 0), .ref a1, .ref a2, .ref a3, .int (nI (svN sv)), .ref a4, .ref a5, .ref a6, .int ln, .ref a7, .int bm, .int br, .int ck, .int sa, .ref a8, .int lm, .int rs, .int at_, .ref a9, .int tm, .long hs])), (a1, .inl (ca 0, 226, .inl z9)), (a3, .inl (ca 0, 1356, .inl (savF fv sv (sF z r f j nt nl gl gt))))] H) e11) hP
          have hD : va_D A [(om, .inr (6, [.int (nI 0), .ref a1, .ref a2, .ref a3, .int (nI (svN sv)), .ref a4, .ref a5, .ref a6, .int ln, .ref a7, .int bm, .int br, .int ck, .int sa, .ref a8, .int lm, .int rs, .int at_, .ref a9, .int tm, .long hs])), (a1, .inl (ca 0, 226, .inl (sF z r f j (nt - 1) nl gl (upd (joF gt nt q (nt - 1)) (nt - 1) (nI 0))))), (a3, .inl (ca 0, 1356, .inl (savF fv sv (sF z r f j nt nl gl gt))))] := Eq.mp (congrArg (fun z9 : Nat → Int32 => va_D A [(om, .inr (6, [.int (nI 0), .ref a1, .ref a2, .ref a3, .int (nI (svN sv)), .ref a4, .ref a5, .ref a6, .int ln, .ref a7, .int bm, .int br, .int ck, .int sa, .ref a8, .int lm, .int rs, .int at_, .ref a9, .int tm, .long hs])), (a1, .inl (ca 0, 226, .inl z9)), (a3, .inl (ca 0, 1356, .inl (savF fv sv (sF z r f j nt nl gl gt))))]) e11) hD
          exact W.iret (v := (gt q) + (gt (q + 1))) hx hb hr (fun t ht hW => ⟨⟨_, (), rfl, ⟨by rfl, by trivial⟩, by rw [ht]; exact hP, hD⟩, hS.F ht⟩) hS.2.2 dX6_join_129
        · refine lv_aload_n hx hb dX6_join_87 rfl (lv_at hl 2 rfl) ?_
          refine va_get (D := D) (ci := 6) (C := RX6) (T := TX6) (N := 21) hx hb hts hiX6 hown hKv hP 0 rfl rfl 1 (by decide) lk7 (fun _ h9 => h9) rfl dX6_join_88 ?_
          refine lv_bipush (v := nI 26) hx hb dX6_join_91 (by decide) ?_
          refine lv_iload_n hx hb dX6_join_93 rfl (lv_at hl 0 rfl) ?_
          refine ni_iadd hx hb dX6_join_94 ?_
          refine lv_aload_n hx hb dX6_join_95 rfl (lv_at hl 2 rfl) ?_
          refine va_get (D := D) (ci := 6) (C := RX6) (T := TX6) (N := 21) hx hb hts hiX6 hown hKv hP 0 rfl rfl 1 (by decide) lk7 (fun _ h9 => h9) rfl dX6_join_96 ?_
          refine lv_bipush (v := nI 26) hx hb dX6_join_99 (by decide) ?_
          refine lv_iload_n hx hb dX6_join_101 rfl (lv_at hl 0 rfl) ?_
          refine ni_iadd hx hb dX6_join_102 ?_
          refine lv_iconst (v := nI 1) hx hb dX6_join_103 (by decide) ?_
          refine ni_iadd hx hb dX6_join_104 ?_
          refine my_iald hx hb hK hP 1 rfl (by omega) (by omega) dX6_join_105 ?_
          rw [show sF z r f j (nt - 1) nl gl (joF gt nt q i) ((26 + i) + 1) = (joF gt nt q i) (i + 1) from sF_gt _ _ _ _ _ _ _ _ (by omega)]
          refine my_iast hx hb hK hP hD hS 1 rfl (by omega) (by omega) dX6_join_106 (fun H locs hP hD hS => ?_)
          have hP : va_P D vwCl [(om, .inr (6, [.int (nI 0), .ref a1, .ref a2, .ref a3, .int (nI (svN sv)), .ref a4, .ref a5, .ref a6, .int ln, .ref a7, .int bm, .int br, .int ck, .int sa, .ref a8, .int lm, .int rs, .int at_, .ref a9, .int tm, .long hs])), (a1, .inl (ca 0, 226, .inl (upd (sF z r f j (nt - 1) nl gl (joF gt nt q i)) (26 + i) ((joF gt nt q i) (i + 1))))), (a3, .inl (ca 0, 1356, .inl (savF fv sv (sF z r f j nt nl gl gt))))] H := hP
          have hD : va_D A [(om, .inr (6, [.int (nI 0), .ref a1, .ref a2, .ref a3, .int (nI (svN sv)), .ref a4, .ref a5, .ref a6, .int ln, .ref a7, .int bm, .int br, .int ck, .int sa, .ref a8, .int lm, .int rs, .int at_, .ref a9, .int tm, .long hs])), (a1, .inl (ca 0, 226, .inl (upd (sF z r f j (nt - 1) nl gl (joF gt nt q i)) (26 + i) ((joF gt nt q i) (i + 1))))), (a3, .inl (ca 0, 1356, .inl (savF fv sv (sF z r f j nt nl gl gt))))] := hD
          have e12 : (upd (sF z r f j (nt - 1) nl gl (joF gt nt q i)) (26 + i) ((joF gt nt q i) (i + 1)) : Nat → Int32) = sF z r f j (nt - 1) nl gl (upd (joF gt nt q i) i ((joF gt nt q i) (i + 1))) := sF_wt _ _ _ _ _ _ _ _ _ (by omega)
          have hP : va_P D vwCl [(om, .inr (6, [.int (nI 0), .ref a1, .ref a2, .ref a3, .int (nI (svN sv)), .ref a4, .ref a5, .ref a6, .int ln, .ref a7, .int bm, .int br, .int ck, .int sa, .ref a8, .int lm, .int rs, .int at_, .ref a9, .int tm, .long hs])), (a1, .inl (ca 0, 226, .inl (sF z r f j (nt - 1) nl gl (upd (joF gt nt q i) i ((joF gt nt q i) (i + 1)))))), (a3, .inl (ca 0, 1356, .inl (savF fv sv (sF z r f j nt nl gl gt))))] H := Eq.mp (congrArg (fun z9 : Nat → Int32 => va_P D vwCl [(om, .inr (6, [.int (nI 0), .ref a1, .ref a2, .ref a3, .int (nI (svN sv)), .ref a4, .ref a5, .ref a6, .int ln, .ref a7, .int bm, .int br, .int ck, .int sa, .ref a8, .int lm, .int rs, .int at_, .ref a9, .int tm, .long hs])), (a1, .inl (ca 0, 226, .inl z9)), (a3, .inl (ca 0, 1356, .inl (savF fv sv (sF z r f j nt nl gl gt))))] H) e12) hP
          have hD : va_D A [(om, .inr (6, [.int (nI 0), .ref a1, .ref a2, .ref a3, .int (nI (svN sv)), .ref a4, .ref a5, .ref a6, .int ln, .ref a7, .int bm, .int br, .int ck, .int sa, .ref a8, .int lm, .int rs, .int at_, .ref a9, .int tm, .long hs])), (a1, .inl (ca 0, 226, .inl (sF z r f j (nt - 1) nl gl (upd (joF gt nt q i) i ((joF gt nt q i) (i + 1)))))), (a3, .inl (ca 0, 1356, .inl (savF fv sv (sF z r f j nt nl gl gt))))] := Eq.mp (congrArg (fun z9 : Nat → Int32 => va_D A [(om, .inr (6, [.int (nI 0), .ref a1, .ref a2, .ref a3, .int (nI (svN sv)), .ref a4, .ref a5, .ref a6, .int ln, .ref a7, .int bm, .int br, .int ck, .int sa, .ref a8, .int lm, .int rs, .int at_, .ref a9, .int tm, .long hs])), (a1, .inl (ca 0, 226, .inl z9)), (a3, .inl (ca 0, 1356, .inl (savF fv sv (sF z r f j nt nl gl gt))))]) e12) hD
          refine lv_iinc (v := nI (i + 1)) (lv' := [(3, .int (nI (i + 1))), (2, .int ((gt q) + (gt (q + 1)))), (0, .ref om), (1, .int (nI q))]) hx hb dX6_join_107 hl (k := 0) rfl (ni_inc _ _ (by decide)) (by decide) rfl (fun ls hl => ?_)
          refine lv_goto (tgt := 77) hx hb dX6_join_110 (by decide) ?_
          have e13 : (sF z r f j (nt - 1) nl gl (upd (joF gt nt q i) i ((joF gt nt q i) (i + 1))) : Nat → Int32) = sF z r f j (nt - 1) nl gl (joF gt nt q (i + 1)) := by exact congrArg (sF z r f j (nt - 1) nl gl) (joF_step gt nt (by omega))
          have hP : va_P D vwCl [(om, .inr (6, [.int (nI 0), .ref a1, .ref a2, .ref a3, .int (nI (svN sv)), .ref a4, .ref a5, .ref a6, .int ln, .ref a7, .int bm, .int br, .int ck, .int sa, .ref a8, .int lm, .int rs, .int at_, .ref a9, .int tm, .long hs])), (a1, .inl (ca 0, 226, .inl (sF z r f j (nt - 1) nl gl (joF gt nt q (i + 1))))), (a3, .inl (ca 0, 1356, .inl (savF fv sv (sF z r f j nt nl gl gt))))] H := Eq.mp (congrArg (fun z9 : Nat → Int32 => va_P D vwCl [(om, .inr (6, [.int (nI 0), .ref a1, .ref a2, .ref a3, .int (nI (svN sv)), .ref a4, .ref a5, .ref a6, .int ln, .ref a7, .int bm, .int br, .int ck, .int sa, .ref a8, .int lm, .int rs, .int at_, .ref a9, .int tm, .long hs])), (a1, .inl (ca 0, 226, .inl z9)), (a3, .inl (ca 0, 1356, .inl (savF fv sv (sF z r f j nt nl gl gt))))] H) e13) hP
          have hD : va_D A [(om, .inr (6, [.int (nI 0), .ref a1, .ref a2, .ref a3, .int (nI (svN sv)), .ref a4, .ref a5, .ref a6, .int ln, .ref a7, .int bm, .int br, .int ck, .int sa, .ref a8, .int lm, .int rs, .int at_, .ref a9, .int tm, .long hs])), (a1, .inl (ca 0, 226, .inl (sF z r f j (nt - 1) nl gl (joF gt nt q (i + 1))))), (a3, .inl (ca 0, 1356, .inl (savF fv sv (sF z r f j nt nl gl gt))))] := Eq.mp (congrArg (fun z9 : Nat → Int32 => va_D A [(om, .inr (6, [.int (nI 0), .ref a1, .ref a2, .ref a3, .int (nI (svN sv)), .ref a4, .ref a5, .ref a6, .int ln, .ref a7, .int bm, .int br, .int ck, .int sa, .ref a8, .int lm, .int rs, .int at_, .ref a9, .int tm, .long hs])), (a1, .inl (ca 0, 226, .inl z9)), (a3, .inl (ca 0, 1356, .inl (savF fv sv (sF z r f j nt nl gl gt))))]) e13) hD
          exact ih1 (i + 1) (by omega) (by omega) (by omega) _ _ hP hD hS ls (lv_sub hl [0, 1, 2, 3] rfl)
    have e14 : (sF z r f j (nt - 1) nl gl (upd gt q ((gt q) + (gt (q + 1)))) : Nat → Int32) = sF z r f j (nt - 1) nl gl (joF gt nt q (q + 1)) := by exact congrArg (sF z r f j (nt - 1) nl gl) (joF_0 gt nt q)
    have hP : va_P D vwCl [(om, .inr (6, [.int (nI 0), .ref a1, .ref a2, .ref a3, .int (nI (svN sv)), .ref a4, .ref a5, .ref a6, .int ln, .ref a7, .int bm, .int br, .int ck, .int sa, .ref a8, .int lm, .int rs, .int at_, .ref a9, .int tm, .long hs])), (a1, .inl (ca 0, 226, .inl (sF z r f j (nt - 1) nl gl (joF gt nt q (q + 1))))), (a3, .inl (ca 0, 1356, .inl (savF fv sv (sF z r f j nt nl gl gt))))] H := Eq.mp (congrArg (fun z9 : Nat → Int32 => va_P D vwCl [(om, .inr (6, [.int (nI 0), .ref a1, .ref a2, .ref a3, .int (nI (svN sv)), .ref a4, .ref a5, .ref a6, .int ln, .ref a7, .int bm, .int br, .int ck, .int sa, .ref a8, .int lm, .int rs, .int at_, .ref a9, .int tm, .long hs])), (a1, .inl (ca 0, 226, .inl z9)), (a3, .inl (ca 0, 1356, .inl (savF fv sv (sF z r f j nt nl gl gt))))] H) e14) hP
    have hD : va_D A [(om, .inr (6, [.int (nI 0), .ref a1, .ref a2, .ref a3, .int (nI (svN sv)), .ref a4, .ref a5, .ref a6, .int ln, .ref a7, .int bm, .int br, .int ck, .int sa, .ref a8, .int lm, .int rs, .int at_, .ref a9, .int tm, .long hs])), (a1, .inl (ca 0, 226, .inl (sF z r f j (nt - 1) nl gl (joF gt nt q (q + 1))))), (a3, .inl (ca 0, 1356, .inl (savF fv sv (sF z r f j nt nl gl gt))))] := Eq.mp (congrArg (fun z9 : Nat → Int32 => va_D A [(om, .inr (6, [.int (nI 0), .ref a1, .ref a2, .ref a3, .int (nI (svN sv)), .ref a4, .ref a5, .ref a6, .int ln, .ref a7, .int bm, .int br, .int ck, .int sa, .ref a8, .int lm, .int rs, .int at_, .ref a9, .int tm, .long hs])), (a1, .inl (ca 0, 226, .inl z9)), (a3, .inl (ca 0, 1356, .inl (savF fv sv (sF z r f j nt nl gl gt))))]) e14) hD
    exact lp77_7 ((nt - (q + 1)) + 1) (q + 1) (by omega) (by omega) (by omega) _ _ hP hD hS ls (lv_sub hl [0, 1, 2, 3] rfl)
  · first | exact False.elim c3 | exact absurd c3 (by decide) | (exfalso; omega)
abbrev rm_kX6_join_bad : Room := { frames := 1, cells := 0, slots := 0, locals := 22 }
set_option maxHeartbeats 4000000 in
set_option maxRecDepth 100000 in
theorem kX6_join_bad (l : Launch) (D : va_G) (ca : Nat → ClassId) (sz : Nat) (om a1 a2 a3 a4 a5 a6 a7 a8 a9 : Nat) (thr sv ln bm br ck sa lm rs at_ tm : Int32) (hs : Int64) (z : Nat) (r f j : Int32) (nt nl : Nat) (gl gt : Nat → Int32) (x : Int32) (hnt : nt ≤ 200) (hnl : nl ≤ 20) (hz : z ≤ 30) (hbad : hasF (nt - 1) x = false) : Met l yX6_join wsX6_join rm_kX6_join_bad (pcM D ca [.ref om, .int x] [(om, .inr (6, [.int thr, .ref a1, .ref a2, .ref a3, .int sv, .ref a4, .ref a5, .ref a6, .int ln, .ref a7, .int bm, .int br, .int ck, .int sa, .ref a8, .int lm, .int rs, .int at_, .ref a9, .int tm, .long hs])), (a1, .inl (ca 0, 226, .inl (sF z r f j nt nl gl gt)))] sz) (va_Qi (fun (zr : Int32) (u : Unit) => zr = nI 0 ∧ True) (qB D (va_A [(om, .inr (6, [.int thr, .ref a1, .ref a2, .ref a3, .int sv, .ref a4, .ref a5, .ref a6, .int ln, .ref a7, .int bm, .int br, .int ck, .int sa, .ref a8, .int lm, .int rs, .int at_, .ref a9, .int tm, .long hs])), (a1, .inl (ca 0, 226, .inl (sF z r f j nt nl gl gt)))] sz) (fun u : Unit => [(om, .inr (6, [.int (nI 1), .ref a1, .ref a2, .ref a3, .int sv, .ref a4, .ref a5, .ref a6, .int ln, .ref a7, .int bm, .int br, .int ck, .int sa, .ref a8, .int lm, .int rs, .int at_, .ref a9, .int tm, .long hs])), (a1, .inl (ca 0, 226, .inl (sF z r f j nt nl gl gt)))])) (va_A [(om, .inr (6, [.int thr, .ref a1, .ref a2, .ref a3, .int sv, .ref a4, .ref a5, .ref a6, .int ln, .ref a7, .int bm, .int br, .int ck, .int sa, .ref a8, .int lm, .int rs, .int at_, .ref a9, .int tm, .long hs])), (a1, .inl (ca 0, 226, .inl (sF z r f j nt nl gl gt)))] sz)) 0 0 (va_A [(om, .inr (6, [.int thr, .ref a1, .ref a2, .ref a3, .int sv, .ref a4, .ref a5, .ref a6, .int ln, .ref a7, .int bm, .int br, .int ck, .int sa, .ref a8, .int lm, .int rs, .int at_, .ref a9, .int tm, .long hs])), (a1, .inl (ca 0, 226, .inl (sF z r f j nt nl gl gt)))] sz) := by
  refine Met.ofW (cc := cX6_join) (maxL := 4) (ret := (some .int)) (by decide) rfl ?_
  intro p e s m args below meth c s₁ B hml hv
  obtain ⟨rfl, hsz, hP, hK, hD0⟩ := hv
  have hx := B.exec
  have hb := B.bytes
  have hr := B.returns
  have hts := atoms_spec (ws := wsX6_join) B.pre
  have hown : s.vm.findClass RX6 = some m.cls := findClass_of_methodNamed B.named
  have hlocks := B.notSynchronized
  subst hsz
  have hD := hD0.self (sz := s.heap.size)
  generalize hAe : va_A [(om, .inr (6, [.int thr, .ref a1, .ref a2, .ref a3, .int sv, .ref a4, .ref a5, .ref a6, .int ln, .ref a7, .int bm, .int br, .int ck, .int sa, .ref a8, .int lm, .int rs, .int at_, .ref a9, .int tm, .long hs])), (a1, .inl (ca 0, 226, .inl (sF z r f j nt nl gl gt)))] s.heap.size = A at hD ⊢
  have hA : ∀ q : Nat, s.heap.size ≤ q → A q := fun q h => by rw [← hAe]; exact Or.inr h
  have hS : va_S A s.heap s.heap [] := va_S.rf
  have hP : va_P D vwCl [(om, .inr (6, [.int thr, .ref a1, .ref a2, .ref a3, .int sv, .ref a4, .ref a5, .ref a6, .int ln, .ref a7, .int bm, .int br, .int ck, .int sa, .ref a8, .int lm, .int rs, .int at_, .ref a9, .int tm, .long hs])), (a1, .inl (ca 0, 226, .inl (sF z r f j nt nl gl gt)))] s.heap := hP
  have hKv := hK.1
  have hl := lv_entry ([.ref om, .int x]) (n := 4) (kk_le rfl)
  rw [lg_entry_eq]
  generalize (lg_sl ([.ref om, .int x]) ++ List.replicate (4 - (lg_sl ([.ref om, .int x])).length) Slot.unset).toArray = ls at hl ⊢
  have hl : lv_has ls 4 [(0, .ref om), (1, .int x)] := hl
  have hiX6 : ∀ w ∈ u_ws RX6 TX6 21, w ∈ wsX6_join := fun w h => by first | exact List.mem_cons_of_mem _ (List.mem_append_right _ h) | exact List.mem_cons_of_mem _ (List.mem_append_left _ (List.mem_append_right _ h)) | exact List.mem_cons_of_mem _ (List.mem_append_left _ (List.mem_append_left _ (List.mem_append_right _ h))) | exact List.mem_cons_of_mem _ (List.mem_append_left _ (List.mem_append_left _ (List.mem_append_left _ (List.mem_append_right _ h)))) | (revert w h; decide +kernel)
  have lk38 : (Cond.fieldLink RX6 38 "StripeSwipesModel" "thrown" "I").before _ s = true := hts _ (by decide +kernel)
  have lk7 : (Cond.fieldLink RX6 7 "StripeSwipesModel" "s" "[I").before _ s = true := hts _ (by decide +kernel)
  refine lv_aload_n hx hb dX6_join_0 rfl (lv_at hl 0 rfl) ?_
  refine lv_iconst (v := nI 0) hx hb dX6_join_1 (by decide) ?_
  refine va_put (D := D) (ci := 6) (v := .int (nI 0)) (ty := .int) (C := RX6) (T := TX6) (N := 21) hx hb hts hiX6 tyX6 tyX6_ok nmX6 hown hKv hP hD hS 0 rfl rfl 0 (by decide) lk38 (fun _ h9 => h9) rfl (by decide +kernel) rfl rfl (kk_le rfl) dX6_join_2 (fun H locs hP hD hS => ?_)
  have hP : va_P D vwCl [(om, .inr (6, [.int (nI 0), .ref a1, .ref a2, .ref a3, .int sv, .ref a4, .ref a5, .ref a6, .int ln, .ref a7, .int bm, .int br, .int ck, .int sa, .ref a8, .int lm, .int rs, .int at_, .ref a9, .int tm, .long hs])), (a1, .inl (ca 0, 226, .inl (sF z r f j nt nl gl gt)))] H := hP
  have hD : va_D A [(om, .inr (6, [.int (nI 0), .ref a1, .ref a2, .ref a3, .int sv, .ref a4, .ref a5, .ref a6, .int ln, .ref a7, .int bm, .int br, .int ck, .int sa, .ref a8, .int lm, .int rs, .int at_, .ref a9, .int tm, .long hs])), (a1, .inl (ca 0, 226, .inl (sF z r f j nt nl gl gt)))] := hD
  refine lv_iload_n hx hb dX6_join_5 rfl (lv_at hl 1 rfl) ?_
  refine lv_iconst (v := nI 0) hx hb dX6_join_6 (by decide) ?_
  refine lv_aload_n hx hb dX6_join_7 rfl (lv_at hl 0 rfl) ?_
  refine va_get (D := D) (ci := 6) (C := RX6) (T := TX6) (N := 21) hx hb hts hiX6 hown hKv hP 0 rfl rfl 1 (by decide) lk7 (fun _ h9 => h9) rfl dX6_join_8 ?_
  refine lv_iconst (v := nI 4) hx hb dX6_join_11 (by decide) ?_
  refine my_iald hx hb hK hP 1 rfl (by omega) (by omega) dX6_join_12 ?_
  rw [show sF z r f j nt nl gl gt 4 = nI nt from rfl]
  refine lv_iconst (v := nI 2) hx hb dX6_join_13 (by decide) ?_
  refine lv_isub hx hb dX6_join_14 ?_
  refine vp_callSi (va_Run.run (va_runS (As := [.int x, .int (nI 0), .int ((nI nt) - (nI 2))]) (rest := []) ⟨hx, hb, hml, hown, hts⟩ (kX6_in l x (nI 0) ((nI nt) - (nI 2))) (va_cwS 3 hts gX6_join_X6_in rfl rfl rfl (by decide +kernel) ⟨kk_le rfl, kk_le rfl⟩) psN rfl rfl hl.1 rfl (lv_room (kk_le rfl)) dX6_join_15 ⟨kk_le rfl, kk_le rfl⟩)) (fun r1 hr1 => ?_)
  subst hr1
  have e2 : (bI (inF x (nI 0) ((nI nt) - (nI 2))) : Int32) = bI false := congrArg bI ((inp_m (d := 2) (by omega) (by decide) (by decide)).trans hbad)
  rw [e2]
  refine bi_if_ne (tgt := 27) hx hb dX6_join_18 (by decide) (fun c3 => ?_) (fun c3 => ?_)
  · first | exact False.elim c3 | exact absurd c3 (by decide) | (exfalso; omega)
  · refine lv_aload_n hx hb dX6_join_21 rfl (lv_at hl 0 rfl) ?_
    refine lv_iconst (v := nI 1) hx hb dX6_join_22 (by decide) ?_
    have hPc := hP.sub (ws' := [(om, .inr (6, [.int (nI 0), .ref a1, .ref a2, .ref a3, .int sv, .ref a4, .ref a5, .ref a6, .int ln, .ref a7, .int bm, .int br, .int ck, .int sa, .ref a8, .int lm, .int rs, .int at_, .ref a9, .int tm, .long hs]))]) [0] rfl
    have hDc := hD.sub (ws' := [(om, .inr (6, [.int (nI 0), .ref a1, .ref a2, .ref a3, .int sv, .ref a4, .ref a5, .ref a6, .int ln, .ref a7, .int bm, .int br, .int ck, .int sa, .ref a8, .int lm, .int rs, .int at_, .ref a9, .int tm, .long hs]))]) [0] (by decide) rfl
    have hFc := va_free (wc := [(om, .inr (6, [.int (nI 0), .ref a1, .ref a2, .ref a3, .int sv, .ref a4, .ref a5, .ref a6, .int ln, .ref a7, .int bm, .int br, .int ck, .int sa, .ref a8, .int lm, .int rs, .int at_, .ref a9, .int tm, .long hs]))]) hD hS hA [0] rfl
    refine va_calli (va_runV (As := [.int (nI 1)]) (rest := []) ⟨hx, hb, hml, hown, hts⟩ (kX6_fails l D ca H.size om a1 a2 a3 a4 a5 a6 a7 a8 a9 (nI 0) sv ln bm br ck sa lm rs at_ tm hs (nI 1)) (cwV 1 hts gX6_join_X6_fails rfl rfl rfl (by decide +kernel) ⟨kk_le rfl, kk_le rfl⟩) (pvM hK hPc (my_D_true hDc) (va_recv hKv hP (ci := 6) (q0 := 0) rfl rfl)) rfl rfl hl.1 rfl (lv_room (kk_le rfl)) dX6_join_23 ⟨kk_le rfl, kk_le rfl⟩) hS (fun q _ h => hFc q h) hFc (fun r4 u t H1 locs ht hvm hwv hBv hz1 hk1 hS => ?_)
    obtain ⟨hP1, hD1⟩ := hBv
    rw [ht] at hP1
    have hP1 : va_P D vwCl [(om, .inr (6, [.int (nI 1), .ref a1, .ref a2, .ref a3, .int sv, .ref a4, .ref a5, .ref a6, .int ln, .ref a7, .int bm, .int br, .int ck, .int sa, .ref a8, .int lm, .int rs, .int at_, .ref a9, .int tm, .long hs]))] H1 := hP1
    have hD1 : va_D _ [(om, .inr (6, [.int (nI 1), .ref a1, .ref a2, .ref a3, .int sv, .ref a4, .ref a5, .ref a6, .int ln, .ref a7, .int bm, .int br, .int ck, .int sa, .ref a8, .int lm, .int rs, .int at_, .ref a9, .int tm, .long hs]))] := hD1
    obtain ⟨hr4, hw4⟩ := hwv
    subst hr4
    obtain ⟨hP, hD⟩ := va_join (wr := [(a1, .inl (ca 0, 226, .inl (sF z r f j nt nl gl gt)))]) (w1 := [(om, .inr (6, [.int (nI 1), .ref a1, .ref a2, .ref a3, .int sv, .ref a4, .ref a5, .ref a6, .int ln, .ref a7, .int bm, .int br, .int ck, .int sa, .ref a8, .int lm, .int rs, .int at_, .ref a9, .int tm, .long hs]))]) hP hD [0] [1] rfl rfl (by decide) (by decide) hk1 hFc hP1 hD1
    generalize H1 = H at hP hS ⊢
    have hP := hP.sub (ws' := [(om, .inr (6, [.int (nI 1), .ref a1, .ref a2, .ref a3, .int sv, .ref a4, .ref a5, .ref a6, .int ln, .ref a7, .int bm, .int br, .int ck, .int sa, .ref a8, .int lm, .int rs, .int at_, .ref a9, .int tm, .long hs])), (a1, .inl (ca 0, 226, .inl (sF z r f j nt nl gl gt)))]) [1, 0] rfl
    have hD := hD.sub (ws' := [(om, .inr (6, [.int (nI 1), .ref a1, .ref a2, .ref a3, .int sv, .ref a4, .ref a5, .ref a6, .int ln, .ref a7, .int bm, .int br, .int ck, .int sa, .ref a8, .int lm, .int rs, .int at_, .ref a9, .int tm, .long hs])), (a1, .inl (ca 0, 226, .inl (sF z r f j nt nl gl gt)))]) [1, 0] (by decide) rfl
    exact W.iret (v := nI 0) hx hb hr (fun t ht hW => ⟨⟨_, (), rfl, ⟨by rfl, by trivial⟩, by rw [ht]; exact hP, hD⟩, hS.F ht⟩) hS.2.2 dX6_join_26
abbrev rm_kX6_scratch_ok : Room := { frames := 2, cells := 0, slots := 0, locals := 43 }
set_option maxHeartbeats 4000000 in
set_option maxRecDepth 100000 in
theorem kX6_scratch_ok (l : Launch) (D : va_G) (ca : Nat → ClassId) (sz : Nat) (om a1 a2 a3 a4 a5 a6 a7 a8 a9 : Nat) (thr ln bm br ck sa lm rs at_ tm : Int32) (hs : Int64) (sv : Nat) (z : Nat) (r f j : Int32) (nt nl : Nat) (gl gt : Nat → Int32) (fv : Nat → Int32) (q : Nat) (v : Int32) (hnt : nt ≤ 200) (hnl : nl ≤ 20) (hz : z ≤ 30) (hsv : sv ≤ 6) (hq : q < nt) (hin : inF v (nI 1) (gt q - nI 1) = true) (hfull : nt < 200) : Met l yX6_scratch wsX6_scratch rm_kX6_scratch_ok (pcM D ca [.ref om, .int (nI q), .int v] [(om, .inr (6, [.int thr, .ref a1, .ref a2, .ref a3, .int (nI sv), .ref a4, .ref a5, .ref a6, .int ln, .ref a7, .int bm, .int br, .int ck, .int sa, .ref a8, .int lm, .int rs, .int at_, .ref a9, .int tm, .long hs])), (a1, .inl (ca 0, 226, .inl (sF z r f j nt nl gl gt))), (a3, .inl (ca 0, 1356, .inl fv))] sz) (va_Qi (fun (zr : Int32) (u : Unit) => zr = nI (nt + 1) ∧ True) (qB D (va_A [(om, .inr (6, [.int thr, .ref a1, .ref a2, .ref a3, .int (nI sv), .ref a4, .ref a5, .ref a6, .int ln, .ref a7, .int bm, .int br, .int ck, .int sa, .ref a8, .int lm, .int rs, .int at_, .ref a9, .int tm, .long hs])), (a1, .inl (ca 0, 226, .inl (sF z r f j nt nl gl gt))), (a3, .inl (ca 0, 1356, .inl fv))] sz) (fun u : Unit => [(om, .inr (6, [.int (nI 0), .ref a1, .ref a2, .ref a3, .int (nI (svN sv)), .ref a4, .ref a5, .ref a6, .int ln, .ref a7, .int bm, .int br, .int ck, .int sa, .ref a8, .int lm, .int rs, .int at_, .ref a9, .int tm, .long hs])), (a1, .inl (ca 0, 226, .inl (sF z r f j (nt + 1) nl gl (scF gt nt q v)))), (a3, .inl (ca 0, 1356, .inl (savF fv sv (sF z r f j nt nl gl gt))))])) (va_A [(om, .inr (6, [.int thr, .ref a1, .ref a2, .ref a3, .int (nI sv), .ref a4, .ref a5, .ref a6, .int ln, .ref a7, .int bm, .int br, .int ck, .int sa, .ref a8, .int lm, .int rs, .int at_, .ref a9, .int tm, .long hs])), (a1, .inl (ca 0, 226, .inl (sF z r f j nt nl gl gt))), (a3, .inl (ca 0, 1356, .inl fv))] sz)) 0 0 (va_A [(om, .inr (6, [.int thr, .ref a1, .ref a2, .ref a3, .int (nI sv), .ref a4, .ref a5, .ref a6, .int ln, .ref a7, .int bm, .int br, .int ck, .int sa, .ref a8, .int lm, .int rs, .int at_, .ref a9, .int tm, .long hs])), (a1, .inl (ca 0, 226, .inl (sF z r f j nt nl gl gt))), (a3, .inl (ca 0, 1356, .inl fv))] sz) := by
  refine Met.ofW (cc := cX6_scratch) (maxL := 4) (ret := (some .int)) (by decide) rfl ?_
  intro p e s m args below meth c s₁ B hml hv
  obtain ⟨rfl, hsz, hP, hK, hD0⟩ := hv
  have hx := B.exec
  have hb := B.bytes
  have hr := B.returns
  have hts := atoms_spec (ws := wsX6_scratch) B.pre
  have hown : s.vm.findClass RX6 = some m.cls := findClass_of_methodNamed B.named
  have hlocks := B.notSynchronized
  subst hsz
  have hD := hD0.self (sz := s.heap.size)
  generalize hAe : va_A [(om, .inr (6, [.int thr, .ref a1, .ref a2, .ref a3, .int (nI sv), .ref a4, .ref a5, .ref a6, .int ln, .ref a7, .int bm, .int br, .int ck, .int sa, .ref a8, .int lm, .int rs, .int at_, .ref a9, .int tm, .long hs])), (a1, .inl (ca 0, 226, .inl (sF z r f j nt nl gl gt))), (a3, .inl (ca 0, 1356, .inl fv))] s.heap.size = A at hD ⊢
  have hA : ∀ q : Nat, s.heap.size ≤ q → A q := fun q h => by rw [← hAe]; exact Or.inr h
  have hS : va_S A s.heap s.heap [] := va_S.rf
  have hP : va_P D vwCl [(om, .inr (6, [.int thr, .ref a1, .ref a2, .ref a3, .int (nI sv), .ref a4, .ref a5, .ref a6, .int ln, .ref a7, .int bm, .int br, .int ck, .int sa, .ref a8, .int lm, .int rs, .int at_, .ref a9, .int tm, .long hs])), (a1, .inl (ca 0, 226, .inl (sF z r f j nt nl gl gt))), (a3, .inl (ca 0, 1356, .inl fv))] s.heap := hP
  have hKv := hK.1
  have hl := lv_entry ([.ref om, .int (nI q), .int v]) (n := 4) (kk_le rfl)
  rw [lg_entry_eq]
  generalize (lg_sl ([.ref om, .int (nI q), .int v]) ++ List.replicate (4 - (lg_sl ([.ref om, .int (nI q), .int v])).length) Slot.unset).toArray = ls at hl ⊢
  have hl : lv_has ls 4 [(0, .ref om), (1, .int (nI q)), (2, .int v)] := hl
  generalize hQz : MQ below _ _ _ _ _ _ = Qz
  have hiX6 : ∀ w ∈ u_ws RX6 TX6 21, w ∈ wsX6_scratch := fun w h => by first | exact List.mem_cons_of_mem _ (List.mem_append_right _ h) | exact List.mem_cons_of_mem _ (List.mem_append_left _ (List.mem_append_right _ h)) | exact List.mem_cons_of_mem _ (List.mem_append_left _ (List.mem_append_left _ (List.mem_append_right _ h))) | exact List.mem_cons_of_mem _ (List.mem_append_left _ (List.mem_append_left _ (List.mem_append_left _ (List.mem_append_right _ h)))) | (revert w h; decide +kernel)
  have lk38 : (Cond.fieldLink RX6 38 "StripeSwipesModel" "thrown" "I").before _ s = true := hts _ (by decide +kernel)
  have lk7 : (Cond.fieldLink RX6 7 "StripeSwipesModel" "s" "[I").before _ s = true := hts _ (by decide +kernel)
  refine lv_aload_n hx hb dX6_scratch_0 rfl (lv_at hl 0 rfl) ?_
  refine lv_iconst (v := nI 0) hx hb dX6_scratch_1 (by decide) ?_
  refine va_put (D := D) (ci := 6) (v := .int (nI 0)) (ty := .int) (C := RX6) (T := TX6) (N := 21) hx hb hts hiX6 tyX6 tyX6_ok nmX6 hown hKv hP hD hS 0 rfl rfl 0 (by decide) lk38 (fun _ h9 => h9) rfl (by decide +kernel) rfl rfl (kk_le rfl) dX6_scratch_2 (fun H locs hP hD hS => ?_)
  have hP : va_P D vwCl [(om, .inr (6, [.int (nI 0), .ref a1, .ref a2, .ref a3, .int (nI sv), .ref a4, .ref a5, .ref a6, .int ln, .ref a7, .int bm, .int br, .int ck, .int sa, .ref a8, .int lm, .int rs, .int at_, .ref a9, .int tm, .long hs])), (a1, .inl (ca 0, 226, .inl (sF z r f j nt nl gl gt))), (a3, .inl (ca 0, 1356, .inl fv))] H := hP
  have hD : va_D A [(om, .inr (6, [.int (nI 0), .ref a1, .ref a2, .ref a3, .int (nI sv), .ref a4, .ref a5, .ref a6, .int ln, .ref a7, .int bm, .int br, .int ck, .int sa, .ref a8, .int lm, .int rs, .int at_, .ref a9, .int tm, .long hs])), (a1, .inl (ca 0, 226, .inl (sF z r f j nt nl gl gt))), (a3, .inl (ca 0, 1356, .inl fv))] := hD
  refine lv_aload_n hx hb dX6_scratch_5 rfl (lv_at hl 0 rfl) ?_
  refine lv_iload_n hx hb dX6_scratch_6 rfl (lv_at hl 1 rfl) ?_
  refine vp_callSi (va_Run.run (va_runV (As := [.int (nI q)]) (rest := []) ⟨hx, hb, hml, hown, hts⟩ (kX6_isPlace l D ca om a1 a2 a3 a4 a5 a6 a7 a8 a9 (nI 0) (nI sv) ln bm br ck sa lm rs at_ tm hs z r f j nt nl gl gt (nI q) (by first | rfl | assumption | omega | trivial | (exfalso; omega)) (by first | rfl | assumption | omega | trivial | (exfalso; omega)) (by first | rfl | assumption | omega | trivial | (exfalso; omega))) (cwV 1 hts gX6_scratch_X6_isPlace rfl rfl rfl (by decide +kernel) ⟨kk_le rfl, kk_le rfl⟩) (pvR hK (hP.sub (ws' := [(om, .inr (6, [.int (nI 0), .ref a1, .ref a2, .ref a3, .int (nI sv), .ref a4, .ref a5, .ref a6, .int ln, .ref a7, .int bm, .int br, .int ck, .int sa, .ref a8, .int lm, .int rs, .int at_, .ref a9, .int tm, .long hs])), (a1, .inl (ca 0, 226, .inl (sF z r f j nt nl gl gt)))]) [0, 1] rfl) (va_recv hKv hP (ci := 6) (q0 := 0) rfl rfl)) rfl rfl hl.1 rfl (lv_room (kk_le rfl)) dX6_scratch_7 ⟨kk_le rfl, kk_le rfl⟩)) (fun r1 hr1 => ?_)
  subst hr1
  have e2 : (bI (hasF nt (nI q)) : Int32) = bI true := congrArg bI ((hasF_n (by omega) (by omega)).trans (decide_eq_true (by omega)))
  rw [e2]
  refine bi_if_ne (tgt := 19) hx hb dX6_scratch_10 (by decide) (fun c3 => ?_) (fun c3 => ?_)
  · refine lv_iload_n hx hb dX6_scratch_19 rfl (lv_at hl 2 rfl) ?_
    refine lv_iconst (v := nI 1) hx hb dX6_scratch_20 (by decide) ?_
    refine lv_aload_n hx hb dX6_scratch_21 rfl (lv_at hl 0 rfl) ?_
    refine va_get (D := D) (ci := 6) (C := RX6) (T := TX6) (N := 21) hx hb hts hiX6 hown hKv hP 0 rfl rfl 1 (by decide) lk7 (fun _ h9 => h9) rfl dX6_scratch_22 ?_
    refine lv_bipush (v := nI 26) hx hb dX6_scratch_25 (by decide) ?_
    refine lv_iload_n hx hb dX6_scratch_27 rfl (lv_at hl 1 rfl) ?_
    refine ni_iadd hx hb dX6_scratch_28 ?_
    refine my_iald hx hb hK hP 1 rfl (by omega) (by omega) dX6_scratch_29 ?_
    rw [show sF z r f j nt nl gl gt (26 + q) = gt q from sF_gt _ _ _ _ _ _ _ _ (by omega)]
    refine lv_iconst (v := nI 1) hx hb dX6_scratch_30 (by decide) ?_
    refine lv_isub hx hb dX6_scratch_31 ?_
    refine vp_callSi (va_Run.run (va_runS (As := [.int v, .int (nI 1), .int ((gt q) - (nI 1))]) (rest := []) ⟨hx, hb, hml, hown, hts⟩ (kX6_in l v (nI 1) ((gt q) - (nI 1))) (va_cwS 3 hts gX6_scratch_X6_in rfl rfl rfl (by decide +kernel) ⟨kk_le rfl, kk_le rfl⟩) psN rfl rfl hl.1 rfl (lv_room (kk_le rfl)) dX6_scratch_32 ⟨kk_le rfl, kk_le rfl⟩)) (fun r4 hr4 => ?_)
    subst hr4
    have e5 : (bI (inF v (nI 1) ((gt q) - (nI 1))) : Int32) = bI true := congrArg bI (hin)
    rw [e5]
    refine bi_if_ne (tgt := 44) hx hb dX6_scratch_35 (by decide) (fun c6 => ?_) (fun c6 => ?_)
    · refine lv_aload_n hx hb dX6_scratch_44 rfl (lv_at hl 0 rfl) ?_
      refine va_get (D := D) (ci := 6) (C := RX6) (T := TX6) (N := 21) hx hb hts hiX6 hown hKv hP 0 rfl rfl 1 (by decide) lk7 (fun _ h9 => h9) rfl dX6_scratch_45 ?_
      refine lv_iconst (v := nI 4) hx hb dX6_scratch_48 (by decide) ?_
      refine my_iald hx hb hK hP 1 rfl (by omega) (by omega) dX6_scratch_49 ?_
      rw [show sF z r f j nt nl gl gt 4 = nI nt from rfl]
      refine lv_sipush (v := nI 200) hx hb dX6_scratch_50 (by decide) ?_
      refine ni_icmp_ne (tgt := 62) (by omega) (by omega) hx hb dX6_scratch_53 (by decide) (fun c7 => ?_) (fun c7 => ?_)
      · refine lv_aload_n hx hb dX6_scratch_62 rfl (lv_at hl 0 rfl) ?_
        have hPc := hP
        have hDc := hD
        have hFc := va_free (wc := [(om, .inr (6, [.int (nI 0), .ref a1, .ref a2, .ref a3, .int (nI sv), .ref a4, .ref a5, .ref a6, .int ln, .ref a7, .int bm, .int br, .int ck, .int sa, .ref a8, .int lm, .int rs, .int at_, .ref a9, .int tm, .long hs])), (a1, .inl (ca 0, 226, .inl (sF z r f j nt nl gl gt))), (a3, .inl (ca 0, 1356, .inl fv))]) hD hS hA [0, 1, 2] rfl
        refine va_callv (va_runV (As := []) (rest := []) ⟨hx, hb, hml, hown, hts⟩ (kX6_saves l D ca H.size om a1 a2 a3 a4 a5 a6 a7 a8 a9 (nI 0) ln bm br ck sa lm rs at_ tm hs z r f j nt nl gl gt sv fv (by first | rfl | assumption | omega | trivial | (exfalso; omega))) (cwV 0 hts gX6_scratch_X6_saves rfl rfl rfl (by decide +kernel) ⟨kk_le rfl, kk_le rfl⟩) (pvM hK hPc (my_D_true hDc) (va_recv hKv hP (ci := 6) (q0 := 0) rfl rfl)) rfl rfl hl.1 rfl (lv_room (kk_le rfl)) dX6_scratch_63 ⟨kk_le rfl, kk_le rfl⟩) hS (fun q _ h => hFc q h) hFc (fun u t H1 locs ht hvm hwv hBv hz1 hk1 hS => ?_)
        obtain ⟨hP1, hD1⟩ := hBv
        rw [ht] at hP1
        have hP1 : va_P D vwCl [(om, .inr (6, [.int (nI 0), .ref a1, .ref a2, .ref a3, .int (nI (svN sv)), .ref a4, .ref a5, .ref a6, .int ln, .ref a7, .int bm, .int br, .int ck, .int sa, .ref a8, .int lm, .int rs, .int at_, .ref a9, .int tm, .long hs])), (a1, .inl (ca 0, 226, .inl (sF z r f j nt nl gl gt))), (a3, .inl (ca 0, 1356, .inl (savF fv sv (sF z r f j nt nl gl gt))))] H1 := hP1
        have hD1 : va_D _ [(om, .inr (6, [.int (nI 0), .ref a1, .ref a2, .ref a3, .int (nI (svN sv)), .ref a4, .ref a5, .ref a6, .int ln, .ref a7, .int bm, .int br, .int ck, .int sa, .ref a8, .int lm, .int rs, .int at_, .ref a9, .int tm, .long hs])), (a1, .inl (ca 0, 226, .inl (sF z r f j nt nl gl gt))), (a3, .inl (ca 0, 1356, .inl (savF fv sv (sF z r f j nt nl gl gt))))] := hD1
        have hw8 := hwv
        have hP := hP1
        have hD := hD1.weaken (fun _ _ _ h => hFc _ h)
        generalize H1 = H at hP hS ⊢
        have hP : va_P D vwCl [(om, .inr (6, [.int (nI 0), .ref a1, .ref a2, .ref a3, .int (nI (svN sv)), .ref a4, .ref a5, .ref a6, .int ln, .ref a7, .int bm, .int br, .int ck, .int sa, .ref a8, .int lm, .int rs, .int at_, .ref a9, .int tm, .long hs])), (a1, .inl (ca 0, 226, .inl (sF z r f j nt nl gl gt))), (a3, .inl (ca 0, 1356, .inl (savF fv sv (sF z r f j nt nl gl gt))))] H := hP
        have hD : va_D A [(om, .inr (6, [.int (nI 0), .ref a1, .ref a2, .ref a3, .int (nI (svN sv)), .ref a4, .ref a5, .ref a6, .int ln, .ref a7, .int bm, .int br, .int ck, .int sa, .ref a8, .int lm, .int rs, .int at_, .ref a9, .int tm, .long hs])), (a1, .inl (ca 0, 226, .inl (sF z r f j nt nl gl gt))), (a3, .inl (ca 0, 1356, .inl (savF fv sv (sF z r f j nt nl gl gt))))] := hD
        refine lv_aload_n hx hb dX6_scratch_66 rfl (lv_at hl 0 rfl) ?_
        refine va_get (D := D) (ci := 6) (C := RX6) (T := TX6) (N := 21) hx hb hts hiX6 hown hKv hP 0 rfl rfl 1 (by decide) lk7 (fun _ h9 => h9) rfl dX6_scratch_67 ?_
        refine lv_iconst (v := nI 4) hx hb dX6_scratch_70 (by decide) ?_
        refine my_iald hx hb hK hP 1 rfl (by omega) (by omega) dX6_scratch_71 ?_
        rw [show sF z r f j nt nl gl gt 4 = nI nt from rfl]
        refine lv_istore_n (lv' := [(3, .int (nI nt)), (0, .ref om), (1, .int (nI q)), (2, .int v)]) hx hb dX6_scratch_72 rfl hl (by decide) rfl (fun ls hl => ?_)
        have lp73_9 : ∀ (k1 : Nat) (i : Nat), i < k1 → (i ≤ nt) → (q + 1 ≤ i) → ∀ (H : Heap) (locs : List Loc), va_P D vwCl [(om, .inr (6, [.int (nI 0), .ref a1, .ref a2, .ref a3, .int (nI (svN sv)), .ref a4, .ref a5, .ref a6, .int ln, .ref a7, .int bm, .int br, .int ck, .int sa, .ref a8, .int lm, .int rs, .int at_, .ref a9, .int tm, .long hs])), (a1, .inl (ca 0, 226, .inl (sF z r f j nt nl gl (shR gt nt i)))), (a3, .inl (ca 0, 1356, .inl (savF fv sv (sF z r f j nt nl gl gt))))] H → va_D A [(om, .inr (6, [.int (nI 0), .ref a1, .ref a2, .ref a3, .int (nI (svN sv)), .ref a4, .ref a5, .ref a6, .int ln, .ref a7, .int bm, .int br, .int ck, .int sa, .ref a8, .int lm, .int rs, .int at_, .ref a9, .int tm, .long hs])), (a1, .inl (ca 0, 226, .inl (sF z r f j nt nl gl (shR gt nt i)))), (a3, .inl (ca 0, 1356, .inl (savF fv sv (sF z r f j nt nl gl gt))))] → va_S A s.heap H locs → ∀ (ls : Array Slot), lv_has ls 4 [(3, .int (nI i)), (0, .ref om), (1, .int (nI q)), (2, .int v)] → W p l e rm_kX6_scratch_ok s m ([.ref om, .int (nI q), .int v] : List Value).toArray below meth c H locs 0 0 Qz (F0 m 73 ls []) := by
          intro k1
          induction k1 with
          | zero => intro i hm1; exact absurd hm1 (Nat.not_lt_zero _)
          | succ k1 ih1 =>
            intro i hm1 hi hi2 H locs hP hD hS ls hl
            refine lv_iload_n hx hb dX6_scratch_73 rfl (lv_at hl 0 rfl) ?_
            refine lv_iload_n hx hb dX6_scratch_74 rfl (lv_at hl 2 rfl) ?_
            refine lv_iconst (v := nI 1) hx hb dX6_scratch_75 (by decide) ?_
            refine ni_iadd hx hb dX6_scratch_76 ?_
            refine ni_icmp_le (tgt := 106) (by omega) (by omega) hx hb dX6_scratch_77 (by decide) (fun c11 => ?_) (fun c11 => ?_)
            · refine lv_aload_n hx hb dX6_scratch_106 rfl (lv_at hl 1 rfl) ?_
              refine va_get (D := D) (ci := 6) (C := RX6) (T := TX6) (N := 21) hx hb hts hiX6 hown hKv hP 0 rfl rfl 1 (by decide) lk7 (fun _ h9 => h9) rfl dX6_scratch_107 ?_
              refine lv_bipush (v := nI 26) hx hb dX6_scratch_110 (by decide) ?_
              refine lv_iload_n hx hb dX6_scratch_112 rfl (lv_at hl 2 rfl) ?_
              refine ni_iadd hx hb dX6_scratch_113 ?_
              refine lv_iconst (v := nI 1) hx hb dX6_scratch_114 (by decide) ?_
              refine ni_iadd hx hb dX6_scratch_115 ?_
              refine lv_aload_n hx hb dX6_scratch_116 rfl (lv_at hl 1 rfl) ?_
              refine va_get (D := D) (ci := 6) (C := RX6) (T := TX6) (N := 21) hx hb hts hiX6 hown hKv hP 0 rfl rfl 1 (by decide) lk7 (fun _ h9 => h9) rfl dX6_scratch_117 ?_
              refine lv_bipush (v := nI 26) hx hb dX6_scratch_120 (by decide) ?_
              refine lv_iload_n hx hb dX6_scratch_122 rfl (lv_at hl 2 rfl) ?_
              refine ni_iadd hx hb dX6_scratch_123 ?_
              refine my_iald hx hb hK hP 1 rfl (by omega) (by omega) dX6_scratch_124 ?_
              rw [show sF z r f j nt nl gl (shR gt nt i) (26 + q) = (shR gt nt i) q from sF_gt _ _ _ _ _ _ _ _ (by omega)]
              refine lv_iload_n hx hb dX6_scratch_125 rfl (lv_at hl 3 rfl) ?_
              refine lv_isub hx hb dX6_scratch_126 ?_
              refine my_iast hx hb hK hP hD hS 1 rfl (by omega) (by omega) dX6_scratch_127 (fun H locs hP hD hS => ?_)
              have hP : va_P D vwCl [(om, .inr (6, [.int (nI 0), .ref a1, .ref a2, .ref a3, .int (nI (svN sv)), .ref a4, .ref a5, .ref a6, .int ln, .ref a7, .int bm, .int br, .int ck, .int sa, .ref a8, .int lm, .int rs, .int at_, .ref a9, .int tm, .long hs])), (a1, .inl (ca 0, 226, .inl (upd (sF z r f j nt nl gl (shR gt nt i)) ((26 + q) + 1) (((shR gt nt i) q) - v)))), (a3, .inl (ca 0, 1356, .inl (savF fv sv (sF z r f j nt nl gl gt))))] H := hP
              have hD : va_D A [(om, .inr (6, [.int (nI 0), .ref a1, .ref a2, .ref a3, .int (nI (svN sv)), .ref a4, .ref a5, .ref a6, .int ln, .ref a7, .int bm, .int br, .int ck, .int sa, .ref a8, .int lm, .int rs, .int at_, .ref a9, .int tm, .long hs])), (a1, .inl (ca 0, 226, .inl (upd (sF z r f j nt nl gl (shR gt nt i)) ((26 + q) + 1) (((shR gt nt i) q) - v)))), (a3, .inl (ca 0, 1356, .inl (savF fv sv (sF z r f j nt nl gl gt))))] := hD
              have e12 : (upd (sF z r f j nt nl gl (shR gt nt i)) ((26 + q) + 1) (((shR gt nt i) q) - v) : Nat → Int32) = sF z r f j nt nl gl (upd (shR gt nt i) (q + 1) (((shR gt nt i) q) - v)) := sF_wt _ _ _ _ _ _ _ _ _ (by omega)
              have hP : va_P D vwCl [(om, .inr (6, [.int (nI 0), .ref a1, .ref a2, .ref a3, .int (nI (svN sv)), .ref a4, .ref a5, .ref a6, .int ln, .ref a7, .int bm, .int br, .int ck, .int sa, .ref a8, .int lm, .int rs, .int at_, .ref a9, .int tm, .long hs])), (a1, .inl (ca 0, 226, .inl (sF z r f j nt nl gl (upd (shR gt nt i) (q + 1) (((shR gt nt i) q) - v))))), (a3, .inl (ca 0, 1356, .inl (savF fv sv (sF z r f j nt nl gl gt))))] H := Eq.mp (congrArg (fun z9 : Nat → Int32 => va_P D vwCl [(om, .inr (6, [.int (nI 0), .ref a1, .ref a2, .ref a3, .int (nI (svN sv)), .ref a4, .ref a5, .ref a6, .int ln, .ref a7, .int bm, .int br, .int ck, .int sa, .ref a8, .int lm, .int rs, .int at_, .ref a9, .int tm, .long hs])), (a1, .inl (ca 0, 226, .inl z9)), (a3, .inl (ca 0, 1356, .inl (savF fv sv (sF z r f j nt nl gl gt))))] H) e12) hP
              have hD : va_D A [(om, .inr (6, [.int (nI 0), .ref a1, .ref a2, .ref a3, .int (nI (svN sv)), .ref a4, .ref a5, .ref a6, .int ln, .ref a7, .int bm, .int br, .int ck, .int sa, .ref a8, .int lm, .int rs, .int at_, .ref a9, .int tm, .long hs])), (a1, .inl (ca 0, 226, .inl (sF z r f j nt nl gl (upd (shR gt nt i) (q + 1) (((shR gt nt i) q) - v))))), (a3, .inl (ca 0, 1356, .inl (savF fv sv (sF z r f j nt nl gl gt))))] := Eq.mp (congrArg (fun z9 : Nat → Int32 => va_D A [(om, .inr (6, [.int (nI 0), .ref a1, .ref a2, .ref a3, .int (nI (svN sv)), .ref a4, .ref a5, .ref a6, .int ln, .ref a7, .int bm, .int br, .int ck, .int sa, .ref a8, .int lm, .int rs, .int at_, .ref a9, .int tm, .long hs])), (a1, .inl (ca 0, 226, .inl z9)), (a3, .inl (ca 0, 1356, .inl (savF fv sv (sF z r f j nt nl gl gt))))]) e12) hD
              refine lv_aload_n hx hb dX6_scratch_128 rfl (lv_at hl 1 rfl) ?_
              refine va_get (D := D) (ci := 6) (C := RX6) (T := TX6) (N := 21) hx hb hts hiX6 hown hKv hP 0 rfl rfl 1 (by decide) lk7 (fun _ h9 => h9) rfl dX6_scratch_129 ?_
              refine lv_bipush (v := nI 26) hx hb dX6_scratch_132 (by decide) ?_
              refine lv_iload_n hx hb dX6_scratch_134 rfl (lv_at hl 2 rfl) ?_
              refine ni_iadd hx hb dX6_scratch_135 ?_
              refine lv_iload_n hx hb dX6_scratch_136 rfl (lv_at hl 3 rfl) ?_
              refine my_iast hx hb hK hP hD hS 1 rfl (by omega) (by omega) dX6_scratch_137 (fun H locs hP hD hS => ?_)
              have hP : va_P D vwCl [(om, .inr (6, [.int (nI 0), .ref a1, .ref a2, .ref a3, .int (nI (svN sv)), .ref a4, .ref a5, .ref a6, .int ln, .ref a7, .int bm, .int br, .int ck, .int sa, .ref a8, .int lm, .int rs, .int at_, .ref a9, .int tm, .long hs])), (a1, .inl (ca 0, 226, .inl (upd (sF z r f j nt nl gl (upd (shR gt nt i) (q + 1) (((shR gt nt i) q) - v))) (26 + q) v))), (a3, .inl (ca 0, 1356, .inl (savF fv sv (sF z r f j nt nl gl gt))))] H := hP
              have hD : va_D A [(om, .inr (6, [.int (nI 0), .ref a1, .ref a2, .ref a3, .int (nI (svN sv)), .ref a4, .ref a5, .ref a6, .int ln, .ref a7, .int bm, .int br, .int ck, .int sa, .ref a8, .int lm, .int rs, .int at_, .ref a9, .int tm, .long hs])), (a1, .inl (ca 0, 226, .inl (upd (sF z r f j nt nl gl (upd (shR gt nt i) (q + 1) (((shR gt nt i) q) - v))) (26 + q) v))), (a3, .inl (ca 0, 1356, .inl (savF fv sv (sF z r f j nt nl gl gt))))] := hD
              have e13 : (upd (sF z r f j nt nl gl (upd (shR gt nt i) (q + 1) (((shR gt nt i) q) - v))) (26 + q) v : Nat → Int32) = sF z r f j nt nl gl (upd (upd (shR gt nt i) (q + 1) (((shR gt nt i) q) - v)) q v) := sF_wt _ _ _ _ _ _ _ _ _ (by omega)
              have hP : va_P D vwCl [(om, .inr (6, [.int (nI 0), .ref a1, .ref a2, .ref a3, .int (nI (svN sv)), .ref a4, .ref a5, .ref a6, .int ln, .ref a7, .int bm, .int br, .int ck, .int sa, .ref a8, .int lm, .int rs, .int at_, .ref a9, .int tm, .long hs])), (a1, .inl (ca 0, 226, .inl (sF z r f j nt nl gl (upd (upd (shR gt nt i) (q + 1) (((shR gt nt i) q) - v)) q v)))), (a3, .inl (ca 0, 1356, .inl (savF fv sv (sF z r f j nt nl gl gt))))] H := Eq.mp (congrArg (fun z9 : Nat → Int32 => va_P D vwCl [(om, .inr (6, [.int (nI 0), .ref a1, .ref a2, .ref a3, .int (nI (svN sv)), .ref a4, .ref a5, .ref a6, .int ln, .ref a7, .int bm, .int br, .int ck, .int sa, .ref a8, .int lm, .int rs, .int at_, .ref a9, .int tm, .long hs])), (a1, .inl (ca 0, 226, .inl z9)), (a3, .inl (ca 0, 1356, .inl (savF fv sv (sF z r f j nt nl gl gt))))] H) e13) hP
              have hD : va_D A [(om, .inr (6, [.int (nI 0), .ref a1, .ref a2, .ref a3, .int (nI (svN sv)), .ref a4, .ref a5, .ref a6, .int ln, .ref a7, .int bm, .int br, .int ck, .int sa, .ref a8, .int lm, .int rs, .int at_, .ref a9, .int tm, .long hs])), (a1, .inl (ca 0, 226, .inl (sF z r f j nt nl gl (upd (upd (shR gt nt i) (q + 1) (((shR gt nt i) q) - v)) q v)))), (a3, .inl (ca 0, 1356, .inl (savF fv sv (sF z r f j nt nl gl gt))))] := Eq.mp (congrArg (fun z9 : Nat → Int32 => va_D A [(om, .inr (6, [.int (nI 0), .ref a1, .ref a2, .ref a3, .int (nI (svN sv)), .ref a4, .ref a5, .ref a6, .int ln, .ref a7, .int bm, .int br, .int ck, .int sa, .ref a8, .int lm, .int rs, .int at_, .ref a9, .int tm, .long hs])), (a1, .inl (ca 0, 226, .inl z9)), (a3, .inl (ca 0, 1356, .inl (savF fv sv (sF z r f j nt nl gl gt))))]) e13) hD
              refine lv_aload_n hx hb dX6_scratch_138 rfl (lv_at hl 1 rfl) ?_
              refine va_get (D := D) (ci := 6) (C := RX6) (T := TX6) (N := 21) hx hb hts hiX6 hown hKv hP 0 rfl rfl 1 (by decide) lk7 (fun _ h9 => h9) rfl dX6_scratch_139 ?_
              refine lv_iconst (v := nI 4) hx hb dX6_scratch_142 (by decide) ?_
              refine lv_dup2_11 hx hb dX6_scratch_143 rfl rfl ?_
              refine my_iald hx hb hK hP 1 rfl (by omega) (by omega) dX6_scratch_144 ?_
              rw [show sF z r f j nt nl gl (upd (upd (shR gt nt i) (q + 1) (((shR gt nt i) q) - v)) q v) 4 = nI nt from rfl]
              refine lv_iconst (v := nI 1) hx hb dX6_scratch_145 (by decide) ?_
              refine ni_iadd hx hb dX6_scratch_146 ?_
              refine my_iast hx hb hK hP hD hS 1 rfl (by omega) (by omega) dX6_scratch_147 (fun H locs hP hD hS => ?_)
              have hP : va_P D vwCl [(om, .inr (6, [.int (nI 0), .ref a1, .ref a2, .ref a3, .int (nI (svN sv)), .ref a4, .ref a5, .ref a6, .int ln, .ref a7, .int bm, .int br, .int ck, .int sa, .ref a8, .int lm, .int rs, .int at_, .ref a9, .int tm, .long hs])), (a1, .inl (ca 0, 226, .inl (upd (sF z r f j nt nl gl (upd (upd (shR gt nt i) (q + 1) (((shR gt nt i) q) - v)) q v)) 4 (nI (nt + 1))))), (a3, .inl (ca 0, 1356, .inl (savF fv sv (sF z r f j nt nl gl gt))))] H := hP
              have hD : va_D A [(om, .inr (6, [.int (nI 0), .ref a1, .ref a2, .ref a3, .int (nI (svN sv)), .ref a4, .ref a5, .ref a6, .int ln, .ref a7, .int bm, .int br, .int ck, .int sa, .ref a8, .int lm, .int rs, .int at_, .ref a9, .int tm, .long hs])), (a1, .inl (ca 0, 226, .inl (upd (sF z r f j nt nl gl (upd (upd (shR gt nt i) (q + 1) (((shR gt nt i) q) - v)) q v)) 4 (nI (nt + 1))))), (a3, .inl (ca 0, 1356, .inl (savF fv sv (sF z r f j nt nl gl gt))))] := hD
              have e14 : (upd (sF z r f j nt nl gl (upd (upd (shR gt nt i) (q + 1) (((shR gt nt i) q) - v)) q v)) 4 (nI (nt + 1)) : Nat → Int32) = sF z r f j (nt + 1) nl gl (upd (upd (shR gt nt i) (q + 1) (((shR gt nt i) q) - v)) q v) := sF_w4 _ _ _ _ _ _ _ _ _
              have hP : va_P D vwCl [(om, .inr (6, [.int (nI 0), .ref a1, .ref a2, .ref a3, .int (nI (svN sv)), .ref a4, .ref a5, .ref a6, .int ln, .ref a7, .int bm, .int br, .int ck, .int sa, .ref a8, .int lm, .int rs, .int at_, .ref a9, .int tm, .long hs])), (a1, .inl (ca 0, 226, .inl (sF z r f j (nt + 1) nl gl (upd (upd (shR gt nt i) (q + 1) (((shR gt nt i) q) - v)) q v)))), (a3, .inl (ca 0, 1356, .inl (savF fv sv (sF z r f j nt nl gl gt))))] H := Eq.mp (congrArg (fun z9 : Nat → Int32 => va_P D vwCl [(om, .inr (6, [.int (nI 0), .ref a1, .ref a2, .ref a3, .int (nI (svN sv)), .ref a4, .ref a5, .ref a6, .int ln, .ref a7, .int bm, .int br, .int ck, .int sa, .ref a8, .int lm, .int rs, .int at_, .ref a9, .int tm, .long hs])), (a1, .inl (ca 0, 226, .inl z9)), (a3, .inl (ca 0, 1356, .inl (savF fv sv (sF z r f j nt nl gl gt))))] H) e14) hP
              have hD : va_D A [(om, .inr (6, [.int (nI 0), .ref a1, .ref a2, .ref a3, .int (nI (svN sv)), .ref a4, .ref a5, .ref a6, .int ln, .ref a7, .int bm, .int br, .int ck, .int sa, .ref a8, .int lm, .int rs, .int at_, .ref a9, .int tm, .long hs])), (a1, .inl (ca 0, 226, .inl (sF z r f j (nt + 1) nl gl (upd (upd (shR gt nt i) (q + 1) (((shR gt nt i) q) - v)) q v)))), (a3, .inl (ca 0, 1356, .inl (savF fv sv (sF z r f j nt nl gl gt))))] := Eq.mp (congrArg (fun z9 : Nat → Int32 => va_D A [(om, .inr (6, [.int (nI 0), .ref a1, .ref a2, .ref a3, .int (nI (svN sv)), .ref a4, .ref a5, .ref a6, .int ln, .ref a7, .int bm, .int br, .int ck, .int sa, .ref a8, .int lm, .int rs, .int at_, .ref a9, .int tm, .long hs])), (a1, .inl (ca 0, 226, .inl z9)), (a3, .inl (ca 0, 1356, .inl (savF fv sv (sF z r f j nt nl gl gt))))]) e14) hD
              refine lv_aload_n hx hb dX6_scratch_148 rfl (lv_at hl 1 rfl) ?_
              refine va_get (D := D) (ci := 6) (C := RX6) (T := TX6) (N := 21) hx hb hts hiX6 hown hKv hP 0 rfl rfl 1 (by decide) lk7 (fun _ h9 => h9) rfl dX6_scratch_149 ?_
              refine lv_iconst (v := nI 4) hx hb dX6_scratch_152 (by decide) ?_
              refine my_iald hx hb hK hP 1 rfl (by omega) (by omega) dX6_scratch_153 ?_
              rw [show sF z r f j (nt + 1) nl gl (upd (upd (shR gt nt i) (q + 1) (((shR gt nt i) q) - v)) q v) 4 = nI (nt + 1) from rfl]
              subst hQz
              have e15 : (sF z r f j (nt + 1) nl gl (upd (upd (shR gt nt i) (q + 1) (((shR gt nt i) q) - v)) q v) : Nat → Int32) = sF z r f j (nt + 1) nl gl (scF gt nt q v) := by (have hz9 : i = q + 1 := (by omega); subst hz9; unfold scF; rw [shR_lo gt (by omega)])
              have hP : va_P D vwCl [(om, .inr (6, [.int (nI 0), .ref a1, .ref a2, .ref a3, .int (nI (svN sv)), .ref a4, .ref a5, .ref a6, .int ln, .ref a7, .int bm, .int br, .int ck, .int sa, .ref a8, .int lm, .int rs, .int at_, .ref a9, .int tm, .long hs])), (a1, .inl (ca 0, 226, .inl (sF z r f j (nt + 1) nl gl (scF gt nt q v)))), (a3, .inl (ca 0, 1356, .inl (savF fv sv (sF z r f j nt nl gl gt))))] H := Eq.mp (congrArg (fun z9 : Nat → Int32 => va_P D vwCl [(om, .inr (6, [.int (nI 0), .ref a1, .ref a2, .ref a3, .int (nI (svN sv)), .ref a4, .ref a5, .ref a6, .int ln, .ref a7, .int bm, .int br, .int ck, .int sa, .ref a8, .int lm, .int rs, .int at_, .ref a9, .int tm, .long hs])), (a1, .inl (ca 0, 226, .inl z9)), (a3, .inl (ca 0, 1356, .inl (savF fv sv (sF z r f j nt nl gl gt))))] H) e15) hP
              have hD : va_D A [(om, .inr (6, [.int (nI 0), .ref a1, .ref a2, .ref a3, .int (nI (svN sv)), .ref a4, .ref a5, .ref a6, .int ln, .ref a7, .int bm, .int br, .int ck, .int sa, .ref a8, .int lm, .int rs, .int at_, .ref a9, .int tm, .long hs])), (a1, .inl (ca 0, 226, .inl (sF z r f j (nt + 1) nl gl (scF gt nt q v)))), (a3, .inl (ca 0, 1356, .inl (savF fv sv (sF z r f j nt nl gl gt))))] := Eq.mp (congrArg (fun z9 : Nat → Int32 => va_D A [(om, .inr (6, [.int (nI 0), .ref a1, .ref a2, .ref a3, .int (nI (svN sv)), .ref a4, .ref a5, .ref a6, .int ln, .ref a7, .int bm, .int br, .int ck, .int sa, .ref a8, .int lm, .int rs, .int at_, .ref a9, .int tm, .long hs])), (a1, .inl (ca 0, 226, .inl z9)), (a3, .inl (ca 0, 1356, .inl (savF fv sv (sF z r f j nt nl gl gt))))]) e15) hD
              exact W.iret (v := nI (nt + 1)) hx hb hr (fun t ht hW => ⟨⟨_, (), rfl, ⟨by rfl, by trivial⟩, by rw [ht]; exact hP, hD⟩, hS.F ht⟩) hS.2.2 dX6_scratch_154
            · refine lv_aload_n hx hb dX6_scratch_80 rfl (lv_at hl 1 rfl) ?_
              refine va_get (D := D) (ci := 6) (C := RX6) (T := TX6) (N := 21) hx hb hts hiX6 hown hKv hP 0 rfl rfl 1 (by decide) lk7 (fun _ h9 => h9) rfl dX6_scratch_81 ?_
              refine lv_bipush (v := nI 26) hx hb dX6_scratch_84 (by decide) ?_
              refine lv_iload_n hx hb dX6_scratch_86 rfl (lv_at hl 0 rfl) ?_
              refine ni_iadd hx hb dX6_scratch_87 ?_
              refine lv_aload_n hx hb dX6_scratch_88 rfl (lv_at hl 1 rfl) ?_
              refine va_get (D := D) (ci := 6) (C := RX6) (T := TX6) (N := 21) hx hb hts hiX6 hown hKv hP 0 rfl rfl 1 (by decide) lk7 (fun _ h9 => h9) rfl dX6_scratch_89 ?_
              refine lv_bipush (v := nI 26) hx hb dX6_scratch_92 (by decide) ?_
              refine lv_iload_n hx hb dX6_scratch_94 rfl (lv_at hl 0 rfl) ?_
              refine ni_iadd hx hb dX6_scratch_95 ?_
              refine lv_iconst (v := nI 1) hx hb dX6_scratch_96 (by decide) ?_
              refine ni_isub (by omega) hx hb dX6_scratch_97 ?_
              refine my_iald hx hb hK hP 1 rfl (by omega) (by omega) dX6_scratch_98 ?_
              rw [show sF z r f j nt nl gl (shR gt nt i) ((26 + i) - 1) = (shR gt nt i) (i - 1) from sF_gt _ _ _ _ _ _ _ _ (by omega)]
              refine my_iast hx hb hK hP hD hS 1 rfl (by omega) (by omega) dX6_scratch_99 (fun H locs hP hD hS => ?_)
              have hP : va_P D vwCl [(om, .inr (6, [.int (nI 0), .ref a1, .ref a2, .ref a3, .int (nI (svN sv)), .ref a4, .ref a5, .ref a6, .int ln, .ref a7, .int bm, .int br, .int ck, .int sa, .ref a8, .int lm, .int rs, .int at_, .ref a9, .int tm, .long hs])), (a1, .inl (ca 0, 226, .inl (upd (sF z r f j nt nl gl (shR gt nt i)) (26 + i) ((shR gt nt i) (i - 1))))), (a3, .inl (ca 0, 1356, .inl (savF fv sv (sF z r f j nt nl gl gt))))] H := hP
              have hD : va_D A [(om, .inr (6, [.int (nI 0), .ref a1, .ref a2, .ref a3, .int (nI (svN sv)), .ref a4, .ref a5, .ref a6, .int ln, .ref a7, .int bm, .int br, .int ck, .int sa, .ref a8, .int lm, .int rs, .int at_, .ref a9, .int tm, .long hs])), (a1, .inl (ca 0, 226, .inl (upd (sF z r f j nt nl gl (shR gt nt i)) (26 + i) ((shR gt nt i) (i - 1))))), (a3, .inl (ca 0, 1356, .inl (savF fv sv (sF z r f j nt nl gl gt))))] := hD
              have e16 : (upd (sF z r f j nt nl gl (shR gt nt i)) (26 + i) ((shR gt nt i) (i - 1)) : Nat → Int32) = sF z r f j nt nl gl (upd (shR gt nt i) i ((shR gt nt i) (i - 1))) := sF_wt _ _ _ _ _ _ _ _ _ (by omega)
              have hP : va_P D vwCl [(om, .inr (6, [.int (nI 0), .ref a1, .ref a2, .ref a3, .int (nI (svN sv)), .ref a4, .ref a5, .ref a6, .int ln, .ref a7, .int bm, .int br, .int ck, .int sa, .ref a8, .int lm, .int rs, .int at_, .ref a9, .int tm, .long hs])), (a1, .inl (ca 0, 226, .inl (sF z r f j nt nl gl (upd (shR gt nt i) i ((shR gt nt i) (i - 1)))))), (a3, .inl (ca 0, 1356, .inl (savF fv sv (sF z r f j nt nl gl gt))))] H := Eq.mp (congrArg (fun z9 : Nat → Int32 => va_P D vwCl [(om, .inr (6, [.int (nI 0), .ref a1, .ref a2, .ref a3, .int (nI (svN sv)), .ref a4, .ref a5, .ref a6, .int ln, .ref a7, .int bm, .int br, .int ck, .int sa, .ref a8, .int lm, .int rs, .int at_, .ref a9, .int tm, .long hs])), (a1, .inl (ca 0, 226, .inl z9)), (a3, .inl (ca 0, 1356, .inl (savF fv sv (sF z r f j nt nl gl gt))))] H) e16) hP
              have hD : va_D A [(om, .inr (6, [.int (nI 0), .ref a1, .ref a2, .ref a3, .int (nI (svN sv)), .ref a4, .ref a5, .ref a6, .int ln, .ref a7, .int bm, .int br, .int ck, .int sa, .ref a8, .int lm, .int rs, .int at_, .ref a9, .int tm, .long hs])), (a1, .inl (ca 0, 226, .inl (sF z r f j nt nl gl (upd (shR gt nt i) i ((shR gt nt i) (i - 1)))))), (a3, .inl (ca 0, 1356, .inl (savF fv sv (sF z r f j nt nl gl gt))))] := Eq.mp (congrArg (fun z9 : Nat → Int32 => va_D A [(om, .inr (6, [.int (nI 0), .ref a1, .ref a2, .ref a3, .int (nI (svN sv)), .ref a4, .ref a5, .ref a6, .int ln, .ref a7, .int bm, .int br, .int ck, .int sa, .ref a8, .int lm, .int rs, .int at_, .ref a9, .int tm, .long hs])), (a1, .inl (ca 0, 226, .inl z9)), (a3, .inl (ca 0, 1356, .inl (savF fv sv (sF z r f j nt nl gl gt))))]) e16) hD
              refine lv_iinc (v := nI (i - 1)) (lv' := [(3, .int (nI (i - 1))), (0, .ref om), (1, .int (nI q)), (2, .int v)]) hx hb dX6_scratch_100 hl (k := 0) rfl (ni_dec _ (by omega)) (by decide) rfl (fun ls hl => ?_)
              refine lv_goto (tgt := 73) hx hb dX6_scratch_103 (by decide) ?_
              have e17 : (sF z r f j nt nl gl (upd (shR gt nt i) i ((shR gt nt i) (i - 1))) : Nat → Int32) = sF z r f j nt nl gl (shR gt nt (i - 1)) := by exact congrArg (sF z r f j nt nl gl) (shR_step gt (by omega) (by omega))
              have hP : va_P D vwCl [(om, .inr (6, [.int (nI 0), .ref a1, .ref a2, .ref a3, .int (nI (svN sv)), .ref a4, .ref a5, .ref a6, .int ln, .ref a7, .int bm, .int br, .int ck, .int sa, .ref a8, .int lm, .int rs, .int at_, .ref a9, .int tm, .long hs])), (a1, .inl (ca 0, 226, .inl (sF z r f j nt nl gl (shR gt nt (i - 1))))), (a3, .inl (ca 0, 1356, .inl (savF fv sv (sF z r f j nt nl gl gt))))] H := Eq.mp (congrArg (fun z9 : Nat → Int32 => va_P D vwCl [(om, .inr (6, [.int (nI 0), .ref a1, .ref a2, .ref a3, .int (nI (svN sv)), .ref a4, .ref a5, .ref a6, .int ln, .ref a7, .int bm, .int br, .int ck, .int sa, .ref a8, .int lm, .int rs, .int at_, .ref a9, .int tm, .long hs])), (a1, .inl (ca 0, 226, .inl z9)), (a3, .inl (ca 0, 1356, .inl (savF fv sv (sF z r f j nt nl gl gt))))] H) e17) hP
              have hD : va_D A [(om, .inr (6, [.int (nI 0), .ref a1, .ref a2, .ref a3, .int (nI (svN sv)), .ref a4, .ref a5, .ref a6, .int ln, .ref a7, .int bm, .int br, .int ck, .int sa, .ref a8, .int lm, .int rs, .int at_, .ref a9, .int tm, .long hs])), (a1, .inl (ca 0, 226, .inl (sF z r f j nt nl gl (shR gt nt (i - 1))))), (a3, .inl (ca 0, 1356, .inl (savF fv sv (sF z r f j nt nl gl gt))))] := Eq.mp (congrArg (fun z9 : Nat → Int32 => va_D A [(om, .inr (6, [.int (nI 0), .ref a1, .ref a2, .ref a3, .int (nI (svN sv)), .ref a4, .ref a5, .ref a6, .int ln, .ref a7, .int bm, .int br, .int ck, .int sa, .ref a8, .int lm, .int rs, .int at_, .ref a9, .int tm, .long hs])), (a1, .inl (ca 0, 226, .inl z9)), (a3, .inl (ca 0, 1356, .inl (savF fv sv (sF z r f j nt nl gl gt))))]) e17) hD
              exact ih1 (i - 1) (by omega) (by omega) (by omega) _ _ hP hD hS ls (lv_sub hl [0, 1, 2, 3] rfl)
        have e18 : (sF z r f j nt nl gl gt : Nat → Int32) = sF z r f j nt nl gl (shR gt nt nt) := by exact congrArg (sF z r f j nt nl gl) (shR_0 gt nt)
        have hP : va_P D vwCl [(om, .inr (6, [.int (nI 0), .ref a1, .ref a2, .ref a3, .int (nI (svN sv)), .ref a4, .ref a5, .ref a6, .int ln, .ref a7, .int bm, .int br, .int ck, .int sa, .ref a8, .int lm, .int rs, .int at_, .ref a9, .int tm, .long hs])), (a1, .inl (ca 0, 226, .inl (sF z r f j nt nl gl (shR gt nt nt)))), (a3, .inl (ca 0, 1356, .inl (savF fv sv (sF z r f j nt nl gl gt))))] H := Eq.mp (congrArg (fun z9 : Nat → Int32 => va_P D vwCl [(om, .inr (6, [.int (nI 0), .ref a1, .ref a2, .ref a3, .int (nI (svN sv)), .ref a4, .ref a5, .ref a6, .int ln, .ref a7, .int bm, .int br, .int ck, .int sa, .ref a8, .int lm, .int rs, .int at_, .ref a9, .int tm, .long hs])), (a1, .inl (ca 0, 226, .inl z9)), (a3, .inl (ca 0, 1356, .inl (savF fv sv (sF z r f j nt nl gl gt))))] H) e18) hP
        have hD : va_D A [(om, .inr (6, [.int (nI 0), .ref a1, .ref a2, .ref a3, .int (nI (svN sv)), .ref a4, .ref a5, .ref a6, .int ln, .ref a7, .int bm, .int br, .int ck, .int sa, .ref a8, .int lm, .int rs, .int at_, .ref a9, .int tm, .long hs])), (a1, .inl (ca 0, 226, .inl (sF z r f j nt nl gl (shR gt nt nt)))), (a3, .inl (ca 0, 1356, .inl (savF fv sv (sF z r f j nt nl gl gt))))] := Eq.mp (congrArg (fun z9 : Nat → Int32 => va_D A [(om, .inr (6, [.int (nI 0), .ref a1, .ref a2, .ref a3, .int (nI (svN sv)), .ref a4, .ref a5, .ref a6, .int ln, .ref a7, .int bm, .int br, .int ck, .int sa, .ref a8, .int lm, .int rs, .int at_, .ref a9, .int tm, .long hs])), (a1, .inl (ca 0, 226, .inl z9)), (a3, .inl (ca 0, 1356, .inl (savF fv sv (sF z r f j nt nl gl gt))))]) e18) hD
        exact lp73_9 (nt + 1) nt (by omega) (by omega) (by omega) _ _ hP hD hS ls (lv_sub hl [0, 1, 2, 3] rfl)
      · exact absurd c7 (by omega)
    · first | exact False.elim c6 | exact absurd c6 (by decide) | (exfalso; omega)
  · first | exact False.elim c3 | exact absurd c3 (by decide) | (exfalso; omega)
abbrev rm_kX6_scratch_bad : Room := { frames := 2, cells := 0, slots := 0, locals := 43 }
set_option maxHeartbeats 4000000 in
set_option maxRecDepth 100000 in
theorem kX6_scratch_bad (l : Launch) (D : va_G) (ca : Nat → ClassId) (sz : Nat) (om a1 a2 a3 a4 a5 a6 a7 a8 a9 : Nat) (thr sv ln bm br ck sa lm rs at_ tm : Int32) (hs : Int64) (z : Nat) (r f j : Int32) (nt nl : Nat) (gl gt : Nat → Int32) (x : Int32) (v : Int32) (hnt : nt ≤ 200) (hnl : nl ≤ 20) (hz : z ≤ 30) (hbad : hasF nt x = false) : Met l yX6_scratch wsX6_scratch rm_kX6_scratch_bad (pcM D ca [.ref om, .int x, .int v] [(om, .inr (6, [.int thr, .ref a1, .ref a2, .ref a3, .int sv, .ref a4, .ref a5, .ref a6, .int ln, .ref a7, .int bm, .int br, .int ck, .int sa, .ref a8, .int lm, .int rs, .int at_, .ref a9, .int tm, .long hs])), (a1, .inl (ca 0, 226, .inl (sF z r f j nt nl gl gt)))] sz) (va_Qi (fun (zr : Int32) (u : Unit) => zr = nI 0 ∧ True) (qB D (va_A [(om, .inr (6, [.int thr, .ref a1, .ref a2, .ref a3, .int sv, .ref a4, .ref a5, .ref a6, .int ln, .ref a7, .int bm, .int br, .int ck, .int sa, .ref a8, .int lm, .int rs, .int at_, .ref a9, .int tm, .long hs])), (a1, .inl (ca 0, 226, .inl (sF z r f j nt nl gl gt)))] sz) (fun u : Unit => [(om, .inr (6, [.int (nI 1), .ref a1, .ref a2, .ref a3, .int sv, .ref a4, .ref a5, .ref a6, .int ln, .ref a7, .int bm, .int br, .int ck, .int sa, .ref a8, .int lm, .int rs, .int at_, .ref a9, .int tm, .long hs])), (a1, .inl (ca 0, 226, .inl (sF z r f j nt nl gl gt)))])) (va_A [(om, .inr (6, [.int thr, .ref a1, .ref a2, .ref a3, .int sv, .ref a4, .ref a5, .ref a6, .int ln, .ref a7, .int bm, .int br, .int ck, .int sa, .ref a8, .int lm, .int rs, .int at_, .ref a9, .int tm, .long hs])), (a1, .inl (ca 0, 226, .inl (sF z r f j nt nl gl gt)))] sz)) 0 0 (va_A [(om, .inr (6, [.int thr, .ref a1, .ref a2, .ref a3, .int sv, .ref a4, .ref a5, .ref a6, .int ln, .ref a7, .int bm, .int br, .int ck, .int sa, .ref a8, .int lm, .int rs, .int at_, .ref a9, .int tm, .long hs])), (a1, .inl (ca 0, 226, .inl (sF z r f j nt nl gl gt)))] sz) := by
  refine Met.ofW (cc := cX6_scratch) (maxL := 4) (ret := (some .int)) (by decide) rfl ?_
  intro p e s m args below meth c s₁ B hml hv
  obtain ⟨rfl, hsz, hP, hK, hD0⟩ := hv
  have hx := B.exec
  have hb := B.bytes
  have hr := B.returns
  have hts := atoms_spec (ws := wsX6_scratch) B.pre
  have hown : s.vm.findClass RX6 = some m.cls := findClass_of_methodNamed B.named
  have hlocks := B.notSynchronized
  subst hsz
  have hD := hD0.self (sz := s.heap.size)
  generalize hAe : va_A [(om, .inr (6, [.int thr, .ref a1, .ref a2, .ref a3, .int sv, .ref a4, .ref a5, .ref a6, .int ln, .ref a7, .int bm, .int br, .int ck, .int sa, .ref a8, .int lm, .int rs, .int at_, .ref a9, .int tm, .long hs])), (a1, .inl (ca 0, 226, .inl (sF z r f j nt nl gl gt)))] s.heap.size = A at hD ⊢
  have hA : ∀ q : Nat, s.heap.size ≤ q → A q := fun q h => by rw [← hAe]; exact Or.inr h
  have hS : va_S A s.heap s.heap [] := va_S.rf
  have hP : va_P D vwCl [(om, .inr (6, [.int thr, .ref a1, .ref a2, .ref a3, .int sv, .ref a4, .ref a5, .ref a6, .int ln, .ref a7, .int bm, .int br, .int ck, .int sa, .ref a8, .int lm, .int rs, .int at_, .ref a9, .int tm, .long hs])), (a1, .inl (ca 0, 226, .inl (sF z r f j nt nl gl gt)))] s.heap := hP
  have hKv := hK.1
  have hl := lv_entry ([.ref om, .int x, .int v]) (n := 4) (kk_le rfl)
  rw [lg_entry_eq]
  generalize (lg_sl ([.ref om, .int x, .int v]) ++ List.replicate (4 - (lg_sl ([.ref om, .int x, .int v])).length) Slot.unset).toArray = ls at hl ⊢
  have hl : lv_has ls 4 [(0, .ref om), (1, .int x), (2, .int v)] := hl
  have hiX6 : ∀ w ∈ u_ws RX6 TX6 21, w ∈ wsX6_scratch := fun w h => by first | exact List.mem_cons_of_mem _ (List.mem_append_right _ h) | exact List.mem_cons_of_mem _ (List.mem_append_left _ (List.mem_append_right _ h)) | exact List.mem_cons_of_mem _ (List.mem_append_left _ (List.mem_append_left _ (List.mem_append_right _ h))) | exact List.mem_cons_of_mem _ (List.mem_append_left _ (List.mem_append_left _ (List.mem_append_left _ (List.mem_append_right _ h)))) | (revert w h; decide +kernel)
  have lk38 : (Cond.fieldLink RX6 38 "StripeSwipesModel" "thrown" "I").before _ s = true := hts _ (by decide +kernel)
  refine lv_aload_n hx hb dX6_scratch_0 rfl (lv_at hl 0 rfl) ?_
  refine lv_iconst (v := nI 0) hx hb dX6_scratch_1 (by decide) ?_
  refine va_put (D := D) (ci := 6) (v := .int (nI 0)) (ty := .int) (C := RX6) (T := TX6) (N := 21) hx hb hts hiX6 tyX6 tyX6_ok nmX6 hown hKv hP hD hS 0 rfl rfl 0 (by decide) lk38 (fun _ h9 => h9) rfl (by decide +kernel) rfl rfl (kk_le rfl) dX6_scratch_2 (fun H locs hP hD hS => ?_)
  have hP : va_P D vwCl [(om, .inr (6, [.int (nI 0), .ref a1, .ref a2, .ref a3, .int sv, .ref a4, .ref a5, .ref a6, .int ln, .ref a7, .int bm, .int br, .int ck, .int sa, .ref a8, .int lm, .int rs, .int at_, .ref a9, .int tm, .long hs])), (a1, .inl (ca 0, 226, .inl (sF z r f j nt nl gl gt)))] H := hP
  have hD : va_D A [(om, .inr (6, [.int (nI 0), .ref a1, .ref a2, .ref a3, .int sv, .ref a4, .ref a5, .ref a6, .int ln, .ref a7, .int bm, .int br, .int ck, .int sa, .ref a8, .int lm, .int rs, .int at_, .ref a9, .int tm, .long hs])), (a1, .inl (ca 0, 226, .inl (sF z r f j nt nl gl gt)))] := hD
  refine lv_aload_n hx hb dX6_scratch_5 rfl (lv_at hl 0 rfl) ?_
  refine lv_iload_n hx hb dX6_scratch_6 rfl (lv_at hl 1 rfl) ?_
  refine vp_callSi (va_Run.run (va_runV (As := [.int x]) (rest := []) ⟨hx, hb, hml, hown, hts⟩ (kX6_isPlace l D ca om a1 a2 a3 a4 a5 a6 a7 a8 a9 (nI 0) sv ln bm br ck sa lm rs at_ tm hs z r f j nt nl gl gt x (by first | rfl | assumption | omega | trivial | (exfalso; omega)) (by first | rfl | assumption | omega | trivial | (exfalso; omega)) (by first | rfl | assumption | omega | trivial | (exfalso; omega))) (cwV 1 hts gX6_scratch_X6_isPlace rfl rfl rfl (by decide +kernel) ⟨kk_le rfl, kk_le rfl⟩) (pvR hK hP (va_recv hKv hP (ci := 6) (q0 := 0) rfl rfl)) rfl rfl hl.1 rfl (lv_room (kk_le rfl)) dX6_scratch_7 ⟨kk_le rfl, kk_le rfl⟩)) (fun r1 hr1 => ?_)
  subst hr1
  have e2 : (bI (hasF nt x) : Int32) = bI false := congrArg bI (hbad)
  rw [e2]
  refine bi_if_ne (tgt := 19) hx hb dX6_scratch_10 (by decide) (fun c3 => ?_) (fun c3 => ?_)
  · first | exact False.elim c3 | exact absurd c3 (by decide) | (exfalso; omega)
  · refine lv_aload_n hx hb dX6_scratch_13 rfl (lv_at hl 0 rfl) ?_
    refine lv_iconst (v := nI 1) hx hb dX6_scratch_14 (by decide) ?_
    have hPc := hP.sub (ws' := [(om, .inr (6, [.int (nI 0), .ref a1, .ref a2, .ref a3, .int sv, .ref a4, .ref a5, .ref a6, .int ln, .ref a7, .int bm, .int br, .int ck, .int sa, .ref a8, .int lm, .int rs, .int at_, .ref a9, .int tm, .long hs]))]) [0] rfl
    have hDc := hD.sub (ws' := [(om, .inr (6, [.int (nI 0), .ref a1, .ref a2, .ref a3, .int sv, .ref a4, .ref a5, .ref a6, .int ln, .ref a7, .int bm, .int br, .int ck, .int sa, .ref a8, .int lm, .int rs, .int at_, .ref a9, .int tm, .long hs]))]) [0] (by decide) rfl
    have hFc := va_free (wc := [(om, .inr (6, [.int (nI 0), .ref a1, .ref a2, .ref a3, .int sv, .ref a4, .ref a5, .ref a6, .int ln, .ref a7, .int bm, .int br, .int ck, .int sa, .ref a8, .int lm, .int rs, .int at_, .ref a9, .int tm, .long hs]))]) hD hS hA [0] rfl
    refine va_calli (va_runV (As := [.int (nI 1)]) (rest := []) ⟨hx, hb, hml, hown, hts⟩ (kX6_fails l D ca H.size om a1 a2 a3 a4 a5 a6 a7 a8 a9 (nI 0) sv ln bm br ck sa lm rs at_ tm hs (nI 1)) (cwV 1 hts gX6_scratch_X6_fails rfl rfl rfl (by decide +kernel) ⟨kk_le rfl, kk_le rfl⟩) (pvM hK hPc (my_D_true hDc) (va_recv hKv hP (ci := 6) (q0 := 0) rfl rfl)) rfl rfl hl.1 rfl (lv_room (kk_le rfl)) dX6_scratch_15 ⟨kk_le rfl, kk_le rfl⟩) hS (fun q _ h => hFc q h) hFc (fun r4 u t H1 locs ht hvm hwv hBv hz1 hk1 hS => ?_)
    obtain ⟨hP1, hD1⟩ := hBv
    rw [ht] at hP1
    have hP1 : va_P D vwCl [(om, .inr (6, [.int (nI 1), .ref a1, .ref a2, .ref a3, .int sv, .ref a4, .ref a5, .ref a6, .int ln, .ref a7, .int bm, .int br, .int ck, .int sa, .ref a8, .int lm, .int rs, .int at_, .ref a9, .int tm, .long hs]))] H1 := hP1
    have hD1 : va_D _ [(om, .inr (6, [.int (nI 1), .ref a1, .ref a2, .ref a3, .int sv, .ref a4, .ref a5, .ref a6, .int ln, .ref a7, .int bm, .int br, .int ck, .int sa, .ref a8, .int lm, .int rs, .int at_, .ref a9, .int tm, .long hs]))] := hD1
    obtain ⟨hr4, hw4⟩ := hwv
    subst hr4
    obtain ⟨hP, hD⟩ := va_join (wr := [(a1, .inl (ca 0, 226, .inl (sF z r f j nt nl gl gt)))]) (w1 := [(om, .inr (6, [.int (nI 1), .ref a1, .ref a2, .ref a3, .int sv, .ref a4, .ref a5, .ref a6, .int ln, .ref a7, .int bm, .int br, .int ck, .int sa, .ref a8, .int lm, .int rs, .int at_, .ref a9, .int tm, .long hs]))]) hP hD [0] [1] rfl rfl (by decide) (by decide) hk1 hFc hP1 hD1
    generalize H1 = H at hP hS ⊢
    have hP := hP.sub (ws' := [(om, .inr (6, [.int (nI 1), .ref a1, .ref a2, .ref a3, .int sv, .ref a4, .ref a5, .ref a6, .int ln, .ref a7, .int bm, .int br, .int ck, .int sa, .ref a8, .int lm, .int rs, .int at_, .ref a9, .int tm, .long hs])), (a1, .inl (ca 0, 226, .inl (sF z r f j nt nl gl gt)))]) [1, 0] rfl
    have hD := hD.sub (ws' := [(om, .inr (6, [.int (nI 1), .ref a1, .ref a2, .ref a3, .int sv, .ref a4, .ref a5, .ref a6, .int ln, .ref a7, .int bm, .int br, .int ck, .int sa, .ref a8, .int lm, .int rs, .int at_, .ref a9, .int tm, .long hs])), (a1, .inl (ca 0, 226, .inl (sF z r f j nt nl gl gt)))]) [1, 0] (by decide) rfl
    exact W.iret (v := nI 0) hx hb hr (fun t ht hW => ⟨⟨_, (), rfl, ⟨by rfl, by trivial⟩, by rw [ht]; exact hP, hD⟩, hS.F ht⟩) hS.2.2 dX6_scratch_18
abbrev rm_kX6_scratch_bad2 : Room := { frames := 2, cells := 0, slots := 0, locals := 43 }
set_option maxHeartbeats 4000000 in
set_option maxRecDepth 100000 in
theorem kX6_scratch_bad2 (l : Launch) (D : va_G) (ca : Nat → ClassId) (sz : Nat) (om a1 a2 a3 a4 a5 a6 a7 a8 a9 : Nat) (thr sv ln bm br ck sa lm rs at_ tm : Int32) (hs : Int64) (z : Nat) (r f j : Int32) (nt nl : Nat) (gl gt : Nat → Int32) (q : Nat) (v : Int32) (hnt : nt ≤ 200) (hnl : nl ≤ 20) (hz : z ≤ 30) (hq : q < nt) (hbad : inF v (nI 1) (gt q - nI 1) = false) : Met l yX6_scratch wsX6_scratch rm_kX6_scratch_bad2 (pcM D ca [.ref om, .int (nI q), .int v] [(om, .inr (6, [.int thr, .ref a1, .ref a2, .ref a3, .int sv, .ref a4, .ref a5, .ref a6, .int ln, .ref a7, .int bm, .int br, .int ck, .int sa, .ref a8, .int lm, .int rs, .int at_, .ref a9, .int tm, .long hs])), (a1, .inl (ca 0, 226, .inl (sF z r f j nt nl gl gt)))] sz) (va_Qi (fun (zr : Int32) (u : Unit) => zr = nI 0 ∧ True) (qB D (va_A [(om, .inr (6, [.int thr, .ref a1, .ref a2, .ref a3, .int sv, .ref a4, .ref a5, .ref a6, .int ln, .ref a7, .int bm, .int br, .int ck, .int sa, .ref a8, .int lm, .int rs, .int at_, .ref a9, .int tm, .long hs])), (a1, .inl (ca 0, 226, .inl (sF z r f j nt nl gl gt)))] sz) (fun u : Unit => [(om, .inr (6, [.int (nI 2), .ref a1, .ref a2, .ref a3, .int sv, .ref a4, .ref a5, .ref a6, .int ln, .ref a7, .int bm, .int br, .int ck, .int sa, .ref a8, .int lm, .int rs, .int at_, .ref a9, .int tm, .long hs])), (a1, .inl (ca 0, 226, .inl (sF z r f j nt nl gl gt)))])) (va_A [(om, .inr (6, [.int thr, .ref a1, .ref a2, .ref a3, .int sv, .ref a4, .ref a5, .ref a6, .int ln, .ref a7, .int bm, .int br, .int ck, .int sa, .ref a8, .int lm, .int rs, .int at_, .ref a9, .int tm, .long hs])), (a1, .inl (ca 0, 226, .inl (sF z r f j nt nl gl gt)))] sz)) 0 0 (va_A [(om, .inr (6, [.int thr, .ref a1, .ref a2, .ref a3, .int sv, .ref a4, .ref a5, .ref a6, .int ln, .ref a7, .int bm, .int br, .int ck, .int sa, .ref a8, .int lm, .int rs, .int at_, .ref a9, .int tm, .long hs])), (a1, .inl (ca 0, 226, .inl (sF z r f j nt nl gl gt)))] sz) := by
  refine Met.ofW (cc := cX6_scratch) (maxL := 4) (ret := (some .int)) (by decide) rfl ?_
  intro p e s m args below meth c s₁ B hml hv
  obtain ⟨rfl, hsz, hP, hK, hD0⟩ := hv
  have hx := B.exec
  have hb := B.bytes
  have hr := B.returns
  have hts := atoms_spec (ws := wsX6_scratch) B.pre
  have hown : s.vm.findClass RX6 = some m.cls := findClass_of_methodNamed B.named
  have hlocks := B.notSynchronized
  subst hsz
  have hD := hD0.self (sz := s.heap.size)
  generalize hAe : va_A [(om, .inr (6, [.int thr, .ref a1, .ref a2, .ref a3, .int sv, .ref a4, .ref a5, .ref a6, .int ln, .ref a7, .int bm, .int br, .int ck, .int sa, .ref a8, .int lm, .int rs, .int at_, .ref a9, .int tm, .long hs])), (a1, .inl (ca 0, 226, .inl (sF z r f j nt nl gl gt)))] s.heap.size = A at hD ⊢
  have hA : ∀ q : Nat, s.heap.size ≤ q → A q := fun q h => by rw [← hAe]; exact Or.inr h
  have hS : va_S A s.heap s.heap [] := va_S.rf
  have hP : va_P D vwCl [(om, .inr (6, [.int thr, .ref a1, .ref a2, .ref a3, .int sv, .ref a4, .ref a5, .ref a6, .int ln, .ref a7, .int bm, .int br, .int ck, .int sa, .ref a8, .int lm, .int rs, .int at_, .ref a9, .int tm, .long hs])), (a1, .inl (ca 0, 226, .inl (sF z r f j nt nl gl gt)))] s.heap := hP
  have hKv := hK.1
  have hl := lv_entry ([.ref om, .int (nI q), .int v]) (n := 4) (kk_le rfl)
  rw [lg_entry_eq]
  generalize (lg_sl ([.ref om, .int (nI q), .int v]) ++ List.replicate (4 - (lg_sl ([.ref om, .int (nI q), .int v])).length) Slot.unset).toArray = ls at hl ⊢
  have hl : lv_has ls 4 [(0, .ref om), (1, .int (nI q)), (2, .int v)] := hl
  have hiX6 : ∀ w ∈ u_ws RX6 TX6 21, w ∈ wsX6_scratch := fun w h => by first | exact List.mem_cons_of_mem _ (List.mem_append_right _ h) | exact List.mem_cons_of_mem _ (List.mem_append_left _ (List.mem_append_right _ h)) | exact List.mem_cons_of_mem _ (List.mem_append_left _ (List.mem_append_left _ (List.mem_append_right _ h))) | exact List.mem_cons_of_mem _ (List.mem_append_left _ (List.mem_append_left _ (List.mem_append_left _ (List.mem_append_right _ h)))) | (revert w h; decide +kernel)
  have lk38 : (Cond.fieldLink RX6 38 "StripeSwipesModel" "thrown" "I").before _ s = true := hts _ (by decide +kernel)
  have lk7 : (Cond.fieldLink RX6 7 "StripeSwipesModel" "s" "[I").before _ s = true := hts _ (by decide +kernel)
  refine lv_aload_n hx hb dX6_scratch_0 rfl (lv_at hl 0 rfl) ?_
  refine lv_iconst (v := nI 0) hx hb dX6_scratch_1 (by decide) ?_
  refine va_put (D := D) (ci := 6) (v := .int (nI 0)) (ty := .int) (C := RX6) (T := TX6) (N := 21) hx hb hts hiX6 tyX6 tyX6_ok nmX6 hown hKv hP hD hS 0 rfl rfl 0 (by decide) lk38 (fun _ h9 => h9) rfl (by decide +kernel) rfl rfl (kk_le rfl) dX6_scratch_2 (fun H locs hP hD hS => ?_)
  have hP : va_P D vwCl [(om, .inr (6, [.int (nI 0), .ref a1, .ref a2, .ref a3, .int sv, .ref a4, .ref a5, .ref a6, .int ln, .ref a7, .int bm, .int br, .int ck, .int sa, .ref a8, .int lm, .int rs, .int at_, .ref a9, .int tm, .long hs])), (a1, .inl (ca 0, 226, .inl (sF z r f j nt nl gl gt)))] H := hP
  have hD : va_D A [(om, .inr (6, [.int (nI 0), .ref a1, .ref a2, .ref a3, .int sv, .ref a4, .ref a5, .ref a6, .int ln, .ref a7, .int bm, .int br, .int ck, .int sa, .ref a8, .int lm, .int rs, .int at_, .ref a9, .int tm, .long hs])), (a1, .inl (ca 0, 226, .inl (sF z r f j nt nl gl gt)))] := hD
  refine lv_aload_n hx hb dX6_scratch_5 rfl (lv_at hl 0 rfl) ?_
  refine lv_iload_n hx hb dX6_scratch_6 rfl (lv_at hl 1 rfl) ?_
  refine vp_callSi (va_Run.run (va_runV (As := [.int (nI q)]) (rest := []) ⟨hx, hb, hml, hown, hts⟩ (kX6_isPlace l D ca om a1 a2 a3 a4 a5 a6 a7 a8 a9 (nI 0) sv ln bm br ck sa lm rs at_ tm hs z r f j nt nl gl gt (nI q) (by first | rfl | assumption | omega | trivial | (exfalso; omega)) (by first | rfl | assumption | omega | trivial | (exfalso; omega)) (by first | rfl | assumption | omega | trivial | (exfalso; omega))) (cwV 1 hts gX6_scratch_X6_isPlace rfl rfl rfl (by decide +kernel) ⟨kk_le rfl, kk_le rfl⟩) (pvR hK hP (va_recv hKv hP (ci := 6) (q0 := 0) rfl rfl)) rfl rfl hl.1 rfl (lv_room (kk_le rfl)) dX6_scratch_7 ⟨kk_le rfl, kk_le rfl⟩)) (fun r1 hr1 => ?_)
  subst hr1
  have e2 : (bI (hasF nt (nI q)) : Int32) = bI true := congrArg bI ((hasF_n (by omega) (by omega)).trans (decide_eq_true (by omega)))
  rw [e2]
  refine bi_if_ne (tgt := 19) hx hb dX6_scratch_10 (by decide) (fun c3 => ?_) (fun c3 => ?_)
  · refine lv_iload_n hx hb dX6_scratch_19 rfl (lv_at hl 2 rfl) ?_
    refine lv_iconst (v := nI 1) hx hb dX6_scratch_20 (by decide) ?_
    refine lv_aload_n hx hb dX6_scratch_21 rfl (lv_at hl 0 rfl) ?_
    refine va_get (D := D) (ci := 6) (C := RX6) (T := TX6) (N := 21) hx hb hts hiX6 hown hKv hP 0 rfl rfl 1 (by decide) lk7 (fun _ h9 => h9) rfl dX6_scratch_22 ?_
    refine lv_bipush (v := nI 26) hx hb dX6_scratch_25 (by decide) ?_
    refine lv_iload_n hx hb dX6_scratch_27 rfl (lv_at hl 1 rfl) ?_
    refine ni_iadd hx hb dX6_scratch_28 ?_
    refine my_iald hx hb hK hP 1 rfl (by omega) (by omega) dX6_scratch_29 ?_
    rw [show sF z r f j nt nl gl gt (26 + q) = gt q from sF_gt _ _ _ _ _ _ _ _ (by omega)]
    refine lv_iconst (v := nI 1) hx hb dX6_scratch_30 (by decide) ?_
    refine lv_isub hx hb dX6_scratch_31 ?_
    refine vp_callSi (va_Run.run (va_runS (As := [.int v, .int (nI 1), .int ((gt q) - (nI 1))]) (rest := []) ⟨hx, hb, hml, hown, hts⟩ (kX6_in l v (nI 1) ((gt q) - (nI 1))) (va_cwS 3 hts gX6_scratch_X6_in rfl rfl rfl (by decide +kernel) ⟨kk_le rfl, kk_le rfl⟩) psN rfl rfl hl.1 rfl (lv_room (kk_le rfl)) dX6_scratch_32 ⟨kk_le rfl, kk_le rfl⟩)) (fun r4 hr4 => ?_)
    subst hr4
    have e5 : (bI (inF v (nI 1) ((gt q) - (nI 1))) : Int32) = bI false := congrArg bI (hbad)
    rw [e5]
    refine bi_if_ne (tgt := 44) hx hb dX6_scratch_35 (by decide) (fun c6 => ?_) (fun c6 => ?_)
    · first | exact False.elim c6 | exact absurd c6 (by decide) | (exfalso; omega)
    · refine lv_aload_n hx hb dX6_scratch_38 rfl (lv_at hl 0 rfl) ?_
      refine lv_iconst (v := nI 2) hx hb dX6_scratch_39 (by decide) ?_
      have hPc := hP.sub (ws' := [(om, .inr (6, [.int (nI 0), .ref a1, .ref a2, .ref a3, .int sv, .ref a4, .ref a5, .ref a6, .int ln, .ref a7, .int bm, .int br, .int ck, .int sa, .ref a8, .int lm, .int rs, .int at_, .ref a9, .int tm, .long hs]))]) [0] rfl
      have hDc := hD.sub (ws' := [(om, .inr (6, [.int (nI 0), .ref a1, .ref a2, .ref a3, .int sv, .ref a4, .ref a5, .ref a6, .int ln, .ref a7, .int bm, .int br, .int ck, .int sa, .ref a8, .int lm, .int rs, .int at_, .ref a9, .int tm, .long hs]))]) [0] (by decide) rfl
      have hFc := va_free (wc := [(om, .inr (6, [.int (nI 0), .ref a1, .ref a2, .ref a3, .int sv, .ref a4, .ref a5, .ref a6, .int ln, .ref a7, .int bm, .int br, .int ck, .int sa, .ref a8, .int lm, .int rs, .int at_, .ref a9, .int tm, .long hs]))]) hD hS hA [0] rfl
      refine va_calli (va_runV (As := [.int (nI 2)]) (rest := []) ⟨hx, hb, hml, hown, hts⟩ (kX6_fails l D ca H.size om a1 a2 a3 a4 a5 a6 a7 a8 a9 (nI 0) sv ln bm br ck sa lm rs at_ tm hs (nI 2)) (cwV 1 hts gX6_scratch_X6_fails rfl rfl rfl (by decide +kernel) ⟨kk_le rfl, kk_le rfl⟩) (pvM hK hPc (my_D_true hDc) (va_recv hKv hP (ci := 6) (q0 := 0) rfl rfl)) rfl rfl hl.1 rfl (lv_room (kk_le rfl)) dX6_scratch_40 ⟨kk_le rfl, kk_le rfl⟩) hS (fun q _ h => hFc q h) hFc (fun r7 u t H1 locs ht hvm hwv hBv hz1 hk1 hS => ?_)
      obtain ⟨hP1, hD1⟩ := hBv
      rw [ht] at hP1
      have hP1 : va_P D vwCl [(om, .inr (6, [.int (nI 2), .ref a1, .ref a2, .ref a3, .int sv, .ref a4, .ref a5, .ref a6, .int ln, .ref a7, .int bm, .int br, .int ck, .int sa, .ref a8, .int lm, .int rs, .int at_, .ref a9, .int tm, .long hs]))] H1 := hP1
      have hD1 : va_D _ [(om, .inr (6, [.int (nI 2), .ref a1, .ref a2, .ref a3, .int sv, .ref a4, .ref a5, .ref a6, .int ln, .ref a7, .int bm, .int br, .int ck, .int sa, .ref a8, .int lm, .int rs, .int at_, .ref a9, .int tm, .long hs]))] := hD1
      obtain ⟨hr7, hw7⟩ := hwv
      subst hr7
      obtain ⟨hP, hD⟩ := va_join (wr := [(a1, .inl (ca 0, 226, .inl (sF z r f j nt nl gl gt)))]) (w1 := [(om, .inr (6, [.int (nI 2), .ref a1, .ref a2, .ref a3, .int sv, .ref a4, .ref a5, .ref a6, .int ln, .ref a7, .int bm, .int br, .int ck, .int sa, .ref a8, .int lm, .int rs, .int at_, .ref a9, .int tm, .long hs]))]) hP hD [0] [1] rfl rfl (by decide) (by decide) hk1 hFc hP1 hD1
      generalize H1 = H at hP hS ⊢
      have hP := hP.sub (ws' := [(om, .inr (6, [.int (nI 2), .ref a1, .ref a2, .ref a3, .int sv, .ref a4, .ref a5, .ref a6, .int ln, .ref a7, .int bm, .int br, .int ck, .int sa, .ref a8, .int lm, .int rs, .int at_, .ref a9, .int tm, .long hs])), (a1, .inl (ca 0, 226, .inl (sF z r f j nt nl gl gt)))]) [1, 0] rfl
      have hD := hD.sub (ws' := [(om, .inr (6, [.int (nI 2), .ref a1, .ref a2, .ref a3, .int sv, .ref a4, .ref a5, .ref a6, .int ln, .ref a7, .int bm, .int br, .int ck, .int sa, .ref a8, .int lm, .int rs, .int at_, .ref a9, .int tm, .long hs])), (a1, .inl (ca 0, 226, .inl (sF z r f j nt nl gl gt)))]) [1, 0] (by decide) rfl
      exact W.iret (v := nI 0) hx hb hr (fun t ht hW => ⟨⟨_, (), rfl, ⟨by rfl, by trivial⟩, by rw [ht]; exact hP, hD⟩, hS.F ht⟩) hS.2.2 dX6_scratch_43
  · first | exact False.elim c3 | exact absurd c3 (by decide) | (exfalso; omega)
abbrev rm_kX6_scratch_bad3 : Room := { frames := 2, cells := 0, slots := 0, locals := 43 }
set_option maxHeartbeats 4000000 in
set_option maxRecDepth 100000 in
theorem kX6_scratch_bad3 (l : Launch) (D : va_G) (ca : Nat → ClassId) (sz : Nat) (om a1 a2 a3 a4 a5 a6 a7 a8 a9 : Nat) (thr sv ln bm br ck sa lm rs at_ tm : Int32) (hs : Int64) (z : Nat) (r f j : Int32) (nt nl : Nat) (gl gt : Nat → Int32) (q : Nat) (v : Int32) (hnt : nt ≤ 200) (hnl : nl ≤ 20) (hz : z ≤ 30) (hq : q < nt) (hin : inF v (nI 1) (gt q - nI 1) = true) (hbad : nt = 200) : Met l yX6_scratch wsX6_scratch rm_kX6_scratch_bad3 (pcM D ca [.ref om, .int (nI q), .int v] [(om, .inr (6, [.int thr, .ref a1, .ref a2, .ref a3, .int sv, .ref a4, .ref a5, .ref a6, .int ln, .ref a7, .int bm, .int br, .int ck, .int sa, .ref a8, .int lm, .int rs, .int at_, .ref a9, .int tm, .long hs])), (a1, .inl (ca 0, 226, .inl (sF z r f j nt nl gl gt)))] sz) (va_Qi (fun (zr : Int32) (u : Unit) => zr = nI 0 ∧ True) (qB D (va_A [(om, .inr (6, [.int thr, .ref a1, .ref a2, .ref a3, .int sv, .ref a4, .ref a5, .ref a6, .int ln, .ref a7, .int bm, .int br, .int ck, .int sa, .ref a8, .int lm, .int rs, .int at_, .ref a9, .int tm, .long hs])), (a1, .inl (ca 0, 226, .inl (sF z r f j nt nl gl gt)))] sz) (fun u : Unit => [(om, .inr (6, [.int (nI 3), .ref a1, .ref a2, .ref a3, .int sv, .ref a4, .ref a5, .ref a6, .int ln, .ref a7, .int bm, .int br, .int ck, .int sa, .ref a8, .int lm, .int rs, .int at_, .ref a9, .int tm, .long hs])), (a1, .inl (ca 0, 226, .inl (sF z r f j nt nl gl gt)))])) (va_A [(om, .inr (6, [.int thr, .ref a1, .ref a2, .ref a3, .int sv, .ref a4, .ref a5, .ref a6, .int ln, .ref a7, .int bm, .int br, .int ck, .int sa, .ref a8, .int lm, .int rs, .int at_, .ref a9, .int tm, .long hs])), (a1, .inl (ca 0, 226, .inl (sF z r f j nt nl gl gt)))] sz)) 0 0 (va_A [(om, .inr (6, [.int thr, .ref a1, .ref a2, .ref a3, .int sv, .ref a4, .ref a5, .ref a6, .int ln, .ref a7, .int bm, .int br, .int ck, .int sa, .ref a8, .int lm, .int rs, .int at_, .ref a9, .int tm, .long hs])), (a1, .inl (ca 0, 226, .inl (sF z r f j nt nl gl gt)))] sz) := by
  refine Met.ofW (cc := cX6_scratch) (maxL := 4) (ret := (some .int)) (by decide) rfl ?_
  intro p e s m args below meth c s₁ B hml hv
  obtain ⟨rfl, hsz, hP, hK, hD0⟩ := hv
  have hx := B.exec
  have hb := B.bytes
  have hr := B.returns
  have hts := atoms_spec (ws := wsX6_scratch) B.pre
  have hown : s.vm.findClass RX6 = some m.cls := findClass_of_methodNamed B.named
  have hlocks := B.notSynchronized
  subst hsz
  have hD := hD0.self (sz := s.heap.size)
  generalize hAe : va_A [(om, .inr (6, [.int thr, .ref a1, .ref a2, .ref a3, .int sv, .ref a4, .ref a5, .ref a6, .int ln, .ref a7, .int bm, .int br, .int ck, .int sa, .ref a8, .int lm, .int rs, .int at_, .ref a9, .int tm, .long hs])), (a1, .inl (ca 0, 226, .inl (sF z r f j nt nl gl gt)))] s.heap.size = A at hD ⊢
  have hA : ∀ q : Nat, s.heap.size ≤ q → A q := fun q h => by rw [← hAe]; exact Or.inr h
  have hS : va_S A s.heap s.heap [] := va_S.rf
  have hP : va_P D vwCl [(om, .inr (6, [.int thr, .ref a1, .ref a2, .ref a3, .int sv, .ref a4, .ref a5, .ref a6, .int ln, .ref a7, .int bm, .int br, .int ck, .int sa, .ref a8, .int lm, .int rs, .int at_, .ref a9, .int tm, .long hs])), (a1, .inl (ca 0, 226, .inl (sF z r f j nt nl gl gt)))] s.heap := hP
  have hKv := hK.1
  have hl := lv_entry ([.ref om, .int (nI q), .int v]) (n := 4) (kk_le rfl)
  rw [lg_entry_eq]
  generalize (lg_sl ([.ref om, .int (nI q), .int v]) ++ List.replicate (4 - (lg_sl ([.ref om, .int (nI q), .int v])).length) Slot.unset).toArray = ls at hl ⊢
  have hl : lv_has ls 4 [(0, .ref om), (1, .int (nI q)), (2, .int v)] := hl
  have hiX6 : ∀ w ∈ u_ws RX6 TX6 21, w ∈ wsX6_scratch := fun w h => by first | exact List.mem_cons_of_mem _ (List.mem_append_right _ h) | exact List.mem_cons_of_mem _ (List.mem_append_left _ (List.mem_append_right _ h)) | exact List.mem_cons_of_mem _ (List.mem_append_left _ (List.mem_append_left _ (List.mem_append_right _ h))) | exact List.mem_cons_of_mem _ (List.mem_append_left _ (List.mem_append_left _ (List.mem_append_left _ (List.mem_append_right _ h)))) | (revert w h; decide +kernel)
  have lk38 : (Cond.fieldLink RX6 38 "StripeSwipesModel" "thrown" "I").before _ s = true := hts _ (by decide +kernel)
  have lk7 : (Cond.fieldLink RX6 7 "StripeSwipesModel" "s" "[I").before _ s = true := hts _ (by decide +kernel)
  refine lv_aload_n hx hb dX6_scratch_0 rfl (lv_at hl 0 rfl) ?_
  refine lv_iconst (v := nI 0) hx hb dX6_scratch_1 (by decide) ?_
  refine va_put (D := D) (ci := 6) (v := .int (nI 0)) (ty := .int) (C := RX6) (T := TX6) (N := 21) hx hb hts hiX6 tyX6 tyX6_ok nmX6 hown hKv hP hD hS 0 rfl rfl 0 (by decide) lk38 (fun _ h9 => h9) rfl (by decide +kernel) rfl rfl (kk_le rfl) dX6_scratch_2 (fun H locs hP hD hS => ?_)
  have hP : va_P D vwCl [(om, .inr (6, [.int (nI 0), .ref a1, .ref a2, .ref a3, .int sv, .ref a4, .ref a5, .ref a6, .int ln, .ref a7, .int bm, .int br, .int ck, .int sa, .ref a8, .int lm, .int rs, .int at_, .ref a9, .int tm, .long hs])), (a1, .inl (ca 0, 226, .inl (sF z r f j nt nl gl gt)))] H := hP
  have hD : va_D A [(om, .inr (6, [.int (nI 0), .ref a1, .ref a2, .ref a3, .int sv, .ref a4, .ref a5, .ref a6, .int ln, .ref a7, .int bm, .int br, .int ck, .int sa, .ref a8, .int lm, .int rs, .int at_, .ref a9, .int tm, .long hs])), (a1, .inl (ca 0, 226, .inl (sF z r f j nt nl gl gt)))] := hD
  refine lv_aload_n hx hb dX6_scratch_5 rfl (lv_at hl 0 rfl) ?_
  refine lv_iload_n hx hb dX6_scratch_6 rfl (lv_at hl 1 rfl) ?_
  refine vp_callSi (va_Run.run (va_runV (As := [.int (nI q)]) (rest := []) ⟨hx, hb, hml, hown, hts⟩ (kX6_isPlace l D ca om a1 a2 a3 a4 a5 a6 a7 a8 a9 (nI 0) sv ln bm br ck sa lm rs at_ tm hs z r f j nt nl gl gt (nI q) (by first | rfl | assumption | omega | trivial | (exfalso; omega)) (by first | rfl | assumption | omega | trivial | (exfalso; omega)) (by first | rfl | assumption | omega | trivial | (exfalso; omega))) (cwV 1 hts gX6_scratch_X6_isPlace rfl rfl rfl (by decide +kernel) ⟨kk_le rfl, kk_le rfl⟩) (pvR hK hP (va_recv hKv hP (ci := 6) (q0 := 0) rfl rfl)) rfl rfl hl.1 rfl (lv_room (kk_le rfl)) dX6_scratch_7 ⟨kk_le rfl, kk_le rfl⟩)) (fun r1 hr1 => ?_)
  subst hr1
  have e2 : (bI (hasF nt (nI q)) : Int32) = bI true := congrArg bI ((hasF_n (by omega) (by omega)).trans (decide_eq_true (by omega)))
  rw [e2]
  refine bi_if_ne (tgt := 19) hx hb dX6_scratch_10 (by decide) (fun c3 => ?_) (fun c3 => ?_)
  · refine lv_iload_n hx hb dX6_scratch_19 rfl (lv_at hl 2 rfl) ?_
    refine lv_iconst (v := nI 1) hx hb dX6_scratch_20 (by decide) ?_
    refine lv_aload_n hx hb dX6_scratch_21 rfl (lv_at hl 0 rfl) ?_
    refine va_get (D := D) (ci := 6) (C := RX6) (T := TX6) (N := 21) hx hb hts hiX6 hown hKv hP 0 rfl rfl 1 (by decide) lk7 (fun _ h9 => h9) rfl dX6_scratch_22 ?_
    refine lv_bipush (v := nI 26) hx hb dX6_scratch_25 (by decide) ?_
    refine lv_iload_n hx hb dX6_scratch_27 rfl (lv_at hl 1 rfl) ?_
    refine ni_iadd hx hb dX6_scratch_28 ?_
    refine my_iald hx hb hK hP 1 rfl (by omega) (by omega) dX6_scratch_29 ?_
    rw [show sF z r f j nt nl gl gt (26 + q) = gt q from sF_gt _ _ _ _ _ _ _ _ (by omega)]
    refine lv_iconst (v := nI 1) hx hb dX6_scratch_30 (by decide) ?_
    refine lv_isub hx hb dX6_scratch_31 ?_
    refine vp_callSi (va_Run.run (va_runS (As := [.int v, .int (nI 1), .int ((gt q) - (nI 1))]) (rest := []) ⟨hx, hb, hml, hown, hts⟩ (kX6_in l v (nI 1) ((gt q) - (nI 1))) (va_cwS 3 hts gX6_scratch_X6_in rfl rfl rfl (by decide +kernel) ⟨kk_le rfl, kk_le rfl⟩) psN rfl rfl hl.1 rfl (lv_room (kk_le rfl)) dX6_scratch_32 ⟨kk_le rfl, kk_le rfl⟩)) (fun r4 hr4 => ?_)
    subst hr4
    have e5 : (bI (inF v (nI 1) ((gt q) - (nI 1))) : Int32) = bI true := congrArg bI (hin)
    rw [e5]
    refine bi_if_ne (tgt := 44) hx hb dX6_scratch_35 (by decide) (fun c6 => ?_) (fun c6 => ?_)
    · refine lv_aload_n hx hb dX6_scratch_44 rfl (lv_at hl 0 rfl) ?_
      refine va_get (D := D) (ci := 6) (C := RX6) (T := TX6) (N := 21) hx hb hts hiX6 hown hKv hP 0 rfl rfl 1 (by decide) lk7 (fun _ h9 => h9) rfl dX6_scratch_45 ?_
      refine lv_iconst (v := nI 4) hx hb dX6_scratch_48 (by decide) ?_
      refine my_iald hx hb hK hP 1 rfl (by omega) (by omega) dX6_scratch_49 ?_
      rw [show sF z r f j nt nl gl gt 4 = nI nt from rfl]
      refine lv_sipush (v := nI 200) hx hb dX6_scratch_50 (by decide) ?_
      refine ni_icmp_ne (tgt := 62) (by omega) (by omega) hx hb dX6_scratch_53 (by decide) (fun c7 => ?_) (fun c7 => ?_)
      · exact absurd hbad (by omega)
      · refine lv_aload_n hx hb dX6_scratch_56 rfl (lv_at hl 0 rfl) ?_
        refine lv_iconst (v := nI 3) hx hb dX6_scratch_57 (by decide) ?_
        have hPc := hP.sub (ws' := [(om, .inr (6, [.int (nI 0), .ref a1, .ref a2, .ref a3, .int sv, .ref a4, .ref a5, .ref a6, .int ln, .ref a7, .int bm, .int br, .int ck, .int sa, .ref a8, .int lm, .int rs, .int at_, .ref a9, .int tm, .long hs]))]) [0] rfl
        have hDc := hD.sub (ws' := [(om, .inr (6, [.int (nI 0), .ref a1, .ref a2, .ref a3, .int sv, .ref a4, .ref a5, .ref a6, .int ln, .ref a7, .int bm, .int br, .int ck, .int sa, .ref a8, .int lm, .int rs, .int at_, .ref a9, .int tm, .long hs]))]) [0] (by decide) rfl
        have hFc := va_free (wc := [(om, .inr (6, [.int (nI 0), .ref a1, .ref a2, .ref a3, .int sv, .ref a4, .ref a5, .ref a6, .int ln, .ref a7, .int bm, .int br, .int ck, .int sa, .ref a8, .int lm, .int rs, .int at_, .ref a9, .int tm, .long hs]))]) hD hS hA [0] rfl
        refine va_calli (va_runV (As := [.int (nI 3)]) (rest := []) ⟨hx, hb, hml, hown, hts⟩ (kX6_fails l D ca H.size om a1 a2 a3 a4 a5 a6 a7 a8 a9 (nI 0) sv ln bm br ck sa lm rs at_ tm hs (nI 3)) (cwV 1 hts gX6_scratch_X6_fails rfl rfl rfl (by decide +kernel) ⟨kk_le rfl, kk_le rfl⟩) (pvM hK hPc (my_D_true hDc) (va_recv hKv hP (ci := 6) (q0 := 0) rfl rfl)) rfl rfl hl.1 rfl (lv_room (kk_le rfl)) dX6_scratch_58 ⟨kk_le rfl, kk_le rfl⟩) hS (fun q _ h => hFc q h) hFc (fun r8 u t H1 locs ht hvm hwv hBv hz1 hk1 hS => ?_)
        obtain ⟨hP1, hD1⟩ := hBv
        rw [ht] at hP1
        have hP1 : va_P D vwCl [(om, .inr (6, [.int (nI 3), .ref a1, .ref a2, .ref a3, .int sv, .ref a4, .ref a5, .ref a6, .int ln, .ref a7, .int bm, .int br, .int ck, .int sa, .ref a8, .int lm, .int rs, .int at_, .ref a9, .int tm, .long hs]))] H1 := hP1
        have hD1 : va_D _ [(om, .inr (6, [.int (nI 3), .ref a1, .ref a2, .ref a3, .int sv, .ref a4, .ref a5, .ref a6, .int ln, .ref a7, .int bm, .int br, .int ck, .int sa, .ref a8, .int lm, .int rs, .int at_, .ref a9, .int tm, .long hs]))] := hD1
        obtain ⟨hr8, hw8⟩ := hwv
        subst hr8
        obtain ⟨hP, hD⟩ := va_join (wr := [(a1, .inl (ca 0, 226, .inl (sF z r f j nt nl gl gt)))]) (w1 := [(om, .inr (6, [.int (nI 3), .ref a1, .ref a2, .ref a3, .int sv, .ref a4, .ref a5, .ref a6, .int ln, .ref a7, .int bm, .int br, .int ck, .int sa, .ref a8, .int lm, .int rs, .int at_, .ref a9, .int tm, .long hs]))]) hP hD [0] [1] rfl rfl (by decide) (by decide) hk1 hFc hP1 hD1
        generalize H1 = H at hP hS ⊢
        have hP := hP.sub (ws' := [(om, .inr (6, [.int (nI 3), .ref a1, .ref a2, .ref a3, .int sv, .ref a4, .ref a5, .ref a6, .int ln, .ref a7, .int bm, .int br, .int ck, .int sa, .ref a8, .int lm, .int rs, .int at_, .ref a9, .int tm, .long hs])), (a1, .inl (ca 0, 226, .inl (sF z r f j nt nl gl gt)))]) [1, 0] rfl
        have hD := hD.sub (ws' := [(om, .inr (6, [.int (nI 3), .ref a1, .ref a2, .ref a3, .int sv, .ref a4, .ref a5, .ref a6, .int ln, .ref a7, .int bm, .int br, .int ck, .int sa, .ref a8, .int lm, .int rs, .int at_, .ref a9, .int tm, .long hs])), (a1, .inl (ca 0, 226, .inl (sF z r f j nt nl gl gt)))]) [1, 0] (by decide) rfl
        exact W.iret (v := nI 0) hx hb hr (fun t ht hW => ⟨⟨_, (), rfl, ⟨by rfl, by trivial⟩, by rw [ht]; exact hP, hD⟩, hS.F ht⟩) hS.2.2 dX6_scratch_61
    · first | exact False.elim c6 | exact absurd c6 (by decide) | (exfalso; omega)
  · first | exact False.elim c3 | exact absurd c3 (by decide) | (exfalso; omega)
abbrev rm_kX6_change_ok : Room := { frames := 2, cells := 0, slots := 0, locals := 43 }
set_option maxHeartbeats 4000000 in
set_option maxRecDepth 100000 in
theorem kX6_change_ok (l : Launch) (D : va_G) (ca : Nat → ClassId) (sz : Nat) (om a1 a2 a3 a4 a5 a6 a7 a8 a9 : Nat) (thr ln bm br ck sa lm rs at_ tm : Int32) (hs : Int64) (sv : Nat) (z : Nat) (r f j : Int32) (nt nl : Nat) (gl gt : Nat → Int32) (fv : Nat → Int32) (q : Nat) (v : Int32) (hnt : nt ≤ 200) (hnl : nl ≤ 20) (hz : z ≤ 30) (hsv : sv ≤ 6) (hq : q < nt) (hin : inF v (nI 1) (nI 999) = true) : Met l yX6_change wsX6_change rm_kX6_change_ok (pcM D ca [.ref om, .int (nI q), .int v] [(om, .inr (6, [.int thr, .ref a1, .ref a2, .ref a3, .int (nI sv), .ref a4, .ref a5, .ref a6, .int ln, .ref a7, .int bm, .int br, .int ck, .int sa, .ref a8, .int lm, .int rs, .int at_, .ref a9, .int tm, .long hs])), (a1, .inl (ca 0, 226, .inl (sF z r f j nt nl gl gt))), (a3, .inl (ca 0, 1356, .inl fv))] sz) (va_Qi (fun (zr : Int32) (u : Unit) => zr = gt q ∧ True) (qB D (va_A [(om, .inr (6, [.int thr, .ref a1, .ref a2, .ref a3, .int (nI sv), .ref a4, .ref a5, .ref a6, .int ln, .ref a7, .int bm, .int br, .int ck, .int sa, .ref a8, .int lm, .int rs, .int at_, .ref a9, .int tm, .long hs])), (a1, .inl (ca 0, 226, .inl (sF z r f j nt nl gl gt))), (a3, .inl (ca 0, 1356, .inl fv))] sz) (fun u : Unit => [(om, .inr (6, [.int (nI 0), .ref a1, .ref a2, .ref a3, .int (nI (svN sv)), .ref a4, .ref a5, .ref a6, .int ln, .ref a7, .int bm, .int br, .int ck, .int sa, .ref a8, .int lm, .int rs, .int at_, .ref a9, .int tm, .long hs])), (a1, .inl (ca 0, 226, .inl (sF z r f j nt nl gl (upd gt q v)))), (a3, .inl (ca 0, 1356, .inl (savF fv sv (sF z r f j nt nl gl gt))))])) (va_A [(om, .inr (6, [.int thr, .ref a1, .ref a2, .ref a3, .int (nI sv), .ref a4, .ref a5, .ref a6, .int ln, .ref a7, .int bm, .int br, .int ck, .int sa, .ref a8, .int lm, .int rs, .int at_, .ref a9, .int tm, .long hs])), (a1, .inl (ca 0, 226, .inl (sF z r f j nt nl gl gt))), (a3, .inl (ca 0, 1356, .inl fv))] sz)) 0 0 (va_A [(om, .inr (6, [.int thr, .ref a1, .ref a2, .ref a3, .int (nI sv), .ref a4, .ref a5, .ref a6, .int ln, .ref a7, .int bm, .int br, .int ck, .int sa, .ref a8, .int lm, .int rs, .int at_, .ref a9, .int tm, .long hs])), (a1, .inl (ca 0, 226, .inl (sF z r f j nt nl gl gt))), (a3, .inl (ca 0, 1356, .inl fv))] sz) := by
  refine Met.ofW (cc := cX6_change) (maxL := 4) (ret := (some .int)) (by decide) rfl ?_
  intro p e s m args below meth c s₁ B hml hv
  obtain ⟨rfl, hsz, hP, hK, hD0⟩ := hv
  have hx := B.exec
  have hb := B.bytes
  have hr := B.returns
  have hts := atoms_spec (ws := wsX6_change) B.pre
  have hown : s.vm.findClass RX6 = some m.cls := findClass_of_methodNamed B.named
  have hlocks := B.notSynchronized
  subst hsz
  have hD := hD0.self (sz := s.heap.size)
  generalize hAe : va_A [(om, .inr (6, [.int thr, .ref a1, .ref a2, .ref a3, .int (nI sv), .ref a4, .ref a5, .ref a6, .int ln, .ref a7, .int bm, .int br, .int ck, .int sa, .ref a8, .int lm, .int rs, .int at_, .ref a9, .int tm, .long hs])), (a1, .inl (ca 0, 226, .inl (sF z r f j nt nl gl gt))), (a3, .inl (ca 0, 1356, .inl fv))] s.heap.size = A at hD ⊢
  have hA : ∀ q : Nat, s.heap.size ≤ q → A q := fun q h => by rw [← hAe]; exact Or.inr h
  have hS : va_S A s.heap s.heap [] := va_S.rf
  have hP : va_P D vwCl [(om, .inr (6, [.int thr, .ref a1, .ref a2, .ref a3, .int (nI sv), .ref a4, .ref a5, .ref a6, .int ln, .ref a7, .int bm, .int br, .int ck, .int sa, .ref a8, .int lm, .int rs, .int at_, .ref a9, .int tm, .long hs])), (a1, .inl (ca 0, 226, .inl (sF z r f j nt nl gl gt))), (a3, .inl (ca 0, 1356, .inl fv))] s.heap := hP
  have hKv := hK.1
  have hl := lv_entry ([.ref om, .int (nI q), .int v]) (n := 4) (kk_le rfl)
  rw [lg_entry_eq]
  generalize (lg_sl ([.ref om, .int (nI q), .int v]) ++ List.replicate (4 - (lg_sl ([.ref om, .int (nI q), .int v])).length) Slot.unset).toArray = ls at hl ⊢
  have hl : lv_has ls 4 [(0, .ref om), (1, .int (nI q)), (2, .int v)] := hl
  have hiX6 : ∀ w ∈ u_ws RX6 TX6 21, w ∈ wsX6_change := fun w h => by first | exact List.mem_cons_of_mem _ (List.mem_append_right _ h) | exact List.mem_cons_of_mem _ (List.mem_append_left _ (List.mem_append_right _ h)) | exact List.mem_cons_of_mem _ (List.mem_append_left _ (List.mem_append_left _ (List.mem_append_right _ h))) | exact List.mem_cons_of_mem _ (List.mem_append_left _ (List.mem_append_left _ (List.mem_append_left _ (List.mem_append_right _ h)))) | (revert w h; decide +kernel)
  have lk38 : (Cond.fieldLink RX6 38 "StripeSwipesModel" "thrown" "I").before _ s = true := hts _ (by decide +kernel)
  have lk7 : (Cond.fieldLink RX6 7 "StripeSwipesModel" "s" "[I").before _ s = true := hts _ (by decide +kernel)
  refine lv_aload_n hx hb dX6_change_0 rfl (lv_at hl 0 rfl) ?_
  refine lv_iconst (v := nI 0) hx hb dX6_change_1 (by decide) ?_
  refine va_put (D := D) (ci := 6) (v := .int (nI 0)) (ty := .int) (C := RX6) (T := TX6) (N := 21) hx hb hts hiX6 tyX6 tyX6_ok nmX6 hown hKv hP hD hS 0 rfl rfl 0 (by decide) lk38 (fun _ h9 => h9) rfl (by decide +kernel) rfl rfl (kk_le rfl) dX6_change_2 (fun H locs hP hD hS => ?_)
  have hP : va_P D vwCl [(om, .inr (6, [.int (nI 0), .ref a1, .ref a2, .ref a3, .int (nI sv), .ref a4, .ref a5, .ref a6, .int ln, .ref a7, .int bm, .int br, .int ck, .int sa, .ref a8, .int lm, .int rs, .int at_, .ref a9, .int tm, .long hs])), (a1, .inl (ca 0, 226, .inl (sF z r f j nt nl gl gt))), (a3, .inl (ca 0, 1356, .inl fv))] H := hP
  have hD : va_D A [(om, .inr (6, [.int (nI 0), .ref a1, .ref a2, .ref a3, .int (nI sv), .ref a4, .ref a5, .ref a6, .int ln, .ref a7, .int bm, .int br, .int ck, .int sa, .ref a8, .int lm, .int rs, .int at_, .ref a9, .int tm, .long hs])), (a1, .inl (ca 0, 226, .inl (sF z r f j nt nl gl gt))), (a3, .inl (ca 0, 1356, .inl fv))] := hD
  refine lv_aload_n hx hb dX6_change_5 rfl (lv_at hl 0 rfl) ?_
  refine lv_iload_n hx hb dX6_change_6 rfl (lv_at hl 1 rfl) ?_
  refine vp_callSi (va_Run.run (va_runV (As := [.int (nI q)]) (rest := []) ⟨hx, hb, hml, hown, hts⟩ (kX6_isPlace l D ca om a1 a2 a3 a4 a5 a6 a7 a8 a9 (nI 0) (nI sv) ln bm br ck sa lm rs at_ tm hs z r f j nt nl gl gt (nI q) (by first | rfl | assumption | omega | trivial | (exfalso; omega)) (by first | rfl | assumption | omega | trivial | (exfalso; omega)) (by first | rfl | assumption | omega | trivial | (exfalso; omega))) (cwV 1 hts gX6_change_X6_isPlace rfl rfl rfl (by decide +kernel) ⟨kk_le rfl, kk_le rfl⟩) (pvR hK (hP.sub (ws' := [(om, .inr (6, [.int (nI 0), .ref a1, .ref a2, .ref a3, .int (nI sv), .ref a4, .ref a5, .ref a6, .int ln, .ref a7, .int bm, .int br, .int ck, .int sa, .ref a8, .int lm, .int rs, .int at_, .ref a9, .int tm, .long hs])), (a1, .inl (ca 0, 226, .inl (sF z r f j nt nl gl gt)))]) [0, 1] rfl) (va_recv hKv hP (ci := 6) (q0 := 0) rfl rfl)) rfl rfl hl.1 rfl (lv_room (kk_le rfl)) dX6_change_7 ⟨kk_le rfl, kk_le rfl⟩)) (fun r1 hr1 => ?_)
  subst hr1
  have e2 : (bI (hasF nt (nI q)) : Int32) = bI true := congrArg bI ((hasF_n (by omega) (by omega)).trans (decide_eq_true (by omega)))
  rw [e2]
  refine bi_if_ne (tgt := 19) hx hb dX6_change_10 (by decide) (fun c3 => ?_) (fun c3 => ?_)
  · refine lv_iload_n hx hb dX6_change_19 rfl (lv_at hl 2 rfl) ?_
    refine lv_iconst (v := nI 1) hx hb dX6_change_20 (by decide) ?_
    refine lv_sipush (v := nI 999) hx hb dX6_change_21 (by decide) ?_
    refine vp_callSi (va_Run.run (va_runS (As := [.int v, .int (nI 1), .int (nI 999)]) (rest := []) ⟨hx, hb, hml, hown, hts⟩ (kX6_in l v (nI 1) (nI 999)) (va_cwS 3 hts gX6_change_X6_in rfl rfl rfl (by decide +kernel) ⟨kk_le rfl, kk_le rfl⟩) psN rfl rfl hl.1 rfl (lv_room (kk_le rfl)) dX6_change_24 ⟨kk_le rfl, kk_le rfl⟩)) (fun r4 hr4 => ?_)
    subst hr4
    have e5 : (bI (inF v (nI 1) (nI 999)) : Int32) = bI true := congrArg bI (hin)
    rw [e5]
    refine bi_if_ne (tgt := 36) hx hb dX6_change_27 (by decide) (fun c6 => ?_) (fun c6 => ?_)
    · refine lv_aload_n hx hb dX6_change_36 rfl (lv_at hl 0 rfl) ?_
      have hPc := hP
      have hDc := hD
      have hFc := va_free (wc := [(om, .inr (6, [.int (nI 0), .ref a1, .ref a2, .ref a3, .int (nI sv), .ref a4, .ref a5, .ref a6, .int ln, .ref a7, .int bm, .int br, .int ck, .int sa, .ref a8, .int lm, .int rs, .int at_, .ref a9, .int tm, .long hs])), (a1, .inl (ca 0, 226, .inl (sF z r f j nt nl gl gt))), (a3, .inl (ca 0, 1356, .inl fv))]) hD hS hA [0, 1, 2] rfl
      refine va_callv (va_runV (As := []) (rest := []) ⟨hx, hb, hml, hown, hts⟩ (kX6_saves l D ca H.size om a1 a2 a3 a4 a5 a6 a7 a8 a9 (nI 0) ln bm br ck sa lm rs at_ tm hs z r f j nt nl gl gt sv fv (by first | rfl | assumption | omega | trivial | (exfalso; omega))) (cwV 0 hts gX6_change_X6_saves rfl rfl rfl (by decide +kernel) ⟨kk_le rfl, kk_le rfl⟩) (pvM hK hPc (my_D_true hDc) (va_recv hKv hP (ci := 6) (q0 := 0) rfl rfl)) rfl rfl hl.1 rfl (lv_room (kk_le rfl)) dX6_change_37 ⟨kk_le rfl, kk_le rfl⟩) hS (fun q _ h => hFc q h) hFc (fun u t H1 locs ht hvm hwv hBv hz1 hk1 hS => ?_)
      obtain ⟨hP1, hD1⟩ := hBv
      rw [ht] at hP1
      have hP1 : va_P D vwCl [(om, .inr (6, [.int (nI 0), .ref a1, .ref a2, .ref a3, .int (nI (svN sv)), .ref a4, .ref a5, .ref a6, .int ln, .ref a7, .int bm, .int br, .int ck, .int sa, .ref a8, .int lm, .int rs, .int at_, .ref a9, .int tm, .long hs])), (a1, .inl (ca 0, 226, .inl (sF z r f j nt nl gl gt))), (a3, .inl (ca 0, 1356, .inl (savF fv sv (sF z r f j nt nl gl gt))))] H1 := hP1
      have hD1 : va_D _ [(om, .inr (6, [.int (nI 0), .ref a1, .ref a2, .ref a3, .int (nI (svN sv)), .ref a4, .ref a5, .ref a6, .int ln, .ref a7, .int bm, .int br, .int ck, .int sa, .ref a8, .int lm, .int rs, .int at_, .ref a9, .int tm, .long hs])), (a1, .inl (ca 0, 226, .inl (sF z r f j nt nl gl gt))), (a3, .inl (ca 0, 1356, .inl (savF fv sv (sF z r f j nt nl gl gt))))] := hD1
      have hw7 := hwv
      have hP := hP1
      have hD := hD1.weaken (fun _ _ _ h => hFc _ h)
      generalize H1 = H at hP hS ⊢
      have hP : va_P D vwCl [(om, .inr (6, [.int (nI 0), .ref a1, .ref a2, .ref a3, .int (nI (svN sv)), .ref a4, .ref a5, .ref a6, .int ln, .ref a7, .int bm, .int br, .int ck, .int sa, .ref a8, .int lm, .int rs, .int at_, .ref a9, .int tm, .long hs])), (a1, .inl (ca 0, 226, .inl (sF z r f j nt nl gl gt))), (a3, .inl (ca 0, 1356, .inl (savF fv sv (sF z r f j nt nl gl gt))))] H := hP
      have hD : va_D A [(om, .inr (6, [.int (nI 0), .ref a1, .ref a2, .ref a3, .int (nI (svN sv)), .ref a4, .ref a5, .ref a6, .int ln, .ref a7, .int bm, .int br, .int ck, .int sa, .ref a8, .int lm, .int rs, .int at_, .ref a9, .int tm, .long hs])), (a1, .inl (ca 0, 226, .inl (sF z r f j nt nl gl gt))), (a3, .inl (ca 0, 1356, .inl (savF fv sv (sF z r f j nt nl gl gt))))] := hD
      refine lv_aload_n hx hb dX6_change_40 rfl (lv_at hl 0 rfl) ?_
      refine va_get (D := D) (ci := 6) (C := RX6) (T := TX6) (N := 21) hx hb hts hiX6 hown hKv hP 0 rfl rfl 1 (by decide) lk7 (fun _ h9 => h9) rfl dX6_change_41 ?_
      refine lv_bipush (v := nI 26) hx hb dX6_change_44 (by decide) ?_
      refine lv_iload_n hx hb dX6_change_46 rfl (lv_at hl 1 rfl) ?_
      refine ni_iadd hx hb dX6_change_47 ?_
      refine my_iald hx hb hK hP 1 rfl (by omega) (by omega) dX6_change_48 ?_
      rw [show sF z r f j nt nl gl gt (26 + q) = gt q from sF_gt _ _ _ _ _ _ _ _ (by omega)]
      refine lv_istore_n (lv' := [(3, .int (gt q)), (0, .ref om), (1, .int (nI q)), (2, .int v)]) hx hb dX6_change_49 rfl hl (by decide) rfl (fun ls hl => ?_)
      refine lv_aload_n hx hb dX6_change_50 rfl (lv_at hl 1 rfl) ?_
      refine va_get (D := D) (ci := 6) (C := RX6) (T := TX6) (N := 21) hx hb hts hiX6 hown hKv hP 0 rfl rfl 1 (by decide) lk7 (fun _ h9 => h9) rfl dX6_change_51 ?_
      refine lv_bipush (v := nI 26) hx hb dX6_change_54 (by decide) ?_
      refine lv_iload_n hx hb dX6_change_56 rfl (lv_at hl 2 rfl) ?_
      refine ni_iadd hx hb dX6_change_57 ?_
      refine lv_iload_n hx hb dX6_change_58 rfl (lv_at hl 3 rfl) ?_
      refine my_iast hx hb hK hP hD hS 1 rfl (by omega) (by omega) dX6_change_59 (fun H locs hP hD hS => ?_)
      have hP : va_P D vwCl [(om, .inr (6, [.int (nI 0), .ref a1, .ref a2, .ref a3, .int (nI (svN sv)), .ref a4, .ref a5, .ref a6, .int ln, .ref a7, .int bm, .int br, .int ck, .int sa, .ref a8, .int lm, .int rs, .int at_, .ref a9, .int tm, .long hs])), (a1, .inl (ca 0, 226, .inl (upd (sF z r f j nt nl gl gt) (26 + q) v))), (a3, .inl (ca 0, 1356, .inl (savF fv sv (sF z r f j nt nl gl gt))))] H := hP
      have hD : va_D A [(om, .inr (6, [.int (nI 0), .ref a1, .ref a2, .ref a3, .int (nI (svN sv)), .ref a4, .ref a5, .ref a6, .int ln, .ref a7, .int bm, .int br, .int ck, .int sa, .ref a8, .int lm, .int rs, .int at_, .ref a9, .int tm, .long hs])), (a1, .inl (ca 0, 226, .inl (upd (sF z r f j nt nl gl gt) (26 + q) v))), (a3, .inl (ca 0, 1356, .inl (savF fv sv (sF z r f j nt nl gl gt))))] := hD
      have e9 : (upd (sF z r f j nt nl gl gt) (26 + q) v : Nat → Int32) = sF z r f j nt nl gl (upd gt q v) := sF_wt _ _ _ _ _ _ _ _ _ (by omega)
      have hP : va_P D vwCl [(om, .inr (6, [.int (nI 0), .ref a1, .ref a2, .ref a3, .int (nI (svN sv)), .ref a4, .ref a5, .ref a6, .int ln, .ref a7, .int bm, .int br, .int ck, .int sa, .ref a8, .int lm, .int rs, .int at_, .ref a9, .int tm, .long hs])), (a1, .inl (ca 0, 226, .inl (sF z r f j nt nl gl (upd gt q v)))), (a3, .inl (ca 0, 1356, .inl (savF fv sv (sF z r f j nt nl gl gt))))] H := Eq.mp (congrArg (fun z9 : Nat → Int32 => va_P D vwCl [(om, .inr (6, [.int (nI 0), .ref a1, .ref a2, .ref a3, .int (nI (svN sv)), .ref a4, .ref a5, .ref a6, .int ln, .ref a7, .int bm, .int br, .int ck, .int sa, .ref a8, .int lm, .int rs, .int at_, .ref a9, .int tm, .long hs])), (a1, .inl (ca 0, 226, .inl z9)), (a3, .inl (ca 0, 1356, .inl (savF fv sv (sF z r f j nt nl gl gt))))] H) e9) hP
      have hD : va_D A [(om, .inr (6, [.int (nI 0), .ref a1, .ref a2, .ref a3, .int (nI (svN sv)), .ref a4, .ref a5, .ref a6, .int ln, .ref a7, .int bm, .int br, .int ck, .int sa, .ref a8, .int lm, .int rs, .int at_, .ref a9, .int tm, .long hs])), (a1, .inl (ca 0, 226, .inl (sF z r f j nt nl gl (upd gt q v)))), (a3, .inl (ca 0, 1356, .inl (savF fv sv (sF z r f j nt nl gl gt))))] := Eq.mp (congrArg (fun z9 : Nat → Int32 => va_D A [(om, .inr (6, [.int (nI 0), .ref a1, .ref a2, .ref a3, .int (nI (svN sv)), .ref a4, .ref a5, .ref a6, .int ln, .ref a7, .int bm, .int br, .int ck, .int sa, .ref a8, .int lm, .int rs, .int at_, .ref a9, .int tm, .long hs])), (a1, .inl (ca 0, 226, .inl z9)), (a3, .inl (ca 0, 1356, .inl (savF fv sv (sF z r f j nt nl gl gt))))]) e9) hD
      refine lv_iload_n hx hb dX6_change_60 rfl (lv_at hl 0 rfl) ?_
      exact W.iret (v := gt q) hx hb hr (fun t ht hW => ⟨⟨_, (), rfl, ⟨by rfl, by trivial⟩, by rw [ht]; exact hP, hD⟩, hS.F ht⟩) hS.2.2 dX6_change_61
    · first | exact False.elim c6 | exact absurd c6 (by decide) | (exfalso; omega)
  · first | exact False.elim c3 | exact absurd c3 (by decide) | (exfalso; omega)
abbrev rm_kX6_change_bad : Room := { frames := 2, cells := 0, slots := 0, locals := 43 }
set_option maxHeartbeats 4000000 in
set_option maxRecDepth 100000 in
theorem kX6_change_bad (l : Launch) (D : va_G) (ca : Nat → ClassId) (sz : Nat) (om a1 a2 a3 a4 a5 a6 a7 a8 a9 : Nat) (thr sv ln bm br ck sa lm rs at_ tm : Int32) (hs : Int64) (z : Nat) (r f j : Int32) (nt nl : Nat) (gl gt : Nat → Int32) (x : Int32) (v : Int32) (hnt : nt ≤ 200) (hnl : nl ≤ 20) (hz : z ≤ 30) (hbad : hasF nt x = false) : Met l yX6_change wsX6_change rm_kX6_change_bad (pcM D ca [.ref om, .int x, .int v] [(om, .inr (6, [.int thr, .ref a1, .ref a2, .ref a3, .int sv, .ref a4, .ref a5, .ref a6, .int ln, .ref a7, .int bm, .int br, .int ck, .int sa, .ref a8, .int lm, .int rs, .int at_, .ref a9, .int tm, .long hs])), (a1, .inl (ca 0, 226, .inl (sF z r f j nt nl gl gt)))] sz) (va_Qi (fun (zr : Int32) (u : Unit) => zr = nI 0 ∧ True) (qB D (va_A [(om, .inr (6, [.int thr, .ref a1, .ref a2, .ref a3, .int sv, .ref a4, .ref a5, .ref a6, .int ln, .ref a7, .int bm, .int br, .int ck, .int sa, .ref a8, .int lm, .int rs, .int at_, .ref a9, .int tm, .long hs])), (a1, .inl (ca 0, 226, .inl (sF z r f j nt nl gl gt)))] sz) (fun u : Unit => [(om, .inr (6, [.int (nI 1), .ref a1, .ref a2, .ref a3, .int sv, .ref a4, .ref a5, .ref a6, .int ln, .ref a7, .int bm, .int br, .int ck, .int sa, .ref a8, .int lm, .int rs, .int at_, .ref a9, .int tm, .long hs])), (a1, .inl (ca 0, 226, .inl (sF z r f j nt nl gl gt)))])) (va_A [(om, .inr (6, [.int thr, .ref a1, .ref a2, .ref a3, .int sv, .ref a4, .ref a5, .ref a6, .int ln, .ref a7, .int bm, .int br, .int ck, .int sa, .ref a8, .int lm, .int rs, .int at_, .ref a9, .int tm, .long hs])), (a1, .inl (ca 0, 226, .inl (sF z r f j nt nl gl gt)))] sz)) 0 0 (va_A [(om, .inr (6, [.int thr, .ref a1, .ref a2, .ref a3, .int sv, .ref a4, .ref a5, .ref a6, .int ln, .ref a7, .int bm, .int br, .int ck, .int sa, .ref a8, .int lm, .int rs, .int at_, .ref a9, .int tm, .long hs])), (a1, .inl (ca 0, 226, .inl (sF z r f j nt nl gl gt)))] sz) := by
  refine Met.ofW (cc := cX6_change) (maxL := 4) (ret := (some .int)) (by decide) rfl ?_
  intro p e s m args below meth c s₁ B hml hv
  obtain ⟨rfl, hsz, hP, hK, hD0⟩ := hv
  have hx := B.exec
  have hb := B.bytes
  have hr := B.returns
  have hts := atoms_spec (ws := wsX6_change) B.pre
  have hown : s.vm.findClass RX6 = some m.cls := findClass_of_methodNamed B.named
  have hlocks := B.notSynchronized
  subst hsz
  have hD := hD0.self (sz := s.heap.size)
  generalize hAe : va_A [(om, .inr (6, [.int thr, .ref a1, .ref a2, .ref a3, .int sv, .ref a4, .ref a5, .ref a6, .int ln, .ref a7, .int bm, .int br, .int ck, .int sa, .ref a8, .int lm, .int rs, .int at_, .ref a9, .int tm, .long hs])), (a1, .inl (ca 0, 226, .inl (sF z r f j nt nl gl gt)))] s.heap.size = A at hD ⊢
  have hA : ∀ q : Nat, s.heap.size ≤ q → A q := fun q h => by rw [← hAe]; exact Or.inr h
  have hS : va_S A s.heap s.heap [] := va_S.rf
  have hP : va_P D vwCl [(om, .inr (6, [.int thr, .ref a1, .ref a2, .ref a3, .int sv, .ref a4, .ref a5, .ref a6, .int ln, .ref a7, .int bm, .int br, .int ck, .int sa, .ref a8, .int lm, .int rs, .int at_, .ref a9, .int tm, .long hs])), (a1, .inl (ca 0, 226, .inl (sF z r f j nt nl gl gt)))] s.heap := hP
  have hKv := hK.1
  have hl := lv_entry ([.ref om, .int x, .int v]) (n := 4) (kk_le rfl)
  rw [lg_entry_eq]
  generalize (lg_sl ([.ref om, .int x, .int v]) ++ List.replicate (4 - (lg_sl ([.ref om, .int x, .int v])).length) Slot.unset).toArray = ls at hl ⊢
  have hl : lv_has ls 4 [(0, .ref om), (1, .int x), (2, .int v)] := hl
  have hiX6 : ∀ w ∈ u_ws RX6 TX6 21, w ∈ wsX6_change := fun w h => by first | exact List.mem_cons_of_mem _ (List.mem_append_right _ h) | exact List.mem_cons_of_mem _ (List.mem_append_left _ (List.mem_append_right _ h)) | exact List.mem_cons_of_mem _ (List.mem_append_left _ (List.mem_append_left _ (List.mem_append_right _ h))) | exact List.mem_cons_of_mem _ (List.mem_append_left _ (List.mem_append_left _ (List.mem_append_left _ (List.mem_append_right _ h)))) | (revert w h; decide +kernel)
  have lk38 : (Cond.fieldLink RX6 38 "StripeSwipesModel" "thrown" "I").before _ s = true := hts _ (by decide +kernel)
  refine lv_aload_n hx hb dX6_change_0 rfl (lv_at hl 0 rfl) ?_
  refine lv_iconst (v := nI 0) hx hb dX6_change_1 (by decide) ?_
  refine va_put (D := D) (ci := 6) (v := .int (nI 0)) (ty := .int) (C := RX6) (T := TX6) (N := 21) hx hb hts hiX6 tyX6 tyX6_ok nmX6 hown hKv hP hD hS 0 rfl rfl 0 (by decide) lk38 (fun _ h9 => h9) rfl (by decide +kernel) rfl rfl (kk_le rfl) dX6_change_2 (fun H locs hP hD hS => ?_)
  have hP : va_P D vwCl [(om, .inr (6, [.int (nI 0), .ref a1, .ref a2, .ref a3, .int sv, .ref a4, .ref a5, .ref a6, .int ln, .ref a7, .int bm, .int br, .int ck, .int sa, .ref a8, .int lm, .int rs, .int at_, .ref a9, .int tm, .long hs])), (a1, .inl (ca 0, 226, .inl (sF z r f j nt nl gl gt)))] H := hP
  have hD : va_D A [(om, .inr (6, [.int (nI 0), .ref a1, .ref a2, .ref a3, .int sv, .ref a4, .ref a5, .ref a6, .int ln, .ref a7, .int bm, .int br, .int ck, .int sa, .ref a8, .int lm, .int rs, .int at_, .ref a9, .int tm, .long hs])), (a1, .inl (ca 0, 226, .inl (sF z r f j nt nl gl gt)))] := hD
  refine lv_aload_n hx hb dX6_change_5 rfl (lv_at hl 0 rfl) ?_
  refine lv_iload_n hx hb dX6_change_6 rfl (lv_at hl 1 rfl) ?_
  refine vp_callSi (va_Run.run (va_runV (As := [.int x]) (rest := []) ⟨hx, hb, hml, hown, hts⟩ (kX6_isPlace l D ca om a1 a2 a3 a4 a5 a6 a7 a8 a9 (nI 0) sv ln bm br ck sa lm rs at_ tm hs z r f j nt nl gl gt x (by first | rfl | assumption | omega | trivial | (exfalso; omega)) (by first | rfl | assumption | omega | trivial | (exfalso; omega)) (by first | rfl | assumption | omega | trivial | (exfalso; omega))) (cwV 1 hts gX6_change_X6_isPlace rfl rfl rfl (by decide +kernel) ⟨kk_le rfl, kk_le rfl⟩) (pvR hK hP (va_recv hKv hP (ci := 6) (q0 := 0) rfl rfl)) rfl rfl hl.1 rfl (lv_room (kk_le rfl)) dX6_change_7 ⟨kk_le rfl, kk_le rfl⟩)) (fun r1 hr1 => ?_)
  subst hr1
  have e2 : (bI (hasF nt x) : Int32) = bI false := congrArg bI (hbad)
  rw [e2]
  refine bi_if_ne (tgt := 19) hx hb dX6_change_10 (by decide) (fun c3 => ?_) (fun c3 => ?_)
  · first | exact False.elim c3 | exact absurd c3 (by decide) | (exfalso; omega)
  · refine lv_aload_n hx hb dX6_change_13 rfl (lv_at hl 0 rfl) ?_
    refine lv_iconst (v := nI 1) hx hb dX6_change_14 (by decide) ?_
    have hPc := hP.sub (ws' := [(om, .inr (6, [.int (nI 0), .ref a1, .ref a2, .ref a3, .int sv, .ref a4, .ref a5, .ref a6, .int ln, .ref a7, .int bm, .int br, .int ck, .int sa, .ref a8, .int lm, .int rs, .int at_, .ref a9, .int tm, .long hs]))]) [0] rfl
    have hDc := hD.sub (ws' := [(om, .inr (6, [.int (nI 0), .ref a1, .ref a2, .ref a3, .int sv, .ref a4, .ref a5, .ref a6, .int ln, .ref a7, .int bm, .int br, .int ck, .int sa, .ref a8, .int lm, .int rs, .int at_, .ref a9, .int tm, .long hs]))]) [0] (by decide) rfl
    have hFc := va_free (wc := [(om, .inr (6, [.int (nI 0), .ref a1, .ref a2, .ref a3, .int sv, .ref a4, .ref a5, .ref a6, .int ln, .ref a7, .int bm, .int br, .int ck, .int sa, .ref a8, .int lm, .int rs, .int at_, .ref a9, .int tm, .long hs]))]) hD hS hA [0] rfl
    refine va_calli (va_runV (As := [.int (nI 1)]) (rest := []) ⟨hx, hb, hml, hown, hts⟩ (kX6_fails l D ca H.size om a1 a2 a3 a4 a5 a6 a7 a8 a9 (nI 0) sv ln bm br ck sa lm rs at_ tm hs (nI 1)) (cwV 1 hts gX6_change_X6_fails rfl rfl rfl (by decide +kernel) ⟨kk_le rfl, kk_le rfl⟩) (pvM hK hPc (my_D_true hDc) (va_recv hKv hP (ci := 6) (q0 := 0) rfl rfl)) rfl rfl hl.1 rfl (lv_room (kk_le rfl)) dX6_change_15 ⟨kk_le rfl, kk_le rfl⟩) hS (fun q _ h => hFc q h) hFc (fun r4 u t H1 locs ht hvm hwv hBv hz1 hk1 hS => ?_)
    obtain ⟨hP1, hD1⟩ := hBv
    rw [ht] at hP1
    have hP1 : va_P D vwCl [(om, .inr (6, [.int (nI 1), .ref a1, .ref a2, .ref a3, .int sv, .ref a4, .ref a5, .ref a6, .int ln, .ref a7, .int bm, .int br, .int ck, .int sa, .ref a8, .int lm, .int rs, .int at_, .ref a9, .int tm, .long hs]))] H1 := hP1
    have hD1 : va_D _ [(om, .inr (6, [.int (nI 1), .ref a1, .ref a2, .ref a3, .int sv, .ref a4, .ref a5, .ref a6, .int ln, .ref a7, .int bm, .int br, .int ck, .int sa, .ref a8, .int lm, .int rs, .int at_, .ref a9, .int tm, .long hs]))] := hD1
    obtain ⟨hr4, hw4⟩ := hwv
    subst hr4
    obtain ⟨hP, hD⟩ := va_join (wr := [(a1, .inl (ca 0, 226, .inl (sF z r f j nt nl gl gt)))]) (w1 := [(om, .inr (6, [.int (nI 1), .ref a1, .ref a2, .ref a3, .int sv, .ref a4, .ref a5, .ref a6, .int ln, .ref a7, .int bm, .int br, .int ck, .int sa, .ref a8, .int lm, .int rs, .int at_, .ref a9, .int tm, .long hs]))]) hP hD [0] [1] rfl rfl (by decide) (by decide) hk1 hFc hP1 hD1
    generalize H1 = H at hP hS ⊢
    have hP := hP.sub (ws' := [(om, .inr (6, [.int (nI 1), .ref a1, .ref a2, .ref a3, .int sv, .ref a4, .ref a5, .ref a6, .int ln, .ref a7, .int bm, .int br, .int ck, .int sa, .ref a8, .int lm, .int rs, .int at_, .ref a9, .int tm, .long hs])), (a1, .inl (ca 0, 226, .inl (sF z r f j nt nl gl gt)))]) [1, 0] rfl
    have hD := hD.sub (ws' := [(om, .inr (6, [.int (nI 1), .ref a1, .ref a2, .ref a3, .int sv, .ref a4, .ref a5, .ref a6, .int ln, .ref a7, .int bm, .int br, .int ck, .int sa, .ref a8, .int lm, .int rs, .int at_, .ref a9, .int tm, .long hs])), (a1, .inl (ca 0, 226, .inl (sF z r f j nt nl gl gt)))]) [1, 0] (by decide) rfl
    exact W.iret (v := nI 0) hx hb hr (fun t ht hW => ⟨⟨_, (), rfl, ⟨by rfl, by trivial⟩, by rw [ht]; exact hP, hD⟩, hS.F ht⟩) hS.2.2 dX6_change_18
abbrev rm_kX6_change_bad2 : Room := { frames := 2, cells := 0, slots := 0, locals := 43 }
set_option maxHeartbeats 4000000 in
set_option maxRecDepth 100000 in
theorem kX6_change_bad2 (l : Launch) (D : va_G) (ca : Nat → ClassId) (sz : Nat) (om a1 a2 a3 a4 a5 a6 a7 a8 a9 : Nat) (thr sv ln bm br ck sa lm rs at_ tm : Int32) (hs : Int64) (z : Nat) (r f j : Int32) (nt nl : Nat) (gl gt : Nat → Int32) (q : Nat) (v : Int32) (hnt : nt ≤ 200) (hnl : nl ≤ 20) (hz : z ≤ 30) (hq : q < nt) (hbad : inF v (nI 1) (nI 999) = false) : Met l yX6_change wsX6_change rm_kX6_change_bad2 (pcM D ca [.ref om, .int (nI q), .int v] [(om, .inr (6, [.int thr, .ref a1, .ref a2, .ref a3, .int sv, .ref a4, .ref a5, .ref a6, .int ln, .ref a7, .int bm, .int br, .int ck, .int sa, .ref a8, .int lm, .int rs, .int at_, .ref a9, .int tm, .long hs])), (a1, .inl (ca 0, 226, .inl (sF z r f j nt nl gl gt)))] sz) (va_Qi (fun (zr : Int32) (u : Unit) => zr = nI 0 ∧ True) (qB D (va_A [(om, .inr (6, [.int thr, .ref a1, .ref a2, .ref a3, .int sv, .ref a4, .ref a5, .ref a6, .int ln, .ref a7, .int bm, .int br, .int ck, .int sa, .ref a8, .int lm, .int rs, .int at_, .ref a9, .int tm, .long hs])), (a1, .inl (ca 0, 226, .inl (sF z r f j nt nl gl gt)))] sz) (fun u : Unit => [(om, .inr (6, [.int (nI 2), .ref a1, .ref a2, .ref a3, .int sv, .ref a4, .ref a5, .ref a6, .int ln, .ref a7, .int bm, .int br, .int ck, .int sa, .ref a8, .int lm, .int rs, .int at_, .ref a9, .int tm, .long hs])), (a1, .inl (ca 0, 226, .inl (sF z r f j nt nl gl gt)))])) (va_A [(om, .inr (6, [.int thr, .ref a1, .ref a2, .ref a3, .int sv, .ref a4, .ref a5, .ref a6, .int ln, .ref a7, .int bm, .int br, .int ck, .int sa, .ref a8, .int lm, .int rs, .int at_, .ref a9, .int tm, .long hs])), (a1, .inl (ca 0, 226, .inl (sF z r f j nt nl gl gt)))] sz)) 0 0 (va_A [(om, .inr (6, [.int thr, .ref a1, .ref a2, .ref a3, .int sv, .ref a4, .ref a5, .ref a6, .int ln, .ref a7, .int bm, .int br, .int ck, .int sa, .ref a8, .int lm, .int rs, .int at_, .ref a9, .int tm, .long hs])), (a1, .inl (ca 0, 226, .inl (sF z r f j nt nl gl gt)))] sz) := by
  refine Met.ofW (cc := cX6_change) (maxL := 4) (ret := (some .int)) (by decide) rfl ?_
  intro p e s m args below meth c s₁ B hml hv
  obtain ⟨rfl, hsz, hP, hK, hD0⟩ := hv
  have hx := B.exec
  have hb := B.bytes
  have hr := B.returns
  have hts := atoms_spec (ws := wsX6_change) B.pre
  have hown : s.vm.findClass RX6 = some m.cls := findClass_of_methodNamed B.named
  have hlocks := B.notSynchronized
  subst hsz
  have hD := hD0.self (sz := s.heap.size)
  generalize hAe : va_A [(om, .inr (6, [.int thr, .ref a1, .ref a2, .ref a3, .int sv, .ref a4, .ref a5, .ref a6, .int ln, .ref a7, .int bm, .int br, .int ck, .int sa, .ref a8, .int lm, .int rs, .int at_, .ref a9, .int tm, .long hs])), (a1, .inl (ca 0, 226, .inl (sF z r f j nt nl gl gt)))] s.heap.size = A at hD ⊢
  have hA : ∀ q : Nat, s.heap.size ≤ q → A q := fun q h => by rw [← hAe]; exact Or.inr h
  have hS : va_S A s.heap s.heap [] := va_S.rf
  have hP : va_P D vwCl [(om, .inr (6, [.int thr, .ref a1, .ref a2, .ref a3, .int sv, .ref a4, .ref a5, .ref a6, .int ln, .ref a7, .int bm, .int br, .int ck, .int sa, .ref a8, .int lm, .int rs, .int at_, .ref a9, .int tm, .long hs])), (a1, .inl (ca 0, 226, .inl (sF z r f j nt nl gl gt)))] s.heap := hP
  have hKv := hK.1
  have hl := lv_entry ([.ref om, .int (nI q), .int v]) (n := 4) (kk_le rfl)
  rw [lg_entry_eq]
  generalize (lg_sl ([.ref om, .int (nI q), .int v]) ++ List.replicate (4 - (lg_sl ([.ref om, .int (nI q), .int v])).length) Slot.unset).toArray = ls at hl ⊢
  have hl : lv_has ls 4 [(0, .ref om), (1, .int (nI q)), (2, .int v)] := hl
  have hiX6 : ∀ w ∈ u_ws RX6 TX6 21, w ∈ wsX6_change := fun w h => by first | exact List.mem_cons_of_mem _ (List.mem_append_right _ h) | exact List.mem_cons_of_mem _ (List.mem_append_left _ (List.mem_append_right _ h)) | exact List.mem_cons_of_mem _ (List.mem_append_left _ (List.mem_append_left _ (List.mem_append_right _ h))) | exact List.mem_cons_of_mem _ (List.mem_append_left _ (List.mem_append_left _ (List.mem_append_left _ (List.mem_append_right _ h)))) | (revert w h; decide +kernel)
  have lk38 : (Cond.fieldLink RX6 38 "StripeSwipesModel" "thrown" "I").before _ s = true := hts _ (by decide +kernel)
  refine lv_aload_n hx hb dX6_change_0 rfl (lv_at hl 0 rfl) ?_
  refine lv_iconst (v := nI 0) hx hb dX6_change_1 (by decide) ?_
  refine va_put (D := D) (ci := 6) (v := .int (nI 0)) (ty := .int) (C := RX6) (T := TX6) (N := 21) hx hb hts hiX6 tyX6 tyX6_ok nmX6 hown hKv hP hD hS 0 rfl rfl 0 (by decide) lk38 (fun _ h9 => h9) rfl (by decide +kernel) rfl rfl (kk_le rfl) dX6_change_2 (fun H locs hP hD hS => ?_)
  have hP : va_P D vwCl [(om, .inr (6, [.int (nI 0), .ref a1, .ref a2, .ref a3, .int sv, .ref a4, .ref a5, .ref a6, .int ln, .ref a7, .int bm, .int br, .int ck, .int sa, .ref a8, .int lm, .int rs, .int at_, .ref a9, .int tm, .long hs])), (a1, .inl (ca 0, 226, .inl (sF z r f j nt nl gl gt)))] H := hP
  have hD : va_D A [(om, .inr (6, [.int (nI 0), .ref a1, .ref a2, .ref a3, .int sv, .ref a4, .ref a5, .ref a6, .int ln, .ref a7, .int bm, .int br, .int ck, .int sa, .ref a8, .int lm, .int rs, .int at_, .ref a9, .int tm, .long hs])), (a1, .inl (ca 0, 226, .inl (sF z r f j nt nl gl gt)))] := hD
  refine lv_aload_n hx hb dX6_change_5 rfl (lv_at hl 0 rfl) ?_
  refine lv_iload_n hx hb dX6_change_6 rfl (lv_at hl 1 rfl) ?_
  refine vp_callSi (va_Run.run (va_runV (As := [.int (nI q)]) (rest := []) ⟨hx, hb, hml, hown, hts⟩ (kX6_isPlace l D ca om a1 a2 a3 a4 a5 a6 a7 a8 a9 (nI 0) sv ln bm br ck sa lm rs at_ tm hs z r f j nt nl gl gt (nI q) (by first | rfl | assumption | omega | trivial | (exfalso; omega)) (by first | rfl | assumption | omega | trivial | (exfalso; omega)) (by first | rfl | assumption | omega | trivial | (exfalso; omega))) (cwV 1 hts gX6_change_X6_isPlace rfl rfl rfl (by decide +kernel) ⟨kk_le rfl, kk_le rfl⟩) (pvR hK hP (va_recv hKv hP (ci := 6) (q0 := 0) rfl rfl)) rfl rfl hl.1 rfl (lv_room (kk_le rfl)) dX6_change_7 ⟨kk_le rfl, kk_le rfl⟩)) (fun r1 hr1 => ?_)
  subst hr1
  have e2 : (bI (hasF nt (nI q)) : Int32) = bI true := congrArg bI ((hasF_n (by omega) (by omega)).trans (decide_eq_true (by omega)))
  rw [e2]
  refine bi_if_ne (tgt := 19) hx hb dX6_change_10 (by decide) (fun c3 => ?_) (fun c3 => ?_)
  · refine lv_iload_n hx hb dX6_change_19 rfl (lv_at hl 2 rfl) ?_
    refine lv_iconst (v := nI 1) hx hb dX6_change_20 (by decide) ?_
    refine lv_sipush (v := nI 999) hx hb dX6_change_21 (by decide) ?_
    refine vp_callSi (va_Run.run (va_runS (As := [.int v, .int (nI 1), .int (nI 999)]) (rest := []) ⟨hx, hb, hml, hown, hts⟩ (kX6_in l v (nI 1) (nI 999)) (va_cwS 3 hts gX6_change_X6_in rfl rfl rfl (by decide +kernel) ⟨kk_le rfl, kk_le rfl⟩) psN rfl rfl hl.1 rfl (lv_room (kk_le rfl)) dX6_change_24 ⟨kk_le rfl, kk_le rfl⟩)) (fun r4 hr4 => ?_)
    subst hr4
    have e5 : (bI (inF v (nI 1) (nI 999)) : Int32) = bI false := congrArg bI (hbad)
    rw [e5]
    refine bi_if_ne (tgt := 36) hx hb dX6_change_27 (by decide) (fun c6 => ?_) (fun c6 => ?_)
    · first | exact False.elim c6 | exact absurd c6 (by decide) | (exfalso; omega)
    · refine lv_aload_n hx hb dX6_change_30 rfl (lv_at hl 0 rfl) ?_
      refine lv_iconst (v := nI 2) hx hb dX6_change_31 (by decide) ?_
      have hPc := hP.sub (ws' := [(om, .inr (6, [.int (nI 0), .ref a1, .ref a2, .ref a3, .int sv, .ref a4, .ref a5, .ref a6, .int ln, .ref a7, .int bm, .int br, .int ck, .int sa, .ref a8, .int lm, .int rs, .int at_, .ref a9, .int tm, .long hs]))]) [0] rfl
      have hDc := hD.sub (ws' := [(om, .inr (6, [.int (nI 0), .ref a1, .ref a2, .ref a3, .int sv, .ref a4, .ref a5, .ref a6, .int ln, .ref a7, .int bm, .int br, .int ck, .int sa, .ref a8, .int lm, .int rs, .int at_, .ref a9, .int tm, .long hs]))]) [0] (by decide) rfl
      have hFc := va_free (wc := [(om, .inr (6, [.int (nI 0), .ref a1, .ref a2, .ref a3, .int sv, .ref a4, .ref a5, .ref a6, .int ln, .ref a7, .int bm, .int br, .int ck, .int sa, .ref a8, .int lm, .int rs, .int at_, .ref a9, .int tm, .long hs]))]) hD hS hA [0] rfl
      refine va_calli (va_runV (As := [.int (nI 2)]) (rest := []) ⟨hx, hb, hml, hown, hts⟩ (kX6_fails l D ca H.size om a1 a2 a3 a4 a5 a6 a7 a8 a9 (nI 0) sv ln bm br ck sa lm rs at_ tm hs (nI 2)) (cwV 1 hts gX6_change_X6_fails rfl rfl rfl (by decide +kernel) ⟨kk_le rfl, kk_le rfl⟩) (pvM hK hPc (my_D_true hDc) (va_recv hKv hP (ci := 6) (q0 := 0) rfl rfl)) rfl rfl hl.1 rfl (lv_room (kk_le rfl)) dX6_change_32 ⟨kk_le rfl, kk_le rfl⟩) hS (fun q _ h => hFc q h) hFc (fun r7 u t H1 locs ht hvm hwv hBv hz1 hk1 hS => ?_)
      obtain ⟨hP1, hD1⟩ := hBv
      rw [ht] at hP1
      have hP1 : va_P D vwCl [(om, .inr (6, [.int (nI 2), .ref a1, .ref a2, .ref a3, .int sv, .ref a4, .ref a5, .ref a6, .int ln, .ref a7, .int bm, .int br, .int ck, .int sa, .ref a8, .int lm, .int rs, .int at_, .ref a9, .int tm, .long hs]))] H1 := hP1
      have hD1 : va_D _ [(om, .inr (6, [.int (nI 2), .ref a1, .ref a2, .ref a3, .int sv, .ref a4, .ref a5, .ref a6, .int ln, .ref a7, .int bm, .int br, .int ck, .int sa, .ref a8, .int lm, .int rs, .int at_, .ref a9, .int tm, .long hs]))] := hD1
      obtain ⟨hr7, hw7⟩ := hwv
      subst hr7
      obtain ⟨hP, hD⟩ := va_join (wr := [(a1, .inl (ca 0, 226, .inl (sF z r f j nt nl gl gt)))]) (w1 := [(om, .inr (6, [.int (nI 2), .ref a1, .ref a2, .ref a3, .int sv, .ref a4, .ref a5, .ref a6, .int ln, .ref a7, .int bm, .int br, .int ck, .int sa, .ref a8, .int lm, .int rs, .int at_, .ref a9, .int tm, .long hs]))]) hP hD [0] [1] rfl rfl (by decide) (by decide) hk1 hFc hP1 hD1
      generalize H1 = H at hP hS ⊢
      have hP := hP.sub (ws' := [(om, .inr (6, [.int (nI 2), .ref a1, .ref a2, .ref a3, .int sv, .ref a4, .ref a5, .ref a6, .int ln, .ref a7, .int bm, .int br, .int ck, .int sa, .ref a8, .int lm, .int rs, .int at_, .ref a9, .int tm, .long hs])), (a1, .inl (ca 0, 226, .inl (sF z r f j nt nl gl gt)))]) [1, 0] rfl
      have hD := hD.sub (ws' := [(om, .inr (6, [.int (nI 2), .ref a1, .ref a2, .ref a3, .int sv, .ref a4, .ref a5, .ref a6, .int ln, .ref a7, .int bm, .int br, .int ck, .int sa, .ref a8, .int lm, .int rs, .int at_, .ref a9, .int tm, .long hs])), (a1, .inl (ca 0, 226, .inl (sF z r f j nt nl gl gt)))]) [1, 0] (by decide) rfl
      exact W.iret (v := nI 0) hx hb hr (fun t ht hW => ⟨⟨_, (), rfl, ⟨by rfl, by trivial⟩, by rw [ht]; exact hP, hD⟩, hS.F ht⟩) hS.2.2 dX6_change_35
  · first | exact False.elim c3 | exact absurd c3 (by decide) | (exfalso; omega)
abbrev rm_kX6_isSetting : Room := { frames := 1, cells := 0, slots := 0, locals := 22 }
set_option maxHeartbeats 4000000 in
set_option maxRecDepth 100000 in
theorem kX6_isSetting (l : Launch) (w : Nat) (v : Int32) (hw : w < 1000) : Met l yX6_isSetting wsX6_isSetting rm_kX6_isSetting (pcN [.int (nI w), .int v]) (vp_Si (fun zr : Int32 => zr = bI (okSet w v))) 0 0 (fun _ => False) := by
  refine Met.ofW (cc := cX6_isSetting) (maxL := 2) (ret := (some .boolean)) (by decide) rfl ?_
  intro p e s m args below meth c s₁ B hml hv
  obtain ⟨rfl, -⟩ := hv
  have hx := B.exec
  have hb := B.bytes
  have hr := B.returns
  have hts := atoms_spec (ws := wsX6_isSetting) B.pre
  have hown : s.vm.findClass RX6 = some m.cls := findClass_of_methodNamed B.named
  have hlocks := B.notSynchronized
  have hl := lv_entry ([.int (nI w), .int v]) (n := 2) (kk_le rfl)
  rw [lg_entry_eq]
  generalize (lg_sl ([.int (nI w), .int v]) ++ List.replicate (2 - (lg_sl ([.int (nI w), .int v])).length) Slot.unset).toArray = ls at hl ⊢
  have hl : lv_has ls 2 [(0, .int (nI w)), (1, .int v)] := hl
  refine lv_iload_n hx hb dX6_isSetting_0 rfl (lv_at hl 0 rfl) ?_
  rcases (show w = 0 ∨ w = 1 ∨ w = 2 ∨ 2 < w from by omega) with rfl | rfl | rfl | c1
  · refine lv_tableIn (tgt := 28) (off := 27) hx hb dX6_isSetting_1 (by decide) (by decide) (by decide) (by decide) ?_
    refine lv_iload_n hx hb dX6_isSetting_28 rfl (lv_at hl 1 rfl) ?_
    refine lv_iconst (v := nI 5) hx hb dX6_isSetting_29 (by decide) ?_
    refine lv_bipush (v := nI 30) hx hb dX6_isSetting_30 (by decide) ?_
    refine vp_callSi (va_Run.run (va_runS (As := [.int v, .int (nI 5), .int (nI 30)]) (rest := []) ⟨hx, hb, hml, hown, hts⟩ (kX6_in l v (nI 5) (nI 30)) (va_cwS 3 hts gX6_isSetting_X6_in rfl rfl rfl (by decide +kernel) ⟨kk_le rfl, kk_le rfl⟩) psN rfl rfl hl.1 rfl (lv_room (kk_le rfl)) dX6_isSetting_32 ⟨kk_le rfl, kk_le rfl⟩)) (fun r2 hr2 => ?_)
    subst hr2
    exact W.zret (v := bI (inF v (nI 5) (nI 30))) hx hb hr (by first | rfl | exact bI_nar _ | exact bI_fit _ | (first | exact Or.inl rfl | exact Or.inr rfl)) (fun t ht _ => ⟨_, rfl, by (first | rfl | exact congrArg bI (okSet_hi (by omega)).symm), ht⟩) (fun _ h => nomatch h) dX6_isSetting_35
  · refine lv_tableIn (tgt := 36) (off := 35) hx hb dX6_isSetting_1 (by decide) (by decide) (by decide) (by decide) ?_
    refine lv_iload_n hx hb dX6_isSetting_36 rfl (lv_at hl 1 rfl) ?_
    refine lv_bipush (v := nI 50) hx hb dX6_isSetting_37 (by decide) ?_
    refine lv_bipush (v := nI 95) hx hb dX6_isSetting_39 (by decide) ?_
    refine vp_callSi (va_Run.run (va_runS (As := [.int v, .int (nI 50), .int (nI 95)]) (rest := []) ⟨hx, hb, hml, hown, hts⟩ (kX6_in l v (nI 50) (nI 95)) (va_cwS 3 hts gX6_isSetting_X6_in rfl rfl rfl (by decide +kernel) ⟨kk_le rfl, kk_le rfl⟩) psN rfl rfl hl.1 rfl (lv_room (kk_le rfl)) dX6_isSetting_41 ⟨kk_le rfl, kk_le rfl⟩)) (fun r3 hr3 => ?_)
    subst hr3
    exact W.zret (v := bI (inF v (nI 50) (nI 95))) hx hb hr (by first | rfl | exact bI_nar _ | exact bI_fit _ | (first | exact Or.inl rfl | exact Or.inr rfl)) (fun t ht _ => ⟨_, rfl, by (first | rfl | exact congrArg bI (okSet_hi (by omega)).symm), ht⟩) (fun _ h => nomatch h) dX6_isSetting_44
  · refine lv_tableIn (tgt := 45) (off := 44) hx hb dX6_isSetting_1 (by decide) (by decide) (by decide) (by decide) ?_
    refine lv_iload_n hx hb dX6_isSetting_45 rfl (lv_at hl 1 rfl) ?_
    refine lv_iconst (v := nI 0) hx hb dX6_isSetting_46 (by decide) ?_
    refine lv_bipush (v := nI 100) hx hb dX6_isSetting_47 (by decide) ?_
    refine vp_callSi (va_Run.run (va_runS (As := [.int v, .int (nI 0), .int (nI 100)]) (rest := []) ⟨hx, hb, hml, hown, hts⟩ (kX6_in l v (nI 0) (nI 100)) (va_cwS 3 hts gX6_isSetting_X6_in rfl rfl rfl (by decide +kernel) ⟨kk_le rfl, kk_le rfl⟩) psN rfl rfl hl.1 rfl (lv_room (kk_le rfl)) dX6_isSetting_49 ⟨kk_le rfl, kk_le rfl⟩)) (fun r4 hr4 => ?_)
    subst hr4
    exact W.zret (v := bI (inF v (nI 0) (nI 100))) hx hb hr (by first | rfl | exact bI_nar _ | exact bI_fit _ | (first | exact Or.inl rfl | exact Or.inr rfl)) (fun t ht _ => ⟨_, rfl, by (first | rfl | exact congrArg bI (okSet_hi (by omega)).symm), ht⟩) (fun _ h => nomatch h) dX6_isSetting_52
  · refine lv_tableOut (tgt := 53) hx hb dX6_isSetting_1 (Or.inr (by rw [nI_toInt (by omega)]; omega)) (by decide) ?_
    refine lv_iload_n hx hb dX6_isSetting_53 rfl (lv_at hl 1 rfl) ?_
    refine lv_iconst (v := nI 0) hx hb dX6_isSetting_54 (by decide) ?_
    refine lv_bipush (v := nI 40) hx hb dX6_isSetting_55 (by decide) ?_
    refine vp_callSi (va_Run.run (va_runS (As := [.int v, .int (nI 0), .int (nI 40)]) (rest := []) ⟨hx, hb, hml, hown, hts⟩ (kX6_in l v (nI 0) (nI 40)) (va_cwS 3 hts gX6_isSetting_X6_in rfl rfl rfl (by decide +kernel) ⟨kk_le rfl, kk_le rfl⟩) psN rfl rfl hl.1 rfl (lv_room (kk_le rfl)) dX6_isSetting_57 ⟨kk_le rfl, kk_le rfl⟩)) (fun r5 hr5 => ?_)
    subst hr5
    exact W.zret (v := bI (inF v (nI 0) (nI 40))) hx hb hr (by first | rfl | exact bI_nar _ | exact bI_fit _ | (first | exact Or.inl rfl | exact Or.inr rfl)) (fun t ht _ => ⟨_, rfl, by (first | rfl | exact congrArg bI (okSet_hi (by omega)).symm), ht⟩) (fun _ h => nomatch h) dX6_isSetting_60
abbrev rm_kX6_set_0 : Room := { frames := 2, cells := 0, slots := 0, locals := 43 }
set_option maxHeartbeats 4000000 in
set_option maxRecDepth 100000 in
theorem kX6_set_0 (l : Launch) (D : va_G) (ca : Nat → ClassId) (sz : Nat) (om a1 a2 a3 a4 a5 a6 a7 a8 a9 : Nat) (thr ln bm br ck sa lm rs at_ tm : Int32) (hs : Int64) (sv : Nat) (z : Nat) (r f j : Int32) (nt nl : Nat) (gl gt : Nat → Int32) (fv : Nat → Int32) (v : Nat) (hnt : nt ≤ 200) (hnl : nl ≤ 20) (hz : z ≤ 30) (hsv : sv ≤ 6) (hv9 : v < 2147483648) (hin : okSet 0 (nI v) = true) : Met l yX6_set wsX6_set rm_kX6_set_0 (pcM D ca [.ref om, .int (nI 0), .int (nI v)] [(om, .inr (6, [.int thr, .ref a1, .ref a2, .ref a3, .int (nI sv), .ref a4, .ref a5, .ref a6, .int ln, .ref a7, .int bm, .int br, .int ck, .int sa, .ref a8, .int lm, .int rs, .int at_, .ref a9, .int tm, .long hs])), (a1, .inl (ca 0, 226, .inl (sF z r f j nt nl gl gt))), (a3, .inl (ca 0, 1356, .inl fv))] sz) (va_Qi (fun (zr : Int32) (u : Unit) => zr = nI z ∧ True) (qB D (va_A [(om, .inr (6, [.int thr, .ref a1, .ref a2, .ref a3, .int (nI sv), .ref a4, .ref a5, .ref a6, .int ln, .ref a7, .int bm, .int br, .int ck, .int sa, .ref a8, .int lm, .int rs, .int at_, .ref a9, .int tm, .long hs])), (a1, .inl (ca 0, 226, .inl (sF z r f j nt nl gl gt))), (a3, .inl (ca 0, 1356, .inl fv))] sz) (fun u : Unit => [(om, .inr (6, [.int (nI 0), .ref a1, .ref a2, .ref a3, .int (nI (svN sv)), .ref a4, .ref a5, .ref a6, .int ln, .ref a7, .int bm, .int br, .int ck, .int sa, .ref a8, .int lm, .int rs, .int at_, .ref a9, .int tm, .long hs])), (a1, .inl (ca 0, 226, .inl (sF v r f j nt nl gl gt))), (a3, .inl (ca 0, 1356, .inl (savF fv sv (sF z r f j nt nl gl gt))))])) (va_A [(om, .inr (6, [.int thr, .ref a1, .ref a2, .ref a3, .int (nI sv), .ref a4, .ref a5, .ref a6, .int ln, .ref a7, .int bm, .int br, .int ck, .int sa, .ref a8, .int lm, .int rs, .int at_, .ref a9, .int tm, .long hs])), (a1, .inl (ca 0, 226, .inl (sF z r f j nt nl gl gt))), (a3, .inl (ca 0, 1356, .inl fv))] sz)) 0 0 (va_A [(om, .inr (6, [.int thr, .ref a1, .ref a2, .ref a3, .int (nI sv), .ref a4, .ref a5, .ref a6, .int ln, .ref a7, .int bm, .int br, .int ck, .int sa, .ref a8, .int lm, .int rs, .int at_, .ref a9, .int tm, .long hs])), (a1, .inl (ca 0, 226, .inl (sF z r f j nt nl gl gt))), (a3, .inl (ca 0, 1356, .inl fv))] sz) := by
  refine Met.ofW (cc := cX6_set) (maxL := 4) (ret := (some .int)) (by decide) rfl ?_
  intro p e s m args below meth c s₁ B hml hv
  obtain ⟨rfl, hsz, hP, hK, hD0⟩ := hv
  have hx := B.exec
  have hb := B.bytes
  have hr := B.returns
  have hts := atoms_spec (ws := wsX6_set) B.pre
  have hown : s.vm.findClass RX6 = some m.cls := findClass_of_methodNamed B.named
  have hlocks := B.notSynchronized
  subst hsz
  have hD := hD0.self (sz := s.heap.size)
  generalize hAe : va_A [(om, .inr (6, [.int thr, .ref a1, .ref a2, .ref a3, .int (nI sv), .ref a4, .ref a5, .ref a6, .int ln, .ref a7, .int bm, .int br, .int ck, .int sa, .ref a8, .int lm, .int rs, .int at_, .ref a9, .int tm, .long hs])), (a1, .inl (ca 0, 226, .inl (sF z r f j nt nl gl gt))), (a3, .inl (ca 0, 1356, .inl fv))] s.heap.size = A at hD ⊢
  have hA : ∀ q : Nat, s.heap.size ≤ q → A q := fun q h => by rw [← hAe]; exact Or.inr h
  have hS : va_S A s.heap s.heap [] := va_S.rf
  have hP : va_P D vwCl [(om, .inr (6, [.int thr, .ref a1, .ref a2, .ref a3, .int (nI sv), .ref a4, .ref a5, .ref a6, .int ln, .ref a7, .int bm, .int br, .int ck, .int sa, .ref a8, .int lm, .int rs, .int at_, .ref a9, .int tm, .long hs])), (a1, .inl (ca 0, 226, .inl (sF z r f j nt nl gl gt))), (a3, .inl (ca 0, 1356, .inl fv))] s.heap := hP
  have hKv := hK.1
  have hl := lv_entry ([.ref om, .int (nI 0), .int (nI v)]) (n := 4) (kk_le rfl)
  rw [lg_entry_eq]
  generalize (lg_sl ([.ref om, .int (nI 0), .int (nI v)]) ++ List.replicate (4 - (lg_sl ([.ref om, .int (nI 0), .int (nI v)])).length) Slot.unset).toArray = ls at hl ⊢
  have hl : lv_has ls 4 [(0, .ref om), (1, .int (nI 0)), (2, .int (nI v))] := hl
  have hiX6 : ∀ w ∈ u_ws RX6 TX6 21, w ∈ wsX6_set := fun w h => by first | exact List.mem_cons_of_mem _ (List.mem_append_right _ h) | exact List.mem_cons_of_mem _ (List.mem_append_left _ (List.mem_append_right _ h)) | exact List.mem_cons_of_mem _ (List.mem_append_left _ (List.mem_append_left _ (List.mem_append_right _ h))) | exact List.mem_cons_of_mem _ (List.mem_append_left _ (List.mem_append_left _ (List.mem_append_left _ (List.mem_append_right _ h)))) | (revert w h; decide +kernel)
  have lk38 : (Cond.fieldLink RX6 38 "StripeSwipesModel" "thrown" "I").before _ s = true := hts _ (by decide +kernel)
  have lk7 : (Cond.fieldLink RX6 7 "StripeSwipesModel" "s" "[I").before _ s = true := hts _ (by decide +kernel)
  refine lv_aload_n hx hb dX6_set_0 rfl (lv_at hl 0 rfl) ?_
  refine lv_iconst (v := nI 0) hx hb dX6_set_1 (by decide) ?_
  refine va_put (D := D) (ci := 6) (v := .int (nI 0)) (ty := .int) (C := RX6) (T := TX6) (N := 21) hx hb hts hiX6 tyX6 tyX6_ok nmX6 hown hKv hP hD hS 0 rfl rfl 0 (by decide) lk38 (fun _ h9 => h9) rfl (by decide +kernel) rfl rfl (kk_le rfl) dX6_set_2 (fun H locs hP hD hS => ?_)
  have hP : va_P D vwCl [(om, .inr (6, [.int (nI 0), .ref a1, .ref a2, .ref a3, .int (nI sv), .ref a4, .ref a5, .ref a6, .int ln, .ref a7, .int bm, .int br, .int ck, .int sa, .ref a8, .int lm, .int rs, .int at_, .ref a9, .int tm, .long hs])), (a1, .inl (ca 0, 226, .inl (sF z r f j nt nl gl gt))), (a3, .inl (ca 0, 1356, .inl fv))] H := hP
  have hD : va_D A [(om, .inr (6, [.int (nI 0), .ref a1, .ref a2, .ref a3, .int (nI sv), .ref a4, .ref a5, .ref a6, .int ln, .ref a7, .int bm, .int br, .int ck, .int sa, .ref a8, .int lm, .int rs, .int at_, .ref a9, .int tm, .long hs])), (a1, .inl (ca 0, 226, .inl (sF z r f j nt nl gl gt))), (a3, .inl (ca 0, 1356, .inl fv))] := hD
  refine lv_iload_n hx hb dX6_set_5 rfl (lv_at hl 1 rfl) ?_
  refine lv_iconst (v := nI 0) hx hb dX6_set_6 (by decide) ?_
  refine lv_iconst (v := nI 3) hx hb dX6_set_7 (by decide) ?_
  refine vp_callSi (va_Run.run (va_runS (As := [.int (nI 0), .int (nI 0), .int (nI 3)]) (rest := []) ⟨hx, hb, hml, hown, hts⟩ (kX6_in l (nI 0) (nI 0) (nI 3)) (va_cwS 3 hts gX6_set_X6_in rfl rfl rfl (by decide +kernel) ⟨kk_le rfl, kk_le rfl⟩) psN rfl rfl hl.1 rfl (lv_room (kk_le rfl)) dX6_set_8 ⟨kk_le rfl, kk_le rfl⟩)) (fun r1 hr1 => ?_)
  subst hr1
  have e2 : (bI (inF (nI 0) (nI 0) (nI 3)) : Int32) = bI true := congrArg bI (by decide)
  rw [e2]
  refine bi_if_ne (tgt := 20) hx hb dX6_set_11 (by decide) (fun c3 => ?_) (fun c3 => ?_)
  · refine lv_iload_n hx hb dX6_set_20 rfl (lv_at hl 1 rfl) ?_
    refine lv_iload_n hx hb dX6_set_21 rfl (lv_at hl 2 rfl) ?_
    refine vp_callSi (va_Run.run (va_runS (As := [.int (nI 0), .int (nI v)]) (rest := []) ⟨hx, hb, hml, hown, hts⟩ (kX6_isSetting l 0 (nI v) (by first | rfl | assumption | omega | trivial | (exfalso; omega))) (va_cwS 2 hts gX6_set_X6_isSetting rfl rfl rfl (by decide +kernel) ⟨kk_le rfl, kk_le rfl⟩) psN rfl rfl hl.1 rfl (lv_room (kk_le rfl)) dX6_set_22 ⟨kk_le rfl, kk_le rfl⟩)) (fun r4 hr4 => ?_)
    subst hr4
    have e5 : (bI (okSet 0 (nI v)) : Int32) = bI true := congrArg bI (hin)
    rw [e5]
    refine bi_if_ne (tgt := 34) hx hb dX6_set_25 (by decide) (fun c6 => ?_) (fun c6 => ?_)
    · refine lv_aload_n hx hb dX6_set_34 rfl (lv_at hl 0 rfl) ?_
      have hPc := hP
      have hDc := hD
      have hFc := va_free (wc := [(om, .inr (6, [.int (nI 0), .ref a1, .ref a2, .ref a3, .int (nI sv), .ref a4, .ref a5, .ref a6, .int ln, .ref a7, .int bm, .int br, .int ck, .int sa, .ref a8, .int lm, .int rs, .int at_, .ref a9, .int tm, .long hs])), (a1, .inl (ca 0, 226, .inl (sF z r f j nt nl gl gt))), (a3, .inl (ca 0, 1356, .inl fv))]) hD hS hA [0, 1, 2] rfl
      refine va_callv (va_runV (As := []) (rest := []) ⟨hx, hb, hml, hown, hts⟩ (kX6_saves l D ca H.size om a1 a2 a3 a4 a5 a6 a7 a8 a9 (nI 0) ln bm br ck sa lm rs at_ tm hs z r f j nt nl gl gt sv fv (by first | rfl | assumption | omega | trivial | (exfalso; omega))) (cwV 0 hts gX6_set_X6_saves rfl rfl rfl (by decide +kernel) ⟨kk_le rfl, kk_le rfl⟩) (pvM hK hPc (my_D_true hDc) (va_recv hKv hP (ci := 6) (q0 := 0) rfl rfl)) rfl rfl hl.1 rfl (lv_room (kk_le rfl)) dX6_set_35 ⟨kk_le rfl, kk_le rfl⟩) hS (fun q _ h => hFc q h) hFc (fun u t H1 locs ht hvm hwv hBv hz1 hk1 hS => ?_)
      obtain ⟨hP1, hD1⟩ := hBv
      rw [ht] at hP1
      have hP1 : va_P D vwCl [(om, .inr (6, [.int (nI 0), .ref a1, .ref a2, .ref a3, .int (nI (svN sv)), .ref a4, .ref a5, .ref a6, .int ln, .ref a7, .int bm, .int br, .int ck, .int sa, .ref a8, .int lm, .int rs, .int at_, .ref a9, .int tm, .long hs])), (a1, .inl (ca 0, 226, .inl (sF z r f j nt nl gl gt))), (a3, .inl (ca 0, 1356, .inl (savF fv sv (sF z r f j nt nl gl gt))))] H1 := hP1
      have hD1 : va_D _ [(om, .inr (6, [.int (nI 0), .ref a1, .ref a2, .ref a3, .int (nI (svN sv)), .ref a4, .ref a5, .ref a6, .int ln, .ref a7, .int bm, .int br, .int ck, .int sa, .ref a8, .int lm, .int rs, .int at_, .ref a9, .int tm, .long hs])), (a1, .inl (ca 0, 226, .inl (sF z r f j nt nl gl gt))), (a3, .inl (ca 0, 1356, .inl (savF fv sv (sF z r f j nt nl gl gt))))] := hD1
      have hw7 := hwv
      have hP := hP1
      have hD := hD1.weaken (fun _ _ _ h => hFc _ h)
      generalize H1 = H at hP hS ⊢
      have hP : va_P D vwCl [(om, .inr (6, [.int (nI 0), .ref a1, .ref a2, .ref a3, .int (nI (svN sv)), .ref a4, .ref a5, .ref a6, .int ln, .ref a7, .int bm, .int br, .int ck, .int sa, .ref a8, .int lm, .int rs, .int at_, .ref a9, .int tm, .long hs])), (a1, .inl (ca 0, 226, .inl (sF z r f j nt nl gl gt))), (a3, .inl (ca 0, 1356, .inl (savF fv sv (sF z r f j nt nl gl gt))))] H := hP
      have hD : va_D A [(om, .inr (6, [.int (nI 0), .ref a1, .ref a2, .ref a3, .int (nI (svN sv)), .ref a4, .ref a5, .ref a6, .int ln, .ref a7, .int bm, .int br, .int ck, .int sa, .ref a8, .int lm, .int rs, .int at_, .ref a9, .int tm, .long hs])), (a1, .inl (ca 0, 226, .inl (sF z r f j nt nl gl gt))), (a3, .inl (ca 0, 1356, .inl (savF fv sv (sF z r f j nt nl gl gt))))] := hD
      refine lv_aload_n hx hb dX6_set_38 rfl (lv_at hl 0 rfl) ?_
      refine va_get (D := D) (ci := 6) (C := RX6) (T := TX6) (N := 21) hx hb hts hiX6 hown hKv hP 0 rfl rfl 1 (by decide) lk7 (fun _ h9 => h9) rfl dX6_set_39 ?_
      refine lv_iload_n hx hb dX6_set_42 rfl (lv_at hl 1 rfl) ?_
      refine my_iald hx hb hK hP 1 rfl (by omega) (by omega) dX6_set_43 ?_
      rw [show sF z r f j nt nl gl gt 0 = nI z from rfl]
      refine lv_istore_n (lv' := [(3, .int (nI z)), (0, .ref om), (1, .int (nI 0)), (2, .int (nI v))]) hx hb dX6_set_44 rfl hl (by decide) rfl (fun ls hl => ?_)
      refine lv_aload_n hx hb dX6_set_45 rfl (lv_at hl 1 rfl) ?_
      refine va_get (D := D) (ci := 6) (C := RX6) (T := TX6) (N := 21) hx hb hts hiX6 hown hKv hP 0 rfl rfl 1 (by decide) lk7 (fun _ h9 => h9) rfl dX6_set_46 ?_
      refine lv_iload_n hx hb dX6_set_49 rfl (lv_at hl 2 rfl) ?_
      refine lv_iload_n hx hb dX6_set_50 rfl (lv_at hl 3 rfl) ?_
      refine my_iast hx hb hK hP hD hS 1 rfl (by omega) (by omega) dX6_set_51 (fun H locs hP hD hS => ?_)
      have hP : va_P D vwCl [(om, .inr (6, [.int (nI 0), .ref a1, .ref a2, .ref a3, .int (nI (svN sv)), .ref a4, .ref a5, .ref a6, .int ln, .ref a7, .int bm, .int br, .int ck, .int sa, .ref a8, .int lm, .int rs, .int at_, .ref a9, .int tm, .long hs])), (a1, .inl (ca 0, 226, .inl (upd (sF z r f j nt nl gl gt) 0 (nI v)))), (a3, .inl (ca 0, 1356, .inl (savF fv sv (sF z r f j nt nl gl gt))))] H := hP
      have hD : va_D A [(om, .inr (6, [.int (nI 0), .ref a1, .ref a2, .ref a3, .int (nI (svN sv)), .ref a4, .ref a5, .ref a6, .int ln, .ref a7, .int bm, .int br, .int ck, .int sa, .ref a8, .int lm, .int rs, .int at_, .ref a9, .int tm, .long hs])), (a1, .inl (ca 0, 226, .inl (upd (sF z r f j nt nl gl gt) 0 (nI v)))), (a3, .inl (ca 0, 1356, .inl (savF fv sv (sF z r f j nt nl gl gt))))] := hD
      have e9 : (upd (sF z r f j nt nl gl gt) 0 (nI v) : Nat → Int32) = sF v r f j nt nl gl gt := sF_w0 _ _ _ _ _ _ _ _ _
      have hP : va_P D vwCl [(om, .inr (6, [.int (nI 0), .ref a1, .ref a2, .ref a3, .int (nI (svN sv)), .ref a4, .ref a5, .ref a6, .int ln, .ref a7, .int bm, .int br, .int ck, .int sa, .ref a8, .int lm, .int rs, .int at_, .ref a9, .int tm, .long hs])), (a1, .inl (ca 0, 226, .inl (sF v r f j nt nl gl gt))), (a3, .inl (ca 0, 1356, .inl (savF fv sv (sF z r f j nt nl gl gt))))] H := Eq.mp (congrArg (fun z9 : Nat → Int32 => va_P D vwCl [(om, .inr (6, [.int (nI 0), .ref a1, .ref a2, .ref a3, .int (nI (svN sv)), .ref a4, .ref a5, .ref a6, .int ln, .ref a7, .int bm, .int br, .int ck, .int sa, .ref a8, .int lm, .int rs, .int at_, .ref a9, .int tm, .long hs])), (a1, .inl (ca 0, 226, .inl z9)), (a3, .inl (ca 0, 1356, .inl (savF fv sv (sF z r f j nt nl gl gt))))] H) e9) hP
      have hD : va_D A [(om, .inr (6, [.int (nI 0), .ref a1, .ref a2, .ref a3, .int (nI (svN sv)), .ref a4, .ref a5, .ref a6, .int ln, .ref a7, .int bm, .int br, .int ck, .int sa, .ref a8, .int lm, .int rs, .int at_, .ref a9, .int tm, .long hs])), (a1, .inl (ca 0, 226, .inl (sF v r f j nt nl gl gt))), (a3, .inl (ca 0, 1356, .inl (savF fv sv (sF z r f j nt nl gl gt))))] := Eq.mp (congrArg (fun z9 : Nat → Int32 => va_D A [(om, .inr (6, [.int (nI 0), .ref a1, .ref a2, .ref a3, .int (nI (svN sv)), .ref a4, .ref a5, .ref a6, .int ln, .ref a7, .int bm, .int br, .int ck, .int sa, .ref a8, .int lm, .int rs, .int at_, .ref a9, .int tm, .long hs])), (a1, .inl (ca 0, 226, .inl z9)), (a3, .inl (ca 0, 1356, .inl (savF fv sv (sF z r f j nt nl gl gt))))]) e9) hD
      refine lv_iload_n hx hb dX6_set_52 rfl (lv_at hl 0 rfl) ?_
      exact W.iret (v := nI z) hx hb hr (fun t ht hW => ⟨⟨_, (), rfl, ⟨by rfl, by trivial⟩, by rw [ht]; exact hP, hD⟩, hS.F ht⟩) hS.2.2 dX6_set_53
    · first | exact False.elim c6 | exact absurd c6 (by decide) | (exfalso; omega)
  · first | exact False.elim c3 | exact absurd c3 (by decide) | (exfalso; omega)
abbrev rm_kX6_set_1 : Room := { frames := 2, cells := 0, slots := 0, locals := 43 }
set_option maxHeartbeats 4000000 in
set_option maxRecDepth 100000 in
theorem kX6_set_1 (l : Launch) (D : va_G) (ca : Nat → ClassId) (sz : Nat) (om a1 a2 a3 a4 a5 a6 a7 a8 a9 : Nat) (thr ln bm br ck sa lm rs at_ tm : Int32) (hs : Int64) (sv : Nat) (z : Nat) (r f j : Int32) (nt nl : Nat) (gl gt : Nat → Int32) (fv : Nat → Int32) (v : Int32) (hnt : nt ≤ 200) (hnl : nl ≤ 20) (hz : z ≤ 30) (hsv : sv ≤ 6) (hin : okSet 1 v = true) : Met l yX6_set wsX6_set rm_kX6_set_1 (pcM D ca [.ref om, .int (nI 1), .int v] [(om, .inr (6, [.int thr, .ref a1, .ref a2, .ref a3, .int (nI sv), .ref a4, .ref a5, .ref a6, .int ln, .ref a7, .int bm, .int br, .int ck, .int sa, .ref a8, .int lm, .int rs, .int at_, .ref a9, .int tm, .long hs])), (a1, .inl (ca 0, 226, .inl (sF z r f j nt nl gl gt))), (a3, .inl (ca 0, 1356, .inl fv))] sz) (va_Qi (fun (zr : Int32) (u : Unit) => zr = r ∧ True) (qB D (va_A [(om, .inr (6, [.int thr, .ref a1, .ref a2, .ref a3, .int (nI sv), .ref a4, .ref a5, .ref a6, .int ln, .ref a7, .int bm, .int br, .int ck, .int sa, .ref a8, .int lm, .int rs, .int at_, .ref a9, .int tm, .long hs])), (a1, .inl (ca 0, 226, .inl (sF z r f j nt nl gl gt))), (a3, .inl (ca 0, 1356, .inl fv))] sz) (fun u : Unit => [(om, .inr (6, [.int (nI 0), .ref a1, .ref a2, .ref a3, .int (nI (svN sv)), .ref a4, .ref a5, .ref a6, .int ln, .ref a7, .int bm, .int br, .int ck, .int sa, .ref a8, .int lm, .int rs, .int at_, .ref a9, .int tm, .long hs])), (a1, .inl (ca 0, 226, .inl (sF z v f j nt nl gl gt))), (a3, .inl (ca 0, 1356, .inl (savF fv sv (sF z r f j nt nl gl gt))))])) (va_A [(om, .inr (6, [.int thr, .ref a1, .ref a2, .ref a3, .int (nI sv), .ref a4, .ref a5, .ref a6, .int ln, .ref a7, .int bm, .int br, .int ck, .int sa, .ref a8, .int lm, .int rs, .int at_, .ref a9, .int tm, .long hs])), (a1, .inl (ca 0, 226, .inl (sF z r f j nt nl gl gt))), (a3, .inl (ca 0, 1356, .inl fv))] sz)) 0 0 (va_A [(om, .inr (6, [.int thr, .ref a1, .ref a2, .ref a3, .int (nI sv), .ref a4, .ref a5, .ref a6, .int ln, .ref a7, .int bm, .int br, .int ck, .int sa, .ref a8, .int lm, .int rs, .int at_, .ref a9, .int tm, .long hs])), (a1, .inl (ca 0, 226, .inl (sF z r f j nt nl gl gt))), (a3, .inl (ca 0, 1356, .inl fv))] sz) := by
  refine Met.ofW (cc := cX6_set) (maxL := 4) (ret := (some .int)) (by decide) rfl ?_
  intro p e s m args below meth c s₁ B hml hv
  obtain ⟨rfl, hsz, hP, hK, hD0⟩ := hv
  have hx := B.exec
  have hb := B.bytes
  have hr := B.returns
  have hts := atoms_spec (ws := wsX6_set) B.pre
  have hown : s.vm.findClass RX6 = some m.cls := findClass_of_methodNamed B.named
  have hlocks := B.notSynchronized
  subst hsz
  have hD := hD0.self (sz := s.heap.size)
  generalize hAe : va_A [(om, .inr (6, [.int thr, .ref a1, .ref a2, .ref a3, .int (nI sv), .ref a4, .ref a5, .ref a6, .int ln, .ref a7, .int bm, .int br, .int ck, .int sa, .ref a8, .int lm, .int rs, .int at_, .ref a9, .int tm, .long hs])), (a1, .inl (ca 0, 226, .inl (sF z r f j nt nl gl gt))), (a3, .inl (ca 0, 1356, .inl fv))] s.heap.size = A at hD ⊢
  have hA : ∀ q : Nat, s.heap.size ≤ q → A q := fun q h => by rw [← hAe]; exact Or.inr h
  have hS : va_S A s.heap s.heap [] := va_S.rf
  have hP : va_P D vwCl [(om, .inr (6, [.int thr, .ref a1, .ref a2, .ref a3, .int (nI sv), .ref a4, .ref a5, .ref a6, .int ln, .ref a7, .int bm, .int br, .int ck, .int sa, .ref a8, .int lm, .int rs, .int at_, .ref a9, .int tm, .long hs])), (a1, .inl (ca 0, 226, .inl (sF z r f j nt nl gl gt))), (a3, .inl (ca 0, 1356, .inl fv))] s.heap := hP
  have hKv := hK.1
  have hl := lv_entry ([.ref om, .int (nI 1), .int v]) (n := 4) (kk_le rfl)
  rw [lg_entry_eq]
  generalize (lg_sl ([.ref om, .int (nI 1), .int v]) ++ List.replicate (4 - (lg_sl ([.ref om, .int (nI 1), .int v])).length) Slot.unset).toArray = ls at hl ⊢
  have hl : lv_has ls 4 [(0, .ref om), (1, .int (nI 1)), (2, .int v)] := hl
  have hiX6 : ∀ w ∈ u_ws RX6 TX6 21, w ∈ wsX6_set := fun w h => by first | exact List.mem_cons_of_mem _ (List.mem_append_right _ h) | exact List.mem_cons_of_mem _ (List.mem_append_left _ (List.mem_append_right _ h)) | exact List.mem_cons_of_mem _ (List.mem_append_left _ (List.mem_append_left _ (List.mem_append_right _ h))) | exact List.mem_cons_of_mem _ (List.mem_append_left _ (List.mem_append_left _ (List.mem_append_left _ (List.mem_append_right _ h)))) | (revert w h; decide +kernel)
  have lk38 : (Cond.fieldLink RX6 38 "StripeSwipesModel" "thrown" "I").before _ s = true := hts _ (by decide +kernel)
  have lk7 : (Cond.fieldLink RX6 7 "StripeSwipesModel" "s" "[I").before _ s = true := hts _ (by decide +kernel)
  refine lv_aload_n hx hb dX6_set_0 rfl (lv_at hl 0 rfl) ?_
  refine lv_iconst (v := nI 0) hx hb dX6_set_1 (by decide) ?_
  refine va_put (D := D) (ci := 6) (v := .int (nI 0)) (ty := .int) (C := RX6) (T := TX6) (N := 21) hx hb hts hiX6 tyX6 tyX6_ok nmX6 hown hKv hP hD hS 0 rfl rfl 0 (by decide) lk38 (fun _ h9 => h9) rfl (by decide +kernel) rfl rfl (kk_le rfl) dX6_set_2 (fun H locs hP hD hS => ?_)
  have hP : va_P D vwCl [(om, .inr (6, [.int (nI 0), .ref a1, .ref a2, .ref a3, .int (nI sv), .ref a4, .ref a5, .ref a6, .int ln, .ref a7, .int bm, .int br, .int ck, .int sa, .ref a8, .int lm, .int rs, .int at_, .ref a9, .int tm, .long hs])), (a1, .inl (ca 0, 226, .inl (sF z r f j nt nl gl gt))), (a3, .inl (ca 0, 1356, .inl fv))] H := hP
  have hD : va_D A [(om, .inr (6, [.int (nI 0), .ref a1, .ref a2, .ref a3, .int (nI sv), .ref a4, .ref a5, .ref a6, .int ln, .ref a7, .int bm, .int br, .int ck, .int sa, .ref a8, .int lm, .int rs, .int at_, .ref a9, .int tm, .long hs])), (a1, .inl (ca 0, 226, .inl (sF z r f j nt nl gl gt))), (a3, .inl (ca 0, 1356, .inl fv))] := hD
  refine lv_iload_n hx hb dX6_set_5 rfl (lv_at hl 1 rfl) ?_
  refine lv_iconst (v := nI 0) hx hb dX6_set_6 (by decide) ?_
  refine lv_iconst (v := nI 3) hx hb dX6_set_7 (by decide) ?_
  refine vp_callSi (va_Run.run (va_runS (As := [.int (nI 1), .int (nI 0), .int (nI 3)]) (rest := []) ⟨hx, hb, hml, hown, hts⟩ (kX6_in l (nI 1) (nI 0) (nI 3)) (va_cwS 3 hts gX6_set_X6_in rfl rfl rfl (by decide +kernel) ⟨kk_le rfl, kk_le rfl⟩) psN rfl rfl hl.1 rfl (lv_room (kk_le rfl)) dX6_set_8 ⟨kk_le rfl, kk_le rfl⟩)) (fun r1 hr1 => ?_)
  subst hr1
  have e2 : (bI (inF (nI 1) (nI 0) (nI 3)) : Int32) = bI true := congrArg bI (by decide)
  rw [e2]
  refine bi_if_ne (tgt := 20) hx hb dX6_set_11 (by decide) (fun c3 => ?_) (fun c3 => ?_)
  · refine lv_iload_n hx hb dX6_set_20 rfl (lv_at hl 1 rfl) ?_
    refine lv_iload_n hx hb dX6_set_21 rfl (lv_at hl 2 rfl) ?_
    refine vp_callSi (va_Run.run (va_runS (As := [.int (nI 1), .int v]) (rest := []) ⟨hx, hb, hml, hown, hts⟩ (kX6_isSetting l 1 v (by first | rfl | assumption | omega | trivial | (exfalso; omega))) (va_cwS 2 hts gX6_set_X6_isSetting rfl rfl rfl (by decide +kernel) ⟨kk_le rfl, kk_le rfl⟩) psN rfl rfl hl.1 rfl (lv_room (kk_le rfl)) dX6_set_22 ⟨kk_le rfl, kk_le rfl⟩)) (fun r4 hr4 => ?_)
    subst hr4
    have e5 : (bI (okSet 1 v) : Int32) = bI true := congrArg bI (hin)
    rw [e5]
    refine bi_if_ne (tgt := 34) hx hb dX6_set_25 (by decide) (fun c6 => ?_) (fun c6 => ?_)
    · refine lv_aload_n hx hb dX6_set_34 rfl (lv_at hl 0 rfl) ?_
      have hPc := hP
      have hDc := hD
      have hFc := va_free (wc := [(om, .inr (6, [.int (nI 0), .ref a1, .ref a2, .ref a3, .int (nI sv), .ref a4, .ref a5, .ref a6, .int ln, .ref a7, .int bm, .int br, .int ck, .int sa, .ref a8, .int lm, .int rs, .int at_, .ref a9, .int tm, .long hs])), (a1, .inl (ca 0, 226, .inl (sF z r f j nt nl gl gt))), (a3, .inl (ca 0, 1356, .inl fv))]) hD hS hA [0, 1, 2] rfl
      refine va_callv (va_runV (As := []) (rest := []) ⟨hx, hb, hml, hown, hts⟩ (kX6_saves l D ca H.size om a1 a2 a3 a4 a5 a6 a7 a8 a9 (nI 0) ln bm br ck sa lm rs at_ tm hs z r f j nt nl gl gt sv fv (by first | rfl | assumption | omega | trivial | (exfalso; omega))) (cwV 0 hts gX6_set_X6_saves rfl rfl rfl (by decide +kernel) ⟨kk_le rfl, kk_le rfl⟩) (pvM hK hPc (my_D_true hDc) (va_recv hKv hP (ci := 6) (q0 := 0) rfl rfl)) rfl rfl hl.1 rfl (lv_room (kk_le rfl)) dX6_set_35 ⟨kk_le rfl, kk_le rfl⟩) hS (fun q _ h => hFc q h) hFc (fun u t H1 locs ht hvm hwv hBv hz1 hk1 hS => ?_)
      obtain ⟨hP1, hD1⟩ := hBv
      rw [ht] at hP1
      have hP1 : va_P D vwCl [(om, .inr (6, [.int (nI 0), .ref a1, .ref a2, .ref a3, .int (nI (svN sv)), .ref a4, .ref a5, .ref a6, .int ln, .ref a7, .int bm, .int br, .int ck, .int sa, .ref a8, .int lm, .int rs, .int at_, .ref a9, .int tm, .long hs])), (a1, .inl (ca 0, 226, .inl (sF z r f j nt nl gl gt))), (a3, .inl (ca 0, 1356, .inl (savF fv sv (sF z r f j nt nl gl gt))))] H1 := hP1
      have hD1 : va_D _ [(om, .inr (6, [.int (nI 0), .ref a1, .ref a2, .ref a3, .int (nI (svN sv)), .ref a4, .ref a5, .ref a6, .int ln, .ref a7, .int bm, .int br, .int ck, .int sa, .ref a8, .int lm, .int rs, .int at_, .ref a9, .int tm, .long hs])), (a1, .inl (ca 0, 226, .inl (sF z r f j nt nl gl gt))), (a3, .inl (ca 0, 1356, .inl (savF fv sv (sF z r f j nt nl gl gt))))] := hD1
      have hw7 := hwv
      have hP := hP1
      have hD := hD1.weaken (fun _ _ _ h => hFc _ h)
      generalize H1 = H at hP hS ⊢
      have hP : va_P D vwCl [(om, .inr (6, [.int (nI 0), .ref a1, .ref a2, .ref a3, .int (nI (svN sv)), .ref a4, .ref a5, .ref a6, .int ln, .ref a7, .int bm, .int br, .int ck, .int sa, .ref a8, .int lm, .int rs, .int at_, .ref a9, .int tm, .long hs])), (a1, .inl (ca 0, 226, .inl (sF z r f j nt nl gl gt))), (a3, .inl (ca 0, 1356, .inl (savF fv sv (sF z r f j nt nl gl gt))))] H := hP
      have hD : va_D A [(om, .inr (6, [.int (nI 0), .ref a1, .ref a2, .ref a3, .int (nI (svN sv)), .ref a4, .ref a5, .ref a6, .int ln, .ref a7, .int bm, .int br, .int ck, .int sa, .ref a8, .int lm, .int rs, .int at_, .ref a9, .int tm, .long hs])), (a1, .inl (ca 0, 226, .inl (sF z r f j nt nl gl gt))), (a3, .inl (ca 0, 1356, .inl (savF fv sv (sF z r f j nt nl gl gt))))] := hD
      refine lv_aload_n hx hb dX6_set_38 rfl (lv_at hl 0 rfl) ?_
      refine va_get (D := D) (ci := 6) (C := RX6) (T := TX6) (N := 21) hx hb hts hiX6 hown hKv hP 0 rfl rfl 1 (by decide) lk7 (fun _ h9 => h9) rfl dX6_set_39 ?_
      refine lv_iload_n hx hb dX6_set_42 rfl (lv_at hl 1 rfl) ?_
      refine my_iald hx hb hK hP 1 rfl (by omega) (by omega) dX6_set_43 ?_
      rw [show sF z r f j nt nl gl gt 1 = r from rfl]
      refine lv_istore_n (lv' := [(3, .int r), (0, .ref om), (1, .int (nI 1)), (2, .int v)]) hx hb dX6_set_44 rfl hl (by decide) rfl (fun ls hl => ?_)
      refine lv_aload_n hx hb dX6_set_45 rfl (lv_at hl 1 rfl) ?_
      refine va_get (D := D) (ci := 6) (C := RX6) (T := TX6) (N := 21) hx hb hts hiX6 hown hKv hP 0 rfl rfl 1 (by decide) lk7 (fun _ h9 => h9) rfl dX6_set_46 ?_
      refine lv_iload_n hx hb dX6_set_49 rfl (lv_at hl 2 rfl) ?_
      refine lv_iload_n hx hb dX6_set_50 rfl (lv_at hl 3 rfl) ?_
      refine my_iast hx hb hK hP hD hS 1 rfl (by omega) (by omega) dX6_set_51 (fun H locs hP hD hS => ?_)
      have hP : va_P D vwCl [(om, .inr (6, [.int (nI 0), .ref a1, .ref a2, .ref a3, .int (nI (svN sv)), .ref a4, .ref a5, .ref a6, .int ln, .ref a7, .int bm, .int br, .int ck, .int sa, .ref a8, .int lm, .int rs, .int at_, .ref a9, .int tm, .long hs])), (a1, .inl (ca 0, 226, .inl (upd (sF z r f j nt nl gl gt) 1 v))), (a3, .inl (ca 0, 1356, .inl (savF fv sv (sF z r f j nt nl gl gt))))] H := hP
      have hD : va_D A [(om, .inr (6, [.int (nI 0), .ref a1, .ref a2, .ref a3, .int (nI (svN sv)), .ref a4, .ref a5, .ref a6, .int ln, .ref a7, .int bm, .int br, .int ck, .int sa, .ref a8, .int lm, .int rs, .int at_, .ref a9, .int tm, .long hs])), (a1, .inl (ca 0, 226, .inl (upd (sF z r f j nt nl gl gt) 1 v))), (a3, .inl (ca 0, 1356, .inl (savF fv sv (sF z r f j nt nl gl gt))))] := hD
      have e9 : (upd (sF z r f j nt nl gl gt) 1 v : Nat → Int32) = sF z v f j nt nl gl gt := sF_w1 _ _ _ _ _ _ _ _ _
      have hP : va_P D vwCl [(om, .inr (6, [.int (nI 0), .ref a1, .ref a2, .ref a3, .int (nI (svN sv)), .ref a4, .ref a5, .ref a6, .int ln, .ref a7, .int bm, .int br, .int ck, .int sa, .ref a8, .int lm, .int rs, .int at_, .ref a9, .int tm, .long hs])), (a1, .inl (ca 0, 226, .inl (sF z v f j nt nl gl gt))), (a3, .inl (ca 0, 1356, .inl (savF fv sv (sF z r f j nt nl gl gt))))] H := Eq.mp (congrArg (fun z9 : Nat → Int32 => va_P D vwCl [(om, .inr (6, [.int (nI 0), .ref a1, .ref a2, .ref a3, .int (nI (svN sv)), .ref a4, .ref a5, .ref a6, .int ln, .ref a7, .int bm, .int br, .int ck, .int sa, .ref a8, .int lm, .int rs, .int at_, .ref a9, .int tm, .long hs])), (a1, .inl (ca 0, 226, .inl z9)), (a3, .inl (ca 0, 1356, .inl (savF fv sv (sF z r f j nt nl gl gt))))] H) e9) hP
      have hD : va_D A [(om, .inr (6, [.int (nI 0), .ref a1, .ref a2, .ref a3, .int (nI (svN sv)), .ref a4, .ref a5, .ref a6, .int ln, .ref a7, .int bm, .int br, .int ck, .int sa, .ref a8, .int lm, .int rs, .int at_, .ref a9, .int tm, .long hs])), (a1, .inl (ca 0, 226, .inl (sF z v f j nt nl gl gt))), (a3, .inl (ca 0, 1356, .inl (savF fv sv (sF z r f j nt nl gl gt))))] := Eq.mp (congrArg (fun z9 : Nat → Int32 => va_D A [(om, .inr (6, [.int (nI 0), .ref a1, .ref a2, .ref a3, .int (nI (svN sv)), .ref a4, .ref a5, .ref a6, .int ln, .ref a7, .int bm, .int br, .int ck, .int sa, .ref a8, .int lm, .int rs, .int at_, .ref a9, .int tm, .long hs])), (a1, .inl (ca 0, 226, .inl z9)), (a3, .inl (ca 0, 1356, .inl (savF fv sv (sF z r f j nt nl gl gt))))]) e9) hD
      refine lv_iload_n hx hb dX6_set_52 rfl (lv_at hl 0 rfl) ?_
      exact W.iret (v := r) hx hb hr (fun t ht hW => ⟨⟨_, (), rfl, ⟨by rfl, by trivial⟩, by rw [ht]; exact hP, hD⟩, hS.F ht⟩) hS.2.2 dX6_set_53
    · first | exact False.elim c6 | exact absurd c6 (by decide) | (exfalso; omega)
  · first | exact False.elim c3 | exact absurd c3 (by decide) | (exfalso; omega)
abbrev rm_kX6_set_2 : Room := { frames := 2, cells := 0, slots := 0, locals := 43 }
set_option maxHeartbeats 4000000 in
set_option maxRecDepth 100000 in
theorem kX6_set_2 (l : Launch) (D : va_G) (ca : Nat → ClassId) (sz : Nat) (om a1 a2 a3 a4 a5 a6 a7 a8 a9 : Nat) (thr ln bm br ck sa lm rs at_ tm : Int32) (hs : Int64) (sv : Nat) (z : Nat) (r f j : Int32) (nt nl : Nat) (gl gt : Nat → Int32) (fv : Nat → Int32) (v : Int32) (hnt : nt ≤ 200) (hnl : nl ≤ 20) (hz : z ≤ 30) (hsv : sv ≤ 6) (hin : okSet 2 v = true) : Met l yX6_set wsX6_set rm_kX6_set_2 (pcM D ca [.ref om, .int (nI 2), .int v] [(om, .inr (6, [.int thr, .ref a1, .ref a2, .ref a3, .int (nI sv), .ref a4, .ref a5, .ref a6, .int ln, .ref a7, .int bm, .int br, .int ck, .int sa, .ref a8, .int lm, .int rs, .int at_, .ref a9, .int tm, .long hs])), (a1, .inl (ca 0, 226, .inl (sF z r f j nt nl gl gt))), (a3, .inl (ca 0, 1356, .inl fv))] sz) (va_Qi (fun (zr : Int32) (u : Unit) => zr = f ∧ True) (qB D (va_A [(om, .inr (6, [.int thr, .ref a1, .ref a2, .ref a3, .int (nI sv), .ref a4, .ref a5, .ref a6, .int ln, .ref a7, .int bm, .int br, .int ck, .int sa, .ref a8, .int lm, .int rs, .int at_, .ref a9, .int tm, .long hs])), (a1, .inl (ca 0, 226, .inl (sF z r f j nt nl gl gt))), (a3, .inl (ca 0, 1356, .inl fv))] sz) (fun u : Unit => [(om, .inr (6, [.int (nI 0), .ref a1, .ref a2, .ref a3, .int (nI (svN sv)), .ref a4, .ref a5, .ref a6, .int ln, .ref a7, .int bm, .int br, .int ck, .int sa, .ref a8, .int lm, .int rs, .int at_, .ref a9, .int tm, .long hs])), (a1, .inl (ca 0, 226, .inl (sF z r v j nt nl gl gt))), (a3, .inl (ca 0, 1356, .inl (savF fv sv (sF z r f j nt nl gl gt))))])) (va_A [(om, .inr (6, [.int thr, .ref a1, .ref a2, .ref a3, .int (nI sv), .ref a4, .ref a5, .ref a6, .int ln, .ref a7, .int bm, .int br, .int ck, .int sa, .ref a8, .int lm, .int rs, .int at_, .ref a9, .int tm, .long hs])), (a1, .inl (ca 0, 226, .inl (sF z r f j nt nl gl gt))), (a3, .inl (ca 0, 1356, .inl fv))] sz)) 0 0 (va_A [(om, .inr (6, [.int thr, .ref a1, .ref a2, .ref a3, .int (nI sv), .ref a4, .ref a5, .ref a6, .int ln, .ref a7, .int bm, .int br, .int ck, .int sa, .ref a8, .int lm, .int rs, .int at_, .ref a9, .int tm, .long hs])), (a1, .inl (ca 0, 226, .inl (sF z r f j nt nl gl gt))), (a3, .inl (ca 0, 1356, .inl fv))] sz) := by
  refine Met.ofW (cc := cX6_set) (maxL := 4) (ret := (some .int)) (by decide) rfl ?_
  intro p e s m args below meth c s₁ B hml hv
  obtain ⟨rfl, hsz, hP, hK, hD0⟩ := hv
  have hx := B.exec
  have hb := B.bytes
  have hr := B.returns
  have hts := atoms_spec (ws := wsX6_set) B.pre
  have hown : s.vm.findClass RX6 = some m.cls := findClass_of_methodNamed B.named
  have hlocks := B.notSynchronized
  subst hsz
  have hD := hD0.self (sz := s.heap.size)
  generalize hAe : va_A [(om, .inr (6, [.int thr, .ref a1, .ref a2, .ref a3, .int (nI sv), .ref a4, .ref a5, .ref a6, .int ln, .ref a7, .int bm, .int br, .int ck, .int sa, .ref a8, .int lm, .int rs, .int at_, .ref a9, .int tm, .long hs])), (a1, .inl (ca 0, 226, .inl (sF z r f j nt nl gl gt))), (a3, .inl (ca 0, 1356, .inl fv))] s.heap.size = A at hD ⊢
  have hA : ∀ q : Nat, s.heap.size ≤ q → A q := fun q h => by rw [← hAe]; exact Or.inr h
  have hS : va_S A s.heap s.heap [] := va_S.rf
  have hP : va_P D vwCl [(om, .inr (6, [.int thr, .ref a1, .ref a2, .ref a3, .int (nI sv), .ref a4, .ref a5, .ref a6, .int ln, .ref a7, .int bm, .int br, .int ck, .int sa, .ref a8, .int lm, .int rs, .int at_, .ref a9, .int tm, .long hs])), (a1, .inl (ca 0, 226, .inl (sF z r f j nt nl gl gt))), (a3, .inl (ca 0, 1356, .inl fv))] s.heap := hP
  have hKv := hK.1
  have hl := lv_entry ([.ref om, .int (nI 2), .int v]) (n := 4) (kk_le rfl)
  rw [lg_entry_eq]
  generalize (lg_sl ([.ref om, .int (nI 2), .int v]) ++ List.replicate (4 - (lg_sl ([.ref om, .int (nI 2), .int v])).length) Slot.unset).toArray = ls at hl ⊢
  have hl : lv_has ls 4 [(0, .ref om), (1, .int (nI 2)), (2, .int v)] := hl
  have hiX6 : ∀ w ∈ u_ws RX6 TX6 21, w ∈ wsX6_set := fun w h => by first | exact List.mem_cons_of_mem _ (List.mem_append_right _ h) | exact List.mem_cons_of_mem _ (List.mem_append_left _ (List.mem_append_right _ h)) | exact List.mem_cons_of_mem _ (List.mem_append_left _ (List.mem_append_left _ (List.mem_append_right _ h))) | exact List.mem_cons_of_mem _ (List.mem_append_left _ (List.mem_append_left _ (List.mem_append_left _ (List.mem_append_right _ h)))) | (revert w h; decide +kernel)
  have lk38 : (Cond.fieldLink RX6 38 "StripeSwipesModel" "thrown" "I").before _ s = true := hts _ (by decide +kernel)
  have lk7 : (Cond.fieldLink RX6 7 "StripeSwipesModel" "s" "[I").before _ s = true := hts _ (by decide +kernel)
  refine lv_aload_n hx hb dX6_set_0 rfl (lv_at hl 0 rfl) ?_
  refine lv_iconst (v := nI 0) hx hb dX6_set_1 (by decide) ?_
  refine va_put (D := D) (ci := 6) (v := .int (nI 0)) (ty := .int) (C := RX6) (T := TX6) (N := 21) hx hb hts hiX6 tyX6 tyX6_ok nmX6 hown hKv hP hD hS 0 rfl rfl 0 (by decide) lk38 (fun _ h9 => h9) rfl (by decide +kernel) rfl rfl (kk_le rfl) dX6_set_2 (fun H locs hP hD hS => ?_)
  have hP : va_P D vwCl [(om, .inr (6, [.int (nI 0), .ref a1, .ref a2, .ref a3, .int (nI sv), .ref a4, .ref a5, .ref a6, .int ln, .ref a7, .int bm, .int br, .int ck, .int sa, .ref a8, .int lm, .int rs, .int at_, .ref a9, .int tm, .long hs])), (a1, .inl (ca 0, 226, .inl (sF z r f j nt nl gl gt))), (a3, .inl (ca 0, 1356, .inl fv))] H := hP
  have hD : va_D A [(om, .inr (6, [.int (nI 0), .ref a1, .ref a2, .ref a3, .int (nI sv), .ref a4, .ref a5, .ref a6, .int ln, .ref a7, .int bm, .int br, .int ck, .int sa, .ref a8, .int lm, .int rs, .int at_, .ref a9, .int tm, .long hs])), (a1, .inl (ca 0, 226, .inl (sF z r f j nt nl gl gt))), (a3, .inl (ca 0, 1356, .inl fv))] := hD
  refine lv_iload_n hx hb dX6_set_5 rfl (lv_at hl 1 rfl) ?_
  refine lv_iconst (v := nI 0) hx hb dX6_set_6 (by decide) ?_
  refine lv_iconst (v := nI 3) hx hb dX6_set_7 (by decide) ?_
  refine vp_callSi (va_Run.run (va_runS (As := [.int (nI 2), .int (nI 0), .int (nI 3)]) (rest := []) ⟨hx, hb, hml, hown, hts⟩ (kX6_in l (nI 2) (nI 0) (nI 3)) (va_cwS 3 hts gX6_set_X6_in rfl rfl rfl (by decide +kernel) ⟨kk_le rfl, kk_le rfl⟩) psN rfl rfl hl.1 rfl (lv_room (kk_le rfl)) dX6_set_8 ⟨kk_le rfl, kk_le rfl⟩)) (fun r1 hr1 => ?_)
  subst hr1
  have e2 : (bI (inF (nI 2) (nI 0) (nI 3)) : Int32) = bI true := congrArg bI (by decide)
  rw [e2]
  refine bi_if_ne (tgt := 20) hx hb dX6_set_11 (by decide) (fun c3 => ?_) (fun c3 => ?_)
  · refine lv_iload_n hx hb dX6_set_20 rfl (lv_at hl 1 rfl) ?_
    refine lv_iload_n hx hb dX6_set_21 rfl (lv_at hl 2 rfl) ?_
    refine vp_callSi (va_Run.run (va_runS (As := [.int (nI 2), .int v]) (rest := []) ⟨hx, hb, hml, hown, hts⟩ (kX6_isSetting l 2 v (by first | rfl | assumption | omega | trivial | (exfalso; omega))) (va_cwS 2 hts gX6_set_X6_isSetting rfl rfl rfl (by decide +kernel) ⟨kk_le rfl, kk_le rfl⟩) psN rfl rfl hl.1 rfl (lv_room (kk_le rfl)) dX6_set_22 ⟨kk_le rfl, kk_le rfl⟩)) (fun r4 hr4 => ?_)
    subst hr4
    have e5 : (bI (okSet 2 v) : Int32) = bI true := congrArg bI (hin)
    rw [e5]
    refine bi_if_ne (tgt := 34) hx hb dX6_set_25 (by decide) (fun c6 => ?_) (fun c6 => ?_)
    · refine lv_aload_n hx hb dX6_set_34 rfl (lv_at hl 0 rfl) ?_
      have hPc := hP
      have hDc := hD
      have hFc := va_free (wc := [(om, .inr (6, [.int (nI 0), .ref a1, .ref a2, .ref a3, .int (nI sv), .ref a4, .ref a5, .ref a6, .int ln, .ref a7, .int bm, .int br, .int ck, .int sa, .ref a8, .int lm, .int rs, .int at_, .ref a9, .int tm, .long hs])), (a1, .inl (ca 0, 226, .inl (sF z r f j nt nl gl gt))), (a3, .inl (ca 0, 1356, .inl fv))]) hD hS hA [0, 1, 2] rfl
      refine va_callv (va_runV (As := []) (rest := []) ⟨hx, hb, hml, hown, hts⟩ (kX6_saves l D ca H.size om a1 a2 a3 a4 a5 a6 a7 a8 a9 (nI 0) ln bm br ck sa lm rs at_ tm hs z r f j nt nl gl gt sv fv (by first | rfl | assumption | omega | trivial | (exfalso; omega))) (cwV 0 hts gX6_set_X6_saves rfl rfl rfl (by decide +kernel) ⟨kk_le rfl, kk_le rfl⟩) (pvM hK hPc (my_D_true hDc) (va_recv hKv hP (ci := 6) (q0 := 0) rfl rfl)) rfl rfl hl.1 rfl (lv_room (kk_le rfl)) dX6_set_35 ⟨kk_le rfl, kk_le rfl⟩) hS (fun q _ h => hFc q h) hFc (fun u t H1 locs ht hvm hwv hBv hz1 hk1 hS => ?_)
      obtain ⟨hP1, hD1⟩ := hBv
      rw [ht] at hP1
      have hP1 : va_P D vwCl [(om, .inr (6, [.int (nI 0), .ref a1, .ref a2, .ref a3, .int (nI (svN sv)), .ref a4, .ref a5, .ref a6, .int ln, .ref a7, .int bm, .int br, .int ck, .int sa, .ref a8, .int lm, .int rs, .int at_, .ref a9, .int tm, .long hs])), (a1, .inl (ca 0, 226, .inl (sF z r f j nt nl gl gt))), (a3, .inl (ca 0, 1356, .inl (savF fv sv (sF z r f j nt nl gl gt))))] H1 := hP1
      have hD1 : va_D _ [(om, .inr (6, [.int (nI 0), .ref a1, .ref a2, .ref a3, .int (nI (svN sv)), .ref a4, .ref a5, .ref a6, .int ln, .ref a7, .int bm, .int br, .int ck, .int sa, .ref a8, .int lm, .int rs, .int at_, .ref a9, .int tm, .long hs])), (a1, .inl (ca 0, 226, .inl (sF z r f j nt nl gl gt))), (a3, .inl (ca 0, 1356, .inl (savF fv sv (sF z r f j nt nl gl gt))))] := hD1
      have hw7 := hwv
      have hP := hP1
      have hD := hD1.weaken (fun _ _ _ h => hFc _ h)
      generalize H1 = H at hP hS ⊢
      have hP : va_P D vwCl [(om, .inr (6, [.int (nI 0), .ref a1, .ref a2, .ref a3, .int (nI (svN sv)), .ref a4, .ref a5, .ref a6, .int ln, .ref a7, .int bm, .int br, .int ck, .int sa, .ref a8, .int lm, .int rs, .int at_, .ref a9, .int tm, .long hs])), (a1, .inl (ca 0, 226, .inl (sF z r f j nt nl gl gt))), (a3, .inl (ca 0, 1356, .inl (savF fv sv (sF z r f j nt nl gl gt))))] H := hP
      have hD : va_D A [(om, .inr (6, [.int (nI 0), .ref a1, .ref a2, .ref a3, .int (nI (svN sv)), .ref a4, .ref a5, .ref a6, .int ln, .ref a7, .int bm, .int br, .int ck, .int sa, .ref a8, .int lm, .int rs, .int at_, .ref a9, .int tm, .long hs])), (a1, .inl (ca 0, 226, .inl (sF z r f j nt nl gl gt))), (a3, .inl (ca 0, 1356, .inl (savF fv sv (sF z r f j nt nl gl gt))))] := hD
      refine lv_aload_n hx hb dX6_set_38 rfl (lv_at hl 0 rfl) ?_
      refine va_get (D := D) (ci := 6) (C := RX6) (T := TX6) (N := 21) hx hb hts hiX6 hown hKv hP 0 rfl rfl 1 (by decide) lk7 (fun _ h9 => h9) rfl dX6_set_39 ?_
      refine lv_iload_n hx hb dX6_set_42 rfl (lv_at hl 1 rfl) ?_
      refine my_iald hx hb hK hP 1 rfl (by omega) (by omega) dX6_set_43 ?_
      rw [show sF z r f j nt nl gl gt 2 = f from rfl]
      refine lv_istore_n (lv' := [(3, .int f), (0, .ref om), (1, .int (nI 2)), (2, .int v)]) hx hb dX6_set_44 rfl hl (by decide) rfl (fun ls hl => ?_)
      refine lv_aload_n hx hb dX6_set_45 rfl (lv_at hl 1 rfl) ?_
      refine va_get (D := D) (ci := 6) (C := RX6) (T := TX6) (N := 21) hx hb hts hiX6 hown hKv hP 0 rfl rfl 1 (by decide) lk7 (fun _ h9 => h9) rfl dX6_set_46 ?_
      refine lv_iload_n hx hb dX6_set_49 rfl (lv_at hl 2 rfl) ?_
      refine lv_iload_n hx hb dX6_set_50 rfl (lv_at hl 3 rfl) ?_
      refine my_iast hx hb hK hP hD hS 1 rfl (by omega) (by omega) dX6_set_51 (fun H locs hP hD hS => ?_)
      have hP : va_P D vwCl [(om, .inr (6, [.int (nI 0), .ref a1, .ref a2, .ref a3, .int (nI (svN sv)), .ref a4, .ref a5, .ref a6, .int ln, .ref a7, .int bm, .int br, .int ck, .int sa, .ref a8, .int lm, .int rs, .int at_, .ref a9, .int tm, .long hs])), (a1, .inl (ca 0, 226, .inl (upd (sF z r f j nt nl gl gt) 2 v))), (a3, .inl (ca 0, 1356, .inl (savF fv sv (sF z r f j nt nl gl gt))))] H := hP
      have hD : va_D A [(om, .inr (6, [.int (nI 0), .ref a1, .ref a2, .ref a3, .int (nI (svN sv)), .ref a4, .ref a5, .ref a6, .int ln, .ref a7, .int bm, .int br, .int ck, .int sa, .ref a8, .int lm, .int rs, .int at_, .ref a9, .int tm, .long hs])), (a1, .inl (ca 0, 226, .inl (upd (sF z r f j nt nl gl gt) 2 v))), (a3, .inl (ca 0, 1356, .inl (savF fv sv (sF z r f j nt nl gl gt))))] := hD
      have e9 : (upd (sF z r f j nt nl gl gt) 2 v : Nat → Int32) = sF z r v j nt nl gl gt := sF_w2 _ _ _ _ _ _ _ _ _
      have hP : va_P D vwCl [(om, .inr (6, [.int (nI 0), .ref a1, .ref a2, .ref a3, .int (nI (svN sv)), .ref a4, .ref a5, .ref a6, .int ln, .ref a7, .int bm, .int br, .int ck, .int sa, .ref a8, .int lm, .int rs, .int at_, .ref a9, .int tm, .long hs])), (a1, .inl (ca 0, 226, .inl (sF z r v j nt nl gl gt))), (a3, .inl (ca 0, 1356, .inl (savF fv sv (sF z r f j nt nl gl gt))))] H := Eq.mp (congrArg (fun z9 : Nat → Int32 => va_P D vwCl [(om, .inr (6, [.int (nI 0), .ref a1, .ref a2, .ref a3, .int (nI (svN sv)), .ref a4, .ref a5, .ref a6, .int ln, .ref a7, .int bm, .int br, .int ck, .int sa, .ref a8, .int lm, .int rs, .int at_, .ref a9, .int tm, .long hs])), (a1, .inl (ca 0, 226, .inl z9)), (a3, .inl (ca 0, 1356, .inl (savF fv sv (sF z r f j nt nl gl gt))))] H) e9) hP
      have hD : va_D A [(om, .inr (6, [.int (nI 0), .ref a1, .ref a2, .ref a3, .int (nI (svN sv)), .ref a4, .ref a5, .ref a6, .int ln, .ref a7, .int bm, .int br, .int ck, .int sa, .ref a8, .int lm, .int rs, .int at_, .ref a9, .int tm, .long hs])), (a1, .inl (ca 0, 226, .inl (sF z r v j nt nl gl gt))), (a3, .inl (ca 0, 1356, .inl (savF fv sv (sF z r f j nt nl gl gt))))] := Eq.mp (congrArg (fun z9 : Nat → Int32 => va_D A [(om, .inr (6, [.int (nI 0), .ref a1, .ref a2, .ref a3, .int (nI (svN sv)), .ref a4, .ref a5, .ref a6, .int ln, .ref a7, .int bm, .int br, .int ck, .int sa, .ref a8, .int lm, .int rs, .int at_, .ref a9, .int tm, .long hs])), (a1, .inl (ca 0, 226, .inl z9)), (a3, .inl (ca 0, 1356, .inl (savF fv sv (sF z r f j nt nl gl gt))))]) e9) hD
      refine lv_iload_n hx hb dX6_set_52 rfl (lv_at hl 0 rfl) ?_
      exact W.iret (v := f) hx hb hr (fun t ht hW => ⟨⟨_, (), rfl, ⟨by rfl, by trivial⟩, by rw [ht]; exact hP, hD⟩, hS.F ht⟩) hS.2.2 dX6_set_53
    · first | exact False.elim c6 | exact absurd c6 (by decide) | (exfalso; omega)
  · first | exact False.elim c3 | exact absurd c3 (by decide) | (exfalso; omega)
abbrev rm_kX6_set_3 : Room := { frames := 2, cells := 0, slots := 0, locals := 43 }
set_option maxHeartbeats 4000000 in
set_option maxRecDepth 100000 in
theorem kX6_set_3 (l : Launch) (D : va_G) (ca : Nat → ClassId) (sz : Nat) (om a1 a2 a3 a4 a5 a6 a7 a8 a9 : Nat) (thr ln bm br ck sa lm rs at_ tm : Int32) (hs : Int64) (sv : Nat) (z : Nat) (r f j : Int32) (nt nl : Nat) (gl gt : Nat → Int32) (fv : Nat → Int32) (v : Int32) (hnt : nt ≤ 200) (hnl : nl ≤ 20) (hz : z ≤ 30) (hsv : sv ≤ 6) (hin : okSet 3 v = true) : Met l yX6_set wsX6_set rm_kX6_set_3 (pcM D ca [.ref om, .int (nI 3), .int v] [(om, .inr (6, [.int thr, .ref a1, .ref a2, .ref a3, .int (nI sv), .ref a4, .ref a5, .ref a6, .int ln, .ref a7, .int bm, .int br, .int ck, .int sa, .ref a8, .int lm, .int rs, .int at_, .ref a9, .int tm, .long hs])), (a1, .inl (ca 0, 226, .inl (sF z r f j nt nl gl gt))), (a3, .inl (ca 0, 1356, .inl fv))] sz) (va_Qi (fun (zr : Int32) (u : Unit) => zr = j ∧ True) (qB D (va_A [(om, .inr (6, [.int thr, .ref a1, .ref a2, .ref a3, .int (nI sv), .ref a4, .ref a5, .ref a6, .int ln, .ref a7, .int bm, .int br, .int ck, .int sa, .ref a8, .int lm, .int rs, .int at_, .ref a9, .int tm, .long hs])), (a1, .inl (ca 0, 226, .inl (sF z r f j nt nl gl gt))), (a3, .inl (ca 0, 1356, .inl fv))] sz) (fun u : Unit => [(om, .inr (6, [.int (nI 0), .ref a1, .ref a2, .ref a3, .int (nI (svN sv)), .ref a4, .ref a5, .ref a6, .int ln, .ref a7, .int bm, .int br, .int ck, .int sa, .ref a8, .int lm, .int rs, .int at_, .ref a9, .int tm, .long hs])), (a1, .inl (ca 0, 226, .inl (sF z r f v nt nl gl gt))), (a3, .inl (ca 0, 1356, .inl (savF fv sv (sF z r f j nt nl gl gt))))])) (va_A [(om, .inr (6, [.int thr, .ref a1, .ref a2, .ref a3, .int (nI sv), .ref a4, .ref a5, .ref a6, .int ln, .ref a7, .int bm, .int br, .int ck, .int sa, .ref a8, .int lm, .int rs, .int at_, .ref a9, .int tm, .long hs])), (a1, .inl (ca 0, 226, .inl (sF z r f j nt nl gl gt))), (a3, .inl (ca 0, 1356, .inl fv))] sz)) 0 0 (va_A [(om, .inr (6, [.int thr, .ref a1, .ref a2, .ref a3, .int (nI sv), .ref a4, .ref a5, .ref a6, .int ln, .ref a7, .int bm, .int br, .int ck, .int sa, .ref a8, .int lm, .int rs, .int at_, .ref a9, .int tm, .long hs])), (a1, .inl (ca 0, 226, .inl (sF z r f j nt nl gl gt))), (a3, .inl (ca 0, 1356, .inl fv))] sz) := by
  refine Met.ofW (cc := cX6_set) (maxL := 4) (ret := (some .int)) (by decide) rfl ?_
  intro p e s m args below meth c s₁ B hml hv
  obtain ⟨rfl, hsz, hP, hK, hD0⟩ := hv
  have hx := B.exec
  have hb := B.bytes
  have hr := B.returns
  have hts := atoms_spec (ws := wsX6_set) B.pre
  have hown : s.vm.findClass RX6 = some m.cls := findClass_of_methodNamed B.named
  have hlocks := B.notSynchronized
  subst hsz
  have hD := hD0.self (sz := s.heap.size)
  generalize hAe : va_A [(om, .inr (6, [.int thr, .ref a1, .ref a2, .ref a3, .int (nI sv), .ref a4, .ref a5, .ref a6, .int ln, .ref a7, .int bm, .int br, .int ck, .int sa, .ref a8, .int lm, .int rs, .int at_, .ref a9, .int tm, .long hs])), (a1, .inl (ca 0, 226, .inl (sF z r f j nt nl gl gt))), (a3, .inl (ca 0, 1356, .inl fv))] s.heap.size = A at hD ⊢
  have hA : ∀ q : Nat, s.heap.size ≤ q → A q := fun q h => by rw [← hAe]; exact Or.inr h
  have hS : va_S A s.heap s.heap [] := va_S.rf
  have hP : va_P D vwCl [(om, .inr (6, [.int thr, .ref a1, .ref a2, .ref a3, .int (nI sv), .ref a4, .ref a5, .ref a6, .int ln, .ref a7, .int bm, .int br, .int ck, .int sa, .ref a8, .int lm, .int rs, .int at_, .ref a9, .int tm, .long hs])), (a1, .inl (ca 0, 226, .inl (sF z r f j nt nl gl gt))), (a3, .inl (ca 0, 1356, .inl fv))] s.heap := hP
  have hKv := hK.1
  have hl := lv_entry ([.ref om, .int (nI 3), .int v]) (n := 4) (kk_le rfl)
  rw [lg_entry_eq]
  generalize (lg_sl ([.ref om, .int (nI 3), .int v]) ++ List.replicate (4 - (lg_sl ([.ref om, .int (nI 3), .int v])).length) Slot.unset).toArray = ls at hl ⊢
  have hl : lv_has ls 4 [(0, .ref om), (1, .int (nI 3)), (2, .int v)] := hl
  have hiX6 : ∀ w ∈ u_ws RX6 TX6 21, w ∈ wsX6_set := fun w h => by first | exact List.mem_cons_of_mem _ (List.mem_append_right _ h) | exact List.mem_cons_of_mem _ (List.mem_append_left _ (List.mem_append_right _ h)) | exact List.mem_cons_of_mem _ (List.mem_append_left _ (List.mem_append_left _ (List.mem_append_right _ h))) | exact List.mem_cons_of_mem _ (List.mem_append_left _ (List.mem_append_left _ (List.mem_append_left _ (List.mem_append_right _ h)))) | (revert w h; decide +kernel)
  have lk38 : (Cond.fieldLink RX6 38 "StripeSwipesModel" "thrown" "I").before _ s = true := hts _ (by decide +kernel)
  have lk7 : (Cond.fieldLink RX6 7 "StripeSwipesModel" "s" "[I").before _ s = true := hts _ (by decide +kernel)
  refine lv_aload_n hx hb dX6_set_0 rfl (lv_at hl 0 rfl) ?_
  refine lv_iconst (v := nI 0) hx hb dX6_set_1 (by decide) ?_
  refine va_put (D := D) (ci := 6) (v := .int (nI 0)) (ty := .int) (C := RX6) (T := TX6) (N := 21) hx hb hts hiX6 tyX6 tyX6_ok nmX6 hown hKv hP hD hS 0 rfl rfl 0 (by decide) lk38 (fun _ h9 => h9) rfl (by decide +kernel) rfl rfl (kk_le rfl) dX6_set_2 (fun H locs hP hD hS => ?_)
  have hP : va_P D vwCl [(om, .inr (6, [.int (nI 0), .ref a1, .ref a2, .ref a3, .int (nI sv), .ref a4, .ref a5, .ref a6, .int ln, .ref a7, .int bm, .int br, .int ck, .int sa, .ref a8, .int lm, .int rs, .int at_, .ref a9, .int tm, .long hs])), (a1, .inl (ca 0, 226, .inl (sF z r f j nt nl gl gt))), (a3, .inl (ca 0, 1356, .inl fv))] H := hP
  have hD : va_D A [(om, .inr (6, [.int (nI 0), .ref a1, .ref a2, .ref a3, .int (nI sv), .ref a4, .ref a5, .ref a6, .int ln, .ref a7, .int bm, .int br, .int ck, .int sa, .ref a8, .int lm, .int rs, .int at_, .ref a9, .int tm, .long hs])), (a1, .inl (ca 0, 226, .inl (sF z r f j nt nl gl gt))), (a3, .inl (ca 0, 1356, .inl fv))] := hD
  refine lv_iload_n hx hb dX6_set_5 rfl (lv_at hl 1 rfl) ?_
  refine lv_iconst (v := nI 0) hx hb dX6_set_6 (by decide) ?_
  refine lv_iconst (v := nI 3) hx hb dX6_set_7 (by decide) ?_
  refine vp_callSi (va_Run.run (va_runS (As := [.int (nI 3), .int (nI 0), .int (nI 3)]) (rest := []) ⟨hx, hb, hml, hown, hts⟩ (kX6_in l (nI 3) (nI 0) (nI 3)) (va_cwS 3 hts gX6_set_X6_in rfl rfl rfl (by decide +kernel) ⟨kk_le rfl, kk_le rfl⟩) psN rfl rfl hl.1 rfl (lv_room (kk_le rfl)) dX6_set_8 ⟨kk_le rfl, kk_le rfl⟩)) (fun r1 hr1 => ?_)
  subst hr1
  have e2 : (bI (inF (nI 3) (nI 0) (nI 3)) : Int32) = bI true := congrArg bI (by decide)
  rw [e2]
  refine bi_if_ne (tgt := 20) hx hb dX6_set_11 (by decide) (fun c3 => ?_) (fun c3 => ?_)
  · refine lv_iload_n hx hb dX6_set_20 rfl (lv_at hl 1 rfl) ?_
    refine lv_iload_n hx hb dX6_set_21 rfl (lv_at hl 2 rfl) ?_
    refine vp_callSi (va_Run.run (va_runS (As := [.int (nI 3), .int v]) (rest := []) ⟨hx, hb, hml, hown, hts⟩ (kX6_isSetting l 3 v (by first | rfl | assumption | omega | trivial | (exfalso; omega))) (va_cwS 2 hts gX6_set_X6_isSetting rfl rfl rfl (by decide +kernel) ⟨kk_le rfl, kk_le rfl⟩) psN rfl rfl hl.1 rfl (lv_room (kk_le rfl)) dX6_set_22 ⟨kk_le rfl, kk_le rfl⟩)) (fun r4 hr4 => ?_)
    subst hr4
    have e5 : (bI (okSet 3 v) : Int32) = bI true := congrArg bI (hin)
    rw [e5]
    refine bi_if_ne (tgt := 34) hx hb dX6_set_25 (by decide) (fun c6 => ?_) (fun c6 => ?_)
    · refine lv_aload_n hx hb dX6_set_34 rfl (lv_at hl 0 rfl) ?_
      have hPc := hP
      have hDc := hD
      have hFc := va_free (wc := [(om, .inr (6, [.int (nI 0), .ref a1, .ref a2, .ref a3, .int (nI sv), .ref a4, .ref a5, .ref a6, .int ln, .ref a7, .int bm, .int br, .int ck, .int sa, .ref a8, .int lm, .int rs, .int at_, .ref a9, .int tm, .long hs])), (a1, .inl (ca 0, 226, .inl (sF z r f j nt nl gl gt))), (a3, .inl (ca 0, 1356, .inl fv))]) hD hS hA [0, 1, 2] rfl
      refine va_callv (va_runV (As := []) (rest := []) ⟨hx, hb, hml, hown, hts⟩ (kX6_saves l D ca H.size om a1 a2 a3 a4 a5 a6 a7 a8 a9 (nI 0) ln bm br ck sa lm rs at_ tm hs z r f j nt nl gl gt sv fv (by first | rfl | assumption | omega | trivial | (exfalso; omega))) (cwV 0 hts gX6_set_X6_saves rfl rfl rfl (by decide +kernel) ⟨kk_le rfl, kk_le rfl⟩) (pvM hK hPc (my_D_true hDc) (va_recv hKv hP (ci := 6) (q0 := 0) rfl rfl)) rfl rfl hl.1 rfl (lv_room (kk_le rfl)) dX6_set_35 ⟨kk_le rfl, kk_le rfl⟩) hS (fun q _ h => hFc q h) hFc (fun u t H1 locs ht hvm hwv hBv hz1 hk1 hS => ?_)
      obtain ⟨hP1, hD1⟩ := hBv
      rw [ht] at hP1
      have hP1 : va_P D vwCl [(om, .inr (6, [.int (nI 0), .ref a1, .ref a2, .ref a3, .int (nI (svN sv)), .ref a4, .ref a5, .ref a6, .int ln, .ref a7, .int bm, .int br, .int ck, .int sa, .ref a8, .int lm, .int rs, .int at_, .ref a9, .int tm, .long hs])), (a1, .inl (ca 0, 226, .inl (sF z r f j nt nl gl gt))), (a3, .inl (ca 0, 1356, .inl (savF fv sv (sF z r f j nt nl gl gt))))] H1 := hP1
      have hD1 : va_D _ [(om, .inr (6, [.int (nI 0), .ref a1, .ref a2, .ref a3, .int (nI (svN sv)), .ref a4, .ref a5, .ref a6, .int ln, .ref a7, .int bm, .int br, .int ck, .int sa, .ref a8, .int lm, .int rs, .int at_, .ref a9, .int tm, .long hs])), (a1, .inl (ca 0, 226, .inl (sF z r f j nt nl gl gt))), (a3, .inl (ca 0, 1356, .inl (savF fv sv (sF z r f j nt nl gl gt))))] := hD1
      have hw7 := hwv
      have hP := hP1
      have hD := hD1.weaken (fun _ _ _ h => hFc _ h)
      generalize H1 = H at hP hS ⊢
      have hP : va_P D vwCl [(om, .inr (6, [.int (nI 0), .ref a1, .ref a2, .ref a3, .int (nI (svN sv)), .ref a4, .ref a5, .ref a6, .int ln, .ref a7, .int bm, .int br, .int ck, .int sa, .ref a8, .int lm, .int rs, .int at_, .ref a9, .int tm, .long hs])), (a1, .inl (ca 0, 226, .inl (sF z r f j nt nl gl gt))), (a3, .inl (ca 0, 1356, .inl (savF fv sv (sF z r f j nt nl gl gt))))] H := hP
      have hD : va_D A [(om, .inr (6, [.int (nI 0), .ref a1, .ref a2, .ref a3, .int (nI (svN sv)), .ref a4, .ref a5, .ref a6, .int ln, .ref a7, .int bm, .int br, .int ck, .int sa, .ref a8, .int lm, .int rs, .int at_, .ref a9, .int tm, .long hs])), (a1, .inl (ca 0, 226, .inl (sF z r f j nt nl gl gt))), (a3, .inl (ca 0, 1356, .inl (savF fv sv (sF z r f j nt nl gl gt))))] := hD
      refine lv_aload_n hx hb dX6_set_38 rfl (lv_at hl 0 rfl) ?_
      refine va_get (D := D) (ci := 6) (C := RX6) (T := TX6) (N := 21) hx hb hts hiX6 hown hKv hP 0 rfl rfl 1 (by decide) lk7 (fun _ h9 => h9) rfl dX6_set_39 ?_
      refine lv_iload_n hx hb dX6_set_42 rfl (lv_at hl 1 rfl) ?_
      refine my_iald hx hb hK hP 1 rfl (by omega) (by omega) dX6_set_43 ?_
      rw [show sF z r f j nt nl gl gt 3 = j from rfl]
      refine lv_istore_n (lv' := [(3, .int j), (0, .ref om), (1, .int (nI 3)), (2, .int v)]) hx hb dX6_set_44 rfl hl (by decide) rfl (fun ls hl => ?_)
      refine lv_aload_n hx hb dX6_set_45 rfl (lv_at hl 1 rfl) ?_
      refine va_get (D := D) (ci := 6) (C := RX6) (T := TX6) (N := 21) hx hb hts hiX6 hown hKv hP 0 rfl rfl 1 (by decide) lk7 (fun _ h9 => h9) rfl dX6_set_46 ?_
      refine lv_iload_n hx hb dX6_set_49 rfl (lv_at hl 2 rfl) ?_
      refine lv_iload_n hx hb dX6_set_50 rfl (lv_at hl 3 rfl) ?_
      refine my_iast hx hb hK hP hD hS 1 rfl (by omega) (by omega) dX6_set_51 (fun H locs hP hD hS => ?_)
      have hP : va_P D vwCl [(om, .inr (6, [.int (nI 0), .ref a1, .ref a2, .ref a3, .int (nI (svN sv)), .ref a4, .ref a5, .ref a6, .int ln, .ref a7, .int bm, .int br, .int ck, .int sa, .ref a8, .int lm, .int rs, .int at_, .ref a9, .int tm, .long hs])), (a1, .inl (ca 0, 226, .inl (upd (sF z r f j nt nl gl gt) 3 v))), (a3, .inl (ca 0, 1356, .inl (savF fv sv (sF z r f j nt nl gl gt))))] H := hP
      have hD : va_D A [(om, .inr (6, [.int (nI 0), .ref a1, .ref a2, .ref a3, .int (nI (svN sv)), .ref a4, .ref a5, .ref a6, .int ln, .ref a7, .int bm, .int br, .int ck, .int sa, .ref a8, .int lm, .int rs, .int at_, .ref a9, .int tm, .long hs])), (a1, .inl (ca 0, 226, .inl (upd (sF z r f j nt nl gl gt) 3 v))), (a3, .inl (ca 0, 1356, .inl (savF fv sv (sF z r f j nt nl gl gt))))] := hD
      have e9 : (upd (sF z r f j nt nl gl gt) 3 v : Nat → Int32) = sF z r f v nt nl gl gt := sF_w3 _ _ _ _ _ _ _ _ _
      have hP : va_P D vwCl [(om, .inr (6, [.int (nI 0), .ref a1, .ref a2, .ref a3, .int (nI (svN sv)), .ref a4, .ref a5, .ref a6, .int ln, .ref a7, .int bm, .int br, .int ck, .int sa, .ref a8, .int lm, .int rs, .int at_, .ref a9, .int tm, .long hs])), (a1, .inl (ca 0, 226, .inl (sF z r f v nt nl gl gt))), (a3, .inl (ca 0, 1356, .inl (savF fv sv (sF z r f j nt nl gl gt))))] H := Eq.mp (congrArg (fun z9 : Nat → Int32 => va_P D vwCl [(om, .inr (6, [.int (nI 0), .ref a1, .ref a2, .ref a3, .int (nI (svN sv)), .ref a4, .ref a5, .ref a6, .int ln, .ref a7, .int bm, .int br, .int ck, .int sa, .ref a8, .int lm, .int rs, .int at_, .ref a9, .int tm, .long hs])), (a1, .inl (ca 0, 226, .inl z9)), (a3, .inl (ca 0, 1356, .inl (savF fv sv (sF z r f j nt nl gl gt))))] H) e9) hP
      have hD : va_D A [(om, .inr (6, [.int (nI 0), .ref a1, .ref a2, .ref a3, .int (nI (svN sv)), .ref a4, .ref a5, .ref a6, .int ln, .ref a7, .int bm, .int br, .int ck, .int sa, .ref a8, .int lm, .int rs, .int at_, .ref a9, .int tm, .long hs])), (a1, .inl (ca 0, 226, .inl (sF z r f v nt nl gl gt))), (a3, .inl (ca 0, 1356, .inl (savF fv sv (sF z r f j nt nl gl gt))))] := Eq.mp (congrArg (fun z9 : Nat → Int32 => va_D A [(om, .inr (6, [.int (nI 0), .ref a1, .ref a2, .ref a3, .int (nI (svN sv)), .ref a4, .ref a5, .ref a6, .int ln, .ref a7, .int bm, .int br, .int ck, .int sa, .ref a8, .int lm, .int rs, .int at_, .ref a9, .int tm, .long hs])), (a1, .inl (ca 0, 226, .inl z9)), (a3, .inl (ca 0, 1356, .inl (savF fv sv (sF z r f j nt nl gl gt))))]) e9) hD
      refine lv_iload_n hx hb dX6_set_52 rfl (lv_at hl 0 rfl) ?_
      exact W.iret (v := j) hx hb hr (fun t ht hW => ⟨⟨_, (), rfl, ⟨by rfl, by trivial⟩, by rw [ht]; exact hP, hD⟩, hS.F ht⟩) hS.2.2 dX6_set_53
    · first | exact False.elim c6 | exact absurd c6 (by decide) | (exfalso; omega)
  · first | exact False.elim c3 | exact absurd c3 (by decide) | (exfalso; omega)
abbrev rm_kX6_set_bad : Room := { frames := 1, cells := 0, slots := 0, locals := 22 }
set_option maxHeartbeats 4000000 in
set_option maxRecDepth 100000 in
theorem kX6_set_bad (l : Launch) (D : va_G) (ca : Nat → ClassId) (sz : Nat) (om a1 a2 a3 a4 a5 a6 a7 a8 a9 : Nat) (thr sv ln bm br ck sa lm rs at_ tm : Int32) (hs : Int64) (z : Nat) (r f j : Int32) (nt nl : Nat) (gl gt : Nat → Int32) (x : Int32) (v : Int32) (hnt : nt ≤ 200) (hnl : nl ≤ 20) (hz : z ≤ 30) (hbad : hasF 4 x = false) : Met l yX6_set wsX6_set rm_kX6_set_bad (pcM D ca [.ref om, .int x, .int v] [(om, .inr (6, [.int thr, .ref a1, .ref a2, .ref a3, .int sv, .ref a4, .ref a5, .ref a6, .int ln, .ref a7, .int bm, .int br, .int ck, .int sa, .ref a8, .int lm, .int rs, .int at_, .ref a9, .int tm, .long hs])), (a1, .inl (ca 0, 226, .inl (sF z r f j nt nl gl gt)))] sz) (va_Qi (fun (zr : Int32) (u : Unit) => zr = nI 0 ∧ True) (qB D (va_A [(om, .inr (6, [.int thr, .ref a1, .ref a2, .ref a3, .int sv, .ref a4, .ref a5, .ref a6, .int ln, .ref a7, .int bm, .int br, .int ck, .int sa, .ref a8, .int lm, .int rs, .int at_, .ref a9, .int tm, .long hs])), (a1, .inl (ca 0, 226, .inl (sF z r f j nt nl gl gt)))] sz) (fun u : Unit => [(om, .inr (6, [.int (nI 1), .ref a1, .ref a2, .ref a3, .int sv, .ref a4, .ref a5, .ref a6, .int ln, .ref a7, .int bm, .int br, .int ck, .int sa, .ref a8, .int lm, .int rs, .int at_, .ref a9, .int tm, .long hs])), (a1, .inl (ca 0, 226, .inl (sF z r f j nt nl gl gt)))])) (va_A [(om, .inr (6, [.int thr, .ref a1, .ref a2, .ref a3, .int sv, .ref a4, .ref a5, .ref a6, .int ln, .ref a7, .int bm, .int br, .int ck, .int sa, .ref a8, .int lm, .int rs, .int at_, .ref a9, .int tm, .long hs])), (a1, .inl (ca 0, 226, .inl (sF z r f j nt nl gl gt)))] sz)) 0 0 (va_A [(om, .inr (6, [.int thr, .ref a1, .ref a2, .ref a3, .int sv, .ref a4, .ref a5, .ref a6, .int ln, .ref a7, .int bm, .int br, .int ck, .int sa, .ref a8, .int lm, .int rs, .int at_, .ref a9, .int tm, .long hs])), (a1, .inl (ca 0, 226, .inl (sF z r f j nt nl gl gt)))] sz) := by
  refine Met.ofW (cc := cX6_set) (maxL := 4) (ret := (some .int)) (by decide) rfl ?_
  intro p e s m args below meth c s₁ B hml hv
  obtain ⟨rfl, hsz, hP, hK, hD0⟩ := hv
  have hx := B.exec
  have hb := B.bytes
  have hr := B.returns
  have hts := atoms_spec (ws := wsX6_set) B.pre
  have hown : s.vm.findClass RX6 = some m.cls := findClass_of_methodNamed B.named
  have hlocks := B.notSynchronized
  subst hsz
  have hD := hD0.self (sz := s.heap.size)
  generalize hAe : va_A [(om, .inr (6, [.int thr, .ref a1, .ref a2, .ref a3, .int sv, .ref a4, .ref a5, .ref a6, .int ln, .ref a7, .int bm, .int br, .int ck, .int sa, .ref a8, .int lm, .int rs, .int at_, .ref a9, .int tm, .long hs])), (a1, .inl (ca 0, 226, .inl (sF z r f j nt nl gl gt)))] s.heap.size = A at hD ⊢
  have hA : ∀ q : Nat, s.heap.size ≤ q → A q := fun q h => by rw [← hAe]; exact Or.inr h
  have hS : va_S A s.heap s.heap [] := va_S.rf
  have hP : va_P D vwCl [(om, .inr (6, [.int thr, .ref a1, .ref a2, .ref a3, .int sv, .ref a4, .ref a5, .ref a6, .int ln, .ref a7, .int bm, .int br, .int ck, .int sa, .ref a8, .int lm, .int rs, .int at_, .ref a9, .int tm, .long hs])), (a1, .inl (ca 0, 226, .inl (sF z r f j nt nl gl gt)))] s.heap := hP
  have hKv := hK.1
  have hl := lv_entry ([.ref om, .int x, .int v]) (n := 4) (kk_le rfl)
  rw [lg_entry_eq]
  generalize (lg_sl ([.ref om, .int x, .int v]) ++ List.replicate (4 - (lg_sl ([.ref om, .int x, .int v])).length) Slot.unset).toArray = ls at hl ⊢
  have hl : lv_has ls 4 [(0, .ref om), (1, .int x), (2, .int v)] := hl
  have hiX6 : ∀ w ∈ u_ws RX6 TX6 21, w ∈ wsX6_set := fun w h => by first | exact List.mem_cons_of_mem _ (List.mem_append_right _ h) | exact List.mem_cons_of_mem _ (List.mem_append_left _ (List.mem_append_right _ h)) | exact List.mem_cons_of_mem _ (List.mem_append_left _ (List.mem_append_left _ (List.mem_append_right _ h))) | exact List.mem_cons_of_mem _ (List.mem_append_left _ (List.mem_append_left _ (List.mem_append_left _ (List.mem_append_right _ h)))) | (revert w h; decide +kernel)
  have lk38 : (Cond.fieldLink RX6 38 "StripeSwipesModel" "thrown" "I").before _ s = true := hts _ (by decide +kernel)
  refine lv_aload_n hx hb dX6_set_0 rfl (lv_at hl 0 rfl) ?_
  refine lv_iconst (v := nI 0) hx hb dX6_set_1 (by decide) ?_
  refine va_put (D := D) (ci := 6) (v := .int (nI 0)) (ty := .int) (C := RX6) (T := TX6) (N := 21) hx hb hts hiX6 tyX6 tyX6_ok nmX6 hown hKv hP hD hS 0 rfl rfl 0 (by decide) lk38 (fun _ h9 => h9) rfl (by decide +kernel) rfl rfl (kk_le rfl) dX6_set_2 (fun H locs hP hD hS => ?_)
  have hP : va_P D vwCl [(om, .inr (6, [.int (nI 0), .ref a1, .ref a2, .ref a3, .int sv, .ref a4, .ref a5, .ref a6, .int ln, .ref a7, .int bm, .int br, .int ck, .int sa, .ref a8, .int lm, .int rs, .int at_, .ref a9, .int tm, .long hs])), (a1, .inl (ca 0, 226, .inl (sF z r f j nt nl gl gt)))] H := hP
  have hD : va_D A [(om, .inr (6, [.int (nI 0), .ref a1, .ref a2, .ref a3, .int sv, .ref a4, .ref a5, .ref a6, .int ln, .ref a7, .int bm, .int br, .int ck, .int sa, .ref a8, .int lm, .int rs, .int at_, .ref a9, .int tm, .long hs])), (a1, .inl (ca 0, 226, .inl (sF z r f j nt nl gl gt)))] := hD
  refine lv_iload_n hx hb dX6_set_5 rfl (lv_at hl 1 rfl) ?_
  refine lv_iconst (v := nI 0) hx hb dX6_set_6 (by decide) ?_
  refine lv_iconst (v := nI 3) hx hb dX6_set_7 (by decide) ?_
  refine vp_callSi (va_Run.run (va_runS (As := [.int x, .int (nI 0), .int (nI 3)]) (rest := []) ⟨hx, hb, hml, hown, hts⟩ (kX6_in l x (nI 0) (nI 3)) (va_cwS 3 hts gX6_set_X6_in rfl rfl rfl (by decide +kernel) ⟨kk_le rfl, kk_le rfl⟩) psN rfl rfl hl.1 rfl (lv_room (kk_le rfl)) dX6_set_8 ⟨kk_le rfl, kk_le rfl⟩)) (fun r1 hr1 => ?_)
  subst hr1
  have e2 : (bI (inF x (nI 0) (nI 3)) : Int32) = bI false := congrArg bI ((inp_k (n := 4) rfl (by decide)).trans hbad)
  rw [e2]
  refine bi_if_ne (tgt := 20) hx hb dX6_set_11 (by decide) (fun c3 => ?_) (fun c3 => ?_)
  · first | exact False.elim c3 | exact absurd c3 (by decide) | (exfalso; omega)
  · refine lv_aload_n hx hb dX6_set_14 rfl (lv_at hl 0 rfl) ?_
    refine lv_iconst (v := nI 1) hx hb dX6_set_15 (by decide) ?_
    have hPc := hP.sub (ws' := [(om, .inr (6, [.int (nI 0), .ref a1, .ref a2, .ref a3, .int sv, .ref a4, .ref a5, .ref a6, .int ln, .ref a7, .int bm, .int br, .int ck, .int sa, .ref a8, .int lm, .int rs, .int at_, .ref a9, .int tm, .long hs]))]) [0] rfl
    have hDc := hD.sub (ws' := [(om, .inr (6, [.int (nI 0), .ref a1, .ref a2, .ref a3, .int sv, .ref a4, .ref a5, .ref a6, .int ln, .ref a7, .int bm, .int br, .int ck, .int sa, .ref a8, .int lm, .int rs, .int at_, .ref a9, .int tm, .long hs]))]) [0] (by decide) rfl
    have hFc := va_free (wc := [(om, .inr (6, [.int (nI 0), .ref a1, .ref a2, .ref a3, .int sv, .ref a4, .ref a5, .ref a6, .int ln, .ref a7, .int bm, .int br, .int ck, .int sa, .ref a8, .int lm, .int rs, .int at_, .ref a9, .int tm, .long hs]))]) hD hS hA [0] rfl
    refine va_calli (va_runV (As := [.int (nI 1)]) (rest := []) ⟨hx, hb, hml, hown, hts⟩ (kX6_fails l D ca H.size om a1 a2 a3 a4 a5 a6 a7 a8 a9 (nI 0) sv ln bm br ck sa lm rs at_ tm hs (nI 1)) (cwV 1 hts gX6_set_X6_fails rfl rfl rfl (by decide +kernel) ⟨kk_le rfl, kk_le rfl⟩) (pvM hK hPc (my_D_true hDc) (va_recv hKv hP (ci := 6) (q0 := 0) rfl rfl)) rfl rfl hl.1 rfl (lv_room (kk_le rfl)) dX6_set_16 ⟨kk_le rfl, kk_le rfl⟩) hS (fun q _ h => hFc q h) hFc (fun r4 u t H1 locs ht hvm hwv hBv hz1 hk1 hS => ?_)
    obtain ⟨hP1, hD1⟩ := hBv
    rw [ht] at hP1
    have hP1 : va_P D vwCl [(om, .inr (6, [.int (nI 1), .ref a1, .ref a2, .ref a3, .int sv, .ref a4, .ref a5, .ref a6, .int ln, .ref a7, .int bm, .int br, .int ck, .int sa, .ref a8, .int lm, .int rs, .int at_, .ref a9, .int tm, .long hs]))] H1 := hP1
    have hD1 : va_D _ [(om, .inr (6, [.int (nI 1), .ref a1, .ref a2, .ref a3, .int sv, .ref a4, .ref a5, .ref a6, .int ln, .ref a7, .int bm, .int br, .int ck, .int sa, .ref a8, .int lm, .int rs, .int at_, .ref a9, .int tm, .long hs]))] := hD1
    obtain ⟨hr4, hw4⟩ := hwv
    subst hr4
    obtain ⟨hP, hD⟩ := va_join (wr := [(a1, .inl (ca 0, 226, .inl (sF z r f j nt nl gl gt)))]) (w1 := [(om, .inr (6, [.int (nI 1), .ref a1, .ref a2, .ref a3, .int sv, .ref a4, .ref a5, .ref a6, .int ln, .ref a7, .int bm, .int br, .int ck, .int sa, .ref a8, .int lm, .int rs, .int at_, .ref a9, .int tm, .long hs]))]) hP hD [0] [1] rfl rfl (by decide) (by decide) hk1 hFc hP1 hD1
    generalize H1 = H at hP hS ⊢
    have hP := hP.sub (ws' := [(om, .inr (6, [.int (nI 1), .ref a1, .ref a2, .ref a3, .int sv, .ref a4, .ref a5, .ref a6, .int ln, .ref a7, .int bm, .int br, .int ck, .int sa, .ref a8, .int lm, .int rs, .int at_, .ref a9, .int tm, .long hs])), (a1, .inl (ca 0, 226, .inl (sF z r f j nt nl gl gt)))]) [1, 0] rfl
    have hD := hD.sub (ws' := [(om, .inr (6, [.int (nI 1), .ref a1, .ref a2, .ref a3, .int sv, .ref a4, .ref a5, .ref a6, .int ln, .ref a7, .int bm, .int br, .int ck, .int sa, .ref a8, .int lm, .int rs, .int at_, .ref a9, .int tm, .long hs])), (a1, .inl (ca 0, 226, .inl (sF z r f j nt nl gl gt)))]) [1, 0] (by decide) rfl
    exact W.iret (v := nI 0) hx hb hr (fun t ht hW => ⟨⟨_, (), rfl, ⟨by rfl, by trivial⟩, by rw [ht]; exact hP, hD⟩, hS.F ht⟩) hS.2.2 dX6_set_19
abbrev rm_kX6_set_bad2 : Room := { frames := 2, cells := 0, slots := 0, locals := 43 }
set_option maxHeartbeats 4000000 in
set_option maxRecDepth 100000 in
theorem kX6_set_bad2 (l : Launch) (D : va_G) (ca : Nat → ClassId) (sz : Nat) (om a1 a2 a3 a4 a5 a6 a7 a8 a9 : Nat) (thr sv ln bm br ck sa lm rs at_ tm : Int32) (hs : Int64) (z : Nat) (r f j : Int32) (nt nl : Nat) (gl gt : Nat → Int32) (q : Nat) (v : Int32) (hnt : nt ≤ 200) (hnl : nl ≤ 20) (hz : z ≤ 30) (hq : q < 4) (hbad : okSet q v = false) : Met l yX6_set wsX6_set rm_kX6_set_bad2 (pcM D ca [.ref om, .int (nI q), .int v] [(om, .inr (6, [.int thr, .ref a1, .ref a2, .ref a3, .int sv, .ref a4, .ref a5, .ref a6, .int ln, .ref a7, .int bm, .int br, .int ck, .int sa, .ref a8, .int lm, .int rs, .int at_, .ref a9, .int tm, .long hs])), (a1, .inl (ca 0, 226, .inl (sF z r f j nt nl gl gt)))] sz) (va_Qi (fun (zr : Int32) (u : Unit) => zr = nI 0 ∧ True) (qB D (va_A [(om, .inr (6, [.int thr, .ref a1, .ref a2, .ref a3, .int sv, .ref a4, .ref a5, .ref a6, .int ln, .ref a7, .int bm, .int br, .int ck, .int sa, .ref a8, .int lm, .int rs, .int at_, .ref a9, .int tm, .long hs])), (a1, .inl (ca 0, 226, .inl (sF z r f j nt nl gl gt)))] sz) (fun u : Unit => [(om, .inr (6, [.int (nI 2), .ref a1, .ref a2, .ref a3, .int sv, .ref a4, .ref a5, .ref a6, .int ln, .ref a7, .int bm, .int br, .int ck, .int sa, .ref a8, .int lm, .int rs, .int at_, .ref a9, .int tm, .long hs])), (a1, .inl (ca 0, 226, .inl (sF z r f j nt nl gl gt)))])) (va_A [(om, .inr (6, [.int thr, .ref a1, .ref a2, .ref a3, .int sv, .ref a4, .ref a5, .ref a6, .int ln, .ref a7, .int bm, .int br, .int ck, .int sa, .ref a8, .int lm, .int rs, .int at_, .ref a9, .int tm, .long hs])), (a1, .inl (ca 0, 226, .inl (sF z r f j nt nl gl gt)))] sz)) 0 0 (va_A [(om, .inr (6, [.int thr, .ref a1, .ref a2, .ref a3, .int sv, .ref a4, .ref a5, .ref a6, .int ln, .ref a7, .int bm, .int br, .int ck, .int sa, .ref a8, .int lm, .int rs, .int at_, .ref a9, .int tm, .long hs])), (a1, .inl (ca 0, 226, .inl (sF z r f j nt nl gl gt)))] sz) := by
  refine Met.ofW (cc := cX6_set) (maxL := 4) (ret := (some .int)) (by decide) rfl ?_
  intro p e s m args below meth c s₁ B hml hv
  obtain ⟨rfl, hsz, hP, hK, hD0⟩ := hv
  have hx := B.exec
  have hb := B.bytes
  have hr := B.returns
  have hts := atoms_spec (ws := wsX6_set) B.pre
  have hown : s.vm.findClass RX6 = some m.cls := findClass_of_methodNamed B.named
  have hlocks := B.notSynchronized
  subst hsz
  have hD := hD0.self (sz := s.heap.size)
  generalize hAe : va_A [(om, .inr (6, [.int thr, .ref a1, .ref a2, .ref a3, .int sv, .ref a4, .ref a5, .ref a6, .int ln, .ref a7, .int bm, .int br, .int ck, .int sa, .ref a8, .int lm, .int rs, .int at_, .ref a9, .int tm, .long hs])), (a1, .inl (ca 0, 226, .inl (sF z r f j nt nl gl gt)))] s.heap.size = A at hD ⊢
  have hA : ∀ q : Nat, s.heap.size ≤ q → A q := fun q h => by rw [← hAe]; exact Or.inr h
  have hS : va_S A s.heap s.heap [] := va_S.rf
  have hP : va_P D vwCl [(om, .inr (6, [.int thr, .ref a1, .ref a2, .ref a3, .int sv, .ref a4, .ref a5, .ref a6, .int ln, .ref a7, .int bm, .int br, .int ck, .int sa, .ref a8, .int lm, .int rs, .int at_, .ref a9, .int tm, .long hs])), (a1, .inl (ca 0, 226, .inl (sF z r f j nt nl gl gt)))] s.heap := hP
  have hKv := hK.1
  have hl := lv_entry ([.ref om, .int (nI q), .int v]) (n := 4) (kk_le rfl)
  rw [lg_entry_eq]
  generalize (lg_sl ([.ref om, .int (nI q), .int v]) ++ List.replicate (4 - (lg_sl ([.ref om, .int (nI q), .int v])).length) Slot.unset).toArray = ls at hl ⊢
  have hl : lv_has ls 4 [(0, .ref om), (1, .int (nI q)), (2, .int v)] := hl
  have hiX6 : ∀ w ∈ u_ws RX6 TX6 21, w ∈ wsX6_set := fun w h => by first | exact List.mem_cons_of_mem _ (List.mem_append_right _ h) | exact List.mem_cons_of_mem _ (List.mem_append_left _ (List.mem_append_right _ h)) | exact List.mem_cons_of_mem _ (List.mem_append_left _ (List.mem_append_left _ (List.mem_append_right _ h))) | exact List.mem_cons_of_mem _ (List.mem_append_left _ (List.mem_append_left _ (List.mem_append_left _ (List.mem_append_right _ h)))) | (revert w h; decide +kernel)
  have lk38 : (Cond.fieldLink RX6 38 "StripeSwipesModel" "thrown" "I").before _ s = true := hts _ (by decide +kernel)
  refine lv_aload_n hx hb dX6_set_0 rfl (lv_at hl 0 rfl) ?_
  refine lv_iconst (v := nI 0) hx hb dX6_set_1 (by decide) ?_
  refine va_put (D := D) (ci := 6) (v := .int (nI 0)) (ty := .int) (C := RX6) (T := TX6) (N := 21) hx hb hts hiX6 tyX6 tyX6_ok nmX6 hown hKv hP hD hS 0 rfl rfl 0 (by decide) lk38 (fun _ h9 => h9) rfl (by decide +kernel) rfl rfl (kk_le rfl) dX6_set_2 (fun H locs hP hD hS => ?_)
  have hP : va_P D vwCl [(om, .inr (6, [.int (nI 0), .ref a1, .ref a2, .ref a3, .int sv, .ref a4, .ref a5, .ref a6, .int ln, .ref a7, .int bm, .int br, .int ck, .int sa, .ref a8, .int lm, .int rs, .int at_, .ref a9, .int tm, .long hs])), (a1, .inl (ca 0, 226, .inl (sF z r f j nt nl gl gt)))] H := hP
  have hD : va_D A [(om, .inr (6, [.int (nI 0), .ref a1, .ref a2, .ref a3, .int sv, .ref a4, .ref a5, .ref a6, .int ln, .ref a7, .int bm, .int br, .int ck, .int sa, .ref a8, .int lm, .int rs, .int at_, .ref a9, .int tm, .long hs])), (a1, .inl (ca 0, 226, .inl (sF z r f j nt nl gl gt)))] := hD
  refine lv_iload_n hx hb dX6_set_5 rfl (lv_at hl 1 rfl) ?_
  refine lv_iconst (v := nI 0) hx hb dX6_set_6 (by decide) ?_
  refine lv_iconst (v := nI 3) hx hb dX6_set_7 (by decide) ?_
  refine vp_callSi (va_Run.run (va_runS (As := [.int (nI q), .int (nI 0), .int (nI 3)]) (rest := []) ⟨hx, hb, hml, hown, hts⟩ (kX6_in l (nI q) (nI 0) (nI 3)) (va_cwS 3 hts gX6_set_X6_in rfl rfl rfl (by decide +kernel) ⟨kk_le rfl, kk_le rfl⟩) psN rfl rfl hl.1 rfl (lv_room (kk_le rfl)) dX6_set_8 ⟨kk_le rfl, kk_le rfl⟩)) (fun r1 hr1 => ?_)
  subst hr1
  have e2 : (bI (inF (nI q) (nI 0) (nI 3)) : Int32) = bI true := congrArg bI ((inp_k (n := 4) rfl (by decide)).trans ((hasF_n (by omega) (by omega)).trans (decide_eq_true (by omega))))
  rw [e2]
  refine bi_if_ne (tgt := 20) hx hb dX6_set_11 (by decide) (fun c3 => ?_) (fun c3 => ?_)
  · refine lv_iload_n hx hb dX6_set_20 rfl (lv_at hl 1 rfl) ?_
    refine lv_iload_n hx hb dX6_set_21 rfl (lv_at hl 2 rfl) ?_
    refine vp_callSi (va_Run.run (va_runS (As := [.int (nI q), .int v]) (rest := []) ⟨hx, hb, hml, hown, hts⟩ (kX6_isSetting l q v (by first | rfl | assumption | omega | trivial | (exfalso; omega))) (va_cwS 2 hts gX6_set_X6_isSetting rfl rfl rfl (by decide +kernel) ⟨kk_le rfl, kk_le rfl⟩) psN rfl rfl hl.1 rfl (lv_room (kk_le rfl)) dX6_set_22 ⟨kk_le rfl, kk_le rfl⟩)) (fun r4 hr4 => ?_)
    subst hr4
    have e5 : (bI (okSet q v) : Int32) = bI false := congrArg bI (hbad)
    rw [e5]
    refine bi_if_ne (tgt := 34) hx hb dX6_set_25 (by decide) (fun c6 => ?_) (fun c6 => ?_)
    · first | exact False.elim c6 | exact absurd c6 (by decide) | (exfalso; omega)
    · refine lv_aload_n hx hb dX6_set_28 rfl (lv_at hl 0 rfl) ?_
      refine lv_iconst (v := nI 2) hx hb dX6_set_29 (by decide) ?_
      have hPc := hP.sub (ws' := [(om, .inr (6, [.int (nI 0), .ref a1, .ref a2, .ref a3, .int sv, .ref a4, .ref a5, .ref a6, .int ln, .ref a7, .int bm, .int br, .int ck, .int sa, .ref a8, .int lm, .int rs, .int at_, .ref a9, .int tm, .long hs]))]) [0] rfl
      have hDc := hD.sub (ws' := [(om, .inr (6, [.int (nI 0), .ref a1, .ref a2, .ref a3, .int sv, .ref a4, .ref a5, .ref a6, .int ln, .ref a7, .int bm, .int br, .int ck, .int sa, .ref a8, .int lm, .int rs, .int at_, .ref a9, .int tm, .long hs]))]) [0] (by decide) rfl
      have hFc := va_free (wc := [(om, .inr (6, [.int (nI 0), .ref a1, .ref a2, .ref a3, .int sv, .ref a4, .ref a5, .ref a6, .int ln, .ref a7, .int bm, .int br, .int ck, .int sa, .ref a8, .int lm, .int rs, .int at_, .ref a9, .int tm, .long hs]))]) hD hS hA [0] rfl
      refine va_calli (va_runV (As := [.int (nI 2)]) (rest := []) ⟨hx, hb, hml, hown, hts⟩ (kX6_fails l D ca H.size om a1 a2 a3 a4 a5 a6 a7 a8 a9 (nI 0) sv ln bm br ck sa lm rs at_ tm hs (nI 2)) (cwV 1 hts gX6_set_X6_fails rfl rfl rfl (by decide +kernel) ⟨kk_le rfl, kk_le rfl⟩) (pvM hK hPc (my_D_true hDc) (va_recv hKv hP (ci := 6) (q0 := 0) rfl rfl)) rfl rfl hl.1 rfl (lv_room (kk_le rfl)) dX6_set_30 ⟨kk_le rfl, kk_le rfl⟩) hS (fun q _ h => hFc q h) hFc (fun r7 u t H1 locs ht hvm hwv hBv hz1 hk1 hS => ?_)
      obtain ⟨hP1, hD1⟩ := hBv
      rw [ht] at hP1
      have hP1 : va_P D vwCl [(om, .inr (6, [.int (nI 2), .ref a1, .ref a2, .ref a3, .int sv, .ref a4, .ref a5, .ref a6, .int ln, .ref a7, .int bm, .int br, .int ck, .int sa, .ref a8, .int lm, .int rs, .int at_, .ref a9, .int tm, .long hs]))] H1 := hP1
      have hD1 : va_D _ [(om, .inr (6, [.int (nI 2), .ref a1, .ref a2, .ref a3, .int sv, .ref a4, .ref a5, .ref a6, .int ln, .ref a7, .int bm, .int br, .int ck, .int sa, .ref a8, .int lm, .int rs, .int at_, .ref a9, .int tm, .long hs]))] := hD1
      obtain ⟨hr7, hw7⟩ := hwv
      subst hr7
      obtain ⟨hP, hD⟩ := va_join (wr := [(a1, .inl (ca 0, 226, .inl (sF z r f j nt nl gl gt)))]) (w1 := [(om, .inr (6, [.int (nI 2), .ref a1, .ref a2, .ref a3, .int sv, .ref a4, .ref a5, .ref a6, .int ln, .ref a7, .int bm, .int br, .int ck, .int sa, .ref a8, .int lm, .int rs, .int at_, .ref a9, .int tm, .long hs]))]) hP hD [0] [1] rfl rfl (by decide) (by decide) hk1 hFc hP1 hD1
      generalize H1 = H at hP hS ⊢
      have hP := hP.sub (ws' := [(om, .inr (6, [.int (nI 2), .ref a1, .ref a2, .ref a3, .int sv, .ref a4, .ref a5, .ref a6, .int ln, .ref a7, .int bm, .int br, .int ck, .int sa, .ref a8, .int lm, .int rs, .int at_, .ref a9, .int tm, .long hs])), (a1, .inl (ca 0, 226, .inl (sF z r f j nt nl gl gt)))]) [1, 0] rfl
      have hD := hD.sub (ws' := [(om, .inr (6, [.int (nI 2), .ref a1, .ref a2, .ref a3, .int sv, .ref a4, .ref a5, .ref a6, .int ln, .ref a7, .int bm, .int br, .int ck, .int sa, .ref a8, .int lm, .int rs, .int at_, .ref a9, .int tm, .long hs])), (a1, .inl (ca 0, 226, .inl (sF z r f j nt nl gl gt)))]) [1, 0] (by decide) rfl
      exact W.iret (v := nI 0) hx hb hr (fun t ht hW => ⟨⟨_, (), rfl, ⟨by rfl, by trivial⟩, by rw [ht]; exact hP, hD⟩, hS.F ht⟩) hS.2.2 dX6_set_33
  · first | exact False.elim c3 | exact absurd c3 (by decide) | (exfalso; omega)
abbrev rm_kX6_keep_ok : Room := { frames := 1, cells := 0, slots := 0, locals := 22 }
set_option maxHeartbeats 4000000 in
set_option maxRecDepth 100000 in
theorem kX6_keep_ok (l : Launch) (D : va_G) (ca : Nat → ClassId) (sz : Nat) (om a1 a2 a3 a4 a5 a6 a7 a8 a9 : Nat) (thr sv ln bm br ck sa lm rs at_ tm : Int32) (hs : Int64) (z : Nat) (r f j : Int32) (nt nl : Nat) (gl gt : Nat → Int32) (fl fh : Nat → Int32) (q : Nat) (hnt : nt ≤ 200) (hnl : nl ≤ 20) (hz : z ≤ 30) (hq : q < 2) : Met l yX6_keep wsX6_keep rm_kX6_keep_ok (pcM D ca [.ref om, .int (nI q)] [(om, .inr (6, [.int thr, .ref a1, .ref a2, .ref a3, .int sv, .ref a4, .ref a5, .ref a6, .int ln, .ref a7, .int bm, .int br, .int ck, .int sa, .ref a8, .int lm, .int rs, .int at_, .ref a9, .int tm, .long hs])), (a1, .inl (ca 0, 226, .inl (sF z r f j nt nl gl gt))), (a4, .inl (ca 0, 452, .inl fl)), (a5, .inl (ca 1, 2, .inl fh))] sz) (va_Qi (fun (zr : Int32) (u : Unit) => zr = nI nt ∧ True) (qB D (va_A [(om, .inr (6, [.int thr, .ref a1, .ref a2, .ref a3, .int sv, .ref a4, .ref a5, .ref a6, .int ln, .ref a7, .int bm, .int br, .int ck, .int sa, .ref a8, .int lm, .int rs, .int at_, .ref a9, .int tm, .long hs])), (a1, .inl (ca 0, 226, .inl (sF z r f j nt nl gl gt))), (a4, .inl (ca 0, 452, .inl fl)), (a5, .inl (ca 1, 2, .inl fh))] sz) (fun u : Unit => [(om, .inr (6, [.int (nI 0), .ref a1, .ref a2, .ref a3, .int sv, .ref a4, .ref a5, .ref a6, .int ln, .ref a7, .int bm, .int br, .int ck, .int sa, .ref a8, .int lm, .int rs, .int at_, .ref a9, .int tm, .long hs])), (a1, .inl (ca 0, 226, .inl (sF z r f j nt nl gl gt))), (a4, .inl (ca 0, 452, .inl (plF fl (sF z r f j nt nl gl gt) (226 * q) 226))), (a5, .inl (ca 1, 2, .inl (upd fh q (nI 1))))])) (va_A [(om, .inr (6, [.int thr, .ref a1, .ref a2, .ref a3, .int sv, .ref a4, .ref a5, .ref a6, .int ln, .ref a7, .int bm, .int br, .int ck, .int sa, .ref a8, .int lm, .int rs, .int at_, .ref a9, .int tm, .long hs])), (a1, .inl (ca 0, 226, .inl (sF z r f j nt nl gl gt))), (a4, .inl (ca 0, 452, .inl fl)), (a5, .inl (ca 1, 2, .inl fh))] sz)) 0 0 (va_A [(om, .inr (6, [.int thr, .ref a1, .ref a2, .ref a3, .int sv, .ref a4, .ref a5, .ref a6, .int ln, .ref a7, .int bm, .int br, .int ck, .int sa, .ref a8, .int lm, .int rs, .int at_, .ref a9, .int tm, .long hs])), (a1, .inl (ca 0, 226, .inl (sF z r f j nt nl gl gt))), (a4, .inl (ca 0, 452, .inl fl)), (a5, .inl (ca 1, 2, .inl fh))] sz) := by
  refine Met.ofW (cc := cX6_keep) (maxL := 3) (ret := (some .int)) (by decide) rfl ?_
  intro p e s m args below meth c s₁ B hml hv
  obtain ⟨rfl, hsz, hP, hK, hD0⟩ := hv
  have hx := B.exec
  have hb := B.bytes
  have hr := B.returns
  have hts := atoms_spec (ws := wsX6_keep) B.pre
  have hown : s.vm.findClass RX6 = some m.cls := findClass_of_methodNamed B.named
  have hlocks := B.notSynchronized
  subst hsz
  have hD := hD0.self (sz := s.heap.size)
  generalize hAe : va_A [(om, .inr (6, [.int thr, .ref a1, .ref a2, .ref a3, .int sv, .ref a4, .ref a5, .ref a6, .int ln, .ref a7, .int bm, .int br, .int ck, .int sa, .ref a8, .int lm, .int rs, .int at_, .ref a9, .int tm, .long hs])), (a1, .inl (ca 0, 226, .inl (sF z r f j nt nl gl gt))), (a4, .inl (ca 0, 452, .inl fl)), (a5, .inl (ca 1, 2, .inl fh))] s.heap.size = A at hD ⊢
  have hA : ∀ q : Nat, s.heap.size ≤ q → A q := fun q h => by rw [← hAe]; exact Or.inr h
  have hS : va_S A s.heap s.heap [] := va_S.rf
  have hP : va_P D vwCl [(om, .inr (6, [.int thr, .ref a1, .ref a2, .ref a3, .int sv, .ref a4, .ref a5, .ref a6, .int ln, .ref a7, .int bm, .int br, .int ck, .int sa, .ref a8, .int lm, .int rs, .int at_, .ref a9, .int tm, .long hs])), (a1, .inl (ca 0, 226, .inl (sF z r f j nt nl gl gt))), (a4, .inl (ca 0, 452, .inl fl)), (a5, .inl (ca 1, 2, .inl fh))] s.heap := hP
  have hKv := hK.1
  have hl := lv_entry ([.ref om, .int (nI q)]) (n := 3) (kk_le rfl)
  rw [lg_entry_eq]
  generalize (lg_sl ([.ref om, .int (nI q)]) ++ List.replicate (3 - (lg_sl ([.ref om, .int (nI q)])).length) Slot.unset).toArray = ls at hl ⊢
  have hl : lv_has ls 3 [(0, .ref om), (1, .int (nI q))] := hl
  generalize hQz : MQ below _ _ _ _ _ _ = Qz
  have hiX6 : ∀ w ∈ u_ws RX6 TX6 21, w ∈ wsX6_keep := fun w h => by first | exact List.mem_cons_of_mem _ (List.mem_append_right _ h) | exact List.mem_cons_of_mem _ (List.mem_append_left _ (List.mem_append_right _ h)) | exact List.mem_cons_of_mem _ (List.mem_append_left _ (List.mem_append_left _ (List.mem_append_right _ h))) | exact List.mem_cons_of_mem _ (List.mem_append_left _ (List.mem_append_left _ (List.mem_append_left _ (List.mem_append_right _ h)))) | (revert w h; decide +kernel)
  have lk38 : (Cond.fieldLink RX6 38 "StripeSwipesModel" "thrown" "I").before _ s = true := hts _ (by decide +kernel)
  have lk22 : (Cond.fieldLink RX6 22 "StripeSwipesModel" "hasSlot" "[Z").before _ s = true := hts _ (by decide +kernel)
  have lk7 : (Cond.fieldLink RX6 7 "StripeSwipesModel" "s" "[I").before _ s = true := hts _ (by decide +kernel)
  have lk19 : (Cond.fieldLink RX6 19 "StripeSwipesModel" "slots" "[I").before _ s = true := hts _ (by decide +kernel)
  refine lv_aload_n hx hb dX6_keep_0 rfl (lv_at hl 0 rfl) ?_
  refine lv_iconst (v := nI 0) hx hb dX6_keep_1 (by decide) ?_
  refine va_put (D := D) (ci := 6) (v := .int (nI 0)) (ty := .int) (C := RX6) (T := TX6) (N := 21) hx hb hts hiX6 tyX6 tyX6_ok nmX6 hown hKv hP hD hS 0 rfl rfl 0 (by decide) lk38 (fun _ h9 => h9) rfl (by decide +kernel) rfl rfl (kk_le rfl) dX6_keep_2 (fun H locs hP hD hS => ?_)
  have hP : va_P D vwCl [(om, .inr (6, [.int (nI 0), .ref a1, .ref a2, .ref a3, .int sv, .ref a4, .ref a5, .ref a6, .int ln, .ref a7, .int bm, .int br, .int ck, .int sa, .ref a8, .int lm, .int rs, .int at_, .ref a9, .int tm, .long hs])), (a1, .inl (ca 0, 226, .inl (sF z r f j nt nl gl gt))), (a4, .inl (ca 0, 452, .inl fl)), (a5, .inl (ca 1, 2, .inl fh))] H := hP
  have hD : va_D A [(om, .inr (6, [.int (nI 0), .ref a1, .ref a2, .ref a3, .int sv, .ref a4, .ref a5, .ref a6, .int ln, .ref a7, .int bm, .int br, .int ck, .int sa, .ref a8, .int lm, .int rs, .int at_, .ref a9, .int tm, .long hs])), (a1, .inl (ca 0, 226, .inl (sF z r f j nt nl gl gt))), (a4, .inl (ca 0, 452, .inl fl)), (a5, .inl (ca 1, 2, .inl fh))] := hD
  refine lv_iload_n hx hb dX6_keep_5 rfl (lv_at hl 1 rfl) ?_
  refine lv_iconst (v := nI 0) hx hb dX6_keep_6 (by decide) ?_
  refine lv_iconst (v := nI 1) hx hb dX6_keep_7 (by decide) ?_
  refine vp_callSi (va_Run.run (va_runS (As := [.int (nI q), .int (nI 0), .int (nI 1)]) (rest := []) ⟨hx, hb, hml, hown, hts⟩ (kX6_in l (nI q) (nI 0) (nI 1)) (va_cwS 3 hts gX6_keep_X6_in rfl rfl rfl (by decide +kernel) ⟨kk_le rfl, kk_le rfl⟩) psN rfl rfl hl.1 rfl (lv_room (kk_le rfl)) dX6_keep_8 ⟨kk_le rfl, kk_le rfl⟩)) (fun r1 hr1 => ?_)
  subst hr1
  have e2 : (bI (inF (nI q) (nI 0) (nI 1)) : Int32) = bI true := congrArg bI ((inp_k (n := 2) rfl (by decide)).trans ((hasF_n (by omega) (by omega)).trans (decide_eq_true (by omega))))
  rw [e2]
  refine bi_if_ne (tgt := 20) hx hb dX6_keep_11 (by decide) (fun c3 => ?_) (fun c3 => ?_)
  · refine lv_iconst (v := nI 0) hx hb dX6_keep_20 (by decide) ?_
    refine lv_istore_n (lv' := [(2, .int (nI 0)), (0, .ref om), (1, .int (nI q))]) hx hb dX6_keep_21 rfl hl (by decide) rfl (fun ls hl => ?_)
    have lp22_3 : ∀ (k1 : Nat) (i : Nat), 226 - i < k1 → (i ≤ 226) → ∀ (H : Heap) (locs : List Loc), va_P D vwCl [(om, .inr (6, [.int (nI 0), .ref a1, .ref a2, .ref a3, .int sv, .ref a4, .ref a5, .ref a6, .int ln, .ref a7, .int bm, .int br, .int ck, .int sa, .ref a8, .int lm, .int rs, .int at_, .ref a9, .int tm, .long hs])), (a1, .inl (ca 0, 226, .inl (sF z r f j nt nl gl gt))), (a4, .inl (ca 0, 452, .inl (plF fl (sF z r f j nt nl gl gt) (226 * q) i))), (a5, .inl (ca 1, 2, .inl fh))] H → va_D A [(om, .inr (6, [.int (nI 0), .ref a1, .ref a2, .ref a3, .int sv, .ref a4, .ref a5, .ref a6, .int ln, .ref a7, .int bm, .int br, .int ck, .int sa, .ref a8, .int lm, .int rs, .int at_, .ref a9, .int tm, .long hs])), (a1, .inl (ca 0, 226, .inl (sF z r f j nt nl gl gt))), (a4, .inl (ca 0, 452, .inl (plF fl (sF z r f j nt nl gl gt) (226 * q) i))), (a5, .inl (ca 1, 2, .inl fh))] → va_S A s.heap H locs → ∀ (ls : Array Slot), lv_has ls 3 [(2, .int (nI i)), (1, .int (nI q)), (0, .ref om)] → W p l e rm_kX6_keep_ok s m ([.ref om, .int (nI q)] : List Value).toArray below meth c H locs 0 0 Qz (F0 m 22 ls []) := by
      intro k1
      induction k1 with
      | zero => intro i hm1; exact absurd hm1 (Nat.not_lt_zero _)
      | succ k1 ih1 =>
        intro i hm1 hi H locs hP hD hS ls hl
        refine lv_iload_n hx hb dX6_keep_22 rfl (lv_at hl 0 rfl) ?_
        refine lv_sipush (v := nI 226) hx hb dX6_keep_23 (by decide) ?_
        refine ni_icmp_ge (tgt := 53) (by omega) (by omega) hx hb dX6_keep_26 (by decide) (fun c5 => ?_) (fun c5 => ?_)
        · refine lv_aload_n hx hb dX6_keep_53 rfl (lv_at hl 2 rfl) ?_
          refine va_get (D := D) (ci := 6) (C := RX6) (T := TX6) (N := 21) hx hb hts hiX6 hown hKv hP 0 rfl rfl 6 (by decide) lk22 (fun _ h9 => h9) rfl dX6_keep_54 ?_
          refine lv_iload_n hx hb dX6_keep_57 rfl (lv_at hl 1 rfl) ?_
          refine lv_iconst (v := nI 1) hx hb dX6_keep_58 (by decide) ?_
          refine my_zast hx hb hK hP hD hS 3 rfl (by omega) (by omega) (by first | rfl | exact bI_nar _ | exact bI_fit _ | (first | exact Or.inl rfl | exact Or.inr rfl)) dX6_keep_59 (fun H locs hP hD hS => ?_)
          have hP : va_P D vwCl [(om, .inr (6, [.int (nI 0), .ref a1, .ref a2, .ref a3, .int sv, .ref a4, .ref a5, .ref a6, .int ln, .ref a7, .int bm, .int br, .int ck, .int sa, .ref a8, .int lm, .int rs, .int at_, .ref a9, .int tm, .long hs])), (a1, .inl (ca 0, 226, .inl (sF z r f j nt nl gl gt))), (a4, .inl (ca 0, 452, .inl (plF fl (sF z r f j nt nl gl gt) (226 * q) i))), (a5, .inl (ca 1, 2, .inl (upd fh q (nI 1))))] H := hP
          have hD : va_D A [(om, .inr (6, [.int (nI 0), .ref a1, .ref a2, .ref a3, .int sv, .ref a4, .ref a5, .ref a6, .int ln, .ref a7, .int bm, .int br, .int ck, .int sa, .ref a8, .int lm, .int rs, .int at_, .ref a9, .int tm, .long hs])), (a1, .inl (ca 0, 226, .inl (sF z r f j nt nl gl gt))), (a4, .inl (ca 0, 452, .inl (plF fl (sF z r f j nt nl gl gt) (226 * q) i))), (a5, .inl (ca 1, 2, .inl (upd fh q (nI 1))))] := hD
          refine lv_aload_n hx hb dX6_keep_60 rfl (lv_at hl 2 rfl) ?_
          refine va_get (D := D) (ci := 6) (C := RX6) (T := TX6) (N := 21) hx hb hts hiX6 hown hKv hP 0 rfl rfl 1 (by decide) lk7 (fun _ h9 => h9) rfl dX6_keep_61 ?_
          refine lv_iconst (v := nI 4) hx hb dX6_keep_64 (by decide) ?_
          refine my_iald hx hb hK hP 1 rfl (by omega) (by omega) dX6_keep_65 ?_
          rw [show sF z r f j nt nl gl gt 4 = nI nt from rfl]
          subst hQz
          have e6 : (plF fl (sF z r f j nt nl gl gt) (226 * q) i : Nat → Int32) = plF fl (sF z r f j nt nl gl gt) (226 * q) 226 := by (have hz9 : i = 226 := (by omega); rw [hz9])
          have hP : va_P D vwCl [(om, .inr (6, [.int (nI 0), .ref a1, .ref a2, .ref a3, .int sv, .ref a4, .ref a5, .ref a6, .int ln, .ref a7, .int bm, .int br, .int ck, .int sa, .ref a8, .int lm, .int rs, .int at_, .ref a9, .int tm, .long hs])), (a1, .inl (ca 0, 226, .inl (sF z r f j nt nl gl gt))), (a4, .inl (ca 0, 452, .inl (plF fl (sF z r f j nt nl gl gt) (226 * q) 226))), (a5, .inl (ca 1, 2, .inl (upd fh q (nI 1))))] H := Eq.mp (congrArg (fun z9 : Nat → Int32 => va_P D vwCl [(om, .inr (6, [.int (nI 0), .ref a1, .ref a2, .ref a3, .int sv, .ref a4, .ref a5, .ref a6, .int ln, .ref a7, .int bm, .int br, .int ck, .int sa, .ref a8, .int lm, .int rs, .int at_, .ref a9, .int tm, .long hs])), (a1, .inl (ca 0, 226, .inl (sF z r f j nt nl gl gt))), (a4, .inl (ca 0, 452, .inl z9)), (a5, .inl (ca 1, 2, .inl (upd fh q (nI 1))))] H) e6) hP
          have hD : va_D A [(om, .inr (6, [.int (nI 0), .ref a1, .ref a2, .ref a3, .int sv, .ref a4, .ref a5, .ref a6, .int ln, .ref a7, .int bm, .int br, .int ck, .int sa, .ref a8, .int lm, .int rs, .int at_, .ref a9, .int tm, .long hs])), (a1, .inl (ca 0, 226, .inl (sF z r f j nt nl gl gt))), (a4, .inl (ca 0, 452, .inl (plF fl (sF z r f j nt nl gl gt) (226 * q) 226))), (a5, .inl (ca 1, 2, .inl (upd fh q (nI 1))))] := Eq.mp (congrArg (fun z9 : Nat → Int32 => va_D A [(om, .inr (6, [.int (nI 0), .ref a1, .ref a2, .ref a3, .int sv, .ref a4, .ref a5, .ref a6, .int ln, .ref a7, .int bm, .int br, .int ck, .int sa, .ref a8, .int lm, .int rs, .int at_, .ref a9, .int tm, .long hs])), (a1, .inl (ca 0, 226, .inl (sF z r f j nt nl gl gt))), (a4, .inl (ca 0, 452, .inl z9)), (a5, .inl (ca 1, 2, .inl (upd fh q (nI 1))))]) e6) hD
          exact W.iret (v := nI nt) hx hb hr (fun t ht hW => ⟨⟨_, (), rfl, ⟨by rfl, by trivial⟩, by rw [ht]; exact hP, hD⟩, hS.F ht⟩) hS.2.2 dX6_keep_66
        · refine lv_aload_n hx hb dX6_keep_29 rfl (lv_at hl 2 rfl) ?_
          refine va_get (D := D) (ci := 6) (C := RX6) (T := TX6) (N := 21) hx hb hts hiX6 hown hKv hP 0 rfl rfl 5 (by decide) lk19 (fun _ h9 => h9) rfl dX6_keep_30 ?_
          refine lv_sipush (v := nI 226) hx hb dX6_keep_33 (by decide) ?_
          refine lv_iload_n hx hb dX6_keep_36 rfl (lv_at hl 1 rfl) ?_
          refine ni_imul hx hb dX6_keep_37 ?_
          refine lv_iload_n hx hb dX6_keep_38 rfl (lv_at hl 0 rfl) ?_
          refine ni_iadd hx hb dX6_keep_39 ?_
          refine lv_aload_n hx hb dX6_keep_40 rfl (lv_at hl 2 rfl) ?_
          refine va_get (D := D) (ci := 6) (C := RX6) (T := TX6) (N := 21) hx hb hts hiX6 hown hKv hP 0 rfl rfl 1 (by decide) lk7 (fun _ h9 => h9) rfl dX6_keep_41 ?_
          refine lv_iload_n hx hb dX6_keep_44 rfl (lv_at hl 0 rfl) ?_
          refine my_iald hx hb hK hP 1 rfl (by omega) (by omega) dX6_keep_45 ?_
          refine my_iast hx hb hK hP hD hS 2 rfl (by omega) (by omega) dX6_keep_46 (fun H locs hP hD hS => ?_)
          have hP : va_P D vwCl [(om, .inr (6, [.int (nI 0), .ref a1, .ref a2, .ref a3, .int sv, .ref a4, .ref a5, .ref a6, .int ln, .ref a7, .int bm, .int br, .int ck, .int sa, .ref a8, .int lm, .int rs, .int at_, .ref a9, .int tm, .long hs])), (a1, .inl (ca 0, 226, .inl (sF z r f j nt nl gl gt))), (a4, .inl (ca 0, 452, .inl (upd (plF fl (sF z r f j nt nl gl gt) (226 * q) i) ((226 * q) + i) ((sF z r f j nt nl gl gt) i)))), (a5, .inl (ca 1, 2, .inl fh))] H := hP
          have hD : va_D A [(om, .inr (6, [.int (nI 0), .ref a1, .ref a2, .ref a3, .int sv, .ref a4, .ref a5, .ref a6, .int ln, .ref a7, .int bm, .int br, .int ck, .int sa, .ref a8, .int lm, .int rs, .int at_, .ref a9, .int tm, .long hs])), (a1, .inl (ca 0, 226, .inl (sF z r f j nt nl gl gt))), (a4, .inl (ca 0, 452, .inl (upd (plF fl (sF z r f j nt nl gl gt) (226 * q) i) ((226 * q) + i) ((sF z r f j nt nl gl gt) i)))), (a5, .inl (ca 1, 2, .inl fh))] := hD
          refine lv_iinc (v := nI (i + 1)) (lv' := [(2, .int (nI (i + 1))), (1, .int (nI q)), (0, .ref om)]) hx hb dX6_keep_47 hl (k := 0) rfl (ni_inc _ _ (by decide)) (by decide) rfl (fun ls hl => ?_)
          refine lv_goto (tgt := 22) hx hb dX6_keep_50 (by decide) ?_
          have e7 : (upd (plF fl (sF z r f j nt nl gl gt) (226 * q) i) ((226 * q) + i) ((sF z r f j nt nl gl gt) i) : Nat → Int32) = plF fl (sF z r f j nt nl gl gt) (226 * q) (i + 1) := by exact plF_step _ _ _ _
          have hP : va_P D vwCl [(om, .inr (6, [.int (nI 0), .ref a1, .ref a2, .ref a3, .int sv, .ref a4, .ref a5, .ref a6, .int ln, .ref a7, .int bm, .int br, .int ck, .int sa, .ref a8, .int lm, .int rs, .int at_, .ref a9, .int tm, .long hs])), (a1, .inl (ca 0, 226, .inl (sF z r f j nt nl gl gt))), (a4, .inl (ca 0, 452, .inl (plF fl (sF z r f j nt nl gl gt) (226 * q) (i + 1)))), (a5, .inl (ca 1, 2, .inl fh))] H := Eq.mp (congrArg (fun z9 : Nat → Int32 => va_P D vwCl [(om, .inr (6, [.int (nI 0), .ref a1, .ref a2, .ref a3, .int sv, .ref a4, .ref a5, .ref a6, .int ln, .ref a7, .int bm, .int br, .int ck, .int sa, .ref a8, .int lm, .int rs, .int at_, .ref a9, .int tm, .long hs])), (a1, .inl (ca 0, 226, .inl (sF z r f j nt nl gl gt))), (a4, .inl (ca 0, 452, .inl z9)), (a5, .inl (ca 1, 2, .inl fh))] H) e7) hP
          have hD : va_D A [(om, .inr (6, [.int (nI 0), .ref a1, .ref a2, .ref a3, .int sv, .ref a4, .ref a5, .ref a6, .int ln, .ref a7, .int bm, .int br, .int ck, .int sa, .ref a8, .int lm, .int rs, .int at_, .ref a9, .int tm, .long hs])), (a1, .inl (ca 0, 226, .inl (sF z r f j nt nl gl gt))), (a4, .inl (ca 0, 452, .inl (plF fl (sF z r f j nt nl gl gt) (226 * q) (i + 1)))), (a5, .inl (ca 1, 2, .inl fh))] := Eq.mp (congrArg (fun z9 : Nat → Int32 => va_D A [(om, .inr (6, [.int (nI 0), .ref a1, .ref a2, .ref a3, .int sv, .ref a4, .ref a5, .ref a6, .int ln, .ref a7, .int bm, .int br, .int ck, .int sa, .ref a8, .int lm, .int rs, .int at_, .ref a9, .int tm, .long hs])), (a1, .inl (ca 0, 226, .inl (sF z r f j nt nl gl gt))), (a4, .inl (ca 0, 452, .inl z9)), (a5, .inl (ca 1, 2, .inl fh))]) e7) hD
          exact ih1 (i + 1) (by omega) (by omega) _ _ hP hD hS ls (lv_sub hl [0, 1, 2] rfl)
    have e8 : (fl : Nat → Int32) = plF fl (sF z r f j nt nl gl gt) (226 * q) 0 := by exact (plF_0 _ _ _).symm
    have hP : va_P D vwCl [(om, .inr (6, [.int (nI 0), .ref a1, .ref a2, .ref a3, .int sv, .ref a4, .ref a5, .ref a6, .int ln, .ref a7, .int bm, .int br, .int ck, .int sa, .ref a8, .int lm, .int rs, .int at_, .ref a9, .int tm, .long hs])), (a1, .inl (ca 0, 226, .inl (sF z r f j nt nl gl gt))), (a4, .inl (ca 0, 452, .inl (plF fl (sF z r f j nt nl gl gt) (226 * q) 0))), (a5, .inl (ca 1, 2, .inl fh))] H := Eq.mp (congrArg (fun z9 : Nat → Int32 => va_P D vwCl [(om, .inr (6, [.int (nI 0), .ref a1, .ref a2, .ref a3, .int sv, .ref a4, .ref a5, .ref a6, .int ln, .ref a7, .int bm, .int br, .int ck, .int sa, .ref a8, .int lm, .int rs, .int at_, .ref a9, .int tm, .long hs])), (a1, .inl (ca 0, 226, .inl (sF z r f j nt nl gl gt))), (a4, .inl (ca 0, 452, .inl z9)), (a5, .inl (ca 1, 2, .inl fh))] H) e8) hP
    have hD : va_D A [(om, .inr (6, [.int (nI 0), .ref a1, .ref a2, .ref a3, .int sv, .ref a4, .ref a5, .ref a6, .int ln, .ref a7, .int bm, .int br, .int ck, .int sa, .ref a8, .int lm, .int rs, .int at_, .ref a9, .int tm, .long hs])), (a1, .inl (ca 0, 226, .inl (sF z r f j nt nl gl gt))), (a4, .inl (ca 0, 452, .inl (plF fl (sF z r f j nt nl gl gt) (226 * q) 0))), (a5, .inl (ca 1, 2, .inl fh))] := Eq.mp (congrArg (fun z9 : Nat → Int32 => va_D A [(om, .inr (6, [.int (nI 0), .ref a1, .ref a2, .ref a3, .int sv, .ref a4, .ref a5, .ref a6, .int ln, .ref a7, .int bm, .int br, .int ck, .int sa, .ref a8, .int lm, .int rs, .int at_, .ref a9, .int tm, .long hs])), (a1, .inl (ca 0, 226, .inl (sF z r f j nt nl gl gt))), (a4, .inl (ca 0, 452, .inl z9)), (a5, .inl (ca 1, 2, .inl fh))]) e8) hD
    exact lp22_3 ((226 - 0) + 1) 0 (by omega) (by omega) _ _ hP hD hS ls (lv_sub hl [0, 2, 1] rfl)
  · first | exact False.elim c3 | exact absurd c3 (by decide) | (exfalso; omega)
abbrev rm_kX6_keep_bad : Room := { frames := 1, cells := 0, slots := 0, locals := 22 }
set_option maxHeartbeats 4000000 in
set_option maxRecDepth 100000 in
theorem kX6_keep_bad (l : Launch) (D : va_G) (ca : Nat → ClassId) (sz : Nat) (om a1 a2 a3 a4 a5 a6 a7 a8 a9 : Nat) (thr sv ln bm br ck sa lm rs at_ tm : Int32) (hs : Int64) (z : Nat) (r f j : Int32) (nt nl : Nat) (gl gt : Nat → Int32) (x : Int32) (hnt : nt ≤ 200) (hnl : nl ≤ 20) (hz : z ≤ 30) (hbad : hasF 2 x = false) : Met l yX6_keep wsX6_keep rm_kX6_keep_bad (pcM D ca [.ref om, .int x] [(om, .inr (6, [.int thr, .ref a1, .ref a2, .ref a3, .int sv, .ref a4, .ref a5, .ref a6, .int ln, .ref a7, .int bm, .int br, .int ck, .int sa, .ref a8, .int lm, .int rs, .int at_, .ref a9, .int tm, .long hs])), (a1, .inl (ca 0, 226, .inl (sF z r f j nt nl gl gt)))] sz) (va_Qi (fun (zr : Int32) (u : Unit) => zr = nI 0 ∧ True) (qB D (va_A [(om, .inr (6, [.int thr, .ref a1, .ref a2, .ref a3, .int sv, .ref a4, .ref a5, .ref a6, .int ln, .ref a7, .int bm, .int br, .int ck, .int sa, .ref a8, .int lm, .int rs, .int at_, .ref a9, .int tm, .long hs])), (a1, .inl (ca 0, 226, .inl (sF z r f j nt nl gl gt)))] sz) (fun u : Unit => [(om, .inr (6, [.int (nI 1), .ref a1, .ref a2, .ref a3, .int sv, .ref a4, .ref a5, .ref a6, .int ln, .ref a7, .int bm, .int br, .int ck, .int sa, .ref a8, .int lm, .int rs, .int at_, .ref a9, .int tm, .long hs])), (a1, .inl (ca 0, 226, .inl (sF z r f j nt nl gl gt)))])) (va_A [(om, .inr (6, [.int thr, .ref a1, .ref a2, .ref a3, .int sv, .ref a4, .ref a5, .ref a6, .int ln, .ref a7, .int bm, .int br, .int ck, .int sa, .ref a8, .int lm, .int rs, .int at_, .ref a9, .int tm, .long hs])), (a1, .inl (ca 0, 226, .inl (sF z r f j nt nl gl gt)))] sz)) 0 0 (va_A [(om, .inr (6, [.int thr, .ref a1, .ref a2, .ref a3, .int sv, .ref a4, .ref a5, .ref a6, .int ln, .ref a7, .int bm, .int br, .int ck, .int sa, .ref a8, .int lm, .int rs, .int at_, .ref a9, .int tm, .long hs])), (a1, .inl (ca 0, 226, .inl (sF z r f j nt nl gl gt)))] sz) := by
  refine Met.ofW (cc := cX6_keep) (maxL := 3) (ret := (some .int)) (by decide) rfl ?_
  intro p e s m args below meth c s₁ B hml hv
  obtain ⟨rfl, hsz, hP, hK, hD0⟩ := hv
  have hx := B.exec
  have hb := B.bytes
  have hr := B.returns
  have hts := atoms_spec (ws := wsX6_keep) B.pre
  have hown : s.vm.findClass RX6 = some m.cls := findClass_of_methodNamed B.named
  have hlocks := B.notSynchronized
  subst hsz
  have hD := hD0.self (sz := s.heap.size)
  generalize hAe : va_A [(om, .inr (6, [.int thr, .ref a1, .ref a2, .ref a3, .int sv, .ref a4, .ref a5, .ref a6, .int ln, .ref a7, .int bm, .int br, .int ck, .int sa, .ref a8, .int lm, .int rs, .int at_, .ref a9, .int tm, .long hs])), (a1, .inl (ca 0, 226, .inl (sF z r f j nt nl gl gt)))] s.heap.size = A at hD ⊢
  have hA : ∀ q : Nat, s.heap.size ≤ q → A q := fun q h => by rw [← hAe]; exact Or.inr h
  have hS : va_S A s.heap s.heap [] := va_S.rf
  have hP : va_P D vwCl [(om, .inr (6, [.int thr, .ref a1, .ref a2, .ref a3, .int sv, .ref a4, .ref a5, .ref a6, .int ln, .ref a7, .int bm, .int br, .int ck, .int sa, .ref a8, .int lm, .int rs, .int at_, .ref a9, .int tm, .long hs])), (a1, .inl (ca 0, 226, .inl (sF z r f j nt nl gl gt)))] s.heap := hP
  have hKv := hK.1
  have hl := lv_entry ([.ref om, .int x]) (n := 3) (kk_le rfl)
  rw [lg_entry_eq]
  generalize (lg_sl ([.ref om, .int x]) ++ List.replicate (3 - (lg_sl ([.ref om, .int x])).length) Slot.unset).toArray = ls at hl ⊢
  have hl : lv_has ls 3 [(0, .ref om), (1, .int x)] := hl
  have hiX6 : ∀ w ∈ u_ws RX6 TX6 21, w ∈ wsX6_keep := fun w h => by first | exact List.mem_cons_of_mem _ (List.mem_append_right _ h) | exact List.mem_cons_of_mem _ (List.mem_append_left _ (List.mem_append_right _ h)) | exact List.mem_cons_of_mem _ (List.mem_append_left _ (List.mem_append_left _ (List.mem_append_right _ h))) | exact List.mem_cons_of_mem _ (List.mem_append_left _ (List.mem_append_left _ (List.mem_append_left _ (List.mem_append_right _ h)))) | (revert w h; decide +kernel)
  have lk38 : (Cond.fieldLink RX6 38 "StripeSwipesModel" "thrown" "I").before _ s = true := hts _ (by decide +kernel)
  refine lv_aload_n hx hb dX6_keep_0 rfl (lv_at hl 0 rfl) ?_
  refine lv_iconst (v := nI 0) hx hb dX6_keep_1 (by decide) ?_
  refine va_put (D := D) (ci := 6) (v := .int (nI 0)) (ty := .int) (C := RX6) (T := TX6) (N := 21) hx hb hts hiX6 tyX6 tyX6_ok nmX6 hown hKv hP hD hS 0 rfl rfl 0 (by decide) lk38 (fun _ h9 => h9) rfl (by decide +kernel) rfl rfl (kk_le rfl) dX6_keep_2 (fun H locs hP hD hS => ?_)
  have hP : va_P D vwCl [(om, .inr (6, [.int (nI 0), .ref a1, .ref a2, .ref a3, .int sv, .ref a4, .ref a5, .ref a6, .int ln, .ref a7, .int bm, .int br, .int ck, .int sa, .ref a8, .int lm, .int rs, .int at_, .ref a9, .int tm, .long hs])), (a1, .inl (ca 0, 226, .inl (sF z r f j nt nl gl gt)))] H := hP
  have hD : va_D A [(om, .inr (6, [.int (nI 0), .ref a1, .ref a2, .ref a3, .int sv, .ref a4, .ref a5, .ref a6, .int ln, .ref a7, .int bm, .int br, .int ck, .int sa, .ref a8, .int lm, .int rs, .int at_, .ref a9, .int tm, .long hs])), (a1, .inl (ca 0, 226, .inl (sF z r f j nt nl gl gt)))] := hD
  refine lv_iload_n hx hb dX6_keep_5 rfl (lv_at hl 1 rfl) ?_
  refine lv_iconst (v := nI 0) hx hb dX6_keep_6 (by decide) ?_
  refine lv_iconst (v := nI 1) hx hb dX6_keep_7 (by decide) ?_
  refine vp_callSi (va_Run.run (va_runS (As := [.int x, .int (nI 0), .int (nI 1)]) (rest := []) ⟨hx, hb, hml, hown, hts⟩ (kX6_in l x (nI 0) (nI 1)) (va_cwS 3 hts gX6_keep_X6_in rfl rfl rfl (by decide +kernel) ⟨kk_le rfl, kk_le rfl⟩) psN rfl rfl hl.1 rfl (lv_room (kk_le rfl)) dX6_keep_8 ⟨kk_le rfl, kk_le rfl⟩)) (fun r1 hr1 => ?_)
  subst hr1
  have e2 : (bI (inF x (nI 0) (nI 1)) : Int32) = bI false := congrArg bI ((inp_k (n := 2) rfl (by decide)).trans hbad)
  rw [e2]
  refine bi_if_ne (tgt := 20) hx hb dX6_keep_11 (by decide) (fun c3 => ?_) (fun c3 => ?_)
  · first | exact False.elim c3 | exact absurd c3 (by decide) | (exfalso; omega)
  · refine lv_aload_n hx hb dX6_keep_14 rfl (lv_at hl 0 rfl) ?_
    refine lv_iconst (v := nI 1) hx hb dX6_keep_15 (by decide) ?_
    have hPc := hP.sub (ws' := [(om, .inr (6, [.int (nI 0), .ref a1, .ref a2, .ref a3, .int sv, .ref a4, .ref a5, .ref a6, .int ln, .ref a7, .int bm, .int br, .int ck, .int sa, .ref a8, .int lm, .int rs, .int at_, .ref a9, .int tm, .long hs]))]) [0] rfl
    have hDc := hD.sub (ws' := [(om, .inr (6, [.int (nI 0), .ref a1, .ref a2, .ref a3, .int sv, .ref a4, .ref a5, .ref a6, .int ln, .ref a7, .int bm, .int br, .int ck, .int sa, .ref a8, .int lm, .int rs, .int at_, .ref a9, .int tm, .long hs]))]) [0] (by decide) rfl
    have hFc := va_free (wc := [(om, .inr (6, [.int (nI 0), .ref a1, .ref a2, .ref a3, .int sv, .ref a4, .ref a5, .ref a6, .int ln, .ref a7, .int bm, .int br, .int ck, .int sa, .ref a8, .int lm, .int rs, .int at_, .ref a9, .int tm, .long hs]))]) hD hS hA [0] rfl
    refine va_calli (va_runV (As := [.int (nI 1)]) (rest := []) ⟨hx, hb, hml, hown, hts⟩ (kX6_fails l D ca H.size om a1 a2 a3 a4 a5 a6 a7 a8 a9 (nI 0) sv ln bm br ck sa lm rs at_ tm hs (nI 1)) (cwV 1 hts gX6_keep_X6_fails rfl rfl rfl (by decide +kernel) ⟨kk_le rfl, kk_le rfl⟩) (pvM hK hPc (my_D_true hDc) (va_recv hKv hP (ci := 6) (q0 := 0) rfl rfl)) rfl rfl hl.1 rfl (lv_room (kk_le rfl)) dX6_keep_16 ⟨kk_le rfl, kk_le rfl⟩) hS (fun q _ h => hFc q h) hFc (fun r4 u t H1 locs ht hvm hwv hBv hz1 hk1 hS => ?_)
    obtain ⟨hP1, hD1⟩ := hBv
    rw [ht] at hP1
    have hP1 : va_P D vwCl [(om, .inr (6, [.int (nI 1), .ref a1, .ref a2, .ref a3, .int sv, .ref a4, .ref a5, .ref a6, .int ln, .ref a7, .int bm, .int br, .int ck, .int sa, .ref a8, .int lm, .int rs, .int at_, .ref a9, .int tm, .long hs]))] H1 := hP1
    have hD1 : va_D _ [(om, .inr (6, [.int (nI 1), .ref a1, .ref a2, .ref a3, .int sv, .ref a4, .ref a5, .ref a6, .int ln, .ref a7, .int bm, .int br, .int ck, .int sa, .ref a8, .int lm, .int rs, .int at_, .ref a9, .int tm, .long hs]))] := hD1
    obtain ⟨hr4, hw4⟩ := hwv
    subst hr4
    obtain ⟨hP, hD⟩ := va_join (wr := [(a1, .inl (ca 0, 226, .inl (sF z r f j nt nl gl gt)))]) (w1 := [(om, .inr (6, [.int (nI 1), .ref a1, .ref a2, .ref a3, .int sv, .ref a4, .ref a5, .ref a6, .int ln, .ref a7, .int bm, .int br, .int ck, .int sa, .ref a8, .int lm, .int rs, .int at_, .ref a9, .int tm, .long hs]))]) hP hD [0] [1] rfl rfl (by decide) (by decide) hk1 hFc hP1 hD1
    generalize H1 = H at hP hS ⊢
    have hP := hP.sub (ws' := [(om, .inr (6, [.int (nI 1), .ref a1, .ref a2, .ref a3, .int sv, .ref a4, .ref a5, .ref a6, .int ln, .ref a7, .int bm, .int br, .int ck, .int sa, .ref a8, .int lm, .int rs, .int at_, .ref a9, .int tm, .long hs])), (a1, .inl (ca 0, 226, .inl (sF z r f j nt nl gl gt)))]) [1, 0] rfl
    have hD := hD.sub (ws' := [(om, .inr (6, [.int (nI 1), .ref a1, .ref a2, .ref a3, .int sv, .ref a4, .ref a5, .ref a6, .int ln, .ref a7, .int bm, .int br, .int ck, .int sa, .ref a8, .int lm, .int rs, .int at_, .ref a9, .int tm, .long hs])), (a1, .inl (ca 0, 226, .inl (sF z r f j nt nl gl gt)))]) [1, 0] (by decide) rfl
    exact W.iret (v := nI 0) hx hb hr (fun t ht hW => ⟨⟨_, (), rfl, ⟨by rfl, by trivial⟩, by rw [ht]; exact hP, hD⟩, hS.F ht⟩) hS.2.2 dX6_keep_19
abbrev rm_kX6_goBack_ok : Room := { frames := 1, cells := 0, slots := 0, locals := 22 }
set_option maxHeartbeats 4000000 in
set_option maxRecDepth 100000 in
theorem kX6_goBack_ok (l : Launch) (D : va_G) (ca : Nat → ClassId) (sz : Nat) (om a1 a2 a3 a4 a5 a6 a7 a8 a9 : Nat) (thr ln bm br ck sa lm rs at_ tm : Int32) (hs : Int64) (sv : Nat) (z : Nat) (r f j : Int32) (nt nl : Nat) (gl gt : Nat → Int32) (fv fl fh : Nat → Int32) (q : Nat) (z2 : Nat) (r2 f2 j2 : Int32) (nt2 nl2 : Nat) (gl2 gt2 : Nat → Int32) (hnt : nt ≤ 200) (hnl : nl ≤ 20) (hz : z ≤ 30) (hsv : sv ≤ 6) (hq : q < 2) (hh : fh q = nI 1) (hsl : ∀ k, k < 226 → (fun k => fl (226 * q + k)) k = sF z2 r2 f2 j2 nt2 nl2 gl2 gt2 k) : Met l yX6_goBack wsX6_goBack rm_kX6_goBack_ok (pcM D ca [.ref om, .int (nI q)] [(om, .inr (6, [.int thr, .ref a1, .ref a2, .ref a3, .int (nI sv), .ref a4, .ref a5, .ref a6, .int ln, .ref a7, .int bm, .int br, .int ck, .int sa, .ref a8, .int lm, .int rs, .int at_, .ref a9, .int tm, .long hs])), (a1, .inl (ca 0, 226, .inl (sF z r f j nt nl gl gt))), (a3, .inl (ca 0, 1356, .inl fv)), (a4, .inl (ca 0, 452, .inl fl)), (a5, .inl (ca 1, 2, .inl fh))] sz) (va_Qi (fun (zr : Int32) (u : Unit) => zr = nI nt2 ∧ True) (qB D (va_A [(om, .inr (6, [.int thr, .ref a1, .ref a2, .ref a3, .int (nI sv), .ref a4, .ref a5, .ref a6, .int ln, .ref a7, .int bm, .int br, .int ck, .int sa, .ref a8, .int lm, .int rs, .int at_, .ref a9, .int tm, .long hs])), (a1, .inl (ca 0, 226, .inl (sF z r f j nt nl gl gt))), (a3, .inl (ca 0, 1356, .inl fv)), (a4, .inl (ca 0, 452, .inl fl)), (a5, .inl (ca 1, 2, .inl fh))] sz) (fun u : Unit => [(om, .inr (6, [.int (nI 0), .ref a1, .ref a2, .ref a3, .int (nI (svN sv)), .ref a4, .ref a5, .ref a6, .int ln, .ref a7, .int bm, .int br, .int ck, .int sa, .ref a8, .int lm, .int rs, .int at_, .ref a9, .int tm, .long hs])), (a1, .inl (ca 0, 226, .inl (sF z2 r2 f2 j2 nt2 nl2 gl2 gt2))), (a3, .inl (ca 0, 1356, .inl (savF fv sv (sF z r f j nt nl gl gt)))), (a4, .inl (ca 0, 452, .inl fl)), (a5, .inl (ca 1, 2, .inl fh))])) (va_A [(om, .inr (6, [.int thr, .ref a1, .ref a2, .ref a3, .int (nI sv), .ref a4, .ref a5, .ref a6, .int ln, .ref a7, .int bm, .int br, .int ck, .int sa, .ref a8, .int lm, .int rs, .int at_, .ref a9, .int tm, .long hs])), (a1, .inl (ca 0, 226, .inl (sF z r f j nt nl gl gt))), (a3, .inl (ca 0, 1356, .inl fv)), (a4, .inl (ca 0, 452, .inl fl)), (a5, .inl (ca 1, 2, .inl fh))] sz)) 0 0 (va_A [(om, .inr (6, [.int thr, .ref a1, .ref a2, .ref a3, .int (nI sv), .ref a4, .ref a5, .ref a6, .int ln, .ref a7, .int bm, .int br, .int ck, .int sa, .ref a8, .int lm, .int rs, .int at_, .ref a9, .int tm, .long hs])), (a1, .inl (ca 0, 226, .inl (sF z r f j nt nl gl gt))), (a3, .inl (ca 0, 1356, .inl fv)), (a4, .inl (ca 0, 452, .inl fl)), (a5, .inl (ca 1, 2, .inl fh))] sz) := by
  refine Met.ofW (cc := cX6_goBack) (maxL := 3) (ret := (some .int)) (by decide) rfl ?_
  intro p e s m args below meth c s₁ B hml hv
  obtain ⟨rfl, hsz, hP, hK, hD0⟩ := hv
  have hx := B.exec
  have hb := B.bytes
  have hr := B.returns
  have hts := atoms_spec (ws := wsX6_goBack) B.pre
  have hown : s.vm.findClass RX6 = some m.cls := findClass_of_methodNamed B.named
  have hlocks := B.notSynchronized
  subst hsz
  have hD := hD0.self (sz := s.heap.size)
  generalize hAe : va_A [(om, .inr (6, [.int thr, .ref a1, .ref a2, .ref a3, .int (nI sv), .ref a4, .ref a5, .ref a6, .int ln, .ref a7, .int bm, .int br, .int ck, .int sa, .ref a8, .int lm, .int rs, .int at_, .ref a9, .int tm, .long hs])), (a1, .inl (ca 0, 226, .inl (sF z r f j nt nl gl gt))), (a3, .inl (ca 0, 1356, .inl fv)), (a4, .inl (ca 0, 452, .inl fl)), (a5, .inl (ca 1, 2, .inl fh))] s.heap.size = A at hD ⊢
  have hA : ∀ q : Nat, s.heap.size ≤ q → A q := fun q h => by rw [← hAe]; exact Or.inr h
  have hS : va_S A s.heap s.heap [] := va_S.rf
  have hP : va_P D vwCl [(om, .inr (6, [.int thr, .ref a1, .ref a2, .ref a3, .int (nI sv), .ref a4, .ref a5, .ref a6, .int ln, .ref a7, .int bm, .int br, .int ck, .int sa, .ref a8, .int lm, .int rs, .int at_, .ref a9, .int tm, .long hs])), (a1, .inl (ca 0, 226, .inl (sF z r f j nt nl gl gt))), (a3, .inl (ca 0, 1356, .inl fv)), (a4, .inl (ca 0, 452, .inl fl)), (a5, .inl (ca 1, 2, .inl fh))] s.heap := hP
  have hKv := hK.1
  have hl := lv_entry ([.ref om, .int (nI q)]) (n := 3) (kk_le rfl)
  rw [lg_entry_eq]
  generalize (lg_sl ([.ref om, .int (nI q)]) ++ List.replicate (3 - (lg_sl ([.ref om, .int (nI q)])).length) Slot.unset).toArray = ls at hl ⊢
  have hl : lv_has ls 3 [(0, .ref om), (1, .int (nI q))] := hl
  generalize hQz : MQ below _ _ _ _ _ _ = Qz
  have hiX6 : ∀ w ∈ u_ws RX6 TX6 21, w ∈ wsX6_goBack := fun w h => by first | exact List.mem_cons_of_mem _ (List.mem_append_right _ h) | exact List.mem_cons_of_mem _ (List.mem_append_left _ (List.mem_append_right _ h)) | exact List.mem_cons_of_mem _ (List.mem_append_left _ (List.mem_append_left _ (List.mem_append_right _ h))) | exact List.mem_cons_of_mem _ (List.mem_append_left _ (List.mem_append_left _ (List.mem_append_left _ (List.mem_append_right _ h)))) | (revert w h; decide +kernel)
  have lk38 : (Cond.fieldLink RX6 38 "StripeSwipesModel" "thrown" "I").before _ s = true := hts _ (by decide +kernel)
  have lk22 : (Cond.fieldLink RX6 22 "StripeSwipesModel" "hasSlot" "[Z").before _ s = true := hts _ (by decide +kernel)
  have lk7 : (Cond.fieldLink RX6 7 "StripeSwipesModel" "s" "[I").before _ s = true := hts _ (by decide +kernel)
  have lk19 : (Cond.fieldLink RX6 19 "StripeSwipesModel" "slots" "[I").before _ s = true := hts _ (by decide +kernel)
  refine lv_aload_n hx hb dX6_goBack_0 rfl (lv_at hl 0 rfl) ?_
  refine lv_iconst (v := nI 0) hx hb dX6_goBack_1 (by decide) ?_
  refine va_put (D := D) (ci := 6) (v := .int (nI 0)) (ty := .int) (C := RX6) (T := TX6) (N := 21) hx hb hts hiX6 tyX6 tyX6_ok nmX6 hown hKv hP hD hS 0 rfl rfl 0 (by decide) lk38 (fun _ h9 => h9) rfl (by decide +kernel) rfl rfl (kk_le rfl) dX6_goBack_2 (fun H locs hP hD hS => ?_)
  have hP : va_P D vwCl [(om, .inr (6, [.int (nI 0), .ref a1, .ref a2, .ref a3, .int (nI sv), .ref a4, .ref a5, .ref a6, .int ln, .ref a7, .int bm, .int br, .int ck, .int sa, .ref a8, .int lm, .int rs, .int at_, .ref a9, .int tm, .long hs])), (a1, .inl (ca 0, 226, .inl (sF z r f j nt nl gl gt))), (a3, .inl (ca 0, 1356, .inl fv)), (a4, .inl (ca 0, 452, .inl fl)), (a5, .inl (ca 1, 2, .inl fh))] H := hP
  have hD : va_D A [(om, .inr (6, [.int (nI 0), .ref a1, .ref a2, .ref a3, .int (nI sv), .ref a4, .ref a5, .ref a6, .int ln, .ref a7, .int bm, .int br, .int ck, .int sa, .ref a8, .int lm, .int rs, .int at_, .ref a9, .int tm, .long hs])), (a1, .inl (ca 0, 226, .inl (sF z r f j nt nl gl gt))), (a3, .inl (ca 0, 1356, .inl fv)), (a4, .inl (ca 0, 452, .inl fl)), (a5, .inl (ca 1, 2, .inl fh))] := hD
  refine lv_iload_n hx hb dX6_goBack_5 rfl (lv_at hl 1 rfl) ?_
  refine lv_iconst (v := nI 0) hx hb dX6_goBack_6 (by decide) ?_
  refine lv_iconst (v := nI 1) hx hb dX6_goBack_7 (by decide) ?_
  refine vp_callSi (va_Run.run (va_runS (As := [.int (nI q), .int (nI 0), .int (nI 1)]) (rest := []) ⟨hx, hb, hml, hown, hts⟩ (kX6_in l (nI q) (nI 0) (nI 1)) (va_cwS 3 hts gX6_goBack_X6_in rfl rfl rfl (by decide +kernel) ⟨kk_le rfl, kk_le rfl⟩) psN rfl rfl hl.1 rfl (lv_room (kk_le rfl)) dX6_goBack_8 ⟨kk_le rfl, kk_le rfl⟩)) (fun r1 hr1 => ?_)
  subst hr1
  have e2 : (bI (inF (nI q) (nI 0) (nI 1)) : Int32) = bI true := congrArg bI ((inp_k (n := 2) rfl (by decide)).trans ((hasF_n (by omega) (by omega)).trans (decide_eq_true (by omega))))
  rw [e2]
  refine bi_if_ne (tgt := 20) hx hb dX6_goBack_11 (by decide) (fun c3 => ?_) (fun c3 => ?_)
  · refine lv_aload_n hx hb dX6_goBack_20 rfl (lv_at hl 0 rfl) ?_
    refine va_get (D := D) (ci := 6) (C := RX6) (T := TX6) (N := 21) hx hb hts hiX6 hown hKv hP 0 rfl rfl 6 (by decide) lk22 (fun _ h9 => h9) rfl dX6_goBack_21 ?_
    refine lv_iload_n hx hb dX6_goBack_24 rfl (lv_at hl 1 rfl) ?_
    refine my_zald hx hb hK hP 4 rfl (by omega) (by omega) dX6_goBack_25 ?_
    have e4 : (fh q : Int32) = nI 1 := hh
    rw [e4]
    refine ni_if_ne (tgt := 35) (by omega) hx hb dX6_goBack_26 (by decide) (fun c5 => ?_) (fun c5 => ?_)
    · refine lv_aload_n hx hb dX6_goBack_35 rfl (lv_at hl 0 rfl) ?_
      have hPc := hP.sub (ws' := [(om, .inr (6, [.int (nI 0), .ref a1, .ref a2, .ref a3, .int (nI sv), .ref a4, .ref a5, .ref a6, .int ln, .ref a7, .int bm, .int br, .int ck, .int sa, .ref a8, .int lm, .int rs, .int at_, .ref a9, .int tm, .long hs])), (a1, .inl (ca 0, 226, .inl (sF z r f j nt nl gl gt))), (a3, .inl (ca 0, 1356, .inl fv))]) [0, 1, 2] rfl
      have hDc := hD.sub (ws' := [(om, .inr (6, [.int (nI 0), .ref a1, .ref a2, .ref a3, .int (nI sv), .ref a4, .ref a5, .ref a6, .int ln, .ref a7, .int bm, .int br, .int ck, .int sa, .ref a8, .int lm, .int rs, .int at_, .ref a9, .int tm, .long hs])), (a1, .inl (ca 0, 226, .inl (sF z r f j nt nl gl gt))), (a3, .inl (ca 0, 1356, .inl fv))]) [0, 1, 2] (by decide) rfl
      have hFc := va_free (wc := [(om, .inr (6, [.int (nI 0), .ref a1, .ref a2, .ref a3, .int (nI sv), .ref a4, .ref a5, .ref a6, .int ln, .ref a7, .int bm, .int br, .int ck, .int sa, .ref a8, .int lm, .int rs, .int at_, .ref a9, .int tm, .long hs])), (a1, .inl (ca 0, 226, .inl (sF z r f j nt nl gl gt))), (a3, .inl (ca 0, 1356, .inl fv))]) hD hS hA [0, 1, 2] rfl
      refine va_callv (va_runV (As := []) (rest := []) ⟨hx, hb, hml, hown, hts⟩ (kX6_saves l D ca H.size om a1 a2 a3 a4 a5 a6 a7 a8 a9 (nI 0) ln bm br ck sa lm rs at_ tm hs z r f j nt nl gl gt sv fv (by first | rfl | assumption | omega | trivial | (exfalso; omega))) (cwV 0 hts gX6_goBack_X6_saves rfl rfl rfl (by decide +kernel) ⟨kk_le rfl, kk_le rfl⟩) (pvM hK hPc (my_D_true hDc) (va_recv hKv hP (ci := 6) (q0 := 0) rfl rfl)) rfl rfl hl.1 rfl (lv_room (kk_le rfl)) dX6_goBack_36 ⟨kk_le rfl, kk_le rfl⟩) hS (fun q _ h => hFc q h) hFc (fun u t H1 locs ht hvm hwv hBv hz1 hk1 hS => ?_)
      obtain ⟨hP1, hD1⟩ := hBv
      rw [ht] at hP1
      have hP1 : va_P D vwCl [(om, .inr (6, [.int (nI 0), .ref a1, .ref a2, .ref a3, .int (nI (svN sv)), .ref a4, .ref a5, .ref a6, .int ln, .ref a7, .int bm, .int br, .int ck, .int sa, .ref a8, .int lm, .int rs, .int at_, .ref a9, .int tm, .long hs])), (a1, .inl (ca 0, 226, .inl (sF z r f j nt nl gl gt))), (a3, .inl (ca 0, 1356, .inl (savF fv sv (sF z r f j nt nl gl gt))))] H1 := hP1
      have hD1 : va_D _ [(om, .inr (6, [.int (nI 0), .ref a1, .ref a2, .ref a3, .int (nI (svN sv)), .ref a4, .ref a5, .ref a6, .int ln, .ref a7, .int bm, .int br, .int ck, .int sa, .ref a8, .int lm, .int rs, .int at_, .ref a9, .int tm, .long hs])), (a1, .inl (ca 0, 226, .inl (sF z r f j nt nl gl gt))), (a3, .inl (ca 0, 1356, .inl (savF fv sv (sF z r f j nt nl gl gt))))] := hD1
      have hw6 := hwv
      obtain ⟨hP, hD⟩ := va_join (wr := [(a4, .inl (ca 0, 452, .inl fl)), (a5, .inl (ca 1, 2, .inl fh))]) (w1 := [(om, .inr (6, [.int (nI 0), .ref a1, .ref a2, .ref a3, .int (nI (svN sv)), .ref a4, .ref a5, .ref a6, .int ln, .ref a7, .int bm, .int br, .int ck, .int sa, .ref a8, .int lm, .int rs, .int at_, .ref a9, .int tm, .long hs])), (a1, .inl (ca 0, 226, .inl (sF z r f j nt nl gl gt))), (a3, .inl (ca 0, 1356, .inl (savF fv sv (sF z r f j nt nl gl gt))))]) hP hD [0, 1, 2] [3, 4] rfl rfl (by decide) (by decide) hk1 hFc hP1 hD1
      generalize H1 = H at hP hS ⊢
      have hP := hP.sub (ws' := [(om, .inr (6, [.int (nI 0), .ref a1, .ref a2, .ref a3, .int (nI (svN sv)), .ref a4, .ref a5, .ref a6, .int ln, .ref a7, .int bm, .int br, .int ck, .int sa, .ref a8, .int lm, .int rs, .int at_, .ref a9, .int tm, .long hs])), (a1, .inl (ca 0, 226, .inl (sF z r f j nt nl gl gt))), (a3, .inl (ca 0, 1356, .inl (savF fv sv (sF z r f j nt nl gl gt)))), (a4, .inl (ca 0, 452, .inl fl)), (a5, .inl (ca 1, 2, .inl fh))]) [2, 3, 4, 0, 1] rfl
      have hD := hD.sub (ws' := [(om, .inr (6, [.int (nI 0), .ref a1, .ref a2, .ref a3, .int (nI (svN sv)), .ref a4, .ref a5, .ref a6, .int ln, .ref a7, .int bm, .int br, .int ck, .int sa, .ref a8, .int lm, .int rs, .int at_, .ref a9, .int tm, .long hs])), (a1, .inl (ca 0, 226, .inl (sF z r f j nt nl gl gt))), (a3, .inl (ca 0, 1356, .inl (savF fv sv (sF z r f j nt nl gl gt)))), (a4, .inl (ca 0, 452, .inl fl)), (a5, .inl (ca 1, 2, .inl fh))]) [2, 3, 4, 0, 1] (by decide) rfl
      refine lv_iconst (v := nI 0) hx hb dX6_goBack_39 (by decide) ?_
      refine lv_istore_n (lv' := [(2, .int (nI 0)), (0, .ref om), (1, .int (nI q))]) hx hb dX6_goBack_40 rfl hl (by decide) rfl (fun ls hl => ?_)
      have lp41_7 : ∀ (k1 : Nat) (i : Nat), 226 - i < k1 → (i ≤ 226) → ∀ (H : Heap) (locs : List Loc), va_P D vwCl [(om, .inr (6, [.int (nI 0), .ref a1, .ref a2, .ref a3, .int (nI (svN sv)), .ref a4, .ref a5, .ref a6, .int ln, .ref a7, .int bm, .int br, .int ck, .int sa, .ref a8, .int lm, .int rs, .int at_, .ref a9, .int tm, .long hs])), (a1, .inl (ca 0, 226, .inl (cpF (fun k => fl (226 * q + k)) (sF z r f j nt nl gl gt) i))), (a3, .inl (ca 0, 1356, .inl (savF fv sv (sF z r f j nt nl gl gt)))), (a4, .inl (ca 0, 452, .inl fl)), (a5, .inl (ca 1, 2, .inl fh))] H → va_D A [(om, .inr (6, [.int (nI 0), .ref a1, .ref a2, .ref a3, .int (nI (svN sv)), .ref a4, .ref a5, .ref a6, .int ln, .ref a7, .int bm, .int br, .int ck, .int sa, .ref a8, .int lm, .int rs, .int at_, .ref a9, .int tm, .long hs])), (a1, .inl (ca 0, 226, .inl (cpF (fun k => fl (226 * q + k)) (sF z r f j nt nl gl gt) i))), (a3, .inl (ca 0, 1356, .inl (savF fv sv (sF z r f j nt nl gl gt)))), (a4, .inl (ca 0, 452, .inl fl)), (a5, .inl (ca 1, 2, .inl fh))] → va_S A s.heap H locs → ∀ (ls : Array Slot), lv_has ls 3 [(2, .int (nI i)), (1, .int (nI q)), (0, .ref om)] → W p l e rm_kX6_goBack_ok s m ([.ref om, .int (nI q)] : List Value).toArray below meth c H locs 0 0 Qz (F0 m 41 ls []) := by
        intro k1
        induction k1 with
        | zero => intro i hm1; exact absurd hm1 (Nat.not_lt_zero _)
        | succ k1 ih1 =>
          intro i hm1 hi H locs hP hD hS ls hl
          refine lv_iload_n hx hb dX6_goBack_41 rfl (lv_at hl 0 rfl) ?_
          refine lv_sipush (v := nI 226) hx hb dX6_goBack_42 (by decide) ?_
          refine ni_icmp_ge (tgt := 72) (by omega) (by omega) hx hb dX6_goBack_45 (by decide) (fun c9 => ?_) (fun c9 => ?_)
          · have hP := my_P_alt (f2 := sF z2 r2 f2 j2 nt2 nl2 gl2 gt2) hP 1 rfl (sF_copy z2 r2 f2 j2 nt2 nl2 gl2 gt2 _ _ hsl (by omega))
            have hD := my_D_alt (f2 := sF z2 r2 f2 j2 nt2 nl2 gl2 gt2) hD 1 rfl
            have hP : va_P D vwCl [(om, .inr (6, [.int (nI 0), .ref a1, .ref a2, .ref a3, .int (nI (svN sv)), .ref a4, .ref a5, .ref a6, .int ln, .ref a7, .int bm, .int br, .int ck, .int sa, .ref a8, .int lm, .int rs, .int at_, .ref a9, .int tm, .long hs])), (a1, .inl (ca 0, 226, .inl (sF z2 r2 f2 j2 nt2 nl2 gl2 gt2))), (a3, .inl (ca 0, 1356, .inl (savF fv sv (sF z r f j nt nl gl gt)))), (a4, .inl (ca 0, 452, .inl fl)), (a5, .inl (ca 1, 2, .inl fh))] H := hP
            have hD : va_D A [(om, .inr (6, [.int (nI 0), .ref a1, .ref a2, .ref a3, .int (nI (svN sv)), .ref a4, .ref a5, .ref a6, .int ln, .ref a7, .int bm, .int br, .int ck, .int sa, .ref a8, .int lm, .int rs, .int at_, .ref a9, .int tm, .long hs])), (a1, .inl (ca 0, 226, .inl (sF z2 r2 f2 j2 nt2 nl2 gl2 gt2))), (a3, .inl (ca 0, 1356, .inl (savF fv sv (sF z r f j nt nl gl gt)))), (a4, .inl (ca 0, 452, .inl fl)), (a5, .inl (ca 1, 2, .inl fh))] := hD
            refine lv_aload_n hx hb dX6_goBack_72 rfl (lv_at hl 2 rfl) ?_
            refine va_get (D := D) (ci := 6) (C := RX6) (T := TX6) (N := 21) hx hb hts hiX6 hown hKv hP 0 rfl rfl 1 (by decide) lk7 (fun _ h9 => h9) rfl dX6_goBack_73 ?_
            refine lv_iconst (v := nI 4) hx hb dX6_goBack_76 (by decide) ?_
            refine my_iald hx hb hK hP 1 rfl (by omega) (by omega) dX6_goBack_77 ?_
            rw [show sF z2 r2 f2 j2 nt2 nl2 gl2 gt2 4 = nI nt2 from rfl]
            subst hQz
            exact W.iret (v := nI nt2) hx hb hr (fun t ht hW => ⟨⟨_, (), rfl, ⟨by rfl, by trivial⟩, by rw [ht]; exact hP, hD⟩, hS.F ht⟩) hS.2.2 dX6_goBack_78
          · refine lv_aload_n hx hb dX6_goBack_48 rfl (lv_at hl 2 rfl) ?_
            refine va_get (D := D) (ci := 6) (C := RX6) (T := TX6) (N := 21) hx hb hts hiX6 hown hKv hP 0 rfl rfl 1 (by decide) lk7 (fun _ h9 => h9) rfl dX6_goBack_49 ?_
            refine lv_iload_n hx hb dX6_goBack_52 rfl (lv_at hl 0 rfl) ?_
            refine lv_aload_n hx hb dX6_goBack_53 rfl (lv_at hl 2 rfl) ?_
            refine va_get (D := D) (ci := 6) (C := RX6) (T := TX6) (N := 21) hx hb hts hiX6 hown hKv hP 0 rfl rfl 5 (by decide) lk19 (fun _ h9 => h9) rfl dX6_goBack_54 ?_
            refine lv_sipush (v := nI 226) hx hb dX6_goBack_57 (by decide) ?_
            refine lv_iload_n hx hb dX6_goBack_60 rfl (lv_at hl 1 rfl) ?_
            refine ni_imul hx hb dX6_goBack_61 ?_
            refine lv_iload_n hx hb dX6_goBack_62 rfl (lv_at hl 0 rfl) ?_
            refine ni_iadd hx hb dX6_goBack_63 ?_
            refine my_iald hx hb hK hP 3 rfl (by omega) (by omega) dX6_goBack_64 ?_
            refine my_iast hx hb hK hP hD hS 1 rfl (by omega) (by omega) dX6_goBack_65 (fun H locs hP hD hS => ?_)
            have hP : va_P D vwCl [(om, .inr (6, [.int (nI 0), .ref a1, .ref a2, .ref a3, .int (nI (svN sv)), .ref a4, .ref a5, .ref a6, .int ln, .ref a7, .int bm, .int br, .int ck, .int sa, .ref a8, .int lm, .int rs, .int at_, .ref a9, .int tm, .long hs])), (a1, .inl (ca 0, 226, .inl (upd (cpF (fun k => fl (226 * q + k)) (sF z r f j nt nl gl gt) i) i (fl ((226 * q) + i))))), (a3, .inl (ca 0, 1356, .inl (savF fv sv (sF z r f j nt nl gl gt)))), (a4, .inl (ca 0, 452, .inl fl)), (a5, .inl (ca 1, 2, .inl fh))] H := hP
            have hD : va_D A [(om, .inr (6, [.int (nI 0), .ref a1, .ref a2, .ref a3, .int (nI (svN sv)), .ref a4, .ref a5, .ref a6, .int ln, .ref a7, .int bm, .int br, .int ck, .int sa, .ref a8, .int lm, .int rs, .int at_, .ref a9, .int tm, .long hs])), (a1, .inl (ca 0, 226, .inl (upd (cpF (fun k => fl (226 * q + k)) (sF z r f j nt nl gl gt) i) i (fl ((226 * q) + i))))), (a3, .inl (ca 0, 1356, .inl (savF fv sv (sF z r f j nt nl gl gt)))), (a4, .inl (ca 0, 452, .inl fl)), (a5, .inl (ca 1, 2, .inl fh))] := hD
            refine lv_iinc (v := nI (i + 1)) (lv' := [(2, .int (nI (i + 1))), (1, .int (nI q)), (0, .ref om)]) hx hb dX6_goBack_66 hl (k := 0) rfl (ni_inc _ _ (by decide)) (by decide) rfl (fun ls hl => ?_)
            refine lv_goto (tgt := 41) hx hb dX6_goBack_69 (by decide) ?_
            have e10 : (upd (cpF (fun k => fl (226 * q + k)) (sF z r f j nt nl gl gt) i) i (fl ((226 * q) + i)) : Nat → Int32) = cpF (fun k => fl (226 * q + k)) (sF z r f j nt nl gl gt) (i + 1) := by exact cpF_step (fun k => fl (226 * q + k)) _ i
            have hP : va_P D vwCl [(om, .inr (6, [.int (nI 0), .ref a1, .ref a2, .ref a3, .int (nI (svN sv)), .ref a4, .ref a5, .ref a6, .int ln, .ref a7, .int bm, .int br, .int ck, .int sa, .ref a8, .int lm, .int rs, .int at_, .ref a9, .int tm, .long hs])), (a1, .inl (ca 0, 226, .inl (cpF (fun k => fl (226 * q + k)) (sF z r f j nt nl gl gt) (i + 1)))), (a3, .inl (ca 0, 1356, .inl (savF fv sv (sF z r f j nt nl gl gt)))), (a4, .inl (ca 0, 452, .inl fl)), (a5, .inl (ca 1, 2, .inl fh))] H := Eq.mp (congrArg (fun z9 : Nat → Int32 => va_P D vwCl [(om, .inr (6, [.int (nI 0), .ref a1, .ref a2, .ref a3, .int (nI (svN sv)), .ref a4, .ref a5, .ref a6, .int ln, .ref a7, .int bm, .int br, .int ck, .int sa, .ref a8, .int lm, .int rs, .int at_, .ref a9, .int tm, .long hs])), (a1, .inl (ca 0, 226, .inl z9)), (a3, .inl (ca 0, 1356, .inl (savF fv sv (sF z r f j nt nl gl gt)))), (a4, .inl (ca 0, 452, .inl fl)), (a5, .inl (ca 1, 2, .inl fh))] H) e10) hP
            have hD : va_D A [(om, .inr (6, [.int (nI 0), .ref a1, .ref a2, .ref a3, .int (nI (svN sv)), .ref a4, .ref a5, .ref a6, .int ln, .ref a7, .int bm, .int br, .int ck, .int sa, .ref a8, .int lm, .int rs, .int at_, .ref a9, .int tm, .long hs])), (a1, .inl (ca 0, 226, .inl (cpF (fun k => fl (226 * q + k)) (sF z r f j nt nl gl gt) (i + 1)))), (a3, .inl (ca 0, 1356, .inl (savF fv sv (sF z r f j nt nl gl gt)))), (a4, .inl (ca 0, 452, .inl fl)), (a5, .inl (ca 1, 2, .inl fh))] := Eq.mp (congrArg (fun z9 : Nat → Int32 => va_D A [(om, .inr (6, [.int (nI 0), .ref a1, .ref a2, .ref a3, .int (nI (svN sv)), .ref a4, .ref a5, .ref a6, .int ln, .ref a7, .int bm, .int br, .int ck, .int sa, .ref a8, .int lm, .int rs, .int at_, .ref a9, .int tm, .long hs])), (a1, .inl (ca 0, 226, .inl z9)), (a3, .inl (ca 0, 1356, .inl (savF fv sv (sF z r f j nt nl gl gt)))), (a4, .inl (ca 0, 452, .inl fl)), (a5, .inl (ca 1, 2, .inl fh))]) e10) hD
            exact ih1 (i + 1) (by omega) (by omega) _ _ hP hD hS ls (lv_sub hl [0, 1, 2] rfl)
      have e11 : (sF z r f j nt nl gl gt : Nat → Int32) = cpF (fun k => fl (226 * q + k)) (sF z r f j nt nl gl gt) 0 := by exact (cpF_0 _ _).symm
      have hP : va_P D vwCl [(om, .inr (6, [.int (nI 0), .ref a1, .ref a2, .ref a3, .int (nI (svN sv)), .ref a4, .ref a5, .ref a6, .int ln, .ref a7, .int bm, .int br, .int ck, .int sa, .ref a8, .int lm, .int rs, .int at_, .ref a9, .int tm, .long hs])), (a1, .inl (ca 0, 226, .inl (cpF (fun k => fl (226 * q + k)) (sF z r f j nt nl gl gt) 0))), (a3, .inl (ca 0, 1356, .inl (savF fv sv (sF z r f j nt nl gl gt)))), (a4, .inl (ca 0, 452, .inl fl)), (a5, .inl (ca 1, 2, .inl fh))] H := Eq.mp (congrArg (fun z9 : Nat → Int32 => va_P D vwCl [(om, .inr (6, [.int (nI 0), .ref a1, .ref a2, .ref a3, .int (nI (svN sv)), .ref a4, .ref a5, .ref a6, .int ln, .ref a7, .int bm, .int br, .int ck, .int sa, .ref a8, .int lm, .int rs, .int at_, .ref a9, .int tm, .long hs])), (a1, .inl (ca 0, 226, .inl z9)), (a3, .inl (ca 0, 1356, .inl (savF fv sv (sF z r f j nt nl gl gt)))), (a4, .inl (ca 0, 452, .inl fl)), (a5, .inl (ca 1, 2, .inl fh))] H) e11) hP
      have hD : va_D A [(om, .inr (6, [.int (nI 0), .ref a1, .ref a2, .ref a3, .int (nI (svN sv)), .ref a4, .ref a5, .ref a6, .int ln, .ref a7, .int bm, .int br, .int ck, .int sa, .ref a8, .int lm, .int rs, .int at_, .ref a9, .int tm, .long hs])), (a1, .inl (ca 0, 226, .inl (cpF (fun k => fl (226 * q + k)) (sF z r f j nt nl gl gt) 0))), (a3, .inl (ca 0, 1356, .inl (savF fv sv (sF z r f j nt nl gl gt)))), (a4, .inl (ca 0, 452, .inl fl)), (a5, .inl (ca 1, 2, .inl fh))] := Eq.mp (congrArg (fun z9 : Nat → Int32 => va_D A [(om, .inr (6, [.int (nI 0), .ref a1, .ref a2, .ref a3, .int (nI (svN sv)), .ref a4, .ref a5, .ref a6, .int ln, .ref a7, .int bm, .int br, .int ck, .int sa, .ref a8, .int lm, .int rs, .int at_, .ref a9, .int tm, .long hs])), (a1, .inl (ca 0, 226, .inl z9)), (a3, .inl (ca 0, 1356, .inl (savF fv sv (sF z r f j nt nl gl gt)))), (a4, .inl (ca 0, 452, .inl fl)), (a5, .inl (ca 1, 2, .inl fh))]) e11) hD
      exact lp41_7 ((226 - 0) + 1) 0 (by omega) (by omega) _ _ hP hD hS ls (lv_sub hl [0, 2, 1] rfl)
    · first | exact False.elim c5 | exact absurd c5 (by decide) | (exfalso; omega)
  · first | exact False.elim c3 | exact absurd c3 (by decide) | (exfalso; omega)
abbrev rm_kX6_goBack_bad : Room := { frames := 1, cells := 0, slots := 0, locals := 22 }
set_option maxHeartbeats 4000000 in
set_option maxRecDepth 100000 in
theorem kX6_goBack_bad (l : Launch) (D : va_G) (ca : Nat → ClassId) (sz : Nat) (om a1 a2 a3 a4 a5 a6 a7 a8 a9 : Nat) (thr sv ln bm br ck sa lm rs at_ tm : Int32) (hs : Int64) (z : Nat) (r f j : Int32) (nt nl : Nat) (gl gt : Nat → Int32) (x : Int32) (hnt : nt ≤ 200) (hnl : nl ≤ 20) (hz : z ≤ 30) (hbad : hasF 2 x = false) : Met l yX6_goBack wsX6_goBack rm_kX6_goBack_bad (pcM D ca [.ref om, .int x] [(om, .inr (6, [.int thr, .ref a1, .ref a2, .ref a3, .int sv, .ref a4, .ref a5, .ref a6, .int ln, .ref a7, .int bm, .int br, .int ck, .int sa, .ref a8, .int lm, .int rs, .int at_, .ref a9, .int tm, .long hs])), (a1, .inl (ca 0, 226, .inl (sF z r f j nt nl gl gt)))] sz) (va_Qi (fun (zr : Int32) (u : Unit) => zr = nI 0 ∧ True) (qB D (va_A [(om, .inr (6, [.int thr, .ref a1, .ref a2, .ref a3, .int sv, .ref a4, .ref a5, .ref a6, .int ln, .ref a7, .int bm, .int br, .int ck, .int sa, .ref a8, .int lm, .int rs, .int at_, .ref a9, .int tm, .long hs])), (a1, .inl (ca 0, 226, .inl (sF z r f j nt nl gl gt)))] sz) (fun u : Unit => [(om, .inr (6, [.int (nI 1), .ref a1, .ref a2, .ref a3, .int sv, .ref a4, .ref a5, .ref a6, .int ln, .ref a7, .int bm, .int br, .int ck, .int sa, .ref a8, .int lm, .int rs, .int at_, .ref a9, .int tm, .long hs])), (a1, .inl (ca 0, 226, .inl (sF z r f j nt nl gl gt)))])) (va_A [(om, .inr (6, [.int thr, .ref a1, .ref a2, .ref a3, .int sv, .ref a4, .ref a5, .ref a6, .int ln, .ref a7, .int bm, .int br, .int ck, .int sa, .ref a8, .int lm, .int rs, .int at_, .ref a9, .int tm, .long hs])), (a1, .inl (ca 0, 226, .inl (sF z r f j nt nl gl gt)))] sz)) 0 0 (va_A [(om, .inr (6, [.int thr, .ref a1, .ref a2, .ref a3, .int sv, .ref a4, .ref a5, .ref a6, .int ln, .ref a7, .int bm, .int br, .int ck, .int sa, .ref a8, .int lm, .int rs, .int at_, .ref a9, .int tm, .long hs])), (a1, .inl (ca 0, 226, .inl (sF z r f j nt nl gl gt)))] sz) := by
  refine Met.ofW (cc := cX6_goBack) (maxL := 3) (ret := (some .int)) (by decide) rfl ?_
  intro p e s m args below meth c s₁ B hml hv
  obtain ⟨rfl, hsz, hP, hK, hD0⟩ := hv
  have hx := B.exec
  have hb := B.bytes
  have hr := B.returns
  have hts := atoms_spec (ws := wsX6_goBack) B.pre
  have hown : s.vm.findClass RX6 = some m.cls := findClass_of_methodNamed B.named
  have hlocks := B.notSynchronized
  subst hsz
  have hD := hD0.self (sz := s.heap.size)
  generalize hAe : va_A [(om, .inr (6, [.int thr, .ref a1, .ref a2, .ref a3, .int sv, .ref a4, .ref a5, .ref a6, .int ln, .ref a7, .int bm, .int br, .int ck, .int sa, .ref a8, .int lm, .int rs, .int at_, .ref a9, .int tm, .long hs])), (a1, .inl (ca 0, 226, .inl (sF z r f j nt nl gl gt)))] s.heap.size = A at hD ⊢
  have hA : ∀ q : Nat, s.heap.size ≤ q → A q := fun q h => by rw [← hAe]; exact Or.inr h
  have hS : va_S A s.heap s.heap [] := va_S.rf
  have hP : va_P D vwCl [(om, .inr (6, [.int thr, .ref a1, .ref a2, .ref a3, .int sv, .ref a4, .ref a5, .ref a6, .int ln, .ref a7, .int bm, .int br, .int ck, .int sa, .ref a8, .int lm, .int rs, .int at_, .ref a9, .int tm, .long hs])), (a1, .inl (ca 0, 226, .inl (sF z r f j nt nl gl gt)))] s.heap := hP
  have hKv := hK.1
  have hl := lv_entry ([.ref om, .int x]) (n := 3) (kk_le rfl)
  rw [lg_entry_eq]
  generalize (lg_sl ([.ref om, .int x]) ++ List.replicate (3 - (lg_sl ([.ref om, .int x])).length) Slot.unset).toArray = ls at hl ⊢
  have hl : lv_has ls 3 [(0, .ref om), (1, .int x)] := hl
  have hiX6 : ∀ w ∈ u_ws RX6 TX6 21, w ∈ wsX6_goBack := fun w h => by first | exact List.mem_cons_of_mem _ (List.mem_append_right _ h) | exact List.mem_cons_of_mem _ (List.mem_append_left _ (List.mem_append_right _ h)) | exact List.mem_cons_of_mem _ (List.mem_append_left _ (List.mem_append_left _ (List.mem_append_right _ h))) | exact List.mem_cons_of_mem _ (List.mem_append_left _ (List.mem_append_left _ (List.mem_append_left _ (List.mem_append_right _ h)))) | (revert w h; decide +kernel)
  have lk38 : (Cond.fieldLink RX6 38 "StripeSwipesModel" "thrown" "I").before _ s = true := hts _ (by decide +kernel)
  refine lv_aload_n hx hb dX6_goBack_0 rfl (lv_at hl 0 rfl) ?_
  refine lv_iconst (v := nI 0) hx hb dX6_goBack_1 (by decide) ?_
  refine va_put (D := D) (ci := 6) (v := .int (nI 0)) (ty := .int) (C := RX6) (T := TX6) (N := 21) hx hb hts hiX6 tyX6 tyX6_ok nmX6 hown hKv hP hD hS 0 rfl rfl 0 (by decide) lk38 (fun _ h9 => h9) rfl (by decide +kernel) rfl rfl (kk_le rfl) dX6_goBack_2 (fun H locs hP hD hS => ?_)
  have hP : va_P D vwCl [(om, .inr (6, [.int (nI 0), .ref a1, .ref a2, .ref a3, .int sv, .ref a4, .ref a5, .ref a6, .int ln, .ref a7, .int bm, .int br, .int ck, .int sa, .ref a8, .int lm, .int rs, .int at_, .ref a9, .int tm, .long hs])), (a1, .inl (ca 0, 226, .inl (sF z r f j nt nl gl gt)))] H := hP
  have hD : va_D A [(om, .inr (6, [.int (nI 0), .ref a1, .ref a2, .ref a3, .int sv, .ref a4, .ref a5, .ref a6, .int ln, .ref a7, .int bm, .int br, .int ck, .int sa, .ref a8, .int lm, .int rs, .int at_, .ref a9, .int tm, .long hs])), (a1, .inl (ca 0, 226, .inl (sF z r f j nt nl gl gt)))] := hD
  refine lv_iload_n hx hb dX6_goBack_5 rfl (lv_at hl 1 rfl) ?_
  refine lv_iconst (v := nI 0) hx hb dX6_goBack_6 (by decide) ?_
  refine lv_iconst (v := nI 1) hx hb dX6_goBack_7 (by decide) ?_
  refine vp_callSi (va_Run.run (va_runS (As := [.int x, .int (nI 0), .int (nI 1)]) (rest := []) ⟨hx, hb, hml, hown, hts⟩ (kX6_in l x (nI 0) (nI 1)) (va_cwS 3 hts gX6_goBack_X6_in rfl rfl rfl (by decide +kernel) ⟨kk_le rfl, kk_le rfl⟩) psN rfl rfl hl.1 rfl (lv_room (kk_le rfl)) dX6_goBack_8 ⟨kk_le rfl, kk_le rfl⟩)) (fun r1 hr1 => ?_)
  subst hr1
  have e2 : (bI (inF x (nI 0) (nI 1)) : Int32) = bI false := congrArg bI ((inp_k (n := 2) rfl (by decide)).trans hbad)
  rw [e2]
  refine bi_if_ne (tgt := 20) hx hb dX6_goBack_11 (by decide) (fun c3 => ?_) (fun c3 => ?_)
  · first | exact False.elim c3 | exact absurd c3 (by decide) | (exfalso; omega)
  · refine lv_aload_n hx hb dX6_goBack_14 rfl (lv_at hl 0 rfl) ?_
    refine lv_iconst (v := nI 1) hx hb dX6_goBack_15 (by decide) ?_
    have hPc := hP.sub (ws' := [(om, .inr (6, [.int (nI 0), .ref a1, .ref a2, .ref a3, .int sv, .ref a4, .ref a5, .ref a6, .int ln, .ref a7, .int bm, .int br, .int ck, .int sa, .ref a8, .int lm, .int rs, .int at_, .ref a9, .int tm, .long hs]))]) [0] rfl
    have hDc := hD.sub (ws' := [(om, .inr (6, [.int (nI 0), .ref a1, .ref a2, .ref a3, .int sv, .ref a4, .ref a5, .ref a6, .int ln, .ref a7, .int bm, .int br, .int ck, .int sa, .ref a8, .int lm, .int rs, .int at_, .ref a9, .int tm, .long hs]))]) [0] (by decide) rfl
    have hFc := va_free (wc := [(om, .inr (6, [.int (nI 0), .ref a1, .ref a2, .ref a3, .int sv, .ref a4, .ref a5, .ref a6, .int ln, .ref a7, .int bm, .int br, .int ck, .int sa, .ref a8, .int lm, .int rs, .int at_, .ref a9, .int tm, .long hs]))]) hD hS hA [0] rfl
    refine va_calli (va_runV (As := [.int (nI 1)]) (rest := []) ⟨hx, hb, hml, hown, hts⟩ (kX6_fails l D ca H.size om a1 a2 a3 a4 a5 a6 a7 a8 a9 (nI 0) sv ln bm br ck sa lm rs at_ tm hs (nI 1)) (cwV 1 hts gX6_goBack_X6_fails rfl rfl rfl (by decide +kernel) ⟨kk_le rfl, kk_le rfl⟩) (pvM hK hPc (my_D_true hDc) (va_recv hKv hP (ci := 6) (q0 := 0) rfl rfl)) rfl rfl hl.1 rfl (lv_room (kk_le rfl)) dX6_goBack_16 ⟨kk_le rfl, kk_le rfl⟩) hS (fun q _ h => hFc q h) hFc (fun r4 u t H1 locs ht hvm hwv hBv hz1 hk1 hS => ?_)
    obtain ⟨hP1, hD1⟩ := hBv
    rw [ht] at hP1
    have hP1 : va_P D vwCl [(om, .inr (6, [.int (nI 1), .ref a1, .ref a2, .ref a3, .int sv, .ref a4, .ref a5, .ref a6, .int ln, .ref a7, .int bm, .int br, .int ck, .int sa, .ref a8, .int lm, .int rs, .int at_, .ref a9, .int tm, .long hs]))] H1 := hP1
    have hD1 : va_D _ [(om, .inr (6, [.int (nI 1), .ref a1, .ref a2, .ref a3, .int sv, .ref a4, .ref a5, .ref a6, .int ln, .ref a7, .int bm, .int br, .int ck, .int sa, .ref a8, .int lm, .int rs, .int at_, .ref a9, .int tm, .long hs]))] := hD1
    obtain ⟨hr4, hw4⟩ := hwv
    subst hr4
    obtain ⟨hP, hD⟩ := va_join (wr := [(a1, .inl (ca 0, 226, .inl (sF z r f j nt nl gl gt)))]) (w1 := [(om, .inr (6, [.int (nI 1), .ref a1, .ref a2, .ref a3, .int sv, .ref a4, .ref a5, .ref a6, .int ln, .ref a7, .int bm, .int br, .int ck, .int sa, .ref a8, .int lm, .int rs, .int at_, .ref a9, .int tm, .long hs]))]) hP hD [0] [1] rfl rfl (by decide) (by decide) hk1 hFc hP1 hD1
    generalize H1 = H at hP hS ⊢
    have hP := hP.sub (ws' := [(om, .inr (6, [.int (nI 1), .ref a1, .ref a2, .ref a3, .int sv, .ref a4, .ref a5, .ref a6, .int ln, .ref a7, .int bm, .int br, .int ck, .int sa, .ref a8, .int lm, .int rs, .int at_, .ref a9, .int tm, .long hs])), (a1, .inl (ca 0, 226, .inl (sF z r f j nt nl gl gt)))]) [1, 0] rfl
    have hD := hD.sub (ws' := [(om, .inr (6, [.int (nI 1), .ref a1, .ref a2, .ref a3, .int sv, .ref a4, .ref a5, .ref a6, .int ln, .ref a7, .int bm, .int br, .int ck, .int sa, .ref a8, .int lm, .int rs, .int at_, .ref a9, .int tm, .long hs])), (a1, .inl (ca 0, 226, .inl (sF z r f j nt nl gl gt)))]) [1, 0] (by decide) rfl
    exact W.iret (v := nI 0) hx hb hr (fun t ht hW => ⟨⟨_, (), rfl, ⟨by rfl, by trivial⟩, by rw [ht]; exact hP, hD⟩, hS.F ht⟩) hS.2.2 dX6_goBack_19
abbrev rm_kX6_goBack_bad2 : Room := { frames := 1, cells := 0, slots := 0, locals := 22 }
set_option maxHeartbeats 4000000 in
set_option maxRecDepth 100000 in
theorem kX6_goBack_bad2 (l : Launch) (D : va_G) (ca : Nat → ClassId) (sz : Nat) (om a1 a2 a3 a4 a5 a6 a7 a8 a9 : Nat) (thr sv ln bm br ck sa lm rs at_ tm : Int32) (hs : Int64) (z : Nat) (r f j : Int32) (nt nl : Nat) (gl gt : Nat → Int32) (fh : Nat → Int32) (q : Nat) (hnt : nt ≤ 200) (hnl : nl ≤ 20) (hz : z ≤ 30) (hq : q < 2) (hh : fh q = nI 0) : Met l yX6_goBack wsX6_goBack rm_kX6_goBack_bad2 (pcM D ca [.ref om, .int (nI q)] [(om, .inr (6, [.int thr, .ref a1, .ref a2, .ref a3, .int sv, .ref a4, .ref a5, .ref a6, .int ln, .ref a7, .int bm, .int br, .int ck, .int sa, .ref a8, .int lm, .int rs, .int at_, .ref a9, .int tm, .long hs])), (a1, .inl (ca 0, 226, .inl (sF z r f j nt nl gl gt))), (a5, .inl (ca 1, 2, .inl fh))] sz) (va_Qi (fun (zr : Int32) (u : Unit) => zr = nI 0 ∧ True) (qB D (va_A [(om, .inr (6, [.int thr, .ref a1, .ref a2, .ref a3, .int sv, .ref a4, .ref a5, .ref a6, .int ln, .ref a7, .int bm, .int br, .int ck, .int sa, .ref a8, .int lm, .int rs, .int at_, .ref a9, .int tm, .long hs])), (a1, .inl (ca 0, 226, .inl (sF z r f j nt nl gl gt))), (a5, .inl (ca 1, 2, .inl fh))] sz) (fun u : Unit => [(om, .inr (6, [.int (nI 2), .ref a1, .ref a2, .ref a3, .int sv, .ref a4, .ref a5, .ref a6, .int ln, .ref a7, .int bm, .int br, .int ck, .int sa, .ref a8, .int lm, .int rs, .int at_, .ref a9, .int tm, .long hs])), (a1, .inl (ca 0, 226, .inl (sF z r f j nt nl gl gt))), (a5, .inl (ca 1, 2, .inl fh))])) (va_A [(om, .inr (6, [.int thr, .ref a1, .ref a2, .ref a3, .int sv, .ref a4, .ref a5, .ref a6, .int ln, .ref a7, .int bm, .int br, .int ck, .int sa, .ref a8, .int lm, .int rs, .int at_, .ref a9, .int tm, .long hs])), (a1, .inl (ca 0, 226, .inl (sF z r f j nt nl gl gt))), (a5, .inl (ca 1, 2, .inl fh))] sz)) 0 0 (va_A [(om, .inr (6, [.int thr, .ref a1, .ref a2, .ref a3, .int sv, .ref a4, .ref a5, .ref a6, .int ln, .ref a7, .int bm, .int br, .int ck, .int sa, .ref a8, .int lm, .int rs, .int at_, .ref a9, .int tm, .long hs])), (a1, .inl (ca 0, 226, .inl (sF z r f j nt nl gl gt))), (a5, .inl (ca 1, 2, .inl fh))] sz) := by
  refine Met.ofW (cc := cX6_goBack) (maxL := 3) (ret := (some .int)) (by decide) rfl ?_
  intro p e s m args below meth c s₁ B hml hv
  obtain ⟨rfl, hsz, hP, hK, hD0⟩ := hv
  have hx := B.exec
  have hb := B.bytes
  have hr := B.returns
  have hts := atoms_spec (ws := wsX6_goBack) B.pre
  have hown : s.vm.findClass RX6 = some m.cls := findClass_of_methodNamed B.named
  have hlocks := B.notSynchronized
  subst hsz
  have hD := hD0.self (sz := s.heap.size)
  generalize hAe : va_A [(om, .inr (6, [.int thr, .ref a1, .ref a2, .ref a3, .int sv, .ref a4, .ref a5, .ref a6, .int ln, .ref a7, .int bm, .int br, .int ck, .int sa, .ref a8, .int lm, .int rs, .int at_, .ref a9, .int tm, .long hs])), (a1, .inl (ca 0, 226, .inl (sF z r f j nt nl gl gt))), (a5, .inl (ca 1, 2, .inl fh))] s.heap.size = A at hD ⊢
  have hA : ∀ q : Nat, s.heap.size ≤ q → A q := fun q h => by rw [← hAe]; exact Or.inr h
  have hS : va_S A s.heap s.heap [] := va_S.rf
  have hP : va_P D vwCl [(om, .inr (6, [.int thr, .ref a1, .ref a2, .ref a3, .int sv, .ref a4, .ref a5, .ref a6, .int ln, .ref a7, .int bm, .int br, .int ck, .int sa, .ref a8, .int lm, .int rs, .int at_, .ref a9, .int tm, .long hs])), (a1, .inl (ca 0, 226, .inl (sF z r f j nt nl gl gt))), (a5, .inl (ca 1, 2, .inl fh))] s.heap := hP
  have hKv := hK.1
  have hl := lv_entry ([.ref om, .int (nI q)]) (n := 3) (kk_le rfl)
  rw [lg_entry_eq]
  generalize (lg_sl ([.ref om, .int (nI q)]) ++ List.replicate (3 - (lg_sl ([.ref om, .int (nI q)])).length) Slot.unset).toArray = ls at hl ⊢
  have hl : lv_has ls 3 [(0, .ref om), (1, .int (nI q))] := hl
  have hiX6 : ∀ w ∈ u_ws RX6 TX6 21, w ∈ wsX6_goBack := fun w h => by first | exact List.mem_cons_of_mem _ (List.mem_append_right _ h) | exact List.mem_cons_of_mem _ (List.mem_append_left _ (List.mem_append_right _ h)) | exact List.mem_cons_of_mem _ (List.mem_append_left _ (List.mem_append_left _ (List.mem_append_right _ h))) | exact List.mem_cons_of_mem _ (List.mem_append_left _ (List.mem_append_left _ (List.mem_append_left _ (List.mem_append_right _ h)))) | (revert w h; decide +kernel)
  have lk38 : (Cond.fieldLink RX6 38 "StripeSwipesModel" "thrown" "I").before _ s = true := hts _ (by decide +kernel)
  have lk22 : (Cond.fieldLink RX6 22 "StripeSwipesModel" "hasSlot" "[Z").before _ s = true := hts _ (by decide +kernel)
  refine lv_aload_n hx hb dX6_goBack_0 rfl (lv_at hl 0 rfl) ?_
  refine lv_iconst (v := nI 0) hx hb dX6_goBack_1 (by decide) ?_
  refine va_put (D := D) (ci := 6) (v := .int (nI 0)) (ty := .int) (C := RX6) (T := TX6) (N := 21) hx hb hts hiX6 tyX6 tyX6_ok nmX6 hown hKv hP hD hS 0 rfl rfl 0 (by decide) lk38 (fun _ h9 => h9) rfl (by decide +kernel) rfl rfl (kk_le rfl) dX6_goBack_2 (fun H locs hP hD hS => ?_)
  have hP : va_P D vwCl [(om, .inr (6, [.int (nI 0), .ref a1, .ref a2, .ref a3, .int sv, .ref a4, .ref a5, .ref a6, .int ln, .ref a7, .int bm, .int br, .int ck, .int sa, .ref a8, .int lm, .int rs, .int at_, .ref a9, .int tm, .long hs])), (a1, .inl (ca 0, 226, .inl (sF z r f j nt nl gl gt))), (a5, .inl (ca 1, 2, .inl fh))] H := hP
  have hD : va_D A [(om, .inr (6, [.int (nI 0), .ref a1, .ref a2, .ref a3, .int sv, .ref a4, .ref a5, .ref a6, .int ln, .ref a7, .int bm, .int br, .int ck, .int sa, .ref a8, .int lm, .int rs, .int at_, .ref a9, .int tm, .long hs])), (a1, .inl (ca 0, 226, .inl (sF z r f j nt nl gl gt))), (a5, .inl (ca 1, 2, .inl fh))] := hD
  refine lv_iload_n hx hb dX6_goBack_5 rfl (lv_at hl 1 rfl) ?_
  refine lv_iconst (v := nI 0) hx hb dX6_goBack_6 (by decide) ?_
  refine lv_iconst (v := nI 1) hx hb dX6_goBack_7 (by decide) ?_
  refine vp_callSi (va_Run.run (va_runS (As := [.int (nI q), .int (nI 0), .int (nI 1)]) (rest := []) ⟨hx, hb, hml, hown, hts⟩ (kX6_in l (nI q) (nI 0) (nI 1)) (va_cwS 3 hts gX6_goBack_X6_in rfl rfl rfl (by decide +kernel) ⟨kk_le rfl, kk_le rfl⟩) psN rfl rfl hl.1 rfl (lv_room (kk_le rfl)) dX6_goBack_8 ⟨kk_le rfl, kk_le rfl⟩)) (fun r1 hr1 => ?_)
  subst hr1
  have e2 : (bI (inF (nI q) (nI 0) (nI 1)) : Int32) = bI true := congrArg bI ((inp_k (n := 2) rfl (by decide)).trans ((hasF_n (by omega) (by omega)).trans (decide_eq_true (by omega))))
  rw [e2]
  refine bi_if_ne (tgt := 20) hx hb dX6_goBack_11 (by decide) (fun c3 => ?_) (fun c3 => ?_)
  · refine lv_aload_n hx hb dX6_goBack_20 rfl (lv_at hl 0 rfl) ?_
    refine va_get (D := D) (ci := 6) (C := RX6) (T := TX6) (N := 21) hx hb hts hiX6 hown hKv hP 0 rfl rfl 6 (by decide) lk22 (fun _ h9 => h9) rfl dX6_goBack_21 ?_
    refine lv_iload_n hx hb dX6_goBack_24 rfl (lv_at hl 1 rfl) ?_
    refine my_zald hx hb hK hP 2 rfl (by omega) (by omega) dX6_goBack_25 ?_
    have e4 : (fh q : Int32) = nI 0 := hh
    rw [e4]
    refine ni_if_ne (tgt := 35) (by omega) hx hb dX6_goBack_26 (by decide) (fun c5 => ?_) (fun c5 => ?_)
    · first | exact False.elim c5 | exact absurd c5 (by decide) | (exfalso; omega)
    · refine lv_aload_n hx hb dX6_goBack_29 rfl (lv_at hl 0 rfl) ?_
      refine lv_iconst (v := nI 2) hx hb dX6_goBack_30 (by decide) ?_
      have hPc := hP.sub (ws' := [(om, .inr (6, [.int (nI 0), .ref a1, .ref a2, .ref a3, .int sv, .ref a4, .ref a5, .ref a6, .int ln, .ref a7, .int bm, .int br, .int ck, .int sa, .ref a8, .int lm, .int rs, .int at_, .ref a9, .int tm, .long hs]))]) [0] rfl
      have hDc := hD.sub (ws' := [(om, .inr (6, [.int (nI 0), .ref a1, .ref a2, .ref a3, .int sv, .ref a4, .ref a5, .ref a6, .int ln, .ref a7, .int bm, .int br, .int ck, .int sa, .ref a8, .int lm, .int rs, .int at_, .ref a9, .int tm, .long hs]))]) [0] (by decide) rfl
      have hFc := va_free (wc := [(om, .inr (6, [.int (nI 0), .ref a1, .ref a2, .ref a3, .int sv, .ref a4, .ref a5, .ref a6, .int ln, .ref a7, .int bm, .int br, .int ck, .int sa, .ref a8, .int lm, .int rs, .int at_, .ref a9, .int tm, .long hs]))]) hD hS hA [0] rfl
      refine va_calli (va_runV (As := [.int (nI 2)]) (rest := []) ⟨hx, hb, hml, hown, hts⟩ (kX6_fails l D ca H.size om a1 a2 a3 a4 a5 a6 a7 a8 a9 (nI 0) sv ln bm br ck sa lm rs at_ tm hs (nI 2)) (cwV 1 hts gX6_goBack_X6_fails rfl rfl rfl (by decide +kernel) ⟨kk_le rfl, kk_le rfl⟩) (pvM hK hPc (my_D_true hDc) (va_recv hKv hP (ci := 6) (q0 := 0) rfl rfl)) rfl rfl hl.1 rfl (lv_room (kk_le rfl)) dX6_goBack_31 ⟨kk_le rfl, kk_le rfl⟩) hS (fun q _ h => hFc q h) hFc (fun r6 u t H1 locs ht hvm hwv hBv hz1 hk1 hS => ?_)
      obtain ⟨hP1, hD1⟩ := hBv
      rw [ht] at hP1
      have hP1 : va_P D vwCl [(om, .inr (6, [.int (nI 2), .ref a1, .ref a2, .ref a3, .int sv, .ref a4, .ref a5, .ref a6, .int ln, .ref a7, .int bm, .int br, .int ck, .int sa, .ref a8, .int lm, .int rs, .int at_, .ref a9, .int tm, .long hs]))] H1 := hP1
      have hD1 : va_D _ [(om, .inr (6, [.int (nI 2), .ref a1, .ref a2, .ref a3, .int sv, .ref a4, .ref a5, .ref a6, .int ln, .ref a7, .int bm, .int br, .int ck, .int sa, .ref a8, .int lm, .int rs, .int at_, .ref a9, .int tm, .long hs]))] := hD1
      obtain ⟨hr6, hw6⟩ := hwv
      subst hr6
      obtain ⟨hP, hD⟩ := va_join (wr := [(a1, .inl (ca 0, 226, .inl (sF z r f j nt nl gl gt))), (a5, .inl (ca 1, 2, .inl fh))]) (w1 := [(om, .inr (6, [.int (nI 2), .ref a1, .ref a2, .ref a3, .int sv, .ref a4, .ref a5, .ref a6, .int ln, .ref a7, .int bm, .int br, .int ck, .int sa, .ref a8, .int lm, .int rs, .int at_, .ref a9, .int tm, .long hs]))]) hP hD [0] [1, 2] rfl rfl (by decide) (by decide) hk1 hFc hP1 hD1
      generalize H1 = H at hP hS ⊢
      have hP := hP.sub (ws' := [(om, .inr (6, [.int (nI 2), .ref a1, .ref a2, .ref a3, .int sv, .ref a4, .ref a5, .ref a6, .int ln, .ref a7, .int bm, .int br, .int ck, .int sa, .ref a8, .int lm, .int rs, .int at_, .ref a9, .int tm, .long hs])), (a1, .inl (ca 0, 226, .inl (sF z r f j nt nl gl gt))), (a5, .inl (ca 1, 2, .inl fh))]) [2, 0, 1] rfl
      have hD := hD.sub (ws' := [(om, .inr (6, [.int (nI 2), .ref a1, .ref a2, .ref a3, .int sv, .ref a4, .ref a5, .ref a6, .int ln, .ref a7, .int bm, .int br, .int ck, .int sa, .ref a8, .int lm, .int rs, .int at_, .ref a9, .int tm, .long hs])), (a1, .inl (ca 0, 226, .inl (sF z r f j nt nl gl gt))), (a5, .inl (ca 1, 2, .inl fh))]) [2, 0, 1] (by decide) rfl
      exact W.iret (v := nI 0) hx hb hr (fun t ht hW => ⟨⟨_, (), rfl, ⟨by rfl, by trivial⟩, by rw [ht]; exact hP, hD⟩, hS.F ht⟩) hS.2.2 dX6_goBack_34
  · first | exact False.elim c3 | exact absurd c3 (by decide) | (exfalso; omega)
abbrev rm_kX6_undo_ok : Room := { frames := 0, cells := 0, slots := 0, locals := 0 }
set_option maxHeartbeats 4000000 in
set_option maxRecDepth 100000 in
theorem kX6_undo_ok (l : Launch) (D : va_G) (ca : Nat → ClassId) (sz : Nat) (om a1 a2 a3 a4 a5 a6 a7 a8 a9 : Nat) (thr ln bm br ck sa lm rs at_ tm : Int32) (hs : Int64) (sv : Nat) (z : Nat) (r f j : Int32) (nt nl : Nat) (gl gt : Nat → Int32) (fv : Nat → Int32) (z2 : Nat) (r2 f2 j2 : Int32) (nt2 nl2 : Nat) (gl2 gt2 : Nat → Int32) (hnt : nt ≤ 200) (hnl : nl ≤ 20) (hz : z ≤ 30) (hsv : sv ≤ 6) (h1 : 1 ≤ sv) (hsl : ∀ k, k < 226 → (fun k => fv (226 * (sv - 1) + k)) k = sF z2 r2 f2 j2 nt2 nl2 gl2 gt2 k) : Met l yX6_undo wsX6_undo rm_kX6_undo_ok (pcM D ca [.ref om] [(om, .inr (6, [.int thr, .ref a1, .ref a2, .ref a3, .int (nI sv), .ref a4, .ref a5, .ref a6, .int ln, .ref a7, .int bm, .int br, .int ck, .int sa, .ref a8, .int lm, .int rs, .int at_, .ref a9, .int tm, .long hs])), (a1, .inl (ca 0, 226, .inl (sF z r f j nt nl gl gt))), (a3, .inl (ca 0, 1356, .inl fv))] sz) (va_Qi (fun (zr : Int32) (u : Unit) => zr = nI (sv - 1) ∧ True) (qB D (va_A [(om, .inr (6, [.int thr, .ref a1, .ref a2, .ref a3, .int (nI sv), .ref a4, .ref a5, .ref a6, .int ln, .ref a7, .int bm, .int br, .int ck, .int sa, .ref a8, .int lm, .int rs, .int at_, .ref a9, .int tm, .long hs])), (a1, .inl (ca 0, 226, .inl (sF z r f j nt nl gl gt))), (a3, .inl (ca 0, 1356, .inl fv))] sz) (fun u : Unit => [(om, .inr (6, [.int (nI 0), .ref a1, .ref a2, .ref a3, .int (nI (sv - 1)), .ref a4, .ref a5, .ref a6, .int ln, .ref a7, .int bm, .int br, .int ck, .int sa, .ref a8, .int lm, .int rs, .int at_, .ref a9, .int tm, .long hs])), (a1, .inl (ca 0, 226, .inl (sF z2 r2 f2 j2 nt2 nl2 gl2 gt2))), (a3, .inl (ca 0, 1356, .inl fv))])) (va_A [(om, .inr (6, [.int thr, .ref a1, .ref a2, .ref a3, .int (nI sv), .ref a4, .ref a5, .ref a6, .int ln, .ref a7, .int bm, .int br, .int ck, .int sa, .ref a8, .int lm, .int rs, .int at_, .ref a9, .int tm, .long hs])), (a1, .inl (ca 0, 226, .inl (sF z r f j nt nl gl gt))), (a3, .inl (ca 0, 1356, .inl fv))] sz)) 0 0 (va_A [(om, .inr (6, [.int thr, .ref a1, .ref a2, .ref a3, .int (nI sv), .ref a4, .ref a5, .ref a6, .int ln, .ref a7, .int bm, .int br, .int ck, .int sa, .ref a8, .int lm, .int rs, .int at_, .ref a9, .int tm, .long hs])), (a1, .inl (ca 0, 226, .inl (sF z r f j nt nl gl gt))), (a3, .inl (ca 0, 1356, .inl fv))] sz) := by
  refine Met.ofW (cc := cX6_undo) (maxL := 2) (ret := (some .int)) (by decide) rfl ?_
  intro p e s m args below meth c s₁ B hml hv
  obtain ⟨rfl, hsz, hP, hK, hD0⟩ := hv
  have hx := B.exec
  have hb := B.bytes
  have hr := B.returns
  have hts := atoms_spec (ws := wsX6_undo) B.pre
  have hown : s.vm.findClass RX6 = some m.cls := findClass_of_methodNamed B.named
  have hlocks := B.notSynchronized
  subst hsz
  have hD := hD0.self (sz := s.heap.size)
  generalize hAe : va_A [(om, .inr (6, [.int thr, .ref a1, .ref a2, .ref a3, .int (nI sv), .ref a4, .ref a5, .ref a6, .int ln, .ref a7, .int bm, .int br, .int ck, .int sa, .ref a8, .int lm, .int rs, .int at_, .ref a9, .int tm, .long hs])), (a1, .inl (ca 0, 226, .inl (sF z r f j nt nl gl gt))), (a3, .inl (ca 0, 1356, .inl fv))] s.heap.size = A at hD ⊢
  have hA : ∀ q : Nat, s.heap.size ≤ q → A q := fun q h => by rw [← hAe]; exact Or.inr h
  have hS : va_S A s.heap s.heap [] := va_S.rf
  have hP : va_P D vwCl [(om, .inr (6, [.int thr, .ref a1, .ref a2, .ref a3, .int (nI sv), .ref a4, .ref a5, .ref a6, .int ln, .ref a7, .int bm, .int br, .int ck, .int sa, .ref a8, .int lm, .int rs, .int at_, .ref a9, .int tm, .long hs])), (a1, .inl (ca 0, 226, .inl (sF z r f j nt nl gl gt))), (a3, .inl (ca 0, 1356, .inl fv))] s.heap := hP
  have hKv := hK.1
  have hl := lv_entry ([.ref om]) (n := 2) (kk_le rfl)
  rw [lg_entry_eq]
  generalize (lg_sl ([.ref om]) ++ List.replicate (2 - (lg_sl ([.ref om])).length) Slot.unset).toArray = ls at hl ⊢
  have hl : lv_has ls 2 [(0, .ref om)] := hl
  generalize hQz : MQ below _ _ _ _ _ _ = Qz
  have hiX6 : ∀ w ∈ u_ws RX6 TX6 21, w ∈ wsX6_undo := fun w h => by first | exact List.mem_cons_of_mem _ (List.mem_append_right _ h) | exact List.mem_cons_of_mem _ (List.mem_append_left _ (List.mem_append_right _ h)) | exact List.mem_cons_of_mem _ (List.mem_append_left _ (List.mem_append_left _ (List.mem_append_right _ h))) | exact List.mem_cons_of_mem _ (List.mem_append_left _ (List.mem_append_left _ (List.mem_append_left _ (List.mem_append_right _ h)))) | (revert w h; decide +kernel)
  have lk38 : (Cond.fieldLink RX6 38 "StripeSwipesModel" "thrown" "I").before _ s = true := hts _ (by decide +kernel)
  have lk42 : (Cond.fieldLink RX6 42 "StripeSwipesModel" "savedMany" "I").before _ s = true := hts _ (by decide +kernel)
  have lk7 : (Cond.fieldLink RX6 7 "StripeSwipesModel" "s" "[I").before _ s = true := hts _ (by decide +kernel)
  have lk16 : (Cond.fieldLink RX6 16 "StripeSwipesModel" "saved" "[I").before _ s = true := hts _ (by decide +kernel)
  refine lv_aload_n hx hb dX6_undo_0 rfl (lv_at hl 0 rfl) ?_
  refine lv_iconst (v := nI 0) hx hb dX6_undo_1 (by decide) ?_
  refine va_put (D := D) (ci := 6) (v := .int (nI 0)) (ty := .int) (C := RX6) (T := TX6) (N := 21) hx hb hts hiX6 tyX6 tyX6_ok nmX6 hown hKv hP hD hS 0 rfl rfl 0 (by decide) lk38 (fun _ h9 => h9) rfl (by decide +kernel) rfl rfl (kk_le rfl) dX6_undo_2 (fun H locs hP hD hS => ?_)
  have hP : va_P D vwCl [(om, .inr (6, [.int (nI 0), .ref a1, .ref a2, .ref a3, .int (nI sv), .ref a4, .ref a5, .ref a6, .int ln, .ref a7, .int bm, .int br, .int ck, .int sa, .ref a8, .int lm, .int rs, .int at_, .ref a9, .int tm, .long hs])), (a1, .inl (ca 0, 226, .inl (sF z r f j nt nl gl gt))), (a3, .inl (ca 0, 1356, .inl fv))] H := hP
  have hD : va_D A [(om, .inr (6, [.int (nI 0), .ref a1, .ref a2, .ref a3, .int (nI sv), .ref a4, .ref a5, .ref a6, .int ln, .ref a7, .int bm, .int br, .int ck, .int sa, .ref a8, .int lm, .int rs, .int at_, .ref a9, .int tm, .long hs])), (a1, .inl (ca 0, 226, .inl (sF z r f j nt nl gl gt))), (a3, .inl (ca 0, 1356, .inl fv))] := hD
  refine lv_aload_n hx hb dX6_undo_5 rfl (lv_at hl 0 rfl) ?_
  refine va_get (D := D) (ci := 6) (C := RX6) (T := TX6) (N := 21) hx hb hts hiX6 hown hKv hP 0 rfl rfl 4 (by decide) lk42 (fun _ h9 => h9) rfl dX6_undo_6 ?_
  refine ni_if_ne (tgt := 18) (by omega) hx hb dX6_undo_9 (by decide) (fun c1 => ?_) (fun c1 => ?_)
  · refine lv_aload_n hx hb dX6_undo_18 rfl (lv_at hl 0 rfl) ?_
    refine lv_dup hx hb dX6_undo_19 rfl ?_
    refine va_get (D := D) (ci := 6) (C := RX6) (T := TX6) (N := 21) hx hb hts hiX6 hown hKv hP 0 rfl rfl 4 (by decide) lk42 (fun _ h9 => h9) rfl dX6_undo_20 ?_
    refine lv_iconst (v := nI 1) hx hb dX6_undo_23 (by decide) ?_
    refine ni_isub (by omega) hx hb dX6_undo_24 ?_
    refine va_put (D := D) (ci := 6) (v := .int (nI (sv - 1))) (ty := .int) (C := RX6) (T := TX6) (N := 21) hx hb hts hiX6 tyX6 tyX6_ok nmX6 hown hKv hP hD hS 0 rfl rfl 4 (by decide) lk42 (fun _ h9 => h9) rfl (by decide +kernel) rfl rfl (kk_le rfl) dX6_undo_25 (fun H locs hP hD hS => ?_)
    have hP : va_P D vwCl [(om, .inr (6, [.int (nI 0), .ref a1, .ref a2, .ref a3, .int (nI (sv - 1)), .ref a4, .ref a5, .ref a6, .int ln, .ref a7, .int bm, .int br, .int ck, .int sa, .ref a8, .int lm, .int rs, .int at_, .ref a9, .int tm, .long hs])), (a1, .inl (ca 0, 226, .inl (sF z r f j nt nl gl gt))), (a3, .inl (ca 0, 1356, .inl fv))] H := hP
    have hD : va_D A [(om, .inr (6, [.int (nI 0), .ref a1, .ref a2, .ref a3, .int (nI (sv - 1)), .ref a4, .ref a5, .ref a6, .int ln, .ref a7, .int bm, .int br, .int ck, .int sa, .ref a8, .int lm, .int rs, .int at_, .ref a9, .int tm, .long hs])), (a1, .inl (ca 0, 226, .inl (sF z r f j nt nl gl gt))), (a3, .inl (ca 0, 1356, .inl fv))] := hD
    refine lv_iconst (v := nI 0) hx hb dX6_undo_28 (by decide) ?_
    refine lv_istore_n (lv' := [(1, .int (nI 0)), (0, .ref om)]) hx hb dX6_undo_29 rfl hl (by decide) rfl (fun ls hl => ?_)
    have lp30_1 : ∀ (k1 : Nat) (i : Nat), 226 - i < k1 → (i ≤ 226) → ∀ (H : Heap) (locs : List Loc), va_P D vwCl [(om, .inr (6, [.int (nI 0), .ref a1, .ref a2, .ref a3, .int (nI (sv - 1)), .ref a4, .ref a5, .ref a6, .int ln, .ref a7, .int bm, .int br, .int ck, .int sa, .ref a8, .int lm, .int rs, .int at_, .ref a9, .int tm, .long hs])), (a1, .inl (ca 0, 226, .inl (cpF (fun k => fv (226 * (sv - 1) + k)) (sF z r f j nt nl gl gt) i))), (a3, .inl (ca 0, 1356, .inl fv))] H → va_D A [(om, .inr (6, [.int (nI 0), .ref a1, .ref a2, .ref a3, .int (nI (sv - 1)), .ref a4, .ref a5, .ref a6, .int ln, .ref a7, .int bm, .int br, .int ck, .int sa, .ref a8, .int lm, .int rs, .int at_, .ref a9, .int tm, .long hs])), (a1, .inl (ca 0, 226, .inl (cpF (fun k => fv (226 * (sv - 1) + k)) (sF z r f j nt nl gl gt) i))), (a3, .inl (ca 0, 1356, .inl fv))] → va_S A s.heap H locs → ∀ (ls : Array Slot), lv_has ls 2 [(1, .int (nI i)), (0, .ref om)] → W p l e rm_kX6_undo_ok s m ([.ref om] : List Value).toArray below meth c H locs 0 0 Qz (F0 m 30 ls []) := by
      intro k1
      induction k1 with
      | zero => intro i hm1; exact absurd hm1 (Nat.not_lt_zero _)
      | succ k1 ih1 =>
        intro i hm1 hi H locs hP hD hS ls hl
        refine lv_iload_n hx hb dX6_undo_30 rfl (lv_at hl 0 rfl) ?_
        refine lv_sipush (v := nI 226) hx hb dX6_undo_31 (by decide) ?_
        refine ni_icmp_ge (tgt := 64) (by omega) (by omega) hx hb dX6_undo_34 (by decide) (fun c3 => ?_) (fun c3 => ?_)
        · have hP := my_P_alt (f2 := sF z2 r2 f2 j2 nt2 nl2 gl2 gt2) hP 1 rfl (sF_copy z2 r2 f2 j2 nt2 nl2 gl2 gt2 _ _ hsl (by omega))
          have hD := my_D_alt (f2 := sF z2 r2 f2 j2 nt2 nl2 gl2 gt2) hD 1 rfl
          have hP : va_P D vwCl [(om, .inr (6, [.int (nI 0), .ref a1, .ref a2, .ref a3, .int (nI (sv - 1)), .ref a4, .ref a5, .ref a6, .int ln, .ref a7, .int bm, .int br, .int ck, .int sa, .ref a8, .int lm, .int rs, .int at_, .ref a9, .int tm, .long hs])), (a1, .inl (ca 0, 226, .inl (sF z2 r2 f2 j2 nt2 nl2 gl2 gt2))), (a3, .inl (ca 0, 1356, .inl fv))] H := hP
          have hD : va_D A [(om, .inr (6, [.int (nI 0), .ref a1, .ref a2, .ref a3, .int (nI (sv - 1)), .ref a4, .ref a5, .ref a6, .int ln, .ref a7, .int bm, .int br, .int ck, .int sa, .ref a8, .int lm, .int rs, .int at_, .ref a9, .int tm, .long hs])), (a1, .inl (ca 0, 226, .inl (sF z2 r2 f2 j2 nt2 nl2 gl2 gt2))), (a3, .inl (ca 0, 1356, .inl fv))] := hD
          refine lv_aload_n hx hb dX6_undo_64 rfl (lv_at hl 1 rfl) ?_
          refine va_get (D := D) (ci := 6) (C := RX6) (T := TX6) (N := 21) hx hb hts hiX6 hown hKv hP 0 rfl rfl 4 (by decide) lk42 (fun _ h9 => h9) rfl dX6_undo_65 ?_
          subst hQz
          exact W.iret (v := nI (sv - 1)) hx hb hr (fun t ht hW => ⟨⟨_, (), rfl, ⟨by rfl, by trivial⟩, by rw [ht]; exact hP, hD⟩, hS.F ht⟩) hS.2.2 dX6_undo_68
        · refine lv_aload_n hx hb dX6_undo_37 rfl (lv_at hl 1 rfl) ?_
          refine va_get (D := D) (ci := 6) (C := RX6) (T := TX6) (N := 21) hx hb hts hiX6 hown hKv hP 0 rfl rfl 1 (by decide) lk7 (fun _ h9 => h9) rfl dX6_undo_38 ?_
          refine lv_iload_n hx hb dX6_undo_41 rfl (lv_at hl 0 rfl) ?_
          refine lv_aload_n hx hb dX6_undo_42 rfl (lv_at hl 1 rfl) ?_
          refine va_get (D := D) (ci := 6) (C := RX6) (T := TX6) (N := 21) hx hb hts hiX6 hown hKv hP 0 rfl rfl 3 (by decide) lk16 (fun _ h9 => h9) rfl dX6_undo_43 ?_
          refine lv_sipush (v := nI 226) hx hb dX6_undo_46 (by decide) ?_
          refine lv_aload_n hx hb dX6_undo_49 rfl (lv_at hl 1 rfl) ?_
          refine va_get (D := D) (ci := 6) (C := RX6) (T := TX6) (N := 21) hx hb hts hiX6 hown hKv hP 0 rfl rfl 4 (by decide) lk42 (fun _ h9 => h9) rfl dX6_undo_50 ?_
          refine ni_imul hx hb dX6_undo_53 ?_
          refine lv_iload_n hx hb dX6_undo_54 rfl (lv_at hl 0 rfl) ?_
          refine ni_iadd hx hb dX6_undo_55 ?_
          refine my_iald hx hb hK hP 2 rfl (by omega) (by omega) dX6_undo_56 ?_
          refine my_iast hx hb hK hP hD hS 1 rfl (by omega) (by omega) dX6_undo_57 (fun H locs hP hD hS => ?_)
          have hP : va_P D vwCl [(om, .inr (6, [.int (nI 0), .ref a1, .ref a2, .ref a3, .int (nI (sv - 1)), .ref a4, .ref a5, .ref a6, .int ln, .ref a7, .int bm, .int br, .int ck, .int sa, .ref a8, .int lm, .int rs, .int at_, .ref a9, .int tm, .long hs])), (a1, .inl (ca 0, 226, .inl (upd (cpF (fun k => fv (226 * (sv - 1) + k)) (sF z r f j nt nl gl gt) i) i (fv ((226 * (sv - 1)) + i))))), (a3, .inl (ca 0, 1356, .inl fv))] H := hP
          have hD : va_D A [(om, .inr (6, [.int (nI 0), .ref a1, .ref a2, .ref a3, .int (nI (sv - 1)), .ref a4, .ref a5, .ref a6, .int ln, .ref a7, .int bm, .int br, .int ck, .int sa, .ref a8, .int lm, .int rs, .int at_, .ref a9, .int tm, .long hs])), (a1, .inl (ca 0, 226, .inl (upd (cpF (fun k => fv (226 * (sv - 1) + k)) (sF z r f j nt nl gl gt) i) i (fv ((226 * (sv - 1)) + i))))), (a3, .inl (ca 0, 1356, .inl fv))] := hD
          refine lv_iinc (v := nI (i + 1)) (lv' := [(1, .int (nI (i + 1))), (0, .ref om)]) hx hb dX6_undo_58 hl (k := 0) rfl (ni_inc _ _ (by decide)) (by decide) rfl (fun ls hl => ?_)
          refine lv_goto (tgt := 30) hx hb dX6_undo_61 (by decide) ?_
          have e4 : (upd (cpF (fun k => fv (226 * (sv - 1) + k)) (sF z r f j nt nl gl gt) i) i (fv ((226 * (sv - 1)) + i)) : Nat → Int32) = cpF (fun k => fv (226 * (sv - 1) + k)) (sF z r f j nt nl gl gt) (i + 1) := by exact cpF_step (fun k => fv (226 * (sv - 1) + k)) _ i
          have hP : va_P D vwCl [(om, .inr (6, [.int (nI 0), .ref a1, .ref a2, .ref a3, .int (nI (sv - 1)), .ref a4, .ref a5, .ref a6, .int ln, .ref a7, .int bm, .int br, .int ck, .int sa, .ref a8, .int lm, .int rs, .int at_, .ref a9, .int tm, .long hs])), (a1, .inl (ca 0, 226, .inl (cpF (fun k => fv (226 * (sv - 1) + k)) (sF z r f j nt nl gl gt) (i + 1)))), (a3, .inl (ca 0, 1356, .inl fv))] H := Eq.mp (congrArg (fun z9 : Nat → Int32 => va_P D vwCl [(om, .inr (6, [.int (nI 0), .ref a1, .ref a2, .ref a3, .int (nI (sv - 1)), .ref a4, .ref a5, .ref a6, .int ln, .ref a7, .int bm, .int br, .int ck, .int sa, .ref a8, .int lm, .int rs, .int at_, .ref a9, .int tm, .long hs])), (a1, .inl (ca 0, 226, .inl z9)), (a3, .inl (ca 0, 1356, .inl fv))] H) e4) hP
          have hD : va_D A [(om, .inr (6, [.int (nI 0), .ref a1, .ref a2, .ref a3, .int (nI (sv - 1)), .ref a4, .ref a5, .ref a6, .int ln, .ref a7, .int bm, .int br, .int ck, .int sa, .ref a8, .int lm, .int rs, .int at_, .ref a9, .int tm, .long hs])), (a1, .inl (ca 0, 226, .inl (cpF (fun k => fv (226 * (sv - 1) + k)) (sF z r f j nt nl gl gt) (i + 1)))), (a3, .inl (ca 0, 1356, .inl fv))] := Eq.mp (congrArg (fun z9 : Nat → Int32 => va_D A [(om, .inr (6, [.int (nI 0), .ref a1, .ref a2, .ref a3, .int (nI (sv - 1)), .ref a4, .ref a5, .ref a6, .int ln, .ref a7, .int bm, .int br, .int ck, .int sa, .ref a8, .int lm, .int rs, .int at_, .ref a9, .int tm, .long hs])), (a1, .inl (ca 0, 226, .inl z9)), (a3, .inl (ca 0, 1356, .inl fv))]) e4) hD
          exact ih1 (i + 1) (by omega) (by omega) _ _ hP hD hS ls (lv_sub hl [0, 1] rfl)
    have e5 : (sF z r f j nt nl gl gt : Nat → Int32) = cpF (fun k => fv (226 * (sv - 1) + k)) (sF z r f j nt nl gl gt) 0 := by exact (cpF_0 _ _).symm
    have hP : va_P D vwCl [(om, .inr (6, [.int (nI 0), .ref a1, .ref a2, .ref a3, .int (nI (sv - 1)), .ref a4, .ref a5, .ref a6, .int ln, .ref a7, .int bm, .int br, .int ck, .int sa, .ref a8, .int lm, .int rs, .int at_, .ref a9, .int tm, .long hs])), (a1, .inl (ca 0, 226, .inl (cpF (fun k => fv (226 * (sv - 1) + k)) (sF z r f j nt nl gl gt) 0))), (a3, .inl (ca 0, 1356, .inl fv))] H := Eq.mp (congrArg (fun z9 : Nat → Int32 => va_P D vwCl [(om, .inr (6, [.int (nI 0), .ref a1, .ref a2, .ref a3, .int (nI (sv - 1)), .ref a4, .ref a5, .ref a6, .int ln, .ref a7, .int bm, .int br, .int ck, .int sa, .ref a8, .int lm, .int rs, .int at_, .ref a9, .int tm, .long hs])), (a1, .inl (ca 0, 226, .inl z9)), (a3, .inl (ca 0, 1356, .inl fv))] H) e5) hP
    have hD : va_D A [(om, .inr (6, [.int (nI 0), .ref a1, .ref a2, .ref a3, .int (nI (sv - 1)), .ref a4, .ref a5, .ref a6, .int ln, .ref a7, .int bm, .int br, .int ck, .int sa, .ref a8, .int lm, .int rs, .int at_, .ref a9, .int tm, .long hs])), (a1, .inl (ca 0, 226, .inl (cpF (fun k => fv (226 * (sv - 1) + k)) (sF z r f j nt nl gl gt) 0))), (a3, .inl (ca 0, 1356, .inl fv))] := Eq.mp (congrArg (fun z9 : Nat → Int32 => va_D A [(om, .inr (6, [.int (nI 0), .ref a1, .ref a2, .ref a3, .int (nI (sv - 1)), .ref a4, .ref a5, .ref a6, .int ln, .ref a7, .int bm, .int br, .int ck, .int sa, .ref a8, .int lm, .int rs, .int at_, .ref a9, .int tm, .long hs])), (a1, .inl (ca 0, 226, .inl z9)), (a3, .inl (ca 0, 1356, .inl fv))]) e5) hD
    exact lp30_1 ((226 - 0) + 1) 0 (by omega) (by omega) _ _ hP hD hS ls (lv_sub hl [0, 1] rfl)
  · exact absurd c1 (by omega)
abbrev rm_kX6_undo_bad : Room := { frames := 1, cells := 0, slots := 0, locals := 21 }
set_option maxHeartbeats 4000000 in
set_option maxRecDepth 100000 in
theorem kX6_undo_bad (l : Launch) (D : va_G) (ca : Nat → ClassId) (sz : Nat) (om a1 a2 a3 a4 a5 a6 a7 a8 a9 : Nat) (thr ln bm br ck sa lm rs at_ tm : Int32) (hs : Int64) (sv : Nat) (z : Nat) (r f j : Int32) (nt nl : Nat) (gl gt : Nat → Int32) (hnt : nt ≤ 200) (hnl : nl ≤ 20) (hz : z ≤ 30) (hsv : sv = 0) : Met l yX6_undo wsX6_undo rm_kX6_undo_bad (pcM D ca [.ref om] [(om, .inr (6, [.int thr, .ref a1, .ref a2, .ref a3, .int (nI sv), .ref a4, .ref a5, .ref a6, .int ln, .ref a7, .int bm, .int br, .int ck, .int sa, .ref a8, .int lm, .int rs, .int at_, .ref a9, .int tm, .long hs])), (a1, .inl (ca 0, 226, .inl (sF z r f j nt nl gl gt)))] sz) (va_Qi (fun (zr : Int32) (u : Unit) => zr = nI 0 ∧ True) (qB D (va_A [(om, .inr (6, [.int thr, .ref a1, .ref a2, .ref a3, .int (nI sv), .ref a4, .ref a5, .ref a6, .int ln, .ref a7, .int bm, .int br, .int ck, .int sa, .ref a8, .int lm, .int rs, .int at_, .ref a9, .int tm, .long hs])), (a1, .inl (ca 0, 226, .inl (sF z r f j nt nl gl gt)))] sz) (fun u : Unit => [(om, .inr (6, [.int (nI 1), .ref a1, .ref a2, .ref a3, .int (nI sv), .ref a4, .ref a5, .ref a6, .int ln, .ref a7, .int bm, .int br, .int ck, .int sa, .ref a8, .int lm, .int rs, .int at_, .ref a9, .int tm, .long hs])), (a1, .inl (ca 0, 226, .inl (sF z r f j nt nl gl gt)))])) (va_A [(om, .inr (6, [.int thr, .ref a1, .ref a2, .ref a3, .int (nI sv), .ref a4, .ref a5, .ref a6, .int ln, .ref a7, .int bm, .int br, .int ck, .int sa, .ref a8, .int lm, .int rs, .int at_, .ref a9, .int tm, .long hs])), (a1, .inl (ca 0, 226, .inl (sF z r f j nt nl gl gt)))] sz)) 0 0 (va_A [(om, .inr (6, [.int thr, .ref a1, .ref a2, .ref a3, .int (nI sv), .ref a4, .ref a5, .ref a6, .int ln, .ref a7, .int bm, .int br, .int ck, .int sa, .ref a8, .int lm, .int rs, .int at_, .ref a9, .int tm, .long hs])), (a1, .inl (ca 0, 226, .inl (sF z r f j nt nl gl gt)))] sz) := by
  refine Met.ofW (cc := cX6_undo) (maxL := 2) (ret := (some .int)) (by decide) rfl ?_
  intro p e s m args below meth c s₁ B hml hv
  obtain ⟨rfl, hsz, hP, hK, hD0⟩ := hv
  have hx := B.exec
  have hb := B.bytes
  have hr := B.returns
  have hts := atoms_spec (ws := wsX6_undo) B.pre
  have hown : s.vm.findClass RX6 = some m.cls := findClass_of_methodNamed B.named
  have hlocks := B.notSynchronized
  subst hsz
  have hD := hD0.self (sz := s.heap.size)
  generalize hAe : va_A [(om, .inr (6, [.int thr, .ref a1, .ref a2, .ref a3, .int (nI sv), .ref a4, .ref a5, .ref a6, .int ln, .ref a7, .int bm, .int br, .int ck, .int sa, .ref a8, .int lm, .int rs, .int at_, .ref a9, .int tm, .long hs])), (a1, .inl (ca 0, 226, .inl (sF z r f j nt nl gl gt)))] s.heap.size = A at hD ⊢
  have hA : ∀ q : Nat, s.heap.size ≤ q → A q := fun q h => by rw [← hAe]; exact Or.inr h
  have hS : va_S A s.heap s.heap [] := va_S.rf
  have hP : va_P D vwCl [(om, .inr (6, [.int thr, .ref a1, .ref a2, .ref a3, .int (nI sv), .ref a4, .ref a5, .ref a6, .int ln, .ref a7, .int bm, .int br, .int ck, .int sa, .ref a8, .int lm, .int rs, .int at_, .ref a9, .int tm, .long hs])), (a1, .inl (ca 0, 226, .inl (sF z r f j nt nl gl gt)))] s.heap := hP
  have hKv := hK.1
  have hl := lv_entry ([.ref om]) (n := 2) (kk_le rfl)
  rw [lg_entry_eq]
  generalize (lg_sl ([.ref om]) ++ List.replicate (2 - (lg_sl ([.ref om])).length) Slot.unset).toArray = ls at hl ⊢
  have hl : lv_has ls 2 [(0, .ref om)] := hl
  have hiX6 : ∀ w ∈ u_ws RX6 TX6 21, w ∈ wsX6_undo := fun w h => by first | exact List.mem_cons_of_mem _ (List.mem_append_right _ h) | exact List.mem_cons_of_mem _ (List.mem_append_left _ (List.mem_append_right _ h)) | exact List.mem_cons_of_mem _ (List.mem_append_left _ (List.mem_append_left _ (List.mem_append_right _ h))) | exact List.mem_cons_of_mem _ (List.mem_append_left _ (List.mem_append_left _ (List.mem_append_left _ (List.mem_append_right _ h)))) | (revert w h; decide +kernel)
  have lk38 : (Cond.fieldLink RX6 38 "StripeSwipesModel" "thrown" "I").before _ s = true := hts _ (by decide +kernel)
  have lk42 : (Cond.fieldLink RX6 42 "StripeSwipesModel" "savedMany" "I").before _ s = true := hts _ (by decide +kernel)
  refine lv_aload_n hx hb dX6_undo_0 rfl (lv_at hl 0 rfl) ?_
  refine lv_iconst (v := nI 0) hx hb dX6_undo_1 (by decide) ?_
  refine va_put (D := D) (ci := 6) (v := .int (nI 0)) (ty := .int) (C := RX6) (T := TX6) (N := 21) hx hb hts hiX6 tyX6 tyX6_ok nmX6 hown hKv hP hD hS 0 rfl rfl 0 (by decide) lk38 (fun _ h9 => h9) rfl (by decide +kernel) rfl rfl (kk_le rfl) dX6_undo_2 (fun H locs hP hD hS => ?_)
  have hP : va_P D vwCl [(om, .inr (6, [.int (nI 0), .ref a1, .ref a2, .ref a3, .int (nI sv), .ref a4, .ref a5, .ref a6, .int ln, .ref a7, .int bm, .int br, .int ck, .int sa, .ref a8, .int lm, .int rs, .int at_, .ref a9, .int tm, .long hs])), (a1, .inl (ca 0, 226, .inl (sF z r f j nt nl gl gt)))] H := hP
  have hD : va_D A [(om, .inr (6, [.int (nI 0), .ref a1, .ref a2, .ref a3, .int (nI sv), .ref a4, .ref a5, .ref a6, .int ln, .ref a7, .int bm, .int br, .int ck, .int sa, .ref a8, .int lm, .int rs, .int at_, .ref a9, .int tm, .long hs])), (a1, .inl (ca 0, 226, .inl (sF z r f j nt nl gl gt)))] := hD
  refine lv_aload_n hx hb dX6_undo_5 rfl (lv_at hl 0 rfl) ?_
  refine va_get (D := D) (ci := 6) (C := RX6) (T := TX6) (N := 21) hx hb hts hiX6 hown hKv hP 0 rfl rfl 4 (by decide) lk42 (fun _ h9 => h9) rfl dX6_undo_6 ?_
  refine ni_if_ne (tgt := 18) (by omega) hx hb dX6_undo_9 (by decide) (fun c1 => ?_) (fun c1 => ?_)
  · exact absurd hsv (by omega)
  · refine lv_aload_n hx hb dX6_undo_12 rfl (lv_at hl 0 rfl) ?_
    refine lv_iconst (v := nI 1) hx hb dX6_undo_13 (by decide) ?_
    have hPc := hP.sub (ws' := [(om, .inr (6, [.int (nI 0), .ref a1, .ref a2, .ref a3, .int (nI sv), .ref a4, .ref a5, .ref a6, .int ln, .ref a7, .int bm, .int br, .int ck, .int sa, .ref a8, .int lm, .int rs, .int at_, .ref a9, .int tm, .long hs]))]) [0] rfl
    have hDc := hD.sub (ws' := [(om, .inr (6, [.int (nI 0), .ref a1, .ref a2, .ref a3, .int (nI sv), .ref a4, .ref a5, .ref a6, .int ln, .ref a7, .int bm, .int br, .int ck, .int sa, .ref a8, .int lm, .int rs, .int at_, .ref a9, .int tm, .long hs]))]) [0] (by decide) rfl
    have hFc := va_free (wc := [(om, .inr (6, [.int (nI 0), .ref a1, .ref a2, .ref a3, .int (nI sv), .ref a4, .ref a5, .ref a6, .int ln, .ref a7, .int bm, .int br, .int ck, .int sa, .ref a8, .int lm, .int rs, .int at_, .ref a9, .int tm, .long hs]))]) hD hS hA [0] rfl
    refine va_calli (va_runV (As := [.int (nI 1)]) (rest := []) ⟨hx, hb, hml, hown, hts⟩ (kX6_fails l D ca H.size om a1 a2 a3 a4 a5 a6 a7 a8 a9 (nI 0) (nI sv) ln bm br ck sa lm rs at_ tm hs (nI 1)) (cwV 1 hts gX6_undo_X6_fails rfl rfl rfl (by decide +kernel) ⟨kk_le rfl, kk_le rfl⟩) (pvM hK hPc (my_D_true hDc) (va_recv hKv hP (ci := 6) (q0 := 0) rfl rfl)) rfl rfl hl.1 rfl (lv_room (kk_le rfl)) dX6_undo_14 ⟨kk_le rfl, kk_le rfl⟩) hS (fun q _ h => hFc q h) hFc (fun r2 u t H1 locs ht hvm hwv hBv hz1 hk1 hS => ?_)
    obtain ⟨hP1, hD1⟩ := hBv
    rw [ht] at hP1
    have hP1 : va_P D vwCl [(om, .inr (6, [.int (nI 1), .ref a1, .ref a2, .ref a3, .int (nI sv), .ref a4, .ref a5, .ref a6, .int ln, .ref a7, .int bm, .int br, .int ck, .int sa, .ref a8, .int lm, .int rs, .int at_, .ref a9, .int tm, .long hs]))] H1 := hP1
    have hD1 : va_D _ [(om, .inr (6, [.int (nI 1), .ref a1, .ref a2, .ref a3, .int (nI sv), .ref a4, .ref a5, .ref a6, .int ln, .ref a7, .int bm, .int br, .int ck, .int sa, .ref a8, .int lm, .int rs, .int at_, .ref a9, .int tm, .long hs]))] := hD1
    obtain ⟨hr2, hw2⟩ := hwv
    subst hr2
    obtain ⟨hP, hD⟩ := va_join (wr := [(a1, .inl (ca 0, 226, .inl (sF z r f j nt nl gl gt)))]) (w1 := [(om, .inr (6, [.int (nI 1), .ref a1, .ref a2, .ref a3, .int (nI sv), .ref a4, .ref a5, .ref a6, .int ln, .ref a7, .int bm, .int br, .int ck, .int sa, .ref a8, .int lm, .int rs, .int at_, .ref a9, .int tm, .long hs]))]) hP hD [0] [1] rfl rfl (by decide) (by decide) hk1 hFc hP1 hD1
    generalize H1 = H at hP hS ⊢
    have hP := hP.sub (ws' := [(om, .inr (6, [.int (nI 1), .ref a1, .ref a2, .ref a3, .int (nI sv), .ref a4, .ref a5, .ref a6, .int ln, .ref a7, .int bm, .int br, .int ck, .int sa, .ref a8, .int lm, .int rs, .int at_, .ref a9, .int tm, .long hs])), (a1, .inl (ca 0, 226, .inl (sF z r f j nt nl gl gt)))]) [1, 0] rfl
    have hD := hD.sub (ws' := [(om, .inr (6, [.int (nI 1), .ref a1, .ref a2, .ref a3, .int (nI sv), .ref a4, .ref a5, .ref a6, .int ln, .ref a7, .int bm, .int br, .int ck, .int sa, .ref a8, .int lm, .int rs, .int at_, .ref a9, .int tm, .long hs])), (a1, .inl (ca 0, 226, .inl (sF z r f j nt nl gl gt)))]) [1, 0] (by decide) rfl
    exact W.iret (v := nI 0) hx hb hr (fun t ht hW => ⟨⟨_, (), rfl, ⟨by rfl, by trivial⟩, by rw [ht]; exact hP, hD⟩, hS.F ht⟩) hS.2.2 dX6_undo_17
