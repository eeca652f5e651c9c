theorem apF_rep (g : Nat → Int32) (n i : Nat) : upd (apF g n (List.replicate i (nI 0))) (n + i) (nI 0) = apF g n (List.replicate (i + 1) (nI 0)) := by
  have := apF_1 g n (List.replicate i (nI 0)) (nI 0)
  rw [List.length_replicate] at this
  rw [this, List.replicate_succ']
theorem apF_lst1 (g : Nat → Int32) (n : Nat) (F : Nat → Int32) (i : Nat) : upd (apF g n (lst F i)) (n + i) (F i) = apF g n (lst F (i + 1)) := by
  have := apF_1 g n (lst F i) (F i)
  rw [lst_len] at this
  rw [this, lst_succ]
theorem addg_fin (g : Nat → Int32) (n : Nat) (v : Int32) {i : Nat} {pa : Int32} (h1 : i ≤ 4) (h2 : 4 ≤ i) (hp : pa = parS v i) : upd (apF g n (lst (bt v) i)) (n + i) pa = apF g n (grp v) := by
  obtain rfl : i = 4 := by omega
  have := apF_1 g n (lst (bt v) 4) pa
  rw [lst_len] at this
  rw [this, hp, grp_eq]
/-- the stripe up to behind the letters l -/
def layF (z : Nat) (l : IL) : IL := List.replicate z (nI 0) ++ (grp (nI 11) ++ l.flatMap grp)
theorem layF_len (z : Nat) (l : IL) : (layF z l).length = z + 5 + 5 * l.length := by
  simp only [layF, List.length_append, List.length_replicate, grp_len, flat_len]; omega
theorem apF_app' (g : Nat → Int32) (L M : IL) {n : Nat} (h : n = L.length) : apF (apF g 0 L) n M = apF g 0 (L ++ M) := by
  subst h
  have := apF_app g 0 L M
  rw [Nat.zero_add] at this
  exact this
theorem lay_0 (g : Nat → Int32) (z : Nat) : apF (apF g 0 (List.replicate z (nI 0))) (0 + z) (grp (nI 11)) = apF g 0 (layF z (lst (fun _ => nI 0) 0)) := by
  rw [apF_app' _ _ _ (by simp)]
  simp [layF, lst]
theorem lay_1 (g g2 : Nat → Int32) (z i : Nat) : apF (apF g 0 (layF z (lst g2 i))) (z + 5 + 5 * i) (grp (g2 i)) = apF g 0 (layF z (lst g2 (i + 1))) := by
  rw [apF_app' _ _ _ (by rw [layF_len, lst_len]), lst_succ]
  simp [layF, List.flatMap_append]
theorem lay_len (z : Nat) (g2 : Nat → Int32) {n2 i m : Nat} (h1 : i ≤ n2) (h2 : m = 2 * z + 5 * (n2 + 3)) : nI m = nI (strp z (lst g2 n2)).length := by
  rw [strp_len, lst_len, h2]
theorem lay_end (g g2 : Nat → Int32) (z : Nat) {n2 i : Nat} (h1 : i ≤ n2) (h2 : n2 ≤ i) : apF (apF (apF (apF g 0 (layF z (lst g2 i))) (z + 5 + 5 * i) (grp (nI 15))) (z + 5 + 5 * i + 5) (grp (chkL (lst g2 n2)))) (z + 5 + 5 * i + 5 + 5) (List.replicate z (nI 0)) = apF g 0 (strp z (lst g2 n2)) := by
  obtain rfl : i = n2 := by omega
  rw [apF_app' _ _ _ (by rw [layF_len, lst_len]), apF_app' _ _ _ (by rw [List.length_append, layF_len, lst_len, grp_len]), apF_app' _ _ _ (by rw [List.length_append, List.length_append, layF_len, lst_len, grp_len, grp_len])]
  simp [layF, strp]
theorem pas_len (g : Nat → Int32) (j : Int32) (i : Nat) : (passL j 0 (lst g i)).length = i + onesN (lst g i) := by rw [passL_len, lst_len]
theorem ones_succ (g : Nat → Int32) (i : Nat) : onesN (lst g (i + 1)) = onesN (lst g i) + (if g i = nI 0 then 0 else 1) := by rw [lst_succ, onesN_app]; simp [onesN]
theorem ones_mono (g : Nat → Int32) {i n : Nat} (h : i ≤ n) : onesN (lst g i) ≤ onesN (lst g n) := by
  induction n with
  | zero => obtain rfl : i = 0 := by omega
            exact Nat.le_refl _
  | succ n ih =>
    rcases Nat.eq_or_lt_of_le h with q | q
    · rw [q]; exact Nat.le_refl _
    · have := ih (by omega); rw [ones_succ]; omega
theorem pas_room (g : Nat → Int32) (j : Int32) {i n cap2 : Nat} (h : i < n) (hz : n + onesN (lst g n) ≤ cap2) : (passL j 0 (lst g i)).length < cap2 := by
  rw [pas_len]; have := ones_mono g (Nat.le_of_lt h); omega
theorem pas_room1 (g : Nat → Int32) (j : Int32) {i n cap2 : Nat} (h : i < n) (hz : n + onesN (lst g n) ≤ cap2) (hb : ¬ g i = nI 0) : (passL j 0 (lst g i)).length + 1 < cap2 := by
  rw [pas_len]
  have := ones_mono g (show i + 1 ≤ n from h)
  rw [ones_succ, if_neg hb] at this
  omega
theorem pas_seg (g : Nat → Int32) (j : Int32) (i : Nat) : passL j 0 (lst g (i + 1)) = passL j 0 (lst g i) ++ seg j i (g i) := by rw [lst_succ, passL_app, lst_len, Nat.zero_add]
theorem pas_1 (g2 g : Nat → Int32) (j : Int32) {i : Nat} (hb : g i = nI 0) : upd (apF g2 0 (passL j 0 (lst g i))) (passL j 0 (lst g i)).length (nI 200 + j * nI (i % 5) - nI 2 * j) = apF g2 0 (passL j 0 (lst g (i + 1))) := by
  have := apF_1 g2 0 (passL j 0 (lst g i)) (wid j i)
  rw [Nat.zero_add] at this
  rw [pas_seg, seg, if_pos hb, ← this]
  rfl
theorem pas_1n (g : Nat → Int32) (j : Int32) {i : Nat} (hb : g i = nI 0) : nI ((passL j 0 (lst g i)).length + 1) = nI (passL j 0 (lst g (i + 1))).length := by
  rw [pas_seg, seg, if_pos hb, List.length_append]; rfl
theorem pas_2 (g2 g : Nat → Int32) (j : Int32) {i : Nat} (hb : ¬ g i = nI 0) : upd (upd (apF g2 0 (passL j 0 (lst g i))) (passL j 0 (lst g i)).length ((nI 200 + j * nI (i % 5) - nI 2 * j) / nI 2)) ((passL j 0 (lst g i)).length + 1) (nI 200 + j * nI (i % 5) - nI 2 * j - (nI 200 + j * nI (i % 5) - nI 2 * j) / nI 2) = apF g2 0 (passL j 0 (lst g (i + 1))) := by
  have e1 := apF_1 g2 0 (passL j 0 (lst g i)) (wid j i / nI 2)
  have e2 := apF_1 g2 0 (passL j 0 (lst g i) ++ [wid j i / nI 2]) (wid j i - wid j i / nI 2)
  rw [Nat.zero_add] at e1 e2
  rw [List.length_append] at e2
  rw [pas_seg, seg, if_neg hb, show passL j 0 (lst g i) ++ [wid j i / nI 2, wid j i - wid j i / nI 2] = passL j 0 (lst g i) ++ [wid j i / nI 2] ++ [wid j i - wid j i / nI 2] from by simp, ← e2, ← e1]
  rfl
theorem pas_2n (g : Nat → Int32) (j : Int32) {i : Nat} (hb : ¬ g i = nI 0) : nI ((passL j 0 (lst g i)).length + 1 + 1) = nI (passL j 0 (lst g (i + 1))).length := by
  rw [pas_seg, seg, if_neg hb, List.length_append]; rfl
abbrev rm_kX5_checkOf : Room := { frames := 1, cells := 0, slots := 0, locals := 21 }
set_option maxHeartbeats 4000000 in
set_option maxRecDepth 100000 in
theorem kX5_checkOf (l : Launch) (D : va_G) (ca : Nat → ClassId) (q a cap : Nat) (g : Nat → Int32) (n : Nat) (hn : n ≤ cap) (hc : cap < 1000000) : Met l yX5_checkOf wsX5_checkOf rm_kX5_checkOf (pcR D ca [.ref q] [(q, .inr (2, [.ref a, .int (nI n)])), (a, .inl (ca 0, cap, .inl g))]) (vp_Si (fun z : Int32 => z = chkL (lst g n))) 0 0 (fun _ => False) := by
  refine Met.ofW (cc := cX5_checkOf) (maxL := 3) (ret := (some .int)) (by decide) rfl ?_
  intro p e s m args below meth c s₁ B hml hv
  obtain ⟨rfl, hP, hK⟩ := hv
  have hx := B.exec
  have hb := B.bytes
  have hr := B.returns
  have hts := atoms_spec (ws := wsX5_checkOf) B.pre
  have hown : s.vm.findClass RX5 = some m.cls := findClass_of_methodNamed B.named
  have hlocks := B.notSynchronized
  have hKv := hK.1
  have hl := lv_entry ([.ref q]) (n := 3) (kk_le rfl)
  rw [lg_entry_eq]
  generalize (lg_sl ([.ref q]) ++ List.replicate (3 - (lg_sl ([.ref q])).length) Slot.unset).toArray = ls at hl ⊢
  have hl : lv_has ls 3 [(0, .ref q)] := hl
  generalize hQz : MQ below _ _ _ _ _ _ = Qz
  refine lv_iconst (v := nI 4) hx hb dX5_checkOf_0 (by decide) ?_
  refine lv_istore_n (lv' := [(1, .int (nI 4)), (0, .ref q)]) hx hb dX5_checkOf_1 rfl hl (by decide) rfl (fun ls hl => ?_)
  refine lv_iconst (v := nI 0) hx hb dX5_checkOf_2 (by decide) ?_
  refine lv_istore_n (lv' := [(2, .int (nI 0)), (1, .int (nI 4)), (0, .ref q)]) hx hb dX5_checkOf_3 rfl hl (by decide) rfl (fun ls hl => ?_)
  have lp4_0 : ∀ (k1 : Nat) (i : Nat) (acc : Int32), n - i < k1 → (i ≤ n) → (acc = chkL (lst g i)) → ∀ (ls : Array Slot), lv_has ls 3 [(2, .int (nI i)), (1, .int acc), (0, .ref q)] → W p l e rm_kX5_checkOf s m ([.ref q] : List Value).toArray below meth c s.heap [] 0 0 Qz (F0 m 4 ls []) := by
    intro k1
    induction k1 with
    | zero => intro i acc hm1; exact absurd hm1 (Nat.not_lt_zero _)
    | succ k1 ih1 =>
      intro i acc hm1 hi ha ls hl
      refine lv_iload_n hx hb dX5_checkOf_4 rfl (lv_at hl 0 rfl) ?_
      refine lv_aload_n hx hb dX5_checkOf_5 rfl (lv_at hl 2 rfl) ?_
      refine vp_callSi (va_Run.run (va_runV (As := []) (rest := [.int (nI i)]) ⟨hx, hb, hml, hown, hts⟩ (kX2_size l D ca q a cap g n (by first | rfl | assumption | omega | trivial | (exfalso; omega)) (by first | rfl | assumption | omega | trivial | (exfalso; omega))) (cwV 0 hts gX5_checkOf_X2_size rfl rfl rfl (by decide +kernel) ⟨kk_le rfl, kk_le rfl⟩) (pvR hK hP (va_recv hKv hP (ci := 2) (q0 := 0) rfl rfl)) rfl rfl hl.1 rfl (lv_room (kk_le rfl)) dX5_checkOf_6 ⟨kk_le rfl, kk_le rfl⟩)) (fun r2 hr2 => ?_)
      subst hr2
      refine ni_icmp_ge (tgt := 26) (by omega) (by omega) hx hb dX5_checkOf_9 (by decide) (fun c3 => ?_) (fun c3 => ?_)
      · refine lv_iload_n hx hb dX5_checkOf_26 rfl (lv_at hl 1 rfl) ?_
        subst hQz
        exact W.iret (v := acc) hx hb hr (fun t ht _ => ⟨_, rfl, by (rw [ha, show i = n from by omega]), ht⟩) (fun _ h => nomatch h) dX5_checkOf_27
      · refine lv_iload_n hx hb dX5_checkOf_12 rfl (lv_at hl 1 rfl) ?_
        refine lv_aload_n hx hb dX5_checkOf_13 rfl (lv_at hl 2 rfl) ?_
        refine lv_iload_n hx hb dX5_checkOf_14 rfl (lv_at hl 0 rfl) ?_
        refine vp_callSi (va_Run.run (va_runV (As := [.int (nI i)]) (rest := [.int acc]) ⟨hx, hb, hml, hown, hts⟩ (kX2_at_in l D ca q a cap g n i (by first | rfl | assumption | omega | trivial | (exfalso; omega)) (by first | rfl | assumption | omega | trivial | (exfalso; omega)) (by first | rfl | assumption | omega | trivial | (exfalso; omega))) (cwV 1 hts gX5_checkOf_X2_at rfl rfl rfl (by decide +kernel) ⟨kk_le rfl, kk_le rfl⟩) (pvR hK hP (va_recv hKv hP (ci := 2) (q0 := 0) rfl rfl)) rfl rfl hl.1 rfl (lv_room (kk_le rfl)) dX5_checkOf_15 ⟨kk_le rfl, kk_le rfl⟩)) (fun r4 hr4 => ?_)
        subst hr4
        refine lv_ixor hx hb dX5_checkOf_18 ?_
        refine lv_istore_n (lv' := [(1, .int (acc ^^^ (g i))), (2, .int (nI i)), (0, .ref q)]) hx hb dX5_checkOf_19 rfl hl (by decide) rfl (fun ls hl => ?_)
        refine lv_iinc (v := nI (i + 1)) (lv' := [(2, .int (nI (i + 1))), (1, .int (acc ^^^ (g i))), (0, .ref q)]) hx hb dX5_checkOf_20 hl (k := 1) rfl (ni_inc _ _ (by decide)) (by decide) rfl (fun ls hl => ?_)
        refine lv_goto (tgt := 4) hx hb dX5_checkOf_23 (by decide) ?_
        exact ih1 (i + 1) (acc ^^^ (g i)) (by omega) (by omega) (by rw [ha, lst_succ, chkL_app]) ls (lv_sub hl [0, 1, 2] rfl)
  exact lp4_0 ((n - 0) + 1) 0 (nI 4) (by omega) (by omega) (by rfl) ls (lv_sub hl [0, 1, 2] rfl)
abbrev rm_kX4_addZeros : Room := { frames := 1, cells := 0, slots := 0, locals := 21 }
set_option maxHeartbeats 4000000 in
set_option maxRecDepth 100000 in
theorem kX4_addZeros (l : Launch) (D : va_G) (ca : Nat → ClassId) (sz : Nat) (x q a cap : Nat) (g : Nat → Int32) (n : Nat) (z : Nat) (hn : n + z ≤ cap) (hc : cap < 1000000) : Met l yX4_addZeros wsX4_addZeros rm_kX4_addZeros (pcM D ca [.ref x, .int (nI z)] [(x, .inr (4, [.ref q])), (q, .inr (2, [.ref a, .int (nI n)])), (a, .inl (ca 0, cap, .inl g))] sz) (va_Qv (fun (u : Unit) => True) (qB D (va_A [(x, .inr (4, [.ref q])), (q, .inr (2, [.ref a, .int (nI n)])), (a, .inl (ca 0, cap, .inl g))] sz) (fun u : Unit => [(x, .inr (4, [.ref q])), (q, .inr (2, [.ref a, .int (nI (n + z))])), (a, .inl (ca 0, cap, .inl (apF g n (List.replicate z (nI 0)))))])) (va_A [(x, .inr (4, [.ref q])), (q, .inr (2, [.ref a, .int (nI n)])), (a, .inl (ca 0, cap, .inl g))] sz)) 0 0 (va_A [(x, .inr (4, [.ref q])), (q, .inr (2, [.ref a, .int (nI n)])), (a, .inl (ca 0, cap, .inl g))] sz) := by
  refine Met.ofW (cc := cX4_addZeros) (maxL := 3) (ret := none) (by decide) rfl ?_
  intro p e s m args below meth c s₁ B hml hv
  obtain ⟨rfl, hsz, hP, hK, hD0⟩ := hv
  have hx := B.exec
  have hb := B.bytes
  have hr := B.returns
  have hts := atoms_spec (ws := wsX4_addZeros) B.pre
  have hown : s.vm.findClass RX4 = some m.cls := findClass_of_methodNamed B.named
  have hlocks := B.notSynchronized
  subst hsz
  have hD := hD0.self (sz := s.heap.size)
  generalize hAe : va_A [(x, .inr (4, [.ref q])), (q, .inr (2, [.ref a, .int (nI n)])), (a, .inl (ca 0, cap, .inl g))] s.heap.size = A at hD ⊢
  have hA : ∀ q : Nat, s.heap.size ≤ q → A q := fun q h => by rw [← hAe]; exact Or.inr h
  have hS : va_S A s.heap s.heap [] := va_S.rf
  have hP : va_P D vwCl [(x, .inr (4, [.ref q])), (q, .inr (2, [.ref a, .int (nI n)])), (a, .inl (ca 0, cap, .inl g))] s.heap := hP
  have hKv := hK.1
  have hl := lv_entry ([.ref x, .int (nI z)]) (n := 3) (kk_le rfl)
  rw [lg_entry_eq]
  generalize (lg_sl ([.ref x, .int (nI z)]) ++ List.replicate (3 - (lg_sl ([.ref x, .int (nI z)])).length) Slot.unset).toArray = ls at hl ⊢
  have hl : lv_has ls 3 [(0, .ref x), (1, .int (nI z))] := hl
  generalize hQz : MQ below _ _ _ _ _ _ = Qz
  have hiX4 : ∀ w ∈ u_ws RX4 TX4 1, w ∈ wsX4_addZeros := fun w h => by first | exact List.mem_cons_of_mem _ (List.mem_append_right _ h) | exact List.mem_cons_of_mem _ (List.mem_append_left _ (List.mem_append_right _ h)) | exact List.mem_cons_of_mem _ (List.mem_append_left _ (List.mem_append_left _ (List.mem_append_right _ h))) | exact List.mem_cons_of_mem _ (List.mem_append_left _ (List.mem_append_left _ (List.mem_append_left _ (List.mem_append_right _ h)))) | (revert w h; decide +kernel)
  have lk14 : (Cond.fieldLink RX4 14 "StripeSwipes$Stripe" "bits" "LStripeSwipes$Row;").before _ s = true := hts _ (by decide +kernel)
  refine lv_iconst (v := nI 0) hx hb dX4_addZeros_0 (by decide) ?_
  refine lv_istore_n (lv' := [(2, .int (nI 0)), (0, .ref x), (1, .int (nI z))]) hx hb dX4_addZeros_1 rfl hl (by decide) rfl (fun ls hl => ?_)
  have lp2_0 : ∀ (k1 : Nat) (i : Nat), z - i < k1 → (i ≤ z) → ∀ (H : Heap) (locs : List Loc), va_P D vwCl [(x, .inr (4, [.ref q])), (q, .inr (2, [.ref a, .int (nI (n + i))])), (a, .inl (ca 0, cap, .inl (apF g n (List.replicate i (nI 0)))))] H → va_D A [(x, .inr (4, [.ref q])), (q, .inr (2, [.ref a, .int (nI (n + i))])), (a, .inl (ca 0, cap, .inl (apF g n (List.replicate i (nI 0)))))] → va_S A s.heap H locs → ∀ (ls : Array Slot), lv_has ls 3 [(2, .int (nI i)), (0, .ref x), (1, .int (nI z))] → W p l e rm_kX4_addZeros s m ([.ref x, .int (nI z)] : List Value).toArray below meth c H locs 0 0 Qz (F0 m 2 ls []) := by
    intro k1
    induction k1 with
    | zero => intro i hm1; exact absurd hm1 (Nat.not_lt_zero _)
    | succ k1 ih1 =>
      intro i hm1 hi H locs hP hD hS ls hl
      refine lv_iload_n hx hb dX4_addZeros_2 rfl (lv_at hl 0 rfl) ?_
      refine lv_iload_n hx hb dX4_addZeros_3 rfl (lv_at hl 2 rfl) ?_
      refine ni_icmp_ge (tgt := 22) (by omega) (by omega) hx hb dX4_addZeros_4 (by decide) (fun c2 => ?_) (fun c2 => ?_)
      · subst hQz
        have e3 : (nI (n + i) : Int32) = nI (n + z) := by first | exact congrArg nI (by omega) | exact congrArg (fun t => apF g n (List.replicate t (nI 0))) (by omega)
        have hP : va_P D vwCl [(x, .inr (4, [.ref q])), (q, .inr (2, [.ref a, .int (nI (n + z))])), (a, .inl (ca 0, cap, .inl (apF g n (List.replicate i (nI 0)))))] H := Eq.mp (congrArg (fun z9 : Int32 => va_P D vwCl [(x, .inr (4, [.ref q])), (q, .inr (2, [.ref a, .int z9])), (a, .inl (ca 0, cap, .inl (apF g n (List.replicate i (nI 0)))))] H) e3) hP
        have hD : va_D A [(x, .inr (4, [.ref q])), (q, .inr (2, [.ref a, .int (nI (n + z))])), (a, .inl (ca 0, cap, .inl (apF g n (List.replicate i (nI 0)))))] := Eq.mp (congrArg (fun z9 : Int32 => va_D A [(x, .inr (4, [.ref q])), (q, .inr (2, [.ref a, .int z9])), (a, .inl (ca 0, cap, .inl (apF g n (List.replicate i (nI 0)))))]) e3) hD
        have e4 : (apF g n (List.replicate i (nI 0)) : Nat → Int32) = apF g n (List.replicate z (nI 0)) := by first | exact congrArg nI (by omega) | exact congrArg (fun t => apF g n (List.replicate t (nI 0))) (by omega)
        have hP : va_P D vwCl [(x, .inr (4, [.ref q])), (q, .inr (2, [.ref a, .int (nI (n + z))])), (a, .inl (ca 0, cap, .inl (apF g n (List.replicate z (nI 0)))))] H := Eq.mp (congrArg (fun z9 : Nat → Int32 => va_P D vwCl [(x, .inr (4, [.ref q])), (q, .inr (2, [.ref a, .int (nI (n + z))])), (a, .inl (ca 0, cap, .inl z9))] H) e4) hP
        have hD : va_D A [(x, .inr (4, [.ref q])), (q, .inr (2, [.ref a, .int (nI (n + z))])), (a, .inl (ca 0, cap, .inl (apF g n (List.replicate z (nI 0)))))] := Eq.mp (congrArg (fun z9 : Nat → Int32 => va_D A [(x, .inr (4, [.ref q])), (q, .inr (2, [.ref a, .int (nI (n + z))])), (a, .inl (ca 0, cap, .inl z9))]) e4) hD
        exact W.vret hx hb hr (fun t ht hW => ⟨⟨(), rfl, by trivial, by rw [ht]; exact hP, hD⟩, hS.F ht⟩) hS.2.2 dX4_addZeros_22
      · refine lv_aload_n hx hb dX4_addZeros_7 rfl (lv_at hl 1 rfl) ?_
        refine va_get (D := D) (ci := 4) (C := RX4) (T := TX4) (N := 1) hx hb hts hiX4 hown hKv hP 0 rfl rfl 0 (by decide) lk14 (fun _ h9 => h9) rfl dX4_addZeros_8 ?_
        refine lv_iconst (v := nI 0) hx hb dX4_addZeros_11 (by decide) ?_
        have hPc := hP.sub (ws' := [(q, .inr (2, [.ref a, .int (nI (n + i))])), (a, .inl (ca 0, cap, .inl (apF g n (List.replicate i (nI 0)))))]) [1, 2] rfl
        have hDc := hD.sub (ws' := [(q, .inr (2, [.ref a, .int (nI (n + i))])), (a, .inl (ca 0, cap, .inl (apF g n (List.replicate i (nI 0)))))]) [1, 2] (by decide) rfl
        have hFc := va_free (wc := [(q, .inr (2, [.ref a, .int (nI (n + i))])), (a, .inl (ca 0, cap, .inl (apF g n (List.replicate i (nI 0)))))]) hD hS hA [1, 2] rfl
        refine va_calli (va_runV (As := [.int (nI 0)]) (rest := []) ⟨hx, hb, hml, hown, hts⟩ (kX2_add l D ca H.size q a cap (apF g n (List.replicate i (nI 0))) (n + i) (nI 0) (by first | rfl | assumption | omega | trivial | (exfalso; omega)) (by first | rfl | assumption | omega | trivial | (exfalso; omega))) (cwV 1 hts gX4_addZeros_X2_add rfl rfl rfl (by decide +kernel) ⟨kk_le rfl, kk_le rfl⟩) (pvM hK hPc (my_D_true hDc) (va_recv hKv hP (ci := 2) (q0 := 1) rfl rfl)) rfl rfl hl.1 rfl (lv_room (kk_le rfl)) dX4_addZeros_12 ⟨kk_le rfl, kk_le rfl⟩) hS (fun q _ h => hFc q h) hFc (fun r5 u t H1 locs ht hvm hwv hBv hz1 hk1 hS => ?_)
        obtain ⟨hP1, hD1⟩ := hBv
        rw [ht] at hP1
        have hP1 : va_P D vwCl [(q, .inr (2, [.ref a, .int (nI ((n + i) + 1))])), (a, .inl (ca 0, cap, .inl (upd (apF g n (List.replicate i (nI 0))) (n + i) (nI 0))))] H1 := hP1
        have hD1 : va_D _ [(q, .inr (2, [.ref a, .int (nI ((n + i) + 1))])), (a, .inl (ca 0, cap, .inl (upd (apF g n (List.replicate i (nI 0))) (n + i) (nI 0))))] := hD1
        obtain ⟨hr5, hw5⟩ := hwv
        subst hr5
        obtain ⟨hP, hD⟩ := va_join (wr := [(x, .inr (4, [.ref q]))]) (w1 := [(q, .inr (2, [.ref a, .int (nI ((n + i) + 1))])), (a, .inl (ca 0, cap, .inl (upd (apF g n (List.replicate i (nI 0))) (n + i) (nI 0))))]) hP hD [1, 2] [0] rfl rfl (by decide) (by decide) hk1 hFc hP1 hD1
        generalize H1 = H at hP hS ⊢
        have hP := hP.sub (ws' := [(x, .inr (4, [.ref q])), (q, .inr (2, [.ref a, .int (nI ((n + i) + 1))])), (a, .inl (ca 0, cap, .inl (upd (apF g n (List.replicate i (nI 0))) (n + i) (nI 0))))]) [0, 1, 2] rfl
        have hD := hD.sub (ws' := [(x, .inr (4, [.ref q])), (q, .inr (2, [.ref a, .int (nI ((n + i) + 1))])), (a, .inl (ca 0, cap, .inl (upd (apF g n (List.replicate i (nI 0))) (n + i) (nI 0))))]) [0, 1, 2] (by decide) rfl
        refine lv_pop hx hb dX4_addZeros_15 rfl ?_
        refine lv_iinc (v := nI (i + 1)) (lv' := [(2, .int (nI (i + 1))), (0, .ref x), (1, .int (nI z))]) hx hb dX4_addZeros_16 hl (k := 0) rfl (ni_inc _ _ (by decide)) (by decide) rfl (fun ls hl => ?_)
        refine lv_goto (tgt := 2) hx hb dX4_addZeros_19 (by decide) ?_
        have e7 : (nI ((n + i) + 1) : Int32) = nI (n + (i + 1)) := by first | exact apF_rep g n i | rfl
        have hP : va_P D vwCl [(x, .inr (4, [.ref q])), (q, .inr (2, [.ref a, .int (nI (n + (i + 1)))])), (a, .inl (ca 0, cap, .inl (upd (apF g n (List.replicate i (nI 0))) (n + i) (nI 0))))] H := Eq.mp (congrArg (fun z9 : Int32 => va_P D vwCl [(x, .inr (4, [.ref q])), (q, .inr (2, [.ref a, .int z9])), (a, .inl (ca 0, cap, .inl (upd (apF g n (List.replicate i (nI 0))) (n + i) (nI 0))))] H) e7) hP
        have hD : va_D A [(x, .inr (4, [.ref q])), (q, .inr (2, [.ref a, .int (nI (n + (i + 1)))])), (a, .inl (ca 0, cap, .inl (upd (apF g n (List.replicate i (nI 0))) (n + i) (nI 0))))] := Eq.mp (congrArg (fun z9 : Int32 => va_D A [(x, .inr (4, [.ref q])), (q, .inr (2, [.ref a, .int z9])), (a, .inl (ca 0, cap, .inl (upd (apF g n (List.replicate i (nI 0))) (n + i) (nI 0))))]) e7) hD
        have e8 : (upd (apF g n (List.replicate i (nI 0))) (n + i) (nI 0) : Nat → Int32) = apF g n (List.replicate (i + 1) (nI 0)) := by first | exact apF_rep g n i | rfl
        have hP : va_P D vwCl [(x, .inr (4, [.ref q])), (q, .inr (2, [.ref a, .int (nI (n + (i + 1)))])), (a, .inl (ca 0, cap, .inl (apF g n (List.replicate (i + 1) (nI 0)))))] H := Eq.mp (congrArg (fun z9 : Nat → Int32 => va_P D vwCl [(x, .inr (4, [.ref q])), (q, .inr (2, [.ref a, .int (nI (n + (i + 1)))])), (a, .inl (ca 0, cap, .inl z9))] H) e8) hP
        have hD : va_D A [(x, .inr (4, [.ref q])), (q, .inr (2, [.ref a, .int (nI (n + (i + 1)))])), (a, .inl (ca 0, cap, .inl (apF g n (List.replicate (i + 1) (nI 0)))))] := Eq.mp (congrArg (fun z9 : Nat → Int32 => va_D A [(x, .inr (4, [.ref q])), (q, .inr (2, [.ref a, .int (nI (n + (i + 1)))])), (a, .inl (ca 0, cap, .inl z9))]) e8) hD
        exact ih1 (i + 1) (by omega) (by omega) _ _ hP hD hS ls (lv_sub hl [0, 1, 2] rfl)
  have e9 : (nI n : Int32) = nI (n + 0) := by first | rfl | exact (apF_0 g n).symm
  have hP : va_P D vwCl [(x, .inr (4, [.ref q])), (q, .inr (2, [.ref a, .int (nI (n + 0))])), (a, .inl (ca 0, cap, .inl g))] s.heap := Eq.mp (congrArg (fun z9 : Int32 => va_P D vwCl [(x, .inr (4, [.ref q])), (q, .inr (2, [.ref a, .int z9])), (a, .inl (ca 0, cap, .inl g))] s.heap) e9) hP
  have hD : va_D A [(x, .inr (4, [.ref q])), (q, .inr (2, [.ref a, .int (nI (n + 0))])), (a, .inl (ca 0, cap, .inl g))] := Eq.mp (congrArg (fun z9 : Int32 => va_D A [(x, .inr (4, [.ref q])), (q, .inr (2, [.ref a, .int z9])), (a, .inl (ca 0, cap, .inl g))]) e9) hD
  have e10 : (g : Nat → Int32) = apF g n (List.replicate 0 (nI 0)) := by first | rfl | exact (apF_0 g n).symm
  have hP : va_P D vwCl [(x, .inr (4, [.ref q])), (q, .inr (2, [.ref a, .int (nI (n + 0))])), (a, .inl (ca 0, cap, .inl (apF g n (List.replicate 0 (nI 0)))))] s.heap := Eq.mp (congrArg (fun z9 : Nat → Int32 => va_P D vwCl [(x, .inr (4, [.ref q])), (q, .inr (2, [.ref a, .int (nI (n + 0))])), (a, .inl (ca 0, cap, .inl z9))] s.heap) e10) hP
  have hD : va_D A [(x, .inr (4, [.ref q])), (q, .inr (2, [.ref a, .int (nI (n + 0))])), (a, .inl (ca 0, cap, .inl (apF g n (List.replicate 0 (nI 0)))))] := Eq.mp (congrArg (fun z9 : Nat → Int32 => va_D A [(x, .inr (4, [.ref q])), (q, .inr (2, [.ref a, .int (nI (n + 0))])), (a, .inl (ca 0, cap, .inl z9))]) e10) hD
  exact lp2_0 ((z - 0) + 1) 0 (by omega) (by omega) _ _ hP hD hS ls (lv_sub hl [0, 1, 2] rfl)
abbrev rm_kX4_addGroup : Room := { frames := 1, cells := 0, slots := 0, locals := 21 }
set_option maxHeartbeats 4000000 in
set_option maxRecDepth 100000 in
theorem kX4_addGroup (l : Launch) (D : va_G) (ca : Nat → ClassId) (sz : Nat) (x q a cap : Nat) (g : Nat → Int32) (n : Nat) (v : Int32) (hn : n + 5 ≤ cap) (hc : cap < 1000000) : Met l yX4_addGroup wsX4_addGroup rm_kX4_addGroup (pcM D ca [.ref x, .int v] [(x, .inr (4, [.ref q])), (q, .inr (2, [.ref a, .int (nI n)])), (a, .inl (ca 0, cap, .inl g))] sz) (va_Qv (fun (u : Unit) => True) (qB D (va_A [(x, .inr (4, [.ref q])), (q, .inr (2, [.ref a, .int (nI n)])), (a, .inl (ca 0, cap, .inl g))] sz) (fun u : Unit => [(x, .inr (4, [.ref q])), (q, .inr (2, [.ref a, .int (nI (n + 5))])), (a, .inl (ca 0, cap, .inl (apF g n (grp v))))])) (va_A [(x, .inr (4, [.ref q])), (q, .inr (2, [.ref a, .int (nI n)])), (a, .inl (ca 0, cap, .inl g))] sz)) 0 0 (va_A [(x, .inr (4, [.ref q])), (q, .inr (2, [.ref a, .int (nI n)])), (a, .inl (ca 0, cap, .inl g))] sz) := by
  refine Met.ofW (cc := cX4_addGroup) (maxL := 5) (ret := none) (by decide) rfl ?_
  intro p e s m args below meth c s₁ B hml hv
  obtain ⟨rfl, hsz, hP, hK, hD0⟩ := hv
  have hx := B.exec
  have hb := B.bytes
  have hr := B.returns
  have hts := atoms_spec (ws := wsX4_addGroup) B.pre
  have hown : s.vm.findClass RX4 = some m.cls := findClass_of_methodNamed B.named
  have hlocks := B.notSynchronized
  subst hsz
  have hD := hD0.self (sz := s.heap.size)
  generalize hAe : va_A [(x, .inr (4, [.ref q])), (q, .inr (2, [.ref a, .int (nI n)])), (a, .inl (ca 0, cap, .inl g))] s.heap.size = A at hD ⊢
  have hA : ∀ q : Nat, s.heap.size ≤ q → A q := fun q h => by rw [← hAe]; exact Or.inr h
  have hS : va_S A s.heap s.heap [] := va_S.rf
  have hP : va_P D vwCl [(x, .inr (4, [.ref q])), (q, .inr (2, [.ref a, .int (nI n)])), (a, .inl (ca 0, cap, .inl g))] s.heap := hP
  have hKv := hK.1
  have hl := lv_entry ([.ref x, .int v]) (n := 5) (kk_le rfl)
  rw [lg_entry_eq]
  generalize (lg_sl ([.ref x, .int v]) ++ List.replicate (5 - (lg_sl ([.ref x, .int v])).length) Slot.unset).toArray = ls at hl ⊢
  have hl : lv_has ls 5 [(0, .ref x), (1, .int v)] := hl
  generalize hQz : MQ below _ _ _ _ _ _ = Qz
  have hiX4 : ∀ w ∈ u_ws RX4 TX4 1, w ∈ wsX4_addGroup := fun w h => by first | exact List.mem_cons_of_mem _ (List.mem_append_right _ h) | exact List.mem_cons_of_mem _ (List.mem_append_left _ (List.mem_append_right _ h)) | exact List.mem_cons_of_mem _ (List.mem_append_left _ (List.mem_append_left _ (List.mem_append_right _ h))) | exact List.mem_cons_of_mem _ (List.mem_append_left _ (List.mem_append_left _ (List.mem_append_left _ (List.mem_append_right _ h)))) | (revert w h; decide +kernel)
  have lk14 : (Cond.fieldLink RX4 14 "StripeSwipes$Stripe" "bits" "LStripeSwipes$Row;").before _ s = true := hts _ (by decide +kernel)
  refine lv_iconst (v := nI 1) hx hb dX4_addGroup_0 (by decide) ?_
  refine lv_istore_n (lv' := [(2, .int (nI 1)), (0, .ref x), (1, .int v)]) hx hb dX4_addGroup_1 rfl hl (by decide) rfl (fun ls hl => ?_)
  refine lv_iconst (v := nI 0) hx hb dX4_addGroup_2 (by decide) ?_
  refine lv_istore_n (lv' := [(3, .int (nI 0)), (2, .int (nI 1)), (0, .ref x), (1, .int v)]) hx hb dX4_addGroup_3 rfl hl (by decide) rfl (fun ls hl => ?_)
  have lp4_0 : ∀ (k1 : Nat) (i : Nat) (pa : Int32), 4 - i < k1 → (i ≤ 4) → (pa = parS v i) → ∀ (H : Heap) (locs : List Loc), va_P D vwCl [(x, .inr (4, [.ref q])), (q, .inr (2, [.ref a, .int (nI (n + i))])), (a, .inl (ca 0, cap, .inl (apF g n (lst (bt v) i))))] H → va_D A [(x, .inr (4, [.ref q])), (q, .inr (2, [.ref a, .int (nI (n + i))])), (a, .inl (ca 0, cap, .inl (apF g n (lst (bt v) i))))] → va_S A s.heap H locs → ∀ (ls : Array Slot), lv_has ls 5 [(3, .int (nI i)), (2, .int pa), (0, .ref x), (1, .int v)] → W p l e rm_kX4_addGroup s m ([.ref x, .int v] : List Value).toArray below meth c H locs 0 0 Qz (F0 m 4 ls []) := by
    intro k1
    induction k1 with
    | zero => intro i pa hm1; exact absurd hm1 (Nat.not_lt_zero _)
    | succ k1 ih1 =>
      intro i pa hm1 hi hp H locs hP hD hS ls hl
      refine lv_iload_n hx hb dX4_addGroup_4 rfl (lv_at hl 0 rfl) ?_
      refine lv_iconst (v := nI 4) hx hb dX4_addGroup_5 (by decide) ?_
      refine ni_icmp_ge (tgt := 37) (by omega) (by omega) hx hb dX4_addGroup_6 (by decide) (fun c2 => ?_) (fun c2 => ?_)
      · refine lv_aload_n hx hb dX4_addGroup_37 rfl (lv_at hl 2 rfl) ?_
        refine va_get (D := D) (ci := 4) (C := RX4) (T := TX4) (N := 1) hx hb hts hiX4 hown hKv hP 0 rfl rfl 0 (by decide) lk14 (fun _ h9 => h9) rfl dX4_addGroup_38 ?_
        refine lv_iload_n hx hb dX4_addGroup_41 rfl (lv_at hl 1 rfl) ?_
        have hPc := hP.sub (ws' := [(q, .inr (2, [.ref a, .int (nI (n + i))])), (a, .inl (ca 0, cap, .inl (apF g n (lst (bt v) i))))]) [1, 2] rfl
        have hDc := hD.sub (ws' := [(q, .inr (2, [.ref a, .int (nI (n + i))])), (a, .inl (ca 0, cap, .inl (apF g n (lst (bt v) i))))]) [1, 2] (by decide) rfl
        have hFc := va_free (wc := [(q, .inr (2, [.ref a, .int (nI (n + i))])), (a, .inl (ca 0, cap, .inl (apF g n (lst (bt v) i))))]) hD hS hA [1, 2] rfl
        refine va_calli (va_runV (As := [.int pa]) (rest := []) ⟨hx, hb, hml, hown, hts⟩ (kX2_add l D ca H.size q a cap (apF g n (lst (bt v) i)) (n + i) pa (by first | rfl | assumption | omega | trivial | (exfalso; omega)) (by first | rfl | assumption | omega | trivial | (exfalso; omega))) (cwV 1 hts gX4_addGroup_X2_add rfl rfl rfl (by decide +kernel) ⟨kk_le rfl, kk_le rfl⟩) (pvM hK hPc (my_D_true hDc) (va_recv hKv hP (ci := 2) (q0 := 1) rfl rfl)) rfl rfl hl.1 rfl (lv_room (kk_le rfl)) dX4_addGroup_42 ⟨kk_le rfl, kk_le rfl⟩) hS (fun q _ h => hFc q h) hFc (fun r3 u t H1 locs ht hvm hwv hBv hz1 hk1 hS => ?_)
        obtain ⟨hP1, hD1⟩ := hBv
        rw [ht] at hP1
        have hP1 : va_P D vwCl [(q, .inr (2, [.ref a, .int (nI ((n + i) + 1))])), (a, .inl (ca 0, cap, .inl (upd (apF g n (lst (bt v) i)) (n + i) pa)))] H1 := hP1
        have hD1 : va_D _ [(q, .inr (2, [.ref a, .int (nI ((n + i) + 1))])), (a, .inl (ca 0, cap, .inl (upd (apF g n (lst (bt v) i)) (n + i) pa)))] := hD1
        obtain ⟨hr3, hw3⟩ := hwv
        subst hr3
        obtain ⟨hP, hD⟩ := va_join (wr := [(x, .inr (4, [.ref q]))]) (w1 := [(q, .inr (2, [.ref a, .int (nI ((n + i) + 1))])), (a, .inl (ca 0, cap, .inl (upd (apF g n (lst (bt v) i)) (n + i) pa)))]) hP hD [1, 2] [0] rfl rfl (by decide) (by decide) hk1 hFc hP1 hD1
        generalize H1 = H at hP hS ⊢
        have hP := hP.sub (ws' := [(x, .inr (4, [.ref q])), (q, .inr (2, [.ref a, .int (nI ((n + i) + 1))])), (a, .inl (ca 0, cap, .inl (upd (apF g n (lst (bt v) i)) (n + i) pa)))]) [0, 1, 2] rfl
        have hD := hD.sub (ws' := [(x, .inr (4, [.ref q])), (q, .inr (2, [.ref a, .int (nI ((n + i) + 1))])), (a, .inl (ca 0, cap, .inl (upd (apF g n (lst (bt v) i)) (n + i) pa)))]) [0, 1, 2] (by decide) rfl
        refine lv_pop hx hb dX4_addGroup_45 rfl ?_
        subst hQz
        have e5 : (nI ((n + i) + 1) : Int32) = nI (n + 5) := by first | exact congrArg nI (by omega) | exact addg_fin g n v (by omega) (by omega) hp
        have hP : va_P D vwCl [(x, .inr (4, [.ref q])), (q, .inr (2, [.ref a, .int (nI (n + 5))])), (a, .inl (ca 0, cap, .inl (upd (apF g n (lst (bt v) i)) (n + i) pa)))] H := Eq.mp (congrArg (fun z9 : Int32 => va_P D vwCl [(x, .inr (4, [.ref q])), (q, .inr (2, [.ref a, .int z9])), (a, .inl (ca 0, cap, .inl (upd (apF g n (lst (bt v) i)) (n + i) pa)))] H) e5) hP
        have hD : va_D A [(x, .inr (4, [.ref q])), (q, .inr (2, [.ref a, .int (nI (n + 5))])), (a, .inl (ca 0, cap, .inl (upd (apF g n (lst (bt v) i)) (n + i) pa)))] := Eq.mp (congrArg (fun z9 : Int32 => va_D A [(x, .inr (4, [.ref q])), (q, .inr (2, [.ref a, .int z9])), (a, .inl (ca 0, cap, .inl (upd (apF g n (lst (bt v) i)) (n + i) pa)))]) e5) hD
        have e6 : (upd (apF g n (lst (bt v) i)) (n + i) pa : Nat → Int32) = apF g n (grp v) := by first | exact congrArg nI (by omega) | exact addg_fin g n v (by omega) (by omega) hp
        have hP : va_P D vwCl [(x, .inr (4, [.ref q])), (q, .inr (2, [.ref a, .int (nI (n + 5))])), (a, .inl (ca 0, cap, .inl (apF g n (grp v))))] H := Eq.mp (congrArg (fun z9 : Nat → Int32 => va_P D vwCl [(x, .inr (4, [.ref q])), (q, .inr (2, [.ref a, .int (nI (n + 5))])), (a, .inl (ca 0, cap, .inl z9))] H) e6) hP
        have hD : va_D A [(x, .inr (4, [.ref q])), (q, .inr (2, [.ref a, .int (nI (n + 5))])), (a, .inl (ca 0, cap, .inl (apF g n (grp v))))] := Eq.mp (congrArg (fun z9 : Nat → Int32 => va_D A [(x, .inr (4, [.ref q])), (q, .inr (2, [.ref a, .int (nI (n + 5))])), (a, .inl (ca 0, cap, .inl z9))]) e6) hD
        exact W.vret hx hb hr (fun t ht hW => ⟨⟨(), rfl, by trivial, by rw [ht]; exact hP, hD⟩, hS.F ht⟩) hS.2.2 dX4_addGroup_46
      · refine lv_iload_n hx hb dX4_addGroup_9 rfl (lv_at hl 3 rfl) ?_
        refine lv_iload_n hx hb dX4_addGroup_10 rfl (lv_at hl 0 rfl) ?_
        refine lv_ishr hx hb dX4_addGroup_11 ?_
        refine lv_iconst (v := nI 1) hx hb dX4_addGroup_12 (by decide) ?_
        refine lv_iand hx hb dX4_addGroup_13 ?_
        refine lv_istore (lv' := [(4, .int ((v >>> ((nI i) &&& 31)) &&& (nI 1))), (3, .int (nI i)), (2, .int pa), (0, .ref x), (1, .int v)]) hx hb dX4_addGroup_14 hl (by decide) rfl (fun ls hl => ?_)
        refine lv_aload_n hx hb dX4_addGroup_16 rfl (lv_at hl 3 rfl) ?_
        refine va_get (D := D) (ci := 4) (C := RX4) (T := TX4) (N := 1) hx hb hts hiX4 hown hKv hP 0 rfl rfl 0 (by decide) lk14 (fun _ h9 => h9) rfl dX4_addGroup_17 ?_
        refine lv_iload hx hb dX4_addGroup_20 (lv_at hl 0 rfl) ?_
        have hPc := hP.sub (ws' := [(q, .inr (2, [.ref a, .int (nI (n + i))])), (a, .inl (ca 0, cap, .inl (apF g n (lst (bt v) i))))]) [1, 2] rfl
        have hDc := hD.sub (ws' := [(q, .inr (2, [.ref a, .int (nI (n + i))])), (a, .inl (ca 0, cap, .inl (apF g n (lst (bt v) i))))]) [1, 2] (by decide) rfl
        have hFc := va_free (wc := [(q, .inr (2, [.ref a, .int (nI (n + i))])), (a, .inl (ca 0, cap, .inl (apF g n (lst (bt v) i))))]) hD hS hA [1, 2] rfl
        refine va_calli (va_runV (As := [.int ((v >>> ((nI i) &&& 31)) &&& (nI 1))]) (rest := []) ⟨hx, hb, hml, hown, hts⟩ (kX2_add l D ca H.size q a cap (apF g n (lst (bt v) i)) (n + i) ((v >>> ((nI i) &&& 31)) &&& (nI 1)) (by first | rfl | assumption | omega | trivial | (exfalso; omega)) (by first | rfl | assumption | omega | trivial | (exfalso; omega))) (cwV 1 hts gX4_addGroup_X2_add rfl rfl rfl (by decide +kernel) ⟨kk_le rfl, kk_le rfl⟩) (pvM hK hPc (my_D_true hDc) (va_recv hKv hP (ci := 2) (q0 := 1) rfl rfl)) rfl rfl hl.1 rfl (lv_room (kk_le rfl)) dX4_addGroup_22 ⟨kk_le rfl, kk_le rfl⟩) hS (fun q _ h => hFc q h) hFc (fun r7 u t H1 locs ht hvm hwv hBv hz1 hk1 hS => ?_)
        obtain ⟨hP1, hD1⟩ := hBv
        rw [ht] at hP1
        have hP1 : va_P D vwCl [(q, .inr (2, [.ref a, .int (nI ((n + i) + 1))])), (a, .inl (ca 0, cap, .inl (upd (apF g n (lst (bt v) i)) (n + i) ((v >>> ((nI i) &&& 31)) &&& (nI 1)))))] H1 := hP1
        have hD1 : va_D _ [(q, .inr (2, [.ref a, .int (nI ((n + i) + 1))])), (a, .inl (ca 0, cap, .inl (upd (apF g n (lst (bt v) i)) (n + i) ((v >>> ((nI i) &&& 31)) &&& (nI 1)))))] := hD1
        obtain ⟨hr7, hw7⟩ := hwv
        subst hr7
        obtain ⟨hP, hD⟩ := va_join (wr := [(x, .inr (4, [.ref q]))]) (w1 := [(q, .inr (2, [.ref a, .int (nI ((n + i) + 1))])), (a, .inl (ca 0, cap, .inl (upd (apF g n (lst (bt v) i)) (n + i) ((v >>> ((nI i) &&& 31)) &&& (nI 1)))))]) hP hD [1, 2] [0] rfl rfl (by decide) (by decide) hk1 hFc hP1 hD1
        generalize H1 = H at hP hS ⊢
        have hP := hP.sub (ws' := [(x, .inr (4, [.ref q])), (q, .inr (2, [.ref a, .int (nI ((n + i) + 1))])), (a, .inl (ca 0, cap, .inl (upd (apF g n (lst (bt v) i)) (n + i) ((v >>> ((nI i) &&& 31)) &&& (nI 1)))))]) [0, 1, 2] rfl
        have hD := hD.sub (ws' := [(x, .inr (4, [.ref q])), (q, .inr (2, [.ref a, .int (nI ((n + i) + 1))])), (a, .inl (ca 0, cap, .inl (upd (apF g n (lst (bt v) i)) (n + i) ((v >>> ((nI i) &&& 31)) &&& (nI 1)))))]) [0, 1, 2] (by decide) rfl
        refine lv_pop hx hb dX4_addGroup_25 rfl ?_
        refine lv_iload_n hx hb dX4_addGroup_26 rfl (lv_at hl 2 rfl) ?_
        refine lv_iload hx hb dX4_addGroup_27 (lv_at hl 0 rfl) ?_
        refine lv_ixor hx hb dX4_addGroup_29 ?_
        refine lv_istore_n (lv' := [(2, .int (pa ^^^ ((v >>> ((nI i) &&& 31)) &&& (nI 1)))), (4, .int ((v >>> ((nI i) &&& 31)) &&& (nI 1))), (3, .int (nI i)), (0, .ref x), (1, .int v)]) hx hb dX4_addGroup_30 rfl hl (by decide) rfl (fun ls hl => ?_)
        refine lv_iinc (v := nI (i + 1)) (lv' := [(3, .int (nI (i + 1))), (2, .int (pa ^^^ ((v >>> ((nI i) &&& 31)) &&& (nI 1)))), (4, .int ((v >>> ((nI i) &&& 31)) &&& (nI 1))), (0, .ref x), (1, .int v)]) hx hb dX4_addGroup_31 hl (k := 2) rfl (ni_inc _ _ (by decide)) (by decide) rfl (fun ls hl => ?_)
        refine lv_goto (tgt := 4) hx hb dX4_addGroup_34 (by decide) ?_
        have e9 : (nI ((n + i) + 1) : Int32) = nI (n + (i + 1)) := by first | exact apF_lst1 g n (bt v) i | rfl
        have hP : va_P D vwCl [(x, .inr (4, [.ref q])), (q, .inr (2, [.ref a, .int (nI (n + (i + 1)))])), (a, .inl (ca 0, cap, .inl (upd (apF g n (lst (bt v) i)) (n + i) ((v >>> ((nI i) &&& 31)) &&& (nI 1)))))] H := Eq.mp (congrArg (fun z9 : Int32 => va_P D vwCl [(x, .inr (4, [.ref q])), (q, .inr (2, [.ref a, .int z9])), (a, .inl (ca 0, cap, .inl (upd (apF g n (lst (bt v) i)) (n + i) ((v >>> ((nI i) &&& 31)) &&& (nI 1)))))] H) e9) hP
        have hD : va_D A [(x, .inr (4, [.ref q])), (q, .inr (2, [.ref a, .int (nI (n + (i + 1)))])), (a, .inl (ca 0, cap, .inl (upd (apF g n (lst (bt v) i)) (n + i) ((v >>> ((nI i) &&& 31)) &&& (nI 1)))))] := Eq.mp (congrArg (fun z9 : Int32 => va_D A [(x, .inr (4, [.ref q])), (q, .inr (2, [.ref a, .int z9])), (a, .inl (ca 0, cap, .inl (upd (apF g n (lst (bt v) i)) (n + i) ((v >>> ((nI i) &&& 31)) &&& (nI 1)))))]) e9) hD
        have e10 : (upd (apF g n (lst (bt v) i)) (n + i) ((v >>> ((nI i) &&& 31)) &&& (nI 1)) : Nat → Int32) = apF g n (lst (bt v) (i + 1)) := by first | exact apF_lst1 g n (bt v) i | rfl
        have hP : va_P D vwCl [(x, .inr (4, [.ref q])), (q, .inr (2, [.ref a, .int (nI (n + (i + 1)))])), (a, .inl (ca 0, cap, .inl (apF g n (lst (bt v) (i + 1)))))] H := Eq.mp (congrArg (fun z9 : Nat → Int32 => va_P D vwCl [(x, .inr (4, [.ref q])), (q, .inr (2, [.ref a, .int (nI (n + (i + 1)))])), (a, .inl (ca 0, cap, .inl z9))] H) e10) hP
        have hD : va_D A [(x, .inr (4, [.ref q])), (q, .inr (2, [.ref a, .int (nI (n + (i + 1)))])), (a, .inl (ca 0, cap, .inl (apF g n (lst (bt v) (i + 1)))))] := Eq.mp (congrArg (fun z9 : Nat → Int32 => va_D A [(x, .inr (4, [.ref q])), (q, .inr (2, [.ref a, .int (nI (n + (i + 1)))])), (a, .inl (ca 0, cap, .inl z9))]) e10) hD
        exact ih1 (i + 1) (pa ^^^ ((v >>> ((nI i) &&& 31)) &&& (nI 1))) (by omega) (by omega) (by rw [hp]; rfl) _ _ hP hD hS ls (lv_sub hl [0, 1, 3, 4] rfl)
  have e11 : (nI n : Int32) = nI (n + 0) := by first | rfl | exact (apF_0 g n).symm
  have hP : va_P D vwCl [(x, .inr (4, [.ref q])), (q, .inr (2, [.ref a, .int (nI (n + 0))])), (a, .inl (ca 0, cap, .inl g))] s.heap := Eq.mp (congrArg (fun z9 : Int32 => va_P D vwCl [(x, .inr (4, [.ref q])), (q, .inr (2, [.ref a, .int z9])), (a, .inl (ca 0, cap, .inl g))] s.heap) e11) hP
  have hD : va_D A [(x, .inr (4, [.ref q])), (q, .inr (2, [.ref a, .int (nI (n + 0))])), (a, .inl (ca 0, cap, .inl g))] := Eq.mp (congrArg (fun z9 : Int32 => va_D A [(x, .inr (4, [.ref q])), (q, .inr (2, [.ref a, .int z9])), (a, .inl (ca 0, cap, .inl g))]) e11) hD
  have e12 : (g : Nat → Int32) = apF g n (lst (bt v) 0) := by first | rfl | exact (apF_0 g n).symm
  have hP : va_P D vwCl [(x, .inr (4, [.ref q])), (q, .inr (2, [.ref a, .int (nI (n + 0))])), (a, .inl (ca 0, cap, .inl (apF g n (lst (bt v) 0))))] s.heap := Eq.mp (congrArg (fun z9 : Nat → Int32 => va_P D vwCl [(x, .inr (4, [.ref q])), (q, .inr (2, [.ref a, .int (nI (n + 0))])), (a, .inl (ca 0, cap, .inl z9))] s.heap) e12) hP
  have hD : va_D A [(x, .inr (4, [.ref q])), (q, .inr (2, [.ref a, .int (nI (n + 0))])), (a, .inl (ca 0, cap, .inl (apF g n (lst (bt v) 0))))] := Eq.mp (congrArg (fun z9 : Nat → Int32 => va_D A [(x, .inr (4, [.ref q])), (q, .inr (2, [.ref a, .int (nI (n + 0))])), (a, .inl (ca 0, cap, .inl z9))]) e12) hD
  exact lp4_0 ((4 - 0) + 1) 0 (nI 1) (by omega) (by omega) (by rfl) _ _ hP hD hS ls (lv_sub hl [0, 1, 2, 3] rfl)
abbrev rm_kX4_layOut : Room := { frames := 2, cells := 0, slots := 0, locals := 45 }
set_option maxHeartbeats 4000000 in
set_option maxRecDepth 100000 in
theorem kX4_layOut (l : Launch) (D : va_G) (ca : Nat → ClassId) (sz : Nat) (x q a cap : Nat) (g : Nat → Int32) (n : Nat) (q2 a2 cap2 : Nat) (g2 : Nat → Int32) (n2 : Nat) (z : Nat) (hn : n ≤ cap) (hc : cap < 1000000) (hn2 : n2 ≤ cap2) (hc2 : cap2 < 1000000) (hz : 2 * z + 5 * (n2 + 3) ≤ cap) : Met l yX4_layOut wsX4_layOut rm_kX4_layOut (pcM D ca [.ref x, .ref q2, .int (nI z)] [(x, .inr (4, [.ref q])), (q, .inr (2, [.ref a, .int (nI n)])), (a, .inl (ca 0, cap, .inl g)), (q2, .inr (2, [.ref a2, .int (nI n2)])), (a2, .inl (ca 0, cap2, .inl g2))] sz) (va_Qv (fun (u : Unit) => True) (qB D (va_A [(x, .inr (4, [.ref q])), (q, .inr (2, [.ref a, .int (nI n)])), (a, .inl (ca 0, cap, .inl g)), (q2, .inr (2, [.ref a2, .int (nI n2)])), (a2, .inl (ca 0, cap2, .inl g2))] sz) (fun u : Unit => [(x, .inr (4, [.ref q])), (q, .inr (2, [.ref a, .int (nI ((strp z (lst g2 n2)).length))])), (a, .inl (ca 0, cap, .inl (apF g 0 (strp z (lst g2 n2))))), (q2, .inr (2, [.ref a2, .int (nI n2)])), (a2, .inl (ca 0, cap2, .inl g2))])) (va_A [(x, .inr (4, [.ref q])), (q, .inr (2, [.ref a, .int (nI n)])), (a, .inl (ca 0, cap, .inl g)), (q2, .inr (2, [.ref a2, .int (nI n2)])), (a2, .inl (ca 0, cap2, .inl g2))] sz)) 0 0 (va_A [(x, .inr (4, [.ref q])), (q, .inr (2, [.ref a, .int (nI n)])), (a, .inl (ca 0, cap, .inl g)), (q2, .inr (2, [.ref a2, .int (nI n2)])), (a2, .inl (ca 0, cap2, .inl g2))] sz) := by
  refine Met.ofW (cc := cX4_layOut) (maxL := 4) (ret := none) (by decide) rfl ?_
  intro p e s m args below meth c s₁ B hml hv
  obtain ⟨rfl, hsz, hP, hK, hD0⟩ := hv
  have hx := B.exec
  have hb := B.bytes
  have hr := B.returns
  have hts := atoms_spec (ws := wsX4_layOut) B.pre
  have hown : s.vm.findClass RX4 = some m.cls := findClass_of_methodNamed B.named
  have hlocks := B.notSynchronized
  subst hsz
  have hD := hD0.self (sz := s.heap.size)
  generalize hAe : va_A [(x, .inr (4, [.ref q])), (q, .inr (2, [.ref a, .int (nI n)])), (a, .inl (ca 0, cap, .inl g)), (q2, .inr (2, [.ref a2, .int (nI n2)])), (a2, .inl (ca 0, cap2, .inl g2))] s.heap.size = A at hD ⊢
  have hA : ∀ q : Nat, s.heap.size ≤ q → A q := fun q h => by rw [← hAe]; exact Or.inr h
  have hS : va_S A s.heap s.heap [] := va_S.rf
  have hP : va_P D vwCl [(x, .inr (4, [.ref q])), (q, .inr (2, [.ref a, .int (nI n)])), (a, .inl (ca 0, cap, .inl g)), (q2, .inr (2, [.ref a2, .int (nI n2)])), (a2, .inl (ca 0, cap2, .inl g2))] s.heap := hP
  have hKv := hK.1
  have hl := lv_entry ([.ref x, .ref q2, .int (nI z)]) (n := 4) (kk_le rfl)
  rw [lg_entry_eq]
  generalize (lg_sl ([.ref x, .ref q2, .int (nI z)]) ++ List.replicate (4 - (lg_sl ([.ref x, .ref q2, .int (nI z)])).length) Slot.unset).toArray = ls at hl ⊢
  have hl : lv_has ls 4 [(0, .ref x), (1, .ref q2), (2, .int (nI z))] := hl
  generalize hQz : MQ below _ _ _ _ _ _ = Qz
  have hiX4 : ∀ w ∈ u_ws RX4 TX4 1, w ∈ wsX4_layOut := fun w h => by first | exact List.mem_cons_of_mem _ (List.mem_append_right _ h) | exact List.mem_cons_of_mem _ (List.mem_append_left _ (List.mem_append_right _ h)) | exact List.mem_cons_of_mem _ (List.mem_append_left _ (List.mem_append_left _ (List.mem_append_right _ h))) | exact List.mem_cons_of_mem _ (List.mem_append_left _ (List.mem_append_left _ (List.mem_append_left _ (List.mem_append_right _ h)))) | (revert w h; decide +kernel)
  have lk14 : (Cond.fieldLink RX4 14 "StripeSwipes$Stripe" "bits" "LStripeSwipes$Row;").before _ s = true := hts _ (by decide +kernel)
  refine lv_aload_n hx hb dX4_layOut_0 rfl (lv_at hl 0 rfl) ?_
  refine va_get (D := D) (ci := 4) (C := RX4) (T := TX4) (N := 1) hx hb hts hiX4 hown hKv hP 0 rfl rfl 0 (by decide) lk14 (fun _ h9 => h9) rfl dX4_layOut_1 ?_
  have hPc := hP.sub (ws' := [(q, .inr (2, [.ref a, .int (nI n)])), (a, .inl (ca 0, cap, .inl g))]) [1, 2] rfl
  have hDc := hD.sub (ws' := [(q, .inr (2, [.ref a, .int (nI n)])), (a, .inl (ca 0, cap, .inl g))]) [1, 2] (by decide) rfl
  have hFc := va_free (wc := [(q, .inr (2, [.ref a, .int (nI n)])), (a, .inl (ca 0, cap, .inl g))]) hD hS hA [1, 2] rfl
  refine va_callv (va_runV (As := []) (rest := []) ⟨hx, hb, hml, hown, hts⟩ (kX2_empty l D ca s.heap.size q a cap g n (by first | rfl | assumption | omega | trivial | (exfalso; omega)) (by first | rfl | assumption | omega | trivial | (exfalso; omega))) (cwV 0 hts gX4_layOut_X2_empty rfl rfl rfl (by decide +kernel) ⟨kk_le rfl, kk_le rfl⟩) (pvM hK hPc (my_D_true hDc) (va_recv hKv hP (ci := 2) (q0 := 1) rfl rfl)) rfl rfl hl.1 rfl (lv_room (kk_le rfl)) dX4_layOut_4 ⟨kk_le rfl, kk_le rfl⟩) hS (fun q _ h => hFc q h) hFc (fun u t H1 locs ht hvm hwv hBv hz1 hk1 hS => ?_)
  obtain ⟨hP1, hD1⟩ := hBv
  rw [ht] at hP1
  have hP1 : va_P D vwCl [(q, .inr (2, [.ref a, .int (nI 0)])), (a, .inl (ca 0, cap, .inl g))] H1 := hP1
  have hD1 : va_D _ [(q, .inr (2, [.ref a, .int (nI 0)])), (a, .inl (ca 0, cap, .inl g))] := hD1
  have hw1 := hwv
  obtain ⟨hP, hD⟩ := va_join (wr := [(x, .inr (4, [.ref q])), (q2, .inr (2, [.ref a2, .int (nI n2)])), (a2, .inl (ca 0, cap2, .inl g2))]) (w1 := [(q, .inr (2, [.ref a, .int (nI 0)])), (a, .inl (ca 0, cap, .inl g))]) hP hD [1, 2] [0, 3, 4] rfl rfl (by decide) (by decide) hk1 hFc hP1 hD1
  generalize H1 = H at hP hS ⊢
  have hP := hP.sub (ws' := [(x, .inr (4, [.ref q])), (q, .inr (2, [.ref a, .int (nI 0)])), (a, .inl (ca 0, cap, .inl g)), (q2, .inr (2, [.ref a2, .int (nI n2)])), (a2, .inl (ca 0, cap2, .inl g2))]) [0, 3, 4, 1, 2] rfl
  have hD := hD.sub (ws' := [(x, .inr (4, [.ref q])), (q, .inr (2, [.ref a, .int (nI 0)])), (a, .inl (ca 0, cap, .inl g)), (q2, .inr (2, [.ref a2, .int (nI n2)])), (a2, .inl (ca 0, cap2, .inl g2))]) [0, 3, 4, 1, 2] (by decide) rfl
  refine lv_aload_n hx hb dX4_layOut_7 rfl (lv_at hl 0 rfl) ?_
  refine lv_iload_n hx hb dX4_layOut_8 rfl (lv_at hl 2 rfl) ?_
  have hPc := hP.sub (ws' := [(x, .inr (4, [.ref q])), (q, .inr (2, [.ref a, .int (nI 0)])), (a, .inl (ca 0, cap, .inl g))]) [0, 1, 2] rfl
  have hDc := hD.sub (ws' := [(x, .inr (4, [.ref q])), (q, .inr (2, [.ref a, .int (nI 0)])), (a, .inl (ca 0, cap, .inl g))]) [0, 1, 2] (by decide) rfl
  have hFc := va_free (wc := [(x, .inr (4, [.ref q])), (q, .inr (2, [.ref a, .int (nI 0)])), (a, .inl (ca 0, cap, .inl g))]) hD hS hA [0, 1, 2] rfl
  refine va_callv (va_runV (As := [.int (nI z)]) (rest := []) ⟨hx, hb, hml, hown, hts⟩ (kX4_addZeros l D ca H.size x q a cap g 0 z (by omega) (by omega)) (cwV 1 hts gX4_layOut_X4_addZeros rfl rfl rfl (by decide +kernel) ⟨kk_le rfl, kk_le rfl⟩) (pvM hK hPc (my_D_true hDc) (va_recv hKv hP (ci := 4) (q0 := 0) rfl rfl)) rfl rfl hl.1 rfl (lv_room (kk_le rfl)) dX4_layOut_9 ⟨kk_le rfl, kk_le rfl⟩) hS (fun q _ h => hFc q h) hFc (fun u t H1 locs ht hvm hwv hBv hz1 hk1 hS => ?_)
  obtain ⟨hP1, hD1⟩ := hBv
  rw [ht] at hP1
  have hP1 : va_P D vwCl [(x, .inr (4, [.ref q])), (q, .inr (2, [.ref a, .int (nI (0 + z))])), (a, .inl (ca 0, cap, .inl (apF g 0 (List.replicate z (nI 0)))))] H1 := hP1
  have hD1 : va_D _ [(x, .inr (4, [.ref q])), (q, .inr (2, [.ref a, .int (nI (0 + z))])), (a, .inl (ca 0, cap, .inl (apF g 0 (List.replicate z (nI 0)))))] := hD1
  have hw3 := hwv
  obtain ⟨hP, hD⟩ := va_join (wr := [(q2, .inr (2, [.ref a2, .int (nI n2)])), (a2, .inl (ca 0, cap2, .inl g2))]) (w1 := [(x, .inr (4, [.ref q])), (q, .inr (2, [.ref a, .int (nI (0 + z))])), (a, .inl (ca 0, cap, .inl (apF g 0 (List.replicate z (nI 0)))))]) hP hD [0, 1, 2] [3, 4] rfl rfl (by decide) (by decide) hk1 hFc hP1 hD1
  generalize H1 = H at hP hS ⊢
  have hP := hP.sub (ws' := [(x, .inr (4, [.ref q])), (q, .inr (2, [.ref a, .int (nI (0 + z))])), (a, .inl (ca 0, cap, .inl (apF g 0 (List.replicate z (nI 0))))), (q2, .inr (2, [.ref a2, .int (nI n2)])), (a2, .inl (ca 0, cap2, .inl g2))]) [2, 3, 4, 0, 1] rfl
  have hD := hD.sub (ws' := [(x, .inr (4, [.ref q])), (q, .inr (2, [.ref a, .int (nI (0 + z))])), (a, .inl (ca 0, cap, .inl (apF g 0 (List.replicate z (nI 0))))), (q2, .inr (2, [.ref a2, .int (nI n2)])), (a2, .inl (ca 0, cap2, .inl g2))]) [2, 3, 4, 0, 1] (by decide) rfl
  refine lv_aload_n hx hb dX4_layOut_12 rfl (lv_at hl 0 rfl) ?_
  refine lv_bipush (v := nI 11) hx hb dX4_layOut_13 (by decide) ?_
  have hPc := hP.sub (ws' := [(x, .inr (4, [.ref q])), (q, .inr (2, [.ref a, .int (nI (0 + z))])), (a, .inl (ca 0, cap, .inl (apF g 0 (List.replicate z (nI 0)))))]) [0, 1, 2] rfl
  have hDc := hD.sub (ws' := [(x, .inr (4, [.ref q])), (q, .inr (2, [.ref a, .int (nI (0 + z))])), (a, .inl (ca 0, cap, .inl (apF g 0 (List.replicate z (nI 0)))))]) [0, 1, 2] (by decide) rfl
  have hFc := va_free (wc := [(x, .inr (4, [.ref q])), (q, .inr (2, [.ref a, .int (nI (0 + z))])), (a, .inl (ca 0, cap, .inl (apF g 0 (List.replicate z (nI 0)))))]) hD hS hA [0, 1, 2] rfl
  refine va_callv (va_runV (As := [.int (nI 11)]) (rest := []) ⟨hx, hb, hml, hown, hts⟩ (kX4_addGroup l D ca H.size x q a cap (apF g 0 (List.replicate z (nI 0))) (0 + z) (nI 11) (by omega) (by omega)) (cwV 1 hts gX4_layOut_X4_addGroup rfl rfl rfl (by decide +kernel) ⟨kk_le rfl, kk_le rfl⟩) (pvM hK hPc (my_D_true hDc) (va_recv hKv hP (ci := 4) (q0 := 0) rfl rfl)) rfl rfl hl.1 rfl (lv_room (kk_le rfl)) dX4_layOut_15 ⟨kk_le rfl, kk_le rfl⟩) hS (fun q _ h => hFc q h) hFc (fun u t H1 locs ht hvm hwv hBv hz1 hk1 hS => ?_)
  obtain ⟨hP1, hD1⟩ := hBv
  rw [ht] at hP1
  have hP1 : va_P D vwCl [(x, .inr (4, [.ref q])), (q, .inr (2, [.ref a, .int (nI ((0 + z) + 5))])), (a, .inl (ca 0, cap, .inl (apF (apF g 0 (List.replicate z (nI 0))) (0 + z) (grp (nI 11)))))] H1 := hP1
  have hD1 : va_D _ [(x, .inr (4, [.ref q])), (q, .inr (2, [.ref a, .int (nI ((0 + z) + 5))])), (a, .inl (ca 0, cap, .inl (apF (apF g 0 (List.replicate z (nI 0))) (0 + z) (grp (nI 11)))))] := hD1
  have hw5 := hwv
  obtain ⟨hP, hD⟩ := va_join (wr := [(q2, .inr (2, [.ref a2, .int (nI n2)])), (a2, .inl (ca 0, cap2, .inl g2))]) (w1 := [(x, .inr (4, [.ref q])), (q, .inr (2, [.ref a, .int (nI ((0 + z) + 5))])), (a, .inl (ca 0, cap, .inl (apF (apF g 0 (List.replicate z (nI 0))) (0 + z) (grp (nI 11)))))]) hP hD [0, 1, 2] [3, 4] rfl rfl (by decide) (by decide) hk1 hFc hP1 hD1
  generalize H1 = H at hP hS ⊢
  have hP := hP.sub (ws' := [(x, .inr (4, [.ref q])), (q, .inr (2, [.ref a, .int (nI ((0 + z) + 5))])), (a, .inl (ca 0, cap, .inl (apF (apF g 0 (List.replicate z (nI 0))) (0 + z) (grp (nI 11))))), (q2, .inr (2, [.ref a2, .int (nI n2)])), (a2, .inl (ca 0, cap2, .inl g2))]) [2, 3, 4, 0, 1] rfl
  have hD := hD.sub (ws' := [(x, .inr (4, [.ref q])), (q, .inr (2, [.ref a, .int (nI ((0 + z) + 5))])), (a, .inl (ca 0, cap, .inl (apF (apF g 0 (List.replicate z (nI 0))) (0 + z) (grp (nI 11))))), (q2, .inr (2, [.ref a2, .int (nI n2)])), (a2, .inl (ca 0, cap2, .inl g2))]) [2, 3, 4, 0, 1] (by decide) rfl
  refine lv_iconst (v := nI 0) hx hb dX4_layOut_18 (by decide) ?_
  refine lv_istore_n (lv' := [(3, .int (nI 0)), (0, .ref x), (1, .ref q2), (2, .int (nI z))]) hx hb dX4_layOut_19 rfl hl (by decide) rfl (fun ls hl => ?_)
  have lp20_6 : ∀ (k1 : Nat) (i : Nat), n2 - i < k1 → (i ≤ n2) → ∀ (H : Heap) (locs : List Loc), va_P D vwCl [(x, .inr (4, [.ref q])), (q, .inr (2, [.ref a, .int (nI (z + 5 + 5 * i))])), (a, .inl (ca 0, cap, .inl (apF g 0 (layF z (lst g2 i))))), (q2, .inr (2, [.ref a2, .int (nI n2)])), (a2, .inl (ca 0, cap2, .inl g2))] H → va_D A [(x, .inr (4, [.ref q])), (q, .inr (2, [.ref a, .int (nI (z + 5 + 5 * i))])), (a, .inl (ca 0, cap, .inl (apF g 0 (layF z (lst g2 i))))), (q2, .inr (2, [.ref a2, .int (nI n2)])), (a2, .inl (ca 0, cap2, .inl g2))] → va_S A s.heap H locs → ∀ (ls : Array Slot), lv_has ls 4 [(3, .int (nI i)), (0, .ref x), (1, .ref q2), (2, .int (nI z))] → W p l e rm_kX4_layOut s m ([.ref x, .ref q2, .int (nI z)] : List Value).toArray below meth c H locs 0 0 Qz (F0 m 20 ls []) := by
    intro k1
    induction k1 with
    | zero => intro i hm1; exact absurd hm1 (Nat.not_lt_zero _)
    | succ k1 ih1 =>
      intro i hm1 hi H locs hP hD hS ls hl
      refine lv_iload_n hx hb dX4_layOut_20 rfl (lv_at hl 0 rfl) ?_
      refine lv_aload_n hx hb dX4_layOut_21 rfl (lv_at hl 2 rfl) ?_
      refine vp_callSi (va_Run.run (va_runV (As := []) (rest := [.int (nI i)]) ⟨hx, hb, hml, hown, hts⟩ (kX2_size l D ca q2 a2 cap2 g2 n2 (by first | rfl | assumption | omega | trivial | (exfalso; omega)) (by first | rfl | assumption | omega | trivial | (exfalso; omega))) (cwV 0 hts gX4_layOut_X2_size rfl rfl rfl (by decide +kernel) ⟨kk_le rfl, kk_le rfl⟩) (pvR hK (hP.sub (ws' := [(q2, .inr (2, [.ref a2, .int (nI n2)])), (a2, .inl (ca 0, cap2, .inl g2))]) [3, 4] rfl) (va_recv hKv hP (ci := 2) (q0 := 3) rfl rfl)) rfl rfl hl.1 rfl (lv_room (kk_le rfl)) dX4_layOut_22 ⟨kk_le rfl, kk_le rfl⟩)) (fun r8 hr8 => ?_)
      subst hr8
      refine ni_icmp_ge (tgt := 43) (by omega) (by omega) hx hb dX4_layOut_25 (by decide) (fun c9 => ?_) (fun c9 => ?_)
      · refine lv_aload_n hx hb dX4_layOut_43 rfl (lv_at hl 1 rfl) ?_
        refine lv_bipush (v := nI 15) hx hb dX4_layOut_44 (by decide) ?_
        have hPc := hP.sub (ws' := [(x, .inr (4, [.ref q])), (q, .inr (2, [.ref a, .int (nI (z + 5 + 5 * i))])), (a, .inl (ca 0, cap, .inl (apF g 0 (layF z (lst g2 i)))))]) [0, 1, 2] rfl
        have hDc := hD.sub (ws' := [(x, .inr (4, [.ref q])), (q, .inr (2, [.ref a, .int (nI (z + 5 + 5 * i))])), (a, .inl (ca 0, cap, .inl (apF g 0 (layF z (lst g2 i)))))]) [0, 1, 2] (by decide) rfl
        have hFc := va_free (wc := [(x, .inr (4, [.ref q])), (q, .inr (2, [.ref a, .int (nI (z + 5 + 5 * i))])), (a, .inl (ca 0, cap, .inl (apF g 0 (layF z (lst g2 i)))))]) hD hS hA [0, 1, 2] rfl
        refine va_callv (va_runV (As := [.int (nI 15)]) (rest := []) ⟨hx, hb, hml, hown, hts⟩ (kX4_addGroup l D ca H.size x q a cap (apF g 0 (layF z (lst g2 i))) (z + 5 + 5 * i) (nI 15) (by first | rfl | assumption | omega | trivial | (exfalso; omega)) (by first | rfl | assumption | omega | trivial | (exfalso; omega))) (cwV 1 hts gX4_layOut_X4_addGroup rfl rfl rfl (by decide +kernel) ⟨kk_le rfl, kk_le rfl⟩) (pvM hK hPc (my_D_true hDc) (va_recv hKv hP (ci := 4) (q0 := 0) rfl rfl)) rfl rfl hl.1 rfl (lv_room (kk_le rfl)) dX4_layOut_46 ⟨kk_le rfl, kk_le rfl⟩) hS (fun q _ h => hFc q h) hFc (fun u t H1 locs ht hvm hwv hBv hz1 hk1 hS => ?_)
        obtain ⟨hP1, hD1⟩ := hBv
        rw [ht] at hP1
        have hP1 : va_P D vwCl [(x, .inr (4, [.ref q])), (q, .inr (2, [.ref a, .int (nI ((z + 5 + 5 * i) + 5))])), (a, .inl (ca 0, cap, .inl (apF (apF g 0 (layF z (lst g2 i))) (z + 5 + 5 * i) (grp (nI 15)))))] H1 := hP1
        have hD1 : va_D _ [(x, .inr (4, [.ref q])), (q, .inr (2, [.ref a, .int (nI ((z + 5 + 5 * i) + 5))])), (a, .inl (ca 0, cap, .inl (apF (apF g 0 (layF z (lst g2 i))) (z + 5 + 5 * i) (grp (nI 15)))))] := hD1
        have hw10 := hwv
        obtain ⟨hP, hD⟩ := va_join (wr := [(q2, .inr (2, [.ref a2, .int (nI n2)])), (a2, .inl (ca 0, cap2, .inl g2))]) (w1 := [(x, .inr (4, [.ref q])), (q, .inr (2, [.ref a, .int (nI ((z + 5 + 5 * i) + 5))])), (a, .inl (ca 0, cap, .inl (apF (apF g 0 (layF z (lst g2 i))) (z + 5 + 5 * i) (grp (nI 15)))))]) hP hD [0, 1, 2] [3, 4] rfl rfl (by decide) (by decide) hk1 hFc hP1 hD1
        generalize H1 = H at hP hS ⊢
        have hP := hP.sub (ws' := [(x, .inr (4, [.ref q])), (q, .inr (2, [.ref a, .int (nI ((z + 5 + 5 * i) + 5))])), (a, .inl (ca 0, cap, .inl (apF (apF g 0 (layF z (lst g2 i))) (z + 5 + 5 * i) (grp (nI 15))))), (q2, .inr (2, [.ref a2, .int (nI n2)])), (a2, .inl (ca 0, cap2, .inl g2))]) [2, 3, 4, 0, 1] rfl
        have hD := hD.sub (ws' := [(x, .inr (4, [.ref q])), (q, .inr (2, [.ref a, .int (nI ((z + 5 + 5 * i) + 5))])), (a, .inl (ca 0, cap, .inl (apF (apF g 0 (layF z (lst g2 i))) (z + 5 + 5 * i) (grp (nI 15))))), (q2, .inr (2, [.ref a2, .int (nI n2)])), (a2, .inl (ca 0, cap2, .inl g2))]) [2, 3, 4, 0, 1] (by decide) rfl
        refine lv_aload_n hx hb dX4_layOut_49 rfl (lv_at hl 1 rfl) ?_
        refine lv_aload_n hx hb dX4_layOut_50 rfl (lv_at hl 2 rfl) ?_
        refine vp_callSi (va_Run.run (va_runSN (As := [.ref q2]) (rest := [.ref x]) ⟨hx, hb, hml, hown, hts⟩ (kX5_checkOf l D ca q2 a2 cap2 g2 n2 (by first | rfl | assumption | omega | trivial | (exfalso; omega)) (by first | rfl | assumption | omega | trivial | (exfalso; omega))) ⟨va_cnB 1 hts ggX4_layOut_X5_checkOf rfl rfl rfl hK.2.m37 (hts _ (by decide +kernel)) (by decide +kernel) ⟨kk_le rfl, kk_le rfl⟩, hts _ (by decide +kernel), trivial⟩ (psR hK (hP.sub (ws' := [(q2, .inr (2, [.ref a2, .int (nI n2)])), (a2, .inl (ca 0, cap2, .inl g2))]) [3, 4] rfl)) rfl rfl hl.1 rfl (lv_room (kk_le rfl)) dX4_layOut_51 ⟨kk_le rfl, kk_le rfl⟩)) (fun r12 hr12 => ?_)
        subst hr12
        have hPc := hP.sub (ws' := [(x, .inr (4, [.ref q])), (q, .inr (2, [.ref a, .int (nI ((z + 5 + 5 * i) + 5))])), (a, .inl (ca 0, cap, .inl (apF (apF g 0 (layF z (lst g2 i))) (z + 5 + 5 * i) (grp (nI 15)))))]) [0, 1, 2] rfl
        have hDc := hD.sub (ws' := [(x, .inr (4, [.ref q])), (q, .inr (2, [.ref a, .int (nI ((z + 5 + 5 * i) + 5))])), (a, .inl (ca 0, cap, .inl (apF (apF g 0 (layF z (lst g2 i))) (z + 5 + 5 * i) (grp (nI 15)))))]) [0, 1, 2] (by decide) rfl
        have hFc := va_free (wc := [(x, .inr (4, [.ref q])), (q, .inr (2, [.ref a, .int (nI ((z + 5 + 5 * i) + 5))])), (a, .inl (ca 0, cap, .inl (apF (apF g 0 (layF z (lst g2 i))) (z + 5 + 5 * i) (grp (nI 15)))))]) hD hS hA [0, 1, 2] rfl
        refine va_callv (va_runV (As := [.int (chkL (lst g2 n2))]) (rest := []) ⟨hx, hb, hml, hown, hts⟩ (kX4_addGroup l D ca H.size x q a cap (apF (apF g 0 (layF z (lst g2 i))) (z + 5 + 5 * i) (grp (nI 15))) ((z + 5 + 5 * i) + 5) (chkL (lst g2 n2)) (by first | rfl | assumption | omega | trivial | (exfalso; omega)) (by first | rfl | assumption | omega | trivial | (exfalso; omega))) (cwV 1 hts gX4_layOut_X4_addGroup rfl rfl rfl (by decide +kernel) ⟨kk_le rfl, kk_le rfl⟩) (pvM hK hPc (my_D_true hDc) (va_recv hKv hP (ci := 4) (q0 := 0) rfl rfl)) rfl rfl hl.1 rfl (lv_room (kk_le rfl)) dX4_layOut_54 ⟨kk_le rfl, kk_le rfl⟩) hS (fun q _ h => hFc q h) hFc (fun u t H1 locs ht hvm hwv hBv hz1 hk1 hS => ?_)
        obtain ⟨hP1, hD1⟩ := hBv
        rw [ht] at hP1
        have hP1 : va_P D vwCl [(x, .inr (4, [.ref q])), (q, .inr (2, [.ref a, .int (nI (((z + 5 + 5 * i) + 5) + 5))])), (a, .inl (ca 0, cap, .inl (apF (apF (apF g 0 (layF z (lst g2 i))) (z + 5 + 5 * i) (grp (nI 15))) ((z + 5 + 5 * i) + 5) (grp (chkL (lst g2 n2))))))] H1 := hP1
        have hD1 : va_D _ [(x, .inr (4, [.ref q])), (q, .inr (2, [.ref a, .int (nI (((z + 5 + 5 * i) + 5) + 5))])), (a, .inl (ca 0, cap, .inl (apF (apF (apF g 0 (layF z (lst g2 i))) (z + 5 + 5 * i) (grp (nI 15))) ((z + 5 + 5 * i) + 5) (grp (chkL (lst g2 n2))))))] := hD1
        have hw13 := hwv
        obtain ⟨hP, hD⟩ := va_join (wr := [(q2, .inr (2, [.ref a2, .int (nI n2)])), (a2, .inl (ca 0, cap2, .inl g2))]) (w1 := [(x, .inr (4, [.ref q])), (q, .inr (2, [.ref a, .int (nI (((z + 5 + 5 * i) + 5) + 5))])), (a, .inl (ca 0, cap, .inl (apF (apF (apF g 0 (layF z (lst g2 i))) (z + 5 + 5 * i) (grp (nI 15))) ((z + 5 + 5 * i) + 5) (grp (chkL (lst g2 n2))))))]) hP hD [0, 1, 2] [3, 4] rfl rfl (by decide) (by decide) hk1 hFc hP1 hD1
        generalize H1 = H at hP hS ⊢
        have hP := hP.sub (ws' := [(x, .inr (4, [.ref q])), (q, .inr (2, [.ref a, .int (nI (((z + 5 + 5 * i) + 5) + 5))])), (a, .inl (ca 0, cap, .inl (apF (apF (apF g 0 (layF z (lst g2 i))) (z + 5 + 5 * i) (grp (nI 15))) ((z + 5 + 5 * i) + 5) (grp (chkL (lst g2 n2)))))), (q2, .inr (2, [.ref a2, .int (nI n2)])), (a2, .inl (ca 0, cap2, .inl g2))]) [2, 3, 4, 0, 1] rfl
        have hD := hD.sub (ws' := [(x, .inr (4, [.ref q])), (q, .inr (2, [.ref a, .int (nI (((z + 5 + 5 * i) + 5) + 5))])), (a, .inl (ca 0, cap, .inl (apF (apF (apF g 0 (layF z (lst g2 i))) (z + 5 + 5 * i) (grp (nI 15))) ((z + 5 + 5 * i) + 5) (grp (chkL (lst g2 n2)))))), (q2, .inr (2, [.ref a2, .int (nI n2)])), (a2, .inl (ca 0, cap2, .inl g2))]) [2, 3, 4, 0, 1] (by decide) rfl
        refine lv_aload_n hx hb dX4_layOut_57 rfl (lv_at hl 1 rfl) ?_
        refine lv_iload_n hx hb dX4_layOut_58 rfl (lv_at hl 3 rfl) ?_
        have hPc := hP.sub (ws' := [(x, .inr (4, [.ref q])), (q, .inr (2, [.ref a, .int (nI (((z + 5 + 5 * i) + 5) + 5))])), (a, .inl (ca 0, cap, .inl (apF (apF (apF g 0 (layF z (lst g2 i))) (z + 5 + 5 * i) (grp (nI 15))) ((z + 5 + 5 * i) + 5) (grp (chkL (lst g2 n2))))))]) [0, 1, 2] rfl
        have hDc := hD.sub (ws' := [(x, .inr (4, [.ref q])), (q, .inr (2, [.ref a, .int (nI (((z + 5 + 5 * i) + 5) + 5))])), (a, .inl (ca 0, cap, .inl (apF (apF (apF g 0 (layF z (lst g2 i))) (z + 5 + 5 * i) (grp (nI 15))) ((z + 5 + 5 * i) + 5) (grp (chkL (lst g2 n2))))))]) [0, 1, 2] (by decide) rfl
        have hFc := va_free (wc := [(x, .inr (4, [.ref q])), (q, .inr (2, [.ref a, .int (nI (((z + 5 + 5 * i) + 5) + 5))])), (a, .inl (ca 0, cap, .inl (apF (apF (apF g 0 (layF z (lst g2 i))) (z + 5 + 5 * i) (grp (nI 15))) ((z + 5 + 5 * i) + 5) (grp (chkL (lst g2 n2))))))]) hD hS hA [0, 1, 2] rfl
        refine va_callv (va_runV (As := [.int (nI z)]) (rest := []) ⟨hx, hb, hml, hown, hts⟩ (kX4_addZeros l D ca H.size x q a cap (apF (apF (apF g 0 (layF z (lst g2 i))) (z + 5 + 5 * i) (grp (nI 15))) ((z + 5 + 5 * i) + 5) (grp (chkL (lst g2 n2)))) (((z + 5 + 5 * i) + 5) + 5) z (by first | rfl | assumption | omega | trivial | (exfalso; omega)) (by first | rfl | assumption | omega | trivial | (exfalso; omega))) (cwV 1 hts gX4_layOut_X4_addZeros rfl rfl rfl (by decide +kernel) ⟨kk_le rfl, kk_le rfl⟩) (pvM hK hPc (my_D_true hDc) (va_recv hKv hP (ci := 4) (q0 := 0) rfl rfl)) rfl rfl hl.1 rfl (lv_room (kk_le rfl)) dX4_layOut_59 ⟨kk_le rfl, kk_le rfl⟩) hS (fun q _ h => hFc q h) hFc (fun u t H1 locs ht hvm hwv hBv hz1 hk1 hS => ?_)
        obtain ⟨hP1, hD1⟩ := hBv
        rw [ht] at hP1
        have hP1 : va_P D vwCl [(x, .inr (4, [.ref q])), (q, .inr (2, [.ref a, .int (nI ((((z + 5 + 5 * i) + 5) + 5) + z))])), (a, .inl (ca 0, cap, .inl (apF (apF (apF (apF g 0 (layF z (lst g2 i))) (z + 5 + 5 * i) (grp (nI 15))) ((z + 5 + 5 * i) + 5) (grp (chkL (lst g2 n2)))) (((z + 5 + 5 * i) + 5) + 5) (List.replicate z (nI 0)))))] H1 := hP1
        have hD1 : va_D _ [(x, .inr (4, [.ref q])), (q, .inr (2, [.ref a, .int (nI ((((z + 5 + 5 * i) + 5) + 5) + z))])), (a, .inl (ca 0, cap, .inl (apF (apF (apF (apF g 0 (layF z (lst g2 i))) (z + 5 + 5 * i) (grp (nI 15))) ((z + 5 + 5 * i) + 5) (grp (chkL (lst g2 n2)))) (((z + 5 + 5 * i) + 5) + 5) (List.replicate z (nI 0)))))] := hD1
        have hw15 := hwv
        obtain ⟨hP, hD⟩ := va_join (wr := [(q2, .inr (2, [.ref a2, .int (nI n2)])), (a2, .inl (ca 0, cap2, .inl g2))]) (w1 := [(x, .inr (4, [.ref q])), (q, .inr (2, [.ref a, .int (nI ((((z + 5 + 5 * i) + 5) + 5) + z))])), (a, .inl (ca 0, cap, .inl (apF (apF (apF (apF g 0 (layF z (lst g2 i))) (z + 5 + 5 * i) (grp (nI 15))) ((z + 5 + 5 * i) + 5) (grp (chkL (lst g2 n2)))) (((z + 5 + 5 * i) + 5) + 5) (List.replicate z (nI 0)))))]) hP hD [0, 1, 2] [3, 4] rfl rfl (by decide) (by decide) hk1 hFc hP1 hD1
        generalize H1 = H at hP hS ⊢
        have hP := hP.sub (ws' := [(x, .inr (4, [.ref q])), (q, .inr (2, [.ref a, .int (nI ((((z + 5 + 5 * i) + 5) + 5) + z))])), (a, .inl (ca 0, cap, .inl (apF (apF (apF (apF g 0 (layF z (lst g2 i))) (z + 5 + 5 * i) (grp (nI 15))) ((z + 5 + 5 * i) + 5) (grp (chkL (lst g2 n2)))) (((z + 5 + 5 * i) + 5) + 5) (List.replicate z (nI 0))))), (q2, .inr (2, [.ref a2, .int (nI n2)])), (a2, .inl (ca 0, cap2, .inl g2))]) [2, 3, 4, 0, 1] rfl
        have hD := hD.sub (ws' := [(x, .inr (4, [.ref q])), (q, .inr (2, [.ref a, .int (nI ((((z + 5 + 5 * i) + 5) + 5) + z))])), (a, .inl (ca 0, cap, .inl (apF (apF (apF (apF g 0 (layF z (lst g2 i))) (z + 5 + 5 * i) (grp (nI 15))) ((z + 5 + 5 * i) + 5) (grp (chkL (lst g2 n2)))) (((z + 5 + 5 * i) + 5) + 5) (List.replicate z (nI 0))))), (q2, .inr (2, [.ref a2, .int (nI n2)])), (a2, .inl (ca 0, cap2, .inl g2))]) [2, 3, 4, 0, 1] (by decide) rfl
        subst hQz
        have e17 : (nI ((((z + 5 + 5 * i) + 5) + 5) + z) : Int32) = nI ((strp z (lst g2 n2)).length) := by first | exact lay_len z g2 (by omega) (by omega) | exact lay_end g g2 z (by omega) (by omega)
        have hP : va_P D vwCl [(x, .inr (4, [.ref q])), (q, .inr (2, [.ref a, .int (nI ((strp z (lst g2 n2)).length))])), (a, .inl (ca 0, cap, .inl (apF (apF (apF (apF g 0 (layF z (lst g2 i))) (z + 5 + 5 * i) (grp (nI 15))) ((z + 5 + 5 * i) + 5) (grp (chkL (lst g2 n2)))) (((z + 5 + 5 * i) + 5) + 5) (List.replicate z (nI 0))))), (q2, .inr (2, [.ref a2, .int (nI n2)])), (a2, .inl (ca 0, cap2, .inl g2))] H := Eq.mp (congrArg (fun z9 : Int32 => va_P D vwCl [(x, .inr (4, [.ref q])), (q, .inr (2, [.ref a, .int z9])), (a, .inl (ca 0, cap, .inl (apF (apF (apF (apF g 0 (layF z (lst g2 i))) (z + 5 + 5 * i) (grp (nI 15))) ((z + 5 + 5 * i) + 5) (grp (chkL (lst g2 n2)))) (((z + 5 + 5 * i) + 5) + 5) (List.replicate z (nI 0))))), (q2, .inr (2, [.ref a2, .int (nI n2)])), (a2, .inl (ca 0, cap2, .inl g2))] H) e17) hP
        have hD : va_D A [(x, .inr (4, [.ref q])), (q, .inr (2, [.ref a, .int (nI ((strp z (lst g2 n2)).length))])), (a, .inl (ca 0, cap, .inl (apF (apF (apF (apF g 0 (layF z (lst g2 i))) (z + 5 + 5 * i) (grp (nI 15))) ((z + 5 + 5 * i) + 5) (grp (chkL (lst g2 n2)))) (((z + 5 + 5 * i) + 5) + 5) (List.replicate z (nI 0))))), (q2, .inr (2, [.ref a2, .int (nI n2)])), (a2, .inl (ca 0, cap2, .inl g2))] := Eq.mp (congrArg (fun z9 : Int32 => va_D A [(x, .inr (4, [.ref q])), (q, .inr (2, [.ref a, .int z9])), (a, .inl (ca 0, cap, .inl (apF (apF (apF (apF g 0 (layF z (lst g2 i))) (z + 5 + 5 * i) (grp (nI 15))) ((z + 5 + 5 * i) + 5) (grp (chkL (lst g2 n2)))) (((z + 5 + 5 * i) + 5) + 5) (List.replicate z (nI 0))))), (q2, .inr (2, [.ref a2, .int (nI n2)])), (a2, .inl (ca 0, cap2, .inl g2))]) e17) hD
        have e18 : (apF (apF (apF (apF g 0 (layF z (lst g2 i))) (z + 5 + 5 * i) (grp (nI 15))) ((z + 5 + 5 * i) + 5) (grp (chkL (lst g2 n2)))) (((z + 5 + 5 * i) + 5) + 5) (List.replicate z (nI 0)) : Nat → Int32) = apF g 0 (strp z (lst g2 n2)) := by first | exact lay_len z g2 (by omega) (by omega) | exact lay_end g g2 z (by omega) (by omega)
        have hP : va_P D vwCl [(x, .inr (4, [.ref q])), (q, .inr (2, [.ref a, .int (nI ((strp z (lst g2 n2)).length))])), (a, .inl (ca 0, cap, .inl (apF g 0 (strp z (lst g2 n2))))), (q2, .inr (2, [.ref a2, .int (nI n2)])), (a2, .inl (ca 0, cap2, .inl g2))] H := Eq.mp (congrArg (fun z9 : Nat → Int32 => va_P D vwCl [(x, .inr (4, [.ref q])), (q, .inr (2, [.ref a, .int (nI ((strp z (lst g2 n2)).length))])), (a, .inl (ca 0, cap, .inl z9)), (q2, .inr (2, [.ref a2, .int (nI n2)])), (a2, .inl (ca 0, cap2, .inl g2))] H) e18) hP
        have hD : va_D A [(x, .inr (4, [.ref q])), (q, .inr (2, [.ref a, .int (nI ((strp z (lst g2 n2)).length))])), (a, .inl (ca 0, cap, .inl (apF g 0 (strp z (lst g2 n2))))), (q2, .inr (2, [.ref a2, .int (nI n2)])), (a2, .inl (ca 0, cap2, .inl g2))] := Eq.mp (congrArg (fun z9 : Nat → Int32 => va_D A [(x, .inr (4, [.ref q])), (q, .inr (2, [.ref a, .int (nI ((strp z (lst g2 n2)).length))])), (a, .inl (ca 0, cap, .inl z9)), (q2, .inr (2, [.ref a2, .int (nI n2)])), (a2, .inl (ca 0, cap2, .inl g2))]) e18) hD
        exact W.vret hx hb hr (fun t ht hW => ⟨⟨(), rfl, by trivial, by rw [ht]; exact hP, hD⟩, hS.F ht⟩) hS.2.2 dX4_layOut_62
      · refine lv_aload_n hx hb dX4_layOut_28 rfl (lv_at hl 1 rfl) ?_
        refine lv_aload_n hx hb dX4_layOut_29 rfl (lv_at hl 2 rfl) ?_
        refine lv_iload_n hx hb dX4_layOut_30 rfl (lv_at hl 0 rfl) ?_
        refine vp_callSi (va_Run.run (va_runV (As := [.int (nI i)]) (rest := [.ref x]) ⟨hx, hb, hml, hown, hts⟩ (kX2_at_in l D ca q2 a2 cap2 g2 n2 i (by first | rfl | assumption | omega | trivial | (exfalso; omega)) (by first | rfl | assumption | omega | trivial | (exfalso; omega)) (by first | rfl | assumption | omega | trivial | (exfalso; omega))) (cwV 1 hts gX4_layOut_X2_at rfl rfl rfl (by decide +kernel) ⟨kk_le rfl, kk_le rfl⟩) (pvR hK (hP.sub (ws' := [(q2, .inr (2, [.ref a2, .int (nI n2)])), (a2, .inl (ca 0, cap2, .inl g2))]) [3, 4] rfl) (va_recv hKv hP (ci := 2) (q0 := 3) rfl rfl)) rfl rfl hl.1 rfl (lv_room (kk_le rfl)) dX4_layOut_31 ⟨kk_le rfl, kk_le rfl⟩)) (fun r19 hr19 => ?_)
        subst hr19
        have hPc := hP.sub (ws' := [(x, .inr (4, [.ref q])), (q, .inr (2, [.ref a, .int (nI (z + 5 + 5 * i))])), (a, .inl (ca 0, cap, .inl (apF g 0 (layF z (lst g2 i)))))]) [0, 1, 2] rfl
        have hDc := hD.sub (ws' := [(x, .inr (4, [.ref q])), (q, .inr (2, [.ref a, .int (nI (z + 5 + 5 * i))])), (a, .inl (ca 0, cap, .inl (apF g 0 (layF z (lst g2 i)))))]) [0, 1, 2] (by decide) rfl
        have hFc := va_free (wc := [(x, .inr (4, [.ref q])), (q, .inr (2, [.ref a, .int (nI (z + 5 + 5 * i))])), (a, .inl (ca 0, cap, .inl (apF g 0 (layF z (lst g2 i)))))]) hD hS hA [0, 1, 2] rfl
        refine va_callv (va_runV (As := [.int (g2 i)]) (rest := []) ⟨hx, hb, hml, hown, hts⟩ (kX4_addGroup l D ca H.size x q a cap (apF g 0 (layF z (lst g2 i))) (z + 5 + 5 * i) (g2 i) (by first | rfl | assumption | omega | trivial | (exfalso; omega)) (by first | rfl | assumption | omega | trivial | (exfalso; omega))) (cwV 1 hts gX4_layOut_X4_addGroup rfl rfl rfl (by decide +kernel) ⟨kk_le rfl, kk_le rfl⟩) (pvM hK hPc (my_D_true hDc) (va_recv hKv hP (ci := 4) (q0 := 0) rfl rfl)) rfl rfl hl.1 rfl (lv_room (kk_le rfl)) dX4_layOut_34 ⟨kk_le rfl, kk_le rfl⟩) hS (fun q _ h => hFc q h) hFc (fun u t H1 locs ht hvm hwv hBv hz1 hk1 hS => ?_)
        obtain ⟨hP1, hD1⟩ := hBv
        rw [ht] at hP1
        have hP1 : va_P D vwCl [(x, .inr (4, [.ref q])), (q, .inr (2, [.ref a, .int (nI ((z + 5 + 5 * i) + 5))])), (a, .inl (ca 0, cap, .inl (apF (apF g 0 (layF z (lst g2 i))) (z + 5 + 5 * i) (grp (g2 i)))))] H1 := hP1
        have hD1 : va_D _ [(x, .inr (4, [.ref q])), (q, .inr (2, [.ref a, .int (nI ((z + 5 + 5 * i) + 5))])), (a, .inl (ca 0, cap, .inl (apF (apF g 0 (layF z (lst g2 i))) (z + 5 + 5 * i) (grp (g2 i)))))] := hD1
        have hw20 := hwv
        obtain ⟨hP, hD⟩ := va_join (wr := [(q2, .inr (2, [.ref a2, .int (nI n2)])), (a2, .inl (ca 0, cap2, .inl g2))]) (w1 := [(x, .inr (4, [.ref q])), (q, .inr (2, [.ref a, .int (nI ((z + 5 + 5 * i) + 5))])), (a, .inl (ca 0, cap, .inl (apF (apF g 0 (layF z (lst g2 i))) (z + 5 + 5 * i) (grp (g2 i)))))]) hP hD [0, 1, 2] [3, 4] rfl rfl (by decide) (by decide) hk1 hFc hP1 hD1
        generalize H1 = H at hP hS ⊢
        have hP := hP.sub (ws' := [(x, .inr (4, [.ref q])), (q, .inr (2, [.ref a, .int (nI ((z + 5 + 5 * i) + 5))])), (a, .inl (ca 0, cap, .inl (apF (apF g 0 (layF z (lst g2 i))) (z + 5 + 5 * i) (grp (g2 i))))), (q2, .inr (2, [.ref a2, .int (nI n2)])), (a2, .inl (ca 0, cap2, .inl g2))]) [2, 3, 4, 0, 1] rfl
        have hD := hD.sub (ws' := [(x, .inr (4, [.ref q])), (q, .inr (2, [.ref a, .int (nI ((z + 5 + 5 * i) + 5))])), (a, .inl (ca 0, cap, .inl (apF (apF g 0 (layF z (lst g2 i))) (z + 5 + 5 * i) (grp (g2 i))))), (q2, .inr (2, [.ref a2, .int (nI n2)])), (a2, .inl (ca 0, cap2, .inl g2))]) [2, 3, 4, 0, 1] (by decide) rfl
        refine lv_iinc (v := nI (i + 1)) (lv' := [(3, .int (nI (i + 1))), (0, .ref x), (1, .ref q2), (2, .int (nI z))]) hx hb dX4_layOut_37 hl (k := 0) rfl (ni_inc _ _ (by decide)) (by decide) rfl (fun ls hl => ?_)
        refine lv_goto (tgt := 20) hx hb dX4_layOut_40 (by decide) ?_
        have e22 : (nI ((z + 5 + 5 * i) + 5) : Int32) = nI (z + 5 + 5 * (i + 1)) := by first | exact congrArg nI (by omega) | exact lay_1 g g2 z i
        have hP : va_P D vwCl [(x, .inr (4, [.ref q])), (q, .inr (2, [.ref a, .int (nI (z + 5 + 5 * (i + 1)))])), (a, .inl (ca 0, cap, .inl (apF (apF g 0 (layF z (lst g2 i))) (z + 5 + 5 * i) (grp (g2 i))))), (q2, .inr (2, [.ref a2, .int (nI n2)])), (a2, .inl (ca 0, cap2, .inl g2))] H := Eq.mp (congrArg (fun z9 : Int32 => va_P D vwCl [(x, .inr (4, [.ref q])), (q, .inr (2, [.ref a, .int z9])), (a, .inl (ca 0, cap, .inl (apF (apF g 0 (layF z (lst g2 i))) (z + 5 + 5 * i) (grp (g2 i))))), (q2, .inr (2, [.ref a2, .int (nI n2)])), (a2, .inl (ca 0, cap2, .inl g2))] H) e22) hP
        have hD : va_D A [(x, .inr (4, [.ref q])), (q, .inr (2, [.ref a, .int (nI (z + 5 + 5 * (i + 1)))])), (a, .inl (ca 0, cap, .inl (apF (apF g 0 (layF z (lst g2 i))) (z + 5 + 5 * i) (grp (g2 i))))), (q2, .inr (2, [.ref a2, .int (nI n2)])), (a2, .inl (ca 0, cap2, .inl g2))] := Eq.mp (congrArg (fun z9 : Int32 => va_D A [(x, .inr (4, [.ref q])), (q, .inr (2, [.ref a, .int z9])), (a, .inl (ca 0, cap, .inl (apF (apF g 0 (layF z (lst g2 i))) (z + 5 + 5 * i) (grp (g2 i))))), (q2, .inr (2, [.ref a2, .int (nI n2)])), (a2, .inl (ca 0, cap2, .inl g2))]) e22) hD
        have e23 : (apF (apF g 0 (layF z (lst g2 i))) (z + 5 + 5 * i) (grp (g2 i)) : Nat → Int32) = apF g 0 (layF z (lst g2 (i + 1))) := by first | exact congrArg nI (by omega) | exact lay_1 g g2 z i
        have hP : va_P D vwCl [(x, .inr (4, [.ref q])), (q, .inr (2, [.ref a, .int (nI (z + 5 + 5 * (i + 1)))])), (a, .inl (ca 0, cap, .inl (apF g 0 (layF z (lst g2 (i + 1)))))), (q2, .inr (2, [.ref a2, .int (nI n2)])), (a2, .inl (ca 0, cap2, .inl g2))] H := Eq.mp (congrArg (fun z9 : Nat → Int32 => va_P D vwCl [(x, .inr (4, [.ref q])), (q, .inr (2, [.ref a, .int (nI (z + 5 + 5 * (i + 1)))])), (a, .inl (ca 0, cap, .inl z9)), (q2, .inr (2, [.ref a2, .int (nI n2)])), (a2, .inl (ca 0, cap2, .inl g2))] H) e23) hP
        have hD : va_D A [(x, .inr (4, [.ref q])), (q, .inr (2, [.ref a, .int (nI (z + 5 + 5 * (i + 1)))])), (a, .inl (ca 0, cap, .inl (apF g 0 (layF z (lst g2 (i + 1)))))), (q2, .inr (2, [.ref a2, .int (nI n2)])), (a2, .inl (ca 0, cap2, .inl g2))] := Eq.mp (congrArg (fun z9 : Nat → Int32 => va_D A [(x, .inr (4, [.ref q])), (q, .inr (2, [.ref a, .int (nI (z + 5 + 5 * (i + 1)))])), (a, .inl (ca 0, cap, .inl z9)), (q2, .inr (2, [.ref a2, .int (nI n2)])), (a2, .inl (ca 0, cap2, .inl g2))]) e23) hD
        exact ih1 (i + 1) (by omega) (by omega) _ _ hP hD hS ls (lv_sub hl [0, 1, 2, 3] rfl)
  have e24 : (nI ((0 + z) + 5) : Int32) = nI (z + 5 + 5 * 0) := by first | exact congrArg nI (by omega) | exact lay_0 g z
  have hP : va_P D vwCl [(x, .inr (4, [.ref q])), (q, .inr (2, [.ref a, .int (nI (z + 5 + 5 * 0))])), (a, .inl (ca 0, cap, .inl (apF (apF g 0 (List.replicate z (nI 0))) (0 + z) (grp (nI 11))))), (q2, .inr (2, [.ref a2, .int (nI n2)])), (a2, .inl (ca 0, cap2, .inl g2))] H := Eq.mp (congrArg (fun z9 : Int32 => va_P D vwCl [(x, .inr (4, [.ref q])), (q, .inr (2, [.ref a, .int z9])), (a, .inl (ca 0, cap, .inl (apF (apF g 0 (List.replicate z (nI 0))) (0 + z) (grp (nI 11))))), (q2, .inr (2, [.ref a2, .int (nI n2)])), (a2, .inl (ca 0, cap2, .inl g2))] H) e24) hP
  have hD : va_D A [(x, .inr (4, [.ref q])), (q, .inr (2, [.ref a, .int (nI (z + 5 + 5 * 0))])), (a, .inl (ca 0, cap, .inl (apF (apF g 0 (List.replicate z (nI 0))) (0 + z) (grp (nI 11))))), (q2, .inr (2, [.ref a2, .int (nI n2)])), (a2, .inl (ca 0, cap2, .inl g2))] := Eq.mp (congrArg (fun z9 : Int32 => va_D A [(x, .inr (4, [.ref q])), (q, .inr (2, [.ref a, .int z9])), (a, .inl (ca 0, cap, .inl (apF (apF g 0 (List.replicate z (nI 0))) (0 + z) (grp (nI 11))))), (q2, .inr (2, [.ref a2, .int (nI n2)])), (a2, .inl (ca 0, cap2, .inl g2))]) e24) hD
  have e25 : (apF (apF g 0 (List.replicate z (nI 0))) (0 + z) (grp (nI 11)) : Nat → Int32) = apF g 0 (layF z (lst g2 0)) := by first | exact congrArg nI (by omega) | exact lay_0 g z
  have hP : va_P D vwCl [(x, .inr (4, [.ref q])), (q, .inr (2, [.ref a, .int (nI (z + 5 + 5 * 0))])), (a, .inl (ca 0, cap, .inl (apF g 0 (layF z (lst g2 0))))), (q2, .inr (2, [.ref a2, .int (nI n2)])), (a2, .inl (ca 0, cap2, .inl g2))] H := Eq.mp (congrArg (fun z9 : Nat → Int32 => va_P D vwCl [(x, .inr (4, [.ref q])), (q, .inr (2, [.ref a, .int (nI (z + 5 + 5 * 0))])), (a, .inl (ca 0, cap, .inl z9)), (q2, .inr (2, [.ref a2, .int (nI n2)])), (a2, .inl (ca 0, cap2, .inl g2))] H) e25) hP
  have hD : va_D A [(x, .inr (4, [.ref q])), (q, .inr (2, [.ref a, .int (nI (z + 5 + 5 * 0))])), (a, .inl (ca 0, cap, .inl (apF g 0 (layF z (lst g2 0))))), (q2, .inr (2, [.ref a2, .int (nI n2)])), (a2, .inl (ca 0, cap2, .inl g2))] := Eq.mp (congrArg (fun z9 : Nat → Int32 => va_D A [(x, .inr (4, [.ref q])), (q, .inr (2, [.ref a, .int (nI (z + 5 + 5 * 0))])), (a, .inl (ca 0, cap, .inl z9)), (q2, .inr (2, [.ref a2, .int (nI n2)])), (a2, .inl (ca 0, cap2, .inl g2))]) e25) hD
  exact lp20_6 ((n2 - 0) + 1) 0 (by omega) (by omega) _ _ hP hD hS ls (lv_sub hl [0, 1, 2, 3] rfl)
abbrev rm_kX4_timesNeeded : Room := { frames := 2, cells := 0, slots := 0, locals := 43 }
set_option maxHeartbeats 4000000 in
set_option maxRecDepth 100000 in
theorem kX4_timesNeeded (l : Launch) (D : va_G) (ca : Nat → ClassId) (x q a cap : Nat) (g : Nat → Int32) (n : Nat) (hn : n ≤ cap) (hc : cap < 1000000) (h01 : is01 (lst g n)) : Met l yX4_timesNeeded wsX4_timesNeeded rm_kX4_timesNeeded (pcR D ca [.ref x] [(x, .inr (4, [.ref q])), (q, .inr (2, [.ref a, .int (nI n)])), (a, .inl (ca 0, cap, .inl g))]) (vp_Si (fun z : Int32 => z = nI (n + onesN (lst g n)))) 0 0 (fun _ => False) := by
  refine Met.ofW (cc := cX4_timesNeeded) (maxL := 1) (ret := (some .int)) (by decide) rfl ?_
  intro p e s m args below meth c s₁ B hml hv
  obtain ⟨rfl, hP, hK⟩ := hv
  have hx := B.exec
  have hb := B.bytes
  have hr := B.returns
  have hts := atoms_spec (ws := wsX4_timesNeeded) B.pre
  have hown : s.vm.findClass RX4 = some m.cls := findClass_of_methodNamed B.named
  have hlocks := B.notSynchronized
  have hKv := hK.1
  have hl := lv_entry ([.ref x]) (n := 1) (kk_le rfl)
  rw [lg_entry_eq]
  generalize (lg_sl ([.ref x]) ++ List.replicate (1 - (lg_sl ([.ref x])).length) Slot.unset).toArray = ls at hl ⊢
  have hl : lv_has ls 1 [(0, .ref x)] := hl
  have hiX4 : ∀ w ∈ u_ws RX4 TX4 1, w ∈ wsX4_timesNeeded := fun w h => by first | exact List.mem_cons_of_mem _ (List.mem_append_right _ h) | exact List.mem_cons_of_mem _ (List.mem_append_left _ (List.mem_append_right _ h)) | exact List.mem_cons_of_mem _ (List.mem_append_left _ (List.mem_append_left _ (List.mem_append_right _ h))) | exact List.mem_cons_of_mem _ (List.mem_append_left _ (List.mem_append_left _ (List.mem_append_left _ (List.mem_append_right _ h)))) | (revert w h; decide +kernel)
  have lk14 : (Cond.fieldLink RX4 14 "StripeSwipes$Stripe" "bits" "LStripeSwipes$Row;").before _ s = true := hts _ (by decide +kernel)
  refine lv_aload_n hx hb dX4_timesNeeded_0 rfl (lv_at hl 0 rfl) ?_
  refine va_get (D := D) (ci := 4) (C := RX4) (T := TX4) (N := 1) hx hb hts hiX4 hown hKv hP 0 rfl rfl 0 (by decide) lk14 (fun _ h9 => h9) rfl dX4_timesNeeded_1 ?_
  refine vp_callSi (va_Run.run (va_runV (As := []) (rest := []) ⟨hx, hb, hml, hown, hts⟩ (kX2_size l D ca q a cap g n (by first | rfl | assumption | omega | trivial | (exfalso; omega)) (by first | rfl | assumption | omega | trivial | (exfalso; omega))) (cwV 0 hts gX4_timesNeeded_X2_size rfl rfl rfl (by decide +kernel) ⟨kk_le rfl, kk_le rfl⟩) (pvR hK (hP.sub (ws' := [(q, .inr (2, [.ref a, .int (nI n)])), (a, .inl (ca 0, cap, .inl g))]) [1, 2] rfl) (va_recv hKv hP (ci := 2) (q0 := 1) rfl rfl)) rfl rfl hl.1 rfl (lv_room (kk_le rfl)) dX4_timesNeeded_4 ⟨kk_le rfl, kk_le rfl⟩)) (fun r1 hr1 => ?_)
  subst hr1
  refine lv_aload_n hx hb dX4_timesNeeded_7 rfl (lv_at hl 0 rfl) ?_
  refine va_get (D := D) (ci := 4) (C := RX4) (T := TX4) (N := 1) hx hb hts hiX4 hown hKv hP 0 rfl rfl 0 (by decide) lk14 (fun _ h9 => h9) rfl dX4_timesNeeded_8 ?_
  refine vp_callSi (va_Run.run (va_runV (As := []) (rest := [.int (nI n)]) ⟨hx, hb, hml, hown, hts⟩ (kX2_sum l D ca q a cap g n (by first | rfl | assumption | omega | trivial | (exfalso; omega)) (by first | rfl | assumption | omega | trivial | (exfalso; omega))) (cwV 0 hts gX4_timesNeeded_X2_sum rfl rfl rfl (by decide +kernel) ⟨kk_le rfl, kk_le rfl⟩) (pvR hK (hP.sub (ws' := [(q, .inr (2, [.ref a, .int (nI n)])), (a, .inl (ca 0, cap, .inl g))]) [1, 2] rfl) (va_recv hKv hP (ci := 2) (q0 := 1) rfl rfl)) rfl rfl hl.1 rfl (lv_room (kk_le rfl)) dX4_timesNeeded_11 ⟨kk_le rfl, kk_le rfl⟩)) (fun r2 hr2 => ?_)
  subst hr2
  refine lv_iadd hx hb dX4_timesNeeded_14 ?_
  exact W.iret (v := (nI n) + (sumL (lst g n))) hx hb hr (fun t ht _ => ⟨_, rfl, by (rw [sum_ones _ h01, nI_add]), ht⟩) (fun _ h => nomatch h) dX4_timesNeeded_15
abbrev rm_kX4_passInto : Room := { frames := 1, cells := 0, slots := 0, locals := 21 }
set_option maxHeartbeats 4000000 in
set_option maxRecDepth 100000 in
theorem kX4_passInto (l : Launch) (D : va_G) (ca : Nat → ClassId) (sz : Nat) (x q a cap : Nat) (g : Nat → Int32) (n : Nat) (q2 a2 cap2 : Nat) (g2 : Nat → Int32) (n2 : Nat) (j : Int32) (hn : n ≤ cap) (hc : cap < 1000000) (hn2 : n2 ≤ cap2) (hc2 : cap2 < 1000000) (hz : n + onesN (lst g n) ≤ cap2) : Met l yX4_passInto wsX4_passInto rm_kX4_passInto (pcM D ca [.ref x, .ref q2, .int j] [(x, .inr (4, [.ref q])), (q, .inr (2, [.ref a, .int (nI n)])), (a, .inl (ca 0, cap, .inl g)), (q2, .inr (2, [.ref a2, .int (nI n2)])), (a2, .inl (ca 0, cap2, .inl g2))] sz) (va_Qv (fun (u : Unit) => True) (qB D (va_A [(x, .inr (4, [.ref q])), (q, .inr (2, [.ref a, .int (nI n)])), (a, .inl (ca 0, cap, .inl g)), (q2, .inr (2, [.ref a2, .int (nI n2)])), (a2, .inl (ca 0, cap2, .inl g2))] sz) (fun u : Unit => [(x, .inr (4, [.ref q])), (q, .inr (2, [.ref a, .int (nI n)])), (a, .inl (ca 0, cap, .inl g)), (q2, .inr (2, [.ref a2, .int (nI ((passL j 0 (lst g n)).length))])), (a2, .inl (ca 0, cap2, .inl (apF g2 0 (passL j 0 (lst g n)))))])) (va_A [(x, .inr (4, [.ref q])), (q, .inr (2, [.ref a, .int (nI n)])), (a, .inl (ca 0, cap, .inl g)), (q2, .inr (2, [.ref a2, .int (nI n2)])), (a2, .inl (ca 0, cap2, .inl g2))] sz)) 0 0 (va_A [(x, .inr (4, [.ref q])), (q, .inr (2, [.ref a, .int (nI n)])), (a, .inl (ca 0, cap, .inl g)), (q2, .inr (2, [.ref a2, .int (nI n2)])), (a2, .inl (ca 0, cap2, .inl g2))] sz) := by
  refine Met.ofW (cc := cX4_passInto) (maxL := 6) (ret := none) (by decide) rfl ?_
  intro p e s m args below meth c s₁ B hml hv
  obtain ⟨rfl, hsz, hP, hK, hD0⟩ := hv
  have hx := B.exec
  have hb := B.bytes
  have hr := B.returns
  have hts := atoms_spec (ws := wsX4_passInto) B.pre
  have hown : s.vm.findClass RX4 = some m.cls := findClass_of_methodNamed B.named
  have hlocks := B.notSynchronized
  subst hsz
  have hD := hD0.self (sz := s.heap.size)
  generalize hAe : va_A [(x, .inr (4, [.ref q])), (q, .inr (2, [.ref a, .int (nI n)])), (a, .inl (ca 0, cap, .inl g)), (q2, .inr (2, [.ref a2, .int (nI n2)])), (a2, .inl (ca 0, cap2, .inl g2))] s.heap.size = A at hD ⊢
  have hA : ∀ q : Nat, s.heap.size ≤ q → A q := fun q h => by rw [← hAe]; exact Or.inr h
  have hS : va_S A s.heap s.heap [] := va_S.rf
  have hP : va_P D vwCl [(x, .inr (4, [.ref q])), (q, .inr (2, [.ref a, .int (nI n)])), (a, .inl (ca 0, cap, .inl g)), (q2, .inr (2, [.ref a2, .int (nI n2)])), (a2, .inl (ca 0, cap2, .inl g2))] s.heap := hP
  have hKv := hK.1
  have hl := lv_entry ([.ref x, .ref q2, .int j]) (n := 6) (kk_le rfl)
  rw [lg_entry_eq]
  generalize (lg_sl ([.ref x, .ref q2, .int j]) ++ List.replicate (6 - (lg_sl ([.ref x, .ref q2, .int j])).length) Slot.unset).toArray = ls at hl ⊢
  have hl : lv_has ls 6 [(0, .ref x), (1, .ref q2), (2, .int j)] := hl
  generalize hQz : MQ below _ _ _ _ _ _ = Qz
  have hiX4 : ∀ w ∈ u_ws RX4 TX4 1, w ∈ wsX4_passInto := fun w h => by first | exact List.mem_cons_of_mem _ (List.mem_append_right _ h) | exact List.mem_cons_of_mem _ (List.mem_append_left _ (List.mem_append_right _ h)) | exact List.mem_cons_of_mem _ (List.mem_append_left _ (List.mem_append_left _ (List.mem_append_right _ h))) | exact List.mem_cons_of_mem _ (List.mem_append_left _ (List.mem_append_left _ (List.mem_append_left _ (List.mem_append_right _ h)))) | (revert w h; decide +kernel)
  have lk14 : (Cond.fieldLink RX4 14 "StripeSwipes$Stripe" "bits" "LStripeSwipes$Row;").before _ s = true := hts _ (by decide +kernel)
  refine lv_aload_n hx hb dX4_passInto_0 rfl (lv_at hl 1 rfl) ?_
  have hPc := hP.sub (ws' := [(q2, .inr (2, [.ref a2, .int (nI n2)])), (a2, .inl (ca 0, cap2, .inl g2))]) [3, 4] rfl
  have hDc := hD.sub (ws' := [(q2, .inr (2, [.ref a2, .int (nI n2)])), (a2, .inl (ca 0, cap2, .inl g2))]) [3, 4] (by decide) rfl
  have hFc := va_free (wc := [(q2, .inr (2, [.ref a2, .int (nI n2)])), (a2, .inl (ca 0, cap2, .inl g2))]) hD hS hA [3, 4] rfl
  refine va_callv (va_runV (As := []) (rest := []) ⟨hx, hb, hml, hown, hts⟩ (kX2_empty l D ca s.heap.size q2 a2 cap2 g2 n2 (by first | rfl | assumption | omega | trivial | (exfalso; omega)) (by first | rfl | assumption | omega | trivial | (exfalso; omega))) (cwV 0 hts gX4_passInto_X2_empty rfl rfl rfl (by decide +kernel) ⟨kk_le rfl, kk_le rfl⟩) (pvM hK hPc (my_D_true hDc) (va_recv hKv hP (ci := 2) (q0 := 3) rfl rfl)) rfl rfl hl.1 rfl (lv_room (kk_le rfl)) dX4_passInto_1 ⟨kk_le rfl, kk_le rfl⟩) hS (fun q _ h => hFc q h) hFc (fun u t H1 locs ht hvm hwv hBv hz1 hk1 hS => ?_)
  obtain ⟨hP1, hD1⟩ := hBv
  rw [ht] at hP1
  have hP1 : va_P D vwCl [(q2, .inr (2, [.ref a2, .int (nI 0)])), (a2, .inl (ca 0, cap2, .inl g2))] H1 := hP1
  have hD1 : va_D _ [(q2, .inr (2, [.ref a2, .int (nI 0)])), (a2, .inl (ca 0, cap2, .inl g2))] := hD1
  have hw1 := hwv
  obtain ⟨hP, hD⟩ := va_join (wr := [(x, .inr (4, [.ref q])), (q, .inr (2, [.ref a, .int (nI n)])), (a, .inl (ca 0, cap, .inl g))]) (w1 := [(q2, .inr (2, [.ref a2, .int (nI 0)])), (a2, .inl (ca 0, cap2, .inl g2))]) hP hD [3, 4] [0, 1, 2] rfl rfl (by decide) (by decide) hk1 hFc hP1 hD1
  generalize H1 = H at hP hS ⊢
  have hP := hP.sub (ws' := [(x, .inr (4, [.ref q])), (q, .inr (2, [.ref a, .int (nI n)])), (a, .inl (ca 0, cap, .inl g)), (q2, .inr (2, [.ref a2, .int (nI 0)])), (a2, .inl (ca 0, cap2, .inl g2))]) [0, 1, 2, 3, 4] rfl
  have hD := hD.sub (ws' := [(x, .inr (4, [.ref q])), (q, .inr (2, [.ref a, .int (nI n)])), (a, .inl (ca 0, cap, .inl g)), (q2, .inr (2, [.ref a2, .int (nI 0)])), (a2, .inl (ca 0, cap2, .inl g2))]) [0, 1, 2, 3, 4] (by decide) rfl
  refine lv_iconst (v := nI 0) hx hb dX4_passInto_4 (by decide) ?_
  refine lv_istore_n (lv' := [(3, .int (nI 0)), (0, .ref x), (1, .ref q2), (2, .int j)]) hx hb dX4_passInto_5 rfl hl (by decide) rfl (fun ls hl => ?_)
  have lp6_2 : ∀ (k1 : Nat) (i : Nat), n - i < k1 → (i ≤ n) → ∀ (H : Heap) (locs : List Loc), va_P D vwCl [(x, .inr (4, [.ref q])), (q, .inr (2, [.ref a, .int (nI n)])), (a, .inl (ca 0, cap, .inl g)), (q2, .inr (2, [.ref a2, .int (nI ((passL j 0 (lst g i)).length))])), (a2, .inl (ca 0, cap2, .inl (apF g2 0 (passL j 0 (lst g i)))))] H → va_D A [(x, .inr (4, [.ref q])), (q, .inr (2, [.ref a, .int (nI n)])), (a, .inl (ca 0, cap, .inl g)), (q2, .inr (2, [.ref a2, .int (nI ((passL j 0 (lst g i)).length))])), (a2, .inl (ca 0, cap2, .inl (apF g2 0 (passL j 0 (lst g i)))))] → va_S A s.heap H locs → ∀ (ls : Array Slot), lv_has ls 6 [(3, .int (nI i)), (0, .ref x), (1, .ref q2), (2, .int j)] → W p l e rm_kX4_passInto s m ([.ref x, .ref q2, .int j] : List Value).toArray below meth c H locs 0 0 Qz (F0 m 6 ls []) := by
    intro k1
    induction k1 with
    | zero => intro i hm1; exact absurd hm1 (Nat.not_lt_zero _)
    | succ k1 ih1 =>
      intro i hm1 hi H locs hP hD hS ls hl
      refine lv_iload_n hx hb dX4_passInto_6 rfl (lv_at hl 0 rfl) ?_
      refine lv_aload_n hx hb dX4_passInto_7 rfl (lv_at hl 1 rfl) ?_
      refine va_get (D := D) (ci := 4) (C := RX4) (T := TX4) (N := 1) hx hb hts hiX4 hown hKv hP 0 rfl rfl 0 (by decide) lk14 (fun _ h9 => h9) rfl dX4_passInto_8 ?_
      refine vp_callSi (va_Run.run (va_runV (As := []) (rest := [.int (nI i)]) ⟨hx, hb, hml, hown, hts⟩ (kX2_size l D ca q a cap g n (by first | rfl | assumption | omega | trivial | (exfalso; omega)) (by first | rfl | assumption | omega | trivial | (exfalso; omega))) (cwV 0 hts gX4_passInto_X2_size rfl rfl rfl (by decide +kernel) ⟨kk_le rfl, kk_le rfl⟩) (pvR hK (hP.sub (ws' := [(q, .inr (2, [.ref a, .int (nI n)])), (a, .inl (ca 0, cap, .inl g))]) [1, 2] rfl) (va_recv hKv hP (ci := 2) (q0 := 1) rfl rfl)) rfl rfl hl.1 rfl (lv_room (kk_le rfl)) dX4_passInto_11 ⟨kk_le rfl, kk_le rfl⟩)) (fun r4 hr4 => ?_)
      subst hr4
      refine ni_icmp_ge (tgt := 82) (by omega) (by omega) hx hb dX4_passInto_14 (by decide) (fun c5 => ?_) (fun c5 => ?_)
      · subst hQz
        have e6 : (nI ((passL j 0 (lst g i)).length) : Int32) = nI ((passL j 0 (lst g n)).length) := by first | exact congrArg (fun t => nI (passL j 0 (lst g t)).length) (by omega) | exact congrArg (fun t => apF g2 0 (passL j 0 (lst g t))) (by omega)
        have hP : va_P D vwCl [(x, .inr (4, [.ref q])), (q, .inr (2, [.ref a, .int (nI n)])), (a, .inl (ca 0, cap, .inl g)), (q2, .inr (2, [.ref a2, .int (nI ((passL j 0 (lst g n)).length))])), (a2, .inl (ca 0, cap2, .inl (apF g2 0 (passL j 0 (lst g i)))))] H := Eq.mp (congrArg (fun z9 : Int32 => va_P D vwCl [(x, .inr (4, [.ref q])), (q, .inr (2, [.ref a, .int (nI n)])), (a, .inl (ca 0, cap, .inl g)), (q2, .inr (2, [.ref a2, .int z9])), (a2, .inl (ca 0, cap2, .inl (apF g2 0 (passL j 0 (lst g i)))))] H) e6) hP
        have hD : va_D A [(x, .inr (4, [.ref q])), (q, .inr (2, [.ref a, .int (nI n)])), (a, .inl (ca 0, cap, .inl g)), (q2, .inr (2, [.ref a2, .int (nI ((passL j 0 (lst g n)).length))])), (a2, .inl (ca 0, cap2, .inl (apF g2 0 (passL j 0 (lst g i)))))] := Eq.mp (congrArg (fun z9 : Int32 => va_D A [(x, .inr (4, [.ref q])), (q, .inr (2, [.ref a, .int (nI n)])), (a, .inl (ca 0, cap, .inl g)), (q2, .inr (2, [.ref a2, .int z9])), (a2, .inl (ca 0, cap2, .inl (apF g2 0 (passL j 0 (lst g i)))))]) e6) hD
        have e7 : (apF g2 0 (passL j 0 (lst g i)) : Nat → Int32) = apF g2 0 (passL j 0 (lst g n)) := by first | exact congrArg (fun t => nI (passL j 0 (lst g t)).length) (by omega) | exact congrArg (fun t => apF g2 0 (passL j 0 (lst g t))) (by omega)
        have hP : va_P D vwCl [(x, .inr (4, [.ref q])), (q, .inr (2, [.ref a, .int (nI n)])), (a, .inl (ca 0, cap, .inl g)), (q2, .inr (2, [.ref a2, .int (nI ((passL j 0 (lst g n)).length))])), (a2, .inl (ca 0, cap2, .inl (apF g2 0 (passL j 0 (lst g n)))))] H := Eq.mp (congrArg (fun z9 : Nat → Int32 => va_P D vwCl [(x, .inr (4, [.ref q])), (q, .inr (2, [.ref a, .int (nI n)])), (a, .inl (ca 0, cap, .inl g)), (q2, .inr (2, [.ref a2, .int (nI ((passL j 0 (lst g n)).length))])), (a2, .inl (ca 0, cap2, .inl z9))] H) e7) hP
        have hD : va_D A [(x, .inr (4, [.ref q])), (q, .inr (2, [.ref a, .int (nI n)])), (a, .inl (ca 0, cap, .inl g)), (q2, .inr (2, [.ref a2, .int (nI ((passL j 0 (lst g n)).length))])), (a2, .inl (ca 0, cap2, .inl (apF g2 0 (passL j 0 (lst g n)))))] := Eq.mp (congrArg (fun z9 : Nat → Int32 => va_D A [(x, .inr (4, [.ref q])), (q, .inr (2, [.ref a, .int (nI n)])), (a, .inl (ca 0, cap, .inl g)), (q2, .inr (2, [.ref a2, .int (nI ((passL j 0 (lst g n)).length))])), (a2, .inl (ca 0, cap2, .inl z9))]) e7) hD
        exact W.vret hx hb hr (fun t ht hW => ⟨⟨(), rfl, by trivial, by rw [ht]; exact hP, hD⟩, hS.F ht⟩) hS.2.2 dX4_passInto_82
      · refine lv_sipush (v := nI 200) hx hb dX4_passInto_17 (by decide) ?_
        refine lv_iload_n hx hb dX4_passInto_20 rfl (lv_at hl 3 rfl) ?_
        refine lv_iload_n hx hb dX4_passInto_21 rfl (lv_at hl 0 rfl) ?_
        refine lv_iconst (v := nI 5) hx hb dX4_passInto_22 (by decide) ?_
        refine ni_irem (by omega) (by omega) (by omega) hx hb dX4_passInto_23 ?_
        refine lv_imul hx hb dX4_passInto_24 ?_
        refine lv_iadd hx hb dX4_passInto_25 ?_
        refine lv_iconst (v := nI 2) hx hb dX4_passInto_26 (by decide) ?_
        refine lv_iload_n hx hb dX4_passInto_27 rfl (lv_at hl 3 rfl) ?_
        refine lv_imul hx hb dX4_passInto_28 ?_
        refine lv_isub hx hb dX4_passInto_29 ?_
        refine lv_istore (lv' := [(4, .int (((nI 200) + (j * (nI (i % 5)))) - ((nI 2) * j))), (3, .int (nI i)), (0, .ref x), (1, .ref q2), (2, .int j)]) hx hb dX4_passInto_30 hl (by decide) rfl (fun ls hl => ?_)
        refine lv_aload_n hx hb dX4_passInto_32 rfl (lv_at hl 2 rfl) ?_
        refine va_get (D := D) (ci := 4) (C := RX4) (T := TX4) (N := 1) hx hb hts hiX4 hown hKv hP 0 rfl rfl 0 (by decide) lk14 (fun _ h9 => h9) rfl dX4_passInto_33 ?_
        refine lv_iload_n hx hb dX4_passInto_36 rfl (lv_at hl 1 rfl) ?_
        refine vp_callSi (va_Run.run (va_runV (As := [.int (nI i)]) (rest := []) ⟨hx, hb, hml, hown, hts⟩ (kX2_at_in l D ca q a cap g n i (by first | rfl | assumption | omega | trivial | (exfalso; omega)) (by first | rfl | assumption | omega | trivial | (exfalso; omega)) (by first | rfl | assumption | omega | trivial | (exfalso; omega))) (cwV 1 hts gX4_passInto_X2_at rfl rfl rfl (by decide +kernel) ⟨kk_le rfl, kk_le rfl⟩) (pvR hK (hP.sub (ws' := [(q, .inr (2, [.ref a, .int (nI n)])), (a, .inl (ca 0, cap, .inl g))]) [1, 2] rfl) (va_recv hKv hP (ci := 2) (q0 := 1) rfl rfl)) rfl rfl hl.1 rfl (lv_room (kk_le rfl)) dX4_passInto_37 ⟨kk_le rfl, kk_le rfl⟩)) (fun r8 hr8 => ?_)
        subst hr8
        refine lv_if_ne (tgt := 53) hx hb dX4_passInto_40 (by decide) (fun c9 => ?_) (fun c9 => ?_)
        · refine lv_iload hx hb dX4_passInto_53 (lv_at hl 0 rfl) ?_
          refine lv_iconst (v := nI 2) hx hb dX4_passInto_55 (by decide) ?_
          refine lv_idiv hx hb dX4_passInto_56 (by first | decide | assumption | exact nI_ne0 (by omega) (by omega)) ?_
          refine lv_istore (lv' := [(5, .int ((((nI 200) + (j * (nI (i % 5)))) - ((nI 2) * j)) / (nI 2))), (4, .int (((nI 200) + (j * (nI (i % 5)))) - ((nI 2) * j))), (3, .int (nI i)), (0, .ref x), (1, .ref q2), (2, .int j)]) hx hb dX4_passInto_57 hl (by decide) rfl (fun ls hl => ?_)
          refine lv_aload_n hx hb dX4_passInto_59 rfl (lv_at hl 4 rfl) ?_
          refine lv_iload hx hb dX4_passInto_60 (lv_at hl 0 rfl) ?_
          have hPc := hP.sub (ws' := [(q2, .inr (2, [.ref a2, .int (nI ((passL j 0 (lst g i)).length))])), (a2, .inl (ca 0, cap2, .inl (apF g2 0 (passL j 0 (lst g i)))))]) [3, 4] rfl
          have hDc := hD.sub (ws' := [(q2, .inr (2, [.ref a2, .int (nI ((passL j 0 (lst g i)).length))])), (a2, .inl (ca 0, cap2, .inl (apF g2 0 (passL j 0 (lst g i)))))]) [3, 4] (by decide) rfl
          have hFc := va_free (wc := [(q2, .inr (2, [.ref a2, .int (nI ((passL j 0 (lst g i)).length))])), (a2, .inl (ca 0, cap2, .inl (apF g2 0 (passL j 0 (lst g i)))))]) hD hS hA [3, 4] rfl
          refine va_calli (va_runV (As := [.int ((((nI 200) + (j * (nI (i % 5)))) - ((nI 2) * j)) / (nI 2))]) (rest := []) ⟨hx, hb, hml, hown, hts⟩ (kX2_add l D ca H.size q2 a2 cap2 (apF g2 0 (passL j 0 (lst g i))) ((passL j 0 (lst g i)).length) ((((nI 200) + (j * (nI (i % 5)))) - ((nI 2) * j)) / (nI 2)) (by exact pas_room g j (by assumption) hz) (by omega)) (cwV 1 hts gX4_passInto_X2_add rfl rfl rfl (by decide +kernel) ⟨kk_le rfl, kk_le rfl⟩) (pvM hK hPc (my_D_true hDc) (va_recv hKv hP (ci := 2) (q0 := 3) rfl rfl)) rfl rfl hl.1 rfl (lv_room (kk_le rfl)) dX4_passInto_62 ⟨kk_le rfl, kk_le rfl⟩) hS (fun q _ h => hFc q h) hFc (fun r10 u t H1 locs ht hvm hwv hBv hz1 hk1 hS => ?_)
          obtain ⟨hP1, hD1⟩ := hBv
          rw [ht] at hP1
          have hP1 : va_P D vwCl [(q2, .inr (2, [.ref a2, .int (nI (((passL j 0 (lst g i)).length) + 1))])), (a2, .inl (ca 0, cap2, .inl (upd (apF g2 0 (passL j 0 (lst g i))) ((passL j 0 (lst g i)).length) ((((nI 200) + (j * (nI (i % 5)))) - ((nI 2) * j)) / (nI 2)))))] H1 := hP1
          have hD1 : va_D _ [(q2, .inr (2, [.ref a2, .int (nI (((passL j 0 (lst g i)).length) + 1))])), (a2, .inl (ca 0, cap2, .inl (upd (apF g2 0 (passL j 0 (lst g i))) ((passL j 0 (lst g i)).length) ((((nI 200) + (j * (nI (i % 5)))) - ((nI 2) * j)) / (nI 2)))))] := hD1
          obtain ⟨hr10, hw10⟩ := hwv
          subst hr10
          obtain ⟨hP, hD⟩ := va_join (wr := [(x, .inr (4, [.ref q])), (q, .inr (2, [.ref a, .int (nI n)])), (a, .inl (ca 0, cap, .inl g))]) (w1 := [(q2, .inr (2, [.ref a2, .int (nI (((passL j 0 (lst g i)).length) + 1))])), (a2, .inl (ca 0, cap2, .inl (upd (apF g2 0 (passL j 0 (lst g i))) ((passL j 0 (lst g i)).length) ((((nI 200) + (j * (nI (i % 5)))) - ((nI 2) * j)) / (nI 2)))))]) hP hD [3, 4] [0, 1, 2] rfl rfl (by decide) (by decide) hk1 hFc hP1 hD1
          generalize H1 = H at hP hS ⊢
          have hP := hP.sub (ws' := [(x, .inr (4, [.ref q])), (q, .inr (2, [.ref a, .int (nI n)])), (a, .inl (ca 0, cap, .inl g)), (q2, .inr (2, [.ref a2, .int (nI (((passL j 0 (lst g i)).length) + 1))])), (a2, .inl (ca 0, cap2, .inl (upd (apF g2 0 (passL j 0 (lst g i))) ((passL j 0 (lst g i)).length) ((((nI 200) + (j * (nI (i % 5)))) - ((nI 2) * j)) / (nI 2)))))]) [0, 1, 2, 3, 4] rfl
          have hD := hD.sub (ws' := [(x, .inr (4, [.ref q])), (q, .inr (2, [.ref a, .int (nI n)])), (a, .inl (ca 0, cap, .inl g)), (q2, .inr (2, [.ref a2, .int (nI (((passL j 0 (lst g i)).length) + 1))])), (a2, .inl (ca 0, cap2, .inl (upd (apF g2 0 (passL j 0 (lst g i))) ((passL j 0 (lst g i)).length) ((((nI 200) + (j * (nI (i % 5)))) - ((nI 2) * j)) / (nI 2)))))]) [0, 1, 2, 3, 4] (by decide) rfl
          refine lv_pop hx hb dX4_passInto_65 rfl ?_
          refine lv_aload_n hx hb dX4_passInto_66 rfl (lv_at hl 4 rfl) ?_
          refine lv_iload hx hb dX4_passInto_67 (lv_at hl 1 rfl) ?_
          refine lv_iload hx hb dX4_passInto_69 (lv_at hl 0 rfl) ?_
          refine lv_isub hx hb dX4_passInto_71 ?_
          have hPc := hP.sub (ws' := [(q2, .inr (2, [.ref a2, .int (nI (((passL j 0 (lst g i)).length) + 1))])), (a2, .inl (ca 0, cap2, .inl (upd (apF g2 0 (passL j 0 (lst g i))) ((passL j 0 (lst g i)).length) ((((nI 200) + (j * (nI (i % 5)))) - ((nI 2) * j)) / (nI 2)))))]) [3, 4] rfl
          have hDc := hD.sub (ws' := [(q2, .inr (2, [.ref a2, .int (nI (((passL j 0 (lst g i)).length) + 1))])), (a2, .inl (ca 0, cap2, .inl (upd (apF g2 0 (passL j 0 (lst g i))) ((passL j 0 (lst g i)).length) ((((nI 200) + (j * (nI (i % 5)))) - ((nI 2) * j)) / (nI 2)))))]) [3, 4] (by decide) rfl
          have hFc := va_free (wc := [(q2, .inr (2, [.ref a2, .int (nI (((passL j 0 (lst g i)).length) + 1))])), (a2, .inl (ca 0, cap2, .inl (upd (apF g2 0 (passL j 0 (lst g i))) ((passL j 0 (lst g i)).length) ((((nI 200) + (j * (nI (i % 5)))) - ((nI 2) * j)) / (nI 2)))))]) hD hS hA [3, 4] rfl
          refine va_calli (va_runV (As := [.int ((((nI 200) + (j * (nI (i % 5)))) - ((nI 2) * j)) - ((((nI 200) + (j * (nI (i % 5)))) - ((nI 2) * j)) / (nI 2)))]) (rest := []) ⟨hx, hb, hml, hown, hts⟩ (kX2_add l D ca H.size q2 a2 cap2 (upd (apF g2 0 (passL j 0 (lst g i))) ((passL j 0 (lst g i)).length) ((((nI 200) + (j * (nI (i % 5)))) - ((nI 2) * j)) / (nI 2))) (((passL j 0 (lst g i)).length) + 1) ((((nI 200) + (j * (nI (i % 5)))) - ((nI 2) * j)) - ((((nI 200) + (j * (nI (i % 5)))) - ((nI 2) * j)) / (nI 2))) (by exact pas_room1 g j (by assumption) hz (by assumption)) (by omega)) (cwV 1 hts gX4_passInto_X2_add rfl rfl rfl (by decide +kernel) ⟨kk_le rfl, kk_le rfl⟩) (pvM hK hPc (my_D_true hDc) (va_recv hKv hP (ci := 2) (q0 := 3) rfl rfl)) rfl rfl hl.1 rfl (lv_room (kk_le rfl)) dX4_passInto_72 ⟨kk_le rfl, kk_le rfl⟩) hS (fun q _ h => hFc q h) hFc (fun r12 u t H1 locs ht hvm hwv hBv hz1 hk1 hS => ?_)
          obtain ⟨hP1, hD1⟩ := hBv
          rw [ht] at hP1
          have hP1 : va_P D vwCl [(q2, .inr (2, [.ref a2, .int (nI ((((passL j 0 (lst g i)).length) + 1) + 1))])), (a2, .inl (ca 0, cap2, .inl (upd (upd (apF g2 0 (passL j 0 (lst g i))) ((passL j 0 (lst g i)).length) ((((nI 200) + (j * (nI (i % 5)))) - ((nI 2) * j)) / (nI 2))) (((passL j 0 (lst g i)).length) + 1) ((((nI 200) + (j * (nI (i % 5)))) - ((nI 2) * j)) - ((((nI 200) + (j * (nI (i % 5)))) - ((nI 2) * j)) / (nI 2))))))] H1 := hP1
          have hD1 : va_D _ [(q2, .inr (2, [.ref a2, .int (nI ((((passL j 0 (lst g i)).length) + 1) + 1))])), (a2, .inl (ca 0, cap2, .inl (upd (upd (apF g2 0 (passL j 0 (lst g i))) ((passL j 0 (lst g i)).length) ((((nI 200) + (j * (nI (i % 5)))) - ((nI 2) * j)) / (nI 2))) (((passL j 0 (lst g i)).length) + 1) ((((nI 200) + (j * (nI (i % 5)))) - ((nI 2) * j)) - ((((nI 200) + (j * (nI (i % 5)))) - ((nI 2) * j)) / (nI 2))))))] := hD1
          obtain ⟨hr12, hw12⟩ := hwv
          subst hr12
          obtain ⟨hP, hD⟩ := va_join (wr := [(x, .inr (4, [.ref q])), (q, .inr (2, [.ref a, .int (nI n)])), (a, .inl (ca 0, cap, .inl g))]) (w1 := [(q2, .inr (2, [.ref a2, .int (nI ((((passL j 0 (lst g i)).length) + 1) + 1))])), (a2, .inl (ca 0, cap2, .inl (upd (upd (apF g2 0 (passL j 0 (lst g i))) ((passL j 0 (lst g i)).length) ((((nI 200) + (j * (nI (i % 5)))) - ((nI 2) * j)) / (nI 2))) (((passL j 0 (lst g i)).length) + 1) ((((nI 200) + (j * (nI (i % 5)))) - ((nI 2) * j)) - ((((nI 200) + (j * (nI (i % 5)))) - ((nI 2) * j)) / (nI 2))))))]) hP hD [3, 4] [0, 1, 2] rfl rfl (by decide) (by decide) hk1 hFc hP1 hD1
          generalize H1 = H at hP hS ⊢
          have hP := hP.sub (ws' := [(x, .inr (4, [.ref q])), (q, .inr (2, [.ref a, .int (nI n)])), (a, .inl (ca 0, cap, .inl g)), (q2, .inr (2, [.ref a2, .int (nI ((((passL j 0 (lst g i)).length) + 1) + 1))])), (a2, .inl (ca 0, cap2, .inl (upd (upd (apF g2 0 (passL j 0 (lst g i))) ((passL j 0 (lst g i)).length) ((((nI 200) + (j * (nI (i % 5)))) - ((nI 2) * j)) / (nI 2))) (((passL j 0 (lst g i)).length) + 1) ((((nI 200) + (j * (nI (i % 5)))) - ((nI 2) * j)) - ((((nI 200) + (j * (nI (i % 5)))) - ((nI 2) * j)) / (nI 2))))))]) [0, 1, 2, 3, 4] rfl
          have hD := hD.sub (ws' := [(x, .inr (4, [.ref q])), (q, .inr (2, [.ref a, .int (nI n)])), (a, .inl (ca 0, cap, .inl g)), (q2, .inr (2, [.ref a2, .int (nI ((((passL j 0 (lst g i)).length) + 1) + 1))])), (a2, .inl (ca 0, cap2, .inl (upd (upd (apF g2 0 (passL j 0 (lst g i))) ((passL j 0 (lst g i)).length) ((((nI 200) + (j * (nI (i % 5)))) - ((nI 2) * j)) / (nI 2))) (((passL j 0 (lst g i)).length) + 1) ((((nI 200) + (j * (nI (i % 5)))) - ((nI 2) * j)) - ((((nI 200) + (j * (nI (i % 5)))) - ((nI 2) * j)) / (nI 2))))))]) [0, 1, 2, 3, 4] (by decide) rfl
          refine lv_pop hx hb dX4_passInto_75 rfl ?_
          refine lv_iinc (v := nI (i + 1)) (lv' := [(3, .int (nI (i + 1))), (5, .int ((((nI 200) + (j * (nI (i % 5)))) - ((nI 2) * j)) / (nI 2))), (4, .int (((nI 200) + (j * (nI (i % 5)))) - ((nI 2) * j))), (0, .ref x), (1, .ref q2), (2, .int j)]) hx hb dX4_passInto_76 hl (k := 2) rfl (ni_inc _ _ (by decide)) (by decide) rfl (fun ls hl => ?_)
          refine lv_goto (tgt := 6) hx hb dX4_passInto_79 (by decide) ?_
          have e14 : (nI ((((passL j 0 (lst g i)).length) + 1) + 1) : Int32) = nI ((passL j 0 (lst g (i + 1))).length) := by first | exact pas_1 g2 g j (by assumption) | exact pas_2 g2 g j (by assumption) | exact pas_1n g j (by assumption) | exact pas_2n g j (by assumption)
          have hP : va_P D vwCl [(x, .inr (4, [.ref q])), (q, .inr (2, [.ref a, .int (nI n)])), (a, .inl (ca 0, cap, .inl g)), (q2, .inr (2, [.ref a2, .int (nI ((passL j 0 (lst g (i + 1))).length))])), (a2, .inl (ca 0, cap2, .inl (upd (upd (apF g2 0 (passL j 0 (lst g i))) ((passL j 0 (lst g i)).length) ((((nI 200) + (j * (nI (i % 5)))) - ((nI 2) * j)) / (nI 2))) (((passL j 0 (lst g i)).length) + 1) ((((nI 200) + (j * (nI (i % 5)))) - ((nI 2) * j)) - ((((nI 200) + (j * (nI (i % 5)))) - ((nI 2) * j)) / (nI 2))))))] H := Eq.mp (congrArg (fun z9 : Int32 => va_P D vwCl [(x, .inr (4, [.ref q])), (q, .inr (2, [.ref a, .int (nI n)])), (a, .inl (ca 0, cap, .inl g)), (q2, .inr (2, [.ref a2, .int z9])), (a2, .inl (ca 0, cap2, .inl (upd (upd (apF g2 0 (passL j 0 (lst g i))) ((passL j 0 (lst g i)).length) ((((nI 200) + (j * (nI (i % 5)))) - ((nI 2) * j)) / (nI 2))) (((passL j 0 (lst g i)).length) + 1) ((((nI 200) + (j * (nI (i % 5)))) - ((nI 2) * j)) - ((((nI 200) + (j * (nI (i % 5)))) - ((nI 2) * j)) / (nI 2))))))] H) e14) hP
          have hD : va_D A [(x, .inr (4, [.ref q])), (q, .inr (2, [.ref a, .int (nI n)])), (a, .inl (ca 0, cap, .inl g)), (q2, .inr (2, [.ref a2, .int (nI ((passL j 0 (lst g (i + 1))).length))])), (a2, .inl (ca 0, cap2, .inl (upd (upd (apF g2 0 (passL j 0 (lst g i))) ((passL j 0 (lst g i)).length) ((((nI 200) + (j * (nI (i % 5)))) - ((nI 2) * j)) / (nI 2))) (((passL j 0 (lst g i)).length) + 1) ((((nI 200) + (j * (nI (i % 5)))) - ((nI 2) * j)) - ((((nI 200) + (j * (nI (i % 5)))) - ((nI 2) * j)) / (nI 2))))))] := Eq.mp (congrArg (fun z9 : Int32 => va_D A [(x, .inr (4, [.ref q])), (q, .inr (2, [.ref a, .int (nI n)])), (a, .inl (ca 0, cap, .inl g)), (q2, .inr (2, [.ref a2, .int z9])), (a2, .inl (ca 0, cap2, .inl (upd (upd (apF g2 0 (passL j 0 (lst g i))) ((passL j 0 (lst g i)).length) ((((nI 200) + (j * (nI (i % 5)))) - ((nI 2) * j)) / (nI 2))) (((passL j 0 (lst g i)).length) + 1) ((((nI 200) + (j * (nI (i % 5)))) - ((nI 2) * j)) - ((((nI 200) + (j * (nI (i % 5)))) - ((nI 2) * j)) / (nI 2))))))]) e14) hD
          have e15 : (upd (upd (apF g2 0 (passL j 0 (lst g i))) ((passL j 0 (lst g i)).length) ((((nI 200) + (j * (nI (i % 5)))) - ((nI 2) * j)) / (nI 2))) (((passL j 0 (lst g i)).length) + 1) ((((nI 200) + (j * (nI (i % 5)))) - ((nI 2) * j)) - ((((nI 200) + (j * (nI (i % 5)))) - ((nI 2) * j)) / (nI 2))) : Nat → Int32) = apF g2 0 (passL j 0 (lst g (i + 1))) := by first | exact pas_1 g2 g j (by assumption) | exact pas_2 g2 g j (by assumption) | exact pas_1n g j (by assumption) | exact pas_2n g j (by assumption)
          have hP : va_P D vwCl [(x, .inr (4, [.ref q])), (q, .inr (2, [.ref a, .int (nI n)])), (a, .inl (ca 0, cap, .inl g)), (q2, .inr (2, [.ref a2, .int (nI ((passL j 0 (lst g (i + 1))).length))])), (a2, .inl (ca 0, cap2, .inl (apF g2 0 (passL j 0 (lst g (i + 1))))))] H := Eq.mp (congrArg (fun z9 : Nat → Int32 => va_P D vwCl [(x, .inr (4, [.ref q])), (q, .inr (2, [.ref a, .int (nI n)])), (a, .inl (ca 0, cap, .inl g)), (q2, .inr (2, [.ref a2, .int (nI ((passL j 0 (lst g (i + 1))).length))])), (a2, .inl (ca 0, cap2, .inl z9))] H) e15) hP
          have hD : va_D A [(x, .inr (4, [.ref q])), (q, .inr (2, [.ref a, .int (nI n)])), (a, .inl (ca 0, cap, .inl g)), (q2, .inr (2, [.ref a2, .int (nI ((passL j 0 (lst g (i + 1))).length))])), (a2, .inl (ca 0, cap2, .inl (apF g2 0 (passL j 0 (lst g (i + 1))))))] := Eq.mp (congrArg (fun z9 : Nat → Int32 => va_D A [(x, .inr (4, [.ref q])), (q, .inr (2, [.ref a, .int (nI n)])), (a, .inl (ca 0, cap, .inl g)), (q2, .inr (2, [.ref a2, .int (nI ((passL j 0 (lst g (i + 1))).length))])), (a2, .inl (ca 0, cap2, .inl z9))]) e15) hD
          exact ih1 (i + 1) (by omega) (by omega) _ _ hP hD hS ls (lv_sub hl [0, 3, 4, 5] rfl)
        · refine lv_aload_n hx hb dX4_passInto_43 rfl (lv_at hl 3 rfl) ?_
          refine lv_iload hx hb dX4_passInto_44 (lv_at hl 0 rfl) ?_
          have hPc := hP.sub (ws' := [(q2, .inr (2, [.ref a2, .int (nI ((passL j 0 (lst g i)).length))])), (a2, .inl (ca 0, cap2, .inl (apF g2 0 (passL j 0 (lst g i)))))]) [3, 4] rfl
          have hDc := hD.sub (ws' := [(q2, .inr (2, [.ref a2, .int (nI ((passL j 0 (lst g i)).length))])), (a2, .inl (ca 0, cap2, .inl (apF g2 0 (passL j 0 (lst g i)))))]) [3, 4] (by decide) rfl
          have hFc := va_free (wc := [(q2, .inr (2, [.ref a2, .int (nI ((passL j 0 (lst g i)).length))])), (a2, .inl (ca 0, cap2, .inl (apF g2 0 (passL j 0 (lst g i)))))]) hD hS hA [3, 4] rfl
          refine va_calli (va_runV (As := [.int (((nI 200) + (j * (nI (i % 5)))) - ((nI 2) * j))]) (rest := []) ⟨hx, hb, hml, hown, hts⟩ (kX2_add l D ca H.size q2 a2 cap2 (apF g2 0 (passL j 0 (lst g i))) ((passL j 0 (lst g i)).length) (((nI 200) + (j * (nI (i % 5)))) - ((nI 2) * j)) (by exact pas_room g j (by assumption) hz) (by omega)) (cwV 1 hts gX4_passInto_X2_add rfl rfl rfl (by decide +kernel) ⟨kk_le rfl, kk_le rfl⟩) (pvM hK hPc (my_D_true hDc) (va_recv hKv hP (ci := 2) (q0 := 3) rfl rfl)) rfl rfl hl.1 rfl (lv_room (kk_le rfl)) dX4_passInto_46 ⟨kk_le rfl, kk_le rfl⟩) hS (fun q _ h => hFc q h) hFc (fun r16 u t H1 locs ht hvm hwv hBv hz1 hk1 hS => ?_)
          obtain ⟨hP1, hD1⟩ := hBv
          rw [ht] at hP1
          have hP1 : va_P D vwCl [(q2, .inr (2, [.ref a2, .int (nI (((passL j 0 (lst g i)).length) + 1))])), (a2, .inl (ca 0, cap2, .inl (upd (apF g2 0 (passL j 0 (lst g i))) ((passL j 0 (lst g i)).length) (((nI 200) + (j * (nI (i % 5)))) - ((nI 2) * j)))))] H1 := hP1
          have hD1 : va_D _ [(q2, .inr (2, [.ref a2, .int (nI (((passL j 0 (lst g i)).length) + 1))])), (a2, .inl (ca 0, cap2, .inl (upd (apF g2 0 (passL j 0 (lst g i))) ((passL j 0 (lst g i)).length) (((nI 200) + (j * (nI (i % 5)))) - ((nI 2) * j)))))] := hD1
          obtain ⟨hr16, hw16⟩ := hwv
          subst hr16
          obtain ⟨hP, hD⟩ := va_join (wr := [(x, .inr (4, [.ref q])), (q, .inr (2, [.ref a, .int (nI n)])), (a, .inl (ca 0, cap, .inl g))]) (w1 := [(q2, .inr (2, [.ref a2, .int (nI (((passL j 0 (lst g i)).length) + 1))])), (a2, .inl (ca 0, cap2, .inl (upd (apF g2 0 (passL j 0 (lst g i))) ((passL j 0 (lst g i)).length) (((nI 200) + (j * (nI (i % 5)))) - ((nI 2) * j)))))]) hP hD [3, 4] [0, 1, 2] rfl rfl (by decide) (by decide) hk1 hFc hP1 hD1
          generalize H1 = H at hP hS ⊢
          have hP := hP.sub (ws' := [(x, .inr (4, [.ref q])), (q, .inr (2, [.ref a, .int (nI n)])), (a, .inl (ca 0, cap, .inl g)), (q2, .inr (2, [.ref a2, .int (nI (((passL j 0 (lst g i)).length) + 1))])), (a2, .inl (ca 0, cap2, .inl (upd (apF g2 0 (passL j 0 (lst g i))) ((passL j 0 (lst g i)).length) (((nI 200) + (j * (nI (i % 5)))) - ((nI 2) * j)))))]) [0, 1, 2, 3, 4] rfl
          have hD := hD.sub (ws' := [(x, .inr (4, [.ref q])), (q, .inr (2, [.ref a, .int (nI n)])), (a, .inl (ca 0, cap, .inl g)), (q2, .inr (2, [.ref a2, .int (nI (((passL j 0 (lst g i)).length) + 1))])), (a2, .inl (ca 0, cap2, .inl (upd (apF g2 0 (passL j 0 (lst g i))) ((passL j 0 (lst g i)).length) (((nI 200) + (j * (nI (i % 5)))) - ((nI 2) * j)))))]) [0, 1, 2, 3, 4] (by decide) rfl
          refine lv_pop hx hb dX4_passInto_49 rfl ?_
          refine lv_goto (tgt := 76) hx hb dX4_passInto_50 (by decide) ?_
          refine lv_iinc (v := nI (i + 1)) (lv' := [(3, .int (nI (i + 1))), (4, .int (((nI 200) + (j * (nI (i % 5)))) - ((nI 2) * j))), (0, .ref x), (1, .ref q2), (2, .int j)]) hx hb dX4_passInto_76 hl (k := 1) rfl (ni_inc _ _ (by decide)) (by decide) rfl (fun ls hl => ?_)
          refine lv_goto (tgt := 6) hx hb dX4_passInto_79 (by decide) ?_
          have e18 : (nI (((passL j 0 (lst g i)).length) + 1) : Int32) = nI ((passL j 0 (lst g (i + 1))).length) := by first | exact pas_1 g2 g j (by assumption) | exact pas_2 g2 g j (by assumption) | exact pas_1n g j (by assumption) | exact pas_2n g j (by assumption)
          have hP : va_P D vwCl [(x, .inr (4, [.ref q])), (q, .inr (2, [.ref a, .int (nI n)])), (a, .inl (ca 0, cap, .inl g)), (q2, .inr (2, [.ref a2, .int (nI ((passL j 0 (lst g (i + 1))).length))])), (a2, .inl (ca 0, cap2, .inl (upd (apF g2 0 (passL j 0 (lst g i))) ((passL j 0 (lst g i)).length) (((nI 200) + (j * (nI (i % 5)))) - ((nI 2) * j)))))] H := Eq.mp (congrArg (fun z9 : Int32 => va_P D vwCl [(x, .inr (4, [.ref q])), (q, .inr (2, [.ref a, .int (nI n)])), (a, .inl (ca 0, cap, .inl g)), (q2, .inr (2, [.ref a2, .int z9])), (a2, .inl (ca 0, cap2, .inl (upd (apF g2 0 (passL j 0 (lst g i))) ((passL j 0 (lst g i)).length) (((nI 200) + (j * (nI (i % 5)))) - ((nI 2) * j)))))] H) e18) hP
          have hD : va_D A [(x, .inr (4, [.ref q])), (q, .inr (2, [.ref a, .int (nI n)])), (a, .inl (ca 0, cap, .inl g)), (q2, .inr (2, [.ref a2, .int (nI ((passL j 0 (lst g (i + 1))).length))])), (a2, .inl (ca 0, cap2, .inl (upd (apF g2 0 (passL j 0 (lst g i))) ((passL j 0 (lst g i)).length) (((nI 200) + (j * (nI (i % 5)))) - ((nI 2) * j)))))] := Eq.mp (congrArg (fun z9 : Int32 => va_D A [(x, .inr (4, [.ref q])), (q, .inr (2, [.ref a, .int (nI n)])), (a, .inl (ca 0, cap, .inl g)), (q2, .inr (2, [.ref a2, .int z9])), (a2, .inl (ca 0, cap2, .inl (upd (apF g2 0 (passL j 0 (lst g i))) ((passL j 0 (lst g i)).length) (((nI 200) + (j * (nI (i % 5)))) - ((nI 2) * j)))))]) e18) hD
          have e19 : (upd (apF g2 0 (passL j 0 (lst g i))) ((passL j 0 (lst g i)).length) (((nI 200) + (j * (nI (i % 5)))) - ((nI 2) * j)) : Nat → Int32) = apF g2 0 (passL j 0 (lst g (i + 1))) := by first | exact pas_1 g2 g j (by assumption) | exact pas_2 g2 g j (by assumption) | exact pas_1n g j (by assumption) | exact pas_2n g j (by assumption)
          have hP : va_P D vwCl [(x, .inr (4, [.ref q])), (q, .inr (2, [.ref a, .int (nI n)])), (a, .inl (ca 0, cap, .inl g)), (q2, .inr (2, [.ref a2, .int (nI ((passL j 0 (lst g (i + 1))).length))])), (a2, .inl (ca 0, cap2, .inl (apF g2 0 (passL j 0 (lst g (i + 1))))))] H := Eq.mp (congrArg (fun z9 : Nat → Int32 => va_P D vwCl [(x, .inr (4, [.ref q])), (q, .inr (2, [.ref a, .int (nI n)])), (a, .inl (ca 0, cap, .inl g)), (q2, .inr (2, [.ref a2, .int (nI ((passL j 0 (lst g (i + 1))).length))])), (a2, .inl (ca 0, cap2, .inl z9))] H) e19) hP
          have hD : va_D A [(x, .inr (4, [.ref q])), (q, .inr (2, [.ref a, .int (nI n)])), (a, .inl (ca 0, cap, .inl g)), (q2, .inr (2, [.ref a2, .int (nI ((passL j 0 (lst g (i + 1))).length))])), (a2, .inl (ca 0, cap2, .inl (apF g2 0 (passL j 0 (lst g (i + 1))))))] := Eq.mp (congrArg (fun z9 : Nat → Int32 => va_D A [(x, .inr (4, [.ref q])), (q, .inr (2, [.ref a, .int (nI n)])), (a, .inl (ca 0, cap, .inl g)), (q2, .inr (2, [.ref a2, .int (nI ((passL j 0 (lst g (i + 1))).length))])), (a2, .inl (ca 0, cap2, .inl z9))]) e19) hD
          exact ih1 (i + 1) (by omega) (by omega) _ _ hP hD hS ls (lv_sub hl [0, 2, 3, 4] rfl)
  have e20 : (nI 0 : Int32) = nI ((passL j 0 (lst g 0)).length) := by first | rfl | exact (apF_0 g2 0).symm
  have hP : va_P D vwCl [(x, .inr (4, [.ref q])), (q, .inr (2, [.ref a, .int (nI n)])), (a, .inl (ca 0, cap, .inl g)), (q2, .inr (2, [.ref a2, .int (nI ((passL j 0 (lst g 0)).length))])), (a2, .inl (ca 0, cap2, .inl g2))] H := Eq.mp (congrArg (fun z9 : Int32 => va_P D vwCl [(x, .inr (4, [.ref q])), (q, .inr (2, [.ref a, .int (nI n)])), (a, .inl (ca 0, cap, .inl g)), (q2, .inr (2, [.ref a2, .int z9])), (a2, .inl (ca 0, cap2, .inl g2))] H) e20) hP
  have hD : va_D A [(x, .inr (4, [.ref q])), (q, .inr (2, [.ref a, .int (nI n)])), (a, .inl (ca 0, cap, .inl g)), (q2, .inr (2, [.ref a2, .int (nI ((passL j 0 (lst g 0)).length))])), (a2, .inl (ca 0, cap2, .inl g2))] := Eq.mp (congrArg (fun z9 : Int32 => va_D A [(x, .inr (4, [.ref q])), (q, .inr (2, [.ref a, .int (nI n)])), (a, .inl (ca 0, cap, .inl g)), (q2, .inr (2, [.ref a2, .int z9])), (a2, .inl (ca 0, cap2, .inl g2))]) e20) hD
  have e21 : (g2 : Nat → Int32) = apF g2 0 (passL j 0 (lst g 0)) := by first | rfl | exact (apF_0 g2 0).symm
  have hP : va_P D vwCl [(x, .inr (4, [.ref q])), (q, .inr (2, [.ref a, .int (nI n)])), (a, .inl (ca 0, cap, .inl g)), (q2, .inr (2, [.ref a2, .int (nI ((passL j 0 (lst g 0)).length))])), (a2, .inl (ca 0, cap2, .inl (apF g2 0 (passL j 0 (lst g 0)))))] H := Eq.mp (congrArg (fun z9 : Nat → Int32 => va_P D vwCl [(x, .inr (4, [.ref q])), (q, .inr (2, [.ref a, .int (nI n)])), (a, .inl (ca 0, cap, .inl g)), (q2, .inr (2, [.ref a2, .int (nI ((passL j 0 (lst g 0)).length))])), (a2, .inl (ca 0, cap2, .inl z9))] H) e21) hP
  have hD : va_D A [(x, .inr (4, [.ref q])), (q, .inr (2, [.ref a, .int (nI n)])), (a, .inl (ca 0, cap, .inl g)), (q2, .inr (2, [.ref a2, .int (nI ((passL j 0 (lst g 0)).length))])), (a2, .inl (ca 0, cap2, .inl (apF g2 0 (passL j 0 (lst g 0)))))] := Eq.mp (congrArg (fun z9 : Nat → Int32 => va_D A [(x, .inr (4, [.ref q])), (q, .inr (2, [.ref a, .int (nI n)])), (a, .inl (ca 0, cap, .inl g)), (q2, .inr (2, [.ref a2, .int (nI ((passL j 0 (lst g 0)).length))])), (a2, .inl (ca 0, cap2, .inl z9))]) e21) hD
  exact lp6_2 ((n - 0) + 1) 0 (by omega) (by omega) _ _ hP hD hS ls (lv_sub hl [0, 1, 2, 3] rfl)
