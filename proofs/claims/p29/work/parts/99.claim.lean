/-! THE CLAIM OUT OF ONE WALK OF THE LAW'S BODY. Your part is whole_start (and what it stands on); all else here is the same for every law, but numbers. -/
def R_law : String := "StripeSwipesLaw"
def lw_P (b : Addr) (xs : List Int32) (args : Array Value) (s : State) : Prop := args = #[.ref b] ∧ s.IntsAt b xs ∧ xs.length ≤ 260 ∧ (Jvm.Cond.and given_1 narrow_1).before args s = true
/-- what a walk over the start with the record d0 says of its end, said of the start itself -/
theorem lw_closed {s t : State} {o : Outcome} {d0 : Drawn} {L : List Loc} {k n : Nat} (hd0 : s.drawn.sameBut d0 lw_cs) (hv : ∃ v, o = .returned v) (hW : (s.setDrawn d0).WarmedH t.vm) (hs : (s.setDrawn d0).sameButNew ({ t with vm := s.vm } : State) L k n) : State.butDraws s t lw_cs (fun t1 => Framed s o t1 L k n) := by
  have h2 : t.drawn = d0 := congrArg State.drawn hs.1
  refine ⟨⟨hv, hW, State.sameButNew.setDrawn hs s.drawn⟩, ?_, by decide⟩
  rw [h2]
  exact hd0
def lw_Q (_ : Array Value) (s : State) (o : Outcome) (t : State) : Prop := o = .returned (some (.int 1)) ∧ State.butDraws s t lw_cs (fun t1 => Framed s o t1 [] 600172 7300668)
def lw_Z (below : List Frame) (a : Array Value) (s : State) : State → Prop := fun t => ∃ o, t.status = .running ∧ Ended t below o ∧ lw_Q a s o t
/-- the law's own end, with 1 on the stack, nothing written that was there before, its room as the claim has it; d0: the record of draws at this point (at the entry s.drawn: begin with 'refine W.base ?_' and 'have hd0 := Drawn.sameBut.refl s.drawn lw_cs') -/
theorem lw_ret {p : Program} {l : Launch} {e : Env} {s : State} {m : MethodId} {below : List Frame} {meth : Method} {c : Code} {b : Nat} {d0 : Drawn} (hd0 : s.drawn.sameBut d0 lw_cs) (hx : p.tables.exec = Jvm.exec) (hb : c.code = code) (hr : meth.sig.returnType = ret) (hlocks : meth.locks = false) {pc : Nat} {H : Heap} {ls : Array Slot} (hdg : decode code pc = .ok (.ireturn, 1)) : W p l e room_1 (s.setDrawn d0) m #[Value.ref b] below meth c H [] 600172 7300668 (lw_Z below #[Value.ref b] s) (F0 m pc ls [.int 1]) := by
  intro T hT X
  obtain ⟨fs, hret, hrun, hended, hW, hframe⟩ := X.leave (v := some (.int 1)) (hlocks := hlocks) (fun h => by rw [hr] at h; cases h)
  have hmeth' : T.vm.method? m = some meth := X.method'
  refine ⟨T.setFrames fs, ?_, .returned (some (.int 1)), hrun, hended, rfl, lw_closed hd0 ⟨_, rfl⟩ hW hframe⟩
  jvm_step X.here [X.here.top, hx, hb, hdg, hmeth', hr, ret, narrow_b1]
  (try refine ⟨rfl, ?_⟩); (try refine ⟨rfl, ?_⟩)
  first | (intro acts; rw [hret _ acts rfl rfl rfl]) | rw [hret _ _ rfl rfl rfl]
  exact Steps.refl _
/-- what holds at the law's entry: the machine, the code, the tables' words (any of lw_tbl by 'hts w (by decide +kernel)'), the script of L ints xs at the cell b, what the Statement gives of the start (any of its parts by flat_of_before) -/
def lw_At (p : Program) (s : State) (m : MethodId) (meth : Method) (c : Code) (b L : Nat) (xs : Nat → Int32) : Prop :=
  p.tables.exec = Jvm.exec ∧ c.code = code ∧ meth.sig.returnType = ret ∧ c.maxLocals = 13 ∧ s.vm.findClass R_law = some m.cls ∧ (∀ w ∈ lw_tbl, w.before #[Value.ref b] s = true) ∧ va_X b L xs s s.heap ∧ b < s.heap.size ∧ meth.locks = false ∧ (Jvm.Cond.and given_1 narrow_1).before #[Value.ref b] s = true
-- ===== YOUR PART BEGINS =====
theorem qsF_nil : qsF none none = fun _ => none := by
  funext k; unfold qsF
  by_cases h : k = 0
  · rw [if_pos h]; rfl
  · rw [if_neg h]; by_cases h2 : k = 1
    · rw [if_pos h2]; rfl
    · rw [if_neg h2]
theorem qfL_nil : qfL [] = fun _ => none := by
  funext k; rfl
def s0I : S6 := (10, nI 75, nI 50, nI 0, [], [])
theorem s0_ok : okE 56000 s0I := ⟨⟨by decide, by decide, by decide, (fun x hx => nomatch hx), by decide⟩, by decide, by decide, by decide, by decide, (fun x hx => nomatch hx)⟩
theorem g0_ok : okCg ((10, nI 75, nI 50, nI 0, 0, 0, fun _ => 0, fun _ => 0), ([], 0), (none, none), (fun _ => 0, 0), (nI 1, -1, nI 0, fun _ => 0, 0, fun _ => 0, 0), (fun _ => 0, 0), (fun _ => 0, 0), (fun _ => 0, 0), (fun _ => 0, 0)) := ⟨by decide, by decide, by decide, by decide, by decide, by decide, by decide, by decide, by decide, by decide, by decide, (fun x hx => nomatch hx), (fun x hx => nomatch hx), (fun x hx => nomatch hx)⟩
theorem g0_ab : abC ((10, nI 75, nI 50, nI 0, 0, 0, fun _ => 0, fun _ => 0), ([], 0), (none, none), (fun _ => 0, 0), (nI 1, -1, nI 0, fun _ => 0, 0, fun _ => 0, 0), (fun _ => 0, 0), (fun _ => 0, 0), (fun _ => 0, 0), (fun _ => 0, 0)) = (s0I, [], (none : Option S6), (none : Option S6), []) := rfl
set_option maxHeartbeats 8000000 in
set_option maxRecDepth 100000 in
theorem whole_start {p : Program} {e : Env} {s : State} {m : MethodId} {below : List Frame} {meth : Method} {c : Code} (l : Launch) (hflags : l.flags = flags0) {b L : Nat} {xs : Nat → Int32} (hL : L ≤ 260) (C0 : lw_At p s m meth c b L xs) : W p l e room_1 s m #[Value.ref b] below meth c s.heap [] 0 0 (lw_Z below #[Value.ref b] s) (entryFrame m ([Value.ref b] : List Value).toArray 13) := by
  obtain ⟨hx, hb, hr, hml, hown, hts, hX, hbl, hlocks, hgv⟩ := id C0
  have htsL : ∀ w ∈ wsL_law, w.before #[Value.ref b] s = true := fun w h => hts w (wsL_law_in w h)
  have hZ := st_ZZ hgv hts
  obtain ⟨D, ca, hK⟩ := st_K hts (st_NW hgv hts)
  have hKv := hK.1
  have hA : ∀ q : Nat, s.heap.size ≤ q → (fun q : Nat => s.heap.size ≤ q) q := fun _ h => h
  have hP : va_P D vwCl [] s.heap := fun k q h => by simp at h
  have hD : va_D (fun q : Nat => s.heap.size ≤ q) [] := ⟨fun i j p q h => by simp at h, fun k q h => by simp at h⟩
  have hS : va_S (fun q : Nat => s.heap.size ≤ q) s.heap s.heap [] := va_S.rf
  have hl := lv_entry ([.ref b]) (n := 13) (kk_le rfl)
  rw [lg_entry_eq]
  generalize (lg_sl ([.ref b]) ++ List.replicate (13 - (lg_sl ([.ref b])).length) Slot.unset).toArray = ls at hl ⊢
  have hl : lv_has ls 13 [(0, .ref b)] := hl
  refine va_new (ci := 5) (fs := [.null, .null, .null, .null, .null, .null, .null, .null, .null]) (C := RX5) (T := TX5) (N := 9) hx hb hts inX5 tyX5 tyX5_ok hown (hts (.classLink RL 13 RX5) (by decide +kernel)) (hts (.instantiable RX5 9) (by decide +kernel)) (hts (.initialized RX5) (by decide +kernel)) hKv hP hD hS hA rfl (fun j9 hj9 => by rcases (show j9 = 0 ∨ j9 = 1 ∨ j9 = 2 ∨ j9 = 3 ∨ j9 = 4 ∨ j9 = 5 ∨ j9 = 6 ∨ j9 = 7 ∨ j9 = 8 by omega) with rfl | rfl | rfl | rfl | rfl | rfl | rfl | rfl | rfl <;> rfl) (kk_le rfl) (kk_le rfl) dL_law_0 (fun oc H hP hD hS => ?_)
  have hP : va_P D vwCl [(oc, .inr (5, [.null, .null, .null, .null, .null, .null, .null, .null, .null]))] H := hP
  have hD : va_D (fun q : Nat => s.heap.size ≤ q) [(oc, .inr (5, [.null, .null, .null, .null, .null, .null, .null, .null, .null]))] := hD
  refine lv_dup hx hb dL_law_3 rfl ?_
  have hFc := va_free (wc := [(oc, .inr (5, [.null, .null, .null, .null, .null, .null, .null, .null, .null]))]) hD hS hA [0] rfl
  refine va_callv (va_runI (As := []) (rest := [.ref oc]) ⟨hx, hb, hml, hown, htsL⟩ (kX5_init l D ca H.size oc) (cwI 0 htsL gL_law_X5_init rfl rfl rfl (hts (.initialized RX5) (by decide +kernel)) (hts (.methodLink RL 81 yX5_init) (by decide +kernel)) (hts (.instanceMethod yX5_init) (by decide +kernel)) rfl (by decide +kernel) ⟨kk_le rfl, kk_le rfl⟩) (psZ hK hP (my_D_true hD) (hZ.at hS hFc)) rfl rfl hl.1 rfl (lv_room (kk_le rfl)) dL_law_4 ⟨kk_le rfl, kk_le rfl⟩) hS (fun q _ h => hFc q h) hFc (fun u t H1 locs1 ht hvm hw hB hs1 hk1 hS => ?_)
  obtain ⟨b1, b2, b3, b4, b5, b6, b7, b8, b9, b10, b11, b12, b13, b14, b15, b16, b17, b18, b19, b20, b21, b22, b23, b24, b25, b26⟩ := u
  obtain ⟨hP1, hD1⟩ := hB
  rw [ht] at hP1
  have hP1 : va_P D vwCl [(oc, .inr (5, [.ref b1, .ref b8, .ref b9, .ref b11, .ref b13, .ref b18, .ref b21, .ref b23, .ref b25])), (b1, .inr (3, [.ref b2, .ref b4, .ref b6])), (b2, .inr (2, [.ref b3, .int (nI 0)])), (b3, .inl (ca 0, 200, .inl (fun _ => 0))), (b4, .inr (2, [.ref b5, .int (nI 0)])), (b5, .inl (ca 0, 20, .inl (fun _ => 0))), (b6, .inr (2, [.ref b7, .int (nI 4)])), (b7, .inl (ca 0, 4, .inl firstF)), (b8, .inl (ca 2, 2, .inr (.inr (.inr (.inr (fun _ => none)))))), (b9, .inr (0, [.ref b10, .int (nI 0)])), (b10, .inl (ca 2, 6, .inr (.inr (.inr (.inr (fun _ => none)))))), (b11, .inr (2, [.ref b12, .int (nI 0)])), (b12, .inl (ca 0, 40, .inl (fun _ => 0))), (b13, .inr (1, [.ref b14, .ref b16, .int (nI 1), .int (-1), .int (nI 0)])), (b14, .inr (2, [.ref b15, .int (nI 0)])), (b15, .inl (ca 0, 200, .inl (fun _ => 0))), (b16, .inr (2, [.ref b17, .int (nI 0)])), (b17, .inl (ca 0, 40, .inl (fun _ => 0))), (b18, .inr (4, [.ref b19])), (b19, .inr (2, [.ref b20, .int (nI 0)])), (b20, .inl (ca 0, 200, .inl (fun _ => 0))), (b21, .inr (2, [.ref b22, .int (nI 0)])), (b22, .inl (ca 0, 20, .inl (fun _ => 0))), (b23, .inr (2, [.ref b24, .int (nI 0)])), (b24, .inl (ca 0, 200, .inl (fun _ => 0))), (b25, .inr (2, [.ref b26, .int (nI 0)])), (b26, .inl (ca 0, 46, .inl (fun _ => 0)))] H1 := hP1
  have hD1 : va_D (fun q : Nat => s.heap.size ≤ q) [(oc, .inr (5, [.ref b1, .ref b8, .ref b9, .ref b11, .ref b13, .ref b18, .ref b21, .ref b23, .ref b25])), (b1, .inr (3, [.ref b2, .ref b4, .ref b6])), (b2, .inr (2, [.ref b3, .int (nI 0)])), (b3, .inl (ca 0, 200, .inl (fun _ => 0))), (b4, .inr (2, [.ref b5, .int (nI 0)])), (b5, .inl (ca 0, 20, .inl (fun _ => 0))), (b6, .inr (2, [.ref b7, .int (nI 4)])), (b7, .inl (ca 0, 4, .inl firstF)), (b8, .inl (ca 2, 2, .inr (.inr (.inr (.inr (fun _ => none)))))), (b9, .inr (0, [.ref b10, .int (nI 0)])), (b10, .inl (ca 2, 6, .inr (.inr (.inr (.inr (fun _ => none)))))), (b11, .inr (2, [.ref b12, .int (nI 0)])), (b12, .inl (ca 0, 40, .inl (fun _ => 0))), (b13, .inr (1, [.ref b14, .ref b16, .int (nI 1), .int (-1), .int (nI 0)])), (b14, .inr (2, [.ref b15, .int (nI 0)])), (b15, .inl (ca 0, 200, .inl (fun _ => 0))), (b16, .inr (2, [.ref b17, .int (nI 0)])), (b17, .inl (ca 0, 40, .inl (fun _ => 0))), (b18, .inr (4, [.ref b19])), (b19, .inr (2, [.ref b20, .int (nI 0)])), (b20, .inl (ca 0, 200, .inl (fun _ => 0))), (b21, .inr (2, [.ref b22, .int (nI 0)])), (b22, .inl (ca 0, 20, .inl (fun _ => 0))), (b23, .inr (2, [.ref b24, .int (nI 0)])), (b24, .inl (ca 0, 200, .inl (fun _ => 0))), (b25, .inr (2, [.ref b26, .int (nI 0)])), (b26, .inl (ca 0, 46, .inl (fun _ => 0)))] := hD1.weaken (fun _ _ _ h => hFc _ h)
  have hP2 : va_P D vwCl [(oc, .inr (5, [.ref b1, .ref b8, .ref b9, .ref b11, .ref b13, .ref b18, .ref b21, .ref b23, .ref b25])), (b1, .inr (3, [.ref b2, .ref b4, .ref b6])), (b2, .inr (2, [.ref b3, .int (nI 0)])), (b3, .inl (ca 0, 200, .inl (fun _ => 0))), (b4, .inr (2, [.ref b5, .int (nI 0)])), (b5, .inl (ca 0, 20, .inl (fun _ => 0))), (b6, .inr (2, [.ref b7, .int (nI 4)])), (b7, .inl (ca 0, 4, .inl (seF 10 (nI 75) (nI 50) (nI 0)))), (b9, .inr (0, [.ref b10, .int (nI 0)])), (b10, .inl (ca 2, 6, .inr (.inr (.inr (.inr (fun _ => none)))))), (b8, .inl (ca 2, 2, .inr (.inr (.inr (.inr (fun _ => none)))))), (b11, .inr (2, [.ref b12, .int (nI 0)])), (b12, .inl (ca 0, 40, .inl (fun _ => 0))), (b13, .inr (1, [.ref b14, .ref b16, .int (nI 1), .int (-1), .int (nI 0)])), (b14, .inr (2, [.ref b15, .int (nI 0)])), (b15, .inl (ca 0, 200, .inl (fun _ => 0))), (b16, .inr (2, [.ref b17, .int (nI 0)])), (b17, .inl (ca 0, 40, .inl (fun _ => 0))), (b18, .inr (4, [.ref b19])), (b19, .inr (2, [.ref b20, .int (nI 0)])), (b20, .inl (ca 0, 200, .inl (fun _ => 0))), (b21, .inr (2, [.ref b22, .int (nI 0)])), (b22, .inl (ca 0, 20, .inl (fun _ => 0))), (b23, .inr (2, [.ref b24, .int (nI 0)])), (b24, .inl (ca 0, 200, .inl (fun _ => 0))), (b25, .inr (2, [.ref b26, .int (nI 0)])), (b26, .inl (ca 0, 46, .inl (fun _ => 0)))] H1 := hP1.sub (ws' := [(oc, .inr (5, [.ref b1, .ref b8, .ref b9, .ref b11, .ref b13, .ref b18, .ref b21, .ref b23, .ref b25])), (b1, .inr (3, [.ref b2, .ref b4, .ref b6])), (b2, .inr (2, [.ref b3, .int (nI 0)])), (b3, .inl (ca 0, 200, .inl (fun _ => 0))), (b4, .inr (2, [.ref b5, .int (nI 0)])), (b5, .inl (ca 0, 20, .inl (fun _ => 0))), (b6, .inr (2, [.ref b7, .int (nI 4)])), (b7, .inl (ca 0, 4, .inl (seF 10 (nI 75) (nI 50) (nI 0)))), (b9, .inr (0, [.ref b10, .int (nI 0)])), (b10, .inl (ca 2, 6, .inr (.inr (.inr (.inr (fun _ => none)))))), (b8, .inl (ca 2, 2, .inr (.inr (.inr (.inr (fun _ => none)))))), (b11, .inr (2, [.ref b12, .int (nI 0)])), (b12, .inl (ca 0, 40, .inl (fun _ => 0))), (b13, .inr (1, [.ref b14, .ref b16, .int (nI 1), .int (-1), .int (nI 0)])), (b14, .inr (2, [.ref b15, .int (nI 0)])), (b15, .inl (ca 0, 200, .inl (fun _ => 0))), (b16, .inr (2, [.ref b17, .int (nI 0)])), (b17, .inl (ca 0, 40, .inl (fun _ => 0))), (b18, .inr (4, [.ref b19])), (b19, .inr (2, [.ref b20, .int (nI 0)])), (b20, .inl (ca 0, 200, .inl (fun _ => 0))), (b21, .inr (2, [.ref b22, .int (nI 0)])), (b22, .inl (ca 0, 20, .inl (fun _ => 0))), (b23, .inr (2, [.ref b24, .int (nI 0)])), (b24, .inl (ca 0, 200, .inl (fun _ => 0))), (b25, .inr (2, [.ref b26, .int (nI 0)])), (b26, .inl (ca 0, 46, .inl (fun _ => 0)))]) [0, 1, 2, 3, 4, 5, 6, 7, 9, 10, 8, 11, 12, 13, 14, 15, 16, 17, 18, 19, 20, 21, 22, 23, 24, 25, 26] rfl
  have hD2 : va_D (fun q : Nat => s.heap.size ≤ q) [(oc, .inr (5, [.ref b1, .ref b8, .ref b9, .ref b11, .ref b13, .ref b18, .ref b21, .ref b23, .ref b25])), (b1, .inr (3, [.ref b2, .ref b4, .ref b6])), (b2, .inr (2, [.ref b3, .int (nI 0)])), (b3, .inl (ca 0, 200, .inl (fun _ => 0))), (b4, .inr (2, [.ref b5, .int (nI 0)])), (b5, .inl (ca 0, 20, .inl (fun _ => 0))), (b6, .inr (2, [.ref b7, .int (nI 4)])), (b7, .inl (ca 0, 4, .inl (seF 10 (nI 75) (nI 50) (nI 0)))), (b9, .inr (0, [.ref b10, .int (nI 0)])), (b10, .inl (ca 2, 6, .inr (.inr (.inr (.inr (fun _ => none)))))), (b8, .inl (ca 2, 2, .inr (.inr (.inr (.inr (fun _ => none)))))), (b11, .inr (2, [.ref b12, .int (nI 0)])), (b12, .inl (ca 0, 40, .inl (fun _ => 0))), (b13, .inr (1, [.ref b14, .ref b16, .int (nI 1), .int (-1), .int (nI 0)])), (b14, .inr (2, [.ref b15, .int (nI 0)])), (b15, .inl (ca 0, 200, .inl (fun _ => 0))), (b16, .inr (2, [.ref b17, .int (nI 0)])), (b17, .inl (ca 0, 40, .inl (fun _ => 0))), (b18, .inr (4, [.ref b19])), (b19, .inr (2, [.ref b20, .int (nI 0)])), (b20, .inl (ca 0, 200, .inl (fun _ => 0))), (b21, .inr (2, [.ref b22, .int (nI 0)])), (b22, .inl (ca 0, 20, .inl (fun _ => 0))), (b23, .inr (2, [.ref b24, .int (nI 0)])), (b24, .inl (ca 0, 200, .inl (fun _ => 0))), (b25, .inr (2, [.ref b26, .int (nI 0)])), (b26, .inl (ca 0, 46, .inl (fun _ => 0)))] := hD1.sub (ws' := [(oc, .inr (5, [.ref b1, .ref b8, .ref b9, .ref b11, .ref b13, .ref b18, .ref b21, .ref b23, .ref b25])), (b1, .inr (3, [.ref b2, .ref b4, .ref b6])), (b2, .inr (2, [.ref b3, .int (nI 0)])), (b3, .inl (ca 0, 200, .inl (fun _ => 0))), (b4, .inr (2, [.ref b5, .int (nI 0)])), (b5, .inl (ca 0, 20, .inl (fun _ => 0))), (b6, .inr (2, [.ref b7, .int (nI 4)])), (b7, .inl (ca 0, 4, .inl (seF 10 (nI 75) (nI 50) (nI 0)))), (b9, .inr (0, [.ref b10, .int (nI 0)])), (b10, .inl (ca 2, 6, .inr (.inr (.inr (.inr (fun _ => none)))))), (b8, .inl (ca 2, 2, .inr (.inr (.inr (.inr (fun _ => none)))))), (b11, .inr (2, [.ref b12, .int (nI 0)])), (b12, .inl (ca 0, 40, .inl (fun _ => 0))), (b13, .inr (1, [.ref b14, .ref b16, .int (nI 1), .int (-1), .int (nI 0)])), (b14, .inr (2, [.ref b15, .int (nI 0)])), (b15, .inl (ca 0, 200, .inl (fun _ => 0))), (b16, .inr (2, [.ref b17, .int (nI 0)])), (b17, .inl (ca 0, 40, .inl (fun _ => 0))), (b18, .inr (4, [.ref b19])), (b19, .inr (2, [.ref b20, .int (nI 0)])), (b20, .inl (ca 0, 200, .inl (fun _ => 0))), (b21, .inr (2, [.ref b22, .int (nI 0)])), (b22, .inl (ca 0, 20, .inl (fun _ => 0))), (b23, .inr (2, [.ref b24, .int (nI 0)])), (b24, .inl (ca 0, 200, .inl (fun _ => 0))), (b25, .inr (2, [.ref b26, .int (nI 0)])), (b26, .inl (ca 0, 46, .inl (fun _ => 0)))]) [0, 1, 2, 3, 4, 5, 6, 7, 9, 10, 8, 11, 12, 13, 14, 15, 16, 17, 18, 19, 20, 21, 22, 23, 24, 25, 26] (by decide) rfl
  have hP : va_P D vwCl (cW ca (oc, b1, b8, b9, b11, b13, b18, b21, b23, b25, b2, b3, b4, b5, b6, b7, b10, b12, b14, b15, b16, b17, b19, b20, b22, b24, b26) ((10, nI 75, nI 50, nI 0, 0, 0, fun _ => 0, fun _ => 0), ([], 0), (none, none), (fun _ => 0, 0), (nI 1, -1, nI 0, fun _ => 0, 0, fun _ => 0, 0), (fun _ => 0, 0), (fun _ => 0, 0), (fun _ => 0, 0), (fun _ => 0, 0))) H1 := by
    have h9 : va_P D vwCl [(oc, .inr (5, [.ref b1, .ref b8, .ref b9, .ref b11, .ref b13, .ref b18, .ref b21, .ref b23, .ref b25])), (b1, .inr (3, [.ref b2, .ref b4, .ref b6])), (b2, .inr (2, [.ref b3, .int (nI 0)])), (b3, .inl (ca 0, 200, .inl (fun _ => 0))), (b4, .inr (2, [.ref b5, .int (nI 0)])), (b5, .inl (ca 0, 20, .inl (fun _ => 0))), (b6, .inr (2, [.ref b7, .int (nI 4)])), (b7, .inl (ca 0, 4, .inl (seF 10 (nI 75) (nI 50) (nI 0)))), (b9, .inr (0, [.ref b10, .int (nI 0)])), (b10, .inl (ca 2, 6, .inr (.inr (.inr (.inr (qfL ([]))))))), (b8, .inl (ca 2, 2, .inr (.inr (.inr (.inr (qsF none none)))))), (b11, .inr (2, [.ref b12, .int (nI 0)])), (b12, .inl (ca 0, 40, .inl (fun _ => 0))), (b13, .inr (1, [.ref b14, .ref b16, .int (nI 1), .int (-1), .int (nI 0)])), (b14, .inr (2, [.ref b15, .int (nI 0)])), (b15, .inl (ca 0, 200, .inl (fun _ => 0))), (b16, .inr (2, [.ref b17, .int (nI 0)])), (b17, .inl (ca 0, 40, .inl (fun _ => 0))), (b18, .inr (4, [.ref b19])), (b19, .inr (2, [.ref b20, .int (nI 0)])), (b20, .inl (ca 0, 200, .inl (fun _ => 0))), (b21, .inr (2, [.ref b22, .int (nI 0)])), (b22, .inl (ca 0, 20, .inl (fun _ => 0))), (b23, .inr (2, [.ref b24, .int (nI 0)])), (b24, .inl (ca 0, 200, .inl (fun _ => 0))), (b25, .inr (2, [.ref b26, .int (nI 0)])), (b26, .inl (ca 0, 46, .inl (fun _ => 0)))] H1 := by rw [qsF_nil, qfL_nil]; exact hP2
    exact h9
  have hD : va_D (fun q : Nat => s.heap.size ≤ q) (cW ca (oc, b1, b8, b9, b11, b13, b18, b21, b23, b25, b2, b3, b4, b5, b6, b7, b10, b12, b14, b15, b16, b17, b19, b20, b22, b24, b26) ((10, nI 75, nI 50, nI 0, 0, 0, fun _ => 0, fun _ => 0), ([], 0), (none, none), (fun _ => 0, 0), (nI 1, -1, nI 0, fun _ => 0, 0, fun _ => 0, 0), (fun _ => 0, 0), (fun _ => 0, 0), (fun _ => 0, 0), (fun _ => 0, 0))) := by
    have h9 : va_D (fun q : Nat => s.heap.size ≤ q) [(oc, .inr (5, [.ref b1, .ref b8, .ref b9, .ref b11, .ref b13, .ref b18, .ref b21, .ref b23, .ref b25])), (b1, .inr (3, [.ref b2, .ref b4, .ref b6])), (b2, .inr (2, [.ref b3, .int (nI 0)])), (b3, .inl (ca 0, 200, .inl (fun _ => 0))), (b4, .inr (2, [.ref b5, .int (nI 0)])), (b5, .inl (ca 0, 20, .inl (fun _ => 0))), (b6, .inr (2, [.ref b7, .int (nI 4)])), (b7, .inl (ca 0, 4, .inl (seF 10 (nI 75) (nI 50) (nI 0)))), (b9, .inr (0, [.ref b10, .int (nI 0)])), (b10, .inl (ca 2, 6, .inr (.inr (.inr (.inr (qfL ([]))))))), (b8, .inl (ca 2, 2, .inr (.inr (.inr (.inr (qsF none none)))))), (b11, .inr (2, [.ref b12, .int (nI 0)])), (b12, .inl (ca 0, 40, .inl (fun _ => 0))), (b13, .inr (1, [.ref b14, .ref b16, .int (nI 1), .int (-1), .int (nI 0)])), (b14, .inr (2, [.ref b15, .int (nI 0)])), (b15, .inl (ca 0, 200, .inl (fun _ => 0))), (b16, .inr (2, [.ref b17, .int (nI 0)])), (b17, .inl (ca 0, 40, .inl (fun _ => 0))), (b18, .inr (4, [.ref b19])), (b19, .inr (2, [.ref b20, .int (nI 0)])), (b20, .inl (ca 0, 200, .inl (fun _ => 0))), (b21, .inr (2, [.ref b22, .int (nI 0)])), (b22, .inl (ca 0, 20, .inl (fun _ => 0))), (b23, .inr (2, [.ref b24, .int (nI 0)])), (b24, .inl (ca 0, 200, .inl (fun _ => 0))), (b25, .inr (2, [.ref b26, .int (nI 0)])), (b26, .inl (ca 0, 46, .inl (fun _ => 0)))] := by rw [qsF_nil, qfL_nil]; exact hD2
    exact h9
  have hAd : ∃ Ad : CA, Ad.1 = oc ∧ va_P D vwCl (cW ca Ad ((10, nI 75, nI 50, nI 0, 0, 0, fun _ => 0, fun _ => 0), ([], 0), (none, none), (fun _ => 0, 0), (nI 1, -1, nI 0, fun _ => 0, 0, fun _ => 0, 0), (fun _ => 0, 0), (fun _ => 0, 0), (fun _ => 0, 0), (fun _ => 0, 0))) H1 ∧ va_D (fun q : Nat => s.heap.size ≤ q) (cW ca Ad ((10, nI 75, nI 50, nI 0, 0, 0, fun _ => 0, fun _ => 0), ([], 0), (none, none), (fun _ => 0, 0), (nI 1, -1, nI 0, fun _ => 0, 0, fun _ => 0, 0), (fun _ => 0, 0), (fun _ => 0, 0), (fun _ => 0, 0), (fun _ => 0, 0))) := ⟨(oc, b1, b8, b9, b11, b13, b18, b21, b23, b25, b2, b3, b4, b5, b6, b7, b10, b12, b14, b15, b16, b17, b19, b20, b22, b24, b26), rfl, hP, hD⟩
  obtain ⟨Ad, rfl, hP, hD⟩ := hAd
  have hGo : ∃ g : CG, okCg g ∧ abC g = (s0I, [], (none : Option S6), (none : Option S6), []) ∧ va_P D vwCl (cW ca Ad g) H1 ∧ va_D (fun q : Nat => s.heap.size ≤ q) (cW ca Ad g) := ⟨_, g0_ok, g0_ab, hP, hD⟩
  obtain ⟨g, hg, ha, hP, hD⟩ := hGo
  have hs0 : okE (56000 + 999 * ((0 : Nat) : Int)) s0I := okE_mono (by omega) s0_ok
  have hts := htsL
  have hzz : s0I.1 ≤ 30 := okE_z s0_ok
  refine lv_astore_n (lv' := [(1, .ref Ad.1), (0, .ref b)]) hx hb dL_law_7 rfl hl (by decide) rfl (fun ls hl => ?_)
  refine W.widen (k := 64) (n := 4096) (kk_le rfl) (kk_le rfl) ?_
  refine lv_aload_n hx hb dL_law_8 rfl (lv_at hl 0 rfl) ?_
  have hFc := my_free0 hD hS hA
  refine va_calll (va_runS (As := [.ref Ad.1]) (rest := []) ⟨hx, hb, hml, hown, hts⟩ (kL_told l D ca H1.size Ad g (s0I, [], (none : Option S6), (none : Option S6), []) hg ha hzz) (va_cwS 1 hts gL_law_L_told rfl rfl rfl (by decide +kernel) ⟨kk_le rfl, kk_le rfl⟩) (psZ hK hP (my_D_true hD) (hZ.at hS hFc)) rfl rfl hl.1 rfl (lv_room (kk_le rfl)) dL_law_9 ⟨kk_le rfl, kk_le rfl⟩) hS (fun q _ h => hFc q h) hFc (fun z11 g11 t H11 locs11 ht hvm hw11 hB11 hs11 hk11 hS => ?_)
  obtain ⟨hP, hD11⟩ := hB11
  rw [ht] at hP
  have hD := my_up hD11 hFc
  obtain ⟨⟨hz11, ha⟩, hg⟩ := hw11
  subst hz11
  refine lv_lstore_n (lv' := [(2, .long (toldF s0I)), (1, .ref Ad.1), (0, .ref b)]) hx hb dL_law_12 rfl hl (by decide) rfl (fun ls hl => ?_)
  refine lv_aload_n hx hb dL_law_13 rfl (lv_at hl 1 rfl) ?_
  refine lv_iconst (v := nI 0) hx hb dL_law_14 (by decide) ?_
  have hFc := my_free0 hD hS hA
  have hQ9 : R_keep (s0I, [], (none : Option S6), (none : Option S6), []) (nI 0) = (nI 0, nI 0, (s0I, [], some s0I, (none : Option S6), [])) := R_keep_0 s0I [] (none : Option S6) (none : Option S6) []
  refine va_calli (va_runV (As := [.int (nI 0)]) (rest := []) ⟨hx, hb, hml, hown, hts⟩ (cE_keep l D ca H11.size Ad g11 (nI 0) hg (zz_of ha hzz) (no_of (F := (fun s9 => R_keep s9 (nI 0))) ha hQ9)) (cwV 1 hts gL_law_X5_keep rfl rfl rfl (by decide +kernel) ⟨kk_le rfl, kk_le rfl⟩) (pvZ hK hP (my_D_true hD) (hZ.at hS hFc) (cW_rc hK hP)) rfl rfl hl.1 rfl (lv_room (kk_le rfl)) dL_law_15 ⟨kk_le rfl, kk_le rfl⟩) hS (fun q _ h => hFc q h) hFc (fun z12 g12 t H12 locs12 ht hvm hw12 hB12 hs12 hk12 hS => ?_)
  obtain ⟨hP, hD12⟩ := hB12
  rw [ht] at hP
  have hD := my_up hD12 hFc
  obtain ⟨hw12, hg⟩ := hw12
  obtain ⟨hz12, ha⟩ := rt_get (F := (fun s9 => R_keep s9 (nI 0))) ha hQ9 hw12
  subst hz12
  refine ni_if_eq (tgt := 23) (by omega) hx hb dL_law_18 (by decide) (fun c13 => ?_) (fun c13 => absurd c13 (by decide))
  refine lv_iconst (v := nI 0) hx hb dL_law_23 (by decide) ?_
  refine lv_istore (lv' := [(4, .int (nI 0)), (2, .long (toldF s0I)), (1, .ref Ad.1), (0, .ref b)]) hx hb dL_law_24 hl (by decide) rfl (fun ls hl => ?_)
  refine W.widen (k := 128 + 64 * 0) (n := 8192 + 4096 * 0) (kk_le rfl) (kk_le rfl) ?_
  refine law_loop hL hx hb hml hown htsL hX hbl hK hZ (fun H9 locs9 ls9 i9 hi9 hlc => ?_) 19 0 (by omega) (Nat.zero_le _) _ s0I s0I [] [] hg ha hs0 (fun x hx => nomatch hx) hs0 _ _ _ hP hD hS (lv_sub hl [0, 1, 2, 3] rfl)
  refine lv_iconst (v := nI 1) hx hb dL_law_312 (by decide) ?_
  refine va_forget hlc ?_
  refine W.widen (k := 600172) (n := 7300668) (by omega) (by omega) ?_
  refine W.base ?_
  exact lw_ret (d0 := s.drawn) (Drawn.sameBut.refl s.drawn lw_cs) hx hb hr hlocks dL_law_313
-- ===== YOUR PART ENDS =====
set_option maxHeartbeats 4000000 in
theorem lw_walk (l : Launch) (hflags : l.flags = flags0) (b : Addr) (xs : List Int32) : MetFree l x (headSpec (Jvm.Cond.code x code maxLocals ret :: tables_1) room_1) (lw_P b xs) (fun _ _ _ _ _ => True) lw_Q := by
  refine MetFree.of_bodyS (code := code) (maxLocals := maxLocals) (ret := ret) (by decide) ?_ ?_
  · intro args s m h hn
    obtain ⟨meth, c, h1, h2, h3, h4, h5, h6, -, -⟩ := Cond.code_spec hn (atoms_spec (ws := Jvm.Cond.code x code maxLocals ret :: tables_1) h _ List.mem_cons_self)
    exact ⟨meth, c, h1, h2, h3, h4, h5, h6⟩
  · intro p e s m args below meth c s₁ B hml0 hP _
    obtain ⟨rfl, hx, hbd, hgv⟩ := hP
    obtain ⟨scr, harrAt, hlist, hof, hsmall⟩ := hx
    obtain ⟨hcb, hkn, -, -⟩ := State.arrayAt?_spec harrAt
    have hown : s.vm.findClass R_law = some m.cls := findClass_of_methodNamed B.named
    have hts0 : ∀ c ∈ (Jvm.Cond.code x code maxLocals ret :: tables_1), c.before #[Value.ref b] s = true := atoms_spec (ws := Jvm.Cond.code x code maxLocals ret :: tables_1) B.pre
    have hts : ∀ w ∈ lw_tbl, w.before #[Value.ref b] s = true := k2_hts_sels lw_privs (fun w hw => hts0 w (List.mem_cons_of_mem _ hw)) lw_privs_ok
    have hml : c.maxLocals = 13 := B.maxLocals_eq (hts0 _ List.mem_cons_self)
    have X₀ : Stand p l e room_1 s m #[Value.ref b] below meth c s₁ [] 0 0 := Stand.of_body B
    have hh0 : s₁.heap = s.heap := by rw [B.state]; rfl
    have hsz : scr.slots.size = xs.length := by rw [← Array.length_toList, hlist, List.length_map]
    have hval : ∀ j : Nat, j < xs.length → scr.slots[j]? = some (.int (xs.getD j 0)) := fun j hj => by
      rw [← Array.getElem?_toList, hlist]
      simp [hj]
    have hbl : b < s.heap.size := (Array.getElem?_eq_some_iff.mp hcb).1
    have hX : va_X b xs.length (fun j => xs.getD j 0) s s.heap := ⟨scr, hcb, hof, hkn, hsz, hval⟩
    have K : W p l e room_1 s m #[Value.ref b] below meth c s₁.heap [] 0 0 (lw_Z below #[Value.ref b] s) (entryFrame m ([Value.ref b] : List Value).toArray 13) := by
      rw [hh0]
      exact whole_start l hflags hbd ⟨B.exec, B.bytes, B.returns, hml, hown, hts, hX, hbl, B.notSynchronized, hgv⟩
    obtain ⟨t, a1, o, b1, b2, b3⟩ := K s₁ rfl X₀
    exact ⟨t, o, a1, b1, b2, b3⟩
theorem lw_pre_spec {args : Array Value} {s : State} (h : (Jvm.Cond.and given_1 narrow_1).before args s = true) (hr : rest_1_c.before args s = true) : ∃ (b : Addr) (xs : List Int32), lw_P b xs args s := by
  have hs := flat_of_before _ h
  have hq := flat_of_before _ hr
  have hc : (Cond.count 1).before args s = true := hs _ (by decide +kernel)
  have harr : (Cond.arrayOf (.arg 0) .int).before args s = true := hs _ (by decide +kernel)
  have hle : (Cond.le (.length (.arg 0)) (.int 260)).before args s = true := hs _ (by decide +kernel)
  have hlen : (Cond.isInt (.length (.arg 0))).before args s = true := hq _ (by decide +kernel)
  have hall : (Cond.all (.arg 0) (.isInt (.elem (.arg 0) (.index 0)))).before args s = true := hq _ (by decide +kernel)
  obtain ⟨b, xs, hb, hx⟩ := State.ints_of_pre rfl harr hlen hall
  have hsm : xs.length < 2 ^ 31 := hx.choose_spec.2.2.2
  have hev : (Term.length (.arg 0)).eval args s none [] s = some (.int xs.length.toInt32) := hx.length_eval hb
  have hv := Cond.le_ints hev (show (Term.int 260).eval args s none [] s = some (.int 260) from rfl)
  have hd : xs.length.toInt32 ≤ 260 := by
    simpa [Cond.before, Cond.holds, hv] using hle
  have hN : xs.length ≤ 260 := (Int32.ofNat_le_ofNat hsm (by decide)).mp (show Int32.ofNat xs.length ≤ Int32.ofNat 260 from hd)
  exact ⟨b, xs, Cond.one_arg hc (show args[0]? = some (.ref b) from hb), hx, hN, h⟩
theorem lw_comes (l : Launch) (hflags : l.flags = flags0) : Comes l x (Jvm.Cond.code x code maxLocals ret :: tables_1) room_1 (fun tb e args s => Calls_1 tb e args s ∧ rest_1 tb e args s ∧ Pre_1 tb e args s)
    (fun _ _ args s o t => lw_Q args s o t) := by
  intro p e ha hc hk s m args below hf hfit hheap happ hpre
  obtain ⟨b, xs, hP⟩ := lw_pre_spec hpre.2.2 hpre.2.1
  obtain ⟨k, o, h1, h2, h3, hQ⟩ := lw_walk l hflags b xs p e ha hc hk s m args below hf ((Spec.applies_iff_loose hf).mp happ).1 hP trivial
  exact ⟨k, o, h1, h2, h3, hQ⟩
theorem lw_frame {s t : State} {o : Outcome} {args : Array Value} (h : State.butDraws s t lw_cs (fun t1 => Framed s o t1 [] 600172 7300668)) :
    State.butDraws s t [Jvm.Choice.named "NaN.bits"] (fun t1 => Framed s o t1 (fieldLocs frame_1_writes args s ++ arrayLocs frame_1_arrays args s ++ staticLocs frame_1_statics s) 600172 7300668) := h
theorem lw_limb (L : Cond) (hL : ∀ (args : Array Value) (s t : State), L.after args s (.returned (some (.int 1))) t = true) :
    ArmFor flags0 classFile x code maxLocals ret World_1 tables_1 room_1 Calls_1 rest_1 Pre_1
      (fun tb e a s o t => postC L tb e a s o t ∧ State.butDraws s t [Jvm.Choice.named "NaN.bits"] (fun t1 => Framed s o t1 (fieldLocs frame_1_writes a s ++ arrayLocs frame_1_arrays a s ++ staticLocs frame_1_statics s) 600172 7300668)) := by
  intro l hflags _ _ p e ha hc hk s m args below hf hfit hheap happ hpre
  obtain ⟨k, o, h1, h2, h3, rfl, hF⟩ := lw_comes l hflags p e ha hc hk s m args below hf hfit hheap happ hpre
  exact ⟨k, _, h1, h2, h3, hL args s _, lw_frame hF⟩
theorem i_vc : Claimed_1_1 ∧ Claimed_1_2 := ⟨lw_limb limb_1_1 (fun args s t => by simp [limb_1_1, Cond.after, Cond.holds, Cond.value]), lw_limb limb_1_2 (fun args s t => Cond.after_iff.mpr (by
  first | (rw [show limb_1_2 = Cond.eq .result (.int 1) from rfl, Cond.eq_ints (x := 1) (y := 1) rfl rfl]; simp; done) | (simp [limb_1_2, Cond.value, Term.eval]; done)))⟩
