theorem qfL_app {L1 L2 : List (SAd × SVl)} {x y : SAd × SVl} (h : x.1.1 = y.1.1) : qfL (L1 ++ x :: L2) = qfL (L1 ++ y :: L2) := by
  funext i
  unfold qfL
  rcases Nat.lt_trichotomy i L1.length with q | q | q
  · rw [List.getElem?_append_left q, List.getElem?_append_left q]
  · subst q; rw [List.getElem?_append_right (Nat.le_refl _), List.getElem?_append_right (Nat.le_refl _), Nat.sub_self]
    show some x.1.1 = some y.1.1
    rw [h]
  · rw [List.getElem?_append_right (by omega), List.getElem?_append_right (by omega)]
    obtain ⟨k, hk⟩ : ∃ k, i - L1.length = k + 1 := ⟨i - L1.length - 1, by omega⟩
    rw [hk]; rfl
theorem qfL_at {L1 L2 : List (SAd × SVl)} {x : SAd × SVl} : qfL (L1 ++ x :: L2) L1.length = some x.1.1 := by
  unfold qfL; rw [List.getElem?_append_right (Nat.le_refl _), Nat.sub_self]; rfl
theorem qfL_none {L : List (SAd × SVl)} : qfL L L.length = none := by
  unfold qfL; rw [List.getElem?_eq_none (Nat.le_refl _)]; rfl
theorem qfL_push {L : List (SAd × SVl)} {x : SAd × SVl} : va_up (qfL L) L.length (some x.1.1) = qfL (L ++ [x]) := by
  funext i
  unfold qfL va_up
  rcases Nat.lt_trichotomy i L.length with q | q | q
  · rw [if_neg (by omega), List.getElem?_append_left q]
  · subst q; rw [if_pos rfl, List.getElem?_append_right (Nat.le_refl _), Nat.sub_self]; rfl
  · have e1 : L[i]? = none := List.getElem?_eq_none (by omega)
    have e2 : (L ++ [x])[i]? = none := List.getElem?_eq_none (by simp; omega)
    rw [if_neg (by omega)]
    show (L[i]?).map _ = ((L ++ [x])[i]?).map _
    rw [e1, e2]
theorem qfL_rot {x : SAd × SVl} {L : List (SAd × SVl)} (h : L.length = 5) : rotQ (qfL (x :: L)) = qfL (L ++ [x]) := by
  funext i
  unfold rotQ qfL
  rcases Nat.lt_trichotomy i 5 with q | q | q
  · rw [if_pos q, List.getElem?_append_left (by omega)]; rfl
  · subst q; rw [if_neg (by omega), if_pos rfl, List.getElem?_append_right (by omega), h]; rfl
  · rw [if_neg (by omega), if_neg (by omega), List.getElem?_eq_none (by simp only [List.length_cons]; omega), List.getElem?_eq_none (by rw [List.length_append]; simp only [List.length_cons, List.length_nil]; omega)]
theorem RSW_app {ca : Nat → ClassId} (L1 L2 : List (SAd × SVl)) : RSW ca (L1 ++ L2) = RSW ca L1 ++ RSW ca L2 := by unfold RSW; rw [List.flatMap_append]
theorem RSW_cons {ca : Nat → ClassId} (x : SAd × SVl) (L : List (SAd × SVl)) : RSW ca (x :: L) = stW ca x.1 x.2 ++ RSW ca L := rfl
/-- the history behind a save -/
def svOK (L : List (SAd × SVl)) (dp : Nat) (v : SVl) (L' : List (SAd × SVl)) (dp' : Nat) : Prop := L'.length ≤ 6 ∧ dp' ≤ L'.length ∧ (∀ x ∈ L', okV x.2) ∧ (L'.map fun x => abV x.2).take dp' = svL ((L.map fun x => abV x.2).take dp) (abV v)
theorem tk1 {α : Type} (A B : List α) (y : α) : (A ++ y :: B).take (A.length + 1) = A ++ [y] := by simp [List.take_append, List.take_of_length_le]
theorem tk0 {α : Type} (A B : List α) : (A ++ B).take A.length = A := by simp
theorem svOK_old {L1 L2 : List (SAd × SVl)} {x : SAd × SVl} {v : SVl} (h6 : (L1 ++ x :: L2).length ≤ 6) (hv : okV v) (hok : ∀ y ∈ L1 ++ x :: L2, okV y.2) (hd : L1.length < 6) : svOK (L1 ++ x :: L2) L1.length v (L1 ++ (x.1, cpV x.2 v) :: L2) (L1.length + 1) := by
  refine ⟨by simpa using h6, by simp, fun y hy => ?_, ?_⟩
  · rcases List.mem_append.mp hy with hy | hy
    · exact hok y (List.mem_append_left _ hy)
    · rcases List.mem_cons.mp hy with rfl | hy
      · exact okV_cp hv
      · exact hok y (List.mem_append_right _ (List.mem_cons_of_mem _ hy))
  · rw [List.map_append, List.map_append, List.map_cons, List.map_cons, abV_cp]
    have e0 : L1.length = (L1.map fun x => abV x.2).length := (List.length_map _).symm
    rw [e0, tk1, tk0]
    unfold svL
    rw [if_neg (by rw [List.length_map]; omega)]
theorem svOK_new {L : List (SAd × SVl)} {a : SAd} {v v0 : SVl} (h6 : L.length < 6) (hv : okV v) (hok : ∀ y ∈ L, okV y.2) : svOK L L.length v (L ++ [(a, cpV v0 v)]) (L.length + 1) := by
  refine ⟨by simp; omega, by simp, fun y hy => ?_, ?_⟩
  · rcases List.mem_append.mp hy with hy | hy
    · exact hok y hy
    · rw [List.mem_singleton.mp hy]; exact okV_cp hv
  · rw [List.map_append, List.map_cons, List.map_nil, abV_cp, List.take_of_length_le (by simp), List.take_of_length_le (by simp)]
    unfold svL
    rw [if_neg (by simp; omega)]
theorem svOK_full {L : List (SAd × SVl)} {x : SAd × SVl} {v : SVl} (h5 : L.length = 5) (hv : okV v) (hok : ∀ y ∈ x :: L, okV y.2) : svOK (x :: L) 6 v (L ++ [(x.1, cpV x.2 v)]) 6 := by
  refine ⟨by simp; omega, by simp; omega, fun y hy => ?_, ?_⟩
  · rcases List.mem_append.mp hy with hy | hy
    · exact hok y (List.mem_cons_of_mem _ hy)
    · rw [List.mem_singleton.mp hy]; exact okV_cp hv
  · rw [List.map_append, List.map_cons, List.map_nil, abV_cp, List.take_of_length_le (by simp; omega), List.take_of_length_le (by simp; omega)]
    unfold svL
    rw [if_pos (by simp; omega)]
    rfl
theorem pm_3 {α : Type} (h w a x : List α) : (h ++ w ++ (a ++ x)).Perm (h ++ w ++ x ++ a) := by
  rw [List.append_assoc (h ++ w)]
  exact List.Perm.append_left _ List.perm_append_comm
theorem my_hasRoom {s : State} {pl : Platform} {r r' : Room} (hf : r.frames ≤ r'.frames) (hl : r.locals ≤ r'.locals) (hc : r.cells ≤ r'.cells) (hs : r.slots ≤ r'.slots) (h : s.hasRoom pl r' = true) : s.hasRoom pl r = true := by
  simp only [State.hasRoom, Bool.and_eq_true, decide_eq_true_eq] at h ⊢
  obtain ⟨⟨⟨⟨y, a, b, c, d, e⟩, f⟩, g⟩, i⟩ := h
  exact ⟨⟨⟨⟨by omega, by omega, by omega, by omega, by omega, e⟩, by omega⟩, by omega⟩, i⟩
theorem my_respec {l : Launch} {x : MethodName} {S S' : Spec} {P : Array Value → State → Prop} {K : Program → Env → List Frame → State → Array Value → Prop} {Q : Array Value → State → Outcome → State → Prop}
    (h : MetFree l x S P K Q) (hpre : ∀ a s, S'.pre.before a s = true → S.pre.before a s = true) (hf : S.room.frames ≤ S'.room.frames) (hl : S.room.locals ≤ S'.room.locals) (hc : S.room.cells ≤ S'.room.cells) (hs : S.room.slots ≤ S'.room.slots) : MetFree l x S' P K Q := by
  intro p e ha hcs hk s m args below hfr happ hP hK
  obtain ⟨a1, a2, a3, a4, a5, a6, a7, a8⟩ := (Spec.appliesLoose_iff hfr).mp happ
  exact h p e ha hcs hk s m args below hfr ((Spec.appliesLoose_iff hfr).mpr ⟨a1, a2, a3, a4, a5, a6, my_hasRoom hf hl hc hs a7, hpre _ _ a8⟩) hP hK
theorem my_room {l : Launch} {y : MethodName} {ws : List Cond} {rm rm' : Room} {Pc : Array Value → State → Prop} {Qc : Array Value → State → Outcome → State → Prop} {mc ms : Nat} {fr : Addr → Prop} (h : Met l y ws rm Pc Qc mc ms fr)
    (hf : rm.frames ≤ rm'.frames) (hl : rm.locals ≤ rm'.locals) (hc : rm.cells ≤ rm'.cells) (hs : rm.slots ≤ rm'.slots) : Met l y ws rm' Pc Qc mc ms fr := my_respec h (fun _ _ h => h) hf hl hc hs
def HW (ca : Nat → ClassId) (h ha dp : Nat) (qf : Nat → Option Nat) : va_W := [(h, .inr (0, [.ref ha, .int (nI dp)])), (ha, .inl (ca 2, 6, .inr (.inr (.inr (.inr qf)))))]
def svW (ca : Nat → ClassId) (h ha : Nat) (a : SAd) (v : SVl) (L : List (SAd × SVl)) (dp : Nat) : va_W := HW ca h ha dp (qfL L) ++ stW ca a v ++ RSW ca L
theorem pm_4 {α : Type} {h n x y o r : List α} (hy : y.Perm (o ++ r)) : (h ++ n ++ (x ++ y)).Perm (h ++ x ++ o ++ n ++ r) := by
  refine (List.Perm.append_left _ (List.Perm.append_left _ hy)).trans ?_
  have e1 : h ++ n ++ (x ++ (o ++ r)) = h ++ (n ++ (x ++ o)) ++ r := by simp [List.append_assoc]
  have e2 : h ++ x ++ o ++ n ++ r = h ++ ((x ++ o) ++ n) ++ r := by simp [List.append_assoc]
  rw [e1, e2]
  exact List.Perm.append_right r (List.Perm.append_left h List.perm_append_comm)
theorem pm_5 {α : Type} {h n x y o r : List α} (hy : y.Perm (o ++ r)) : (h ++ n ++ (y ++ (x ++ []))).Perm (h ++ x ++ o ++ n ++ r) := by
  rw [List.append_nil]
  exact (List.Perm.append_left _ List.perm_append_comm).trans (pm_4 hy)
theorem six_of {α : Type} {L : List α} (h : L.length = 6) : ∃ x y1 y2 y3 y4 y5, L = [x, y1, y2, y3, y4, y5] := by
  match L, h with
  | [x, y1, y2, y3, y4, y5], _ => exact ⟨x, y1, y2, y3, y4, y5, rfl⟩
def oT (x : SAd × SVl) : Nat × va_E := (x.1.1, .inr (3, [.ref x.1.2.1, .ref x.1.2.2.2.1, .ref x.1.2.2.2.2.2.1]))
def rT (ca : Nat → ClassId) : SAd × SVl → va_W := fun x => [(x.1.2.1, .inr (2, [.ref x.1.2.2.1, .int (nI x.2.2.2.2.2.1)])), (x.1.2.2.1, .inl (ca 0, 200, .inl x.2.2.2.2.2.2.2.2)), (x.1.2.2.2.1, .inr (2, [.ref x.1.2.2.2.2.1, .int (nI x.2.2.2.2.2.2.1)])), (x.1.2.2.2.2.1, .inl (ca 0, 20, .inl x.2.2.2.2.2.2.2.1)), (x.1.2.2.2.2.2.1, .inr (2, [.ref x.1.2.2.2.2.2.2, .int (nI 4)])), (x.1.2.2.2.2.2.2, .inl (ca 0, 4, .inl (seF x.2.1 x.2.2.1 x.2.2.2.1 x.2.2.2.2.1)))]
theorem kX0_saveU (l : Launch) (D : va_G) (ca : Nat → ClassId) (sz : Nat) (h ha : Nat) (L : List (SAd × SVl)) (dp : Nat) (a : SAd) (v : SVl) (h6 : L.length ≤ 6) (hdp : dp ≤ L.length) (hok : ∀ x ∈ L, okV x.2) (hv : okV v) :
    Met l yX0_save wsX0_save rm_kX0_save_new (pcZ D ca [.ref h, .ref a.1] (svW ca h ha a v L dp) sz) (va_Qv (fun u : List (SAd × SVl) × Nat => svOK L dp v u.1 u.2) (qB D (va_A (svW ca h ha a v L dp) sz) (fun u => svW ca h ha a v u.1 u.2)) (va_A (svW ca h ha a v L dp) sz)) 7 233 (va_A (svW ca h ha a v L dp) sz) := by
  obtain ⟨o, x1, x2, y1', y2', v1, v2⟩ := a
  obtain ⟨z2, r2, f2, j2, nt2, nl2, gl2, gt2⟩ := v
  rcases Nat.lt_or_ge dp L.length with hlt | hge
  · obtain ⟨L1, L2', rfl, rfl⟩ : ∃ L1 L2, L = L1 ++ L2 ∧ L1.length = dp := ⟨L.take dp, L.drop dp, (List.take_append_drop dp L).symm, by rw [List.length_take]; omega⟩
    cases L2' with
    | nil => rw [List.append_nil] at hlt; exact absurd hlt (Nat.lt_irrefl _)
    | cons x L2 =>
      obtain ⟨⟨q, t1, t2, l1, l2, g1, g2⟩, z, r, f, j, nt, nl, gl, gt⟩ := x
      have hx : okV (z, r, f, j, nt, nl, gl, gt) := hok _ (List.mem_append_right _ List.mem_cons_self)
      have hd6 : L1.length < 6 := by omega
      have e : qfL (L1 ++ ((q, t1, t2, l1, l2, g1, g2), cpV (z, r, f, j, nt, nl, gl, gt) (z2, r2, f2, j2, nt2, nl2, gl2, gt2)) :: L2) = qfL (L1 ++ ((q, t1, t2, l1, l2, g1, g2), z, r, f, j, nt, nl, gl, gt) :: L2) := qfL_app rfl
      refine my_frV (wr := RSW ca L1 ++ RSW ca L2) (my_room (kX0_save_old l D ca sz h ha (qfL (L1 ++ ((q, t1, t2, l1, l2, g1, g2), z, r, f, j, nt, nl, gl, gt) :: L2)) L1.length q t1 t2 l1 l2 g1 g2 o x1 x2 y1' y2' v1 v2 z r f j nt nl gl gt z2 r2 f2 j2 nt2 nl2 gl2 gt2 hd6 qfL_at hx.1 hx.2 hv.1 hv.2) (by decide) (by decide) (by decide) (by decide)) ?_ (fun _ _ => ⟨(_, _), svOK_old h6 hv hok hd6, ?_⟩)
      · unfold svW; rw [RSW_app, RSW_cons]; exact pm_1 _ _ _ _ _
      · unfold svW; rw [e, RSW_app, RSW_cons]; exact pm_1 _ _ _ _ _
  · obtain rfl : dp = L.length := Nat.le_antisymm hdp hge
    rcases Nat.lt_or_ge L.length 6 with h6' | h6'
    · refine my_frV (wr := RSW ca L) (kX0_save_new l D ca sz h ha (qfL L) L.length o x1 x2 y1' y2' v1 v2 z2 r2 f2 j2 nt2 nl2 gl2 gt2 h6' qfL_none hv.1 hv.2) ?_ (fun u _ => ⟨(L ++ [((u.1, u.2.1, u.2.2.1, u.2.2.2.1, u.2.2.2.2.1, u.2.2.2.2.2.1, u.2.2.2.2.2.2), cpV (0, 0, 0, 0, 0, 0, fun _ => 0, fun _ => 0) (z2, r2, f2, j2, nt2, nl2, gl2, gt2))], L.length + 1), svOK_new h6' hv hok, ?_⟩)
      · exact List.Perm.refl _
      · unfold svW; rw [← qfL_push, RSW_app]; exact pm_3 _ _ _ _
    · obtain ⟨x, y1, y2, y3, y4, y5, rfl⟩ := six_of (Nat.le_antisymm h6 h6')
      have hx : okV x.2 := hok _ List.mem_cons_self
      have e1 : (RSW ca [y1, y2, y3, y4, y5]).Perm ([y1, y2, y3, y4, y5].map oT ++ [y1, y2, y3, y4, y5].flatMap (rT ca)) := pm_2 oT (rT ca) [y1, y2, y3, y4, y5]
      have e2 : qfL ([y1, y2, y3, y4, y5] ++ [(x.1, cpV x.2 (z2, r2, f2, j2, nt2, nl2, gl2, gt2))]) = rotQ (qfL [x, y1, y2, y3, y4, y5]) := ((qfL_rot (x := x) (L := [y1, y2, y3, y4, y5]) rfl).trans (qfL_app (L1 := [y1, y2, y3, y4, y5]) (L2 := []) (x := x) (y := (x.1, cpV x.2 (z2, r2, f2, j2, nt2, nl2, gl2, gt2))) rfl)).symm
      refine my_frV (wr := [y1, y2, y3, y4, y5].flatMap (rT ca)) (my_room (kX0_save_full l D ca sz h ha (qfL [x, y1, y2, y3, y4, y5]) x.1.1 x.1.2.1 x.1.2.2.1 x.1.2.2.2.1 x.1.2.2.2.2.1 x.1.2.2.2.2.2.1 x.1.2.2.2.2.2.2 y1.1.1 y2.1.1 y3.1.1 y4.1.1 y5.1.1 y1.1.2.1 y1.1.2.2.2.1 y1.1.2.2.2.2.2.1 y2.1.2.1 y2.1.2.2.2.1 y2.1.2.2.2.2.2.1 y3.1.2.1 y3.1.2.2.2.1 y3.1.2.2.2.2.2.1 y4.1.2.1 y4.1.2.2.2.1 y4.1.2.2.2.2.2.1 y5.1.2.1 y5.1.2.2.2.1 y5.1.2.2.2.2.2.1 o x1 x2 y1' y2' v1 v2 x.2.1 x.2.2.1 x.2.2.2.1 x.2.2.2.2.1 x.2.2.2.2.2.1 x.2.2.2.2.2.2.1 x.2.2.2.2.2.2.2.1 x.2.2.2.2.2.2.2.2 z2 r2 f2 j2 nt2 nl2 gl2 gt2 rfl rfl rfl rfl rfl rfl hx.1 hx.2 hv.1 hv.2) (by decide) (by decide) (by decide) (by decide)) ?_ (fun _ _ => ⟨([y1, y2, y3, y4, y5] ++ [(x.1, cpV x.2 (z2, r2, f2, j2, nt2, nl2, gl2, gt2))], 6), svOK_full rfl hv hok, ?_⟩)
      · have e3 : (HW ca h ha 6 (qfL [x, y1, y2, y3, y4, y5]) ++ stW ca (o, x1, x2, y1', y2', v1, v2) (z2, r2, f2, j2, nt2, nl2, gl2, gt2) ++ (stW ca x.1 x.2 ++ RSW ca [y1, y2, y3, y4, y5])).Perm (HW ca h ha 6 (qfL [x, y1, y2, y3, y4, y5]) ++ stW ca x.1 x.2 ++ [y1, y2, y3, y4, y5].map oT ++ stW ca (o, x1, x2, y1', y2', v1, v2) (z2, r2, f2, j2, nt2, nl2, gl2, gt2) ++ [y1, y2, y3, y4, y5].flatMap (rT ca)) := pm_4 e1
        exact e3
      · have e3 : (HW ca h ha 6 (rotQ (qfL [x, y1, y2, y3, y4, y5])) ++ stW ca (o, x1, x2, y1', y2', v1, v2) (z2, r2, f2, j2, nt2, nl2, gl2, gt2) ++ (RSW ca [y1, y2, y3, y4, y5] ++ (stW ca x.1 (cpV x.2 (z2, r2, f2, j2, nt2, nl2, gl2, gt2)) ++ []))).Perm (HW ca h ha 6 (rotQ (qfL [x, y1, y2, y3, y4, y5])) ++ stW ca x.1 (cpV x.2 (z2, r2, f2, j2, nt2, nl2, gl2, gt2)) ++ [y1, y2, y3, y4, y5].map oT ++ stW ca (o, x1, x2, y1', y2', v1, v2) (z2, r2, f2, j2, nt2, nl2, gl2, gt2) ++ [y1, y2, y3, y4, y5].flatMap (rT ca)) := pm_5 e1
        unfold svW
        rw [e2, RSW_app]
        exact e3
