theorem perm_ix {α : Type} {E W : List α} {n : Nat} (is : List Nat) (h : is.map (fun i => E[i]?) = W.map some) (hn : E.length = n) (hp : is.Perm (List.range n)) : E.Perm W := by
  subst hn
  have e1 : (List.range E.length).map (fun i => E[i]?) = E.map some := by
    apply List.ext_getElem?
    intro i
    rw [List.getElem?_map, List.getElem?_map]
    rcases Nat.lt_or_ge i E.length with q | q
    · rw [List.getElem?_range q, List.getElem?_eq_getElem q]
      show some (E[i]?) = some (some E[i])
      rw [List.getElem?_eq_getElem q]
    · rw [List.getElem?_eq_none (by rw [List.length_range]; exact q), List.getElem?_eq_none q]; rfl
  have h2 := (hp.map (fun i => E[i]?)).filterMap id
  rw [h, e1] at h2
  have e2 : ∀ L : List α, (L.map some).filterMap id = L := fun L => by rw [List.filterMap_map]; exact List.filterMap_some
  rw [e2, e2] at h2
  exact h2.symm
/-- what a method answers, whatever its kind -/
def QG {α S : Type} (mk : α → Value) (post : α → S → Prop) (B : S → State → Prop) (A : Nat → Prop) : Array Value → State → Outcome → State → Prop := fun _ st oc t => (∃ (r : α) (u : S), oc = .returned (some (mk r)) ∧ post r u ∧ B u t) ∧ va_F A st t
def SG0 {α : Type} (mk : α → Value) (post : α → Prop) : Array Value → State → Outcome → State → Prop := fun _ st oc t => ∃ r : α, oc = .returned (some (mk r)) ∧ post r ∧ t.heap = st.heap
theorem my_frame_mono {st : State} {o : Outcome} {t : State} {L : List Loc} {k n k' n' : Nat} (h : FrameEnd st o t L k n) (hk : k ≤ k') (hn : n ≤ n') : FrameEnd st o t L k' n' := ⟨h.1, h.2.1, h.2.2.mono hk hn⟩
theorem my_mono {l : Launch} {y : MethodName} {ws : List Cond} {rm : Room} {Pc : Array Value → State → Prop} {Qc : Array Value → State → Outcome → State → Prop} {mc ms mc' ms' : Nat} {fr : Addr → Prop} (h : Met l y ws rm Pc Qc mc ms fr) (hk : mc ≤ mc') (hn : ms ≤ ms') : Met l y ws rm Pc Qc mc' ms' fr := by
  intro p e h1 h2 h3 s m args below hs ha hP hK
  obtain ⟨n, o, a, b, c, d, L, d1, d2⟩ := h p e h1 h2 h3 s m args below hs ha hP hK
  exact ⟨n, o, a, b, c, d, L, my_frame_mono d1 hk hn, d2⟩
/-- a contract over its own cells as one over a world that holds them -/
theorem fr_P {α S S' : Type} {mk : α → Value} {l : Launch} {y : MethodName} {ws : List Cond} {rm rm' : Room} {Pc Pc' : Array Value → State → Prop} {D : va_G} {sz : Nat} {post : α → S → Prop} {post' : α → S' → Prop} {wc wr wc' : va_W} {wo : S → va_W} {wo' : S' → va_W} {mc ms mc' ms' : Nat}
    (h : Met l y ws rm Pc (QG mk post (qB D (va_A wc sz) wo) (va_A wc sz)) mc ms (va_A wc sz)) (hpc : ∀ a s, Pc' a s → Pc a s)
    (hpr : ∀ a s, Pc' a s → s.heap.size = sz ∧ va_P D vwCl wc' s.heap ∧ va_D (fun _ => True) wc') (hw : wc'.Perm (wc ++ wr)) (ho : ∀ r u, post r u → ∃ u', post' r u' ∧ (wo' u').Perm (wo u ++ wr))
    (hf : rm.frames ≤ rm'.frames) (hl : rm.locals ≤ rm'.locals) (hc : rm.cells ≤ rm'.cells) (hs : rm.slots ≤ rm'.slots) (hk : mc ≤ mc') (hn : ms ≤ ms') :
    Met l y ws rm' Pc' (QG mk post' (qB D (va_A wc' sz) wo') (va_A wc' sz)) mc' ms' (va_A wc' sz) := by
  refine my_mono (my_room (my_conseq h hpc (fun a s o t hp hq => ?_) (my_AA hw)) hf hl hc hs) hk hn
  obtain ⟨h1, hP, hD⟩ := hpr a s hp
  obtain ⟨⟨r, u, ho1, hpu, hPu, hDu⟩, hF⟩ := hq
  obtain ⟨u', hp', hperm⟩ := ho r u hpu
  obtain ⟨g1, g2⟩ := my_frB hw h1 hP hD hF hPu hDu
  exact ⟨⟨r, u', ho1, hp', my_P_perm g1 hperm.symm, my_D_perm g2 hperm.symm⟩, hF.1, fun q a b => hF.2 q a (fun c => b (my_AA hw q c))⟩
/-- a contract that writes nothing -/
theorem fr_R {α S' : Type} {mk : α → Value} {l : Launch} {y : MethodName} {ws : List Cond} {rm rm' : Room} {Pc Pc' : Array Value → State → Prop} {D : va_G} {sz : Nat} {post : α → Prop} {post' : α → S' → Prop} {wc' : va_W} {wo' : S' → va_W} {mc' ms' : Nat} (u' : S')
    (h : Met l y ws rm Pc (SG0 mk post) 0 0 (fun _ => False)) (hpc : ∀ a s, Pc' a s → Pc a s)
    (hpr : ∀ a s, Pc' a s → s.heap.size = sz ∧ va_P D vwCl wc' s.heap ∧ va_D (fun _ => True) wc') (ho : ∀ r, post r → post' r u') (hwo : wo' u' = wc')
    (hf : rm.frames ≤ rm'.frames) (hl : rm.locals ≤ rm'.locals) (hc : rm.cells ≤ rm'.cells) (hs : rm.slots ≤ rm'.slots) :
    Met l y ws rm' Pc' (QG mk post' (qB D (va_A wc' sz) wo') (va_A wc' sz)) mc' ms' (va_A wc' sz) := by
  refine my_mono (my_room (my_conseq h hpc (fun a s o t hp hq => ?_) (fun q hq => hq.elim)) hf hl hc hs) (Nat.zero_le _) (Nat.zero_le _)
  obtain ⟨h1, hP, hD⟩ := hpr a s hp
  obtain ⟨r, ho1, hpu, hht⟩ := hq
  refine ⟨⟨r, u', ho1, ho r hpu, ?_, ?_⟩, ?_⟩
  · rw [hwo, hht]; exact hP
  · rw [hwo, ← h1]; exact hD.self
  · exact ⟨by rw [hht]; exact Nat.le_refl _, fun q _ _ => by rw [hht]⟩
theorem vx_conseq {l : Launch} {y : MethodName} {ws : List Cond} {rm : Room} {Pc Pc' : Array Value → State → Prop} {Qc Qc' : Array Value → State → Outcome → State → Prop} {XC XC' : String → State → State → Prop} {mc ms : Nat} {fr fr' : Addr → Prop} (h : vx_Met l y ws rm Pc Qc XC mc ms fr)
    (hp : ∀ a s, Pc' a s → Pc a s) (hq : ∀ a s o t, Pc' a s → Qc a s o t → Qc' a s o t) (hx : ∀ a s E t, Pc' a s → XC E s t → XC' E s t) (hf : ∀ q, fr q → fr' q) : vx_Met l y ws rm Pc' Qc' XC' mc ms fr' := by
  intro p e h1 h2 h3 s m args below hs ha hP hK
  obtain ⟨n, o, a, b, c, d⟩ := h p e h1 h2 h3 s m args below hs ha (hp _ _ hP) hK
  refine ⟨n, o, a, b, c, ?_⟩
  rcases d with ⟨d, L, d1, d2⟩ | ⟨q, hq1, E, ce, L, x1, x2, x3, x4, x5, x6, x7⟩
  · exact Or.inl ⟨hq _ _ _ _ hP d, L, d1, fun q hq => hf _ (d2 q hq)⟩
  · exact Or.inr ⟨q, hq1, E, ce, L, hx _ _ _ _ hP x1, x2, x3, x4, x5, x6, fun z hz => hf _ (x7 z hz)⟩
theorem vx_room {l : Launch} {y : MethodName} {ws : List Cond} {rm rm' : Room} {Pc : Array Value → State → Prop} {Qc : Array Value → State → Outcome → State → Prop} {XC : String → State → State → Prop} {mc ms : Nat} {fr : Addr → Prop} (h : vx_Met l y ws rm Pc Qc XC mc ms fr)
    (hf : rm.frames ≤ rm'.frames) (hl : rm.locals ≤ rm'.locals) (hc : rm.cells ≤ rm'.cells) (hs : rm.slots ≤ rm'.slots) : vx_Met l y ws rm' Pc Qc XC mc ms fr := my_respec h (fun _ _ h => h) hf hl hc hs
theorem vx_mono {l : Launch} {y : MethodName} {ws : List Cond} {rm : Room} {Pc : Array Value → State → Prop} {Qc : Array Value → State → Outcome → State → Prop} {XC : String → State → State → Prop} {mc ms mc' ms' : Nat} {fr : Addr → Prop} (h : vx_Met l y ws rm Pc Qc XC mc ms fr) (hk : mc ≤ mc') (hn : ms ≤ ms') : vx_Met l y ws rm Pc Qc XC mc' ms' fr := by
  intro p e h1 h2 h3 s m args below hs ha hP hK
  obtain ⟨n, o, a, b, c, d⟩ := h p e h1 h2 h3 s m args below hs ha hP hK
  refine ⟨n, o, a, b, c, ?_⟩
  rcases d with ⟨d, L, d1, d2⟩ | ⟨q, hq1, E, ce, L, x1, x2, x3, x4, x5, x6, x7⟩
  · exact Or.inl ⟨d, L, my_frame_mono d1 hk hn, d2⟩
  · exact Or.inr ⟨q, hq1, E, ce, L, x1, x2, x3, x4, x5, x6.mono hk hn, x7⟩
/-- a contract that only returns, among those that may throw -/
theorem vx_ofMet {l : Launch} {y : MethodName} {ws : List Cond} {rm : Room} {Pc : Array Value → State → Prop} {Qc : Array Value → State → Outcome → State → Prop} {XC : String → State → State → Prop} {mc ms : Nat} {fr : Addr → Prop} (h : Met l y ws rm Pc Qc mc ms fr) : vx_Met l y ws rm Pc Qc XC mc ms fr := by
  intro p e h1 h2 h3 s m args below hs ha hP hK
  obtain ⟨n, o, a, b, c, d⟩ := h p e h1 h2 h3 s m args below hs ha hP hK
  exact ⟨n, o, a, b, c, Or.inl d⟩
/-- a contract that throws, over a world that holds its cells -/
theorem fr_X {S' : Type} {l : Launch} {y : MethodName} {ws : List Cond} {rm rm' : Room} {Pc Pc' : Array Value → State → Prop} {Q1 Q2 : Array Value → State → Outcome → State → Prop} {D : va_G} {sz : Nat} {E0 : String} {px : S' → Prop} {wc wr wc' wo : va_W} {wo' : S' → va_W} {pE : String → S' → Prop} {mc ms mc' ms' : Nat} (u' : S')
    (h : vx_Met l y ws rm Pc Q1 (vx_X (fun _ : Unit => True) (fun E _ t => E = E0 ∧ va_P D vwCl wo t.heap ∧ va_D (va_A wc sz) wo) (va_A wc sz)) mc ms (va_A wc sz)) (hq1 : ∀ a s o t, ¬ Q1 a s o t) (hpc : ∀ a s, Pc' a s → Pc a s)
    (hpr : ∀ a s, Pc' a s → s.heap.size = sz ∧ va_P D vwCl wc' s.heap ∧ va_D (fun _ => True) wc') (hw : wc'.Perm (wc ++ wr)) (hwo : (wo' u').Perm (wo ++ wr)) (hpx : px u') (hpE : pE E0 u')
    (hf : rm.frames ≤ rm'.frames) (hl : rm.locals ≤ rm'.locals) (hc : rm.cells ≤ rm'.cells) (hs : rm.slots ≤ rm'.slots) (hk : mc ≤ mc') (hn : ms ≤ ms') :
    vx_Met l y ws rm' Pc' Q2 (vx_X px (fun E u t => pE E u ∧ qB D (va_A wc' sz) wo' u t) (va_A wc' sz)) mc' ms' (va_A wc' sz) := by
  refine vx_mono (vx_room (vx_conseq h hpc (fun a s o t _ hq => (hq1 _ _ _ _ hq).elim) (fun a s E t hp hx => ?_) (my_AA hw)) hf hl hc hs) hk hn
  obtain ⟨h1, hP, hD⟩ := hpr a s hp
  obtain ⟨u, -, ⟨hE, hPu, hDu⟩, hF⟩ := hx
  obtain ⟨g1, g2⟩ := my_frB hw h1 hP hD hF hPu hDu
  exact ⟨u', hpx, ⟨hE ▸ hpE, my_P_perm g1 hwo.symm, my_D_perm g2 hwo.symm⟩, hF.1, fun q a b => hF.2 q a (fun c => b (my_AA hw q c))⟩
theorem pZZ {D : va_G} {ca : Nat → ClassId} {av : List Value} {wc wr wc' : va_W} {sz : Nat} (hw : wc'.Perm (wc ++ wr)) : ∀ a s, pcZ D ca av wc' sz a s → pcZ D ca av wc sz a s := fun a s ⟨h0, h1, hP, hK, hD, hZ⟩ =>
  ⟨h0, h1, my_P_left (my_P_perm hP hw), hK, my_D_left (my_D_perm hD hw), hZ.narrow (my_AA hw)⟩
theorem pMM {D : va_G} {ca : Nat → ClassId} {av : List Value} {wc wr wc' : va_W} {sz : Nat} (hw : wc'.Perm (wc ++ wr)) : ∀ a s, pcM D ca av wc' sz a s → pcM D ca av wc sz a s := fun a s ⟨h0, h1, hP, hK, hD⟩ =>
  ⟨h0, h1, my_P_left (my_P_perm hP hw), hK, my_D_left (my_D_perm hD hw)⟩
theorem pZM {D : va_G} {ca : Nat → ClassId} {av : List Value} {wc : va_W} {sz : Nat} : ∀ a s, pcZ D ca av wc sz a s → pcM D ca av wc sz a s := fun a s ⟨h0, h1, hP, hK, hD, _⟩ => ⟨h0, h1, hP, hK, hD⟩
theorem pMR {D : va_G} {ca : Nat → ClassId} {av : List Value} {wc wr wc' : va_W} {sz : Nat} (hw : wc'.Perm (wc ++ wr)) : ∀ a s, pcM D ca av wc' sz a s → pcR D ca av wc a s := fun a s ⟨h0, _, hP, hK, _⟩ => ⟨h0, my_P_left (my_P_perm hP hw), hK⟩
theorem pZ_r {D : va_G} {ca : Nat → ClassId} {av : List Value} {wc : va_W} {sz : Nat} : ∀ a s, pcZ D ca av wc sz a s → s.heap.size = sz ∧ va_P D vwCl wc s.heap ∧ va_D (fun _ => True) wc := fun a s ⟨_, h1, hP, _, hD, _⟩ => ⟨h1, hP, hD⟩
theorem pM_r {D : va_G} {ca : Nat → ClassId} {av : List Value} {wc : va_W} {sz : Nat} : ∀ a s, pcM D ca av wc sz a s → s.heap.size = sz ∧ va_P D vwCl wc s.heap ∧ va_D (fun _ => True) wc := fun a s ⟨_, h1, hP, _, hD⟩ => ⟨h1, hP, hD⟩
/-- blocks of cells, moved -/
theorem pb_T {α : Type} {E C R T : List α} (h : E.Perm (C ++ R)) : (E ++ T).Perm (C ++ (R ++ T)) := by rw [← List.append_assoc]; exact h.append_right T
theorem pb_S {α : Type} {E C Er S0 S1 R : List α} (h : E.Perm (C ++ Er)) : (E ++ (S0 ++ (S1 ++ R))).Perm ((C ++ R) ++ (Er ++ (S0 ++ S1))) := by
  refine (h.append_right _).trans ?_
  have e1 : (C ++ Er) ++ (S0 ++ (S1 ++ R)) = C ++ ((Er ++ (S0 ++ S1)) ++ R) := by simp [List.append_assoc]
  have e2 : (C ++ R) ++ (Er ++ (S0 ++ S1)) = C ++ (R ++ (Er ++ (S0 ++ S1))) := by simp [List.append_assoc]
  rw [e1, e2]
  exact List.perm_append_comm.append_left C
theorem pb_0 {α : Type} {E C Er X Y : List α} (h : E.Perm (C ++ Er)) : (E ++ (X ++ Y)).Perm ((C ++ X) ++ (Er ++ Y)) := by
  refine (h.append_right _).trans ?_
  have e1 : (C ++ Er) ++ (X ++ Y) = C ++ ((Er ++ X) ++ Y) := by simp [List.append_assoc]
  have e2 : (C ++ X) ++ (Er ++ Y) = C ++ ((X ++ Er) ++ Y) := by simp [List.append_assoc]
  rw [e1, e2]
  exact (List.perm_append_comm.append_right Y).append_left C
theorem pb_1 {α : Type} {E C Er S X R : List α} (h : E.Perm (C ++ Er)) : (E ++ (S ++ (X ++ R))).Perm ((C ++ X) ++ (Er ++ (S ++ R))) := by
  have e : (S ++ (X ++ R)).Perm (X ++ (S ++ R)) := by rw [← List.append_assoc, ← List.append_assoc]; exact List.perm_append_comm.append_right R
  exact (e.append_left E).trans (pb_0 h)
theorem pb_g0 {α : Type} {E C Er X S R : List α} (h : E.Perm (C ++ Er)) : (E ++ (X ++ (S ++ R))).Perm (((C ++ X) ++ R) ++ (Er ++ S)) := by
  refine (pb_0 h).trans ?_
  have e1 : (C ++ X) ++ (Er ++ (S ++ R)) = (C ++ X) ++ ((Er ++ S) ++ R) := by simp [List.append_assoc]
  rw [e1, List.append_assoc (C ++ X) R]
  exact List.perm_append_comm.append_left _
theorem pb_g1 {α : Type} {E C Er S X R : List α} (h : E.Perm (C ++ Er)) : (E ++ (S ++ (X ++ R))).Perm (((C ++ X) ++ R) ++ (Er ++ S)) := by
  refine (pb_1 h).trans ?_
  have e1 : (C ++ X) ++ (Er ++ (S ++ R)) = (C ++ X) ++ ((Er ++ S) ++ R) := by simp [List.append_assoc]
  rw [e1, List.append_assoc (C ++ X) R]
  exact List.perm_append_comm.append_left _
theorem pb_u {α : Type} {E C Er S0 S1 R1 X R2 : List α} (h : E.Perm (C ++ Er)) : (E ++ (S0 ++ (S1 ++ (R1 ++ (X ++ R2))))).Perm ((C ++ X) ++ (Er ++ (S0 ++ (S1 ++ (R1 ++ R2))))) := by
  have e : (S0 ++ (S1 ++ (R1 ++ (X ++ R2)))).Perm (X ++ (S0 ++ (S1 ++ (R1 ++ R2)))) := by
    have e1 : S0 ++ (S1 ++ (R1 ++ (X ++ R2))) = ((S0 ++ S1 ++ R1) ++ X) ++ R2 := by simp [List.append_assoc]
    have e2 : X ++ (S0 ++ (S1 ++ (R1 ++ R2))) = (X ++ (S0 ++ S1 ++ R1)) ++ R2 := by simp [List.append_assoc]
    rw [e1, e2]
    exact List.perm_append_comm.append_right R2
  exact (e.append_left E).trans (pb_0 h)
