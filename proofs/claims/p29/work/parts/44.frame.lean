theorem my_conseq {l : Launch} {y : MethodName} {ws : List Cond} {rm : Room} {Pc Pc' : Array Value → State → Prop} {Qc Qc' : Array Value → State → Outcome → State → Prop} {mc ms : Nat} {fr fr' : Addr → Prop} (h : Met l y ws rm Pc Qc mc ms fr)
    (hp : ∀ a s, Pc' a s → Pc a s) (hq : ∀ a s o t, Pc' a s → Qc a s o t → Qc' a s o t) (hf : ∀ q, fr q → fr' q) : Met l y ws rm Pc' Qc' mc ms fr' := by
  intro p e h1 h2 h3 s m args below hs ha hP hK
  obtain ⟨n, o, a, b, c, d, L, d1, d2⟩ := h p e h1 h2 h3 s m args below hs ha (hp _ _ hP) hK
  exact ⟨n, o, a, b, c, hq _ _ _ _ hP d, L, d1, fun q hq => hf _ (d2 q hq)⟩
theorem my_AA {wc wr wc' : va_W} {sz : Nat} (hw : wc'.Perm (wc ++ wr)) : ∀ q, va_A wc sz q → va_A wc' sz q := by
  intro q h
  rcases my_A_iff.mp h with h | h
  · obtain ⟨x, hx, rfl⟩ := List.mem_map.mp h
    exact my_A_iff.mpr (Or.inl (List.mem_map.mpr ⟨x, hw.mem_iff.mpr (List.mem_append_left _ hx), rfl⟩))
  · exact my_A_iff.mpr (Or.inr h)
/-- what stands behind a call with a rest beside it -/
theorem my_frB {D : va_G} {wc wr w1 wc' : va_W} {sz : Nat} {s t : State} (hw : wc'.Perm (wc ++ wr)) (hsz : s.heap.size = sz) (hP : va_P D vwCl wc' s.heap) (hD : va_D (fun _ => True) wc') (hF : va_F (va_A wc sz) s t)
    (hP1 : va_P D vwCl w1 t.heap) (hD1 : va_D (va_A wc sz) w1) : va_P D vwCl (w1 ++ wr) t.heap ∧ va_D (va_A wc' sz) (w1 ++ wr) := by
  subst hsz
  have hP' := my_P_perm hP hw
  have hD' : va_D (va_A wc' s.heap.size) (wc ++ wr) := by
    obtain ⟨d1, -⟩ := my_D_iff.mp (my_D_perm hD hw)
    refine my_D_iff.mpr ⟨d1, fun x hx => my_A_iff.mpr (Or.inl (List.mem_map.mpr ⟨x, hw.mem_iff.mpr hx, rfl⟩))⟩
  exact my_join hP' hD' (fun q h1 h2 => hF.2 q h1 h2) (my_AA hw) hP1 hD1
theorem my_frV {l : Launch} {y : MethodName} {ws : List Cond} {rm : Room} {D : va_G} {ca : Nat → ClassId} {sz : Nat} {av : List Value} {S S' : Type} {post : S → Prop} {post' : S' → Prop} {wc wr wc' : va_W} {wo : S → va_W} {wo' : S' → va_W} {mc ms : Nat}
    (h : Met l y ws rm (pcZ D ca av wc sz) (va_Qv post (qB D (va_A wc sz) wo) (va_A wc sz)) mc ms (va_A wc sz)) (hw : wc'.Perm (wc ++ wr)) (ho : ∀ u, post u → ∃ u', post' u' ∧ (wo' u').Perm (wo u ++ wr)) :
    Met l y ws rm (pcZ D ca av wc' sz) (va_Qv post' (qB D (va_A wc' sz) wo') (va_A wc' sz)) mc ms (va_A wc' sz) := by
  refine my_conseq h (fun a s hp => ?_) (fun a s o t hp hq => ?_) (my_AA hw)
  · obtain ⟨h0, h1, hP, hK, hD, hZ⟩ := hp
    exact ⟨h0, h1, my_P_left (my_P_perm hP hw), hK, my_D_left (my_D_perm hD hw), hZ.narrow (my_AA hw)⟩
  · obtain ⟨h0, h1, hP, hK, hD, hZ⟩ := hp
    obtain ⟨⟨u, ho1, hpu, hPu, hDu⟩, hF⟩ := hq
    obtain ⟨u', hp', hperm⟩ := ho u hpu
    obtain ⟨g1, g2⟩ := my_frB hw h1 hP hD hF hPu hDu
    exact ⟨⟨u', ho1, hp', my_P_perm g1 hperm.symm, my_D_perm g2 hperm.symm⟩, hF.1, fun q a b => hF.2 q a (fun c => b (my_AA hw q c))⟩
/-- a state: its addresses, its values -/
abbrev SAd : Type := Nat × Nat × Nat × Nat × Nat × Nat × Nat
abbrev SVl : Type := Nat × Int32 × Int32 × Int32 × Nat × Nat × (Nat → Int32) × (Nat → Int32)
def stW (ca : Nat → ClassId) : SAd → SVl → va_W := fun (q, t1, t2, l1, l2, g1, g2) (z, r, f, j, nt, nl, gl, gt) => [(q, .inr (3, [.ref t1, .ref l1, .ref g1])), (t1, .inr (2, [.ref t2, .int (nI nt)])), (t2, .inl (ca 0, 200, .inl gt)), (l1, .inr (2, [.ref l2, .int (nI nl)])), (l2, .inl (ca 0, 20, .inl gl)), (g1, .inr (2, [.ref g2, .int (nI 4)])), (g2, .inl (ca 0, 4, .inl (seF z r f j)))]
def okV (v : SVl) : Prop := v.2.2.2.2.1 ≤ 200 ∧ v.2.2.2.2.2.1 ≤ 20
def abV (v : SVl) : Nat × Int32 × Int32 × Int32 × IL × IL := (v.1, v.2.1, v.2.2.1, v.2.2.2.1, lst v.2.2.2.2.2.2.2 v.2.2.2.2.1, lst v.2.2.2.2.2.2.1 v.2.2.2.2.2.1)
def cpV : SVl → SVl → SVl := fun v w => (w.1, w.2.1, w.2.2.1, w.2.2.2.1, w.2.2.2.2.1, w.2.2.2.2.2.1, cpF w.2.2.2.2.2.2.1 v.2.2.2.2.2.2.1 w.2.2.2.2.2.1, cpF w.2.2.2.2.2.2.2 v.2.2.2.2.2.2.2 w.2.2.2.2.1)
theorem abV_cp (v w : SVl) : abV (cpV v w) = abV w := by
  unfold abV cpV
  rw [lst_ext (g := cpF w.2.2.2.2.2.2.2 v.2.2.2.2.2.2.2 w.2.2.2.2.1) (g2 := w.2.2.2.2.2.2.2) (n := w.2.2.2.2.1) (fun k hk => cpF_lo _ _ hk), lst_ext (g := cpF w.2.2.2.2.2.2.1 v.2.2.2.2.2.2.1 w.2.2.2.2.2.1) (g2 := w.2.2.2.2.2.2.1) (n := w.2.2.2.2.2.1) (fun k hk => cpF_lo _ _ hk)]
theorem okV_cp {v w : SVl} (h : okV w) : okV (cpV v w) := h
def RSW (ca : Nat → ClassId) (L : List (SAd × SVl)) : va_W := L.flatMap fun x => stW ca x.1 x.2
def qfL (L : List (SAd × SVl)) : Nat → Option Nat := fun i => (L[i]?).map fun x => x.1.1
def svL {α : Type} (l : List α) (v : α) : List α := if l.length = 6 then l.drop 1 ++ [v] else l ++ [v]
theorem pm_1 {α : Type} (h w a x b : List α) : (h ++ w ++ (a ++ (x ++ b))).Perm (h ++ x ++ w ++ (a ++ b)) := by
  rw [List.append_assoc h w, List.append_assoc h x, List.append_assoc h]
  refine List.Perm.append_left h ?_
  have e1 : w ++ (a ++ (x ++ b)) = ((w ++ a) ++ x) ++ b := by simp [List.append_assoc]
  have e2 : x ++ w ++ (a ++ b) = (x ++ (w ++ a)) ++ b := by simp [List.append_assoc]
  rw [e1, e2]
  exact List.Perm.append_right b List.perm_append_comm
theorem pm_2 {α β : Type} (o : β → α) (r : β → List α) : ∀ xs : List β, (xs.flatMap fun x => o x :: r x).Perm (xs.map o ++ xs.flatMap r)
  | [] => List.Perm.refl _
  | x :: xs => by
    simp only [List.flatMap_cons, List.map_cons, List.cons_append]
    refine List.Perm.cons _ ?_
    have h := (pm_2 o r xs).append_left (r x)
    refine h.trans ?_
    rw [← List.append_assoc, ← List.append_assoc]
    exact List.Perm.append_right _ List.perm_append_comm
