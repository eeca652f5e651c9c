abbrev RM5 : Room := { frames := 8, cells := 8, slots := 240, locals := 250 }
abbrev CA : Type := Nat × Nat × Nat × Nat × Nat × Nat × Nat × Nat × Nat × Nat × Nat × Nat × Nat × Nat × Nat × Nat × Nat × Nat × Nat × Nat × Nat × Nat × Nat × Nat × Nat × Nat × Nat
abbrev CG : Type := SVl × (List (SAd × SVl) × Nat) × (Option (SAd × SVl) × Option (SAd × SVl)) × ((Nat → Int32) × Nat) × (Int32 × Int32 × Int32 × (Nat → Int32) × Nat × (Nat → Int32) × Nat) × ((Nat → Int32) × Nat) × ((Nat → Int32) × Nat) × ((Nat → Int32) × Nat) × ((Nat → Int32) × Nat)
def slW (ca : Nat → ClassId) : Option (SAd × SVl) → va_W := fun s => match s with
  | none => []
  | some x => stW ca x.1 x.2
def qsF (s0 s1 : Option (SAd × SVl)) : Nat → Option Nat := fun k => if k = 0 then s0.map (fun x => x.1.1) else if k = 1 then s1.map (fun x => x.1.1) else none
theorem qsF_u0 {s1 : Option (SAd × SVl)} (x : SAd × SVl) {s0 : Option (SAd × SVl)} : va_up (qsF s0 s1) 0 (some x.1.1) = qsF (some x) s1 := by
  funext k; unfold va_up qsF
  by_cases h : k = 0
  · rw [if_pos h, if_pos h]; rfl
  · rw [if_neg h, if_neg h, if_neg h]
theorem qsF_u1 {s0 : Option (SAd × SVl)} (x : SAd × SVl) {s1 : Option (SAd × SVl)} : va_up (qsF s0 s1) 1 (some x.1.1) = qsF s0 (some x) := by
  funext k; unfold va_up qsF
  by_cases h : k = 1
  · subst h; rfl
  · rw [if_neg h, if_neg h, if_neg h]
def cW (ca : Nat → ClassId) : CA → CG → va_W := fun (oc, os, osl, ohi, obu, ord, osp, onw, otr, ogd, t1, t2, l1, l2, g1, g2, oha, bua, b1, b2, e1, e2, s1, s2, nwa, tra, gda) ((z, r, f, j, nt, nl, gl, gt), (LL, dp), (so0, so1), (fb, ln), (rs, sa, ck, fi, bn, fe, en), (fp, pn), (fw, wn), (fx, xn), (fg, gn)) => [(oc, .inr (5, [.ref os, .ref osl, .ref ohi, .ref obu, .ref ord, .ref osp, .ref onw, .ref otr, .ref ogd])), (os, .inr (3, [.ref t1, .ref l1, .ref g1])), (t1, .inr (2, [.ref t2, .int (nI nt)])), (t2, .inl (ca 0, 200, .inl gt)), (l1, .inr (2, [.ref l2, .int (nI nl)])), (l2, .inl (ca 0, 20, .inl gl)), (g1, .inr (2, [.ref g2, .int (nI 4)])), (g2, .inl (ca 0, 4, .inl (seF z r f j))), (ohi, .inr (0, [.ref oha, .int (nI dp)])), (oha, .inl (ca 2, 6, .inr (.inr (.inr (.inr (qfL LL)))))), (osl, .inl (ca 2, 2, .inr (.inr (.inr (.inr (qsF so0 so1)))))), (obu, .inr (2, [.ref bua, .int (nI ln)])), (bua, .inl (ca 0, 40, .inl fb)), (ord, .inr (1, [.ref b1, .ref e1, .int rs, .int sa, .int ck])), (b1, .inr (2, [.ref b2, .int (nI bn)])), (b2, .inl (ca 0, 200, .inl fi)), (e1, .inr (2, [.ref e2, .int (nI en)])), (e2, .inl (ca 0, 40, .inl fe)), (osp, .inr (4, [.ref s1])), (s1, .inr (2, [.ref s2, .int (nI pn)])), (s2, .inl (ca 0, 200, .inl fp)), (onw, .inr (2, [.ref nwa, .int (nI wn)])), (nwa, .inl (ca 0, 20, .inl fw)), (otr, .inr (2, [.ref tra, .int (nI xn)])), (tra, .inl (ca 0, 200, .inl fx)), (ogd, .inr (2, [.ref gda, .int (nI gn)])), (gda, .inl (ca 0, 46, .inl fg))] ++ (slW ca so0 ++ (slW ca so1 ++ RSW ca LL))
def okCg : CG → Prop := fun ((z, r, f, j, nt, nl, gl, gt), (LL, dp), (so0, so1), (fb, ln), (rs, sa, ck, fi, bn, fe, en), (fp, pn), (fw, wn), (fx, xn), (fg, gn)) => pn ≤ 200 ∧ wn ≤ 20 ∧ xn ≤ 200 ∧ gn ≤ 46 ∧ bn ≤ 200 ∧ en ≤ 40 ∧ ln ≤ 40 ∧ nt ≤ 200 ∧ nl ≤ 20 ∧ LL.length ≤ 6 ∧ dp ≤ LL.length ∧ (∀ x ∈ LL, okV x.2) ∧ (∀ x, so0 = some x → okV x.2) ∧ (∀ x, so1 = some x → okV x.2)
def abC : CG → SG := fun ((z, r, f, j, nt, nl, gl, gt), (LL, dp), (so0, so1), (fb, ln), (rs, sa, ck, fi, bn, fe, en), (fp, pn), (fw, wn), (fx, xn), (fg, gn)) => (abV (z, r, f, j, nt, nl, gl, gt), (LL.map fun x => abV x.2).take dp, so0.map fun x => abV x.2, so1.map fun x => abV x.2, lst fb ln)
def exA : Nat → Option String := fun k => if k = 1 then some "java/lang/IllegalArgumentException" else none
def exO : Nat → Option String := fun k => if k = 1 then some "java/lang/IndexOutOfBoundsException" else none
def exS : Nat → Option String := fun k => if k = 1 then some "java/lang/IllegalStateException" else none
def exAS : Nat → Option String := fun k => if k = 1 then some "java/lang/IllegalArgumentException" else if k = 2 then some "java/lang/IllegalStateException" else none
def exOA : Nat → Option String := fun k => if k = 1 then some "java/lang/IndexOutOfBoundsException" else if k = 2 then some "java/lang/IllegalArgumentException" else none
def exOAS : Nat → Option String := fun k => if k = 1 then some "java/lang/IndexOutOfBoundsException" else if k = 2 then some "java/lang/IllegalArgumentException" else if k = 3 then some "java/lang/IllegalStateException" else none
theorem hs_len {L : List (SAd × SVl)} {dp : Nat} (h : dp ≤ L.length) : ((L.map fun x => abV x.2).take dp).length = dp := by rw [List.length_take, List.length_map]; omega
theorem ap_e {g : Nat → Int32} {n : Nat} {v : Int32} : lst g n ++ [v] = lst (upd g n v) (n + 1) := by
  rw [lst_succ]
  rw [show upd g n v n = v from by simp only [upd]; rw [if_pos trivial]]
  rw [lst_ext (g := upd g n v) (g2 := g) (fun k hk => by simp only [upd]; rw [if_neg (by omega)])]
theorem abV_len (z : Nat) (r f j : Int32) (nt nl : Nat) (gl gt : Nat → Int32) : (abV (z, r, f, j, nt, nl, gl, gt)).2.2.2.2.1.length = nt := lst_len gt nt
theorem un_split {L : List (SAd × SVl)} {dp : Nat} (h0 : ¬ dp = 0) (h : dp ≤ L.length) : ∃ L1 x9 L2, L = L1 ++ x9 :: L2 ∧ dp = L1.length + 1 := by
  have h1 : dp - 1 < L.length := by omega
  refine ⟨L.take (dp - 1), L[dp - 1], L.drop dp, ?_, by rw [List.length_take]; omega⟩
  have e := List.take_append_drop (dp - 1) L
  rw [List.drop_eq_getElem_cons h1] at e
  rw [show dp - 1 + 1 = dp by omega] at e
  exact e.symm
theorem un_at {L1 L2 : List (SAd × SVl)} {x : SAd × SVl} : qfL (L1 ++ x :: L2) (L1.length + 1 - 1) = some x.1.1 := qfL_at
theorem un_R (v : SVl) (L1 : List (SAd × SVl)) (x : SAd × SVl) (L2 : List (SAd × SVl)) (a b : Option S6) (c : IL) :
    R_undo (abV v, ((L1 ++ x :: L2).map fun x => abV x.2).take (L1.length + 1), a, b, c) = (nI 0, nI L1.length, (abV x.2, ((L1 ++ x :: L2).map fun x => abV x.2).take L1.length, a, b, c)) := by
  have e1 : ((L1 ++ x :: L2).map fun x => abV x.2).take (L1.length + 1) = (L1.map fun x => abV x.2) ++ [abV x.2] := by
    rw [List.map_append, List.map_cons]
    have e0 : L1.length = (L1.map fun x => abV x.2).length := (List.length_map _).symm
    rw [e0, tk1]
  have e2 : ((L1 ++ x :: L2).map fun x => abV x.2).take L1.length = L1.map fun x => abV x.2 := by
    rw [List.map_append]
    have e0 : L1.length = (L1.map fun x => abV x.2).length := (List.length_map _).symm
    rw [e0, tk0]
  rw [e1, e2]
  show (match ((L1.map fun x => abV x.2) ++ [abV x.2]).getLast? with
    | none => _
    | some s' => _) = _
  rw [List.getLast?_concat]
  show (nI 0, nI (((L1.map fun x => abV x.2) ++ [abV x.2]).length - 1), (abV x.2, ((L1.map fun x => abV x.2) ++ [abV x.2]).dropLast, a, b, c)) = _
  rw [List.dropLast_concat, List.length_append, List.length_map]
  rfl
