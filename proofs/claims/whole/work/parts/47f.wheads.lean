abbrev RML : Room := { frames := 9, cells := 8, slots := 240, locals := 290 }
theorem my_ofWH {l : Launch} {y : MethodName} {ws ws' : List Cond} {rm : Room} {Pc : Array Value → State → Prop} {Qc : Array Value → State → Outcome → State → Prop} {mc ms : Nat} {free : Addr → Prop} {cc : ByteArray} {maxL : Nat} {ret : Option FieldType} {hh : List (Nat × Nat × Nat × Nat)}
    (hy : plainName y.cls = true) (hw : ws = Cond.codeWith y cc maxL ret hh :: ws')
    (body : ∀ p e s m args below meth c s₁, BodyLoose p l y (headSpec ws rm) cc maxL ret e s m args below meth c s₁ → c.maxLocals = maxL → Pc args s →
      W p l e (headSpec ws rm).room s m args below meth c s.heap [] 0 0 (MQ below Qc args s mc ms free) (entryFrame m args maxL)) : Met l y ws rm Pc Qc mc ms free := by
  refine MetFree.of_bodyS (code := cc) (maxLocals := maxL) (ret := ret) hy ?_ ?_
  · intro args s m h hn
    obtain ⟨m9, meth, c, hn9, h1, h2, h3, h4, -, h5, h6, -⟩ := Cond.codeWith_spec (atoms_spec (ws := ws) h _ (by rw [hw]; exact List.mem_cons_self))
    cases hn.symm.trans hn9
    exact ⟨meth, c, h1, h2, h3, h4, h5, h6⟩
  · intro p e s m args below meth c s₁ B hml hP _
    have hh0 : s₁.heap = s.heap := by rw [B.state]; rfl
    obtain ⟨t, a1, o, b1, b2, b3⟩ := body p e s m args below meth c s₁ B hml hP s₁ hh0 (Stand.of_body B)
    exact ⟨t, o, a1, b1, b2, ⟨b3.1, b3.2⟩⟩
theorem cW_rc {D : va_G} {ca : Nat → ClassId} {s : State} {H : Heap} {Ad : CA} {g : CG} (hK : KK D ca s) (hP : va_P D vwCl (cW ca Ad g) H) : ∃ cell : Cell, H[Ad.1]? = some cell ∧ cell.vm.isStatics = false ∧ s.vm.findClass RX5 = some cell.cls := by
  obtain ⟨oc, os, osl, ohi, obu, ord, osp, onw, otr, ogd, t1, t2, l1, l2, g1, g2, oha, bua, b1, b2, e1, e2, s1, s2, nwa, tra, gda⟩ := Ad
  obtain ⟨⟨z, r, f, j, nt, nl, gl, gt⟩, ⟨LL, dp⟩, ⟨so0, so1⟩, ⟨fb, ln⟩, ⟨rs, sa, ck, fi, bn, fe, en⟩, ⟨fp, pn⟩, ⟨fw, wn⟩, ⟨fx, xn⟩, ⟨fg, gn⟩⟩ := g
  exact va_recv hK.1 hP (ci := 5) (q0 := 0) rfl rfl
theorem mW_rc {D : va_G} {ca : Nat → ClassId} {s : State} {H : Heap} {Ad : MA} {g : MG} (hK : KK D ca s) (hP : va_P D vwCl (mW ca Ad g) H) : ∃ cell : Cell, H[Ad.1]? = some cell ∧ cell.vm.isStatics = false ∧ s.vm.findClass RX6 = some cell.cls := by
  obtain ⟨om, a1, a2, a3, a4, a5, a6, a7, a8, a9⟩ := Ad
  obtain ⟨⟨z, r, f, j, nt, nl, gl, gt⟩, ⟨sv, LM⟩, ⟨sm0, sm1⟩, ⟨fb, ln⟩, ⟨thr, bm, br, ck, sa, lm, rs, at_, tm⟩, hs, ⟨fa, fv, fl, fh, fi, fe, ft⟩⟩ := g
  exact va_recv hK.1 hP (ci := 6) (q0 := 0) rfl rfl
/-- what a call of a wrapper leaves: its answer, the number that it laid, the class behind -/
def wrP (res : RT) (zr : Int32) (u : CG × (Nat → Int64)) : Prop := res.1 = zr ∧ (zr = nI 0 → u.2 0 = res.2.1.toInt64) ∧ res.2.2 = abC u.1 ∧ okCg u.1
def oW (ca : Nat → ClassId) (o : Nat) (v : Nat → Int64) : va_W := [(o, .inl (ca 3, 1, .inr (.inl v)))]
theorem exA_c {k : Nat} {E : String} (h : exA k = some E) : (k = 1 ∧ E = "java/lang/IllegalArgumentException") := by
  unfold exA at h
  by_cases h0 : k = 1
  · rw [if_pos h0] at h; exact ⟨h0, (Option.some.inj h).symm⟩
  rw [if_neg h0] at h
  cases h
theorem exO_c {k : Nat} {E : String} (h : exO k = some E) : (k = 1 ∧ E = "java/lang/IndexOutOfBoundsException") := by
  unfold exO at h
  by_cases h0 : k = 1
  · rw [if_pos h0] at h; exact ⟨h0, (Option.some.inj h).symm⟩
  rw [if_neg h0] at h
  cases h
theorem exS_c {k : Nat} {E : String} (h : exS k = some E) : (k = 1 ∧ E = "java/lang/IllegalStateException") := by
  unfold exS at h
  by_cases h0 : k = 1
  · rw [if_pos h0] at h; exact ⟨h0, (Option.some.inj h).symm⟩
  rw [if_neg h0] at h
  cases h
theorem exAS_c {k : Nat} {E : String} (h : exAS k = some E) : (k = 1 ∧ E = "java/lang/IllegalArgumentException") ∨ (k = 2 ∧ E = "java/lang/IllegalStateException") := by
  unfold exAS at h
  by_cases h0 : k = 1
  · rw [if_pos h0] at h; exact Or.inl ⟨h0, (Option.some.inj h).symm⟩
  rw [if_neg h0] at h
  by_cases h1 : k = 2
  · rw [if_pos h1] at h; exact Or.inr (⟨h1, (Option.some.inj h).symm⟩)
  rw [if_neg h1] at h
  cases h
theorem exOA_c {k : Nat} {E : String} (h : exOA k = some E) : (k = 1 ∧ E = "java/lang/IndexOutOfBoundsException") ∨ (k = 2 ∧ E = "java/lang/IllegalArgumentException") := by
  unfold exOA at h
  by_cases h0 : k = 1
  · rw [if_pos h0] at h; exact Or.inl ⟨h0, (Option.some.inj h).symm⟩
  rw [if_neg h0] at h
  by_cases h1 : k = 2
  · rw [if_pos h1] at h; exact Or.inr (⟨h1, (Option.some.inj h).symm⟩)
  rw [if_neg h1] at h
  cases h
theorem exOAS_c {k : Nat} {E : String} (h : exOAS k = some E) : (k = 1 ∧ E = "java/lang/IndexOutOfBoundsException") ∨ (k = 2 ∧ E = "java/lang/IllegalArgumentException") ∨ (k = 3 ∧ E = "java/lang/IllegalStateException") := by
  unfold exOAS at h
  by_cases h0 : k = 1
  · rw [if_pos h0] at h; exact Or.inl ⟨h0, (Option.some.inj h).symm⟩
  rw [if_neg h0] at h
  by_cases h1 : k = 2
  · rw [if_pos h1] at h; exact Or.inr (Or.inl ⟨h1, (Option.some.inj h).symm⟩)
  rw [if_neg h1] at h
  by_cases h2 : k = 3
  · rw [if_pos h2] at h; exact Or.inr (Or.inr (⟨h2, (Option.some.inj h).symm⟩))
  rw [if_neg h2] at h
  cases h
