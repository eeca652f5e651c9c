abbrev RM6 : Room := { frames := 9, cells := 8, slots := 240, locals := 300 }
abbrev MA : Type := Nat × Nat × Nat × Nat × Nat × Nat × Nat × Nat × Nat × Nat
abbrev MG : Type := SVl × (Nat × List SVl) × (Option SVl × Option SVl) × ((Nat → Int32) × Nat) × (Int32 × Int32 × Int32 × Int32 × Int32 × Int32 × Int32 × Int32 × Int32) × Int64 × ((Nat → Int32) × (Nat → Int32) × (Nat → Int32) × (Nat → Int32) × (Nat → Int32) × (Nat → Int32) × (Nat → Int32))
def sFv : SVl → Nat → Int32 := fun (z, r, f, j, nt, nl, gl, gt) => sF z r f j nt nl gl gt
def slM (fl fh : Nat → Int32) (q : Nat) : Option SVl → Prop := fun s => match s with
  | none => fh q = nI 0
  | some x => fh q = nI 1 ∧ okV x ∧ ∀ k, k < 226 → fl (226 * q + k) = sFv x k
def mW (ca : Nat → ClassId) : MA → MG → va_W := fun (om, a1, a2, a3, a4, a5, a6, a7, a8, a9) ((z, r, f, j, nt, nl, gl, gt), (sv, LM), (sm0, sm1), (fb, ln), (thr, bm, br, ck, sa, lm, rs, at_, tm), hs, (fa, fv, fl, fh, fi, fe, ft)) => [(om, .inr (6, [.int thr, .ref a1, .ref a2, .ref a3, .int (nI sv), .ref a4, .ref a5, .ref a6, .int (nI ln), .ref a7, .int bm, .int br, .int ck, .int sa, .ref a8, .int lm, .int rs, .int at_, .ref a9, .int tm, .long hs])), (a1, .inl (ca 0, 226, .inl (sF z r f j nt nl gl gt))), (a2, .inl (ca 0, 226, .inl fa)), (a3, .inl (ca 0, 1356, .inl fv)), (a4, .inl (ca 0, 452, .inl fl)), (a5, .inl (ca 1, 2, .inl fh)), (a6, .inl (ca 0, 40, .inl fb)), (a7, .inl (ca 0, 200, .inl fi)), (a8, .inl (ca 0, 40, .inl fe)), (a9, .inl (ca 0, 20, .inl ft))]
def okM : MG → Prop := fun ((z, r, f, j, nt, nl, gl, gt), (sv, LM), (sm0, sm1), (fb, ln), (thr, bm, br, ck, sa, lm, rs, at_, tm), hs, (fa, fv, fl, fh, fi, fe, ft)) => nt ≤ 200 ∧ nl ≤ 20 ∧ ln ≤ 40 ∧ sv ≤ 6 ∧ LM.length = sv ∧ (∀ x ∈ LM, okV x) ∧ (∀ i x, LM[i]? = some x → ∀ k, k < 226 → fv (226 * i + k) = sFv x k) ∧ slM fl fh 0 sm0 ∧ slM fl fh 1 sm1
def abM : MG → SG := fun ((z, r, f, j, nt, nl, gl, gt), (sv, LM), (sm0, sm1), (fb, ln), (thr, bm, br, ck, sa, lm, rs, at_, tm), hs, (fa, fv, fl, fh, fi, fe, ft)) => (abV (z, r, f, j, nt, nl, gl, gt), LM.map abV, sm0.map abV, sm1.map abV, lst fb ln)
def thM : MG → Int32 := fun ((z, r, f, j, nt, nl, gl, gt), (sv, LM), (sm0, sm1), (fb, ln), (thr, bm, br, ck, sa, lm, rs, at_, tm), hs, (fa, fv, fl, fh, fi, fe, ft)) => thr
theorem lst_mem {α : Type} (g : Nat → α) {n k : Nat} (h : k < n) : g k ∈ lst g n := List.mem_of_getElem? (lst_get g h)
theorem pos_0 {x : Int32} (h : ¬ x < nI 1) : ¬ x < nI 0 := fun h2 => h (Int32.lt_of_lt_of_le h2 (by decide))
theorem sc_iff {v x : Int32} (h : ¬ x < nI 1) : inF v (nI 1) (x - nI 1) = false ↔ (v < nI 1 ∨ ¬ v < x) := by
  have h1 := Int32.le_iff_toInt_le.mp (Int32.not_lt.mp h)
  have hx := Int32.toInt_lt x
  have e1 : (nI 1).toInt = 1 := nI_toInt (by decide)
  rw [e1] at h1
  have e : (x - nI 1).toInt = x.toInt - 1 := by
    rw [Int32.toInt_sub, e1, Int.bmod_eq_of_le (by omega) (by omega)]
  constructor
  · intro h2
    by_cases a : v < nI 1
    · exact Or.inl a
    · refine Or.inr fun b => absurd (inF_in a fun c => ?_) (by rw [h2]; exact fun q => nomatch q)
      have b2 := Int32.lt_iff_toInt_lt.mp b
      have c2 := Int32.lt_iff_toInt_lt.mp c
      omega
  · rintro (a | b)
    · exact inF_lo a
    · refine inF_hi (Int32.lt_iff_toInt_lt.mpr ?_)
      have b2 := Int32.le_iff_toInt_le.mp (Int32.not_lt.mp b)
      omega
theorem svN_le {sv : Nat} (h : sv ≤ 6) : svN sv ≤ 6 := by unfold svN; split <;> omega
theorem sv_map (L : List SVl) (v : SVl) : (svL L v).map abV = svL (L.map abV) (abV v) := by
  unfold svL; rw [List.length_map]
  split
  · rw [List.map_append, List.map_drop]; rfl
  · rw [List.map_append]; rfl
theorem sv_len {L : List SVl} {sv : Nat} {v : SVl} (h : L.length = sv) (h6 : sv ≤ 6) : (svL L v).length = svN sv := by
  unfold svL svN; subst h
  by_cases e : L.length = 6
  · rw [if_pos e, if_pos e, List.length_append, List.length_drop, e]; rfl
  · rw [if_neg e, if_neg e, List.length_append]; rfl
theorem sv_ok {L : List SVl} {v : SVl} (h : ∀ x ∈ L, okV x) (hv : okV v) : ∀ x ∈ svL L v, okV x := by
  intro x hx
  unfold svL at hx
  split at hx
  · rcases List.mem_append.mp hx with a | a
    · exact h x (List.mem_of_mem_drop a)
    · rw [List.mem_singleton.mp a]; exact hv
  · rcases List.mem_append.mp hx with a | a
    · exact h x a
    · rw [List.mem_singleton.mp a]; exact hv
theorem sv_bl {L : List SVl} {sv : Nat} {fv : Nat → Int32} {z : Nat} {r f j : Int32} {nt nl : Nat} {gl gt : Nat → Int32} (h : L.length = sv) (h6 : sv ≤ 6) (hb : ∀ i x, L[i]? = some x → ∀ k, k < 226 → fv (226 * i + k) = sFv x k) :
    ∀ i x, (svL L (z, r, f, j, nt, nl, gl, gt))[i]? = some x → ∀ k, k < 226 → savF fv sv (sF z r f j nt nl gl gt) (226 * i + k) = sFv x k := by
  intro i x hx k hk
  subst h
  unfold svL at hx
  unfold savF
  by_cases e : L.length = 6
  · rw [if_pos e] at hx ⊢
    have hdl : (L.drop 1).length = 5 := by rw [List.length_drop, e]
    rcases Nat.lt_trichotomy i 5 with q | q | q
    · rw [List.getElem?_append_left (by rw [hdl]; exact q), List.getElem?_drop] at hx
      simp only [plF, shF]
      rw [if_neg (by omega), if_pos (by omega), show 226 * i + k + 226 = 226 * (1 + i) + k by omega]
      exact hb _ x hx k hk
    · subst q
      rw [List.getElem?_append_right (by rw [hdl]; exact Nat.le_refl _), hdl] at hx
      cases hx
      simp only [plF]
      rw [if_pos (by omega), show 226 * 5 + k - 226 * 5 = k by omega]; rfl
    · rw [List.getElem?_eq_none (by rw [List.length_append, hdl]; simp only [List.length_cons, List.length_nil]; omega)] at hx
      cases hx
  · rw [if_neg e] at hx ⊢
    rcases Nat.lt_trichotomy i L.length with q | q | q
    · rw [List.getElem?_append_left q] at hx
      simp only [plF]
      rw [if_neg (by omega)]
      exact hb _ x hx k hk
    · subst q
      rw [List.getElem?_append_right (Nat.le_refl _), Nat.sub_self] at hx
      cases hx
      simp only [plF]
      rw [if_pos (by omega), show 226 * L.length + k - 226 * L.length = k by omega]; rfl
    · rw [List.getElem?_eq_none (by rw [List.length_append]; simp only [List.length_cons, List.length_nil]; omega)] at hx
      cases hx
theorem sl_put {fl fh : Nat → Int32} {q z : Nat} {r f j : Int32} {nt nl : Nat} {gl gt : Nat → Int32} (hv : okV (z, r, f, j, nt, nl, gl, gt)) : slM (plF fl (sF z r f j nt nl gl gt) (226 * q) 226) (upd fh q (nI 1)) q (some (z, r, f, j, nt, nl, gl, gt)) := by
  refine ⟨by simp only [upd]; rw [if_pos trivial], hv, fun k hk => ?_⟩
  simp only [plF]
  rw [if_pos (by omega), show 226 * q + k - 226 * q = k by omega]; rfl
theorem sl_oth {fl fh s : Nat → Int32} {p q : Nat} {v : Int32} {o : Option SVl} (hne : q ≠ p) (hlt : q < p ∨ p < q) (h : slM fl fh q o) : slM (plF fl s (226 * p) 226) (upd fh p v) q o := by
  have e : upd fh p v q = fh q := by simp only [upd]; rw [if_neg hne]
  cases o with
  | none => exact e.trans h
  | some x =>
    obtain ⟨h1, h2, h3⟩ := h
    refine ⟨e.trans h1, h2, fun k hk => ?_⟩
    simp only [plF]
    rw [if_neg (by omega)]
    exact h3 k hk
theorem un_bl {L1 : List SVl} {sv : Nat} {fv : Nat → Int32} {z : Nat} {r f j : Int32} {nt nl : Nat} {gl gt : Nat → Int32} (hb : ∀ i x, (L1 ++ [(z, r, f, j, nt, nl, gl, gt)])[i]? = some x → ∀ k, k < 226 → fv (226 * i + k) = sFv x k) (hs : sv = L1.length + 1) : ∀ k, k < 226 → (fun k => fv (226 * (sv - 1) + k)) k = sF z r f j nt nl gl gt k := by
  intro k hk
  subst hs
  exact hb L1.length (z, r, f, j, nt, nl, gl, gt) (by rw [List.getElem?_append_right (Nat.le_refl _), Nat.sub_self]; rfl) k hk
theorem un_Rm (s : S6) (L1 : List SVl) (x : SVl) (a b : Option S6) (c : IL) : R_undo (s, (L1 ++ [x]).map abV, a, b, c) = (nI 0, nI L1.length, (abV x, L1.map abV, a, b, c)) := by
  rw [List.map_append]
  show (match ((L1.map abV) ++ [abV x]).getLast? with
    | none => _
    | some s' => _) = _
  rw [List.getLast?_concat]
  show (nI 0, nI (((L1.map abV) ++ [abV x]).length - 1), (abV x, ((L1.map abV) ++ [abV x]).dropLast, a, b, c)) = _
  rw [List.dropLast_concat, List.length_append, List.length_map]
  rfl
