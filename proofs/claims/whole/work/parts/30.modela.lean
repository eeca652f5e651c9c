/-- the state's array by what it means -/
def sF (z : Nat) (r f j : Int32) (nt nl : Nat) (gl gt : Nat → Int32) : Nat → Int32 := fun k => if k = 0 then nI z else if k = 1 then r else if k = 2 then f else if k = 3 then j else if k = 4 then nI nt else if k = 5 then nI nl else if k < 26 then gl (k - 6) else gt (k - 26)
theorem sF_gl (z : Nat) (r f j : Int32) (nt nl : Nat) (gl gt : Nat → Int32) {k q : Nat} (h : k = 6 + q) (h2 : k < 26) : sF z r f j nt nl gl gt k = gl q := by
  subst h; unfold sF; rw [if_neg (by omega), if_neg (by omega), if_neg (by omega), if_neg (by omega), if_neg (by omega), if_neg (by omega), if_pos h2, Nat.add_sub_cancel_left]
theorem sF_gt (z : Nat) (r f j : Int32) (nt nl : Nat) (gl gt : Nat → Int32) {k q : Nat} (h : k = 26 + q) : sF z r f j nt nl gl gt k = gt q := by
  subst h; unfold sF; rw [if_neg (by omega), if_neg (by omega), if_neg (by omega), if_neg (by omega), if_neg (by omega), if_neg (by omega), if_neg (by omega), Nat.add_sub_cancel_left]
theorem sF_w0 (z : Nat) (r f j : Int32) (nt nl : Nat) (gl gt : Nat → Int32) (v : Nat) : upd (sF z r f j nt nl gl gt) 0 (nI v) = sF v r f j nt nl gl gt := by
  funext k; simp only [sF, upd]; by_cases h : k = 0 <;> simp [h]
theorem sF_w1 (z : Nat) (r f j : Int32) (nt nl : Nat) (gl gt : Nat → Int32) (v : Int32) : upd (sF z r f j nt nl gl gt) 1 v = sF z v f j nt nl gl gt := by
  funext k; simp only [sF, upd]; by_cases h : k = 1 <;> simp [h]
theorem sF_w2 (z : Nat) (r f j : Int32) (nt nl : Nat) (gl gt : Nat → Int32) (v : Int32) : upd (sF z r f j nt nl gl gt) 2 v = sF z r v j nt nl gl gt := by
  funext k; simp only [sF, upd]; by_cases h : k = 2 <;> simp [h]
theorem sF_w3 (z : Nat) (r f j : Int32) (nt nl : Nat) (gl gt : Nat → Int32) (v : Int32) : upd (sF z r f j nt nl gl gt) 3 v = sF z r f v nt nl gl gt := by
  funext k; simp only [sF, upd]; by_cases h : k = 3 <;> simp [h]
theorem sF_w4 (z : Nat) (r f j : Int32) (nt nl : Nat) (gl gt : Nat → Int32) (v : Nat) : upd (sF z r f j nt nl gl gt) 4 (nI v) = sF z r f j v nl gl gt := by
  funext k; simp only [sF, upd]; by_cases h : k = 4 <;> simp [h]
theorem sF_w5 (z : Nat) (r f j : Int32) (nt nl : Nat) (gl gt : Nat → Int32) (v : Nat) : upd (sF z r f j nt nl gl gt) 5 (nI v) = sF z r f j nt v gl gt := by
  funext k; simp only [sF, upd]; by_cases h : k = 5 <;> simp [h]
theorem sF_wl (z : Nat) (r f j : Int32) (nt nl : Nat) (gl gt : Nat → Int32) (v : Int32) {k q : Nat} (h : k = 6 + q) (h2 : k < 26) : upd (sF z r f j nt nl gl gt) k v = sF z r f j nt nl (upd gl q v) gt := by
  subst h
  funext x
  simp only [sF, upd]
  by_cases h : x = 6 + q
  · subst h
    rw [if_pos rfl, if_neg (by omega), if_neg (by omega), if_neg (by omega), if_neg (by omega), if_neg (by omega), if_neg (by omega), if_pos h2, if_pos (by omega)]
  · rw [if_neg h]
    by_cases h6 : x < 6
    · have : x = 0 ∨ x = 1 ∨ x = 2 ∨ x = 3 ∨ x = 4 ∨ x = 5 := by omega
      rcases this with rfl | rfl | rfl | rfl | rfl | rfl <;> rfl
    · rw [if_neg (show ¬ x - 6 = q by omega)]
theorem sF_wt (z : Nat) (r f j : Int32) (nt nl : Nat) (gl gt : Nat → Int32) (v : Int32) {k q : Nat} (h : k = 26 + q) : upd (sF z r f j nt nl gl gt) k v = sF z r f j nt nl gl (upd gt q v) := by
  subst h
  funext x
  simp only [sF, upd]
  by_cases h : x = 26 + q
  · subst h
    rw [if_pos rfl, if_neg (by omega), if_neg (by omega), if_neg (by omega), if_neg (by omega), if_neg (by omega), if_neg (by omega), if_neg (by omega), if_pos (by omega)]
  · rw [if_neg h]
    by_cases h6 : x < 26
    · rw [if_pos h6, if_pos h6]
    · rw [if_neg (show ¬ x - 26 = q by omega)]
def inF (v lo hi : Int32) : Bool := !(decide (v < lo)) && !(decide (hi < v))
theorem inF_lo {v lo hi : Int32} (h : v < lo) : inF v lo hi = false := by simp [inF, h]
theorem inF_hi {v lo hi : Int32} (h : hi < v) : inF v lo hi = false := by simp [inF, h]
theorem inF_in {v lo hi : Int32} (h : ¬ v < lo) (h2 : ¬ hi < v) : inF v lo hi = true := by simp only [inF, h, h2, decide_false]; rfl
theorem inF_iff {v lo hi : Int32} : inF v lo hi = true ↔ ¬ v < lo ∧ ¬ hi < v := by
  constructor
  · intro h
    simp only [inF, Bool.and_eq_true, Bool.not_eq_true', decide_eq_false_iff_not] at h
    exact h
  · exact fun h => inF_in h.1 h.2
def svN (sv : Nat) : Nat := if sv = 6 then 6 else sv + 1
def shF (fv : Nat → Int32) (i : Nat) : Nat → Int32 := fun k => if k < i then fv (k + 226) else fv k
theorem shF_0 (fv : Nat → Int32) : shF fv 0 = fv := by funext k; simp only [shF]; rw [if_neg (by omega)]
theorem shF_step (fv : Nat → Int32) (i : Nat) : upd (shF fv i) i (shF fv i (i + 226)) = shF fv (i + 1) := by
  funext k
  simp only [shF, upd]
  rw [if_neg (show ¬ i + 226 < i by omega)]
  by_cases h : k = i
  · subst h; rw [if_pos rfl, if_pos (by omega)]
  · rw [if_neg h]
    by_cases h2 : k < i
    · rw [if_pos h2, if_pos (by omega)]
    · rw [if_neg h2, if_neg (by omega)]
def plF (fw s : Nat → Int32) (o i : Nat) : Nat → Int32 := fun k => if o ≤ k ∧ k < o + i then s (k - o) else fw k
theorem plF_0 (fw s : Nat → Int32) (o : Nat) : plF fw s o 0 = fw := by funext k; simp only [plF]; rw [if_neg (by omega)]
theorem plF_step (fw s : Nat → Int32) (o i : Nat) : upd (plF fw s o i) (o + i) (s i) = plF fw s o (i + 1) := by
  funext k
  simp only [plF, upd]
  by_cases h : k = o + i
  · subst h; rw [if_pos rfl, if_pos (by omega), Nat.add_sub_cancel_left]
  · rw [if_neg h]
    by_cases h2 : o ≤ k ∧ k < o + i
    · rw [if_pos h2, if_pos (by omega)]
    · rw [if_neg h2, if_neg (by omega)]
def savF (fv : Nat → Int32) (sv : Nat) (s : Nat → Int32) : Nat → Int32 := if sv = 6 then plF (shF fv 1130) s (226 * 5) 226 else plF fv s (226 * sv) 226
theorem sav_n {sv sw : Nat} {fw fv : Nat → Int32} (h : sv = 6 ∧ sw = 5 ∧ fw = shF fv 1130 ∨ sv < 6 ∧ sw = sv ∧ fw = fv) : nI (sw + 1) = nI (svN sv) := by
  unfold svN
  rcases h with ⟨h1, h2, -⟩ | ⟨h1, h2, -⟩
  · rw [if_pos h1, h2]
  · rw [if_neg (by omega), h2]
theorem sav_f {sv sw i : Nat} {fw fv s : Nat → Int32} (h : sv = 6 ∧ sw = 5 ∧ fw = shF fv 1130 ∨ sv < 6 ∧ sw = sv ∧ fw = fv) (h1 : i ≤ 226) (h2 : 226 ≤ i) : plF fw s (226 * sw) i = savF fv sv s := by
  obtain rfl : i = 226 := by omega
  unfold savF
  rcases h with ⟨h1, h2, h3⟩ | ⟨h1, h2, h3⟩
  · rw [if_pos h1, h2, h3]
  · rw [if_neg (by omega), h2, h3]
theorem cpF_lo {α : Type} (g2 g : Nat → α) {i k : Nat} (h : k < i) : cpF g2 g i k = g2 k := if_pos h
def onesI (v : Int32) : Int32 := (v &&& nI 1) + ((v >>> (nI 1 &&& 31)) &&& nI 1) + ((v >>> (nI 2 &&& 31)) &&& nI 1) + ((v >>> (nI 3 &&& 31)) &&& nI 1)
theorem onesI_bt (v : Int32) : onesI v = bt v 0 + bt v 1 + bt v 2 + bt v 3 := by
  have : bt v 0 = v &&& nI 1 := congrArg (fun z => z &&& nI 1) (sb_shr0 v)
  rw [this]; rfl
theorem grp_lo (v : Int32) {k : Nat} (h : k < 4) : (v >>> (nI k &&& 31)) &&& nI 1 = (grp v).getD k 0 := by
  rcases (show k = 0 ∨ k = 1 ∨ k = 2 ∨ k = 3 by omega) with rfl | rfl | rfl | rfl <;> rfl
theorem grp_4 (v : Int32) {k : Nat} (h : 4 ≤ k) (h5 : k < 5) : nI 1 - (onesI v - onesI v / nI 2 * nI 2) = (grp v).getD k 0 := by
  obtain rfl : k = 4 := by omega
  show _ = parS v 4
  rw [onesI_bt]
  simp only [parS]
  rcases bt_01 v 0 with h0 | h0 <;> rcases bt_01 v 1 with h1 | h1 <;> rcases bt_01 v 2 with h2 | h2 <;> rcases bt_01 v 3 with h3 | h3 <;> rw [h0, h1, h2, h3] <;> decide
def nmF (gl : Nat → Int32) (nl g : Nat) : Int32 := if g = 0 then nI 11 else if g ≤ nl then gl (g - 1) else if g = nl + 1 then nI 15 else chkL (lst gl nl)
theorem nm_0 (gl : Nat → Int32) (nl : Nat) {g : Nat} (h : g = 0) : nmF gl nl g = nI 11 := if_pos h
theorem nm_1 (gl : Nat → Int32) (nl : Nat) {g : Nat} (h : 0 < g) (h2 : g ≤ nl) : nmF gl nl g = gl (g - 1) := by unfold nmF; rw [if_neg (by omega), if_pos h2]
theorem nm_2 (gl : Nat → Int32) (nl : Nat) {g : Nat} (h : g = nl + 1) : nmF gl nl g = nI 15 := by unfold nmF; rw [if_neg (by omega), if_neg (by omega), if_pos h]
theorem nm_3 (gl : Nat → Int32) (nl : Nat) {g : Nat} (h : nl + 1 < g) : nmF gl nl g = chkL (lst gl nl) := by unfold nmF; rw [if_neg (by omega), if_neg (by omega), if_neg (by omega)]
theorem flat_get (G : IL) : ∀ {q : Nat}, q < 5 * G.length → (G.flatMap grp).getD q 0 = (grp (G.getD (q / 5) 0)).getD (q % 5) 0 := by
  induction G with
  | nil => intro q h; simp at h
  | cons x xs ih =>
    intro q h
    simp only [List.flatMap_cons, List.length_cons] at h ⊢
    by_cases h5 : q < 5
    · rw [show q / 5 = 0 from by omega, show q % 5 = q from by omega]
      simp only [List.getD]
      rw [List.getElem?_append_left (by rw [grp_len]; exact h5)]
      rfl
    · obtain ⟨q', rfl⟩ : ∃ q', q = q' + 5 := ⟨q - 5, by omega⟩
      rw [show (q' + 5) / 5 = q' / 5 + 1 from by omega, show (q' + 5) % 5 = q' % 5 from by omega]
      have := ih (q := q') (by omega)
      simp only [List.getD] at this ⊢
      rw [List.getElem?_append_right (by rw [grp_len]; omega), grp_len, Nat.add_sub_cancel, this]
      rfl
theorem strp_flat (z : Nat) (l : IL) : strp z l = List.replicate z (nI 0) ++ (([nI 11] ++ (l ++ [nI 15, chkL l])).flatMap grp ++ List.replicate z (nI 0)) := by
  simp [strp, List.flatMap_append]
theorem nm_list (gl : Nat → Int32) (nl g : Nat) (h : g ≤ nl + 2) : ([nI 11] ++ (lst gl nl ++ [nI 15, chkL (lst gl nl)])).getD g 0 = nmF gl nl g := by
  rcases Nat.eq_zero_or_pos g with h0 | h0
  · subst h0; rfl
  · obtain ⟨g', rfl⟩ : ∃ g', g = g' + 1 := ⟨g - 1, by omega⟩
    simp only [List.getD, List.singleton_append, List.getElem?_cons_succ]
    rcases Nat.lt_or_ge g' nl with h1 | h1
    · rw [List.getElem?_append_left (by rw [lst_len]; exact h1), lst_get _ h1, nm_1 _ _ h0 h1]; rfl
    · rw [List.getElem?_append_right (by rw [lst_len]; exact h1), lst_len]
      rcases (show g' = nl ∨ g' = nl + 1 by omega) with h2 | h2
      · rw [h2, Nat.sub_self, nm_2 _ _ rfl]; rfl
      · rw [h2, show nl + 1 - nl = 1 from by omega, nm_3 _ _ (by omega)]; rfl
theorem stb_in {z k nl : Nat} (h : inF (nI k - nI z) (nI 0) (nI (5 * (nl + 3) - 1)) = true) (hk : k < 100000) (hb : nl + z < 100000) : z ≤ k ∧ k - z < 5 * (nl + 3) := by
  obtain ⟨h1, h2⟩ := inF_iff.mp h
  by_cases hz : z ≤ k
  · rw [pk_sub hz] at h2
    have := mt (ni_lt (by omega) (by omega)).mpr h2
    exact ⟨hz, by omega⟩
  · exact absurd (pk_sneg (by omega) (by omega)) h1
theorem bf_rep (z : Nat) (l : IL) {k : Nat} (h : k < z) : (List.replicate z (nI 0) ++ l).getD k 0 = nI 0 := by
  simp only [List.getD]
  rw [List.getElem?_append_left (by rw [List.length_replicate]; exact h), List.getElem?_replicate, if_pos h]; rfl
theorem stb_yes (gl : Nat → Int32) {z k nl : Nat} (h1 : z ≤ k) (h2 : k - z < 5 * (nl + 3)) : bf (strp z (lst gl nl)) k = (grp (nmF gl nl ((k - z) / 5))).getD ((k - z) % 5) 0 := by
  have hl : ([nI 11] ++ (lst gl nl ++ [nI 15, chkL (lst gl nl)])).length = nl + 3 := by simp [lst_len]
  unfold bf
  rw [strp_flat]
  simp only [List.getD]
  rw [List.getElem?_append_right (by rw [List.length_replicate]; exact h1), List.length_replicate, List.getElem?_append_left (by rw [flat_len, hl]; exact h2)]
  have := flat_get ([nI 11] ++ (lst gl nl ++ [nI 15, chkL (lst gl nl)])) (q := k - z) (by rw [hl]; exact h2)
  rw [nm_list gl nl _ (by omega)] at this
  exact this
theorem stb_no (gl : Nat → Int32) {z k nl : Nat} (h : inF (nI k - nI z) (nI 0) (nI (5 * (nl + 3) - 1)) = false) (hk : k < 2 * z + 5 * (nl + 3)) (hz : z ≤ 30) (hn : nl ≤ 20) : bf (strp z (lst gl nl)) k = nI 0 := by
  have hl : ([nI 11] ++ (lst gl nl ++ [nI 15, chkL (lst gl nl)])).length = nl + 3 := by simp [lst_len]
  unfold bf
  rw [strp_flat]
  rcases Nat.lt_or_ge k z with h1 | h1
  · exact bf_rep _ _ h1
  · rcases Nat.lt_or_ge (k - z) (5 * (nl + 3)) with h2 | h2
    · have h3 : inF (nI (k - z)) (nI 0) (nI (5 * (nl + 3) - 1)) = true := inF_in (nI_pos (by omega)) (fun q => by have := (ni_lt (by omega) (by omega)).mp q; omega)
      rw [pk_sub h1, h3] at h
      exact absurd h (by decide)
    · simp only [List.getD]
      rw [List.getElem?_append_right (by rw [List.length_replicate]; exact h1), List.length_replicate, List.getElem?_append_right (by rw [flat_len, hl]; exact h2), flat_len, hl, List.getElem?_replicate, if_pos (by omega)]; rfl
theorem bf_01 {B : IL} (h : is01 B) (k : Nat) : bf B k = nI 0 ∨ bf B k = nI 1 := by
  by_cases hk : k < B.length
  · have : bf B k = B[k] := by simp [bf, List.getD, hk]
    rw [this]; exact h _ (List.getElem_mem hk)
  · exact Or.inl (by simp [bf, List.getD, hk]; rfl)
theorem lst_bf (B : IL) {n : Nat} (h : n = B.length) : lst (bf B) n = B := by subst h; exact lst_of B 0
theorem lst_strp (gl : Nat → Int32) (z nl : Nat) : lst (bf (strp z (lst gl nl))) (2 * z + 5 * (nl + 3)) = strp z (lst gl nl) := lst_bf _ (by rw [strp_len, lst_len])
theorem sw_step (gl : Nat → Int32) (nl z i : Nat) : nI (i + onesN (lst (bf (strp z (lst gl nl))) i)) + (nI 1 + bf (strp z (lst gl nl)) i) = nI (i + 1 + onesN (lst (bf (strp z (lst gl nl))) (i + 1))) := by
  rw [ones_succ]
  rcases bf_01 (is01_strp z (lst gl nl)) i with h | h
  · rw [if_pos h, h, nI_add, nI_add]; congr 1; omega
  · rw [if_neg (by rw [h]; decide), h, nI_add, nI_add]; congr 1; omega
theorem ne_of_1 {x : Int32} (h : x = nI 1) : ¬ x = nI 0 := by rw [h]; decide
def gzF (gt : Nat → Int32) (i : Nat) : Nat → Int32 := fun k => if k < i then nI 0 else gt k
theorem gzF_0 (gt : Nat → Int32) : gzF gt 0 = gt := by funext k; simp only [gzF]; rw [if_neg (by omega)]
theorem gzF_step (gt : Nat → Int32) (i : Nat) : upd (gzF gt i) i (nI 0) = gzF gt (i + 1) := by
  funext k
  simp only [gzF, upd]
  by_cases h : k = i
  · subst h; rw [if_pos rfl, if_pos (by omega)]
  · rw [if_neg h]
    by_cases h2 : k < i
    · rw [if_pos h2, if_pos (by omega)]
    · rw [if_neg h2, if_neg (by omega)]
theorem swp_0 (gt : Nat → Int32) {g : Nat → Int32} {j : Int32} {i : Nat} (h : i = 200) : gzF gt i = apF (gzF gt 200) 0 (passL j 0 (lst g 0)) := by
  subst h; exact (apF_0 _ _).symm
theorem swp_1 (gt g : Nat → Int32) (j : Int32) {i n : Nat} (hn : n = (passL j 0 (lst g i)).length) (hb : g i = nI 0) : upd (apF (gzF gt 200) 0 (passL j 0 (lst g i))) n (nI 200 + j * nI (i % 5) - nI 2 * j) = apF (gzF gt 200) 0 (passL j 0 (lst g (i + 1))) := by
  subst hn; exact pas_1 _ g j hb
theorem swp_2 (gt g : Nat → Int32) (j : Int32) {i n : Nat} (hn : n = (passL j 0 (lst g i)).length) (hb : ¬ g i = nI 0) : upd (upd (apF (gzF gt 200) 0 (passL j 0 (lst g i))) n ((nI 200 + j * nI (i % 5) - nI 2 * j) / nI 2)) (n + 1) (nI 200 + j * nI (i % 5) - nI 2 * j - (nI 200 + j * nI (i % 5) - nI 2 * j) / nI 2) = apF (gzF gt 200) 0 (passL j 0 (lst g (i + 1))) := by
  subst hn; exact pas_2 _ g j hb
theorem swp_n1 (g : Nat → Int32) (j : Int32) {i n : Nat} (hn : n = (passL j 0 (lst g i)).length) (hb : g i = nI 0) : n + 1 = (passL j 0 (lst g (i + 1))).length := by
  rw [pas_seg, List.length_append, seg_len, if_pos hb, hn]
theorem swp_n2 (g : Nat → Int32) (j : Int32) {i n : Nat} (hn : n = (passL j 0 (lst g i)).length) (hb : ¬ g i = nI 0) : n + 2 = (passL j 0 (lst g (i + 1))).length := by
  rw [pas_seg, List.length_append, seg_len, if_neg hb, hn]
theorem swp_end (gt : Nat → Int32) {z : Nat} {r f j : Int32} {nl : Nat} {gl : Nat → Int32} {i n : Nat} (hn : n = (passL j 0 (lst (bf (strp z (lst gl nl))) i)).length) (h1 : i ≤ 2 * z + 5 * (nl + 3)) (h2 : 2 * z + 5 * (nl + 3) ≤ i) : sF z r f j n nl gl (apF (gzF gt 200) 0 (passL j 0 (lst (bf (strp z (lst gl nl))) i))) = sF z r f j (passL j 0 (strp z (lst gl nl))).length nl gl (apF (gzF gt 200) 0 (passL j 0 (strp z (lst gl nl)))) := by
  obtain rfl : i = 2 * z + 5 * (nl + 3) := by omega
  rw [hn, lst_strp]
abbrev rm_kX6_in : Room := { frames := 0, cells := 0, slots := 0, locals := 0 }
set_option maxHeartbeats 4000000 in
set_option maxRecDepth 100000 in
theorem kX6_in (l : Launch) (v lo hi : Int32) : Met l yX6_in wsX6_in rm_kX6_in (pcN [.int v, .int lo, .int hi]) (vp_Si (fun zr : Int32 => zr = bI (inF v lo hi))) 0 0 (fun _ => False) := by
  refine Met.ofW (cc := cX6_in) (maxL := 3) (ret := (some .boolean)) (by decide) rfl ?_
  intro p e s m args below meth c s₁ B hml hv
  obtain ⟨rfl, -⟩ := hv
  have hx := B.exec
  have hb := B.bytes
  have hr := B.returns
  have hts := atoms_spec (ws := wsX6_in) B.pre
  have hown : s.vm.findClass RX6 = some m.cls := findClass_of_methodNamed B.named
  have hlocks := B.notSynchronized
  have hl := lv_entry ([.int v, .int lo, .int hi]) (n := 3) (kk_le rfl)
  rw [lg_entry_eq]
  generalize (lg_sl ([.int v, .int lo, .int hi]) ++ List.replicate (3 - (lg_sl ([.int v, .int lo, .int hi])).length) Slot.unset).toArray = ls at hl ⊢
  have hl : lv_has ls 3 [(0, .int v), (1, .int lo), (2, .int hi)] := hl
  refine lv_iload_n hx hb dX6_in_0 rfl (lv_at hl 0 rfl) ?_
  refine lv_iload_n hx hb dX6_in_1 rfl (lv_at hl 1 rfl) ?_
  refine lv_icmp_lt (tgt := 14) hx hb dX6_in_2 (by decide) (fun c1 => ?_) (fun c1 => ?_)
  · refine lv_iconst (v := nI 0) hx hb dX6_in_14 (by decide) ?_
    exact W.zret (v := nI 0) hx hb hr (by first | rfl | exact bI_nar _ | exact bI_fit _ | (first | exact Or.inl rfl | exact Or.inr rfl)) (fun t ht _ => ⟨_, rfl, by first | exact (congrArg bI (inF_lo (by assumption))).symm | exact (congrArg bI (inF_hi (by assumption))).symm | exact (congrArg bI (inF_in (by assumption) (by assumption))).symm, ht⟩) (fun _ h => nomatch h) dX6_in_15
  · refine lv_iload_n hx hb dX6_in_5 rfl (lv_at hl 0 rfl) ?_
    refine lv_iload_n hx hb dX6_in_6 rfl (lv_at hl 2 rfl) ?_
    refine lv_icmp_gt (tgt := 14) hx hb dX6_in_7 (by decide) (fun c2 => ?_) (fun c2 => ?_)
    · refine lv_iconst (v := nI 0) hx hb dX6_in_14 (by decide) ?_
      exact W.zret (v := nI 0) hx hb hr (by first | rfl | exact bI_nar _ | exact bI_fit _ | (first | exact Or.inl rfl | exact Or.inr rfl)) (fun t ht _ => ⟨_, rfl, by first | exact (congrArg bI (inF_lo (by assumption))).symm | exact (congrArg bI (inF_hi (by assumption))).symm | exact (congrArg bI (inF_in (by assumption) (by assumption))).symm, ht⟩) (fun _ h => nomatch h) dX6_in_15
    · refine lv_iconst (v := nI 1) hx hb dX6_in_10 (by decide) ?_
      refine lv_goto (tgt := 15) hx hb dX6_in_11 (by decide) ?_
      exact W.zret (v := nI 1) hx hb hr (by first | rfl | exact bI_nar _ | exact bI_fit _ | (first | exact Or.inl rfl | exact Or.inr rfl)) (fun t ht _ => ⟨_, rfl, by first | exact (congrArg bI (inF_lo (by assumption))).symm | exact (congrArg bI (inF_hi (by assumption))).symm | exact (congrArg bI (inF_in (by assumption) (by assumption))).symm, ht⟩) (fun _ h => nomatch h) dX6_in_15
abbrev rm_kX6_fails : Room := { frames := 0, cells := 0, slots := 0, locals := 0 }
set_option maxHeartbeats 4000000 in
set_option maxRecDepth 100000 in
theorem kX6_fails (l : Launch) (D : va_G) (ca : Nat → ClassId) (sz : Nat) (om a1 a2 a3 a4 a5 a6 a7 a8 a9 : Nat) (thr sv ln bm br ck sa lm rs at_ tm : Int32) (hs : Int64) (v : Int32) : Met l yX6_fails wsX6_fails rm_kX6_fails (pcM D ca [.ref om, .int v] [(om, .inr (6, [.int thr, .ref a1, .ref a2, .ref a3, .int sv, .ref a4, .ref a5, .ref a6, .int ln, .ref a7, .int bm, .int br, .int ck, .int sa, .ref a8, .int lm, .int rs, .int at_, .ref a9, .int tm, .long hs]))] sz) (va_Qi (fun (zr : Int32) (u : Unit) => zr = nI 0 ∧ True) (qB D (va_A [(om, .inr (6, [.int thr, .ref a1, .ref a2, .ref a3, .int sv, .ref a4, .ref a5, .ref a6, .int ln, .ref a7, .int bm, .int br, .int ck, .int sa, .ref a8, .int lm, .int rs, .int at_, .ref a9, .int tm, .long hs]))] sz) (fun u : Unit => [(om, .inr (6, [.int v, .ref a1, .ref a2, .ref a3, .int sv, .ref a4, .ref a5, .ref a6, .int ln, .ref a7, .int bm, .int br, .int ck, .int sa, .ref a8, .int lm, .int rs, .int at_, .ref a9, .int tm, .long hs]))])) (va_A [(om, .inr (6, [.int thr, .ref a1, .ref a2, .ref a3, .int sv, .ref a4, .ref a5, .ref a6, .int ln, .ref a7, .int bm, .int br, .int ck, .int sa, .ref a8, .int lm, .int rs, .int at_, .ref a9, .int tm, .long hs]))] sz)) 0 0 (va_A [(om, .inr (6, [.int thr, .ref a1, .ref a2, .ref a3, .int sv, .ref a4, .ref a5, .ref a6, .int ln, .ref a7, .int bm, .int br, .int ck, .int sa, .ref a8, .int lm, .int rs, .int at_, .ref a9, .int tm, .long hs]))] sz) := by
  refine Met.ofW (cc := cX6_fails) (maxL := 2) (ret := (some .int)) (by decide) rfl ?_
  intro p e s m args below meth c s₁ B hml hv
  obtain ⟨rfl, hsz, hP, hK, hD0⟩ := hv
  have hx := B.exec
  have hb := B.bytes
  have hr := B.returns
  have hts := atoms_spec (ws := wsX6_fails) B.pre
  have hown : s.vm.findClass RX6 = some m.cls := findClass_of_methodNamed B.named
  have hlocks := B.notSynchronized
  subst hsz
  have hD := hD0.self (sz := s.heap.size)
  generalize hAe : va_A [(om, .inr (6, [.int thr, .ref a1, .ref a2, .ref a3, .int sv, .ref a4, .ref a5, .ref a6, .int ln, .ref a7, .int bm, .int br, .int ck, .int sa, .ref a8, .int lm, .int rs, .int at_, .ref a9, .int tm, .long hs]))] s.heap.size = A at hD ⊢
  have hA : ∀ q : Nat, s.heap.size ≤ q → A q := fun q h => by rw [← hAe]; exact Or.inr h
  have hS : va_S A s.heap s.heap [] := va_S.rf
  have hP : va_P D vwCl [(om, .inr (6, [.int thr, .ref a1, .ref a2, .ref a3, .int sv, .ref a4, .ref a5, .ref a6, .int ln, .ref a7, .int bm, .int br, .int ck, .int sa, .ref a8, .int lm, .int rs, .int at_, .ref a9, .int tm, .long hs]))] s.heap := hP
  have hKv := hK.1
  have hl := lv_entry ([.ref om, .int v]) (n := 2) (kk_le rfl)
  rw [lg_entry_eq]
  generalize (lg_sl ([.ref om, .int v]) ++ List.replicate (2 - (lg_sl ([.ref om, .int v])).length) Slot.unset).toArray = ls at hl ⊢
  have hl : lv_has ls 2 [(0, .ref om), (1, .int v)] := hl
  have hiX6 : ∀ w ∈ u_ws RX6 TX6 21, w ∈ wsX6_fails := fun w h => by first | exact List.mem_cons_of_mem _ (List.mem_append_right _ h) | exact List.mem_cons_of_mem _ (List.mem_append_left _ (List.mem_append_right _ h)) | exact List.mem_cons_of_mem _ (List.mem_append_left _ (List.mem_append_left _ (List.mem_append_right _ h))) | exact List.mem_cons_of_mem _ (List.mem_append_left _ (List.mem_append_left _ (List.mem_append_left _ (List.mem_append_right _ h)))) | (revert w h; decide +kernel)
  have lk38 : (Cond.fieldLink RX6 38 "StripeSwipesModel" "thrown" "I").before _ s = true := hts _ (by decide +kernel)
  refine lv_aload_n hx hb dX6_fails_0 rfl (lv_at hl 0 rfl) ?_
  refine lv_iload_n hx hb dX6_fails_1 rfl (lv_at hl 1 rfl) ?_
  refine va_put (D := D) (ci := 6) (v := .int v) (ty := .int) (C := RX6) (T := TX6) (N := 21) hx hb hts hiX6 tyX6 tyX6_ok nmX6 hown hKv hP hD hS 0 rfl rfl 0 (by decide) lk38 (fun _ h9 => h9) rfl (by decide +kernel) rfl rfl (kk_le rfl) dX6_fails_2 (fun H locs hP hD hS => ?_)
  have hP : va_P D vwCl [(om, .inr (6, [.int v, .ref a1, .ref a2, .ref a3, .int sv, .ref a4, .ref a5, .ref a6, .int ln, .ref a7, .int bm, .int br, .int ck, .int sa, .ref a8, .int lm, .int rs, .int at_, .ref a9, .int tm, .long hs]))] H := hP
  have hD : va_D A [(om, .inr (6, [.int v, .ref a1, .ref a2, .ref a3, .int sv, .ref a4, .ref a5, .ref a6, .int ln, .ref a7, .int bm, .int br, .int ck, .int sa, .ref a8, .int lm, .int rs, .int at_, .ref a9, .int tm, .long hs]))] := hD
  refine lv_iconst (v := nI 0) hx hb dX6_fails_5 (by decide) ?_
  exact W.iret (v := nI 0) hx hb hr (fun t ht hW => ⟨⟨_, (), rfl, ⟨by rfl, by trivial⟩, by rw [ht]; exact hP, hD⟩, hS.F ht⟩) hS.2.2 dX6_fails_6
abbrev rm_kX6_thrown : Room := { frames := 0, cells := 0, slots := 0, locals := 0 }
set_option maxHeartbeats 4000000 in
set_option maxRecDepth 100000 in
theorem kX6_thrown (l : Launch) (D : va_G) (ca : Nat → ClassId) (om a1 a2 a3 a4 a5 a6 a7 a8 a9 : Nat) (thr sv ln bm br ck sa lm rs at_ tm : Int32) (hs : Int64) : Met l yX6_thrown wsX6_thrown rm_kX6_thrown (pcR D ca [.ref om] [(om, .inr (6, [.int thr, .ref a1, .ref a2, .ref a3, .int sv, .ref a4, .ref a5, .ref a6, .int ln, .ref a7, .int bm, .int br, .int ck, .int sa, .ref a8, .int lm, .int rs, .int at_, .ref a9, .int tm, .long hs]))]) (vp_Si (fun zr : Int32 => zr = thr)) 0 0 (fun _ => False) := by
  refine Met.ofW (cc := cX6_thrown) (maxL := 1) (ret := (some .int)) (by decide) rfl ?_
  intro p e s m args below meth c s₁ B hml hv
  obtain ⟨rfl, hP, hK⟩ := hv
  have hx := B.exec
  have hb := B.bytes
  have hr := B.returns
  have hts := atoms_spec (ws := wsX6_thrown) B.pre
  have hown : s.vm.findClass RX6 = some m.cls := findClass_of_methodNamed B.named
  have hlocks := B.notSynchronized
  have hKv := hK.1
  have hl := lv_entry ([.ref om]) (n := 1) (kk_le rfl)
  rw [lg_entry_eq]
  generalize (lg_sl ([.ref om]) ++ List.replicate (1 - (lg_sl ([.ref om])).length) Slot.unset).toArray = ls at hl ⊢
  have hl : lv_has ls 1 [(0, .ref om)] := hl
  have hiX6 : ∀ w ∈ u_ws RX6 TX6 21, w ∈ wsX6_thrown := fun w h => by first | exact List.mem_cons_of_mem _ (List.mem_append_right _ h) | exact List.mem_cons_of_mem _ (List.mem_append_left _ (List.mem_append_right _ h)) | exact List.mem_cons_of_mem _ (List.mem_append_left _ (List.mem_append_left _ (List.mem_append_right _ h))) | exact List.mem_cons_of_mem _ (List.mem_append_left _ (List.mem_append_left _ (List.mem_append_left _ (List.mem_append_right _ h)))) | (revert w h; decide +kernel)
  have lk38 : (Cond.fieldLink RX6 38 "StripeSwipesModel" "thrown" "I").before _ s = true := hts _ (by decide +kernel)
  refine lv_aload_n hx hb dX6_thrown_0 rfl (lv_at hl 0 rfl) ?_
  refine va_get (D := D) (ci := 6) (C := RX6) (T := TX6) (N := 21) hx hb hts hiX6 hown hKv hP 0 rfl rfl 0 (by decide) lk38 (fun _ h9 => h9) rfl dX6_thrown_1 ?_
  exact W.iret (v := thr) hx hb hr (fun t ht _ => ⟨_, rfl, by first | rfl | assumption | omega | trivial | (exfalso; omega), ht⟩) (fun _ h => nomatch h) dX6_thrown_4
abbrev rm_kX6_saves : Room := { frames := 0, cells := 0, slots := 0, locals := 0 }
set_option maxHeartbeats 4000000 in
set_option maxRecDepth 100000 in
theorem kX6_saves (l : Launch) (D : va_G) (ca : Nat → ClassId) (sz : Nat) (om a1 a2 a3 a4 a5 a6 a7 a8 a9 : Nat) (thr ln bm br ck sa lm rs at_ tm : Int32) (hs : Int64) (z : Nat) (r f j : Int32) (nt nl : Nat) (gl gt : Nat → Int32) (sv : Nat) (fv : Nat → Int32) (hsv : sv ≤ 6) : Met l yX6_saves wsX6_saves rm_kX6_saves (pcM D ca [.ref om] [(om, .inr (6, [.int thr, .ref a1, .ref a2, .ref a3, .int (nI sv), .ref a4, .ref a5, .ref a6, .int ln, .ref a7, .int bm, .int br, .int ck, .int sa, .ref a8, .int lm, .int rs, .int at_, .ref a9, .int tm, .long hs])), (a1, .inl (ca 0, 226, .inl (sF z r f j nt nl gl gt))), (a3, .inl (ca 0, 1356, .inl fv))] sz) (va_Qv (fun (u : Unit) => True) (qB D (va_A [(om, .inr (6, [.int thr, .ref a1, .ref a2, .ref a3, .int (nI sv), .ref a4, .ref a5, .ref a6, .int ln, .ref a7, .int bm, .int br, .int ck, .int sa, .ref a8, .int lm, .int rs, .int at_, .ref a9, .int tm, .long hs])), (a1, .inl (ca 0, 226, .inl (sF z r f j nt nl gl gt))), (a3, .inl (ca 0, 1356, .inl fv))] sz) (fun u : Unit => [(om, .inr (6, [.int thr, .ref a1, .ref a2, .ref a3, .int (nI (svN sv)), .ref a4, .ref a5, .ref a6, .int ln, .ref a7, .int bm, .int br, .int ck, .int sa, .ref a8, .int lm, .int rs, .int at_, .ref a9, .int tm, .long hs])), (a1, .inl (ca 0, 226, .inl (sF z r f j nt nl gl gt))), (a3, .inl (ca 0, 1356, .inl (savF fv sv (sF z r f j nt nl gl gt))))])) (va_A [(om, .inr (6, [.int thr, .ref a1, .ref a2, .ref a3, .int (nI sv), .ref a4, .ref a5, .ref a6, .int ln, .ref a7, .int bm, .int br, .int ck, .int sa, .ref a8, .int lm, .int rs, .int at_, .ref a9, .int tm, .long hs])), (a1, .inl (ca 0, 226, .inl (sF z r f j nt nl gl gt))), (a3, .inl (ca 0, 1356, .inl fv))] sz)) 0 0 (va_A [(om, .inr (6, [.int thr, .ref a1, .ref a2, .ref a3, .int (nI sv), .ref a4, .ref a5, .ref a6, .int ln, .ref a7, .int bm, .int br, .int ck, .int sa, .ref a8, .int lm, .int rs, .int at_, .ref a9, .int tm, .long hs])), (a1, .inl (ca 0, 226, .inl (sF z r f j nt nl gl gt))), (a3, .inl (ca 0, 1356, .inl fv))] sz) := by
  refine Met.ofW (cc := cX6_saves) (maxL := 2) (ret := none) (by decide) rfl ?_
  intro p e s m args below meth c s₁ B hml hv
  obtain ⟨rfl, hsz, hP, hK, hD0⟩ := hv
  have hx := B.exec
  have hb := B.bytes
  have hr := B.returns
  have hts := atoms_spec (ws := wsX6_saves) B.pre
  have hown : s.vm.findClass RX6 = some m.cls := findClass_of_methodNamed B.named
  have hlocks := B.notSynchronized
  subst hsz
  have hD := hD0.self (sz := s.heap.size)
  generalize hAe : va_A [(om, .inr (6, [.int thr, .ref a1, .ref a2, .ref a3, .int (nI sv), .ref a4, .ref a5, .ref a6, .int ln, .ref a7, .int bm, .int br, .int ck, .int sa, .ref a8, .int lm, .int rs, .int at_, .ref a9, .int tm, .long hs])), (a1, .inl (ca 0, 226, .inl (sF z r f j nt nl gl gt))), (a3, .inl (ca 0, 1356, .inl fv))] s.heap.size = A at hD ⊢
  have hA : ∀ q : Nat, s.heap.size ≤ q → A q := fun q h => by rw [← hAe]; exact Or.inr h
  have hS : va_S A s.heap s.heap [] := va_S.rf
  have hP : va_P D vwCl [(om, .inr (6, [.int thr, .ref a1, .ref a2, .ref a3, .int (nI sv), .ref a4, .ref a5, .ref a6, .int ln, .ref a7, .int bm, .int br, .int ck, .int sa, .ref a8, .int lm, .int rs, .int at_, .ref a9, .int tm, .long hs])), (a1, .inl (ca 0, 226, .inl (sF z r f j nt nl gl gt))), (a3, .inl (ca 0, 1356, .inl fv))] s.heap := hP
  have hKv := hK.1
  have hl := lv_entry ([.ref om]) (n := 2) (kk_le rfl)
  rw [lg_entry_eq]
  generalize (lg_sl ([.ref om]) ++ List.replicate (2 - (lg_sl ([.ref om])).length) Slot.unset).toArray = ls at hl ⊢
  have hl : lv_has ls 2 [(0, .ref om)] := hl
  generalize hQz : MQ below _ _ _ _ _ _ = Qz
  have hiX6 : ∀ w ∈ u_ws RX6 TX6 21, w ∈ wsX6_saves := fun w h => by first | exact List.mem_cons_of_mem _ (List.mem_append_right _ h) | exact List.mem_cons_of_mem _ (List.mem_append_left _ (List.mem_append_right _ h)) | exact List.mem_cons_of_mem _ (List.mem_append_left _ (List.mem_append_left _ (List.mem_append_right _ h))) | exact List.mem_cons_of_mem _ (List.mem_append_left _ (List.mem_append_left _ (List.mem_append_left _ (List.mem_append_right _ h)))) | (revert w h; decide +kernel)
  have lk42 : (Cond.fieldLink RX6 42 "StripeSwipesModel" "savedMany" "I").before _ s = true := hts _ (by decide +kernel)
  have lk16 : (Cond.fieldLink RX6 16 "StripeSwipesModel" "saved" "[I").before _ s = true := hts _ (by decide +kernel)
  have lk7 : (Cond.fieldLink RX6 7 "StripeSwipesModel" "s" "[I").before _ s = true := hts _ (by decide +kernel)
  refine lv_aload_n hx hb dX6_saves_0 rfl (lv_at hl 0 rfl) ?_
  refine va_get (D := D) (ci := 6) (C := RX6) (T := TX6) (N := 21) hx hb hts hiX6 hown hKv hP 0 rfl rfl 4 (by decide) lk42 (fun _ h9 => h9) rfl dX6_saves_1 ?_
  refine lv_bipush (v := nI 6) hx hb dX6_saves_4 (by decide) ?_
  refine ni_icmp_ne (tgt := 50) (by omega) (by omega) hx hb dX6_saves_6 (by decide) (fun c1 => ?_) (fun c1 => ?_)
  · refine lv_iconst (v := nI 0) hx hb dX6_saves_50 (by decide) ?_
    refine lv_istore_n (lv' := [(1, .int (nI 0)), (0, .ref om)]) hx hb dX6_saves_51 rfl hl (by decide) rfl (fun ls hl => ?_)
    have lp52_1 : ∀ (k1 : Nat) (i sw : Nat) (fw : Nat → Int32), 226 - i < k1 → (i ≤ 226) → (sv = 6 ∧ sw = 5 ∧ fw = shF fv 1130 ∨ sv < 6 ∧ sw = sv ∧ fw = fv) → ∀ (H : Heap) (locs : List Loc), va_P D vwCl [(om, .inr (6, [.int thr, .ref a1, .ref a2, .ref a3, .int (nI sw), .ref a4, .ref a5, .ref a6, .int ln, .ref a7, .int bm, .int br, .int ck, .int sa, .ref a8, .int lm, .int rs, .int at_, .ref a9, .int tm, .long hs])), (a1, .inl (ca 0, 226, .inl (sF z r f j nt nl gl gt))), (a3, .inl (ca 0, 1356, .inl (plF fw (sF z r f j nt nl gl gt) (226 * sw) i)))] H → va_D A [(om, .inr (6, [.int thr, .ref a1, .ref a2, .ref a3, .int (nI sw), .ref a4, .ref a5, .ref a6, .int ln, .ref a7, .int bm, .int br, .int ck, .int sa, .ref a8, .int lm, .int rs, .int at_, .ref a9, .int tm, .long hs])), (a1, .inl (ca 0, 226, .inl (sF z r f j nt nl gl gt))), (a3, .inl (ca 0, 1356, .inl (plF fw (sF z r f j nt nl gl gt) (226 * sw) i)))] → va_S A s.heap H locs → ∀ (ls : Array Slot), lv_has ls 2 [(1, .int (nI i)), (0, .ref om)] → W p l e rm_kX6_saves s m ([.ref om] : List Value).toArray below meth c H locs 0 0 Qz (F0 m 52 ls []) := by
      intro k1
      induction k1 with
      | zero => intro i sw fw hm1; exact absurd hm1 (Nat.not_lt_zero _)
      | succ k1 ih1 =>
        intro i sw fw hm1 hi hsw H locs hP hD hS ls hl
        refine lv_iload_n hx hb dX6_saves_52 rfl (lv_at hl 0 rfl) ?_
        refine lv_sipush (v := nI 226) hx hb dX6_saves_53 (by decide) ?_
        refine ni_icmp_ge (tgt := 86) (by omega) (by omega) hx hb dX6_saves_56 (by decide) (fun c3 => ?_) (fun c3 => ?_)
        · refine lv_aload_n hx hb dX6_saves_86 rfl (lv_at hl 1 rfl) ?_
          refine lv_dup hx hb dX6_saves_87 rfl ?_
          refine va_get (D := D) (ci := 6) (C := RX6) (T := TX6) (N := 21) hx hb hts hiX6 hown hKv hP 0 rfl rfl 4 (by decide) lk42 (fun _ h9 => h9) rfl dX6_saves_88 ?_
          refine lv_iconst (v := nI 1) hx hb dX6_saves_91 (by decide) ?_
          refine ni_iadd hx hb dX6_saves_92 ?_
          refine va_put (D := D) (ci := 6) (v := .int (nI (sw + 1))) (ty := .int) (C := RX6) (T := TX6) (N := 21) hx hb hts hiX6 tyX6 tyX6_ok nmX6 hown hKv hP hD hS 0 rfl rfl 4 (by decide) lk42 (fun _ h9 => h9) rfl (by decide +kernel) rfl rfl (kk_le rfl) dX6_saves_93 (fun H locs hP hD hS => ?_)
          have hP : va_P D vwCl [(om, .inr (6, [.int thr, .ref a1, .ref a2, .ref a3, .int (nI (sw + 1)), .ref a4, .ref a5, .ref a6, .int ln, .ref a7, .int bm, .int br, .int ck, .int sa, .ref a8, .int lm, .int rs, .int at_, .ref a9, .int tm, .long hs])), (a1, .inl (ca 0, 226, .inl (sF z r f j nt nl gl gt))), (a3, .inl (ca 0, 1356, .inl (plF fw (sF z r f j nt nl gl gt) (226 * sw) i)))] H := hP
          have hD : va_D A [(om, .inr (6, [.int thr, .ref a1, .ref a2, .ref a3, .int (nI (sw + 1)), .ref a4, .ref a5, .ref a6, .int ln, .ref a7, .int bm, .int br, .int ck, .int sa, .ref a8, .int lm, .int rs, .int at_, .ref a9, .int tm, .long hs])), (a1, .inl (ca 0, 226, .inl (sF z r f j nt nl gl gt))), (a3, .inl (ca 0, 1356, .inl (plF fw (sF z r f j nt nl gl gt) (226 * sw) i)))] := hD
          subst hQz
          have e4 : (nI (sw + 1) : Int32) = nI (svN sv) := by first | exact sav_n hsw | exact sav_f hsw (by omega) (by omega)
          have hP : va_P D vwCl [(om, .inr (6, [.int thr, .ref a1, .ref a2, .ref a3, .int (nI (svN sv)), .ref a4, .ref a5, .ref a6, .int ln, .ref a7, .int bm, .int br, .int ck, .int sa, .ref a8, .int lm, .int rs, .int at_, .ref a9, .int tm, .long hs])), (a1, .inl (ca 0, 226, .inl (sF z r f j nt nl gl gt))), (a3, .inl (ca 0, 1356, .inl (plF fw (sF z r f j nt nl gl gt) (226 * sw) i)))] H := Eq.mp (congrArg (fun z9 : Int32 => va_P D vwCl [(om, .inr (6, [.int thr, .ref a1, .ref a2, .ref a3, .int z9, .ref a4, .ref a5, .ref a6, .int ln, .ref a7, .int bm, .int br, .int ck, .int sa, .ref a8, .int lm, .int rs, .int at_, .ref a9, .int tm, .long hs])), (a1, .inl (ca 0, 226, .inl (sF z r f j nt nl gl gt))), (a3, .inl (ca 0, 1356, .inl (plF fw (sF z r f j nt nl gl gt) (226 * sw) i)))] H) e4) hP
          have hD : va_D A [(om, .inr (6, [.int thr, .ref a1, .ref a2, .ref a3, .int (nI (svN sv)), .ref a4, .ref a5, .ref a6, .int ln, .ref a7, .int bm, .int br, .int ck, .int sa, .ref a8, .int lm, .int rs, .int at_, .ref a9, .int tm, .long hs])), (a1, .inl (ca 0, 226, .inl (sF z r f j nt nl gl gt))), (a3, .inl (ca 0, 1356, .inl (plF fw (sF z r f j nt nl gl gt) (226 * sw) i)))] := Eq.mp (congrArg (fun z9 : Int32 => va_D A [(om, .inr (6, [.int thr, .ref a1, .ref a2, .ref a3, .int z9, .ref a4, .ref a5, .ref a6, .int ln, .ref a7, .int bm, .int br, .int ck, .int sa, .ref a8, .int lm, .int rs, .int at_, .ref a9, .int tm, .long hs])), (a1, .inl (ca 0, 226, .inl (sF z r f j nt nl gl gt))), (a3, .inl (ca 0, 1356, .inl (plF fw (sF z r f j nt nl gl gt) (226 * sw) i)))]) e4) hD
          have e5 : (plF fw (sF z r f j nt nl gl gt) (226 * sw) i : Nat → Int32) = savF fv sv (sF z r f j nt nl gl gt) := by first | exact sav_n hsw | exact sav_f hsw (by omega) (by omega)
          have hP : va_P D vwCl [(om, .inr (6, [.int thr, .ref a1, .ref a2, .ref a3, .int (nI (svN sv)), .ref a4, .ref a5, .ref a6, .int ln, .ref a7, .int bm, .int br, .int ck, .int sa, .ref a8, .int lm, .int rs, .int at_, .ref a9, .int tm, .long hs])), (a1, .inl (ca 0, 226, .inl (sF z r f j nt nl gl gt))), (a3, .inl (ca 0, 1356, .inl (savF fv sv (sF z r f j nt nl gl gt))))] H := Eq.mp (congrArg (fun z9 : Nat → Int32 => va_P D vwCl [(om, .inr (6, [.int thr, .ref a1, .ref a2, .ref a3, .int (nI (svN sv)), .ref a4, .ref a5, .ref a6, .int ln, .ref a7, .int bm, .int br, .int ck, .int sa, .ref a8, .int lm, .int rs, .int at_, .ref a9, .int tm, .long hs])), (a1, .inl (ca 0, 226, .inl (sF z r f j nt nl gl gt))), (a3, .inl (ca 0, 1356, .inl z9))] H) e5) hP
          have hD : va_D A [(om, .inr (6, [.int thr, .ref a1, .ref a2, .ref a3, .int (nI (svN sv)), .ref a4, .ref a5, .ref a6, .int ln, .ref a7, .int bm, .int br, .int ck, .int sa, .ref a8, .int lm, .int rs, .int at_, .ref a9, .int tm, .long hs])), (a1, .inl (ca 0, 226, .inl (sF z r f j nt nl gl gt))), (a3, .inl (ca 0, 1356, .inl (savF fv sv (sF z r f j nt nl gl gt))))] := Eq.mp (congrArg (fun z9 : Nat → Int32 => va_D A [(om, .inr (6, [.int thr, .ref a1, .ref a2, .ref a3, .int (nI (svN sv)), .ref a4, .ref a5, .ref a6, .int ln, .ref a7, .int bm, .int br, .int ck, .int sa, .ref a8, .int lm, .int rs, .int at_, .ref a9, .int tm, .long hs])), (a1, .inl (ca 0, 226, .inl (sF z r f j nt nl gl gt))), (a3, .inl (ca 0, 1356, .inl z9))]) e5) hD
          exact W.vret hx hb hr (fun t ht hW => ⟨⟨(), rfl, by trivial, by rw [ht]; exact hP, hD⟩, hS.F ht⟩) hS.2.2 dX6_saves_96
        · refine lv_aload_n hx hb dX6_saves_59 rfl (lv_at hl 1 rfl) ?_
          refine va_get (D := D) (ci := 6) (C := RX6) (T := TX6) (N := 21) hx hb hts hiX6 hown hKv hP 0 rfl rfl 3 (by decide) lk16 (fun _ h9 => h9) rfl dX6_saves_60 ?_
          refine lv_sipush (v := nI 226) hx hb dX6_saves_63 (by decide) ?_
          refine lv_aload_n hx hb dX6_saves_66 rfl (lv_at hl 1 rfl) ?_
          refine va_get (D := D) (ci := 6) (C := RX6) (T := TX6) (N := 21) hx hb hts hiX6 hown hKv hP 0 rfl rfl 4 (by decide) lk42 (fun _ h9 => h9) rfl dX6_saves_67 ?_
          refine ni_imul hx hb dX6_saves_70 ?_
          refine lv_iload_n hx hb dX6_saves_71 rfl (lv_at hl 0 rfl) ?_
          refine ni_iadd hx hb dX6_saves_72 ?_
          refine lv_aload_n hx hb dX6_saves_73 rfl (lv_at hl 1 rfl) ?_
          refine va_get (D := D) (ci := 6) (C := RX6) (T := TX6) (N := 21) hx hb hts hiX6 hown hKv hP 0 rfl rfl 1 (by decide) lk7 (fun _ h9 => h9) rfl dX6_saves_74 ?_
          refine lv_iload_n hx hb dX6_saves_77 rfl (lv_at hl 0 rfl) ?_
          refine my_iald hx hb hK hP 1 rfl (by omega) (by omega) dX6_saves_78 ?_
          refine my_iast hx hb hK hP hD hS 2 rfl (by omega) (by omega) dX6_saves_79 (fun H locs hP hD hS => ?_)
          have hP : va_P D vwCl [(om, .inr (6, [.int thr, .ref a1, .ref a2, .ref a3, .int (nI sw), .ref a4, .ref a5, .ref a6, .int ln, .ref a7, .int bm, .int br, .int ck, .int sa, .ref a8, .int lm, .int rs, .int at_, .ref a9, .int tm, .long hs])), (a1, .inl (ca 0, 226, .inl (sF z r f j nt nl gl gt))), (a3, .inl (ca 0, 1356, .inl (upd (plF fw (sF z r f j nt nl gl gt) (226 * sw) i) ((226 * sw) + i) ((sF z r f j nt nl gl gt) i))))] H := hP
          have hD : va_D A [(om, .inr (6, [.int thr, .ref a1, .ref a2, .ref a3, .int (nI sw), .ref a4, .ref a5, .ref a6, .int ln, .ref a7, .int bm, .int br, .int ck, .int sa, .ref a8, .int lm, .int rs, .int at_, .ref a9, .int tm, .long hs])), (a1, .inl (ca 0, 226, .inl (sF z r f j nt nl gl gt))), (a3, .inl (ca 0, 1356, .inl (upd (plF fw (sF z r f j nt nl gl gt) (226 * sw) i) ((226 * sw) + i) ((sF z r f j nt nl gl gt) i))))] := hD
          refine lv_iinc (v := nI (i + 1)) (lv' := [(1, .int (nI (i + 1))), (0, .ref om)]) hx hb dX6_saves_80 hl (k := 0) rfl (ni_inc _ _ (by decide)) (by decide) rfl (fun ls hl => ?_)
          refine lv_goto (tgt := 52) hx hb dX6_saves_83 (by decide) ?_
          have e6 : (upd (plF fw (sF z r f j nt nl gl gt) (226 * sw) i) ((226 * sw) + i) ((sF z r f j nt nl gl gt) i) : Nat → Int32) = plF fw (sF z r f j nt nl gl gt) (226 * sw) (i + 1) := by exact plF_step _ _ _ _
          have hP : va_P D vwCl [(om, .inr (6, [.int thr, .ref a1, .ref a2, .ref a3, .int (nI sw), .ref a4, .ref a5, .ref a6, .int ln, .ref a7, .int bm, .int br, .int ck, .int sa, .ref a8, .int lm, .int rs, .int at_, .ref a9, .int tm, .long hs])), (a1, .inl (ca 0, 226, .inl (sF z r f j nt nl gl gt))), (a3, .inl (ca 0, 1356, .inl (plF fw (sF z r f j nt nl gl gt) (226 * sw) (i + 1))))] H := Eq.mp (congrArg (fun z9 : Nat → Int32 => va_P D vwCl [(om, .inr (6, [.int thr, .ref a1, .ref a2, .ref a3, .int (nI sw), .ref a4, .ref a5, .ref a6, .int ln, .ref a7, .int bm, .int br, .int ck, .int sa, .ref a8, .int lm, .int rs, .int at_, .ref a9, .int tm, .long hs])), (a1, .inl (ca 0, 226, .inl (sF z r f j nt nl gl gt))), (a3, .inl (ca 0, 1356, .inl z9))] H) e6) hP
          have hD : va_D A [(om, .inr (6, [.int thr, .ref a1, .ref a2, .ref a3, .int (nI sw), .ref a4, .ref a5, .ref a6, .int ln, .ref a7, .int bm, .int br, .int ck, .int sa, .ref a8, .int lm, .int rs, .int at_, .ref a9, .int tm, .long hs])), (a1, .inl (ca 0, 226, .inl (sF z r f j nt nl gl gt))), (a3, .inl (ca 0, 1356, .inl (plF fw (sF z r f j nt nl gl gt) (226 * sw) (i + 1))))] := Eq.mp (congrArg (fun z9 : Nat → Int32 => va_D A [(om, .inr (6, [.int thr, .ref a1, .ref a2, .ref a3, .int (nI sw), .ref a4, .ref a5, .ref a6, .int ln, .ref a7, .int bm, .int br, .int ck, .int sa, .ref a8, .int lm, .int rs, .int at_, .ref a9, .int tm, .long hs])), (a1, .inl (ca 0, 226, .inl (sF z r f j nt nl gl gt))), (a3, .inl (ca 0, 1356, .inl z9))]) e6) hD
          exact ih1 (i + 1) sw fw (by omega) (by omega) (by exact hsw) _ _ hP hD hS ls (lv_sub hl [0, 1] rfl)
    have e7 : (fv : Nat → Int32) = plF fv (sF z r f j nt nl gl gt) (226 * sv) 0 := by first | exact (plF_0 _ _ _).symm | exact (plF_0a _ _ _ (by omega)).symm
    have hP : va_P D vwCl [(om, .inr (6, [.int thr, .ref a1, .ref a2, .ref a3, .int (nI sv), .ref a4, .ref a5, .ref a6, .int ln, .ref a7, .int bm, .int br, .int ck, .int sa, .ref a8, .int lm, .int rs, .int at_, .ref a9, .int tm, .long hs])), (a1, .inl (ca 0, 226, .inl (sF z r f j nt nl gl gt))), (a3, .inl (ca 0, 1356, .inl (plF fv (sF z r f j nt nl gl gt) (226 * sv) 0)))] s.heap := Eq.mp (congrArg (fun z9 : Nat → Int32 => va_P D vwCl [(om, .inr (6, [.int thr, .ref a1, .ref a2, .ref a3, .int (nI sv), .ref a4, .ref a5, .ref a6, .int ln, .ref a7, .int bm, .int br, .int ck, .int sa, .ref a8, .int lm, .int rs, .int at_, .ref a9, .int tm, .long hs])), (a1, .inl (ca 0, 226, .inl (sF z r f j nt nl gl gt))), (a3, .inl (ca 0, 1356, .inl z9))] s.heap) e7) hP
    have hD : va_D A [(om, .inr (6, [.int thr, .ref a1, .ref a2, .ref a3, .int (nI sv), .ref a4, .ref a5, .ref a6, .int ln, .ref a7, .int bm, .int br, .int ck, .int sa, .ref a8, .int lm, .int rs, .int at_, .ref a9, .int tm, .long hs])), (a1, .inl (ca 0, 226, .inl (sF z r f j nt nl gl gt))), (a3, .inl (ca 0, 1356, .inl (plF fv (sF z r f j nt nl gl gt) (226 * sv) 0)))] := Eq.mp (congrArg (fun z9 : Nat → Int32 => va_D A [(om, .inr (6, [.int thr, .ref a1, .ref a2, .ref a3, .int (nI sv), .ref a4, .ref a5, .ref a6, .int ln, .ref a7, .int bm, .int br, .int ck, .int sa, .ref a8, .int lm, .int rs, .int at_, .ref a9, .int tm, .long hs])), (a1, .inl (ca 0, 226, .inl (sF z r f j nt nl gl gt))), (a3, .inl (ca 0, 1356, .inl z9))]) e7) hD
    exact lp52_1 ((226 - 0) + 1) 0 sv fv (by omega) (by omega) (by first | exact Or.inl ⟨by omega, by omega, congrArg (shF fv) (by omega)⟩ | exact Or.inr ⟨by omega, rfl, rfl⟩) _ _ hP hD hS ls (lv_sub hl [0, 1] rfl)
  · refine lv_iconst (v := nI 0) hx hb dX6_saves_9 (by decide) ?_
    refine lv_istore_n (lv' := [(1, .int (nI 0)), (0, .ref om)]) hx hb dX6_saves_10 rfl hl (by decide) rfl (fun ls hl => ?_)
    have lp11_7 : ∀ (k2 : Nat) (i : Nat), 1130 - i < k2 → (i ≤ 1130) → ∀ (H : Heap) (locs : List Loc), va_P D vwCl [(om, .inr (6, [.int thr, .ref a1, .ref a2, .ref a3, .int (nI sv), .ref a4, .ref a5, .ref a6, .int ln, .ref a7, .int bm, .int br, .int ck, .int sa, .ref a8, .int lm, .int rs, .int at_, .ref a9, .int tm, .long hs])), (a1, .inl (ca 0, 226, .inl (sF z r f j nt nl gl gt))), (a3, .inl (ca 0, 1356, .inl (shF fv i)))] H → va_D A [(om, .inr (6, [.int thr, .ref a1, .ref a2, .ref a3, .int (nI sv), .ref a4, .ref a5, .ref a6, .int ln, .ref a7, .int bm, .int br, .int ck, .int sa, .ref a8, .int lm, .int rs, .int at_, .ref a9, .int tm, .long hs])), (a1, .inl (ca 0, 226, .inl (sF z r f j nt nl gl gt))), (a3, .inl (ca 0, 1356, .inl (shF fv i)))] → va_S A s.heap H locs → ∀ (ls : Array Slot), lv_has ls 2 [(1, .int (nI i)), (0, .ref om)] → W p l e rm_kX6_saves s m ([.ref om] : List Value).toArray below meth c H locs 0 0 Qz (F0 m 11 ls []) := by
      intro k2
      induction k2 with
      | zero => intro i hm2; exact absurd hm2 (Nat.not_lt_zero _)
      | succ k2 ih2 =>
        intro i hm2 hi H locs hP hD hS ls hl
        refine lv_iload_n hx hb dX6_saves_11 rfl (lv_at hl 0 rfl) ?_
        refine lv_sipush (v := nI 1130) hx hb dX6_saves_12 (by decide) ?_
        refine ni_icmp_ge (tgt := 40) (by omega) (by omega) hx hb dX6_saves_15 (by decide) (fun c9 => ?_) (fun c9 => ?_)
        · refine lv_aload_n hx hb dX6_saves_40 rfl (lv_at hl 1 rfl) ?_
          refine lv_dup hx hb dX6_saves_41 rfl ?_
          refine va_get (D := D) (ci := 6) (C := RX6) (T := TX6) (N := 21) hx hb hts hiX6 hown hKv hP 0 rfl rfl 4 (by decide) lk42 (fun _ h9 => h9) rfl dX6_saves_42 ?_
          refine lv_iconst (v := nI 1) hx hb dX6_saves_45 (by decide) ?_
          refine ni_isub (by omega) hx hb dX6_saves_46 ?_
          refine va_put (D := D) (ci := 6) (v := .int (nI (sv - 1))) (ty := .int) (C := RX6) (T := TX6) (N := 21) hx hb hts hiX6 tyX6 tyX6_ok nmX6 hown hKv hP hD hS 0 rfl rfl 4 (by decide) lk42 (fun _ h9 => h9) rfl (by decide +kernel) rfl rfl (kk_le rfl) dX6_saves_47 (fun H locs hP hD hS => ?_)
          have hP : va_P D vwCl [(om, .inr (6, [.int thr, .ref a1, .ref a2, .ref a3, .int (nI (sv - 1)), .ref a4, .ref a5, .ref a6, .int ln, .ref a7, .int bm, .int br, .int ck, .int sa, .ref a8, .int lm, .int rs, .int at_, .ref a9, .int tm, .long hs])), (a1, .inl (ca 0, 226, .inl (sF z r f j nt nl gl gt))), (a3, .inl (ca 0, 1356, .inl (shF fv i)))] H := hP
          have hD : va_D A [(om, .inr (6, [.int thr, .ref a1, .ref a2, .ref a3, .int (nI (sv - 1)), .ref a4, .ref a5, .ref a6, .int ln, .ref a7, .int bm, .int br, .int ck, .int sa, .ref a8, .int lm, .int rs, .int at_, .ref a9, .int tm, .long hs])), (a1, .inl (ca 0, 226, .inl (sF z r f j nt nl gl gt))), (a3, .inl (ca 0, 1356, .inl (shF fv i)))] := hD
          refine lv_iconst (v := nI 0) hx hb dX6_saves_50 (by decide) ?_
          refine lv_istore_n (lv' := [(1, .int (nI 0)), (0, .ref om)]) hx hb dX6_saves_51 rfl hl (by decide) rfl (fun ls hl => ?_)
          have lp52_9 : ∀ (k3 : Nat) (i sw : Nat) (fw : Nat → Int32), 226 - i < k3 → (i ≤ 226) → (sv = 6 ∧ sw = 5 ∧ fw = shF fv 1130 ∨ sv < 6 ∧ sw = sv ∧ fw = fv) → ∀ (H : Heap) (locs : List Loc), va_P D vwCl [(om, .inr (6, [.int thr, .ref a1, .ref a2, .ref a3, .int (nI sw), .ref a4, .ref a5, .ref a6, .int ln, .ref a7, .int bm, .int br, .int ck, .int sa, .ref a8, .int lm, .int rs, .int at_, .ref a9, .int tm, .long hs])), (a1, .inl (ca 0, 226, .inl (sF z r f j nt nl gl gt))), (a3, .inl (ca 0, 1356, .inl (plF fw (sF z r f j nt nl gl gt) (226 * sw) i)))] H → va_D A [(om, .inr (6, [.int thr, .ref a1, .ref a2, .ref a3, .int (nI sw), .ref a4, .ref a5, .ref a6, .int ln, .ref a7, .int bm, .int br, .int ck, .int sa, .ref a8, .int lm, .int rs, .int at_, .ref a9, .int tm, .long hs])), (a1, .inl (ca 0, 226, .inl (sF z r f j nt nl gl gt))), (a3, .inl (ca 0, 1356, .inl (plF fw (sF z r f j nt nl gl gt) (226 * sw) i)))] → va_S A s.heap H locs → ∀ (ls : Array Slot), lv_has ls 2 [(1, .int (nI i)), (0, .ref om)] → W p l e rm_kX6_saves s m ([.ref om] : List Value).toArray below meth c H locs 0 0 Qz (F0 m 52 ls []) := by
            intro k3
            induction k3 with
            | zero => intro i sw fw hm3; exact absurd hm3 (Nat.not_lt_zero _)
            | succ k3 ih3 =>
              intro i sw fw hm3 hi hsw H locs hP hD hS ls hl
              refine lv_iload_n hx hb dX6_saves_52 rfl (lv_at hl 0 rfl) ?_
              refine lv_sipush (v := nI 226) hx hb dX6_saves_53 (by decide) ?_
              refine ni_icmp_ge (tgt := 86) (by omega) (by omega) hx hb dX6_saves_56 (by decide) (fun c11 => ?_) (fun c11 => ?_)
              · refine lv_aload_n hx hb dX6_saves_86 rfl (lv_at hl 1 rfl) ?_
                refine lv_dup hx hb dX6_saves_87 rfl ?_
                refine va_get (D := D) (ci := 6) (C := RX6) (T := TX6) (N := 21) hx hb hts hiX6 hown hKv hP 0 rfl rfl 4 (by decide) lk42 (fun _ h9 => h9) rfl dX6_saves_88 ?_
                refine lv_iconst (v := nI 1) hx hb dX6_saves_91 (by decide) ?_
                refine ni_iadd hx hb dX6_saves_92 ?_
                refine va_put (D := D) (ci := 6) (v := .int (nI (sw + 1))) (ty := .int) (C := RX6) (T := TX6) (N := 21) hx hb hts hiX6 tyX6 tyX6_ok nmX6 hown hKv hP hD hS 0 rfl rfl 4 (by decide) lk42 (fun _ h9 => h9) rfl (by decide +kernel) rfl rfl (kk_le rfl) dX6_saves_93 (fun H locs hP hD hS => ?_)
                have hP : va_P D vwCl [(om, .inr (6, [.int thr, .ref a1, .ref a2, .ref a3, .int (nI (sw + 1)), .ref a4, .ref a5, .ref a6, .int ln, .ref a7, .int bm, .int br, .int ck, .int sa, .ref a8, .int lm, .int rs, .int at_, .ref a9, .int tm, .long hs])), (a1, .inl (ca 0, 226, .inl (sF z r f j nt nl gl gt))), (a3, .inl (ca 0, 1356, .inl (plF fw (sF z r f j nt nl gl gt) (226 * sw) i)))] H := hP
                have hD : va_D A [(om, .inr (6, [.int thr, .ref a1, .ref a2, .ref a3, .int (nI (sw + 1)), .ref a4, .ref a5, .ref a6, .int ln, .ref a7, .int bm, .int br, .int ck, .int sa, .ref a8, .int lm, .int rs, .int at_, .ref a9, .int tm, .long hs])), (a1, .inl (ca 0, 226, .inl (sF z r f j nt nl gl gt))), (a3, .inl (ca 0, 1356, .inl (plF fw (sF z r f j nt nl gl gt) (226 * sw) i)))] := hD
                subst hQz
                have e12 : (nI (sw + 1) : Int32) = nI (svN sv) := by first | exact sav_n hsw | exact sav_f hsw (by omega) (by omega)
                have hP : va_P D vwCl [(om, .inr (6, [.int thr, .ref a1, .ref a2, .ref a3, .int (nI (svN sv)), .ref a4, .ref a5, .ref a6, .int ln, .ref a7, .int bm, .int br, .int ck, .int sa, .ref a8, .int lm, .int rs, .int at_, .ref a9, .int tm, .long hs])), (a1, .inl (ca 0, 226, .inl (sF z r f j nt nl gl gt))), (a3, .inl (ca 0, 1356, .inl (plF fw (sF z r f j nt nl gl gt) (226 * sw) i)))] H := Eq.mp (congrArg (fun z9 : Int32 => va_P D vwCl [(om, .inr (6, [.int thr, .ref a1, .ref a2, .ref a3, .int z9, .ref a4, .ref a5, .ref a6, .int ln, .ref a7, .int bm, .int br, .int ck, .int sa, .ref a8, .int lm, .int rs, .int at_, .ref a9, .int tm, .long hs])), (a1, .inl (ca 0, 226, .inl (sF z r f j nt nl gl gt))), (a3, .inl (ca 0, 1356, .inl (plF fw (sF z r f j nt nl gl gt) (226 * sw) i)))] H) e12) hP
                have hD : va_D A [(om, .inr (6, [.int thr, .ref a1, .ref a2, .ref a3, .int (nI (svN sv)), .ref a4, .ref a5, .ref a6, .int ln, .ref a7, .int bm, .int br, .int ck, .int sa, .ref a8, .int lm, .int rs, .int at_, .ref a9, .int tm, .long hs])), (a1, .inl (ca 0, 226, .inl (sF z r f j nt nl gl gt))), (a3, .inl (ca 0, 1356, .inl (plF fw (sF z r f j nt nl gl gt) (226 * sw) i)))] := Eq.mp (congrArg (fun z9 : Int32 => va_D A [(om, .inr (6, [.int thr, .ref a1, .ref a2, .ref a3, .int z9, .ref a4, .ref a5, .ref a6, .int ln, .ref a7, .int bm, .int br, .int ck, .int sa, .ref a8, .int lm, .int rs, .int at_, .ref a9, .int tm, .long hs])), (a1, .inl (ca 0, 226, .inl (sF z r f j nt nl gl gt))), (a3, .inl (ca 0, 1356, .inl (plF fw (sF z r f j nt nl gl gt) (226 * sw) i)))]) e12) hD
                have e13 : (plF fw (sF z r f j nt nl gl gt) (226 * sw) i : Nat → Int32) = savF fv sv (sF z r f j nt nl gl gt) := by first | exact sav_n hsw | exact sav_f hsw (by omega) (by omega)
                have hP : va_P D vwCl [(om, .inr (6, [.int thr, .ref a1, .ref a2, .ref a3, .int (nI (svN sv)), .ref a4, .ref a5, .ref a6, .int ln, .ref a7, .int bm, .int br, .int ck, .int sa, .ref a8, .int lm, .int rs, .int at_, .ref a9, .int tm, .long hs])), (a1, .inl (ca 0, 226, .inl (sF z r f j nt nl gl gt))), (a3, .inl (ca 0, 1356, .inl (savF fv sv (sF z r f j nt nl gl gt))))] H := Eq.mp (congrArg (fun z9 : Nat → Int32 => va_P D vwCl [(om, .inr (6, [.int thr, .ref a1, .ref a2, .ref a3, .int (nI (svN sv)), .ref a4, .ref a5, .ref a6, .int ln, .ref a7, .int bm, .int br, .int ck, .int sa, .ref a8, .int lm, .int rs, .int at_, .ref a9, .int tm, .long hs])), (a1, .inl (ca 0, 226, .inl (sF z r f j nt nl gl gt))), (a3, .inl (ca 0, 1356, .inl z9))] H) e13) hP
                have hD : va_D A [(om, .inr (6, [.int thr, .ref a1, .ref a2, .ref a3, .int (nI (svN sv)), .ref a4, .ref a5, .ref a6, .int ln, .ref a7, .int bm, .int br, .int ck, .int sa, .ref a8, .int lm, .int rs, .int at_, .ref a9, .int tm, .long hs])), (a1, .inl (ca 0, 226, .inl (sF z r f j nt nl gl gt))), (a3, .inl (ca 0, 1356, .inl (savF fv sv (sF z r f j nt nl gl gt))))] := Eq.mp (congrArg (fun z9 : Nat → Int32 => va_D A [(om, .inr (6, [.int thr, .ref a1, .ref a2, .ref a3, .int (nI (svN sv)), .ref a4, .ref a5, .ref a6, .int ln, .ref a7, .int bm, .int br, .int ck, .int sa, .ref a8, .int lm, .int rs, .int at_, .ref a9, .int tm, .long hs])), (a1, .inl (ca 0, 226, .inl (sF z r f j nt nl gl gt))), (a3, .inl (ca 0, 1356, .inl z9))]) e13) hD
                exact W.vret hx hb hr (fun t ht hW => ⟨⟨(), rfl, by trivial, by rw [ht]; exact hP, hD⟩, hS.F ht⟩) hS.2.2 dX6_saves_96
              · refine lv_aload_n hx hb dX6_saves_59 rfl (lv_at hl 1 rfl) ?_
                refine va_get (D := D) (ci := 6) (C := RX6) (T := TX6) (N := 21) hx hb hts hiX6 hown hKv hP 0 rfl rfl 3 (by decide) lk16 (fun _ h9 => h9) rfl dX6_saves_60 ?_
                refine lv_sipush (v := nI 226) hx hb dX6_saves_63 (by decide) ?_
                refine lv_aload_n hx hb dX6_saves_66 rfl (lv_at hl 1 rfl) ?_
                refine va_get (D := D) (ci := 6) (C := RX6) (T := TX6) (N := 21) hx hb hts hiX6 hown hKv hP 0 rfl rfl 4 (by decide) lk42 (fun _ h9 => h9) rfl dX6_saves_67 ?_
                refine ni_imul hx hb dX6_saves_70 ?_
                refine lv_iload_n hx hb dX6_saves_71 rfl (lv_at hl 0 rfl) ?_
                refine ni_iadd hx hb dX6_saves_72 ?_
                refine lv_aload_n hx hb dX6_saves_73 rfl (lv_at hl 1 rfl) ?_
                refine va_get (D := D) (ci := 6) (C := RX6) (T := TX6) (N := 21) hx hb hts hiX6 hown hKv hP 0 rfl rfl 1 (by decide) lk7 (fun _ h9 => h9) rfl dX6_saves_74 ?_
                refine lv_iload_n hx hb dX6_saves_77 rfl (lv_at hl 0 rfl) ?_
                refine my_iald hx hb hK hP 1 rfl (by omega) (by omega) dX6_saves_78 ?_
                refine my_iast hx hb hK hP hD hS 2 rfl (by omega) (by omega) dX6_saves_79 (fun H locs hP hD hS => ?_)
                have hP : va_P D vwCl [(om, .inr (6, [.int thr, .ref a1, .ref a2, .ref a3, .int (nI sw), .ref a4, .ref a5, .ref a6, .int ln, .ref a7, .int bm, .int br, .int ck, .int sa, .ref a8, .int lm, .int rs, .int at_, .ref a9, .int tm, .long hs])), (a1, .inl (ca 0, 226, .inl (sF z r f j nt nl gl gt))), (a3, .inl (ca 0, 1356, .inl (upd (plF fw (sF z r f j nt nl gl gt) (226 * sw) i) ((226 * sw) + i) ((sF z r f j nt nl gl gt) i))))] H := hP
                have hD : va_D A [(om, .inr (6, [.int thr, .ref a1, .ref a2, .ref a3, .int (nI sw), .ref a4, .ref a5, .ref a6, .int ln, .ref a7, .int bm, .int br, .int ck, .int sa, .ref a8, .int lm, .int rs, .int at_, .ref a9, .int tm, .long hs])), (a1, .inl (ca 0, 226, .inl (sF z r f j nt nl gl gt))), (a3, .inl (ca 0, 1356, .inl (upd (plF fw (sF z r f j nt nl gl gt) (226 * sw) i) ((226 * sw) + i) ((sF z r f j nt nl gl gt) i))))] := hD
                refine lv_iinc (v := nI (i + 1)) (lv' := [(1, .int (nI (i + 1))), (0, .ref om)]) hx hb dX6_saves_80 hl (k := 0) rfl (ni_inc _ _ (by decide)) (by decide) rfl (fun ls hl => ?_)
                refine lv_goto (tgt := 52) hx hb dX6_saves_83 (by decide) ?_
                have e14 : (upd (plF fw (sF z r f j nt nl gl gt) (226 * sw) i) ((226 * sw) + i) ((sF z r f j nt nl gl gt) i) : Nat → Int32) = plF fw (sF z r f j nt nl gl gt) (226 * sw) (i + 1) := by exact plF_step _ _ _ _
                have hP : va_P D vwCl [(om, .inr (6, [.int thr, .ref a1, .ref a2, .ref a3, .int (nI sw), .ref a4, .ref a5, .ref a6, .int ln, .ref a7, .int bm, .int br, .int ck, .int sa, .ref a8, .int lm, .int rs, .int at_, .ref a9, .int tm, .long hs])), (a1, .inl (ca 0, 226, .inl (sF z r f j nt nl gl gt))), (a3, .inl (ca 0, 1356, .inl (plF fw (sF z r f j nt nl gl gt) (226 * sw) (i + 1))))] H := Eq.mp (congrArg (fun z9 : Nat → Int32 => va_P D vwCl [(om, .inr (6, [.int thr, .ref a1, .ref a2, .ref a3, .int (nI sw), .ref a4, .ref a5, .ref a6, .int ln, .ref a7, .int bm, .int br, .int ck, .int sa, .ref a8, .int lm, .int rs, .int at_, .ref a9, .int tm, .long hs])), (a1, .inl (ca 0, 226, .inl (sF z r f j nt nl gl gt))), (a3, .inl (ca 0, 1356, .inl z9))] H) e14) hP
                have hD : va_D A [(om, .inr (6, [.int thr, .ref a1, .ref a2, .ref a3, .int (nI sw), .ref a4, .ref a5, .ref a6, .int ln, .ref a7, .int bm, .int br, .int ck, .int sa, .ref a8, .int lm, .int rs, .int at_, .ref a9, .int tm, .long hs])), (a1, .inl (ca 0, 226, .inl (sF z r f j nt nl gl gt))), (a3, .inl (ca 0, 1356, .inl (plF fw (sF z r f j nt nl gl gt) (226 * sw) (i + 1))))] := Eq.mp (congrArg (fun z9 : Nat → Int32 => va_D A [(om, .inr (6, [.int thr, .ref a1, .ref a2, .ref a3, .int (nI sw), .ref a4, .ref a5, .ref a6, .int ln, .ref a7, .int bm, .int br, .int ck, .int sa, .ref a8, .int lm, .int rs, .int at_, .ref a9, .int tm, .long hs])), (a1, .inl (ca 0, 226, .inl (sF z r f j nt nl gl gt))), (a3, .inl (ca 0, 1356, .inl z9))]) e14) hD
                exact ih3 (i + 1) sw fw (by omega) (by omega) (by exact hsw) _ _ hP hD hS ls (lv_sub hl [0, 1] rfl)
          have e15 : (shF fv i : Nat → Int32) = plF (shF fv i) (sF z r f j nt nl gl gt) (226 * (sv - 1)) 0 := by first | exact (plF_0 _ _ _).symm | exact (plF_0a _ _ _ (by omega)).symm
          have hP : va_P D vwCl [(om, .inr (6, [.int thr, .ref a1, .ref a2, .ref a3, .int (nI (sv - 1)), .ref a4, .ref a5, .ref a6, .int ln, .ref a7, .int bm, .int br, .int ck, .int sa, .ref a8, .int lm, .int rs, .int at_, .ref a9, .int tm, .long hs])), (a1, .inl (ca 0, 226, .inl (sF z r f j nt nl gl gt))), (a3, .inl (ca 0, 1356, .inl (plF (shF fv i) (sF z r f j nt nl gl gt) (226 * (sv - 1)) 0)))] H := Eq.mp (congrArg (fun z9 : Nat → Int32 => va_P D vwCl [(om, .inr (6, [.int thr, .ref a1, .ref a2, .ref a3, .int (nI (sv - 1)), .ref a4, .ref a5, .ref a6, .int ln, .ref a7, .int bm, .int br, .int ck, .int sa, .ref a8, .int lm, .int rs, .int at_, .ref a9, .int tm, .long hs])), (a1, .inl (ca 0, 226, .inl (sF z r f j nt nl gl gt))), (a3, .inl (ca 0, 1356, .inl z9))] H) e15) hP
          have hD : va_D A [(om, .inr (6, [.int thr, .ref a1, .ref a2, .ref a3, .int (nI (sv - 1)), .ref a4, .ref a5, .ref a6, .int ln, .ref a7, .int bm, .int br, .int ck, .int sa, .ref a8, .int lm, .int rs, .int at_, .ref a9, .int tm, .long hs])), (a1, .inl (ca 0, 226, .inl (sF z r f j nt nl gl gt))), (a3, .inl (ca 0, 1356, .inl (plF (shF fv i) (sF z r f j nt nl gl gt) (226 * (sv - 1)) 0)))] := Eq.mp (congrArg (fun z9 : Nat → Int32 => va_D A [(om, .inr (6, [.int thr, .ref a1, .ref a2, .ref a3, .int (nI (sv - 1)), .ref a4, .ref a5, .ref a6, .int ln, .ref a7, .int bm, .int br, .int ck, .int sa, .ref a8, .int lm, .int rs, .int at_, .ref a9, .int tm, .long hs])), (a1, .inl (ca 0, 226, .inl (sF z r f j nt nl gl gt))), (a3, .inl (ca 0, 1356, .inl z9))]) e15) hD
          exact lp52_9 ((226 - 0) + 1) 0 (sv - 1) (shF fv i) (by omega) (by omega) (by first | exact Or.inl ⟨by omega, by omega, congrArg (shF fv) (by omega)⟩ | exact Or.inr ⟨by omega, rfl, rfl⟩) _ _ hP hD hS ls (lv_sub hl [0, 1] rfl)
        · refine lv_aload_n hx hb dX6_saves_18 rfl (lv_at hl 1 rfl) ?_
          refine va_get (D := D) (ci := 6) (C := RX6) (T := TX6) (N := 21) hx hb hts hiX6 hown hKv hP 0 rfl rfl 3 (by decide) lk16 (fun _ h9 => h9) rfl dX6_saves_19 ?_
          refine lv_iload_n hx hb dX6_saves_22 rfl (lv_at hl 0 rfl) ?_
          refine lv_aload_n hx hb dX6_saves_23 rfl (lv_at hl 1 rfl) ?_
          refine va_get (D := D) (ci := 6) (C := RX6) (T := TX6) (N := 21) hx hb hts hiX6 hown hKv hP 0 rfl rfl 3 (by decide) lk16 (fun _ h9 => h9) rfl dX6_saves_24 ?_
          refine lv_iload_n hx hb dX6_saves_27 rfl (lv_at hl 0 rfl) ?_
          refine lv_sipush (v := nI 226) hx hb dX6_saves_28 (by decide) ?_
          refine ni_iadd hx hb dX6_saves_31 ?_
          refine my_iald hx hb hK hP 2 rfl (by omega) (by omega) dX6_saves_32 ?_
          refine my_iast hx hb hK hP hD hS 2 rfl (by omega) (by omega) dX6_saves_33 (fun H locs hP hD hS => ?_)
          have hP : va_P D vwCl [(om, .inr (6, [.int thr, .ref a1, .ref a2, .ref a3, .int (nI sv), .ref a4, .ref a5, .ref a6, .int ln, .ref a7, .int bm, .int br, .int ck, .int sa, .ref a8, .int lm, .int rs, .int at_, .ref a9, .int tm, .long hs])), (a1, .inl (ca 0, 226, .inl (sF z r f j nt nl gl gt))), (a3, .inl (ca 0, 1356, .inl (upd (shF fv i) i ((shF fv i) (i + 226)))))] H := hP
          have hD : va_D A [(om, .inr (6, [.int thr, .ref a1, .ref a2, .ref a3, .int (nI sv), .ref a4, .ref a5, .ref a6, .int ln, .ref a7, .int bm, .int br, .int ck, .int sa, .ref a8, .int lm, .int rs, .int at_, .ref a9, .int tm, .long hs])), (a1, .inl (ca 0, 226, .inl (sF z r f j nt nl gl gt))), (a3, .inl (ca 0, 1356, .inl (upd (shF fv i) i ((shF fv i) (i + 226)))))] := hD
          refine lv_iinc (v := nI (i + 1)) (lv' := [(1, .int (nI (i + 1))), (0, .ref om)]) hx hb dX6_saves_34 hl (k := 0) rfl (ni_inc _ _ (by decide)) (by decide) rfl (fun ls hl => ?_)
          refine lv_goto (tgt := 11) hx hb dX6_saves_37 (by decide) ?_
          have e16 : (upd (shF fv i) i ((shF fv i) (i + 226)) : Nat → Int32) = shF fv (i + 1) := by exact shF_step fv i
          have hP : va_P D vwCl [(om, .inr (6, [.int thr, .ref a1, .ref a2, .ref a3, .int (nI sv), .ref a4, .ref a5, .ref a6, .int ln, .ref a7, .int bm, .int br, .int ck, .int sa, .ref a8, .int lm, .int rs, .int at_, .ref a9, .int tm, .long hs])), (a1, .inl (ca 0, 226, .inl (sF z r f j nt nl gl gt))), (a3, .inl (ca 0, 1356, .inl (shF fv (i + 1))))] H := Eq.mp (congrArg (fun z9 : Nat → Int32 => va_P D vwCl [(om, .inr (6, [.int thr, .ref a1, .ref a2, .ref a3, .int (nI sv), .ref a4, .ref a5, .ref a6, .int ln, .ref a7, .int bm, .int br, .int ck, .int sa, .ref a8, .int lm, .int rs, .int at_, .ref a9, .int tm, .long hs])), (a1, .inl (ca 0, 226, .inl (sF z r f j nt nl gl gt))), (a3, .inl (ca 0, 1356, .inl z9))] H) e16) hP
          have hD : va_D A [(om, .inr (6, [.int thr, .ref a1, .ref a2, .ref a3, .int (nI sv), .ref a4, .ref a5, .ref a6, .int ln, .ref a7, .int bm, .int br, .int ck, .int sa, .ref a8, .int lm, .int rs, .int at_, .ref a9, .int tm, .long hs])), (a1, .inl (ca 0, 226, .inl (sF z r f j nt nl gl gt))), (a3, .inl (ca 0, 1356, .inl (shF fv (i + 1))))] := Eq.mp (congrArg (fun z9 : Nat → Int32 => va_D A [(om, .inr (6, [.int thr, .ref a1, .ref a2, .ref a3, .int (nI sv), .ref a4, .ref a5, .ref a6, .int ln, .ref a7, .int bm, .int br, .int ck, .int sa, .ref a8, .int lm, .int rs, .int at_, .ref a9, .int tm, .long hs])), (a1, .inl (ca 0, 226, .inl (sF z r f j nt nl gl gt))), (a3, .inl (ca 0, 1356, .inl z9))]) e16) hD
          exact ih2 (i + 1) (by omega) (by omega) _ _ hP hD hS ls (lv_sub hl [0, 1] rfl)
    have e17 : (fv : Nat → Int32) = shF fv 0 := by exact (shF_0 fv).symm
    have hP : va_P D vwCl [(om, .inr (6, [.int thr, .ref a1, .ref a2, .ref a3, .int (nI sv), .ref a4, .ref a5, .ref a6, .int ln, .ref a7, .int bm, .int br, .int ck, .int sa, .ref a8, .int lm, .int rs, .int at_, .ref a9, .int tm, .long hs])), (a1, .inl (ca 0, 226, .inl (sF z r f j nt nl gl gt))), (a3, .inl (ca 0, 1356, .inl (shF fv 0)))] s.heap := Eq.mp (congrArg (fun z9 : Nat → Int32 => va_P D vwCl [(om, .inr (6, [.int thr, .ref a1, .ref a2, .ref a3, .int (nI sv), .ref a4, .ref a5, .ref a6, .int ln, .ref a7, .int bm, .int br, .int ck, .int sa, .ref a8, .int lm, .int rs, .int at_, .ref a9, .int tm, .long hs])), (a1, .inl (ca 0, 226, .inl (sF z r f j nt nl gl gt))), (a3, .inl (ca 0, 1356, .inl z9))] s.heap) e17) hP
    have hD : va_D A [(om, .inr (6, [.int thr, .ref a1, .ref a2, .ref a3, .int (nI sv), .ref a4, .ref a5, .ref a6, .int ln, .ref a7, .int bm, .int br, .int ck, .int sa, .ref a8, .int lm, .int rs, .int at_, .ref a9, .int tm, .long hs])), (a1, .inl (ca 0, 226, .inl (sF z r f j nt nl gl gt))), (a3, .inl (ca 0, 1356, .inl (shF fv 0)))] := Eq.mp (congrArg (fun z9 : Nat → Int32 => va_D A [(om, .inr (6, [.int thr, .ref a1, .ref a2, .ref a3, .int (nI sv), .ref a4, .ref a5, .ref a6, .int ln, .ref a7, .int bm, .int br, .int ck, .int sa, .ref a8, .int lm, .int rs, .int at_, .ref a9, .int tm, .long hs])), (a1, .inl (ca 0, 226, .inl (sF z r f j nt nl gl gt))), (a3, .inl (ca 0, 1356, .inl z9))]) e17) hD
    exact lp11_7 ((1130 - 0) + 1) 0 (by omega) (by omega) _ _ hP hD hS ls (lv_sub hl [0, 1] rfl)
abbrev rm_kX6_putAside : Room := { frames := 0, cells := 0, slots := 0, locals := 0 }
set_option maxHeartbeats 4000000 in
set_option maxRecDepth 100000 in
theorem kX6_putAside (l : Launch) (D : va_G) (ca : Nat → ClassId) (sz : Nat) (om a1 a2 a3 a4 a5 a6 a7 a8 a9 : Nat) (thr sv ln bm br ck sa lm rs at_ tm : Int32) (hs : Int64) (z : Nat) (r f j : Int32) (nt nl : Nat) (gl gt : Nat → Int32) (fa : Nat → Int32) : Met l yX6_putAside wsX6_putAside rm_kX6_putAside (pcM D ca [.ref om] [(om, .inr (6, [.int thr, .ref a1, .ref a2, .ref a3, .int sv, .ref a4, .ref a5, .ref a6, .int ln, .ref a7, .int bm, .int br, .int ck, .int sa, .ref a8, .int lm, .int rs, .int at_, .ref a9, .int tm, .long hs])), (a1, .inl (ca 0, 226, .inl (sF z r f j nt nl gl gt))), (a2, .inl (ca 0, 226, .inl fa))] sz) (va_Qv (fun (u : Unit) => True) (qB D (va_A [(om, .inr (6, [.int thr, .ref a1, .ref a2, .ref a3, .int sv, .ref a4, .ref a5, .ref a6, .int ln, .ref a7, .int bm, .int br, .int ck, .int sa, .ref a8, .int lm, .int rs, .int at_, .ref a9, .int tm, .long hs])), (a1, .inl (ca 0, 226, .inl (sF z r f j nt nl gl gt))), (a2, .inl (ca 0, 226, .inl fa))] sz) (fun u : Unit => [(om, .inr (6, [.int thr, .ref a1, .ref a2, .ref a3, .int sv, .ref a4, .ref a5, .ref a6, .int ln, .ref a7, .int bm, .int br, .int ck, .int sa, .ref a8, .int lm, .int rs, .int at_, .ref a9, .int tm, .long hs])), (a1, .inl (ca 0, 226, .inl (sF z r f j nt nl gl gt))), (a2, .inl (ca 0, 226, .inl (sF z r f j nt nl gl gt)))])) (va_A [(om, .inr (6, [.int thr, .ref a1, .ref a2, .ref a3, .int sv, .ref a4, .ref a5, .ref a6, .int ln, .ref a7, .int bm, .int br, .int ck, .int sa, .ref a8, .int lm, .int rs, .int at_, .ref a9, .int tm, .long hs])), (a1, .inl (ca 0, 226, .inl (sF z r f j nt nl gl gt))), (a2, .inl (ca 0, 226, .inl fa))] sz)) 0 0 (va_A [(om, .inr (6, [.int thr, .ref a1, .ref a2, .ref a3, .int sv, .ref a4, .ref a5, .ref a6, .int ln, .ref a7, .int bm, .int br, .int ck, .int sa, .ref a8, .int lm, .int rs, .int at_, .ref a9, .int tm, .long hs])), (a1, .inl (ca 0, 226, .inl (sF z r f j nt nl gl gt))), (a2, .inl (ca 0, 226, .inl fa))] sz) := by
  refine Met.ofW (cc := cX6_putAside) (maxL := 2) (ret := none) (by decide) rfl ?_
  intro p e s m args below meth c s₁ B hml hv
  obtain ⟨rfl, hsz, hP, hK, hD0⟩ := hv
  have hx := B.exec
  have hb := B.bytes
  have hr := B.returns
  have hts := atoms_spec (ws := wsX6_putAside) B.pre
  have hown : s.vm.findClass RX6 = some m.cls := findClass_of_methodNamed B.named
  have hlocks := B.notSynchronized
  subst hsz
  have hD := hD0.self (sz := s.heap.size)
  generalize hAe : va_A [(om, .inr (6, [.int thr, .ref a1, .ref a2, .ref a3, .int sv, .ref a4, .ref a5, .ref a6, .int ln, .ref a7, .int bm, .int br, .int ck, .int sa, .ref a8, .int lm, .int rs, .int at_, .ref a9, .int tm, .long hs])), (a1, .inl (ca 0, 226, .inl (sF z r f j nt nl gl gt))), (a2, .inl (ca 0, 226, .inl fa))] s.heap.size = A at hD ⊢
  have hA : ∀ q : Nat, s.heap.size ≤ q → A q := fun q h => by rw [← hAe]; exact Or.inr h
  have hS : va_S A s.heap s.heap [] := va_S.rf
  have hP : va_P D vwCl [(om, .inr (6, [.int thr, .ref a1, .ref a2, .ref a3, .int sv, .ref a4, .ref a5, .ref a6, .int ln, .ref a7, .int bm, .int br, .int ck, .int sa, .ref a8, .int lm, .int rs, .int at_, .ref a9, .int tm, .long hs])), (a1, .inl (ca 0, 226, .inl (sF z r f j nt nl gl gt))), (a2, .inl (ca 0, 226, .inl fa))] s.heap := hP
  have hKv := hK.1
  have hl := lv_entry ([.ref om]) (n := 2) (kk_le rfl)
  rw [lg_entry_eq]
  generalize (lg_sl ([.ref om]) ++ List.replicate (2 - (lg_sl ([.ref om])).length) Slot.unset).toArray = ls at hl ⊢
  have hl : lv_has ls 2 [(0, .ref om)] := hl
  generalize hQz : MQ below _ _ _ _ _ _ = Qz
  have hiX6 : ∀ w ∈ u_ws RX6 TX6 21, w ∈ wsX6_putAside := fun w h => by first | exact List.mem_cons_of_mem _ (List.mem_append_right _ h) | exact List.mem_cons_of_mem _ (List.mem_append_left _ (List.mem_append_right _ h)) | exact List.mem_cons_of_mem _ (List.mem_append_left _ (List.mem_append_left _ (List.mem_append_right _ h))) | exact List.mem_cons_of_mem _ (List.mem_append_left _ (List.mem_append_left _ (List.mem_append_left _ (List.mem_append_right _ h)))) | (revert w h; decide +kernel)
  have lk13 : (Cond.fieldLink RX6 13 "StripeSwipesModel" "aside" "[I").before _ s = true := hts _ (by decide +kernel)
  have lk7 : (Cond.fieldLink RX6 7 "StripeSwipesModel" "s" "[I").before _ s = true := hts _ (by decide +kernel)
  refine lv_iconst (v := nI 0) hx hb dX6_putAside_0 (by decide) ?_
  refine lv_istore_n (lv' := [(1, .int (nI 0)), (0, .ref om)]) hx hb dX6_putAside_1 rfl hl (by decide) rfl (fun ls hl => ?_)
  have lp2_0 : ∀ (k1 : Nat) (i : Nat), 226 - i < k1 → (i ≤ 226) → ∀ (H : Heap) (locs : List Loc), va_P D vwCl [(om, .inr (6, [.int thr, .ref a1, .ref a2, .ref a3, .int sv, .ref a4, .ref a5, .ref a6, .int ln, .ref a7, .int bm, .int br, .int ck, .int sa, .ref a8, .int lm, .int rs, .int at_, .ref a9, .int tm, .long hs])), (a1, .inl (ca 0, 226, .inl (sF z r f j nt nl gl gt))), (a2, .inl (ca 0, 226, .inl (cpF (sF z r f j nt nl gl gt) fa i)))] H → va_D A [(om, .inr (6, [.int thr, .ref a1, .ref a2, .ref a3, .int sv, .ref a4, .ref a5, .ref a6, .int ln, .ref a7, .int bm, .int br, .int ck, .int sa, .ref a8, .int lm, .int rs, .int at_, .ref a9, .int tm, .long hs])), (a1, .inl (ca 0, 226, .inl (sF z r f j nt nl gl gt))), (a2, .inl (ca 0, 226, .inl (cpF (sF z r f j nt nl gl gt) fa i)))] → va_S A s.heap H locs → ∀ (ls : Array Slot), lv_has ls 2 [(1, .int (nI i)), (0, .ref om)] → W p l e rm_kX6_putAside s m ([.ref om] : List Value).toArray below meth c H locs 0 0 Qz (F0 m 2 ls []) := by
    intro k1
    induction k1 with
    | zero => intro i hm1; exact absurd hm1 (Nat.not_lt_zero _)
    | succ k1 ih1 =>
      intro i hm1 hi H locs hP hD hS ls hl
      refine lv_iload_n hx hb dX6_putAside_2 rfl (lv_at hl 0 rfl) ?_
      refine lv_sipush (v := nI 226) hx hb dX6_putAside_3 (by decide) ?_
      refine ni_icmp_ge (tgt := 27) (by omega) (by omega) hx hb dX6_putAside_6 (by decide) (fun c2 => ?_) (fun c2 => ?_)
      · subst hQz
        have hP := my_P_alt (f2 := sF z r f j nt nl gl gt) hP 2 rfl (fun k9 hk9 => cpF_lo _ _ (by omega))
        have hD := my_D_alt (f2 := sF z r f j nt nl gl gt) hD 2 rfl
        have hP : va_P D vwCl [(om, .inr (6, [.int thr, .ref a1, .ref a2, .ref a3, .int sv, .ref a4, .ref a5, .ref a6, .int ln, .ref a7, .int bm, .int br, .int ck, .int sa, .ref a8, .int lm, .int rs, .int at_, .ref a9, .int tm, .long hs])), (a1, .inl (ca 0, 226, .inl (sF z r f j nt nl gl gt))), (a2, .inl (ca 0, 226, .inl (sF z r f j nt nl gl gt)))] H := hP
        have hD : va_D A [(om, .inr (6, [.int thr, .ref a1, .ref a2, .ref a3, .int sv, .ref a4, .ref a5, .ref a6, .int ln, .ref a7, .int bm, .int br, .int ck, .int sa, .ref a8, .int lm, .int rs, .int at_, .ref a9, .int tm, .long hs])), (a1, .inl (ca 0, 226, .inl (sF z r f j nt nl gl gt))), (a2, .inl (ca 0, 226, .inl (sF z r f j nt nl gl gt)))] := hD
        exact W.vret hx hb hr (fun t ht hW => ⟨⟨(), rfl, by trivial, by rw [ht]; exact hP, hD⟩, hS.F ht⟩) hS.2.2 dX6_putAside_27
      · refine lv_aload_n hx hb dX6_putAside_9 rfl (lv_at hl 1 rfl) ?_
        refine va_get (D := D) (ci := 6) (C := RX6) (T := TX6) (N := 21) hx hb hts hiX6 hown hKv hP 0 rfl rfl 2 (by decide) lk13 (fun _ h9 => h9) rfl dX6_putAside_10 ?_
        refine lv_iload_n hx hb dX6_putAside_13 rfl (lv_at hl 0 rfl) ?_
        refine lv_aload_n hx hb dX6_putAside_14 rfl (lv_at hl 1 rfl) ?_
        refine va_get (D := D) (ci := 6) (C := RX6) (T := TX6) (N := 21) hx hb hts hiX6 hown hKv hP 0 rfl rfl 1 (by decide) lk7 (fun _ h9 => h9) rfl dX6_putAside_15 ?_
        refine lv_iload_n hx hb dX6_putAside_18 rfl (lv_at hl 0 rfl) ?_
        refine my_iald hx hb hK hP 1 rfl (by omega) (by omega) dX6_putAside_19 ?_
        refine my_iast hx hb hK hP hD hS 2 rfl (by omega) (by omega) dX6_putAside_20 (fun H locs hP hD hS => ?_)
        have hP : va_P D vwCl [(om, .inr (6, [.int thr, .ref a1, .ref a2, .ref a3, .int sv, .ref a4, .ref a5, .ref a6, .int ln, .ref a7, .int bm, .int br, .int ck, .int sa, .ref a8, .int lm, .int rs, .int at_, .ref a9, .int tm, .long hs])), (a1, .inl (ca 0, 226, .inl (sF z r f j nt nl gl gt))), (a2, .inl (ca 0, 226, .inl (upd (cpF (sF z r f j nt nl gl gt) fa i) i ((sF z r f j nt nl gl gt) i))))] H := hP
        have hD : va_D A [(om, .inr (6, [.int thr, .ref a1, .ref a2, .ref a3, .int sv, .ref a4, .ref a5, .ref a6, .int ln, .ref a7, .int bm, .int br, .int ck, .int sa, .ref a8, .int lm, .int rs, .int at_, .ref a9, .int tm, .long hs])), (a1, .inl (ca 0, 226, .inl (sF z r f j nt nl gl gt))), (a2, .inl (ca 0, 226, .inl (upd (cpF (sF z r f j nt nl gl gt) fa i) i ((sF z r f j nt nl gl gt) i))))] := hD
        refine lv_iinc (v := nI (i + 1)) (lv' := [(1, .int (nI (i + 1))), (0, .ref om)]) hx hb dX6_putAside_21 hl (k := 0) rfl (ni_inc _ _ (by decide)) (by decide) rfl (fun ls hl => ?_)
        refine lv_goto (tgt := 2) hx hb dX6_putAside_24 (by decide) ?_
        have e3 : (upd (cpF (sF z r f j nt nl gl gt) fa i) i ((sF z r f j nt nl gl gt) i) : Nat → Int32) = cpF (sF z r f j nt nl gl gt) fa (i + 1) := by exact cpF_step _ _ _
        have hP : va_P D vwCl [(om, .inr (6, [.int thr, .ref a1, .ref a2, .ref a3, .int sv, .ref a4, .ref a5, .ref a6, .int ln, .ref a7, .int bm, .int br, .int ck, .int sa, .ref a8, .int lm, .int rs, .int at_, .ref a9, .int tm, .long hs])), (a1, .inl (ca 0, 226, .inl (sF z r f j nt nl gl gt))), (a2, .inl (ca 0, 226, .inl (cpF (sF z r f j nt nl gl gt) fa (i + 1))))] H := Eq.mp (congrArg (fun z9 : Nat → Int32 => va_P D vwCl [(om, .inr (6, [.int thr, .ref a1, .ref a2, .ref a3, .int sv, .ref a4, .ref a5, .ref a6, .int ln, .ref a7, .int bm, .int br, .int ck, .int sa, .ref a8, .int lm, .int rs, .int at_, .ref a9, .int tm, .long hs])), (a1, .inl (ca 0, 226, .inl (sF z r f j nt nl gl gt))), (a2, .inl (ca 0, 226, .inl z9))] H) e3) hP
        have hD : va_D A [(om, .inr (6, [.int thr, .ref a1, .ref a2, .ref a3, .int sv, .ref a4, .ref a5, .ref a6, .int ln, .ref a7, .int bm, .int br, .int ck, .int sa, .ref a8, .int lm, .int rs, .int at_, .ref a9, .int tm, .long hs])), (a1, .inl (ca 0, 226, .inl (sF z r f j nt nl gl gt))), (a2, .inl (ca 0, 226, .inl (cpF (sF z r f j nt nl gl gt) fa (i + 1))))] := Eq.mp (congrArg (fun z9 : Nat → Int32 => va_D A [(om, .inr (6, [.int thr, .ref a1, .ref a2, .ref a3, .int sv, .ref a4, .ref a5, .ref a6, .int ln, .ref a7, .int bm, .int br, .int ck, .int sa, .ref a8, .int lm, .int rs, .int at_, .ref a9, .int tm, .long hs])), (a1, .inl (ca 0, 226, .inl (sF z r f j nt nl gl gt))), (a2, .inl (ca 0, 226, .inl z9))]) e3) hD
        exact ih1 (i + 1) (by omega) (by omega) _ _ hP hD hS ls (lv_sub hl [0, 1] rfl)
  have e4 : (fa : Nat → Int32) = cpF (sF z r f j nt nl gl gt) fa 0 := by exact (cpF_0 _ _).symm
  have hP : va_P D vwCl [(om, .inr (6, [.int thr, .ref a1, .ref a2, .ref a3, .int sv, .ref a4, .ref a5, .ref a6, .int ln, .ref a7, .int bm, .int br, .int ck, .int sa, .ref a8, .int lm, .int rs, .int at_, .ref a9, .int tm, .long hs])), (a1, .inl (ca 0, 226, .inl (sF z r f j nt nl gl gt))), (a2, .inl (ca 0, 226, .inl (cpF (sF z r f j nt nl gl gt) fa 0)))] s.heap := Eq.mp (congrArg (fun z9 : Nat → Int32 => va_P D vwCl [(om, .inr (6, [.int thr, .ref a1, .ref a2, .ref a3, .int sv, .ref a4, .ref a5, .ref a6, .int ln, .ref a7, .int bm, .int br, .int ck, .int sa, .ref a8, .int lm, .int rs, .int at_, .ref a9, .int tm, .long hs])), (a1, .inl (ca 0, 226, .inl (sF z r f j nt nl gl gt))), (a2, .inl (ca 0, 226, .inl z9))] s.heap) e4) hP
  have hD : va_D A [(om, .inr (6, [.int thr, .ref a1, .ref a2, .ref a3, .int sv, .ref a4, .ref a5, .ref a6, .int ln, .ref a7, .int bm, .int br, .int ck, .int sa, .ref a8, .int lm, .int rs, .int at_, .ref a9, .int tm, .long hs])), (a1, .inl (ca 0, 226, .inl (sF z r f j nt nl gl gt))), (a2, .inl (ca 0, 226, .inl (cpF (sF z r f j nt nl gl gt) fa 0)))] := Eq.mp (congrArg (fun z9 : Nat → Int32 => va_D A [(om, .inr (6, [.int thr, .ref a1, .ref a2, .ref a3, .int sv, .ref a4, .ref a5, .ref a6, .int ln, .ref a7, .int bm, .int br, .int ck, .int sa, .ref a8, .int lm, .int rs, .int at_, .ref a9, .int tm, .long hs])), (a1, .inl (ca 0, 226, .inl (sF z r f j nt nl gl gt))), (a2, .inl (ca 0, 226, .inl z9))]) e4) hD
  exact lp2_0 ((226 - 0) + 1) 0 (by omega) (by omega) _ _ hP hD hS ls (lv_sub hl [0, 1] rfl)
abbrev rm_kX6_takeBack : Room := { frames := 0, cells := 0, slots := 0, locals := 0 }
set_option maxHeartbeats 4000000 in
set_option maxRecDepth 100000 in
theorem kX6_takeBack (l : Launch) (D : va_G) (ca : Nat → ClassId) (sz : Nat) (om a1 a2 a3 a4 a5 a6 a7 a8 a9 : Nat) (thr sv ln bm br ck sa lm rs at_ tm : Int32) (hs : Int64) (z : Nat) (r f j : Int32) (nt nl : Nat) (gl gt : Nat → Int32) (fs : Nat → Int32) : Met l yX6_takeBack wsX6_takeBack rm_kX6_takeBack (pcM D ca [.ref om] [(om, .inr (6, [.int thr, .ref a1, .ref a2, .ref a3, .int sv, .ref a4, .ref a5, .ref a6, .int ln, .ref a7, .int bm, .int br, .int ck, .int sa, .ref a8, .int lm, .int rs, .int at_, .ref a9, .int tm, .long hs])), (a1, .inl (ca 0, 226, .inl fs)), (a2, .inl (ca 0, 226, .inl (sF z r f j nt nl gl gt)))] sz) (va_Qv (fun (u : Unit) => True) (qB D (va_A [(om, .inr (6, [.int thr, .ref a1, .ref a2, .ref a3, .int sv, .ref a4, .ref a5, .ref a6, .int ln, .ref a7, .int bm, .int br, .int ck, .int sa, .ref a8, .int lm, .int rs, .int at_, .ref a9, .int tm, .long hs])), (a1, .inl (ca 0, 226, .inl fs)), (a2, .inl (ca 0, 226, .inl (sF z r f j nt nl gl gt)))] sz) (fun u : Unit => [(om, .inr (6, [.int thr, .ref a1, .ref a2, .ref a3, .int sv, .ref a4, .ref a5, .ref a6, .int ln, .ref a7, .int bm, .int br, .int ck, .int sa, .ref a8, .int lm, .int rs, .int at_, .ref a9, .int tm, .long hs])), (a1, .inl (ca 0, 226, .inl (sF z r f j nt nl gl gt))), (a2, .inl (ca 0, 226, .inl (sF z r f j nt nl gl gt)))])) (va_A [(om, .inr (6, [.int thr, .ref a1, .ref a2, .ref a3, .int sv, .ref a4, .ref a5, .ref a6, .int ln, .ref a7, .int bm, .int br, .int ck, .int sa, .ref a8, .int lm, .int rs, .int at_, .ref a9, .int tm, .long hs])), (a1, .inl (ca 0, 226, .inl fs)), (a2, .inl (ca 0, 226, .inl (sF z r f j nt nl gl gt)))] sz)) 0 0 (va_A [(om, .inr (6, [.int thr, .ref a1, .ref a2, .ref a3, .int sv, .ref a4, .ref a5, .ref a6, .int ln, .ref a7, .int bm, .int br, .int ck, .int sa, .ref a8, .int lm, .int rs, .int at_, .ref a9, .int tm, .long hs])), (a1, .inl (ca 0, 226, .inl fs)), (a2, .inl (ca 0, 226, .inl (sF z r f j nt nl gl gt)))] sz) := by
  refine Met.ofW (cc := cX6_takeBack) (maxL := 2) (ret := none) (by decide) rfl ?_
  intro p e s m args below meth c s₁ B hml hv
  obtain ⟨rfl, hsz, hP, hK, hD0⟩ := hv
  have hx := B.exec
  have hb := B.bytes
  have hr := B.returns
  have hts := atoms_spec (ws := wsX6_takeBack) B.pre
  have hown : s.vm.findClass RX6 = some m.cls := findClass_of_methodNamed B.named
  have hlocks := B.notSynchronized
  subst hsz
  have hD := hD0.self (sz := s.heap.size)
  generalize hAe : va_A [(om, .inr (6, [.int thr, .ref a1, .ref a2, .ref a3, .int sv, .ref a4, .ref a5, .ref a6, .int ln, .ref a7, .int bm, .int br, .int ck, .int sa, .ref a8, .int lm, .int rs, .int at_, .ref a9, .int tm, .long hs])), (a1, .inl (ca 0, 226, .inl fs)), (a2, .inl (ca 0, 226, .inl (sF z r f j nt nl gl gt)))] s.heap.size = A at hD ⊢
  have hA : ∀ q : Nat, s.heap.size ≤ q → A q := fun q h => by rw [← hAe]; exact Or.inr h
  have hS : va_S A s.heap s.heap [] := va_S.rf
  have hP : va_P D vwCl [(om, .inr (6, [.int thr, .ref a1, .ref a2, .ref a3, .int sv, .ref a4, .ref a5, .ref a6, .int ln, .ref a7, .int bm, .int br, .int ck, .int sa, .ref a8, .int lm, .int rs, .int at_, .ref a9, .int tm, .long hs])), (a1, .inl (ca 0, 226, .inl fs)), (a2, .inl (ca 0, 226, .inl (sF z r f j nt nl gl gt)))] s.heap := hP
  have hKv := hK.1
  have hl := lv_entry ([.ref om]) (n := 2) (kk_le rfl)
  rw [lg_entry_eq]
  generalize (lg_sl ([.ref om]) ++ List.replicate (2 - (lg_sl ([.ref om])).length) Slot.unset).toArray = ls at hl ⊢
  have hl : lv_has ls 2 [(0, .ref om)] := hl
  generalize hQz : MQ below _ _ _ _ _ _ = Qz
  have hiX6 : ∀ w ∈ u_ws RX6 TX6 21, w ∈ wsX6_takeBack := fun w h => by first | exact List.mem_cons_of_mem _ (List.mem_append_right _ h) | exact List.mem_cons_of_mem _ (List.mem_append_left _ (List.mem_append_right _ h)) | exact List.mem_cons_of_mem _ (List.mem_append_left _ (List.mem_append_left _ (List.mem_append_right _ h))) | exact List.mem_cons_of_mem _ (List.mem_append_left _ (List.mem_append_left _ (List.mem_append_left _ (List.mem_append_right _ h)))) | (revert w h; decide +kernel)
  have lk7 : (Cond.fieldLink RX6 7 "StripeSwipesModel" "s" "[I").before _ s = true := hts _ (by decide +kernel)
  have lk13 : (Cond.fieldLink RX6 13 "StripeSwipesModel" "aside" "[I").before _ s = true := hts _ (by decide +kernel)
  refine lv_iconst (v := nI 0) hx hb dX6_takeBack_0 (by decide) ?_
  refine lv_istore_n (lv' := [(1, .int (nI 0)), (0, .ref om)]) hx hb dX6_takeBack_1 rfl hl (by decide) rfl (fun ls hl => ?_)
  have lp2_0 : ∀ (k1 : Nat) (i : Nat), 226 - i < k1 → (i ≤ 226) → ∀ (H : Heap) (locs : List Loc), va_P D vwCl [(om, .inr (6, [.int thr, .ref a1, .ref a2, .ref a3, .int sv, .ref a4, .ref a5, .ref a6, .int ln, .ref a7, .int bm, .int br, .int ck, .int sa, .ref a8, .int lm, .int rs, .int at_, .ref a9, .int tm, .long hs])), (a1, .inl (ca 0, 226, .inl (cpF (sF z r f j nt nl gl gt) fs i))), (a2, .inl (ca 0, 226, .inl (sF z r f j nt nl gl gt)))] H → va_D A [(om, .inr (6, [.int thr, .ref a1, .ref a2, .ref a3, .int sv, .ref a4, .ref a5, .ref a6, .int ln, .ref a7, .int bm, .int br, .int ck, .int sa, .ref a8, .int lm, .int rs, .int at_, .ref a9, .int tm, .long hs])), (a1, .inl (ca 0, 226, .inl (cpF (sF z r f j nt nl gl gt) fs i))), (a2, .inl (ca 0, 226, .inl (sF z r f j nt nl gl gt)))] → va_S A s.heap H locs → ∀ (ls : Array Slot), lv_has ls 2 [(1, .int (nI i)), (0, .ref om)] → W p l e rm_kX6_takeBack s m ([.ref om] : List Value).toArray below meth c H locs 0 0 Qz (F0 m 2 ls []) := by
    intro k1
    induction k1 with
    | zero => intro i hm1; exact absurd hm1 (Nat.not_lt_zero _)
    | succ k1 ih1 =>
      intro i hm1 hi H locs hP hD hS ls hl
      refine lv_iload_n hx hb dX6_takeBack_2 rfl (lv_at hl 0 rfl) ?_
      refine lv_sipush (v := nI 226) hx hb dX6_takeBack_3 (by decide) ?_
      refine ni_icmp_ge (tgt := 27) (by omega) (by omega) hx hb dX6_takeBack_6 (by decide) (fun c2 => ?_) (fun c2 => ?_)
      · subst hQz
        have hP := my_P_alt (f2 := sF z r f j nt nl gl gt) hP 1 rfl (fun k9 hk9 => cpF_lo _ _ (by omega))
        have hD := my_D_alt (f2 := sF z r f j nt nl gl gt) hD 1 rfl
        have hP : va_P D vwCl [(om, .inr (6, [.int thr, .ref a1, .ref a2, .ref a3, .int sv, .ref a4, .ref a5, .ref a6, .int ln, .ref a7, .int bm, .int br, .int ck, .int sa, .ref a8, .int lm, .int rs, .int at_, .ref a9, .int tm, .long hs])), (a1, .inl (ca 0, 226, .inl (sF z r f j nt nl gl gt))), (a2, .inl (ca 0, 226, .inl (sF z r f j nt nl gl gt)))] H := hP
        have hD : va_D A [(om, .inr (6, [.int thr, .ref a1, .ref a2, .ref a3, .int sv, .ref a4, .ref a5, .ref a6, .int ln, .ref a7, .int bm, .int br, .int ck, .int sa, .ref a8, .int lm, .int rs, .int at_, .ref a9, .int tm, .long hs])), (a1, .inl (ca 0, 226, .inl (sF z r f j nt nl gl gt))), (a2, .inl (ca 0, 226, .inl (sF z r f j nt nl gl gt)))] := hD
        exact W.vret hx hb hr (fun t ht hW => ⟨⟨(), rfl, by trivial, by rw [ht]; exact hP, hD⟩, hS.F ht⟩) hS.2.2 dX6_takeBack_27
      · refine lv_aload_n hx hb dX6_takeBack_9 rfl (lv_at hl 1 rfl) ?_
        refine va_get (D := D) (ci := 6) (C := RX6) (T := TX6) (N := 21) hx hb hts hiX6 hown hKv hP 0 rfl rfl 1 (by decide) lk7 (fun _ h9 => h9) rfl dX6_takeBack_10 ?_
        refine lv_iload_n hx hb dX6_takeBack_13 rfl (lv_at hl 0 rfl) ?_
        refine lv_aload_n hx hb dX6_takeBack_14 rfl (lv_at hl 1 rfl) ?_
        refine va_get (D := D) (ci := 6) (C := RX6) (T := TX6) (N := 21) hx hb hts hiX6 hown hKv hP 0 rfl rfl 2 (by decide) lk13 (fun _ h9 => h9) rfl dX6_takeBack_15 ?_
        refine lv_iload_n hx hb dX6_takeBack_18 rfl (lv_at hl 0 rfl) ?_
        refine my_iald hx hb hK hP 2 rfl (by omega) (by omega) dX6_takeBack_19 ?_
        refine my_iast hx hb hK hP hD hS 1 rfl (by omega) (by omega) dX6_takeBack_20 (fun H locs hP hD hS => ?_)
        have hP : va_P D vwCl [(om, .inr (6, [.int thr, .ref a1, .ref a2, .ref a3, .int sv, .ref a4, .ref a5, .ref a6, .int ln, .ref a7, .int bm, .int br, .int ck, .int sa, .ref a8, .int lm, .int rs, .int at_, .ref a9, .int tm, .long hs])), (a1, .inl (ca 0, 226, .inl (upd (cpF (sF z r f j nt nl gl gt) fs i) i ((sF z r f j nt nl gl gt) i)))), (a2, .inl (ca 0, 226, .inl (sF z r f j nt nl gl gt)))] H := hP
        have hD : va_D A [(om, .inr (6, [.int thr, .ref a1, .ref a2, .ref a3, .int sv, .ref a4, .ref a5, .ref a6, .int ln, .ref a7, .int bm, .int br, .int ck, .int sa, .ref a8, .int lm, .int rs, .int at_, .ref a9, .int tm, .long hs])), (a1, .inl (ca 0, 226, .inl (upd (cpF (sF z r f j nt nl gl gt) fs i) i ((sF z r f j nt nl gl gt) i)))), (a2, .inl (ca 0, 226, .inl (sF z r f j nt nl gl gt)))] := hD
        refine lv_iinc (v := nI (i + 1)) (lv' := [(1, .int (nI (i + 1))), (0, .ref om)]) hx hb dX6_takeBack_21 hl (k := 0) rfl (ni_inc _ _ (by decide)) (by decide) rfl (fun ls hl => ?_)
        refine lv_goto (tgt := 2) hx hb dX6_takeBack_24 (by decide) ?_
        have e3 : (upd (cpF (sF z r f j nt nl gl gt) fs i) i ((sF z r f j nt nl gl gt) i) : Nat → Int32) = cpF (sF z r f j nt nl gl gt) fs (i + 1) := by exact cpF_step _ _ _
        have hP : va_P D vwCl [(om, .inr (6, [.int thr, .ref a1, .ref a2, .ref a3, .int sv, .ref a4, .ref a5, .ref a6, .int ln, .ref a7, .int bm, .int br, .int ck, .int sa, .ref a8, .int lm, .int rs, .int at_, .ref a9, .int tm, .long hs])), (a1, .inl (ca 0, 226, .inl (cpF (sF z r f j nt nl gl gt) fs (i + 1)))), (a2, .inl (ca 0, 226, .inl (sF z r f j nt nl gl gt)))] H := Eq.mp (congrArg (fun z9 : Nat → Int32 => va_P D vwCl [(om, .inr (6, [.int thr, .ref a1, .ref a2, .ref a3, .int sv, .ref a4, .ref a5, .ref a6, .int ln, .ref a7, .int bm, .int br, .int ck, .int sa, .ref a8, .int lm, .int rs, .int at_, .ref a9, .int tm, .long hs])), (a1, .inl (ca 0, 226, .inl z9)), (a2, .inl (ca 0, 226, .inl (sF z r f j nt nl gl gt)))] H) e3) hP
        have hD : va_D A [(om, .inr (6, [.int thr, .ref a1, .ref a2, .ref a3, .int sv, .ref a4, .ref a5, .ref a6, .int ln, .ref a7, .int bm, .int br, .int ck, .int sa, .ref a8, .int lm, .int rs, .int at_, .ref a9, .int tm, .long hs])), (a1, .inl (ca 0, 226, .inl (cpF (sF z r f j nt nl gl gt) fs (i + 1)))), (a2, .inl (ca 0, 226, .inl (sF z r f j nt nl gl gt)))] := Eq.mp (congrArg (fun z9 : Nat → Int32 => va_D A [(om, .inr (6, [.int thr, .ref a1, .ref a2, .ref a3, .int sv, .ref a4, .ref a5, .ref a6, .int ln, .ref a7, .int bm, .int br, .int ck, .int sa, .ref a8, .int lm, .int rs, .int at_, .ref a9, .int tm, .long hs])), (a1, .inl (ca 0, 226, .inl z9)), (a2, .inl (ca 0, 226, .inl (sF z r f j nt nl gl gt)))]) e3) hD
        exact ih1 (i + 1) (by omega) (by omega) _ _ hP hD hS ls (lv_sub hl [0, 1] rfl)
  have e4 : (fs : Nat → Int32) = cpF (sF z r f j nt nl gl gt) fs 0 := by exact (cpF_0 _ _).symm
  have hP : va_P D vwCl [(om, .inr (6, [.int thr, .ref a1, .ref a2, .ref a3, .int sv, .ref a4, .ref a5, .ref a6, .int ln, .ref a7, .int bm, .int br, .int ck, .int sa, .ref a8, .int lm, .int rs, .int at_, .ref a9, .int tm, .long hs])), (a1, .inl (ca 0, 226, .inl (cpF (sF z r f j nt nl gl gt) fs 0))), (a2, .inl (ca 0, 226, .inl (sF z r f j nt nl gl gt)))] s.heap := Eq.mp (congrArg (fun z9 : Nat → Int32 => va_P D vwCl [(om, .inr (6, [.int thr, .ref a1, .ref a2, .ref a3, .int sv, .ref a4, .ref a5, .ref a6, .int ln, .ref a7, .int bm, .int br, .int ck, .int sa, .ref a8, .int lm, .int rs, .int at_, .ref a9, .int tm, .long hs])), (a1, .inl (ca 0, 226, .inl z9)), (a2, .inl (ca 0, 226, .inl (sF z r f j nt nl gl gt)))] s.heap) e4) hP
  have hD : va_D A [(om, .inr (6, [.int thr, .ref a1, .ref a2, .ref a3, .int sv, .ref a4, .ref a5, .ref a6, .int ln, .ref a7, .int bm, .int br, .int ck, .int sa, .ref a8, .int lm, .int rs, .int at_, .ref a9, .int tm, .long hs])), (a1, .inl (ca 0, 226, .inl (cpF (sF z r f j nt nl gl gt) fs 0))), (a2, .inl (ca 0, 226, .inl (sF z r f j nt nl gl gt)))] := Eq.mp (congrArg (fun z9 : Nat → Int32 => va_D A [(om, .inr (6, [.int thr, .ref a1, .ref a2, .ref a3, .int sv, .ref a4, .ref a5, .ref a6, .int ln, .ref a7, .int bm, .int br, .int ck, .int sa, .ref a8, .int lm, .int rs, .int at_, .ref a9, .int tm, .long hs])), (a1, .inl (ca 0, 226, .inl z9)), (a2, .inl (ca 0, 226, .inl (sF z r f j nt nl gl gt)))]) e4) hD
  exact lp2_0 ((226 - 0) + 1) 0 (by omega) (by omega) _ _ hP hD hS ls (lv_sub hl [0, 1] rfl)
abbrev rm_kX6_ones : Room := { frames := 0, cells := 0, slots := 0, locals := 0 }
set_option maxHeartbeats 4000000 in
set_option maxRecDepth 100000 in
theorem kX6_ones (l : Launch) (v : Int32) : Met l yX6_ones wsX6_ones rm_kX6_ones (pcN [.int v]) (vp_Si (fun zr : Int32 => zr = onesI v)) 0 0 (fun _ => False) := by
  refine Met.ofW (cc := cX6_ones) (maxL := 1) (ret := (some .int)) (by decide) rfl ?_
  intro p e s m args below meth c s₁ B hml hv
  obtain ⟨rfl, -⟩ := hv
  have hx := B.exec
  have hb := B.bytes
  have hr := B.returns
  have hts := atoms_spec (ws := wsX6_ones) B.pre
  have hown : s.vm.findClass RX6 = some m.cls := findClass_of_methodNamed B.named
  have hlocks := B.notSynchronized
  have hl := lv_entry ([.int v]) (n := 1) (kk_le rfl)
  rw [lg_entry_eq]
  generalize (lg_sl ([.int v]) ++ List.replicate (1 - (lg_sl ([.int v])).length) Slot.unset).toArray = ls at hl ⊢
  have hl : lv_has ls 1 [(0, .int v)] := hl
  refine lv_iload_n hx hb dX6_ones_0 rfl (lv_at hl 0 rfl) ?_
  refine lv_iconst (v := nI 1) hx hb dX6_ones_1 (by decide) ?_
  refine lv_iand hx hb dX6_ones_2 ?_
  refine lv_iload_n hx hb dX6_ones_3 rfl (lv_at hl 0 rfl) ?_
  refine lv_iconst (v := nI 1) hx hb dX6_ones_4 (by decide) ?_
  refine lv_ishr hx hb dX6_ones_5 ?_
  refine lv_iconst (v := nI 1) hx hb dX6_ones_6 (by decide) ?_
  refine lv_iand hx hb dX6_ones_7 ?_
  refine lv_iadd hx hb dX6_ones_8 ?_
  refine lv_iload_n hx hb dX6_ones_9 rfl (lv_at hl 0 rfl) ?_
  refine lv_iconst (v := nI 2) hx hb dX6_ones_10 (by decide) ?_
  refine lv_ishr hx hb dX6_ones_11 ?_
  refine lv_iconst (v := nI 1) hx hb dX6_ones_12 (by decide) ?_
  refine lv_iand hx hb dX6_ones_13 ?_
  refine lv_iadd hx hb dX6_ones_14 ?_
  refine lv_iload_n hx hb dX6_ones_15 rfl (lv_at hl 0 rfl) ?_
  refine lv_iconst (v := nI 3) hx hb dX6_ones_16 (by decide) ?_
  refine lv_ishr hx hb dX6_ones_17 ?_
  refine lv_iconst (v := nI 1) hx hb dX6_ones_18 (by decide) ?_
  refine lv_iand hx hb dX6_ones_19 ?_
  refine lv_iadd hx hb dX6_ones_20 ?_
  exact W.iret (v := (((v &&& (nI 1)) + ((v >>> ((nI 1) &&& 31)) &&& (nI 1))) + ((v >>> ((nI 2) &&& 31)) &&& (nI 1))) + ((v >>> ((nI 3) &&& 31)) &&& (nI 1))) hx hb hr (fun t ht _ => ⟨_, rfl, by rfl, ht⟩) (fun _ h => nomatch h) dX6_ones_21
abbrev rm_kX6_bitOf : Room := { frames := 1, cells := 0, slots := 0, locals := 20 }
set_option maxHeartbeats 4000000 in
set_option maxRecDepth 100000 in
theorem kX6_bitOf (l : Launch) (v : Int32) (k : Nat) (hk : k < 5) : Met l yX6_bitOf wsX6_bitOf rm_kX6_bitOf (pcN [.int v, .int (nI k)]) (vp_Si (fun zr : Int32 => zr = (grp v).getD k 0)) 0 0 (fun _ => False) := by
  refine Met.ofW (cc := cX6_bitOf) (maxL := 2) (ret := (some .int)) (by decide) rfl ?_
  intro p e s m args below meth c s₁ B hml hv
  obtain ⟨rfl, -⟩ := hv
  have hx := B.exec
  have hb := B.bytes
  have hr := B.returns
  have hts := atoms_spec (ws := wsX6_bitOf) B.pre
  have hown : s.vm.findClass RX6 = some m.cls := findClass_of_methodNamed B.named
  have hlocks := B.notSynchronized
  have hl := lv_entry ([.int v, .int (nI k)]) (n := 2) (kk_le rfl)
  rw [lg_entry_eq]
  generalize (lg_sl ([.int v, .int (nI k)]) ++ List.replicate (2 - (lg_sl ([.int v, .int (nI k)])).length) Slot.unset).toArray = ls at hl ⊢
  have hl : lv_has ls 2 [(0, .int v), (1, .int (nI k))] := hl
  refine lv_iload_n hx hb dX6_bitOf_0 rfl (lv_at hl 1 rfl) ?_
  refine lv_iconst (v := nI 4) hx hb dX6_bitOf_1 (by decide) ?_
  refine ni_icmp_ge (tgt := 13) (by omega) (by omega) hx hb dX6_bitOf_2 (by decide) (fun c1 => ?_) (fun c1 => ?_)
  · refine lv_iconst (v := nI 1) hx hb dX6_bitOf_13 (by decide) ?_
    refine lv_iload_n hx hb dX6_bitOf_14 rfl (lv_at hl 0 rfl) ?_
    refine vp_callSi (va_Run.run (va_runS (As := [.int v]) (rest := [.int (nI 1)]) ⟨hx, hb, hml, hown, hts⟩ (kX6_ones l v) (va_cwS 1 hts gX6_bitOf_X6_ones rfl rfl rfl (by decide +kernel) ⟨kk_le rfl, kk_le rfl⟩) psN rfl rfl hl.1 rfl (lv_room (kk_le rfl)) dX6_bitOf_15 ⟨kk_le rfl, kk_le rfl⟩)) (fun r2 hr2 => ?_)
    subst hr2
    refine lv_iconst (v := nI 2) hx hb dX6_bitOf_18 (by decide) ?_
    refine lv_irem hx hb dX6_bitOf_19 (by first | decide | assumption | exact nI_ne0 (by omega) (by omega)) ?_
    refine lv_isub hx hb dX6_bitOf_20 ?_
    exact W.iret (v := (nI 1) - ((onesI v) - (onesI v) / (nI 2) * (nI 2))) hx hb hr (fun t ht _ => ⟨_, rfl, by first | exact grp_lo v (by assumption) | exact grp_4 v (by omega) (by omega), ht⟩) (fun _ h => nomatch h) dX6_bitOf_21
  · refine lv_iload_n hx hb dX6_bitOf_5 rfl (lv_at hl 0 rfl) ?_
    refine lv_iload_n hx hb dX6_bitOf_6 rfl (lv_at hl 1 rfl) ?_
    refine lv_ishr hx hb dX6_bitOf_7 ?_
    refine lv_iconst (v := nI 1) hx hb dX6_bitOf_8 (by decide) ?_
    refine lv_iand hx hb dX6_bitOf_9 ?_
    refine lv_goto (tgt := 21) hx hb dX6_bitOf_10 (by decide) ?_
    exact W.iret (v := (v >>> ((nI k) &&& 31)) &&& (nI 1)) hx hb hr (fun t ht _ => ⟨_, rfl, by first | exact grp_lo v (by assumption) | exact grp_4 v (by omega) (by omega), ht⟩) (fun _ h => nomatch h) dX6_bitOf_21
abbrev rm_kX6_check : Room := { frames := 0, cells := 0, slots := 0, locals := 0 }
set_option maxHeartbeats 4000000 in
set_option maxRecDepth 100000 in
theorem kX6_check (l : Launch) (D : va_G) (ca : Nat → ClassId) (om a1 a2 a3 a4 a5 a6 a7 a8 a9 : Nat) (thr sv ln bm br ck sa lm rs at_ tm : Int32) (hs : Int64) (z : Nat) (r f j : Int32) (nt nl : Nat) (gl gt : Nat → Int32) (hnt : nt ≤ 200) (hnl : nl ≤ 20) (hz : z ≤ 30) : Met l yX6_check wsX6_check rm_kX6_check (pcR D ca [.ref om] [(om, .inr (6, [.int thr, .ref a1, .ref a2, .ref a3, .int sv, .ref a4, .ref a5, .ref a6, .int ln, .ref a7, .int bm, .int br, .int ck, .int sa, .ref a8, .int lm, .int rs, .int at_, .ref a9, .int tm, .long hs])), (a1, .inl (ca 0, 226, .inl (sF z r f j nt nl gl gt)))]) (vp_Si (fun zr : Int32 => zr = chkL (lst gl nl))) 0 0 (fun _ => False) := by
  refine Met.ofW (cc := cX6_check) (maxL := 3) (ret := (some .int)) (by decide) rfl ?_
  intro p e s m args below meth c s₁ B hml hv
  obtain ⟨rfl, hP, hK⟩ := hv
  have hx := B.exec
  have hb := B.bytes
  have hr := B.returns
  have hts := atoms_spec (ws := wsX6_check) B.pre
  have hown : s.vm.findClass RX6 = some m.cls := findClass_of_methodNamed B.named
  have hlocks := B.notSynchronized
  have hKv := hK.1
  have hl := lv_entry ([.ref om]) (n := 3) (kk_le rfl)
  rw [lg_entry_eq]
  generalize (lg_sl ([.ref om]) ++ List.replicate (3 - (lg_sl ([.ref om])).length) Slot.unset).toArray = ls at hl ⊢
  have hl : lv_has ls 3 [(0, .ref om)] := hl
  generalize hQz : MQ below _ _ _ _ _ _ = Qz
  have hiX6 : ∀ w ∈ u_ws RX6 TX6 21, w ∈ wsX6_check := fun w h => by first | exact List.mem_cons_of_mem _ (List.mem_append_right _ h) | exact List.mem_cons_of_mem _ (List.mem_append_left _ (List.mem_append_right _ h)) | exact List.mem_cons_of_mem _ (List.mem_append_left _ (List.mem_append_left _ (List.mem_append_right _ h))) | exact List.mem_cons_of_mem _ (List.mem_append_left _ (List.mem_append_left _ (List.mem_append_left _ (List.mem_append_right _ h)))) | (revert w h; decide +kernel)
  have lk7 : (Cond.fieldLink RX6 7 "StripeSwipesModel" "s" "[I").before _ s = true := hts _ (by decide +kernel)
  refine lv_iconst (v := nI 4) hx hb dX6_check_0 (by decide) ?_
  refine lv_istore_n (lv' := [(1, .int (nI 4)), (0, .ref om)]) hx hb dX6_check_1 rfl hl (by decide) rfl (fun ls hl => ?_)
  refine lv_iconst (v := nI 0) hx hb dX6_check_2 (by decide) ?_
  refine lv_istore_n (lv' := [(2, .int (nI 0)), (1, .int (nI 4)), (0, .ref om)]) hx hb dX6_check_3 rfl hl (by decide) rfl (fun ls hl => ?_)
  have lp4_0 : ∀ (k1 : Nat) (i : Nat) (acc : Int32), nl - i < k1 → (i ≤ nl) → (acc = chkL (lst gl i)) → ∀ (ls : Array Slot), lv_has ls 3 [(2, .int (nI i)), (1, .int acc), (0, .ref om)] → W p l e rm_kX6_check s m ([.ref om] : List Value).toArray below meth c s.heap [] 0 0 Qz (F0 m 4 ls []) := by
    intro k1
    induction k1 with
    | zero => intro i acc hm1; exact absurd hm1 (Nat.not_lt_zero _)
    | succ k1 ih1 =>
      intro i acc hm1 hi ha ls hl
      refine lv_iload_n hx hb dX6_check_4 rfl (lv_at hl 0 rfl) ?_
      refine lv_aload_n hx hb dX6_check_5 rfl (lv_at hl 2 rfl) ?_
      refine va_get (D := D) (ci := 6) (C := RX6) (T := TX6) (N := 21) hx hb hts hiX6 hown hKv hP 0 rfl rfl 1 (by decide) lk7 (fun _ h9 => h9) rfl dX6_check_6 ?_
      refine lv_iconst (v := nI 5) hx hb dX6_check_9 (by decide) ?_
      refine my_iald hx hb hK hP 1 rfl (by omega) (by omega) dX6_check_10 ?_
      rw [show sF z r f j nt nl gl gt 5 = nI nl from rfl]
      refine ni_icmp_ge (tgt := 32) (by omega) (by omega) hx hb dX6_check_11 (by decide) (fun c2 => ?_) (fun c2 => ?_)
      · refine lv_iload_n hx hb dX6_check_32 rfl (lv_at hl 1 rfl) ?_
        subst hQz
        exact W.iret (v := acc) hx hb hr (fun t ht _ => ⟨_, rfl, by (rw [ha, show i = nl from by omega]), ht⟩) (fun _ h => nomatch h) dX6_check_33
      · refine lv_iload_n hx hb dX6_check_14 rfl (lv_at hl 1 rfl) ?_
        refine lv_aload_n hx hb dX6_check_15 rfl (lv_at hl 2 rfl) ?_
        refine va_get (D := D) (ci := 6) (C := RX6) (T := TX6) (N := 21) hx hb hts hiX6 hown hKv hP 0 rfl rfl 1 (by decide) lk7 (fun _ h9 => h9) rfl dX6_check_16 ?_
        refine lv_bipush (v := nI 6) hx hb dX6_check_19 (by decide) ?_
        refine lv_iload_n hx hb dX6_check_21 rfl (lv_at hl 0 rfl) ?_
        refine ni_iadd hx hb dX6_check_22 ?_
        refine my_iald hx hb hK hP 1 rfl (by omega) (by omega) dX6_check_23 ?_
        rw [show sF z r f j nt nl gl gt (6 + i) = gl i from sF_gl _ _ _ _ _ _ _ _ (by omega) (by omega)]
        refine lv_ixor hx hb dX6_check_24 ?_
        refine lv_istore_n (lv' := [(1, .int (acc ^^^ (gl i))), (2, .int (nI i)), (0, .ref om)]) hx hb dX6_check_25 rfl hl (by decide) rfl (fun ls hl => ?_)
        refine lv_iinc (v := nI (i + 1)) (lv' := [(2, .int (nI (i + 1))), (1, .int (acc ^^^ (gl i))), (0, .ref om)]) hx hb dX6_check_26 hl (k := 1) rfl (ni_inc _ _ (by decide)) (by decide) rfl (fun ls hl => ?_)
        refine lv_goto (tgt := 4) hx hb dX6_check_29 (by decide) ?_
        exact ih1 (i + 1) (acc ^^^ (gl i)) (by omega) (by omega) (by rw [ha, lst_succ, chkL_app]) ls (lv_sub hl [0, 1, 2] rfl)
  exact lp4_0 ((nl - 0) + 1) 0 (nI 4) (by omega) (by omega) (by rfl) ls (lv_sub hl [0, 1, 2] rfl)
abbrev rm_kX6_numberAt : Room := { frames := 1, cells := 0, slots := 0, locals := 22 }
set_option maxHeartbeats 4000000 in
set_option maxRecDepth 100000 in
theorem kX6_numberAt (l : Launch) (D : va_G) (ca : Nat → ClassId) (om a1 a2 a3 a4 a5 a6 a7 a8 a9 : Nat) (thr sv ln bm br ck sa lm rs at_ tm : Int32) (hs : Int64) (z : Nat) (r f j : Int32) (nt nl : Nat) (gl gt : Nat → Int32) (g : Nat) (hnt : nt ≤ 200) (hnl : nl ≤ 20) (hz : z ≤ 30) (hg : g ≤ nl + 2) : Met l yX6_numberAt wsX6_numberAt rm_kX6_numberAt (pcR D ca [.ref om, .int (nI g)] [(om, .inr (6, [.int thr, .ref a1, .ref a2, .ref a3, .int sv, .ref a4, .ref a5, .ref a6, .int ln, .ref a7, .int bm, .int br, .int ck, .int sa, .ref a8, .int lm, .int rs, .int at_, .ref a9, .int tm, .long hs])), (a1, .inl (ca 0, 226, .inl (sF z r f j nt nl gl gt)))]) (vp_Si (fun zr : Int32 => zr = nmF gl nl g)) 0 0 (fun _ => False) := by
  refine Met.ofW (cc := cX6_numberAt) (maxL := 2) (ret := (some .int)) (by decide) rfl ?_
  intro p e s m args below meth c s₁ B hml hv
  obtain ⟨rfl, hP, hK⟩ := hv
  have hx := B.exec
  have hb := B.bytes
  have hr := B.returns
  have hts := atoms_spec (ws := wsX6_numberAt) B.pre
  have hown : s.vm.findClass RX6 = some m.cls := findClass_of_methodNamed B.named
  have hlocks := B.notSynchronized
  have hKv := hK.1
  have hl := lv_entry ([.ref om, .int (nI g)]) (n := 2) (kk_le rfl)
  rw [lg_entry_eq]
  generalize (lg_sl ([.ref om, .int (nI g)]) ++ List.replicate (2 - (lg_sl ([.ref om, .int (nI g)])).length) Slot.unset).toArray = ls at hl ⊢
  have hl : lv_has ls 2 [(0, .ref om), (1, .int (nI g))] := hl
  have hiX6 : ∀ w ∈ u_ws RX6 TX6 21, w ∈ wsX6_numberAt := fun w h => by first | exact List.mem_cons_of_mem _ (List.mem_append_right _ h) | exact List.mem_cons_of_mem _ (List.mem_append_left _ (List.mem_append_right _ h)) | exact List.mem_cons_of_mem _ (List.mem_append_left _ (List.mem_append_left _ (List.mem_append_right _ h))) | exact List.mem_cons_of_mem _ (List.mem_append_left _ (List.mem_append_left _ (List.mem_append_left _ (List.mem_append_right _ h)))) | (revert w h; decide +kernel)
  have lk7 : (Cond.fieldLink RX6 7 "StripeSwipesModel" "s" "[I").before _ s = true := hts _ (by decide +kernel)
  refine lv_iload_n hx hb dX6_numberAt_0 rfl (lv_at hl 1 rfl) ?_
  refine ni_if_ne (tgt := 9) (by omega) hx hb dX6_numberAt_1 (by decide) (fun c1 => ?_) (fun c1 => ?_)
  · refine lv_iload_n hx hb dX6_numberAt_9 rfl (lv_at hl 1 rfl) ?_
    refine lv_aload_n hx hb dX6_numberAt_10 rfl (lv_at hl 0 rfl) ?_
    refine va_get (D := D) (ci := 6) (C := RX6) (T := TX6) (N := 21) hx hb hts hiX6 hown hKv hP 0 rfl rfl 1 (by decide) lk7 (fun _ h9 => h9) rfl dX6_numberAt_11 ?_
    refine lv_iconst (v := nI 5) hx hb dX6_numberAt_14 (by decide) ?_
    refine my_iald hx hb hK hP 1 rfl (by omega) (by omega) dX6_numberAt_15 ?_
    rw [show sF z r f j nt nl gl gt 5 = nI nl from rfl]
    refine ni_icmp_gt (tgt := 33) (by omega) (by omega) hx hb dX6_numberAt_16 (by decide) (fun c2 => ?_) (fun c2 => ?_)
    · refine lv_iload_n hx hb dX6_numberAt_33 rfl (lv_at hl 1 rfl) ?_
      refine lv_aload_n hx hb dX6_numberAt_34 rfl (lv_at hl 0 rfl) ?_
      refine va_get (D := D) (ci := 6) (C := RX6) (T := TX6) (N := 21) hx hb hts hiX6 hown hKv hP 0 rfl rfl 1 (by decide) lk7 (fun _ h9 => h9) rfl dX6_numberAt_35 ?_
      refine lv_iconst (v := nI 5) hx hb dX6_numberAt_38 (by decide) ?_
      refine my_iald hx hb hK hP 1 rfl (by omega) (by omega) dX6_numberAt_39 ?_
      rw [show sF z r f j nt nl gl gt 5 = nI nl from rfl]
      refine lv_iconst (v := nI 1) hx hb dX6_numberAt_40 (by decide) ?_
      refine ni_iadd hx hb dX6_numberAt_41 ?_
      refine ni_icmp_ne (tgt := 50) (by omega) (by omega) hx hb dX6_numberAt_42 (by decide) (fun c3 => ?_) (fun c3 => ?_)
      · refine lv_aload_n hx hb dX6_numberAt_50 rfl (lv_at hl 0 rfl) ?_
        refine vp_callSi (va_Run.run (va_runV (As := []) (rest := []) ⟨hx, hb, hml, hown, hts⟩ (kX6_check l D ca om a1 a2 a3 a4 a5 a6 a7 a8 a9 thr sv ln bm br ck sa lm rs at_ tm hs z r f j nt nl gl gt (by first | rfl | assumption | omega | trivial | (exfalso; omega)) (by first | rfl | assumption | omega | trivial | (exfalso; omega)) (by first | rfl | assumption | omega | trivial | (exfalso; omega))) (cwV 0 hts gX6_numberAt_X6_check rfl rfl rfl (by decide +kernel) ⟨kk_le rfl, kk_le rfl⟩) (pvR hK hP (va_recv hKv hP (ci := 6) (q0 := 0) rfl rfl)) rfl rfl hl.1 rfl (lv_room (kk_le rfl)) dX6_numberAt_51 ⟨kk_le rfl, kk_le rfl⟩)) (fun r4 hr4 => ?_)
        subst hr4
        exact W.iret (v := chkL (lst gl nl)) hx hb hr (fun t ht _ => ⟨_, rfl, by first | exact (nm_0 gl nl (by omega)).symm | exact (nm_1 gl nl (by omega) (by omega)).symm | exact (nm_2 gl nl (by omega)).symm | exact (nm_3 gl nl (by omega)).symm, ht⟩) (fun _ h => nomatch h) dX6_numberAt_54
      · refine lv_bipush (v := nI 15) hx hb dX6_numberAt_45 (by decide) ?_
        refine lv_goto (tgt := 54) hx hb dX6_numberAt_47 (by decide) ?_
        exact W.iret (v := nI 15) hx hb hr (fun t ht _ => ⟨_, rfl, by first | exact (nm_0 gl nl (by omega)).symm | exact (nm_1 gl nl (by omega) (by omega)).symm | exact (nm_2 gl nl (by omega)).symm | exact (nm_3 gl nl (by omega)).symm, ht⟩) (fun _ h => nomatch h) dX6_numberAt_54
    · refine lv_aload_n hx hb dX6_numberAt_19 rfl (lv_at hl 0 rfl) ?_
      refine va_get (D := D) (ci := 6) (C := RX6) (T := TX6) (N := 21) hx hb hts hiX6 hown hKv hP 0 rfl rfl 1 (by decide) lk7 (fun _ h9 => h9) rfl dX6_numberAt_20 ?_
      refine lv_bipush (v := nI 6) hx hb dX6_numberAt_23 (by decide) ?_
      refine lv_iload_n hx hb dX6_numberAt_25 rfl (lv_at hl 1 rfl) ?_
      refine ni_iadd hx hb dX6_numberAt_26 ?_
      refine lv_iconst (v := nI 1) hx hb dX6_numberAt_27 (by decide) ?_
      refine ni_isub (by omega) hx hb dX6_numberAt_28 ?_
      refine my_iald hx hb hK hP 1 rfl (by omega) (by omega) dX6_numberAt_29 ?_
      rw [show sF z r f j nt nl gl gt ((6 + g) - 1) = gl (g - 1) from sF_gl _ _ _ _ _ _ _ _ (by omega) (by omega)]
      refine lv_goto (tgt := 54) hx hb dX6_numberAt_30 (by decide) ?_
      exact W.iret (v := gl (g - 1)) hx hb hr (fun t ht _ => ⟨_, rfl, by first | exact (nm_0 gl nl (by omega)).symm | exact (nm_1 gl nl (by omega) (by omega)).symm | exact (nm_2 gl nl (by omega)).symm | exact (nm_3 gl nl (by omega)).symm, ht⟩) (fun _ h => nomatch h) dX6_numberAt_54
  · refine lv_bipush (v := nI 11) hx hb dX6_numberAt_4 (by decide) ?_
    refine lv_goto (tgt := 54) hx hb dX6_numberAt_6 (by decide) ?_
    exact W.iret (v := nI 11) hx hb hr (fun t ht _ => ⟨_, rfl, by first | exact (nm_0 gl nl (by omega)).symm | exact (nm_1 gl nl (by omega) (by omega)).symm | exact (nm_2 gl nl (by omega)).symm | exact (nm_3 gl nl (by omega)).symm, ht⟩) (fun _ h => nomatch h) dX6_numberAt_54
abbrev rm_kX6_stripeMany : Room := { frames := 0, cells := 0, slots := 0, locals := 0 }
set_option maxHeartbeats 4000000 in
set_option maxRecDepth 100000 in
theorem kX6_stripeMany (l : Launch) (D : va_G) (ca : Nat → ClassId) (om a1 a2 a3 a4 a5 a6 a7 a8 a9 : Nat) (thr sv ln bm br ck sa lm rs at_ tm : Int32) (hs : Int64) (z : Nat) (r f j : Int32) (nt nl : Nat) (gl gt : Nat → Int32) (hnt : nt ≤ 200) (hnl : nl ≤ 20) (hz : z ≤ 30) : Met l yX6_stripeMany wsX6_stripeMany rm_kX6_stripeMany (pcR D ca [.ref om] [(om, .inr (6, [.int thr, .ref a1, .ref a2, .ref a3, .int sv, .ref a4, .ref a5, .ref a6, .int ln, .ref a7, .int bm, .int br, .int ck, .int sa, .ref a8, .int lm, .int rs, .int at_, .ref a9, .int tm, .long hs])), (a1, .inl (ca 0, 226, .inl (sF z r f j nt nl gl gt)))]) (vp_Si (fun zr : Int32 => zr = nI (2 * z + 5 * (nl + 3)))) 0 0 (fun _ => False) := by
  refine Met.ofW (cc := cX6_stripeMany) (maxL := 1) (ret := (some .int)) (by decide) rfl ?_
  intro p e s m args below meth c s₁ B hml hv
  obtain ⟨rfl, hP, hK⟩ := hv
  have hx := B.exec
  have hb := B.bytes
  have hr := B.returns
  have hts := atoms_spec (ws := wsX6_stripeMany) B.pre
  have hown : s.vm.findClass RX6 = some m.cls := findClass_of_methodNamed B.named
  have hlocks := B.notSynchronized
  have hKv := hK.1
  have hl := lv_entry ([.ref om]) (n := 1) (kk_le rfl)
  rw [lg_entry_eq]
  generalize (lg_sl ([.ref om]) ++ List.replicate (1 - (lg_sl ([.ref om])).length) Slot.unset).toArray = ls at hl ⊢
  have hl : lv_has ls 1 [(0, .ref om)] := hl
  have hiX6 : ∀ w ∈ u_ws RX6 TX6 21, w ∈ wsX6_stripeMany := fun w h => by first | exact List.mem_cons_of_mem _ (List.mem_append_right _ h) | exact List.mem_cons_of_mem _ (List.mem_append_left _ (List.mem_append_right _ h)) | exact List.mem_cons_of_mem _ (List.mem_append_left _ (List.mem_append_left _ (List.mem_append_right _ h))) | exact List.mem_cons_of_mem _ (List.mem_append_left _ (List.mem_append_left _ (List.mem_append_left _ (List.mem_append_right _ h)))) | (revert w h; decide +kernel)
  have lk7 : (Cond.fieldLink RX6 7 "StripeSwipesModel" "s" "[I").before _ s = true := hts _ (by decide +kernel)
  refine lv_iconst (v := nI 2) hx hb dX6_stripeMany_0 (by decide) ?_
  refine lv_aload_n hx hb dX6_stripeMany_1 rfl (lv_at hl 0 rfl) ?_
  refine va_get (D := D) (ci := 6) (C := RX6) (T := TX6) (N := 21) hx hb hts hiX6 hown hKv hP 0 rfl rfl 1 (by decide) lk7 (fun _ h9 => h9) rfl dX6_stripeMany_2 ?_
  refine lv_iconst (v := nI 0) hx hb dX6_stripeMany_5 (by decide) ?_
  refine my_iald hx hb hK hP 1 rfl (by omega) (by omega) dX6_stripeMany_6 ?_
  rw [show sF z r f j nt nl gl gt 0 = nI z from rfl]
  refine ni_imul hx hb dX6_stripeMany_7 ?_
  refine lv_iconst (v := nI 5) hx hb dX6_stripeMany_8 (by decide) ?_
  refine lv_aload_n hx hb dX6_stripeMany_9 rfl (lv_at hl 0 rfl) ?_
  refine va_get (D := D) (ci := 6) (C := RX6) (T := TX6) (N := 21) hx hb hts hiX6 hown hKv hP 0 rfl rfl 1 (by decide) lk7 (fun _ h9 => h9) rfl dX6_stripeMany_10 ?_
  refine lv_iconst (v := nI 5) hx hb dX6_stripeMany_13 (by decide) ?_
  refine my_iald hx hb hK hP 1 rfl (by omega) (by omega) dX6_stripeMany_14 ?_
  rw [show sF z r f j nt nl gl gt 5 = nI nl from rfl]
  refine lv_iconst (v := nI 3) hx hb dX6_stripeMany_15 (by decide) ?_
  refine ni_iadd hx hb dX6_stripeMany_16 ?_
  refine ni_imul hx hb dX6_stripeMany_17 ?_
  refine ni_iadd hx hb dX6_stripeMany_18 ?_
  exact W.iret (v := nI ((2 * z) + (5 * (nl + 3)))) hx hb hr (fun t ht _ => ⟨_, rfl, by first | rfl | assumption | omega | trivial | (exfalso; omega), ht⟩) (fun _ h => nomatch h) dX6_stripeMany_19
abbrev rm_kX6_stripeBit : Room := { frames := 2, cells := 0, slots := 0, locals := 43 }
set_option maxHeartbeats 4000000 in
set_option maxRecDepth 100000 in
theorem kX6_stripeBit (l : Launch) (D : va_G) (ca : Nat → ClassId) (om a1 a2 a3 a4 a5 a6 a7 a8 a9 : Nat) (thr sv ln bm br ck sa lm rs at_ tm : Int32) (hs : Int64) (z : Nat) (r f j : Int32) (nt nl : Nat) (gl gt : Nat → Int32) (k : Nat) (hnt : nt ≤ 200) (hnl : nl ≤ 20) (hz : z ≤ 30) (hk : k < 2 * z + 5 * (nl + 3)) : Met l yX6_stripeBit wsX6_stripeBit rm_kX6_stripeBit (pcR D ca [.ref om, .int (nI k)] [(om, .inr (6, [.int thr, .ref a1, .ref a2, .ref a3, .int sv, .ref a4, .ref a5, .ref a6, .int ln, .ref a7, .int bm, .int br, .int ck, .int sa, .ref a8, .int lm, .int rs, .int at_, .ref a9, .int tm, .long hs])), (a1, .inl (ca 0, 226, .inl (sF z r f j nt nl gl gt)))]) (vp_Si (fun zr : Int32 => zr = bf (strp z (lst gl nl)) k)) 0 0 (fun _ => False) := by
  refine Met.ofW (cc := cX6_stripeBit) (maxL := 3) (ret := (some .int)) (by decide) rfl ?_
  intro p e s m args below meth c s₁ B hml hv
  obtain ⟨rfl, hP, hK⟩ := hv
  have hx := B.exec
  have hb := B.bytes
  have hr := B.returns
  have hts := atoms_spec (ws := wsX6_stripeBit) B.pre
  have hown : s.vm.findClass RX6 = some m.cls := findClass_of_methodNamed B.named
  have hlocks := B.notSynchronized
  have hKv := hK.1
  have hl := lv_entry ([.ref om, .int (nI k)]) (n := 3) (kk_le rfl)
  rw [lg_entry_eq]
  generalize (lg_sl ([.ref om, .int (nI k)]) ++ List.replicate (3 - (lg_sl ([.ref om, .int (nI k)])).length) Slot.unset).toArray = ls at hl ⊢
  have hl : lv_has ls 3 [(0, .ref om), (1, .int (nI k))] := hl
  have hiX6 : ∀ w ∈ u_ws RX6 TX6 21, w ∈ wsX6_stripeBit := fun w h => by first | exact List.mem_cons_of_mem _ (List.mem_append_right _ h) | exact List.mem_cons_of_mem _ (List.mem_append_left _ (List.mem_append_right _ h)) | exact List.mem_cons_of_mem _ (List.mem_append_left _ (List.mem_append_left _ (List.mem_append_right _ h))) | exact List.mem_cons_of_mem _ (List.mem_append_left _ (List.mem_append_left _ (List.mem_append_left _ (List.mem_append_right _ h)))) | (revert w h; decide +kernel)
  have lk7 : (Cond.fieldLink RX6 7 "StripeSwipesModel" "s" "[I").before _ s = true := hts _ (by decide +kernel)
  refine lv_iload_n hx hb dX6_stripeBit_0 rfl (lv_at hl 1 rfl) ?_
  refine lv_aload_n hx hb dX6_stripeBit_1 rfl (lv_at hl 0 rfl) ?_
  refine va_get (D := D) (ci := 6) (C := RX6) (T := TX6) (N := 21) hx hb hts hiX6 hown hKv hP 0 rfl rfl 1 (by decide) lk7 (fun _ h9 => h9) rfl dX6_stripeBit_2 ?_
  refine lv_iconst (v := nI 0) hx hb dX6_stripeBit_5 (by decide) ?_
  refine my_iald hx hb hK hP 1 rfl (by omega) (by omega) dX6_stripeBit_6 ?_
  rw [show sF z r f j nt nl gl gt 0 = nI z from rfl]
  refine lv_isub hx hb dX6_stripeBit_7 ?_
  refine lv_istore_n (lv' := [(2, .int ((nI k) - (nI z))), (0, .ref om), (1, .int (nI k))]) hx hb dX6_stripeBit_8 rfl hl (by decide) rfl (fun ls hl => ?_)
  refine lv_iload_n hx hb dX6_stripeBit_9 rfl (lv_at hl 0 rfl) ?_
  refine lv_iconst (v := nI 0) hx hb dX6_stripeBit_10 (by decide) ?_
  refine lv_iconst (v := nI 5) hx hb dX6_stripeBit_11 (by decide) ?_
  refine lv_aload_n hx hb dX6_stripeBit_12 rfl (lv_at hl 1 rfl) ?_
  refine va_get (D := D) (ci := 6) (C := RX6) (T := TX6) (N := 21) hx hb hts hiX6 hown hKv hP 0 rfl rfl 1 (by decide) lk7 (fun _ h9 => h9) rfl dX6_stripeBit_13 ?_
  refine lv_iconst (v := nI 5) hx hb dX6_stripeBit_16 (by decide) ?_
  refine my_iald hx hb hK hP 1 rfl (by omega) (by omega) dX6_stripeBit_17 ?_
  rw [show sF z r f j nt nl gl gt 5 = nI nl from rfl]
  refine lv_iconst (v := nI 3) hx hb dX6_stripeBit_18 (by decide) ?_
  refine ni_iadd hx hb dX6_stripeBit_19 ?_
  refine ni_imul hx hb dX6_stripeBit_20 ?_
  refine lv_iconst (v := nI 1) hx hb dX6_stripeBit_21 (by decide) ?_
  refine ni_isub (by omega) hx hb dX6_stripeBit_22 ?_
  refine vp_callSi (va_Run.run (va_runS (As := [.int ((nI k) - (nI z)), .int (nI 0), .int (nI ((5 * (nl + 3)) - 1))]) (rest := []) ⟨hx, hb, hml, hown, hts⟩ (kX6_in l ((nI k) - (nI z)) (nI 0) (nI ((5 * (nl + 3)) - 1))) (va_cwS 3 hts gX6_stripeBit_X6_in rfl rfl rfl (by decide +kernel) ⟨kk_le rfl, kk_le rfl⟩) psN rfl rfl hl.1 rfl (lv_room (kk_le rfl)) dX6_stripeBit_23 ⟨kk_le rfl, kk_le rfl⟩)) (fun r1 hr1 => ?_)
  subst hr1
  refine bi_if_eq (tgt := 45) hx hb dX6_stripeBit_26 (by decide) (fun c2 => ?_) (fun c2 => ?_)
  · refine lv_iconst (v := nI 0) hx hb dX6_stripeBit_45 (by decide) ?_
    exact W.iret (v := nI 0) hx hb hr (fun t ht _ => ⟨_, rfl, by first | exact (stb_yes gl (by omega) (by omega)).symm | exact (stb_no gl (by assumption) (by omega) (by omega) (by omega)).symm, ht⟩) (fun _ h => nomatch h) dX6_stripeBit_46
  · have hz2 := stb_in (z := z) (k := k) (nl := nl) c2 (by omega) (by omega)
    rw [pk_sub hz2.1] at hl
    refine lv_aload_n hx hb dX6_stripeBit_29 rfl (lv_at hl 1 rfl) ?_
    refine lv_iload_n hx hb dX6_stripeBit_30 rfl (lv_at hl 0 rfl) ?_
    refine lv_iconst (v := nI 5) hx hb dX6_stripeBit_31 (by decide) ?_
    refine ni_idiv (by omega) (by omega) (by omega) hx hb dX6_stripeBit_32 ?_
    refine vp_callSi (va_Run.run (va_runV (As := [.int (nI ((k - z) / 5))]) (rest := []) ⟨hx, hb, hml, hown, hts⟩ (kX6_numberAt l D ca om a1 a2 a3 a4 a5 a6 a7 a8 a9 thr sv ln bm br ck sa lm rs at_ tm hs z r f j nt nl gl gt ((k - z) / 5) (by first | rfl | assumption | omega | trivial | (exfalso; omega)) (by first | rfl | assumption | omega | trivial | (exfalso; omega)) (by first | rfl | assumption | omega | trivial | (exfalso; omega)) (by first | rfl | assumption | omega | trivial | (exfalso; omega))) (cwV 1 hts gX6_stripeBit_X6_numberAt rfl rfl rfl (by decide +kernel) ⟨kk_le rfl, kk_le rfl⟩) (pvR hK hP (va_recv hKv hP (ci := 6) (q0 := 0) rfl rfl)) rfl rfl hl.1 rfl (lv_room (kk_le rfl)) dX6_stripeBit_33 ⟨kk_le rfl, kk_le rfl⟩)) (fun r3 hr3 => ?_)
    subst hr3
    refine lv_iload_n hx hb dX6_stripeBit_36 rfl (lv_at hl 0 rfl) ?_
    refine lv_iconst (v := nI 5) hx hb dX6_stripeBit_37 (by decide) ?_
    refine ni_irem (by omega) (by omega) (by omega) hx hb dX6_stripeBit_38 ?_
    refine vp_callSi (va_Run.run (va_runS (As := [.int (nmF gl nl ((k - z) / 5)), .int (nI ((k - z) % 5))]) (rest := []) ⟨hx, hb, hml, hown, hts⟩ (kX6_bitOf l (nmF gl nl ((k - z) / 5)) ((k - z) % 5) (by first | rfl | assumption | omega | trivial | (exfalso; omega))) (va_cwS 2 hts gX6_stripeBit_X6_bitOf rfl rfl rfl (by decide +kernel) ⟨kk_le rfl, kk_le rfl⟩) psN rfl rfl hl.1 rfl (lv_room (kk_le rfl)) dX6_stripeBit_39 ⟨kk_le rfl, kk_le rfl⟩)) (fun r4 hr4 => ?_)
    subst hr4
    refine lv_goto (tgt := 46) hx hb dX6_stripeBit_42 (by decide) ?_
    exact W.iret (v := (grp (nmF gl nl ((k - z) / 5))).getD ((k - z) % 5) 0) hx hb hr (fun t ht _ => ⟨_, rfl, by first | exact (stb_yes gl (by omega) (by omega)).symm | exact (stb_no gl (by assumption) (by omega) (by omega) (by omega)).symm, ht⟩) (fun _ h => nomatch h) dX6_stripeBit_46
abbrev rm_kX6_swipeMany : Room := { frames := 3, cells := 0, slots := 0, locals := 65 }
set_option maxHeartbeats 4000000 in
set_option maxRecDepth 100000 in
theorem kX6_swipeMany (l : Launch) (D : va_G) (ca : Nat → ClassId) (om a1 a2 a3 a4 a5 a6 a7 a8 a9 : Nat) (thr sv ln bm br ck sa lm rs at_ tm : Int32) (hs : Int64) (z : Nat) (r f j : Int32) (nt nl : Nat) (gl gt : Nat → Int32) (hnt : nt ≤ 200) (hnl : nl ≤ 20) (hz : z ≤ 30) : Met l yX6_swipeMany wsX6_swipeMany rm_kX6_swipeMany (pcR D ca [.ref om] [(om, .inr (6, [.int thr, .ref a1, .ref a2, .ref a3, .int sv, .ref a4, .ref a5, .ref a6, .int ln, .ref a7, .int bm, .int br, .int ck, .int sa, .ref a8, .int lm, .int rs, .int at_, .ref a9, .int tm, .long hs])), (a1, .inl (ca 0, 226, .inl (sF z r f j nt nl gl gt)))]) (vp_Si (fun zr : Int32 => zr = nI ((2 * z + 5 * (nl + 3)) + onesN (strp z (lst gl nl))))) 0 0 (fun _ => False) := by
  refine Met.ofW (cc := cX6_swipeMany) (maxL := 3) (ret := (some .int)) (by decide) rfl ?_
  intro p e s m args below meth c s₁ B hml hv
  obtain ⟨rfl, hP, hK⟩ := hv
  have hx := B.exec
  have hb := B.bytes
  have hr := B.returns
  have hts := atoms_spec (ws := wsX6_swipeMany) B.pre
  have hown : s.vm.findClass RX6 = some m.cls := findClass_of_methodNamed B.named
  have hlocks := B.notSynchronized
  have hKv := hK.1
  have hl := lv_entry ([.ref om]) (n := 3) (kk_le rfl)
  rw [lg_entry_eq]
  generalize (lg_sl ([.ref om]) ++ List.replicate (3 - (lg_sl ([.ref om])).length) Slot.unset).toArray = ls at hl ⊢
  have hl : lv_has ls 3 [(0, .ref om)] := hl
  generalize hQz : MQ below _ _ _ _ _ _ = Qz
  refine lv_iconst (v := nI 0) hx hb dX6_swipeMany_0 (by decide) ?_
  refine lv_istore_n (lv' := [(1, .int (nI 0)), (0, .ref om)]) hx hb dX6_swipeMany_1 rfl hl (by decide) rfl (fun ls hl => ?_)
  refine lv_iconst (v := nI 0) hx hb dX6_swipeMany_2 (by decide) ?_
  refine lv_istore_n (lv' := [(2, .int (nI 0)), (1, .int (nI 0)), (0, .ref om)]) hx hb dX6_swipeMany_3 rfl hl (by decide) rfl (fun ls hl => ?_)
  have lp4_0 : ∀ (k1 : Nat) (i : Nat) (acc : Int32), (2 * z + 5 * (nl + 3)) - i < k1 → (i ≤ (2 * z + 5 * (nl + 3))) → (acc = nI (i + onesN (lst (bf (strp z (lst gl nl))) i))) → ∀ (ls : Array Slot), lv_has ls 3 [(2, .int (nI i)), (1, .int acc), (0, .ref om)] → W p l e rm_kX6_swipeMany s m ([.ref om] : List Value).toArray below meth c s.heap [] 0 0 Qz (F0 m 4 ls []) := by
    intro k1
    induction k1 with
    | zero => intro i acc hm1; exact absurd hm1 (Nat.not_lt_zero _)
    | succ k1 ih1 =>
      intro i acc hm1 hi ha ls hl
      refine lv_iload_n hx hb dX6_swipeMany_4 rfl (lv_at hl 0 rfl) ?_
      refine lv_aload_n hx hb dX6_swipeMany_5 rfl (lv_at hl 2 rfl) ?_
      refine vp_callSi (va_Run.run (va_runV (As := []) (rest := [.int (nI i)]) ⟨hx, hb, hml, hown, hts⟩ (kX6_stripeMany l D ca om a1 a2 a3 a4 a5 a6 a7 a8 a9 thr sv ln bm br ck sa lm rs at_ tm hs z r f j nt nl gl gt (by first | rfl | assumption | omega | trivial | (exfalso; omega)) (by first | rfl | assumption | omega | trivial | (exfalso; omega)) (by first | rfl | assumption | omega | trivial | (exfalso; omega))) (cwV 0 hts gX6_swipeMany_X6_stripeMany rfl rfl rfl (by decide +kernel) ⟨kk_le rfl, kk_le rfl⟩) (pvR hK hP (va_recv hKv hP (ci := 6) (q0 := 0) rfl rfl)) rfl rfl hl.1 rfl (lv_room (kk_le rfl)) dX6_swipeMany_6 ⟨kk_le rfl, kk_le rfl⟩)) (fun r2 hr2 => ?_)
      subst hr2
      refine ni_icmp_ge (tgt := 28) (by omega) (by omega) hx hb dX6_swipeMany_9 (by decide) (fun c3 => ?_) (fun c3 => ?_)
      · refine lv_iload_n hx hb dX6_swipeMany_28 rfl (lv_at hl 1 rfl) ?_
        subst hQz
        exact W.iret (v := acc) hx hb hr (fun t ht _ => ⟨_, rfl, by (rw [ha, show i = (2 * z + 5 * (nl + 3)) from by omega, lst_strp]), ht⟩) (fun _ h => nomatch h) dX6_swipeMany_29
      · refine lv_iload_n hx hb dX6_swipeMany_12 rfl (lv_at hl 1 rfl) ?_
        refine lv_iconst (v := nI 1) hx hb dX6_swipeMany_13 (by decide) ?_
        refine lv_aload_n hx hb dX6_swipeMany_14 rfl (lv_at hl 2 rfl) ?_
        refine lv_iload_n hx hb dX6_swipeMany_15 rfl (lv_at hl 0 rfl) ?_
        refine vp_callSi (va_Run.run (va_runV (As := [.int (nI i)]) (rest := [.int (nI 1), .int acc]) ⟨hx, hb, hml, hown, hts⟩ (kX6_stripeBit l D ca om a1 a2 a3 a4 a5 a6 a7 a8 a9 thr sv ln bm br ck sa lm rs at_ tm hs z r f j nt nl gl gt i (by first | rfl | assumption | omega | trivial | (exfalso; omega)) (by first | rfl | assumption | omega | trivial | (exfalso; omega)) (by first | rfl | assumption | omega | trivial | (exfalso; omega)) (by first | rfl | assumption | omega | trivial | (exfalso; omega))) (cwV 1 hts gX6_swipeMany_X6_stripeBit rfl rfl rfl (by decide +kernel) ⟨kk_le rfl, kk_le rfl⟩) (pvR hK hP (va_recv hKv hP (ci := 6) (q0 := 0) rfl rfl)) rfl rfl hl.1 rfl (lv_room (kk_le rfl)) dX6_swipeMany_16 ⟨kk_le rfl, kk_le rfl⟩)) (fun r4 hr4 => ?_)
        subst hr4
        refine lv_iadd hx hb dX6_swipeMany_19 ?_
        refine lv_iadd hx hb dX6_swipeMany_20 ?_
        refine lv_istore_n (lv' := [(1, .int (acc + ((nI 1) + (bf (strp z (lst gl nl)) i)))), (2, .int (nI i)), (0, .ref om)]) hx hb dX6_swipeMany_21 rfl hl (by decide) rfl (fun ls hl => ?_)
        refine lv_iinc (v := nI (i + 1)) (lv' := [(2, .int (nI (i + 1))), (1, .int (acc + ((nI 1) + (bf (strp z (lst gl nl)) i)))), (0, .ref om)]) hx hb dX6_swipeMany_22 hl (k := 1) rfl (ni_inc _ _ (by decide)) (by decide) rfl (fun ls hl => ?_)
        refine lv_goto (tgt := 4) hx hb dX6_swipeMany_25 (by decide) ?_
        exact ih1 (i + 1) (acc + ((nI 1) + (bf (strp z (lst gl nl)) i))) (by omega) (by omega) (by (rw [ha]; exact sw_step gl nl z i)) ls (lv_sub hl [0, 1, 2] rfl)
  exact lp4_0 (((2 * z + 5 * (nl + 3)) - 0) + 1) 0 (nI 0) (by omega) (by omega) (by rfl) ls (lv_sub hl [0, 1, 2] rfl)
abbrev rm_kX6_swipes : Room := { frames := 3, cells := 0, slots := 0, locals := 65 }
set_option maxHeartbeats 4000000 in
set_option maxRecDepth 100000 in
theorem kX6_swipes (l : Launch) (D : va_G) (ca : Nat → ClassId) (sz : Nat) (om a1 a2 a3 a4 a5 a6 a7 a8 a9 : Nat) (thr sv ln bm br ck sa lm rs at_ tm : Int32) (hs : Int64) (z : Nat) (r f j : Int32) (nt nl : Nat) (gl gt : Nat → Int32) (hnt : nt ≤ 200) (hnl : nl ≤ 20) (hz : z ≤ 30) (ht9 : (2 * z + 5 * (nl + 3)) + onesN (strp z (lst gl nl)) ≤ 200) : Met l yX6_swipes wsX6_swipes rm_kX6_swipes (pcM D ca [.ref om] [(om, .inr (6, [.int thr, .ref a1, .ref a2, .ref a3, .int sv, .ref a4, .ref a5, .ref a6, .int ln, .ref a7, .int bm, .int br, .int ck, .int sa, .ref a8, .int lm, .int rs, .int at_, .ref a9, .int tm, .long hs])), (a1, .inl (ca 0, 226, .inl (sF z r f j nt nl gl gt)))] sz) (va_Qv (fun (u : Unit) => True) (qB D (va_A [(om, .inr (6, [.int thr, .ref a1, .ref a2, .ref a3, .int sv, .ref a4, .ref a5, .ref a6, .int ln, .ref a7, .int bm, .int br, .int ck, .int sa, .ref a8, .int lm, .int rs, .int at_, .ref a9, .int tm, .long hs])), (a1, .inl (ca 0, 226, .inl (sF z r f j nt nl gl gt)))] sz) (fun u : Unit => [(om, .inr (6, [.int thr, .ref a1, .ref a2, .ref a3, .int sv, .ref a4, .ref a5, .ref a6, .int ln, .ref a7, .int bm, .int br, .int ck, .int sa, .ref a8, .int lm, .int rs, .int at_, .ref a9, .int tm, .long hs])), (a1, .inl (ca 0, 226, .inl (sF z r f j (passL j 0 (strp z (lst gl nl))).length nl gl (apF (gzF gt 200) 0 (passL j 0 (strp z (lst gl nl)))))))])) (va_A [(om, .inr (6, [.int thr, .ref a1, .ref a2, .ref a3, .int sv, .ref a4, .ref a5, .ref a6, .int ln, .ref a7, .int bm, .int br, .int ck, .int sa, .ref a8, .int lm, .int rs, .int at_, .ref a9, .int tm, .long hs])), (a1, .inl (ca 0, 226, .inl (sF z r f j nt nl gl gt)))] sz)) 0 0 (va_A [(om, .inr (6, [.int thr, .ref a1, .ref a2, .ref a3, .int sv, .ref a4, .ref a5, .ref a6, .int ln, .ref a7, .int bm, .int br, .int ck, .int sa, .ref a8, .int lm, .int rs, .int at_, .ref a9, .int tm, .long hs])), (a1, .inl (ca 0, 226, .inl (sF z r f j nt nl gl gt)))] sz) := by
  refine Met.ofW (cc := cX6_swipes) (maxL := 4) (ret := none) (by decide) rfl ?_
  intro p e s m args below meth c s₁ B hml hv
  obtain ⟨rfl, hsz, hP, hK, hD0⟩ := hv
  have hx := B.exec
  have hb := B.bytes
  have hr := B.returns
  have hts := atoms_spec (ws := wsX6_swipes) B.pre
  have hown : s.vm.findClass RX6 = some m.cls := findClass_of_methodNamed B.named
  have hlocks := B.notSynchronized
  subst hsz
  have hD := hD0.self (sz := s.heap.size)
  generalize hAe : va_A [(om, .inr (6, [.int thr, .ref a1, .ref a2, .ref a3, .int sv, .ref a4, .ref a5, .ref a6, .int ln, .ref a7, .int bm, .int br, .int ck, .int sa, .ref a8, .int lm, .int rs, .int at_, .ref a9, .int tm, .long hs])), (a1, .inl (ca 0, 226, .inl (sF z r f j nt nl gl gt)))] s.heap.size = A at hD ⊢
  have hA : ∀ q : Nat, s.heap.size ≤ q → A q := fun q h => by rw [← hAe]; exact Or.inr h
  have hS : va_S A s.heap s.heap [] := va_S.rf
  have hP : va_P D vwCl [(om, .inr (6, [.int thr, .ref a1, .ref a2, .ref a3, .int sv, .ref a4, .ref a5, .ref a6, .int ln, .ref a7, .int bm, .int br, .int ck, .int sa, .ref a8, .int lm, .int rs, .int at_, .ref a9, .int tm, .long hs])), (a1, .inl (ca 0, 226, .inl (sF z r f j nt nl gl gt)))] s.heap := hP
  have hKv := hK.1
  have hl := lv_entry ([.ref om]) (n := 4) (kk_le rfl)
  rw [lg_entry_eq]
  generalize (lg_sl ([.ref om]) ++ List.replicate (4 - (lg_sl ([.ref om])).length) Slot.unset).toArray = ls at hl ⊢
  have hl : lv_has ls 4 [(0, .ref om)] := hl
  generalize hQz : MQ below _ _ _ _ _ _ = Qz
  have hiX6 : ∀ w ∈ u_ws RX6 TX6 21, w ∈ wsX6_swipes := fun w h => by first | exact List.mem_cons_of_mem _ (List.mem_append_right _ h) | exact List.mem_cons_of_mem _ (List.mem_append_left _ (List.mem_append_right _ h)) | exact List.mem_cons_of_mem _ (List.mem_append_left _ (List.mem_append_left _ (List.mem_append_right _ h))) | exact List.mem_cons_of_mem _ (List.mem_append_left _ (List.mem_append_left _ (List.mem_append_left _ (List.mem_append_right _ h)))) | (revert w h; decide +kernel)
  have lk7 : (Cond.fieldLink RX6 7 "StripeSwipesModel" "s" "[I").before _ s = true := hts _ (by decide +kernel)
  refine lv_iconst (v := nI 0) hx hb dX6_swipes_0 (by decide) ?_
  refine lv_istore_n (lv' := [(1, .int (nI 0)), (0, .ref om)]) hx hb dX6_swipes_1 rfl hl (by decide) rfl (fun ls hl => ?_)
  have lp2_0 : ∀ (k1 : Nat) (i : Nat), 200 - i < k1 → (i ≤ 200) → ∀ (H : Heap) (locs : List Loc), va_P D vwCl [(om, .inr (6, [.int thr, .ref a1, .ref a2, .ref a3, .int sv, .ref a4, .ref a5, .ref a6, .int ln, .ref a7, .int bm, .int br, .int ck, .int sa, .ref a8, .int lm, .int rs, .int at_, .ref a9, .int tm, .long hs])), (a1, .inl (ca 0, 226, .inl (sF z r f j nt nl gl (gzF gt i))))] H → va_D A [(om, .inr (6, [.int thr, .ref a1, .ref a2, .ref a3, .int sv, .ref a4, .ref a5, .ref a6, .int ln, .ref a7, .int bm, .int br, .int ck, .int sa, .ref a8, .int lm, .int rs, .int at_, .ref a9, .int tm, .long hs])), (a1, .inl (ca 0, 226, .inl (sF z r f j nt nl gl (gzF gt i))))] → va_S A s.heap H locs → ∀ (ls : Array Slot), lv_has ls 4 [(1, .int (nI i)), (0, .ref om)] → W p l e rm_kX6_swipes s m ([.ref om] : List Value).toArray below meth c H locs 0 0 Qz (F0 m 2 ls []) := by
    intro k1
    induction k1 with
    | zero => intro i hm1; exact absurd hm1 (Nat.not_lt_zero _)
    | succ k1 ih1 =>
      intro i hm1 hi H locs hP hD hS ls hl
      refine lv_iload_n hx hb dX6_swipes_2 rfl (lv_at hl 0 rfl) ?_
      refine lv_sipush (v := nI 200) hx hb dX6_swipes_3 (by decide) ?_
      refine ni_icmp_ge (tgt := 25) (by omega) (by omega) hx hb dX6_swipes_6 (by decide) (fun c2 => ?_) (fun c2 => ?_)
      · refine lv_iconst (v := nI 0) hx hb dX6_swipes_25 (by decide) ?_
        refine lv_istore_n (lv' := [(1, .int (nI 0)), (0, .ref om)]) hx hb dX6_swipes_26 rfl hl (by decide) rfl (fun ls hl => ?_)
        refine lv_iconst (v := nI 0) hx hb dX6_swipes_27 (by decide) ?_
        refine lv_istore_n (lv' := [(2, .int (nI 0)), (1, .int (nI 0)), (0, .ref om)]) hx hb dX6_swipes_28 rfl hl (by decide) rfl (fun ls hl => ?_)
        have lp29_2 : ∀ (k2 : Nat) (i n : Nat), (2 * z + 5 * (nl + 3)) - i < k2 → (i ≤ (2 * z + 5 * (nl + 3))) → (n = (passL j 0 (lst (bf (strp z (lst gl nl))) i)).length) → ∀ (H : Heap) (locs : List Loc), va_P D vwCl [(om, .inr (6, [.int thr, .ref a1, .ref a2, .ref a3, .int sv, .ref a4, .ref a5, .ref a6, .int ln, .ref a7, .int bm, .int br, .int ck, .int sa, .ref a8, .int lm, .int rs, .int at_, .ref a9, .int tm, .long hs])), (a1, .inl (ca 0, 226, .inl (sF z r f j nt nl gl (apF (gzF gt 200) 0 (passL j 0 (lst (bf (strp z (lst gl nl))) i))))))] H → va_D A [(om, .inr (6, [.int thr, .ref a1, .ref a2, .ref a3, .int sv, .ref a4, .ref a5, .ref a6, .int ln, .ref a7, .int bm, .int br, .int ck, .int sa, .ref a8, .int lm, .int rs, .int at_, .ref a9, .int tm, .long hs])), (a1, .inl (ca 0, 226, .inl (sF z r f j nt nl gl (apF (gzF gt 200) 0 (passL j 0 (lst (bf (strp z (lst gl nl))) i))))))] → va_S A s.heap H locs → ∀ (ls : Array Slot), lv_has ls 4 [(2, .int (nI i)), (1, .int (nI n)), (0, .ref om)] → W p l e rm_kX6_swipes s m ([.ref om] : List Value).toArray below meth c H locs 0 0 Qz (F0 m 29 ls []) := by
          intro k2
          induction k2 with
          | zero => intro i n hm2; exact absurd hm2 (Nat.not_lt_zero _)
          | succ k2 ih2 =>
            intro i n hm2 hi hnn H locs hP hD hS ls hl
            refine lv_iload_n hx hb dX6_swipes_29 rfl (lv_at hl 0 rfl) ?_
            refine lv_aload_n hx hb dX6_swipes_30 rfl (lv_at hl 2 rfl) ?_
            refine vp_callSi (va_Run.run (va_runV (As := []) (rest := [.int (nI i)]) ⟨hx, hb, hml, hown, hts⟩ (kX6_stripeMany l D ca om a1 a2 a3 a4 a5 a6 a7 a8 a9 thr sv ln bm br ck sa lm rs at_ tm hs z r f j nt nl gl (apF (gzF gt 200) 0 (passL j 0 (lst (bf (strp z (lst gl nl))) i))) (by first | rfl | assumption | omega | trivial | (exfalso; omega)) (by first | rfl | assumption | omega | trivial | (exfalso; omega)) (by first | rfl | assumption | omega | trivial | (exfalso; omega))) (cwV 0 hts gX6_swipes_X6_stripeMany rfl rfl rfl (by decide +kernel) ⟨kk_le rfl, kk_le rfl⟩) (pvR hK hP (va_recv hKv hP (ci := 6) (q0 := 0) rfl rfl)) rfl rfl hl.1 rfl (lv_room (kk_le rfl)) dX6_swipes_31 ⟨kk_le rfl, kk_le rfl⟩)) (fun r4 hr4 => ?_)
            subst hr4
            refine ni_icmp_ge (tgt := 123) (by omega) (by omega) hx hb dX6_swipes_34 (by decide) (fun c5 => ?_) (fun c5 => ?_)
            · refine lv_aload_n hx hb dX6_swipes_123 rfl (lv_at hl 2 rfl) ?_
              refine va_get (D := D) (ci := 6) (C := RX6) (T := TX6) (N := 21) hx hb hts hiX6 hown hKv hP 0 rfl rfl 1 (by decide) lk7 (fun _ h9 => h9) rfl dX6_swipes_124 ?_
              refine lv_iconst (v := nI 4) hx hb dX6_swipes_127 (by decide) ?_
              refine lv_iload_n hx hb dX6_swipes_128 rfl (lv_at hl 1 rfl) ?_
              refine my_iast hx hb hK hP hD hS 1 rfl (by omega) (by omega) dX6_swipes_129 (fun H locs hP hD hS => ?_)
              have hP : va_P D vwCl [(om, .inr (6, [.int thr, .ref a1, .ref a2, .ref a3, .int sv, .ref a4, .ref a5, .ref a6, .int ln, .ref a7, .int bm, .int br, .int ck, .int sa, .ref a8, .int lm, .int rs, .int at_, .ref a9, .int tm, .long hs])), (a1, .inl (ca 0, 226, .inl (upd (sF z r f j nt nl gl (apF (gzF gt 200) 0 (passL j 0 (lst (bf (strp z (lst gl nl))) i)))) 4 (nI n))))] H := hP
              have hD : va_D A [(om, .inr (6, [.int thr, .ref a1, .ref a2, .ref a3, .int sv, .ref a4, .ref a5, .ref a6, .int ln, .ref a7, .int bm, .int br, .int ck, .int sa, .ref a8, .int lm, .int rs, .int at_, .ref a9, .int tm, .long hs])), (a1, .inl (ca 0, 226, .inl (upd (sF z r f j nt nl gl (apF (gzF gt 200) 0 (passL j 0 (lst (bf (strp z (lst gl nl))) i)))) 4 (nI n))))] := hD
              have e6 : (upd (sF z r f j nt nl gl (apF (gzF gt 200) 0 (passL j 0 (lst (bf (strp z (lst gl nl))) i)))) 4 (nI n) : Nat → Int32) = sF z r f j n nl gl (apF (gzF gt 200) 0 (passL j 0 (lst (bf (strp z (lst gl nl))) i))) := sF_w4 _ _ _ _ _ _ _ _ _
              have hP : va_P D vwCl [(om, .inr (6, [.int thr, .ref a1, .ref a2, .ref a3, .int sv, .ref a4, .ref a5, .ref a6, .int ln, .ref a7, .int bm, .int br, .int ck, .int sa, .ref a8, .int lm, .int rs, .int at_, .ref a9, .int tm, .long hs])), (a1, .inl (ca 0, 226, .inl (sF z r f j n nl gl (apF (gzF gt 200) 0 (passL j 0 (lst (bf (strp z (lst gl nl))) i))))))] H := Eq.mp (congrArg (fun z9 : Nat → Int32 => va_P D vwCl [(om, .inr (6, [.int thr, .ref a1, .ref a2, .ref a3, .int sv, .ref a4, .ref a5, .ref a6, .int ln, .ref a7, .int bm, .int br, .int ck, .int sa, .ref a8, .int lm, .int rs, .int at_, .ref a9, .int tm, .long hs])), (a1, .inl (ca 0, 226, .inl z9))] H) e6) hP
              have hD : va_D A [(om, .inr (6, [.int thr, .ref a1, .ref a2, .ref a3, .int sv, .ref a4, .ref a5, .ref a6, .int ln, .ref a7, .int bm, .int br, .int ck, .int sa, .ref a8, .int lm, .int rs, .int at_, .ref a9, .int tm, .long hs])), (a1, .inl (ca 0, 226, .inl (sF z r f j n nl gl (apF (gzF gt 200) 0 (passL j 0 (lst (bf (strp z (lst gl nl))) i))))))] := Eq.mp (congrArg (fun z9 : Nat → Int32 => va_D A [(om, .inr (6, [.int thr, .ref a1, .ref a2, .ref a3, .int sv, .ref a4, .ref a5, .ref a6, .int ln, .ref a7, .int bm, .int br, .int ck, .int sa, .ref a8, .int lm, .int rs, .int at_, .ref a9, .int tm, .long hs])), (a1, .inl (ca 0, 226, .inl z9))]) e6) hD
              subst hQz
              have e7 : (sF z r f j n nl gl (apF (gzF gt 200) 0 (passL j 0 (lst (bf (strp z (lst gl nl))) i))) : Nat → Int32) = sF z r f j (passL j 0 (strp z (lst gl nl))).length nl gl (apF (gzF gt 200) 0 (passL j 0 (strp z (lst gl nl)))) := by exact swp_end gt hnn (by omega) (by omega)
              have hP : va_P D vwCl [(om, .inr (6, [.int thr, .ref a1, .ref a2, .ref a3, .int sv, .ref a4, .ref a5, .ref a6, .int ln, .ref a7, .int bm, .int br, .int ck, .int sa, .ref a8, .int lm, .int rs, .int at_, .ref a9, .int tm, .long hs])), (a1, .inl (ca 0, 226, .inl (sF z r f j (passL j 0 (strp z (lst gl nl))).length nl gl (apF (gzF gt 200) 0 (passL j 0 (strp z (lst gl nl)))))))] H := Eq.mp (congrArg (fun z9 : Nat → Int32 => va_P D vwCl [(om, .inr (6, [.int thr, .ref a1, .ref a2, .ref a3, .int sv, .ref a4, .ref a5, .ref a6, .int ln, .ref a7, .int bm, .int br, .int ck, .int sa, .ref a8, .int lm, .int rs, .int at_, .ref a9, .int tm, .long hs])), (a1, .inl (ca 0, 226, .inl z9))] H) e7) hP
              have hD : va_D A [(om, .inr (6, [.int thr, .ref a1, .ref a2, .ref a3, .int sv, .ref a4, .ref a5, .ref a6, .int ln, .ref a7, .int bm, .int br, .int ck, .int sa, .ref a8, .int lm, .int rs, .int at_, .ref a9, .int tm, .long hs])), (a1, .inl (ca 0, 226, .inl (sF z r f j (passL j 0 (strp z (lst gl nl))).length nl gl (apF (gzF gt 200) 0 (passL j 0 (strp z (lst gl nl)))))))] := Eq.mp (congrArg (fun z9 : Nat → Int32 => va_D A [(om, .inr (6, [.int thr, .ref a1, .ref a2, .ref a3, .int sv, .ref a4, .ref a5, .ref a6, .int ln, .ref a7, .int bm, .int br, .int ck, .int sa, .ref a8, .int lm, .int rs, .int at_, .ref a9, .int tm, .long hs])), (a1, .inl (ca 0, 226, .inl z9))]) e7) hD
              exact W.vret hx hb hr (fun t ht hW => ⟨⟨(), rfl, by trivial, by rw [ht]; exact hP, hD⟩, hS.F ht⟩) hS.2.2 dX6_swipes_130
            · refine lv_sipush (v := nI 200) hx hb dX6_swipes_37 (by decide) ?_
              refine lv_aload_n hx hb dX6_swipes_40 rfl (lv_at hl 2 rfl) ?_
              refine va_get (D := D) (ci := 6) (C := RX6) (T := TX6) (N := 21) hx hb hts hiX6 hown hKv hP 0 rfl rfl 1 (by decide) lk7 (fun _ h9 => h9) rfl dX6_swipes_41 ?_
              refine lv_iconst (v := nI 3) hx hb dX6_swipes_44 (by decide) ?_
              refine my_iald hx hb hK hP 1 rfl (by omega) (by omega) dX6_swipes_45 ?_
              rw [show sF z r f j nt nl gl (apF (gzF gt 200) 0 (passL j 0 (lst (bf (strp z (lst gl nl))) i))) 3 = j from rfl]
              refine lv_iload_n hx hb dX6_swipes_46 rfl (lv_at hl 0 rfl) ?_
              refine lv_iconst (v := nI 5) hx hb dX6_swipes_47 (by decide) ?_
              refine ni_irem (by omega) (by omega) (by omega) hx hb dX6_swipes_48 ?_
              refine lv_imul hx hb dX6_swipes_49 ?_
              refine lv_iadd hx hb dX6_swipes_50 ?_
              refine lv_iconst (v := nI 2) hx hb dX6_swipes_51 (by decide) ?_
              refine lv_aload_n hx hb dX6_swipes_52 rfl (lv_at hl 2 rfl) ?_
              refine va_get (D := D) (ci := 6) (C := RX6) (T := TX6) (N := 21) hx hb hts hiX6 hown hKv hP 0 rfl rfl 1 (by decide) lk7 (fun _ h9 => h9) rfl dX6_swipes_53 ?_
              refine lv_iconst (v := nI 3) hx hb dX6_swipes_56 (by decide) ?_
              refine my_iald hx hb hK hP 1 rfl (by omega) (by omega) dX6_swipes_57 ?_
              rw [show sF z r f j nt nl gl (apF (gzF gt 200) 0 (passL j 0 (lst (bf (strp z (lst gl nl))) i))) 3 = j from rfl]
              refine lv_imul hx hb dX6_swipes_58 ?_
              refine lv_isub hx hb dX6_swipes_59 ?_
              refine lv_istore_n (lv' := [(3, .int (((nI 200) + (j * (nI (i % 5)))) - ((nI 2) * j))), (2, .int (nI i)), (1, .int (nI n)), (0, .ref om)]) hx hb dX6_swipes_60 rfl hl (by decide) rfl (fun ls hl => ?_)
              refine lv_aload_n hx hb dX6_swipes_61 rfl (lv_at hl 3 rfl) ?_
              refine lv_iload_n hx hb dX6_swipes_62 rfl (lv_at hl 1 rfl) ?_
              refine vp_callSi (va_Run.run (va_runV (As := [.int (nI i)]) (rest := []) ⟨hx, hb, hml, hown, hts⟩ (kX6_stripeBit l D ca om a1 a2 a3 a4 a5 a6 a7 a8 a9 thr sv ln bm br ck sa lm rs at_ tm hs z r f j nt nl gl (apF (gzF gt 200) 0 (passL j 0 (lst (bf (strp z (lst gl nl))) i))) i (by first | rfl | assumption | omega | trivial | (exfalso; omega)) (by first | rfl | assumption | omega | trivial | (exfalso; omega)) (by first | rfl | assumption | omega | trivial | (exfalso; omega)) (by first | rfl | assumption | omega | trivial | (exfalso; omega))) (cwV 1 hts gX6_swipes_X6_stripeBit rfl rfl rfl (by decide +kernel) ⟨kk_le rfl, kk_le rfl⟩) (pvR hK hP (va_recv hKv hP (ci := 6) (q0 := 0) rfl rfl)) rfl rfl hl.1 rfl (lv_room (kk_le rfl)) dX6_swipes_63 ⟨kk_le rfl, kk_le rfl⟩)) (fun r8 hr8 => ?_)
              subst hr8
              have hb01 := bf_01 (is01_strp z (lst gl nl)) i
              have hr0 := pas_room (bf (strp z (lst gl nl))) j (n := (2 * z + 5 * (nl + 3))) (i := i) (cap2 := 200) (by omega) (by rw [lst_strp]; exact ht9)
              refine lv_iconst (v := nI 1) hx hb dX6_swipes_66 (by decide) ?_
              refine lv_icmp_ne (tgt := 104) hx hb dX6_swipes_67 (by decide) (fun c9 => ?_) (fun c9 => ?_)
              · have heq : bf (strp z (lst gl nl)) i = nI 0 := hb01.resolve_right c9
                refine lv_aload_n hx hb dX6_swipes_104 rfl (lv_at hl 3 rfl) ?_
                refine va_get (D := D) (ci := 6) (C := RX6) (T := TX6) (N := 21) hx hb hts hiX6 hown hKv hP 0 rfl rfl 1 (by decide) lk7 (fun _ h9 => h9) rfl dX6_swipes_105 ?_
                refine lv_bipush (v := nI 26) hx hb dX6_swipes_108 (by decide) ?_
                refine lv_iload_n hx hb dX6_swipes_110 rfl (lv_at hl 2 rfl) ?_
                refine ni_iadd hx hb dX6_swipes_111 ?_
                refine lv_iload_n hx hb dX6_swipes_112 rfl (lv_at hl 0 rfl) ?_
                refine my_iast hx hb hK hP hD hS 1 rfl (by omega) (by omega) dX6_swipes_113 (fun H locs hP hD hS => ?_)
                have hP : va_P D vwCl [(om, .inr (6, [.int thr, .ref a1, .ref a2, .ref a3, .int sv, .ref a4, .ref a5, .ref a6, .int ln, .ref a7, .int bm, .int br, .int ck, .int sa, .ref a8, .int lm, .int rs, .int at_, .ref a9, .int tm, .long hs])), (a1, .inl (ca 0, 226, .inl (upd (sF z r f j nt nl gl (apF (gzF gt 200) 0 (passL j 0 (lst (bf (strp z (lst gl nl))) i)))) (26 + n) (((nI 200) + (j * (nI (i % 5)))) - ((nI 2) * j)))))] H := hP
                have hD : va_D A [(om, .inr (6, [.int thr, .ref a1, .ref a2, .ref a3, .int sv, .ref a4, .ref a5, .ref a6, .int ln, .ref a7, .int bm, .int br, .int ck, .int sa, .ref a8, .int lm, .int rs, .int at_, .ref a9, .int tm, .long hs])), (a1, .inl (ca 0, 226, .inl (upd (sF z r f j nt nl gl (apF (gzF gt 200) 0 (passL j 0 (lst (bf (strp z (lst gl nl))) i)))) (26 + n) (((nI 200) + (j * (nI (i % 5)))) - ((nI 2) * j)))))] := hD
                have e10 : (upd (sF z r f j nt nl gl (apF (gzF gt 200) 0 (passL j 0 (lst (bf (strp z (lst gl nl))) i)))) (26 + n) (((nI 200) + (j * (nI (i % 5)))) - ((nI 2) * j)) : Nat → Int32) = sF z r f j nt nl gl (upd (apF (gzF gt 200) 0 (passL j 0 (lst (bf (strp z (lst gl nl))) i))) n (((nI 200) + (j * (nI (i % 5)))) - ((nI 2) * j))) := sF_wt _ _ _ _ _ _ _ _ _ (by omega)
                have hP : va_P D vwCl [(om, .inr (6, [.int thr, .ref a1, .ref a2, .ref a3, .int sv, .ref a4, .ref a5, .ref a6, .int ln, .ref a7, .int bm, .int br, .int ck, .int sa, .ref a8, .int lm, .int rs, .int at_, .ref a9, .int tm, .long hs])), (a1, .inl (ca 0, 226, .inl (sF z r f j nt nl gl (upd (apF (gzF gt 200) 0 (passL j 0 (lst (bf (strp z (lst gl nl))) i))) n (((nI 200) + (j * (nI (i % 5)))) - ((nI 2) * j))))))] H := Eq.mp (congrArg (fun z9 : Nat → Int32 => va_P D vwCl [(om, .inr (6, [.int thr, .ref a1, .ref a2, .ref a3, .int sv, .ref a4, .ref a5, .ref a6, .int ln, .ref a7, .int bm, .int br, .int ck, .int sa, .ref a8, .int lm, .int rs, .int at_, .ref a9, .int tm, .long hs])), (a1, .inl (ca 0, 226, .inl z9))] H) e10) hP
                have hD : va_D A [(om, .inr (6, [.int thr, .ref a1, .ref a2, .ref a3, .int sv, .ref a4, .ref a5, .ref a6, .int ln, .ref a7, .int bm, .int br, .int ck, .int sa, .ref a8, .int lm, .int rs, .int at_, .ref a9, .int tm, .long hs])), (a1, .inl (ca 0, 226, .inl (sF z r f j nt nl gl (upd (apF (gzF gt 200) 0 (passL j 0 (lst (bf (strp z (lst gl nl))) i))) n (((nI 200) + (j * (nI (i % 5)))) - ((nI 2) * j))))))] := Eq.mp (congrArg (fun z9 : Nat → Int32 => va_D A [(om, .inr (6, [.int thr, .ref a1, .ref a2, .ref a3, .int sv, .ref a4, .ref a5, .ref a6, .int ln, .ref a7, .int bm, .int br, .int ck, .int sa, .ref a8, .int lm, .int rs, .int at_, .ref a9, .int tm, .long hs])), (a1, .inl (ca 0, 226, .inl z9))]) e10) hD
                refine lv_iinc (v := nI (n + 1)) (lv' := [(1, .int (nI (n + 1))), (3, .int (((nI 200) + (j * (nI (i % 5)))) - ((nI 2) * j))), (2, .int (nI i)), (0, .ref om)]) hx hb dX6_swipes_114 hl (k := 2) rfl (ni_inc _ _ (by decide)) (by decide) rfl (fun ls hl => ?_)
                refine lv_iinc (v := nI (i + 1)) (lv' := [(2, .int (nI (i + 1))), (1, .int (nI (n + 1))), (3, .int (((nI 200) + (j * (nI (i % 5)))) - ((nI 2) * j))), (0, .ref om)]) hx hb dX6_swipes_117 hl (k := 2) rfl (ni_inc _ _ (by decide)) (by decide) rfl (fun ls hl => ?_)
                refine lv_goto (tgt := 29) hx hb dX6_swipes_120 (by decide) ?_
                have e11 : (sF z r f j nt nl gl (upd (apF (gzF gt 200) 0 (passL j 0 (lst (bf (strp z (lst gl nl))) i))) n (((nI 200) + (j * (nI (i % 5)))) - ((nI 2) * j))) : Nat → Int32) = sF z r f j nt nl gl (apF (gzF gt 200) 0 (passL j 0 (lst (bf (strp z (lst gl nl))) (i + 1)))) := by first | exact congrArg (sF z r f j nt nl gl) (swp_1 gt (bf (strp z (lst gl nl))) j hnn (by assumption)) | exact congrArg (sF z r f j nt nl gl) (swp_2 gt (bf (strp z (lst gl nl))) j hnn (by assumption))
                have hP : va_P D vwCl [(om, .inr (6, [.int thr, .ref a1, .ref a2, .ref a3, .int sv, .ref a4, .ref a5, .ref a6, .int ln, .ref a7, .int bm, .int br, .int ck, .int sa, .ref a8, .int lm, .int rs, .int at_, .ref a9, .int tm, .long hs])), (a1, .inl (ca 0, 226, .inl (sF z r f j nt nl gl (apF (gzF gt 200) 0 (passL j 0 (lst (bf (strp z (lst gl nl))) (i + 1)))))))] H := Eq.mp (congrArg (fun z9 : Nat → Int32 => va_P D vwCl [(om, .inr (6, [.int thr, .ref a1, .ref a2, .ref a3, .int sv, .ref a4, .ref a5, .ref a6, .int ln, .ref a7, .int bm, .int br, .int ck, .int sa, .ref a8, .int lm, .int rs, .int at_, .ref a9, .int tm, .long hs])), (a1, .inl (ca 0, 226, .inl z9))] H) e11) hP
                have hD : va_D A [(om, .inr (6, [.int thr, .ref a1, .ref a2, .ref a3, .int sv, .ref a4, .ref a5, .ref a6, .int ln, .ref a7, .int bm, .int br, .int ck, .int sa, .ref a8, .int lm, .int rs, .int at_, .ref a9, .int tm, .long hs])), (a1, .inl (ca 0, 226, .inl (sF z r f j nt nl gl (apF (gzF gt 200) 0 (passL j 0 (lst (bf (strp z (lst gl nl))) (i + 1)))))))] := Eq.mp (congrArg (fun z9 : Nat → Int32 => va_D A [(om, .inr (6, [.int thr, .ref a1, .ref a2, .ref a3, .int sv, .ref a4, .ref a5, .ref a6, .int ln, .ref a7, .int bm, .int br, .int ck, .int sa, .ref a8, .int lm, .int rs, .int at_, .ref a9, .int tm, .long hs])), (a1, .inl (ca 0, 226, .inl z9))]) e11) hD
                exact ih2 (i + 1) (n + 1) (by omega) (by omega) (by first | exact swp_n1 (bf (strp z (lst gl nl))) j hnn (by assumption) | exact swp_n2 (bf (strp z (lst gl nl))) j hnn (by assumption)) _ _ hP hD hS ls (lv_sub hl [0, 1, 3] rfl)
              · have hne : ¬ bf (strp z (lst gl nl)) i = nI 0 := ne_of_1 c9
                have hrm := pas_room1 (bf (strp z (lst gl nl))) j (n := (2 * z + 5 * (nl + 3))) (i := i) (cap2 := 200) (by omega) (by rw [lst_strp]; exact ht9) hne
                refine lv_aload_n hx hb dX6_swipes_70 rfl (lv_at hl 3 rfl) ?_
                refine va_get (D := D) (ci := 6) (C := RX6) (T := TX6) (N := 21) hx hb hts hiX6 hown hKv hP 0 rfl rfl 1 (by decide) lk7 (fun _ h9 => h9) rfl dX6_swipes_71 ?_
                refine lv_bipush (v := nI 26) hx hb dX6_swipes_74 (by decide) ?_
                refine lv_iload_n hx hb dX6_swipes_76 rfl (lv_at hl 2 rfl) ?_
                refine ni_iadd hx hb dX6_swipes_77 ?_
                refine lv_iload_n hx hb dX6_swipes_78 rfl (lv_at hl 0 rfl) ?_
                refine lv_iconst (v := nI 2) hx hb dX6_swipes_79 (by decide) ?_
                refine lv_idiv hx hb dX6_swipes_80 (by first | decide | assumption | exact nI_ne0 (by omega) (by omega)) ?_
                refine my_iast hx hb hK hP hD hS 1 rfl (by omega) (by omega) dX6_swipes_81 (fun H locs hP hD hS => ?_)
                have hP : va_P D vwCl [(om, .inr (6, [.int thr, .ref a1, .ref a2, .ref a3, .int sv, .ref a4, .ref a5, .ref a6, .int ln, .ref a7, .int bm, .int br, .int ck, .int sa, .ref a8, .int lm, .int rs, .int at_, .ref a9, .int tm, .long hs])), (a1, .inl (ca 0, 226, .inl (upd (sF z r f j nt nl gl (apF (gzF gt 200) 0 (passL j 0 (lst (bf (strp z (lst gl nl))) i)))) (26 + n) ((((nI 200) + (j * (nI (i % 5)))) - ((nI 2) * j)) / (nI 2)))))] H := hP
                have hD : va_D A [(om, .inr (6, [.int thr, .ref a1, .ref a2, .ref a3, .int sv, .ref a4, .ref a5, .ref a6, .int ln, .ref a7, .int bm, .int br, .int ck, .int sa, .ref a8, .int lm, .int rs, .int at_, .ref a9, .int tm, .long hs])), (a1, .inl (ca 0, 226, .inl (upd (sF z r f j nt nl gl (apF (gzF gt 200) 0 (passL j 0 (lst (bf (strp z (lst gl nl))) i)))) (26 + n) ((((nI 200) + (j * (nI (i % 5)))) - ((nI 2) * j)) / (nI 2)))))] := hD
                have e12 : (upd (sF z r f j nt nl gl (apF (gzF gt 200) 0 (passL j 0 (lst (bf (strp z (lst gl nl))) i)))) (26 + n) ((((nI 200) + (j * (nI (i % 5)))) - ((nI 2) * j)) / (nI 2)) : Nat → Int32) = sF z r f j nt nl gl (upd (apF (gzF gt 200) 0 (passL j 0 (lst (bf (strp z (lst gl nl))) i))) n ((((nI 200) + (j * (nI (i % 5)))) - ((nI 2) * j)) / (nI 2))) := sF_wt _ _ _ _ _ _ _ _ _ (by omega)
                have hP : va_P D vwCl [(om, .inr (6, [.int thr, .ref a1, .ref a2, .ref a3, .int sv, .ref a4, .ref a5, .ref a6, .int ln, .ref a7, .int bm, .int br, .int ck, .int sa, .ref a8, .int lm, .int rs, .int at_, .ref a9, .int tm, .long hs])), (a1, .inl (ca 0, 226, .inl (sF z r f j nt nl gl (upd (apF (gzF gt 200) 0 (passL j 0 (lst (bf (strp z (lst gl nl))) i))) n ((((nI 200) + (j * (nI (i % 5)))) - ((nI 2) * j)) / (nI 2))))))] H := Eq.mp (congrArg (fun z9 : Nat → Int32 => va_P D vwCl [(om, .inr (6, [.int thr, .ref a1, .ref a2, .ref a3, .int sv, .ref a4, .ref a5, .ref a6, .int ln, .ref a7, .int bm, .int br, .int ck, .int sa, .ref a8, .int lm, .int rs, .int at_, .ref a9, .int tm, .long hs])), (a1, .inl (ca 0, 226, .inl z9))] H) e12) hP
                have hD : va_D A [(om, .inr (6, [.int thr, .ref a1, .ref a2, .ref a3, .int sv, .ref a4, .ref a5, .ref a6, .int ln, .ref a7, .int bm, .int br, .int ck, .int sa, .ref a8, .int lm, .int rs, .int at_, .ref a9, .int tm, .long hs])), (a1, .inl (ca 0, 226, .inl (sF z r f j nt nl gl (upd (apF (gzF gt 200) 0 (passL j 0 (lst (bf (strp z (lst gl nl))) i))) n ((((nI 200) + (j * (nI (i % 5)))) - ((nI 2) * j)) / (nI 2))))))] := Eq.mp (congrArg (fun z9 : Nat → Int32 => va_D A [(om, .inr (6, [.int thr, .ref a1, .ref a2, .ref a3, .int sv, .ref a4, .ref a5, .ref a6, .int ln, .ref a7, .int bm, .int br, .int ck, .int sa, .ref a8, .int lm, .int rs, .int at_, .ref a9, .int tm, .long hs])), (a1, .inl (ca 0, 226, .inl z9))]) e12) hD
                refine lv_aload_n hx hb dX6_swipes_82 rfl (lv_at hl 3 rfl) ?_
                refine va_get (D := D) (ci := 6) (C := RX6) (T := TX6) (N := 21) hx hb hts hiX6 hown hKv hP 0 rfl rfl 1 (by decide) lk7 (fun _ h9 => h9) rfl dX6_swipes_83 ?_
                refine lv_bipush (v := nI 26) hx hb dX6_swipes_86 (by decide) ?_
                refine lv_iload_n hx hb dX6_swipes_88 rfl (lv_at hl 2 rfl) ?_
                refine ni_iadd hx hb dX6_swipes_89 ?_
                refine lv_iconst (v := nI 1) hx hb dX6_swipes_90 (by decide) ?_
                refine ni_iadd hx hb dX6_swipes_91 ?_
                refine lv_iload_n hx hb dX6_swipes_92 rfl (lv_at hl 0 rfl) ?_
                refine lv_iload_n hx hb dX6_swipes_93 rfl (lv_at hl 0 rfl) ?_
                refine lv_iconst (v := nI 2) hx hb dX6_swipes_94 (by decide) ?_
                refine lv_idiv hx hb dX6_swipes_95 (by first | decide | assumption | exact nI_ne0 (by omega) (by omega)) ?_
                refine lv_isub hx hb dX6_swipes_96 ?_
                refine my_iast hx hb hK hP hD hS 1 rfl (by omega) (by omega) dX6_swipes_97 (fun H locs hP hD hS => ?_)
                have hP : va_P D vwCl [(om, .inr (6, [.int thr, .ref a1, .ref a2, .ref a3, .int sv, .ref a4, .ref a5, .ref a6, .int ln, .ref a7, .int bm, .int br, .int ck, .int sa, .ref a8, .int lm, .int rs, .int at_, .ref a9, .int tm, .long hs])), (a1, .inl (ca 0, 226, .inl (upd (sF z r f j nt nl gl (upd (apF (gzF gt 200) 0 (passL j 0 (lst (bf (strp z (lst gl nl))) i))) n ((((nI 200) + (j * (nI (i % 5)))) - ((nI 2) * j)) / (nI 2)))) ((26 + n) + 1) ((((nI 200) + (j * (nI (i % 5)))) - ((nI 2) * j)) - ((((nI 200) + (j * (nI (i % 5)))) - ((nI 2) * j)) / (nI 2))))))] H := hP
                have hD : va_D A [(om, .inr (6, [.int thr, .ref a1, .ref a2, .ref a3, .int sv, .ref a4, .ref a5, .ref a6, .int ln, .ref a7, .int bm, .int br, .int ck, .int sa, .ref a8, .int lm, .int rs, .int at_, .ref a9, .int tm, .long hs])), (a1, .inl (ca 0, 226, .inl (upd (sF z r f j nt nl gl (upd (apF (gzF gt 200) 0 (passL j 0 (lst (bf (strp z (lst gl nl))) i))) n ((((nI 200) + (j * (nI (i % 5)))) - ((nI 2) * j)) / (nI 2)))) ((26 + n) + 1) ((((nI 200) + (j * (nI (i % 5)))) - ((nI 2) * j)) - ((((nI 200) + (j * (nI (i % 5)))) - ((nI 2) * j)) / (nI 2))))))] := hD
                have e13 : (upd (sF z r f j nt nl gl (upd (apF (gzF gt 200) 0 (passL j 0 (lst (bf (strp z (lst gl nl))) i))) n ((((nI 200) + (j * (nI (i % 5)))) - ((nI 2) * j)) / (nI 2)))) ((26 + n) + 1) ((((nI 200) + (j * (nI (i % 5)))) - ((nI 2) * j)) - ((((nI 200) + (j * (nI (i % 5)))) - ((nI 2) * j)) / (nI 2))) : Nat → Int32) = sF z r f j nt nl gl (upd (upd (apF (gzF gt 200) 0 (passL j 0 (lst (bf (strp z (lst gl nl))) i))) n ((((nI 200) + (j * (nI (i % 5)))) - ((nI 2) * j)) / (nI 2))) (n + 1) ((((nI 200) + (j * (nI (i % 5)))) - ((nI 2) * j)) - ((((nI 200) + (j * (nI (i % 5)))) - ((nI 2) * j)) / (nI 2)))) := sF_wt _ _ _ _ _ _ _ _ _ (by omega)
                have hP : va_P D vwCl [(om, .inr (6, [.int thr, .ref a1, .ref a2, .ref a3, .int sv, .ref a4, .ref a5, .ref a6, .int ln, .ref a7, .int bm, .int br, .int ck, .int sa, .ref a8, .int lm, .int rs, .int at_, .ref a9, .int tm, .long hs])), (a1, .inl (ca 0, 226, .inl (sF z r f j nt nl gl (upd (upd (apF (gzF gt 200) 0 (passL j 0 (lst (bf (strp z (lst gl nl))) i))) n ((((nI 200) + (j * (nI (i % 5)))) - ((nI 2) * j)) / (nI 2))) (n + 1) ((((nI 200) + (j * (nI (i % 5)))) - ((nI 2) * j)) - ((((nI 200) + (j * (nI (i % 5)))) - ((nI 2) * j)) / (nI 2)))))))] H := Eq.mp (congrArg (fun z9 : Nat → Int32 => va_P D vwCl [(om, .inr (6, [.int thr, .ref a1, .ref a2, .ref a3, .int sv, .ref a4, .ref a5, .ref a6, .int ln, .ref a7, .int bm, .int br, .int ck, .int sa, .ref a8, .int lm, .int rs, .int at_, .ref a9, .int tm, .long hs])), (a1, .inl (ca 0, 226, .inl z9))] H) e13) hP
                have hD : va_D A [(om, .inr (6, [.int thr, .ref a1, .ref a2, .ref a3, .int sv, .ref a4, .ref a5, .ref a6, .int ln, .ref a7, .int bm, .int br, .int ck, .int sa, .ref a8, .int lm, .int rs, .int at_, .ref a9, .int tm, .long hs])), (a1, .inl (ca 0, 226, .inl (sF z r f j nt nl gl (upd (upd (apF (gzF gt 200) 0 (passL j 0 (lst (bf (strp z (lst gl nl))) i))) n ((((nI 200) + (j * (nI (i % 5)))) - ((nI 2) * j)) / (nI 2))) (n + 1) ((((nI 200) + (j * (nI (i % 5)))) - ((nI 2) * j)) - ((((nI 200) + (j * (nI (i % 5)))) - ((nI 2) * j)) / (nI 2)))))))] := Eq.mp (congrArg (fun z9 : Nat → Int32 => va_D A [(om, .inr (6, [.int thr, .ref a1, .ref a2, .ref a3, .int sv, .ref a4, .ref a5, .ref a6, .int ln, .ref a7, .int bm, .int br, .int ck, .int sa, .ref a8, .int lm, .int rs, .int at_, .ref a9, .int tm, .long hs])), (a1, .inl (ca 0, 226, .inl z9))]) e13) hD
                refine lv_iinc (v := nI (n + 2)) (lv' := [(1, .int (nI (n + 2))), (3, .int (((nI 200) + (j * (nI (i % 5)))) - ((nI 2) * j))), (2, .int (nI i)), (0, .ref om)]) hx hb dX6_swipes_98 hl (k := 2) rfl (ni_inc _ _ (by decide)) (by decide) rfl (fun ls hl => ?_)
                refine lv_goto (tgt := 117) hx hb dX6_swipes_101 (by decide) ?_
                refine lv_iinc (v := nI (i + 1)) (lv' := [(2, .int (nI (i + 1))), (1, .int (nI (n + 2))), (3, .int (((nI 200) + (j * (nI (i % 5)))) - ((nI 2) * j))), (0, .ref om)]) hx hb dX6_swipes_117 hl (k := 2) rfl (ni_inc _ _ (by decide)) (by decide) rfl (fun ls hl => ?_)
                refine lv_goto (tgt := 29) hx hb dX6_swipes_120 (by decide) ?_
                have e14 : (sF z r f j nt nl gl (upd (upd (apF (gzF gt 200) 0 (passL j 0 (lst (bf (strp z (lst gl nl))) i))) n ((((nI 200) + (j * (nI (i % 5)))) - ((nI 2) * j)) / (nI 2))) (n + 1) ((((nI 200) + (j * (nI (i % 5)))) - ((nI 2) * j)) - ((((nI 200) + (j * (nI (i % 5)))) - ((nI 2) * j)) / (nI 2)))) : Nat → Int32) = sF z r f j nt nl gl (apF (gzF gt 200) 0 (passL j 0 (lst (bf (strp z (lst gl nl))) (i + 1)))) := by first | exact congrArg (sF z r f j nt nl gl) (swp_1 gt (bf (strp z (lst gl nl))) j hnn (by assumption)) | exact congrArg (sF z r f j nt nl gl) (swp_2 gt (bf (strp z (lst gl nl))) j hnn (by assumption))
                have hP : va_P D vwCl [(om, .inr (6, [.int thr, .ref a1, .ref a2, .ref a3, .int sv, .ref a4, .ref a5, .ref a6, .int ln, .ref a7, .int bm, .int br, .int ck, .int sa, .ref a8, .int lm, .int rs, .int at_, .ref a9, .int tm, .long hs])), (a1, .inl (ca 0, 226, .inl (sF z r f j nt nl gl (apF (gzF gt 200) 0 (passL j 0 (lst (bf (strp z (lst gl nl))) (i + 1)))))))] H := Eq.mp (congrArg (fun z9 : Nat → Int32 => va_P D vwCl [(om, .inr (6, [.int thr, .ref a1, .ref a2, .ref a3, .int sv, .ref a4, .ref a5, .ref a6, .int ln, .ref a7, .int bm, .int br, .int ck, .int sa, .ref a8, .int lm, .int rs, .int at_, .ref a9, .int tm, .long hs])), (a1, .inl (ca 0, 226, .inl z9))] H) e14) hP
                have hD : va_D A [(om, .inr (6, [.int thr, .ref a1, .ref a2, .ref a3, .int sv, .ref a4, .ref a5, .ref a6, .int ln, .ref a7, .int bm, .int br, .int ck, .int sa, .ref a8, .int lm, .int rs, .int at_, .ref a9, .int tm, .long hs])), (a1, .inl (ca 0, 226, .inl (sF z r f j nt nl gl (apF (gzF gt 200) 0 (passL j 0 (lst (bf (strp z (lst gl nl))) (i + 1)))))))] := Eq.mp (congrArg (fun z9 : Nat → Int32 => va_D A [(om, .inr (6, [.int thr, .ref a1, .ref a2, .ref a3, .int sv, .ref a4, .ref a5, .ref a6, .int ln, .ref a7, .int bm, .int br, .int ck, .int sa, .ref a8, .int lm, .int rs, .int at_, .ref a9, .int tm, .long hs])), (a1, .inl (ca 0, 226, .inl z9))]) e14) hD
                exact ih2 (i + 1) (n + 2) (by omega) (by omega) (by first | exact swp_n1 (bf (strp z (lst gl nl))) j hnn (by assumption) | exact swp_n2 (bf (strp z (lst gl nl))) j hnn (by assumption)) _ _ hP hD hS ls (lv_sub hl [0, 1, 3] rfl)
        have e15 : (sF z r f j nt nl gl (gzF gt i) : Nat → Int32) = sF z r f j nt nl gl (apF (gzF gt 200) 0 (passL j 0 (lst (bf (strp z (lst gl nl))) 0))) := by exact congrArg (sF z r f j nt nl gl) (swp_0 gt (by omega))
        have hP : va_P D vwCl [(om, .inr (6, [.int thr, .ref a1, .ref a2, .ref a3, .int sv, .ref a4, .ref a5, .ref a6, .int ln, .ref a7, .int bm, .int br, .int ck, .int sa, .ref a8, .int lm, .int rs, .int at_, .ref a9, .int tm, .long hs])), (a1, .inl (ca 0, 226, .inl (sF z r f j nt nl gl (apF (gzF gt 200) 0 (passL j 0 (lst (bf (strp z (lst gl nl))) 0))))))] H := Eq.mp (congrArg (fun z9 : Nat → Int32 => va_P D vwCl [(om, .inr (6, [.int thr, .ref a1, .ref a2, .ref a3, .int sv, .ref a4, .ref a5, .ref a6, .int ln, .ref a7, .int bm, .int br, .int ck, .int sa, .ref a8, .int lm, .int rs, .int at_, .ref a9, .int tm, .long hs])), (a1, .inl (ca 0, 226, .inl z9))] H) e15) hP
        have hD : va_D A [(om, .inr (6, [.int thr, .ref a1, .ref a2, .ref a3, .int sv, .ref a4, .ref a5, .ref a6, .int ln, .ref a7, .int bm, .int br, .int ck, .int sa, .ref a8, .int lm, .int rs, .int at_, .ref a9, .int tm, .long hs])), (a1, .inl (ca 0, 226, .inl (sF z r f j nt nl gl (apF (gzF gt 200) 0 (passL j 0 (lst (bf (strp z (lst gl nl))) 0))))))] := Eq.mp (congrArg (fun z9 : Nat → Int32 => va_D A [(om, .inr (6, [.int thr, .ref a1, .ref a2, .ref a3, .int sv, .ref a4, .ref a5, .ref a6, .int ln, .ref a7, .int bm, .int br, .int ck, .int sa, .ref a8, .int lm, .int rs, .int at_, .ref a9, .int tm, .long hs])), (a1, .inl (ca 0, 226, .inl z9))]) e15) hD
        exact lp29_2 (((2 * z + 5 * (nl + 3)) - 0) + 1) 0 0 (by omega) (by omega) (by rfl) _ _ hP hD hS ls (lv_sub hl [0, 1, 2] rfl)
      · refine lv_aload_n hx hb dX6_swipes_9 rfl (lv_at hl 1 rfl) ?_
        refine va_get (D := D) (ci := 6) (C := RX6) (T := TX6) (N := 21) hx hb hts hiX6 hown hKv hP 0 rfl rfl 1 (by decide) lk7 (fun _ h9 => h9) rfl dX6_swipes_10 ?_
        refine lv_bipush (v := nI 26) hx hb dX6_swipes_13 (by decide) ?_
        refine lv_iload_n hx hb dX6_swipes_15 rfl (lv_at hl 0 rfl) ?_
        refine ni_iadd hx hb dX6_swipes_16 ?_
        refine lv_iconst (v := nI 0) hx hb dX6_swipes_17 (by decide) ?_
        refine my_iast hx hb hK hP hD hS 1 rfl (by omega) (by omega) dX6_swipes_18 (fun H locs hP hD hS => ?_)
        have hP : va_P D vwCl [(om, .inr (6, [.int thr, .ref a1, .ref a2, .ref a3, .int sv, .ref a4, .ref a5, .ref a6, .int ln, .ref a7, .int bm, .int br, .int ck, .int sa, .ref a8, .int lm, .int rs, .int at_, .ref a9, .int tm, .long hs])), (a1, .inl (ca 0, 226, .inl (upd (sF z r f j nt nl gl (gzF gt i)) (26 + i) (nI 0))))] H := hP
        have hD : va_D A [(om, .inr (6, [.int thr, .ref a1, .ref a2, .ref a3, .int sv, .ref a4, .ref a5, .ref a6, .int ln, .ref a7, .int bm, .int br, .int ck, .int sa, .ref a8, .int lm, .int rs, .int at_, .ref a9, .int tm, .long hs])), (a1, .inl (ca 0, 226, .inl (upd (sF z r f j nt nl gl (gzF gt i)) (26 + i) (nI 0))))] := hD
        have e16 : (upd (sF z r f j nt nl gl (gzF gt i)) (26 + i) (nI 0) : Nat → Int32) = sF z r f j nt nl gl (upd (gzF gt i) i (nI 0)) := sF_wt _ _ _ _ _ _ _ _ _ (by omega)
        have hP : va_P D vwCl [(om, .inr (6, [.int thr, .ref a1, .ref a2, .ref a3, .int sv, .ref a4, .ref a5, .ref a6, .int ln, .ref a7, .int bm, .int br, .int ck, .int sa, .ref a8, .int lm, .int rs, .int at_, .ref a9, .int tm, .long hs])), (a1, .inl (ca 0, 226, .inl (sF z r f j nt nl gl (upd (gzF gt i) i (nI 0)))))] H := Eq.mp (congrArg (fun z9 : Nat → Int32 => va_P D vwCl [(om, .inr (6, [.int thr, .ref a1, .ref a2, .ref a3, .int sv, .ref a4, .ref a5, .ref a6, .int ln, .ref a7, .int bm, .int br, .int ck, .int sa, .ref a8, .int lm, .int rs, .int at_, .ref a9, .int tm, .long hs])), (a1, .inl (ca 0, 226, .inl z9))] H) e16) hP
        have hD : va_D A [(om, .inr (6, [.int thr, .ref a1, .ref a2, .ref a3, .int sv, .ref a4, .ref a5, .ref a6, .int ln, .ref a7, .int bm, .int br, .int ck, .int sa, .ref a8, .int lm, .int rs, .int at_, .ref a9, .int tm, .long hs])), (a1, .inl (ca 0, 226, .inl (sF z r f j nt nl gl (upd (gzF gt i) i (nI 0)))))] := Eq.mp (congrArg (fun z9 : Nat → Int32 => va_D A [(om, .inr (6, [.int thr, .ref a1, .ref a2, .ref a3, .int sv, .ref a4, .ref a5, .ref a6, .int ln, .ref a7, .int bm, .int br, .int ck, .int sa, .ref a8, .int lm, .int rs, .int at_, .ref a9, .int tm, .long hs])), (a1, .inl (ca 0, 226, .inl z9))]) e16) hD
        refine lv_iinc (v := nI (i + 1)) (lv' := [(1, .int (nI (i + 1))), (0, .ref om)]) hx hb dX6_swipes_19 hl (k := 0) rfl (ni_inc _ _ (by decide)) (by decide) rfl (fun ls hl => ?_)
        refine lv_goto (tgt := 2) hx hb dX6_swipes_22 (by decide) ?_
        have e17 : (sF z r f j nt nl gl (upd (gzF gt i) i (nI 0)) : Nat → Int32) = sF z r f j nt nl gl (gzF gt (i + 1)) := by exact congrArg (sF z r f j nt nl gl) (gzF_step gt i)
        have hP : va_P D vwCl [(om, .inr (6, [.int thr, .ref a1, .ref a2, .ref a3, .int sv, .ref a4, .ref a5, .ref a6, .int ln, .ref a7, .int bm, .int br, .int ck, .int sa, .ref a8, .int lm, .int rs, .int at_, .ref a9, .int tm, .long hs])), (a1, .inl (ca 0, 226, .inl (sF z r f j nt nl gl (gzF gt (i + 1)))))] H := Eq.mp (congrArg (fun z9 : Nat → Int32 => va_P D vwCl [(om, .inr (6, [.int thr, .ref a1, .ref a2, .ref a3, .int sv, .ref a4, .ref a5, .ref a6, .int ln, .ref a7, .int bm, .int br, .int ck, .int sa, .ref a8, .int lm, .int rs, .int at_, .ref a9, .int tm, .long hs])), (a1, .inl (ca 0, 226, .inl z9))] H) e17) hP
        have hD : va_D A [(om, .inr (6, [.int thr, .ref a1, .ref a2, .ref a3, .int sv, .ref a4, .ref a5, .ref a6, .int ln, .ref a7, .int bm, .int br, .int ck, .int sa, .ref a8, .int lm, .int rs, .int at_, .ref a9, .int tm, .long hs])), (a1, .inl (ca 0, 226, .inl (sF z r f j nt nl gl (gzF gt (i + 1)))))] := Eq.mp (congrArg (fun z9 : Nat → Int32 => va_D A [(om, .inr (6, [.int thr, .ref a1, .ref a2, .ref a3, .int sv, .ref a4, .ref a5, .ref a6, .int ln, .ref a7, .int bm, .int br, .int ck, .int sa, .ref a8, .int lm, .int rs, .int at_, .ref a9, .int tm, .long hs])), (a1, .inl (ca 0, 226, .inl z9))]) e17) hD
        exact ih1 (i + 1) (by omega) (by omega) _ _ hP hD hS ls (lv_sub hl [0, 1] rfl)
  have e18 : (sF z r f j nt nl gl gt : Nat → Int32) = sF z r f j nt nl gl (gzF gt 0) := by exact congrArg (sF z r f j nt nl gl) (gzF_0 gt).symm
  have hP : va_P D vwCl [(om, .inr (6, [.int thr, .ref a1, .ref a2, .ref a3, .int sv, .ref a4, .ref a5, .ref a6, .int ln, .ref a7, .int bm, .int br, .int ck, .int sa, .ref a8, .int lm, .int rs, .int at_, .ref a9, .int tm, .long hs])), (a1, .inl (ca 0, 226, .inl (sF z r f j nt nl gl (gzF gt 0))))] s.heap := Eq.mp (congrArg (fun z9 : Nat → Int32 => va_P D vwCl [(om, .inr (6, [.int thr, .ref a1, .ref a2, .ref a3, .int sv, .ref a4, .ref a5, .ref a6, .int ln, .ref a7, .int bm, .int br, .int ck, .int sa, .ref a8, .int lm, .int rs, .int at_, .ref a9, .int tm, .long hs])), (a1, .inl (ca 0, 226, .inl z9))] s.heap) e18) hP
  have hD : va_D A [(om, .inr (6, [.int thr, .ref a1, .ref a2, .ref a3, .int sv, .ref a4, .ref a5, .ref a6, .int ln, .ref a7, .int bm, .int br, .int ck, .int sa, .ref a8, .int lm, .int rs, .int at_, .ref a9, .int tm, .long hs])), (a1, .inl (ca 0, 226, .inl (sF z r f j nt nl gl (gzF gt 0))))] := Eq.mp (congrArg (fun z9 : Nat → Int32 => va_D A [(om, .inr (6, [.int thr, .ref a1, .ref a2, .ref a3, .int sv, .ref a4, .ref a5, .ref a6, .int ln, .ref a7, .int bm, .int br, .int ck, .int sa, .ref a8, .int lm, .int rs, .int at_, .ref a9, .int tm, .long hs])), (a1, .inl (ca 0, 226, .inl z9))]) e18) hD
  exact lp2_0 ((200 - 0) + 1) 0 (by omega) (by omega) _ _ hP hD hS ls (lv_sub hl [0, 1] rfl)
