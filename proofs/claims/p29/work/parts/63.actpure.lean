/-! act: what it does to a state -/
def okE (B : Int) (s : S6) : Prop := ivS B s ∧ s.1 ≤ 24 ∧ okSet 1 s.2.1 = true ∧ okSet 2 s.2.2.1 = true ∧ (lS s).length ≤ 6 ∧ ∀ x ∈ lS s, ∃ d, d < 10 ∧ x = nI d
theorem okE_mono {B B' : Int} (h : B ≤ B') {s : S6} (hs : okE B s) : okE B' s := ⟨ivS_mono h hs.1, hs.2⟩
theorem okE_z {B : Int} {s : S6} (h : okE B s) : s.1 ≤ 30 := by have := h.2.1; omega
theorem okE_T {B : Int} {s : S6} (h : okE B s) : (tS s).length ≤ 200 ∧ ivT B (tS s) := by
  obtain ⟨z, r, f, j, T, L⟩ := s
  exact h.1.2.2
def plN (s : S6) (v : Int32) : Nat := if (tS s).length = 0 then 0 else lowN (v >>> (nI 4 &&& 31)) (tS s).length
def slN (s : S6) (v : Int32) : Nat := if (tS s).length = 0 then 0 else (v &&& nI 15).toNatClampNeg
def cdF (w : Int32) (k : Nat) : Int32 := nI (48 + lowN (w >>> (nI (3 + 2 * k) &&& 31)) 10)
def bfF (w : Int32) (i : Nat) : IL := lst (fun q => cdF w (lowN w 6 - q)) i
def dgL (w : Int32) : IL := (bfF w (lowN w 6 + 1)).map lcode
def svF (w : Int32) (q : Nat) : Int32 := if q = 0 then nI (5 + lowN (w >>> (nI 2 &&& 31)) 20) else if q = 1 then nI (50 + lowN (w >>> (nI 2 &&& 31)) 46) else if q = 2 then nI (lowN (w >>> (nI 2 &&& 31)) 101) else nI (lowN (w >>> (nI 2 &&& 31)) 41)
def actS (s : S6) (v w : Int32) : Int32 × S6 :=
  if slN s v ≤ 2 then (nI (passL s.2.2.2.1 0 (strp s.1 (dgL w))).length, swS s (dgL w)) else
  if slN s v = 3 then (if (lS s).length = 0 then (-9, s) else (nI (passL s.2.2.2.1 0 (strp s.1 (lS s))).length, swS s (lS s))) else
  if slN s v ≤ 5 then ((tS s).reverse.headD (nI 0), setT s (tS s).reverse) else
  if slN s v = 6 then (if plN s v + 1 < (tS s).length then ((tS s).getD (plN s v) 0 + (tS s).getD (plN s v + 1) 0, setT s (joL (tS s) (plN s v))) else (-9, s)) else
  if slN s v = 7 then (if (tS s).length < 200 ∧ nI 1 < (tS s).getD (plN s v) (-1) then (nI ((tS s).length + 1), setT s (scL (tS s) (plN s v) (nI (1 + lowN w (((tS s).getD (plN s v) (-1)).toNatClampNeg - 1))))) else (-9, s)) else
  if slN s v ≤ 9 then ((tS s).getD (plN s v) 0, setT s (chL (tS s) (plN s v) (nI (1 + lowN w 400)))) else
  (seS s (lowN w 4), seW s (lowN w 4) (svF w (lowN w 4)))
theorem inF_n {a lo hi : Nat} (h1 : lo ≤ a) (h2 : a ≤ hi) (h3 : hi < 2147483648) : inF (nI a) (nI lo) (nI hi) = true :=
  inF_in (fun h => by have := (ni_lt (a := a) (b := lo) (by omega) (by omega)).mp h; omega) (fun h => by have := (ni_lt (a := hi) (b := a) (by omega) (by omega)).mp h; omega)
theorem sv_ok (w : Int32) {q : Nat} (hq : q < 4) : okSet q (svF w q) = true := by
  rcases (show q = 0 ∨ q = 1 ∨ q = 2 ∨ q = 3 by omega) with e | e | e | e <;> subst e
  · have h := low_lt (w >>> (nI 2 &&& 31)) (n := 20) (by decide)
    exact inF_n (a := 5 + lowN (w >>> (nI 2 &&& 31)) 20) (lo := 5) (hi := 30) (by omega) (by omega) (by decide)
  · have h := low_lt (w >>> (nI 2 &&& 31)) (n := 46) (by decide)
    exact inF_n (a := 50 + lowN (w >>> (nI 2 &&& 31)) 46) (lo := 50) (hi := 95) (by omega) (by omega) (by decide)
  · have h := low_lt (w >>> (nI 2 &&& 31)) (n := 101) (by decide)
    exact inF_n (a := lowN (w >>> (nI 2 &&& 31)) 101) (lo := 0) (hi := 100) (by omega) (by omega) (by decide)
  · have h := low_lt (w >>> (nI 2 &&& 31)) (n := 41) (by decide)
    exact inF_n (a := lowN (w >>> (nI 2 &&& 31)) 41) (lo := 0) (hi := 40) (by omega) (by omega) (by decide)
theorem on_rep (z : Nat) : onesN (List.replicate z (nI 0)) = 0 := by
  induction z with
  | zero => rfl
  | succ n ih =>
    rw [List.replicate_succ]
    show (if nI 0 = nI 0 then 0 else 1) + onesN (List.replicate n (nI 0)) = 0
    rw [if_pos rfl, ih]
theorem nb_le {z : Nat} {L : IL} (hz : z ≤ 24) (hL : L.length ≤ 6) : ¬ 200 < needB z L := by
  have h : onesN (strp z L) ≤ 5 * (L.length + 3) := by
    unfold strp
    simp only [onesN_app, on_rep]
    have h1 := onesN_le (grp (nI 11))
    have h2 := onesN_le (L.flatMap grp)
    have h3 := onesN_le (grp (nI 15))
    have h4 := onesN_le (grp (chkL L))
    rw [grp_len] at h1 h3 h4
    rw [flat_len] at h2
    omega
  unfold needB
  omega
theorem lc_dig : ∀ d : Fin 10, lcode (nI (48 + d.val)) = nI d.val := by decide +kernel
theorem cd_lc (w : Int32) (k : Nat) : ∃ d, d < 10 ∧ cdF w k = nI (48 + d) ∧ lcode (cdF w k) = nI d := by
  have h := low_lt (w >>> (nI (3 + 2 * k) &&& 31)) (n := 10) (by decide)
  exact ⟨_, h, rfl, lc_dig ⟨_, h⟩⟩
theorem lst_mem {g : Nat → Int32} {n : Nat} {x : Int32} (h : x ∈ lst g n) : ∃ k, k < n ∧ g k = x := by
  obtain ⟨k, hk, e⟩ := List.mem_map.mp h
  exact ⟨k, List.mem_range.mp hk, e⟩
theorem mem_lst {g : Nat → Int32} {n k : Nat} (h : k < n) : g k ∈ lst g n := List.mem_map.mpr ⟨k, List.mem_range.mpr h, rfl⟩
theorem dg_len (w : Int32) : (dgL w).length ≤ 6 := by
  have h := low_lt w (n := 6) (by decide)
  unfold dgL bfF
  rw [List.length_map, lst_len]; omega
theorem dg_in (w : Int32) : ∀ x ∈ dgL w, ∃ d, d < 10 ∧ x = nI d := by
  intro x hx
  obtain ⟨y, hy, rfl⟩ := List.mem_map.mp hx
  obtain ⟨k, -, rfl⟩ := lst_mem hy
  obtain ⟨d, h1, -, h3⟩ := cd_lc w (lowN w 6 - k)
  exact ⟨d, h1, h3⟩
theorem bf_er (w : Int32) : ¬ (erB (bfF w (lowN w 6 + 1)) < (bfF w (lowN w 6 + 1)).length ∨ (bfF w (lowN w 6 + 1)).length = 0) := by
  have h := low_lt w (n := 6) (by decide)
  have e1 : erB (bfF w (lowN w 6 + 1)) = lowN w 6 + 1 := by
    unfold bfF
    rw [erB_lst]
    refine er_end (fun j hj => okC_t hj ?_) (fun _ => okC_a (Nat.lt_irrefl _)) (by omega)
    obtain ⟨d, h1, -, h3⟩ := cd_lc w (lowN w 6 - j)
    show ¬ lcode (cdF w (lowN w 6 - j)) = -1
    rw [h3]; exact ni_m1 (by omega)
  have e2 : (bfF w (lowN w 6 + 1)).length = lowN w 6 + 1 := lst_len _ _
  rw [e1, e2]; omega
theorem gd_mem {T : IL} {p : Nat} {d : Int32} (h : p < T.length) : T.getD p d ∈ T := by
  rw [List.getD_eq_getElem?_getD, List.getElem?_eq_getElem h]; exact List.getElem_mem h
theorem gd_any {T : IL} {p : Nat} {d d' : Int32} (h : p < T.length) : T.getD p d = T.getD p d' := by
  rw [List.getD_eq_getElem?_getD, List.getD_eq_getElem?_getD, List.getElem?_eq_getElem h]; rfl
theorem ne9_of {x : Int32} (h : ¬ x < nI 1) : ¬ x = -9 := fun e => h (by rw [e]; decide)
theorem ne9_n {k : Nat} (h : k < 2147483648) : ¬ nI k = -9 := fun e => nI_pos h (by rw [e]; decide)
theorem hd_mem {l : IL} {d : Int32} (h : ¬ l.length = 0) : l.headD d ∈ l := by
  cases l with
  | nil => exact absurd rfl h
  | cons x l => exact List.mem_cons_self
theorem jo_mem {T : IL} {q : Nat} (h : q + 1 < T.length) : T.getD q 0 + T.getD (q + 1) 0 ∈ joL T q := by
  have h2 := mem_lst (g := fun k => if k < q then T.getD k 0 else if k = q then T.getD q 0 + T.getD (q + 1) 0 else T.getD (k + 1) 0) (n := T.length - 1) (k := q) (by omega)
  have h3 : (if q < q then T.getD q 0 else if q = q then T.getD q 0 + T.getD (q + 1) 0 else T.getD (q + 1) 0) ∈ joL T q := h2
  rw [if_neg (Nat.lt_irrefl _), if_pos rfl] at h3
  exact h3
theorem ok_sw {B : Int} {s : S6} {L : IL} (h : okE B s) (hL : L.length ≤ 6) (hd : ∀ x ∈ L, ∃ d, d < 10 ∧ x = nI d) (hB : 56000 ≤ B) : okE B (swS s L) := by
  obtain ⟨z, r, f, j, T, L0⟩ := s
  obtain ⟨⟨h1, h2, h3, h4⟩, h5, h6, h7, h8, h9⟩ := h
  have hl : (passL j 0 (strp z L)).length ≤ 200 := pl_le (nb_le h5 hL)
  have h10 := ok_pass h2 hl
  exact ⟨⟨h1, h2, hl, h10.1, Int.le_trans h10.2 hB⟩, h5, h6, h7, hL, hd⟩
theorem ok_st {B B' : Int} {s : S6} {T : IL} (h : okE B s) (hT : T.length ≤ 200) (hi : ivT B' T) : okE B' (setT s T) := by
  obtain ⟨z, r, f, j, T0, L⟩ := s
  obtain ⟨⟨h1, h2, h3, h4⟩, h5⟩ := h
  exact ⟨⟨h1, h2, hT, hi⟩, h5⟩
theorem ok_se {B : Int} {s : S6} (w : Int32) {q : Nat} (h : okE B s) (hq : q < 4) : okE B (seW s q (svF w q)) := by
  have h0 := sv_ok w hq
  obtain ⟨z, r, f, j, T, L⟩ := s
  obtain ⟨⟨h1, h2, h3⟩, h5, h6, h7, h8⟩ := h
  rcases (show q = 0 ∨ q = 1 ∨ q = 2 ∨ q = 3 by omega) with e | e | e | e <;> subst e
  · have hl := low_lt (w >>> (nI 2 &&& 31)) (n := 20) (by decide)
    have e1 : qN (svF w 0) = 5 + lowN (w >>> (nI 2 &&& 31)) 20 := qN_n (q := 5 + lowN (w >>> (nI 2 &&& 31)) 20) (by omega)
    exact ⟨⟨by show qN (svF w 0) ≤ 30; rw [e1]; omega, h2, h3⟩, by show qN (svF w 0) ≤ 24; rw [e1]; omega, h6, h7, h8⟩
  · exact ⟨⟨h1, h2, h3⟩, h5, h0, h7, h8⟩
  · exact ⟨⟨h1, h2, h3⟩, h5, h6, h0, h8⟩
  · exact ⟨⟨h1, h0, h3⟩, h5, h6, h7, h8⟩
theorem pl_lt {s : S6} {v : Int32} (h : ¬ (tS s).length = 0) : plN s v < (tS s).length := by
  unfold plN; rw [if_neg h]; exact low_lt _ (by omega)
theorem sl_0 {s : S6} {v : Int32} (h : (tS s).length = 0) : slN s v = 0 := by unfold slN; rw [if_pos h]
theorem sl_n {s : S6} {v : Int32} (h : ¬ slN s v ≤ 2) : ¬ (tS s).length = 0 := fun e => h (by rw [sl_0 e]; omega)
/-- the cases -/
theorem ac_w {s : S6} {v w : Int32} (h : slN s v ≤ 2) : actS s v w = (nI (passL s.2.2.2.1 0 (strp s.1 (dgL w))).length, swS s (dgL w)) := if_pos h
theorem ac_s9 {s : S6} {v w : Int32} (h : slN s v = 3) (h0 : (lS s).length = 0) : actS s v w = (-9, s) := by
  unfold actS; rw [if_neg (by omega), if_pos h, if_pos h0]
theorem ac_s {s : S6} {v w : Int32} (h : slN s v = 3) (h0 : ¬ (lS s).length = 0) : actS s v w = (nI (passL s.2.2.2.1 0 (strp s.1 (lS s))).length, swS s (lS s)) := by
  unfold actS; rw [if_neg (by omega), if_pos h, if_neg h0]
theorem ac_t {s : S6} {v w : Int32} (h : slN s v = 4 ∨ slN s v = 5) : actS s v w = ((tS s).reverse.headD (nI 0), setT s (tS s).reverse) := by
  unfold actS; rw [if_neg (by omega), if_neg (by omega), if_pos (by omega)]
theorem ac_j {s : S6} {v w : Int32} (h : slN s v = 6) (h0 : plN s v + 1 < (tS s).length) : actS s v w = ((tS s).getD (plN s v) 0 + (tS s).getD (plN s v + 1) 0, setT s (joL (tS s) (plN s v))) := by
  unfold actS; rw [if_neg (by omega), if_neg (by omega), if_neg (by omega), if_pos h, if_pos h0]
theorem ac_j9 {s : S6} {v w : Int32} (h : slN s v = 6) (h0 : ¬ plN s v + 1 < (tS s).length) : actS s v w = (-9, s) := by
  unfold actS; rw [if_neg (by omega), if_neg (by omega), if_neg (by omega), if_pos h, if_neg h0]
theorem ac_c {s : S6} {v w : Int32} (h : slN s v = 7) (h0 : (tS s).length < 200 ∧ nI 1 < (tS s).getD (plN s v) (-1)) : actS s v w = (nI ((tS s).length + 1), setT s (scL (tS s) (plN s v) (nI (1 + lowN w (((tS s).getD (plN s v) (-1)).toNatClampNeg - 1))))) := by
  unfold actS; rw [if_neg (by omega), if_neg (by omega), if_neg (by omega), if_neg (by omega), if_pos h, if_pos h0]
theorem ac_c9 {s : S6} {v w : Int32} (h : slN s v = 7) (h0 : ¬ ((tS s).length < 200 ∧ nI 1 < (tS s).getD (plN s v) (-1))) : actS s v w = (-9, s) := by
  unfold actS; rw [if_neg (by omega), if_neg (by omega), if_neg (by omega), if_neg (by omega), if_pos h, if_neg h0]
theorem ac_h {s : S6} {v w : Int32} (h : slN s v = 8 ∨ slN s v = 9) : actS s v w = ((tS s).getD (plN s v) 0, setT s (chL (tS s) (plN s v) (nI (1 + lowN w 400)))) := by
  unfold actS; rw [if_neg (by omega), if_neg (by omega), if_neg (by omega), if_neg (by omega), if_neg (by omega), if_pos (by omega)]
theorem ac_e {s : S6} {v w : Int32} (h : 10 ≤ slN s v) : actS s v w = (seS s (lowN w 4), seW s (lowN w 4) (svF w (lowN w 4))) := by
  unfold actS; rw [if_neg (by omega), if_neg (by omega), if_neg (by omega), if_neg (by omega), if_neg (by omega), if_neg (by omega)]
/-- the time at the place, as a number -/
theorem tm_n {B : Int} {s : S6} {p : Nat} (h : okE B s) (hp : p < (tS s).length) : ∃ n, 1 ≤ n ∧ n < 2147483648 ∧ (tS s).getD p (-1) = nI n := by
  have h1 : ¬ (tS s).getD p (-1) < nI 1 := (okE_T h).2.1 _ (gd_mem hp)
  have h2 := ge_1 h1
  obtain ⟨n, hn, e⟩ := nn_ex (x := (tS s).getD p (-1)) (fun q => by
    have q2 := Int32.lt_iff_toInt_lt.mp q
    rw [show (0 : Int32).toInt = 0 from by decide] at q2; omega)
  refine ⟨n, ?_, hn, e⟩
  rw [e, nI_toInt hn] at h2; omega
theorem act_ok {B : Int} {s : S6} (v w : Int32) (h : okE B s) (hB : 56000 ≤ B) (hB2 : B ≤ 2000000) : okE (B + 999) (actS s v w).2 := by
  have hM : okE (B + 999) s := okE_mono (by omega) h
  by_cases c0 : slN s v ≤ 2
  · rw [ac_w c0]; exact okE_mono (by omega) (ok_sw h (dg_len w) (dg_in w) hB)
  have hn0 := sl_n c0
  have hpl := pl_lt (v := v) hn0
  have hTT := okE_T h
  by_cases c1 : slN s v = 3
  · by_cases d : (lS s).length = 0
    · rw [ac_s9 c1 d]; exact hM
    · rw [ac_s c1 d]; exact okE_mono (by omega) (ok_sw h h.2.2.2.2.1 h.2.2.2.2.2 hB)
  by_cases c2 : slN s v = 4 ∨ slN s v = 5
  · rw [ac_t c2]
    refine okE_mono (B := B) (by omega) (ok_st h (by rw [List.length_reverse]; exact hTT.1) ⟨fun x hx => hTT.2.1 x (List.mem_reverse.mp hx), by rw [sI_rev]; exact hTT.2.2⟩)
  by_cases c3 : slN s v = 6
  · by_cases d : plN s v + 1 < (tS s).length
    · rw [ac_j c3 d]
      refine okE_mono (B := B) (by omega) (ok_st h ?_ (ok_jo hTT.2 (by omega) d))
      unfold joL; rw [lst_len]; have := hTT.1; omega
    · rw [ac_j9 c3 d]; exact hM
  by_cases c4 : slN s v = 7
  · by_cases d : (tS s).length < 200 ∧ nI 1 < (tS s).getD (plN s v) (-1)
    · rw [ac_c c4 d]
      obtain ⟨n, h1, h2, e⟩ := tm_n h hpl
      have d2 := d.2
      rw [e] at d2
      have h3 := (ni_lt (by decide) h2).mp d2
      have h4 := low_lt w (n := n - 1) (by omega)
      refine okE_mono (B := B) (by omega) (ok_st h ?_ (ok_sc hTT.2 hpl ?_ ?_))
      · unfold scL; rw [lst_len]; have := d.1; omega
      · rw [e, nI_clamp h2]; exact fun q => by have := (ni_lt (by omega) (by decide)).mp q; omega
      · rw [gd_any (d := 0) (d' := -1) hpl, e, nI_clamp h2]; exact (ni_lt (by omega) h2).mpr (by omega)
    · rw [ac_c9 c4 d]; exact hM
  by_cases c5 : slN s v = 8 ∨ slN s v = 9
  · rw [ac_h c5]
    have h4 := low_lt w (n := 400) (by decide)
    refine ok_st h ?_ (ok_ch hTT.2 hpl (inF_n (by omega) (by omega) (by decide)))
    unfold chL; rw [lst_len]; exact hTT.1
  · rw [ac_e (by omega)]; exact okE_mono (by omega) (ok_se w h (low_lt w (by decide)))
/-- what stands behind act -/
theorem act_post {σ : SG} {v w res : Int32} {s' : S6} {b : IL} {g2 : CG} (h : actS σ.1 v w = (res, s')) (hn : ¬ res = -9) (ha : abC g2 = mvS σ s' b) : res = (actS σ.1 v w).1 ∧ ∃ b', abC g2 = ((actS σ.1 v w).2, (if (actS σ.1 v w).1 = -9 then σ.2.1 else svL σ.2.1 σ.1), σ.2.2.1, σ.2.2.2.1, b') := by
  rw [h]
  refine ⟨rfl, b, ?_⟩
  show abC g2 = (s', (if res = -9 then σ.2.1 else svL σ.2.1 σ.1), σ.2.2.1, σ.2.2.2.1, b)
  rw [if_neg hn]; exact ha
theorem act_post9 {σ : SG} {v w : Int32} {g2 : CG} (h : actS σ.1 v w = (-9, σ.1)) (ha : abC g2 = σ) : (-9 : Int32) = (actS σ.1 v w).1 ∧ ∃ b', abC g2 = ((actS σ.1 v w).2, (if (actS σ.1 v w).1 = -9 then σ.2.1 else svL σ.2.1 σ.1), σ.2.2.1, σ.2.2.2.1, b') := by
  rw [h]
  refine ⟨rfl, σ.2.2.2.2, ?_⟩
  show abC g2 = (σ.1, (if (-9 : Int32) = -9 then σ.2.1 else svL σ.2.1 σ.1), σ.2.2.1, σ.2.2.2.1, σ.2.2.2.2)
  rw [if_pos rfl]; exact ha
theorem se_ne9 {B : Int} {s : S6} {q : Nat} (h : okE B s) (hq : q < 4) : ¬ seS s q = -9 := by
  obtain ⟨z, r, f, j, T, L⟩ := s
  obtain ⟨⟨h1, h2, h3⟩, h5, h6, h7, h8⟩ := h
  have key : ∀ {x : Int32} {lo hi : Nat}, inF x (nI lo) (nI hi) = true → lo < 2147483648 → ¬ x = -9 := by
    intro x lo hi hx hlo e
    refine (inF_iff.mp hx).1 ?_
    rw [e, Int32.lt_iff_toInt_lt, nI_toInt hlo, show (-9 : Int32).toInt = -9 from by decide]; omega
  rcases (show q = 0 ∨ q = 1 ∨ q = 2 ∨ q = 3 by omega) with e | e | e | e <;> subst e
  · exact ne9_n (k := z) (by have : z ≤ 30 := h1; omega)
  · exact key (lo := 50) (hi := 95) h6 (by decide)
  · exact key (lo := 0) (hi := 100) h7 (by decide)
  · exact key (lo := 0) (hi := 40) h2 (by decide)
