/-! holds: what it looks at -/
def btS (s : S6) (bw : Bool) : IL := bitsT s.2.1 s.2.2.1 (twL bw (tS s))
def ltS (s : S6) (bw : Bool) : IL := ltB (btS s bw)
theorem bt_01S (s : S6) (bw : Bool) : is01 (btS s bw) := rdB_01 _ _ _ _
theorem tw_len (bw : Bool) (t : IL) : (twL bw t).length = t.length := by
  unfold twL; split
  · exact List.length_reverse
  · rfl
theorem bt_len (s : S6) (bw : Bool) : (btS s bw).length ≤ (tS s).length := by
  have h := rdB_len s.2.1 s.2.2.1 (twL bw (tS s)) (fclk (twL bw (tS s)))
  rw [tw_len] at h
  exact h
theorem lt_40 {s : S6} {bw : Bool} (h : (tS s).length ≤ 200) : (ltS s bw).length ≤ 40 := ltB_len _ (Nat.le_trans (bt_len s bw) h)
set_option maxRecDepth 100000 in
theorem ng_tab : ∀ b0 b1 b2 b3 : Fin 2, nI 0 + nI b0.val <<< (nI 0 &&& 31) + nI b1.val <<< (nI 1 &&& 31) + nI b2.val <<< (nI 2 &&& 31) + nI b3.val <<< (nI 3 &&& 31) = nI (b0.val + 2 * b1.val + 4 * b2.val + 8 * b3.val) := by decide +kernel
set_option maxRecDepth 100000 in
theorem xo_tab : ∀ b0 b1 b2 b3 : Fin 2, nI (b0.val + 2 * b1.val + 4 * b2.val + 8 * b3.val) ^^^ (nI b0.val <<< (nI 0 &&& 31)) ^^^ (nI b1.val <<< (nI 1 &&& 31)) ^^^ (nI b2.val <<< (nI 2 &&& 31)) ^^^ (nI b3.val <<< (nI 3 &&& 31)) = nI 0 := by decide +kernel
theorem ng_v {f : Nat → Int32} {p : Nat} (h : ∀ k, f k = nI 0 ∨ f k = nI 1) : ∃ v, v < 16 ∧ numG f p = nI v := by
  obtain ⟨c0, e0⟩ := f2_of (h p)
  obtain ⟨c1, e1⟩ := f2_of (h (p + 1))
  obtain ⟨c2, e2⟩ := f2_of (h (p + 2))
  obtain ⟨c3, e3⟩ := f2_of (h (p + 3))
  refine ⟨c0.val + 2 * c1.val + 4 * c2.val + 8 * c3.val, by omega, ?_⟩
  show nI 0 + f p <<< (nI 0 &&& 31) + f (p + 1) <<< (nI 1 &&& 31) + f (p + 2) <<< (nI 2 &&& 31) + f (p + 3) <<< (nI 3 &&& 31) = _
  rw [e0, e1, e2, e3]
  exact ng_tab c0 c1 c2 c3
def xoS (f : Nat → Int32) (p : Nat) (c : Int32) : Nat → Int32
  | 0 => c
  | k + 1 => xoS f p c k ^^^ (f (p + k) <<< (nI k &&& 31))
theorem xo_0 {f : Nat → Int32} {p : Nat} (h : ∀ k, f k = nI 0 ∨ f k = nI 1) : xoS f p (numG f p) 4 = nI 0 := by
  obtain ⟨c0, e0⟩ := f2_of (h p)
  obtain ⟨c1, e1⟩ := f2_of (h (p + 1))
  obtain ⟨c2, e2⟩ := f2_of (h (p + 2))
  obtain ⟨c3, e3⟩ := f2_of (h (p + 3))
  have en : numG f p = nI (c0.val + 2 * c1.val + 4 * c2.val + 8 * c3.val) := by
    show nI 0 + f p <<< (nI 0 &&& 31) + f (p + 1) <<< (nI 1 &&& 31) + f (p + 2) <<< (nI 2 &&& 31) + f (p + 3) <<< (nI 3 &&& 31) = _
    rw [e0, e1, e2, e3]
    exact ng_tab c0 c1 c2 c3
  rw [en]
  show nI (c0.val + 2 * c1.val + 4 * c2.val + 8 * c3.val) ^^^ (f p <<< (nI 0 &&& 31)) ^^^ (f (p + 1) <<< (nI 1 &&& 31)) ^^^ (f (p + 2) <<< (nI 2 &&& 31)) ^^^ (f (p + 3) <<< (nI 3 &&& 31)) = _
  rw [e0, e1, e2, e3]
  exact xo_tab c0 c1 c2 c3
theorem rsn_1 (f : Nat → Int32) (n st nl : Nat) (l : IL) : ¬ rsn f n st nl l = nI 1 := by
  unfold rsn
  split
  · decide
  · split
    · decide
    · split
      · decide
      · split
        · decide
        · split
          · decide
          · split
            · decide
            · decide
theorem rsn_0 {f : Nat → Int32} {n st nl : Nat} {l : IL} (h : rsn f n st nl l = nI 0) : ¬ nl = 0 ∧ gp st (nl + 1) + 5 ≤ n ∧ chkL l = numG f (gp st (nl + 1)) := by
  unfold rsn at h
  split at h
  · exact absurd h (by decide)
  · split at h
    · exact absurd h (by decide)
    · split at h
      · exact absurd h (by decide)
      · rename_i h3
        split at h
        · exact absurd h (by decide)
        · split at h
          · exact absurd h (by decide)
          · rename_i h5
            split at h
            · exact absurd h (by decide)
            · rename_i h6
              exact ⟨h6, Decidable.byContradiction h3, (Decidable.byContradiction h5 : numG f (gp st (nl + 1)) = chkL l).symm⟩
theorem hd_f (s : S6) (bw : Bool) (hT : (tS s).length ≤ 200) :
    (rdV s bw 2 = -1 ∧ (ltS s bw).length = 0 ∧ (rdV s bw 0 = nI 1 ∨ rdV s bw 0 = nI 5)) ∨
    (∃ st, rdV s bw 2 = nI st ∧ st + 5 + 5 * (ltS s bw).length ≤ (btS s bw).length ∧ ¬ rdV s bw 0 = nI 1 ∧ (rdV s bw 0 = nI 0 → ¬ (ltS s bw).length = 0 ∧ st + 10 + 5 * (ltS s bw).length + 5 ≤ (btS s bw).length ∧ chkL (ltS s bw) = numG (bf (btS s bw)) (st + 10 + 5 * (ltS s bw).length))) := by
  have hb : (btS s bw).length ≤ 200 := Nat.le_trans (bt_len s bw) hT
  rcases stB_cases (btS s bw) with ⟨h, -⟩ | ⟨h, h5⟩
  · refine Or.inl ⟨h, ?_, ?_⟩
    · unfold ltS; rw [ltB_none h]; rfl
    · show rsT s.2.1 s.2.2.1 (twL bw (tS s)) = nI 1 ∨ rsT s.2.1 s.2.2.1 (twL bw (tS s)) = nI 5
      unfold rsT rsB
      by_cases q : (rdT s.2.1 s.2.2.1 (twL bw (tS s))).2.2 = false
      · rw [if_pos q]; exact Or.inr rfl
      · rw [if_neg q, if_pos (show stB (bitsT s.2.1 s.2.2.1 (twL bw (tS s))) = -1 from h)]; exact Or.inl rfl
  · have hne := lr_ne h h5 hb
    have hl : ltS s bw = ltL (bf (btS s bw)) (btS s bw).length (stN (bf (btS s bw)) (btS s bw).length) := ltB_some hne
    have hn : (ltS s bw).length = ltN (bf (btS s bw)) (btS s bw).length (stN (bf (btS s bw)) (btS s bw).length) := by rw [hl, ltL_len]
    have hg : stN (bf (btS s bw)) (btS s bw).length + 5 + 5 * (ltS s bw).length ≤ (btS s bw).length := by
      rcases Nat.eq_zero_or_pos (ltS s bw).length with q | q
      · omega
      · have h9 := okG_len (ltN_ok (f := bf (btS s bw)) (n := (btS s bw).length) (st := stN (bf (btS s bw)) (btS s bw).length) (j := (ltS s bw).length - 1) (by rw [← hn]; omega))
        unfold gp at h9; omega
    refine Or.inr ⟨_, h, hg, ?_⟩
    have er : rdV s bw 0 = rsB (rdT s.2.1 s.2.2.1 (twL bw (tS s))).2.2 (btS s bw) := rfl
    rw [er]
    unfold rsB
    by_cases q : (rdT s.2.1 s.2.2.1 (twL bw (tS s))).2.2 = false
    · rw [if_pos q]; exact ⟨by decide, fun h => absurd h (by decide)⟩
    · rw [if_neg q, if_neg hne]
      refine ⟨rsn_1 _ _ _ _ _, fun h0 => ?_⟩
      obtain ⟨a1, a2, a3⟩ := rsn_0 h0
      have eg : gp (stN (bf (btS s bw)) (btS s bw).length) ((ltB (btS s bw)).length + 1) = stN (bf (btS s bw)) (btS s bw).length + 10 + 5 * (ltS s bw).length := by
        show stN (bf (btS s bw)) (btS s bw).length + 5 + 5 * ((ltS s bw).length + 1) = _
        omega
      rw [eg] at a2 a3
      exact ⟨a1, a2, a3⟩
theorem lt_v {s : S6} {bw : Bool} {k : Nat} (hk : k < (ltS s bw).length) : ∃ v, v ≤ 14 ∧ (ltS s bw).getD k (-1) = nI v := by
  by_cases h : stB (btS s bw) = -1
  · have e : ltS s bw = [] := ltB_none h
    rw [e] at hk; exact absurd hk (Nat.not_lt_zero _)
  · have e : ltS s bw = ltL (bf (btS s bw)) (btS s bw).length (stN (bf (btS s bw)) (btS s bw).length) := ltB_some h
    rw [e, ltL_len] at hk
    obtain ⟨v, hv, ev⟩ := ng_v (p := gp (stN (bf (btS s bw)) (btS s bw).length) k) (bf_01 (bt_01S s bw))
    have ho := ltN_ok hk
    refine ⟨v, ?_, ?_⟩
    · have h15 : ¬ v = 15 := by
        intro q
        subst q
        rw [okG_b ev] at ho
        exact absurd ho (by decide)
      omega
    · rw [e]
      unfold ltL
      rw [lst_gd _ _ hk]
      exact ev
def ckN (l : IL) (k : Nat) : Int32 := chkL (lst (fun q => l.getD q (-1)) k)
theorem ck_s (l : IL) (k : Nat) : ckN l (k + 1) = ckN l k ^^^ l.getD k (-1) := by
  unfold ckN; rw [lst_succ, chkL_app]
theorem ck_e (l : IL) : ckN l l.length = chkL l := by unfold ckN; rw [lst_of]
theorem gd_end {l : IL} {k : Nat} (h : l.length ≤ k) : l.getD k (-1) = -1 := by
  rw [List.getD_eq_getElem?_getD, List.getElem?_eq_none h]; rfl
theorem bf_gd {l : IL} {k : Nat} (h : k < l.length) : l.getD k (-1) = bf l k := by
  unfold bf; exact gd_any h
theorem rg_c (r f : Int32) (T L : IL) : (rightT r f T L = nI 1 ∧ rsT r f T = nI 0 ∧ ltB (bitsT r f T) = L) ∨ (rightT r f T L = nI 2 ∧ rsT r f T.reverse = nI 0 ∧ ltB (bitsT r f T.reverse) = L) ∨ rightT r f T L = nI 0 := by
  unfold rightT
  by_cases h1 : cardT r f T L = true
  · rw [if_pos h1]
    have h := of_decide_eq_true h1
    exact Or.inl ⟨rfl, h.1, h.2⟩
  · rw [if_neg h1]
    by_cases h2 : cardT r f T.reverse L = true
    · rw [if_pos h2]
      have h := of_decide_eq_true h2
      exact Or.inr (Or.inl ⟨rfl, h.1, h.2⟩)
    · rw [if_neg h2]; exact Or.inr (Or.inr rfl)
set_option maxRecDepth 100000 in
theorem x16_tab : ∀ a b : Fin 16, ∃ c : Fin 16, nI a.val ^^^ nI b.val = nI c.val := by decide +kernel
theorem x16 {a b : Nat} (ha : a < 16) (hb : b < 16) : ∃ c, c < 16 ∧ nI a ^^^ nI b = nI c := by
  obtain ⟨c, e⟩ := x16_tab ⟨a, ha⟩ ⟨b, hb⟩
  exact ⟨c.val, c.isLt, e⟩
theorem ck_16 : ∀ (l : IL) (a : Nat), a < 16 → (∀ x ∈ l, ∃ d, d < 10 ∧ x = nI d) → ∃ c, c < 16 ∧ l.foldl (fun a b => a ^^^ b) (nI a) = nI c
  | [], a, ha, _ => ⟨a, ha, rfl⟩
  | x :: l, a, ha, h => by
    obtain ⟨d, hd, rfl⟩ := h x List.mem_cons_self
    obtain ⟨c, hc, e⟩ := x16 ha (show d < 16 by omega)
    rw [List.foldl_cons, e]
    exact ck_16 l c hc (fun y hy => h y (List.mem_cons_of_mem _ hy))
theorem c5_of (T L : IL) (n : Nat) (h : ∀ x ∈ L, ∃ d, d < 10 ∧ x = nI d) (h0 : ¬ L.length = 0) : ∃ c, c < 16 ∧ cntT 5 T L n = nI c := by
  obtain ⟨c, hc, e⟩ := ck_16 L 4 (by decide) h
  refine ⟨c, hc, ?_⟩
  show (if L.length = 0 then (-1 : Int32) else chkL L) = nI c
  rw [if_neg h0]; exact e
theorem c5_m (T L : IL) (n : Nat) (h0 : L.length = 0) : cntT 5 T L n = -1 := by
  show (if L.length = 0 then (-1 : Int32) else chkL L) = -1
  rw [if_pos h0]
theorem mm_f : ∀ (l : IL) (a b : Int32), a ≤ b → l.foldl (fun a b => if b < a then b else a) a ≤ l.foldl (fun a b => if a < b then b else a) b
  | [], a, b, h => h
  | x :: l, a, b, h => by
    rw [List.foldl_cons, List.foldl_cons]
    refine mm_f l _ _ ?_
    have h1 := Int32.le_iff_toInt_le.mp h
    split
    · rename_i c
      have c1 := Int32.lt_iff_toInt_lt.mp c
      split
      · exact Int32.le_iff_toInt_le.mpr (Int.le_refl _)
      · exact Int32.le_iff_toInt_le.mpr (by omega)
    · split
      · rename_i c
        have c1 := Int32.lt_iff_toInt_lt.mp c
        exact Int32.le_iff_toInt_le.mpr (by omega)
      · exact h
theorem mm_le (T : IL) : ¬ maxL T < minL T := by
  cases T with
  | nil => decide
  | cons x l => exact Int32.not_lt.mpr (mm_f l x x (Int32.le_iff_toInt_le.mpr (Int.le_refl _)))
theorem wr_c (f : Nat → Int32) (st : Nat) : ∀ i, wrS f st i = none ∨ wrS f st i = some (-1) ∨ ∃ j, j < i ∧ wrS f st i = some (nI j)
  | 0 => Or.inr (Or.inl rfl)
  | i + 1 => by
    have ih := wr_c f st i
    show (if oddG f (gp st i) = true then wrS f st i else if wrS f st i = some (-1) then some (nI i) else none) = none ∨ (if oddG f (gp st i) = true then wrS f st i else if wrS f st i = some (-1) then some (nI i) else none) = some (-1) ∨ ∃ j, j < i + 1 ∧ (if oddG f (gp st i) = true then wrS f st i else if wrS f st i = some (-1) then some (nI i) else none) = some (nI j)
    by_cases h : oddG f (gp st i) = true
    · rw [if_pos h]
      rcases ih with q | q | ⟨j, hj, q⟩
      · exact Or.inl q
      · exact Or.inr (Or.inl q)
      · exact Or.inr (Or.inr ⟨j, by omega, q⟩)
    · rw [if_neg h]
      by_cases h2 : wrS f st i = some (-1)
      · rw [if_pos h2]; exact Or.inr (Or.inr ⟨i, by omega, rfl⟩)
      · rw [if_neg h2]; exact Or.inl rfl
theorem gn_41 (f : Nat → Int32) (n st : Nat) : gN f n st ≤ 41 := by
  have h := stopAt_le (P := goG f n st) (k := 41) (i := 0)
  unfold gN; omega
theorem rp_c (r f : Int32) (t : IL) : rpPT r f t = -1 ∨ ∃ a, a < 1000 ∧ rpPT r f t = nI a := by
  unfold rpPT
  split
  · exact Or.inl rfl
  · unfold rpP
    split
    · exact Or.inl rfl
    · split
      · exact Or.inl rfl
      · split
        · exact Or.inl rfl
        · split
          · exact Or.inl rfl
          · have hg := gn_41 (bf (bitsT r f t)) (bitsT r f t).length (stN (bf (bitsT r f t)) (bitsT r f t).length)
            rcases wr_c (bf (bitsT r f t)) (stN (bf (bitsT r f t)) (bitsT r f t).length) (gN (bf (bitsT r f t)) (bitsT r f t).length (stN (bf (bitsT r f t)) (bitsT r f t).length)) with q | q | ⟨j, hj, q⟩
            · rw [q]; exact Or.inl rfl
            · rw [q]; exact Or.inl rfl
            · rw [q]; exact Or.inr ⟨j, by omega, rfl⟩
theorem ys_16 {f : Nat → Int32} (h : ∀ k, f k = nI 0 ∨ f k = nI 1) (st wr : Nat) : ∀ i, ∃ c, c < 16 ∧ yS f st wr i = nI c
  | 0 => ⟨11, by decide, rfl⟩
  | i + 1 => by
    obtain ⟨c, hc, e⟩ := ys_16 h st wr i
    show ∃ c, c < 16 ∧ (if i = wr then yS f st wr i else yS f st wr i ^^^ numG f (gp st i)) = nI c
    by_cases q : i = wr
    · rw [if_pos q]; exact ⟨c, hc, e⟩
    · rw [if_neg q]
      obtain ⟨v, hv, ev⟩ := ng_v (p := gp st i) h
      rw [e, ev]; exact x16 hc hv
theorem rep_c (r f : Int32) (t : IL) : (repT r f t 0 = -1 ∧ repT r f t 1 = -1) ∨ ∃ a b, a < 1000 ∧ b < 1000 ∧ repT r f t 0 = nI a ∧ repT r f t 1 = nI b := by
  rcases rp_c r f t with h | ⟨a, ha, h⟩
  · exact Or.inl ⟨repT_m1 h, repT_m1 h⟩
  · have hne : ¬ rpPT r f t = -1 := by rw [h]; exact ni_m1 (by omega)
    obtain ⟨b, hb, e⟩ := ys_16 (bf_01 (B := bitsT r f t) (rdB_01 _ _ _ _)) (stN (bf (bitsT r f t)) (bitsT r f t).length) (rpPT r f t).toNatClampNeg (gN (bf (bitsT r f t)) (bitsT r f t).length (stN (bf (bitsT r f t)) (bitsT r f t).length) + 2)
    refine Or.inr ⟨a, b, ha, by omega, ?_, ?_⟩
    · unfold repT; rw [if_pos (Or.inl rfl)]; exact h
    · unfold repT; rw [if_neg (fun q => q.elim (by decide) hne)]; exact e
