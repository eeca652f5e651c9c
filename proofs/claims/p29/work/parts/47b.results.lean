abbrev S6 : Type := Nat × Int32 × Int32 × Int32 × IL × IL
abbrev SG : Type := S6 × List S6 × Option S6 × Option S6 × IL
abbrev RT : Type := Int32 × Int32 × SG
def twL (bw : Bool) (t : IL) : IL := if bw then t.reverse else t
theorem twL_lst (bw : Bool) (g : Nat → Int32) (n : Nat) : lst (twF bw g n) n = twL bw (lst g n) := twF_lst bw g n
theorem lst_gd (g : Nat → Int32) (d : Int32) {n k : Nat} (h : k < n) : (lst g n).getD k d = g k := by rw [List.getD_eq_getElem?_getD, lst_get g h]; rfl
theorem lst_gn (g : Nat → Int32) (d : Int32) {n k : Nat} (h : n ≤ k) : (lst g n).getD k d = d := by rw [List.getD_eq_getElem?_getD, List.getElem?_eq_none (by rw [lst_len]; exact h)]; rfl
def joL (T : IL) (q : Nat) : IL := lst (fun k => if k < q then T.getD k 0 else if k = q then T.getD q 0 + T.getD (q + 1) 0 else T.getD (k + 1) 0) (T.length - 1)
def scL (T : IL) (q : Nat) (v : Int32) : IL := lst (fun k => if k < q then T.getD k 0 else if k = q then v else if k = q + 1 then T.getD q 0 - v else T.getD (k - 1) 0) (T.length + 1)
def chL (T : IL) (q : Nat) (v : Int32) : IL := lst (fun k => if k = q then v else T.getD k 0) T.length
def needB (z : Nat) (l : IL) : Nat := 2 * z + 5 * (l.length + 3) + onesN (strp z l)
theorem needB_lst (z : Nat) (g : Nat → Int32) (n : Nat) : needB z (lst g n) = 2 * z + 5 * (n + 3) + onesN (strp z (lst g n)) := by unfold needB; rw [lst_len]
def erB (b : IL) : Nat := erN (fun k => b.getD k 0) b.length
theorem erN_ext {f g : Nat → Int32} {n : Nat} (h : ∀ k, k < n → f k = g k) : erN f n = erN g n := by
  unfold erN
  have e : okC f n = okC g n := by
    funext j
    by_cases hj : j < n
    · unfold okC; rw [h j hj]
    · rw [okC_a hj, okC_a hj]
  rw [e]
theorem erB_lst (g : Nat → Int32) (n : Nat) : erB (lst g n) = erN g n := by
  unfold erB; rw [lst_len]; exact erN_ext fun k hk => lst_gd g 0 hk
theorem lcL_map (g : Nat → Int32) (n : Nat) : (lst g n).map lcode = lcL g n := by unfold lcL lst; rw [List.map_map]; rfl
theorem has_ex {n : Nat} {x : Int32} (h : ¬ hasF n x = false) (hn : n < 2147483648) : ∃ q, q < n ∧ x = nI q := by
  by_cases h0 : x < 0
  · exact absurd (hasF_lo h0) h
  · by_cases h1 : nI n ≤ x
    · exact absurd (hasF_hi h1) h
    · exact ni_of h0 h1 hn
theorem nn_ex {x : Int32} (h : ¬ x < 0) : ∃ q, q < 2147483648 ∧ x = nI q := by
  have h2 : 0 ≤ x := Int32.not_lt.mp h
  have h3 := Int32.le_iff_toInt_le.mp h2
  rw [show (0 : Int32).toInt = 0 from by decide] at h3
  have h4 : x.toInt < 2147483648 := by have := Int32.toInt_lt x; exact this
  refine ⟨x.toInt.toNat, by omega, Int32.toInt_inj.mp ?_⟩
  rw [nI_toInt (by omega)]; omega
def qN (x : Int32) : Nat := x.toNatClampNeg
theorem qN_n {q : Nat} (h : q < 2147483648) : qN (nI q) = q := nI_clamp h
theorem has_t {n q : Nat} (h : q < n) (hn : n < 2147483648) : ¬ hasF n (nI q) = false := by rw [hasF_n (by omega) hn, decide_eq_true h]; exact fun e => nomatch e
def seG (z : Nat) (r f j : Int32) (q : Nat) (v : Int32) (T L : IL) : S6 := if q = 0 then (qN v, r, f, j, T, L) else if q = 1 then (z, v, f, j, T, L) else if q = 2 then (z, r, v, j, T, L) else (z, r, f, v, T, L)
section RES
def R_turn : SG → RT := fun ((z, r, f, j, T, L), Hs, s0, s1, b) => (nI 0, T.reverse.headD (nI 0), ((z, r, f, j, T.reverse, L), svL Hs (z, r, f, j, T, L), s0, s1, b))
def R_join : SG → Int32 → RT := fun ((z, r, f, j, T, L), Hs, s0, s1, b) x => if hasF (T.length - 1) x = false then (nI 1, nI 0, ((z, r, f, j, T, L), Hs, s0, s1, b)) else (nI 0, T.getD (qN x) 0 + T.getD (qN x + 1) 0, ((z, r, f, j, joL T (qN x), L), svL Hs (z, r, f, j, T, L), s0, s1, b))
def R_scratch : SG → Int32 → Int32 → RT := fun ((z, r, f, j, T, L), Hs, s0, s1, b) x v => if hasF T.length x = false then (nI 1, nI 0, ((z, r, f, j, T, L), Hs, s0, s1, b)) else if v < nI 1 ∨ ¬ v < T.getD (qN x) 0 then (nI 2, nI 0, ((z, r, f, j, T, L), Hs, s0, s1, b)) else if T.length = 200 then (nI 3, nI 0, ((z, r, f, j, T, L), Hs, s0, s1, b)) else (nI 0, nI (T.length + 1), ((z, r, f, j, scL T (qN x) v, L), svL Hs (z, r, f, j, T, L), s0, s1, b))
def R_change : SG → Int32 → Int32 → RT := fun ((z, r, f, j, T, L), Hs, s0, s1, b) x v => if hasF T.length x = false then (nI 1, nI 0, ((z, r, f, j, T, L), Hs, s0, s1, b)) else if inF v (nI 1) (nI 999) = false then (nI 2, nI 0, ((z, r, f, j, T, L), Hs, s0, s1, b)) else (nI 0, T.getD (qN x) 0, ((z, r, f, j, chL T (qN x) v, L), svL Hs (z, r, f, j, T, L), s0, s1, b))
def R_set : SG → Int32 → Int32 → RT := fun ((z, r, f, j, T, L), Hs, s0, s1, b) x v => if hasF 4 x = false then (nI 1, nI 0, ((z, r, f, j, T, L), Hs, s0, s1, b)) else if okSet (qN x) v = false then (nI 2, nI 0, ((z, r, f, j, T, L), Hs, s0, s1, b)) else (nI 0, seF z r f j (qN x), (seG z r f j (qN x) v T L, svL Hs (z, r, f, j, T, L), s0, s1, b))
def R_write : SG → RT := fun ((z, r, f, j, T, L), Hs, s0, s1, b) => if erB b < b.length ∨ b.length = 0 then (nI 1, nI 0, ((z, r, f, j, T, L), Hs, s0, s1, b)) else if 200 < needB z (b.map lcode) then (nI 2, nI 0, ((z, r, f, j, T, L), Hs, s0, s1, b)) else (nI 0, nI (passL j 0 (strp z (b.map lcode))).length, ((z, r, f, j, passL j 0 (strp z (b.map lcode)), b.map lcode), svL Hs (z, r, f, j, T, L), s0, s1, []))
def R_swipe : SG → RT := fun ((z, r, f, j, T, L), Hs, s0, s1, b) => if L.length = 0 ∨ 200 < needB z L then (nI 1, nI 0, ((z, r, f, j, T, L), Hs, s0, s1, b)) else (nI 0, nI (passL j 0 (strp z L)).length, ((z, r, f, j, passL j 0 (strp z L), L), svL Hs (z, r, f, j, T, L), s0, s1, b))
def R_append : SG → Int32 → RT := fun (s, Hs, s0, s1, b) v => if inF v (nI 33) (nI 126) = false then (nI 1, nI 0, (s, Hs, s0, s1, b)) else if b.length = 40 then (nI 2, nI 0, (s, Hs, s0, s1, b)) else (nI 0, nI (b.length + 1), (s, Hs, s0, s1, b ++ [v]))
def R_clearBuffer : SG → RT := fun (s, Hs, s0, s1, b) => (nI 0, nI b.length, (s, Hs, s0, s1, []))
def R_firstError : SG → RT := fun (s, Hs, s0, s1, b) => (nI 0, nI (erB b), (s, Hs, s0, s1, b))
def R_keep : SG → Int32 → RT := fun (s, Hs, s0, s1, b) x => if hasF 2 x = false then (nI 1, nI 0, (s, Hs, s0, s1, b)) else (nI 0, nI s.2.2.2.2.1.length, (s, Hs, if qN x = 0 then some s else s0, if qN x = 0 then s1 else some s, b))
def R_goBack : SG → Int32 → RT := fun (s, Hs, s0, s1, b) x => if hasF 2 x = false then (nI 1, nI 0, (s, Hs, s0, s1, b)) else match (if qN x = 0 then s0 else s1) with
  | none => (nI 2, nI 0, (s, Hs, s0, s1, b))
  | some s' => (nI 0, nI s'.2.2.2.2.1.length, (s', svL Hs s, s0, s1, b))
def R_undo : SG → RT := fun (s, Hs, s0, s1, b) => match Hs.getLast? with
  | none => (nI 1, nI 0, (s, Hs, s0, s1, b))
  | some s' => (nI 0, nI (Hs.length - 1), (s', Hs.dropLast, s0, s1, b))
def R_time : SG → Int32 → RT := fun ((z, r, f, j, T, L), Hs, s0, s1, b) x => if x < 0 then (nI 1, nI 0, ((z, r, f, j, T, L), Hs, s0, s1, b)) else (nI 0, T.getD (qN x) (-1), ((z, r, f, j, T, L), Hs, s0, s1, b))
def R_written : SG → Int32 → RT := fun ((z, r, f, j, T, L), Hs, s0, s1, b) x => if x < 0 then (nI 1, nI 0, ((z, r, f, j, T, L), Hs, s0, s1, b)) else (nI 0, L.getD (qN x) (-1), ((z, r, f, j, T, L), Hs, s0, s1, b))
def R_reads : SG → Bool → Int32 → RT := fun ((z, r, f, j, T, L), Hs, s0, s1, b) bw x => if hasF 5 x = false then (nI 1, nI 0, ((z, r, f, j, T, L), Hs, s0, s1, b)) else (nI 0, tolF (qN x) (rsT r f (twL bw T)) (nI (bitsT r f (twL bw T)).length) (stB (bitsT r f (twL bw T))) (nI (ltB (bitsT r f (twL bw T))).length) (clkT r f (twL bw T)), ((z, r, f, j, T, L), Hs, s0, s1, b))
def R_bit : SG → Bool → Int32 → RT := fun ((z, r, f, j, T, L), Hs, s0, s1, b) bw x => if x < 0 then (nI 1, nI 0, ((z, r, f, j, T, L), Hs, s0, s1, b)) else (nI 0, (bitsT r f (twL bw T)).getD (qN x) (-1), ((z, r, f, j, T, L), Hs, s0, s1, b))
def R_letter : SG → Bool → Int32 → RT := fun ((z, r, f, j, T, L), Hs, s0, s1, b) bw x => if x < 0 then (nI 1, nI 0, ((z, r, f, j, T, L), Hs, s0, s1, b)) else (nI 0, (ltB (bitsT r f (twL bw T))).getD (qN x) (-1), ((z, r, f, j, T, L), Hs, s0, s1, b))
def R_count : SG → Int32 → RT := fun ((z, r, f, j, T, L), Hs, s0, s1, b) x => if hasF 7 x = false then (nI 1, nI 0, ((z, r, f, j, T, L), Hs, s0, s1, b)) else (nI 0, cntT (qN x) T L Hs.length, ((z, r, f, j, T, L), Hs, s0, s1, b))
def R_setting : SG → Int32 → RT := fun ((z, r, f, j, T, L), Hs, s0, s1, b) x => if hasF 4 x = false then (nI 1, nI 0, ((z, r, f, j, T, L), Hs, s0, s1, b)) else (nI 0, seF z r f j (qN x), ((z, r, f, j, T, L), Hs, s0, s1, b))
def R_isRight : SG → RT := fun ((z, r, f, j, T, L), Hs, s0, s1, b) => (nI 0, rightT r f T L, ((z, r, f, j, T, L), Hs, s0, s1, b))
def R_repair : SG → Int32 → RT := fun ((z, r, f, j, T, L), Hs, s0, s1, b) x => if hasF 2 x = false then (nI 1, nI 0, ((z, r, f, j, T, L), Hs, s0, s1, b)) else (nI 0, repT r f T (qN x), ((z, r, f, j, T, L), Hs, s0, s1, b))
def R_ratios : SG → Int32 → RT := fun ((z, r, f, j, T, L), Hs, s0, s1, b) x => if hasF 3 x = false then (nI 1, nI 0, ((z, r, f, j, T, L), Hs, s0, s1, b)) else (nI 0, tolR (qN x) (GLr f T L 46), ((z, r, f, j, T, L), Hs, s0, s1, b))
def R_greatestJerk : SG → RT := fun ((z, r, f, j, T, L), Hs, s0, s1, b) => (nI 0, jkT z r f L, ((z, r, f, j, T, L), Hs, s0, s1, b))
def V_shortShare : SG → UInt64 := fun ((z, r, f, j, T, L), Hs, s0, s1, b) => shT r T
end RES
theorem rt_z {v v' : Int32} {s s' : SG} (e1 : v = v') (e2 : s = s') : ((nI 0, v, s) : RT) = (nI 0, v', s') := by rw [e1, e2]
theorem sg_q {s s' : S6} {h h' : List S6} {a a' b b' : Option S6} {c c' : IL} (e1 : s = s') (e2 : h = h') (e3 : a = a') (e4 : b = b') (e5 : c = c') : ((s, h, a, b, c) : SG) = (s', h', a', b', c') := by rw [e1, e2, e3, e4, e5]
theorem s6_q {z z' : Nat} {r f j r' f' j' : Int32} {T T' L L' : IL} (e1 : z = z') (e2 : r = r') (e3 : f = f') (e4 : j = j') (e5 : T = T') (e6 : L = L') : ((z, r, f, j, T, L) : S6) = (z', r', f', j', T', L') := by rw [e1, e2, e3, e4, e5, e6]
/-- the changed times, on either side -/
theorem jo_c (g : Nat → Int32) {n q : Nat} (h : q + 1 < n) : joL (lst g n) q = lst (remF (upd g q (g q + g (q + 1))) n (q + 1)) (n - 1) := by
  unfold joL; rw [lst_len]
  refine lst_ext fun k hk => ?_
  simp only [remF, remL, upd]
  rcases Nat.lt_trichotomy k q with e | e | e
  · rw [if_pos e, lst_gd g 0 (by omega), if_neg (by omega), if_neg (by omega)]
  · subst e; rw [if_neg (Nat.lt_irrefl _), if_pos rfl, lst_gd g 0 (by omega), lst_gd g 0 (by omega), if_neg (by omega), if_pos rfl]
  · rw [if_neg (by omega), if_neg (by omega), lst_gd g 0 (by omega), if_pos (by omega), if_neg (by omega)]
theorem jo_m (g : Nat → Int32) {n q : Nat} (h : q + 1 < n) : joL (lst g n) q = lst (upd (joF g n q (n - 1)) (n - 1) (nI 0)) (n - 1) := by
  rw [jo_c g h]
  refine lst_ext fun k hk => ?_
  have e : upd (joF g n q (n - 1)) (n - 1) (nI 0) k = joF g n q (n - 1) k := by simp only [upd]; rw [if_neg (by omega)]
  rw [e]; rfl
theorem sc_c (g : Nat → Int32) {n q : Nat} (v : Int32) (h : q < n) : scL (lst g n) q v = lst (insF (upd g q v) n (q + 1) (g q - v)) (n + 1) := by
  unfold scL; rw [lst_len]
  refine lst_ext fun k hk => ?_
  simp only [insF, upd]
  rcases Nat.lt_trichotomy k q with e | e | e
  · rw [if_pos e, lst_gd g 0 (by omega), if_pos (by omega), if_neg (by omega)]
  · subst e; rw [if_neg (Nat.lt_irrefl _), if_pos rfl, if_pos (by omega), if_pos rfl]
  · rw [if_neg (by omega), if_neg (by omega)]
    by_cases e1 : k = q + 1
    · rw [if_pos e1, lst_gd g 0 h, if_neg (by omega), if_pos e1]
    · rw [if_neg e1, lst_gd g 0 (by omega), if_neg (by omega), if_neg e1, if_pos (by omega), if_neg (by omega)]
theorem sc_m (g : Nat → Int32) {n q : Nat} (v : Int32) (h : q < n) : scL (lst g n) q v = lst (scF g n q v) (n + 1) := by
  unfold scL; rw [lst_len]
  refine lst_ext fun k hk => ?_
  simp only [scF, shR, upd]
  rcases Nat.lt_trichotomy k q with e | e | e
  · rw [if_pos e, lst_gd g 0 (by omega), if_neg (by omega), if_neg (by omega), if_neg (by omega)]
  · subst e; rw [if_neg (Nat.lt_irrefl _), if_pos rfl, if_pos rfl]
  · rw [if_neg (by omega), if_neg (by omega), if_neg (show ¬ k = q by omega)]
    by_cases e1 : k = q + 1
    · rw [if_pos e1, lst_gd g 0 h, if_pos e1]
    · rw [if_neg e1, lst_gd g 0 (by omega), if_neg e1, if_pos (by omega)]
theorem ch_e (g : Nat → Int32) {n q : Nat} (v : Int32) : chL (lst g n) q v = lst (upd g q v) n := by
  unfold chL; rw [lst_len]
  refine lst_ext fun k hk => ?_
  simp only [upd]
  by_cases e : k = q
  · rw [if_pos e, if_pos e]
  · rw [if_neg e, if_neg e, lst_gd g 0 hk]
theorem rv_e (g : Nat → Int32) (n : Nat) : (lst g n).reverse = lst (revF g n) n := by
  have h := twF_lst true g n
  rw [if_pos rfl] at h
  rw [← h]
  refine lst_ext fun k hk => ?_
  simp only [twF, revF]; rw [if_pos trivial, if_pos hk]
theorem rv_h (g : Nat → Int32) (n : Nat) : (lst g n).reverse.headD (nI 0) = if n = 0 then nI 0 else revF g n 0 := by
  rw [rv_e]
  cases n with
  | zero => rfl
  | succ n => rw [if_neg (by omega), List.headD_eq_head?_getD, List.head?_eq_getElem?, lst_get _ (by omega)]; rfl
theorem ok_z {v : Int32} (h : okSet 0 v = true) : ∃ k, 5 ≤ k ∧ k ≤ 30 ∧ v = nI k := by
  have h2 := inF_iff.mp (show inF v (nI 5) (nI 30) = true from h)
  have a := Int32.le_iff_toInt_le.mp (Int32.not_lt.mp h2.1)
  have b := Int32.le_iff_toInt_le.mp (Int32.not_lt.mp h2.2)
  rw [nI_toInt (by omega)] at a b
  refine ⟨v.toInt.toNat, by omega, by omega, Int32.toInt_inj.mp ?_⟩
  rw [nI_toInt (by omega)]; omega
theorem R_setting_ok {z : Nat} {r f j : Int32} {T L : IL} {Hs : List S6} {s0 s1 : Option S6} {b : IL} {q : Nat} (hq : q < 4) : R_setting ((z, r, f, j, T, L), Hs, s0, s1, b) (nI q) = (nI 0, seF z r f j q, ((z, r, f, j, T, L), Hs, s0, s1, b)) := by
  unfold R_setting; dsimp only; rw [if_neg (has_t hq (by decide)), qN_n (by omega)]
theorem R_set_ok {z : Nat} {r f j : Int32} {T L : IL} {Hs : List S6} {s0 s1 : Option S6} {b : IL} {q : Nat} {v : Int32} (hq : q < 4) (hin : okSet q v = true) : R_set ((z, r, f, j, T, L), Hs, s0, s1, b) (nI q) v = (nI 0, seF z r f j q, (seG z r f j q v T L, svL Hs (z, r, f, j, T, L), s0, s1, b)) := by
  unfold R_set; dsimp only; rw [if_neg (has_t hq (by decide)), qN_n (by omega), if_neg (by rw [hin]; exact fun e => nomatch e)]
theorem R_keep_0 (s : S6) (Hs : List S6) (s0 s1 : Option S6) (b : IL) : R_keep (s, Hs, s0, s1, b) (nI 0) = (nI 0, nI s.2.2.2.2.1.length, (s, Hs, some s, s1, b)) := by
  unfold R_keep; dsimp only; rw [if_neg (has_t (n := 2) (q := 0) (by decide) (by decide)), if_pos (qN_n (q := 0) (by decide)), if_pos (qN_n (q := 0) (by decide))]
theorem R_keep_1 (s : S6) (Hs : List S6) (s0 s1 : Option S6) (b : IL) : R_keep (s, Hs, s0, s1, b) (nI 1) = (nI 0, nI s.2.2.2.2.1.length, (s, Hs, s0, some s, b)) := by
  have h : ¬ qN (nI 1) = 0 := by rw [qN_n (by decide)]; decide
  unfold R_keep; dsimp only; rw [if_neg (has_t (n := 2) (q := 1) (by decide) (by decide)), if_neg h, if_neg h]
theorem R_goBack_0n (s : S6) (Hs : List S6) (s1 : Option S6) (b : IL) : R_goBack (s, Hs, none, s1, b) (nI 0) = (nI 2, nI 0, (s, Hs, none, s1, b)) := by
  unfold R_goBack; dsimp only; rw [if_neg (has_t (n := 2) (q := 0) (by decide) (by decide)), if_pos (qN_n (q := 0) (by decide))]
theorem R_goBack_0s (s s' : S6) (Hs : List S6) (s1 : Option S6) (b : IL) : R_goBack (s, Hs, some s', s1, b) (nI 0) = (nI 0, nI s'.2.2.2.2.1.length, (s', svL Hs s, some s', s1, b)) := by
  unfold R_goBack; dsimp only; rw [if_neg (has_t (n := 2) (q := 0) (by decide) (by decide)), if_pos (qN_n (q := 0) (by decide))]
theorem R_goBack_1n (s : S6) (Hs : List S6) (s0 : Option S6) (b : IL) : R_goBack (s, Hs, s0, none, b) (nI 1) = (nI 2, nI 0, (s, Hs, s0, none, b)) := by
  have h : ¬ qN (nI 1) = 0 := by rw [qN_n (by decide)]; decide
  unfold R_goBack; dsimp only; rw [if_neg (has_t (n := 2) (q := 1) (by decide) (by decide)), if_neg h]
theorem R_goBack_1s (s s' : S6) (Hs : List S6) (s0 : Option S6) (b : IL) : R_goBack (s, Hs, s0, some s', b) (nI 1) = (nI 0, nI s'.2.2.2.2.1.length, (s', svL Hs s, s0, some s', b)) := by
  have h : ¬ qN (nI 1) = 0 := by rw [qN_n (by decide)]; decide
  unfold R_goBack; dsimp only; rw [if_neg (has_t (n := 2) (q := 1) (by decide) (by decide)), if_neg h]
