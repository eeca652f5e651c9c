theorem cW_rc {D : va_G} {ca : Nat → ClassId} {s : State} {H : Heap} {Ad : CA} {g : CG} (hK : KK D ca s) (hP : va_P D vwCl (cW ca Ad g) H) : ∃ cell : Cell, H[Ad.1]? = some cell ∧ cell.vm.isStatics = false ∧ s.vm.findClass RX5 = some cell.cls := by
  obtain ⟨oc, os, osl, ohi, obu, ord, osp, onw, otr, ogd, t1, t2, l1, l2, g1, g2, oha, bua, b1, b2, e1, e2, s1, s2, nwa, tra, gda⟩ := Ad
  obtain ⟨⟨z, r, f, j, nt, nl, gl, gt⟩, ⟨LL, dp⟩, ⟨so0, so1⟩, ⟨fb, ln⟩, ⟨rs, sa, ck, fi, bn, fe, en⟩, ⟨fp, pn⟩, ⟨fw, wn⟩, ⟨fx, xn⟩, ⟨fg, gn⟩⟩ := g
  exact va_recv hK.1 hP (ci := 5) (q0 := 0) rfl rfl
theorem my_free0 {A0 : Nat → Prop} {wc : va_W} {H0 H : Heap} {locs : List Loc} (hD : va_D A0 wc) (hS : va_S A0 H0 H locs) (hA : ∀ q, H0.size ≤ q → A0 q) : ∀ q, va_A wc H.size q → A0 q := by
  intro q h
  rcases my_A_iff.mp h with h | h
  · obtain ⟨x, hx, rfl⟩ := List.mem_map.mp h
    exact (my_D_iff.mp hD).2 x hx
  · exact hA q (Nat.le_trans hS.1 h)
theorem my_up {A A1 : Nat → Prop} {ws : va_W} (h : va_D A1 ws) (hF : ∀ q, A1 q → A q) : va_D A ws := by
  obtain ⟨h1, h2⟩ := my_D_iff.mp h
  exact my_D_iff.mpr ⟨h1, fun x hx => hF _ (h2 x hx)⟩
theorem zz_of {g : CG} {σ : SG} (h : abC g = σ) (hz : σ.1.1 ≤ 30) : g.1.1 ≤ 30 := by
  subst h; exact hz
theorem no_of {F : SG → RT} {g : CG} {σ σ' : SG} {v : Int32} (h : abC g = σ) (e : F σ = (nI 0, v, σ')) : ∀ k : Nat, nI k ≠ nI 0 → ¬ F (abC g) = (nI k, nI 0, abC g) := by
  intro k hk q
  rw [h, e] at q
  exact hk (congrArg Prod.fst q).symm
theorem rt_get {F : SG → RT} {g g2 : CG} {σ σ' : SG} {v z : Int32} (h : abC g = σ) (e : F σ = (nI 0, v, σ')) (hw : F (abC g) = (nI 0, z, abC g2)) : z = v ∧ abC g2 = σ' := by
  rw [h, e] at hw
  have q := congrArg Prod.snd hw
  exact ⟨(congrArg Prod.fst q).symm, (congrArg Prod.snd q).symm⟩
theorem bu_len {g : CG} {σ : SG} (hg : okCg g) (h : abC g = σ) : σ.2.2.2.2.length ≤ 40 := by
  subst h
  obtain ⟨⟨z, r, f, j, nt, nl, gl, gt⟩, ⟨LL, dp⟩, ⟨so0, so1⟩, ⟨fb, ln⟩, ⟨rs, sa, ck, fi, bn, fe, en⟩, ⟨fp, pn⟩, ⟨fw, wn⟩, ⟨fx, xn⟩, ⟨fg, gn⟩⟩ := g
  obtain ⟨hpn, hwn, hxn, hgn, hbn, hen, hln, hnt, hnl, h6, hdp, hok, hs0, hs1⟩ := hg
  show (lst fb ln).length ≤ 40
  rw [lst_len]; exact hln
theorem hs_6 {g : CG} {σ : SG} (hg : okCg g) (h : abC g = σ) : σ.2.1.length ≤ 6 := by
  subst h
  obtain ⟨⟨z, r, f, j, nt, nl, gl, gt⟩, ⟨LL, dp⟩, ⟨so0, so1⟩, ⟨fb, ln⟩, ⟨rs, sa, ck, fi, bn, fe, en⟩, ⟨fp, pn⟩, ⟨fw, wn⟩, ⟨fx, xn⟩, ⟨fg, gn⟩⟩ := g
  obtain ⟨hpn, hwn, hxn, hgn, hbn, hen, hln, hnt, hnl, h6, hdp, hok, hs0, hs1⟩ := hg
  show ((LL.map fun x => abV x.2).take dp).length ≤ 6
  rw [hs_len hdp]; omega
/-- the parts of a state -/
abbrev tS (s : S6) : IL := s.2.2.2.2.1
abbrev lS (s : S6) : IL := s.2.2.2.2.2
def setT (s : S6) (T : IL) : S6 := (s.1, s.2.1, s.2.2.1, s.2.2.2.1, T, s.2.2.2.2.2)
/-- a call that saves the state -/
def mvS (σ : SG) (s' : S6) (b : IL) : SG := (s', svL σ.2.1 σ.1, σ.2.2.1, σ.2.2.2.1, b)
def seS (s : S6) (k : Nat) : Int32 := seF s.1 s.2.1 s.2.2.1 s.2.2.2.1 k
def rdV (s : S6) (bw : Bool) (k : Nat) : Int32 := tolF k (rsT s.2.1 s.2.2.1 (twL bw (tS s))) (nI (bitsT s.2.1 s.2.2.1 (twL bw (tS s))).length) (stB (bitsT s.2.1 s.2.2.1 (twL bw (tS s)))) (nI (ltB (bitsT s.2.1 s.2.2.1 (twL bw (tS s)))).length) (clkT s.2.1 s.2.2.1 (twL bw (tS s)))
theorem e_time (σ : SG) {q : Nat} (hq : q < 2147483648) : R_time σ (nI q) = (nI 0, (tS σ.1).getD q (-1), σ) := by
  obtain ⟨⟨z, r, f, j, T, L⟩, Hs, s0, s1, b⟩ := σ
  exact (if_neg (nI_pos hq)).trans (congrArg (fun n : Nat => ((nI 0, T.getD n (-1), ((z, r, f, j, T, L), Hs, s0, s1, b)) : RT)) (qN_n hq))
theorem e_written (σ : SG) {q : Nat} (hq : q < 2147483648) : R_written σ (nI q) = (nI 0, (lS σ.1).getD q (-1), σ) := by
  obtain ⟨⟨z, r, f, j, T, L⟩, Hs, s0, s1, b⟩ := σ
  exact (if_neg (nI_pos hq)).trans (congrArg (fun n : Nat => ((nI 0, L.getD n (-1), ((z, r, f, j, T, L), Hs, s0, s1, b)) : RT)) (qN_n hq))
theorem e_count (σ : SG) {q : Nat} (hq : q < 7) : R_count σ (nI q) = (nI 0, cntT q (tS σ.1) (lS σ.1) σ.2.1.length, σ) := by
  obtain ⟨⟨z, r, f, j, T, L⟩, Hs, s0, s1, b⟩ := σ
  exact (if_neg (has_t hq (by decide))).trans (congrArg (fun n : Nat => ((nI 0, cntT n T L Hs.length, ((z, r, f, j, T, L), Hs, s0, s1, b)) : RT)) (qN_n (by omega)))
theorem e_setting (σ : SG) {q : Nat} (hq : q < 4) : R_setting σ (nI q) = (nI 0, seS σ.1 q, σ) := by
  obtain ⟨⟨z, r, f, j, T, L⟩, Hs, s0, s1, b⟩ := σ
  exact R_setting_ok hq
theorem e_reads (σ : SG) (bw : Bool) {q : Nat} (hq : q < 5) : R_reads σ bw (nI q) = (nI 0, rdV σ.1 bw q, σ) := by
  obtain ⟨⟨z, r, f, j, T, L⟩, Hs, s0, s1, b⟩ := σ
  exact (if_neg (has_t hq (by decide))).trans (congrArg (fun n : Nat => ((nI 0, rdV (z, r, f, j, T, L) bw n, ((z, r, f, j, T, L), Hs, s0, s1, b)) : RT)) (qN_n (by omega)))
theorem e_bit (σ : SG) (bw : Bool) {q : Nat} (hq : q < 2147483648) : R_bit σ bw (nI q) = (nI 0, (bitsT σ.1.2.1 σ.1.2.2.1 (twL bw (tS σ.1))).getD q (-1), σ) := by
  obtain ⟨⟨z, r, f, j, T, L⟩, Hs, s0, s1, b⟩ := σ
  exact (if_neg (nI_pos hq)).trans (congrArg (fun n : Nat => ((nI 0, (bitsT r f (twL bw T)).getD n (-1), ((z, r, f, j, T, L), Hs, s0, s1, b)) : RT)) (qN_n hq))
theorem e_letter (σ : SG) (bw : Bool) {q : Nat} (hq : q < 2147483648) : R_letter σ bw (nI q) = (nI 0, (ltB (bitsT σ.1.2.1 σ.1.2.2.1 (twL bw (tS σ.1)))).getD q (-1), σ) := by
  obtain ⟨⟨z, r, f, j, T, L⟩, Hs, s0, s1, b⟩ := σ
  exact (if_neg (nI_pos hq)).trans (congrArg (fun n : Nat => ((nI 0, (ltB (bitsT r f (twL bw T))).getD n (-1), ((z, r, f, j, T, L), Hs, s0, s1, b)) : RT)) (qN_n hq))
theorem e_isRight (σ : SG) : R_isRight σ = (nI 0, rightT σ.1.2.1 σ.1.2.2.1 (tS σ.1) (lS σ.1), σ) := by
  obtain ⟨⟨z, r, f, j, T, L⟩, Hs, s0, s1, b⟩ := σ
  rfl
theorem e_repair (σ : SG) {q : Nat} (hq : q < 2) : R_repair σ (nI q) = (nI 0, repT σ.1.2.1 σ.1.2.2.1 (tS σ.1) q, σ) := by
  obtain ⟨⟨z, r, f, j, T, L⟩, Hs, s0, s1, b⟩ := σ
  exact (if_neg (has_t hq (by decide))).trans (congrArg (fun n : Nat => ((nI 0, repT r f T n, ((z, r, f, j, T, L), Hs, s0, s1, b)) : RT)) (qN_n (by omega)))
theorem e_clearBuffer (σ : SG) : R_clearBuffer σ = (nI 0, nI σ.2.2.2.2.length, (σ.1, σ.2.1, σ.2.2.1, σ.2.2.2.1, [])) := by
  obtain ⟨s, Hs, s0, s1, b⟩ := σ
  rfl
theorem e_append (σ : SG) {v : Int32} (h : inF v (nI 33) (nI 126) = true) (hb : ¬ σ.2.2.2.2.length = 40) : R_append σ v = (nI 0, nI (σ.2.2.2.2.length + 1), (σ.1, σ.2.1, σ.2.2.1, σ.2.2.2.1, σ.2.2.2.2 ++ [v])) := by
  obtain ⟨s, Hs, s0, s1, b⟩ := σ
  exact (if_neg (by rw [h]; exact fun e => nomatch e)).trans (if_neg hb)
theorem e_turn (σ : SG) : R_turn σ = (nI 0, (tS σ.1).reverse.headD (nI 0), mvS σ (setT σ.1 (tS σ.1).reverse) σ.2.2.2.2) := by
  obtain ⟨⟨z, r, f, j, T, L⟩, Hs, s0, s1, b⟩ := σ
  rfl
theorem e_join (σ : SG) {q : Nat} (hq : q + 1 < (tS σ.1).length) (hn : (tS σ.1).length ≤ 200) : R_join σ (nI q) = (nI 0, (tS σ.1).getD q 0 + (tS σ.1).getD (q + 1) 0, mvS σ (setT σ.1 (joL (tS σ.1) q)) σ.2.2.2.2) := by
  obtain ⟨⟨z, r, f, j, T, L⟩, Hs, s0, s1, b⟩ := σ
  have hq : q + 1 < T.length := hq
  have hn : T.length ≤ 200 := hn
  exact (if_neg (has_t (by omega) (by omega))).trans (congrArg (fun n : Nat => ((nI 0, T.getD n 0 + T.getD (n + 1) 0, ((z, r, f, j, joL T n, L), svL Hs (z, r, f, j, T, L), s0, s1, b)) : RT)) (qN_n (by omega)))
theorem e_scratch (σ : SG) {q : Nat} {v : Int32} (hq : q < (tS σ.1).length) (hn : (tS σ.1).length < 200) (h1 : ¬ v < nI 1) (h2 : v < (tS σ.1).getD q 0) : R_scratch σ (nI q) v = (nI 0, nI ((tS σ.1).length + 1), mvS σ (setT σ.1 (scL (tS σ.1) q v)) σ.2.2.2.2) := by
  obtain ⟨⟨z, r, f, j, T, L⟩, Hs, s0, s1, b⟩ := σ
  have hq : q < T.length := hq
  have hn : T.length < 200 := hn
  have h2 : v < T.getD q 0 := h2
  have e : qN (nI q) = q := qN_n (by omega)
  exact (if_neg (has_t hq (by omega))).trans ((if_neg (by rw [e]; exact fun h => h.elim h1 (fun h => h h2))).trans ((if_neg (by omega)).trans (congrArg (fun n : Nat => ((nI 0, nI (T.length + 1), ((z, r, f, j, scL T n v, L), svL Hs (z, r, f, j, T, L), s0, s1, b)) : RT)) e)))
theorem e_change (σ : SG) {q : Nat} {v : Int32} (hq : q < (tS σ.1).length) (hn : (tS σ.1).length ≤ 200) (h1 : inF v (nI 1) (nI 999) = true) : R_change σ (nI q) v = (nI 0, (tS σ.1).getD q 0, mvS σ (setT σ.1 (chL (tS σ.1) q v)) σ.2.2.2.2) := by
  obtain ⟨⟨z, r, f, j, T, L⟩, Hs, s0, s1, b⟩ := σ
  have hq : q < T.length := hq
  have hn : T.length ≤ 200 := hn
  exact (if_neg (has_t hq (by omega))).trans ((if_neg (by rw [h1]; exact fun e => nomatch e)).trans (congrArg (fun n : Nat => ((nI 0, T.getD n 0, ((z, r, f, j, chL T n v, L), svL Hs (z, r, f, j, T, L), s0, s1, b)) : RT)) (qN_n (by omega))))
def seW (s : S6) (q : Nat) (v : Int32) : S6 := seG s.1 s.2.1 s.2.2.1 s.2.2.2.1 q v (tS s) (lS s)
theorem e_set (σ : SG) {q : Nat} {v : Int32} (hq : q < 4) (h1 : okSet q v = true) : R_set σ (nI q) v = (nI 0, seS σ.1 q, mvS σ (seW σ.1 q v) σ.2.2.2.2) := by
  obtain ⟨⟨z, r, f, j, T, L⟩, Hs, s0, s1, b⟩ := σ
  exact R_set_ok hq h1
def swS (s : S6) (L : IL) : S6 := (s.1, s.2.1, s.2.2.1, s.2.2.2.1, passL s.2.2.2.1 0 (strp s.1 L), L)
theorem e_swipe (σ : SG) (h1 : ¬ (lS σ.1).length = 0) (h2 : ¬ 200 < needB σ.1.1 (lS σ.1)) : R_swipe σ = (nI 0, nI (passL σ.1.2.2.2.1 0 (strp σ.1.1 (lS σ.1))).length, mvS σ (swS σ.1 (lS σ.1)) σ.2.2.2.2) := by
  obtain ⟨⟨z, r, f, j, T, L⟩, Hs, s0, s1, b⟩ := σ
  exact if_neg (fun h => h.elim h1 h2)
theorem e_write (σ : SG) (h1 : ¬ (erB σ.2.2.2.2 < σ.2.2.2.2.length ∨ σ.2.2.2.2.length = 0)) (h2 : ¬ 200 < needB σ.1.1 (σ.2.2.2.2.map lcode)) : R_write σ = (nI 0, nI (passL σ.1.2.2.2.1 0 (strp σ.1.1 (σ.2.2.2.2.map lcode))).length, mvS σ (swS σ.1 (σ.2.2.2.2.map lcode)) []) := by
  obtain ⟨⟨z, r, f, j, T, L⟩, Hs, s0, s1, b⟩ := σ
  exact (if_neg h1).trans (if_neg h2)
theorem e_undo {s y : S6} {L1 : List S6} {s0 s1 : Option S6} {b : IL} : R_undo (s, L1 ++ [y], s0, s1, b) = (nI 0, nI L1.length, (y, L1, s0, s1, b)) := by
  show (match (L1 ++ [y]).getLast? with
    | none => _
    | some s' => _) = _
  rw [List.getLast?_concat]
  show (nI 0, nI ((L1 ++ [y]).length - 1), (y, (L1 ++ [y]).dropLast, s0, s1, b)) = _
  rw [List.dropLast_concat, List.length_append]
  rfl
/-- what told answers -/
def hashG (f g : Nat → Int32) : Nat → Int64 → Int64
  | 0, h => h
  | k + 1, h => 31 * (31 * hashG f g k h + (f k).toInt64) + (g k).toInt64
def tvC (s : S6) : Nat → Int32 := fun k => cntT k (tS s) (lS s) 0
def tl1 (s : S6) : Int64 := hashF (tvC s) 6 3
def tl2 (s : S6) : Int64 := hashF (seS s) 4 (tl1 s)
def tl3 (s : S6) : Int64 := hashF (fun k => (tS s).getD k (-1)) (tS s).length (tl2 s)
def tl4 (s : S6) : Int64 := hashF (fun k => (lS s).getD k (-1)) (lS s).length (tl3 s)
def toldF (s : S6) : Int64 := hashG (rdV s false) (rdV s true) 5 (tl4 s)
theorem cnt_sv {k : Nat} {T L : IL} {n : Nat} (h : k < 6) : cntT k T L n = cntT k T L 0 := by
  rcases (show k = 0 ∨ k = 1 ∨ k = 2 ∨ k = 3 ∨ k = 4 ∨ k = 5 by omega) with e | e | e | e | e | e <;> subst e <;> rfl
