def sI : IL → Int
  | [] => 0
  | x :: l => x.toInt + sI l
theorem sI_app (a b : IL) : sI (a ++ b) = sI a + sI b := by
  induction a with
  | nil => show sI b = 0 + sI b; omega
  | cons x l ih => show x.toInt + sI (l ++ b) = x.toInt + sI l + sI b; omega
theorem sI_rev (a : IL) : sI a.reverse = sI a := by
  induction a with
  | nil => rfl
  | cons x l ih => rw [List.reverse_cons, sI_app, ih]; show sI l + (x.toInt + 0) = x.toInt + sI l; omega
theorem ge_1 {x : Int32} (h : ¬ x < nI 1) : 1 ≤ x.toInt := by
  have := Int32.le_iff_toInt_le.mp (Int32.not_lt.mp h)
  rw [nI_toInt (by decide)] at this; omega
theorem of_1 {x : Int32} (h : 1 ≤ x.toInt) : ¬ x < nI 1 := by
  refine Int32.not_lt.mpr (Int32.le_iff_toInt_le.mpr ?_)
  rw [nI_toInt (by decide)]; omega
theorem sI_nn : ∀ (a : IL), (∀ x ∈ a, ¬ x < nI 1) → 0 ≤ sI a
  | [], _ => Int.le_refl _
  | x :: l, h => by
    have h1 := ge_1 (h x List.mem_cons_self)
    have h2 := sI_nn l (fun y hy => h y (List.mem_cons_of_mem _ hy))
    show 0 ≤ x.toInt + sI l; omega
theorem sI_le {c : Int} : ∀ (a : IL), (∀ x ∈ a, x.toInt ≤ c) → sI a ≤ c * a.length
  | [], _ => by show (0 : Int) ≤ c * (0 : Nat); omega
  | x :: l, h => by
    have h1 := h x List.mem_cons_self
    have h2 := sI_le l (fun y hy => h y (List.mem_cons_of_mem _ hy))
    show x.toInt + sI l ≤ c * ((l.length + 1 : Nat) : Int)
    rw [Int.natCast_add, Int.mul_add]; omega
def ivT (B : Int) (T : IL) : Prop := (∀ x ∈ T, ¬ x < nI 1) ∧ sI T ≤ B
def ivS (B : Int) : S6 → Prop := fun (z, _, _, j, T, _) => z ≤ 30 ∧ okSet 3 j = true ∧ T.length ≤ 200 ∧ ivT B T
def ivZ (B : Int) : SG → Prop := fun (s, Hs, s0, s1, _) => ivS B s ∧ (∀ x ∈ Hs, ivS B x) ∧ (∀ x, s0 = some x → ivS B x) ∧ (∀ x, s1 = some x → ivS B x)
theorem ivS_mono {B B' : Int} (h : B ≤ B') {s : S6} (hs : ivS B s) : ivS B' s := ⟨hs.1, hs.2.1, hs.2.2.1, hs.2.2.2.1, Int.le_trans hs.2.2.2.2 h⟩
theorem ivZ_mono {B B' : Int} (h : B ≤ B') {s : SG} (hs : ivZ B s) : ivZ B' s := ⟨ivS_mono h hs.1, fun x hx => ivS_mono h (hs.2.1 x hx), fun x hx => ivS_mono h (hs.2.2.1 x hx), fun x hx => ivS_mono h (hs.2.2.2 x hx)⟩
theorem sp_at {T : IL} {q : Nat} (h : q < T.length) : ∃ A x C, T = A ++ x :: C ∧ A.length = q := by
  refine ⟨T.take q, T[q], T.drop (q + 1), ?_, by rw [List.length_take]; omega⟩
  have e := List.take_append_drop q T
  rw [List.drop_eq_getElem_cons h] at e
  exact e.symm
theorem gd_mid (A : IL) (x : Int32) (C : IL) (d : Int32) : (A ++ x :: C).getD A.length d = x := by
  rw [List.getD_eq_getElem?_getD, List.getElem?_append_right (Nat.le_refl _), Nat.sub_self]; rfl
theorem gd_mid1 (A : IL) (x y : Int32) (C : IL) (d : Int32) : (A ++ x :: y :: C).getD (A.length + 1) d = y := by
  rw [List.getD_eq_getElem?_getD, List.getElem?_append_right (by omega), show A.length + 1 - A.length = 1 by omega]; rfl
theorem joL_sp (A : IL) (x y : Int32) (C : IL) : joL (A ++ x :: y :: C) A.length = A ++ (x + y) :: C := by
  have hn : (A ++ x :: y :: C).length - 1 = A.length + 1 + C.length := by rw [List.length_append, List.length_cons, List.length_cons]; omega
  unfold joL
  apply List.ext_getElem?
  intro i
  by_cases hi : i < A.length + 1 + C.length
  · rw [hn, lst_get _ hi]
    rcases Nat.lt_trichotomy i A.length with e | e | e
    · rw [if_pos e, List.getElem?_append_left e, List.getD_eq_getElem?_getD, List.getElem?_append_left e, List.getElem?_eq_getElem e]; rfl
    · subst e; rw [if_neg (Nat.lt_irrefl _), if_pos rfl, gd_mid, gd_mid1, List.getElem?_append_right (Nat.le_refl _), Nat.sub_self]; rfl
    · rw [if_neg (by omega), if_neg (by omega), List.getD_eq_getElem?_getD, List.getElem?_append_right (by omega), List.getElem?_append_right (by omega)]
      obtain ⟨j, rfl⟩ : ∃ j, i = A.length + 1 + j := ⟨i - A.length - 1, by omega⟩
      rw [show A.length + 1 + j + 1 - A.length = j + 2 by omega, show A.length + 1 + j - A.length = j + 1 by omega]
      show some ((C[j]?).getD 0) = C[j]?
      rw [List.getElem?_eq_getElem (show j < C.length by omega)]; rfl
  · rw [List.getElem?_eq_none (by rw [lst_len]; omega), List.getElem?_eq_none (by rw [List.length_append, List.length_cons]; omega)]
theorem scL_sp (A : IL) (x : Int32) (C : IL) (v : Int32) : scL (A ++ x :: C) A.length v = A ++ v :: (x - v) :: C := by
  have hn : (A ++ x :: C).length + 1 = A.length + 2 + C.length := by rw [List.length_append, List.length_cons]; omega
  unfold scL
  apply List.ext_getElem?
  intro i
  by_cases hi : i < A.length + 2 + C.length
  · rw [hn, lst_get _ hi]
    rcases Nat.lt_trichotomy i A.length with e | e | e
    · rw [if_pos e, List.getElem?_append_left e, List.getD_eq_getElem?_getD, List.getElem?_append_left e, List.getElem?_eq_getElem e]; rfl
    · subst e; rw [if_neg (Nat.lt_irrefl _), if_pos rfl, List.getElem?_append_right (Nat.le_refl _), Nat.sub_self]; rfl
    · rw [if_neg (by omega), if_neg (by omega)]
      by_cases e1 : i = A.length + 1
      · subst e1; rw [if_pos rfl, gd_mid, List.getElem?_append_right (by omega), show A.length + 1 - A.length = 1 by omega]; rfl
      · rw [if_neg e1, List.getD_eq_getElem?_getD, List.getElem?_append_right (by omega), List.getElem?_append_right (by omega)]
        obtain ⟨j, rfl⟩ : ∃ j, i = A.length + 2 + j := ⟨i - A.length - 2, by omega⟩
        rw [show A.length + 2 + j - 1 - A.length = j + 1 by omega, show A.length + 2 + j - A.length = j + 2 by omega]
        show some ((C[j]?).getD 0) = C[j]?
        rw [List.getElem?_eq_getElem (show j < C.length by omega)]; rfl
  · rw [List.getElem?_eq_none (by rw [lst_len]; omega), List.getElem?_eq_none (by rw [List.length_append, List.length_cons, List.length_cons]; omega)]
theorem chL_sp (A : IL) (x : Int32) (C : IL) (v : Int32) : chL (A ++ x :: C) A.length v = A ++ v :: C := by
  have hn : (A ++ x :: C).length = A.length + 1 + C.length := by rw [List.length_append, List.length_cons]; omega
  unfold chL
  apply List.ext_getElem?
  intro i
  by_cases hi : i < A.length + 1 + C.length
  · rw [hn, lst_get _ hi]
    rcases Nat.lt_trichotomy i A.length with e | e | e
    · rw [if_neg (by omega), List.getElem?_append_left e, List.getD_eq_getElem?_getD, List.getElem?_append_left e, List.getElem?_eq_getElem e]; rfl
    · subst e; rw [if_pos rfl, List.getElem?_append_right (Nat.le_refl _), Nat.sub_self]; rfl
    · rw [if_neg (by omega), List.getD_eq_getElem?_getD, List.getElem?_append_right (by omega), List.getElem?_append_right (by omega)]
      obtain ⟨j, rfl⟩ : ∃ j, i = A.length + 1 + j := ⟨i - A.length - 1, by omega⟩
      rw [show A.length + 1 + j - A.length = j + 1 by omega]
      show some ((C[j]?).getD 0) = C[j]?
      rw [List.getElem?_eq_getElem (show j < C.length by omega)]; rfl
  · rw [List.getElem?_eq_none (by rw [lst_len]; omega), List.getElem?_eq_none (by rw [List.length_append, List.length_cons]; omega)]
theorem ivT_app {B : Int} {A C : IL} {x : Int32} (h : ivT B (A ++ x :: C)) : (∀ y ∈ A, ¬ y < nI 1) ∧ ¬ x < nI 1 ∧ (∀ y ∈ C, ¬ y < nI 1) ∧ sI A + (x.toInt + sI C) ≤ B := by
  obtain ⟨h1, h2⟩ := h
  rw [sI_app] at h2
  exact ⟨fun y hy => h1 y (List.mem_append_left _ hy), h1 x (List.mem_append_right _ List.mem_cons_self), fun y hy => h1 y (List.mem_append_right _ (List.mem_cons_of_mem _ hy)), h2⟩
theorem ivT_mk {B : Int} {A C : IL} {x : Int32} (hA : ∀ y ∈ A, ¬ y < nI 1) (hx : ¬ x < nI 1) (hC : ∀ y ∈ C, ¬ y < nI 1) (hs : sI A + (x.toInt + sI C) ≤ B) : ivT B (A ++ x :: C) := by
  refine ⟨fun y hy => ?_, by rw [sI_app]; exact hs⟩
  rcases List.mem_append.mp hy with h | h
  · exact hA y h
  · rcases List.mem_cons.mp h with rfl | h
    · exact hx
    · exact hC y h
theorem ok_jo {B : Int} {T : IL} {q : Nat} (h : ivT B T) (hB : B ≤ 2147483647) (hq : q + 1 < T.length) : ivT B (joL T q) := by
  obtain ⟨A, x, C, rfl, rfl⟩ := sp_at (show q < T.length by omega)
  cases C with
  | nil => rw [List.length_append] at hq; exact absurd hq (by simp)
  | cons y C =>
    obtain ⟨h1, h2, h3, h4⟩ := ivT_app h
    have hy := ge_1 (h3 y List.mem_cons_self)
    have hx := ge_1 h2
    have hC : ∀ w ∈ C, ¬ w < nI 1 := fun w hw => h3 w (List.mem_cons_of_mem _ hw)
    have n1 := sI_nn A h1
    have n2 := sI_nn C hC
    have h4' : sI A + (x.toInt + (y.toInt + sI C)) ≤ B := h4
    have e : (x + y).toInt = x.toInt + y.toInt := by rw [Int32.toInt_add, Int.bmod_eq_of_le (by omega) (by omega)]
    rw [joL_sp]
    exact ivT_mk h1 (of_1 (by omega)) hC (by omega)
theorem ok_sc {B : Int} {T : IL} {q : Nat} {v : Int32} (h : ivT B T) (hq : q < T.length) (hv : ¬ v < nI 1) (hw : v < T.getD q 0) : ivT B (scL T q v) := by
  obtain ⟨A, x, C, rfl, rfl⟩ := sp_at hq
  obtain ⟨h1, h2, h3, h4⟩ := ivT_app h
  rw [gd_mid] at hw
  have hv1 := ge_1 hv
  have hlt := Int32.lt_iff_toInt_lt.mp hw
  have hx := Int32.toInt_lt x
  have e : (x - v).toInt = x.toInt - v.toInt := by rw [Int32.toInt_sub, Int.bmod_eq_of_le (by omega) (by omega)]
  rw [scL_sp]
  refine ivT_mk h1 hv (fun w hw => ?_) ?_
  · rcases List.mem_cons.mp hw with rfl | hw
    · exact of_1 (by omega)
    · exact h3 w hw
  · show sI A + (v.toInt + ((x - v).toInt + sI C)) ≤ B
    omega
theorem ok_ch {B : Int} {T : IL} {q : Nat} {v : Int32} (h : ivT B T) (hq : q < T.length) (hv : inF v (nI 1) (nI 999) = true) : ivT (B + 999) (chL T q v) := by
  obtain ⟨A, x, C, rfl, rfl⟩ := sp_at hq
  obtain ⟨h1, h2, h3, h4⟩ := ivT_app h
  have hx := ge_1 h2
  have hv2 := Int32.le_iff_toInt_le.mp (Int32.not_lt.mp (inF_iff.mp hv).2)
  rw [nI_toInt (by decide)] at hv2
  rw [chL_sp]
  exact ivT_mk h1 (inF_iff.mp hv).1 h3 (by omega)
theorem wid_all : ((List.range 41).all fun a => (List.range 5).all fun m => decide (1 ≤ (nI 200 + nI a * nI m - nI 2 * nI a).toInt ∧ (nI 200 + nI a * nI m - nI 2 * nI a).toInt ≤ 280 ∧ 1 ≤ ((nI 200 + nI a * nI m - nI 2 * nI a) / nI 2).toInt ∧ ((nI 200 + nI a * nI m - nI 2 * nI a) / nI 2).toInt ≤ 280 ∧ 1 ≤ ((nI 200 + nI a * nI m - nI 2 * nI a) - (nI 200 + nI a * nI m - nI 2 * nI a) / nI 2).toInt ∧ ((nI 200 + nI a * nI m - nI 2 * nI a) - (nI 200 + nI a * nI m - nI 2 * nI a) / nI 2).toInt ≤ 280)) = true := by decide +kernel
theorem seg_b {a : Nat} (ha : a ≤ 40) (k : Nat) (b : Int32) : ∀ x ∈ seg (nI a) k b, 1 ≤ x.toInt ∧ x.toInt ≤ 280 := by
  have h := of_decide_eq_true (List.all_eq_true.mp (List.all_eq_true.mp wid_all a (List.mem_range.mpr (by omega))) (k % 5) (List.mem_range.mpr (Nat.mod_lt _ (by decide))))
  intro x hx
  unfold seg wid at hx
  split at hx
  · rw [List.mem_singleton.mp hx]; exact ⟨h.1, h.2.1⟩
  · rcases List.mem_cons.mp hx with rfl | hx
    · exact ⟨h.2.2.1, h.2.2.2.1⟩
    · rw [List.mem_singleton.mp hx]; exact ⟨h.2.2.2.2.1, h.2.2.2.2.2⟩
theorem pass_b {a : Nat} (ha : a ≤ 40) : ∀ (l : IL) (k : Nat), ∀ x ∈ passL (nI a) k l, 1 ≤ x.toInt ∧ x.toInt ≤ 280
  | [], k => fun x hx => nomatch hx
  | b :: l, k => fun x hx => by
    rcases List.mem_append.mp (show x ∈ seg (nI a) k b ++ passL (nI a) (k + 1) l from hx) with h | h
    · exact seg_b ha k b x h
    · exact pass_b ha l (k + 1) x h
theorem ok_j {j : Int32} (h : okSet 3 j = true) : ∃ a, a ≤ 40 ∧ j = nI a := by
  have h2 := inF_iff.mp (show inF j (nI 0) (nI 40) = true from h)
  have a := Int32.le_iff_toInt_le.mp (Int32.not_lt.mp h2.1)
  have b := Int32.le_iff_toInt_le.mp (Int32.not_lt.mp h2.2)
  rw [nI_toInt (by omega)] at a b
  refine ⟨j.toInt.toNat, by omega, Int32.toInt_inj.mp ?_⟩
  rw [nI_toInt (by omega)]; omega
theorem ok_pass {j : Int32} (h : okSet 3 j = true) {l : IL} (hl : (passL j 0 l).length ≤ 200) : ivT 56000 (passL j 0 l) := by
  obtain ⟨a, ha, rfl⟩ := ok_j h
  refine ⟨fun x hx => of_1 (pass_b ha l 0 x hx).1, ?_⟩
  have := sI_le (c := 280) _ (fun x hx => (pass_b ha l 0 x hx).2)
  omega
theorem sv_mem {Hs : List S6} {s : S6} {P : S6 → Prop} (h : ∀ x ∈ Hs, P x) (hs : P s) : ∀ x ∈ svL Hs s, P x := by
  intro x hx
  unfold svL at hx
  split at hx
  · rcases List.mem_append.mp hx with a | a
    · exact h x (List.mem_of_mem_drop a)
    · rw [List.mem_singleton.mp a]; exact hs
  · rcases List.mem_append.mp hx with a | a
    · exact h x a
    · rw [List.mem_singleton.mp a]; exact hs
/-- a call keeps what is known of the state -/
def stepOK (R : SG → RT) : Prop := ∀ (B : Int) (s : SG), 56000 ≤ B → B ≤ 2147480000 → ivZ B s → ivZ (B + 999) (R s).2.2
theorem st_same {R : SG → RT} (h : ∀ s, (R s).2.2 = s) : stepOK R := fun B s _ _ hs => by rw [h]; exact ivZ_mono (by omega) hs
theorem st_mut {B : Int} {s s' : S6} {Hs : List S6} {s0 s1 : Option S6} {b b' : IL} (h : ivZ B (s, Hs, s0, s1, b)) (hs : ivS (B + 999) s') : ivZ (B + 999) (s', svL Hs s, s0, s1, b') :=
  ⟨hs, sv_mem (fun x hx => ivS_mono (by omega) (h.2.1 x hx)) (ivS_mono (by omega) h.1), fun x hx => ivS_mono (by omega) (h.2.2.1 x hx), fun x hx => ivS_mono (by omega) (h.2.2.2 x hx)⟩
theorem so_time (x : Int32) : stepOK (fun s => R_time s x) := st_same fun ((z, r, f, j, T, L), Hs, s0, s1, b) => by unfold R_time; dsimp only; split <;> rfl
theorem so_written (x : Int32) : stepOK (fun s => R_written s x) := st_same fun ((z, r, f, j, T, L), Hs, s0, s1, b) => by unfold R_written; dsimp only; split <;> rfl
theorem so_reads (bw : Bool) (x : Int32) : stepOK (fun s => R_reads s bw x) := st_same fun ((z, r, f, j, T, L), Hs, s0, s1, b) => by unfold R_reads; dsimp only; split <;> rfl
theorem so_bit (bw : Bool) (x : Int32) : stepOK (fun s => R_bit s bw x) := st_same fun ((z, r, f, j, T, L), Hs, s0, s1, b) => by unfold R_bit; dsimp only; split <;> rfl
theorem so_letter (bw : Bool) (x : Int32) : stepOK (fun s => R_letter s bw x) := st_same fun ((z, r, f, j, T, L), Hs, s0, s1, b) => by unfold R_letter; dsimp only; split <;> rfl
theorem so_count (x : Int32) : stepOK (fun s => R_count s x) := st_same fun ((z, r, f, j, T, L), Hs, s0, s1, b) => by unfold R_count; dsimp only; split <;> rfl
theorem so_setting (x : Int32) : stepOK (fun s => R_setting s x) := st_same fun ((z, r, f, j, T, L), Hs, s0, s1, b) => by unfold R_setting; dsimp only; split <;> rfl
theorem so_repair (x : Int32) : stepOK (fun s => R_repair s x) := st_same fun ((z, r, f, j, T, L), Hs, s0, s1, b) => by unfold R_repair; dsimp only; split <;> rfl
theorem so_ratios (x : Int32) : stepOK (fun s => R_ratios s x) := st_same fun ((z, r, f, j, T, L), Hs, s0, s1, b) => by unfold R_ratios; dsimp only; split <;> rfl
theorem so_isRight : stepOK R_isRight := st_same fun _ => rfl
theorem so_firstError : stepOK R_firstError := st_same fun _ => rfl
theorem so_greatestJerk : stepOK R_greatestJerk := st_same fun _ => rfl
theorem so_clearBuffer : stepOK R_clearBuffer := fun B s _ _ hs => ivZ_mono (B := B) (by omega) hs
theorem so_append (x : Int32) : stepOK (fun s => R_append s x) := fun B (s, Hs, s0, s1, b) _ _ hs => by
  have h : ivZ (B + 999) (s, Hs, s0, s1, b) := ivZ_mono (by omega) hs
  show ivZ (B + 999) (R_append (s, Hs, s0, s1, b) x).2.2
  unfold R_append; dsimp only; split
  · exact h
  · split <;> exact h
theorem so_turn : stepOK R_turn := fun B ((z, r, f, j, T, L), Hs, s0, s1, b) _ _ hs => by
  refine st_mut hs ?_
  obtain ⟨h1, h2, h3, h4, h5⟩ := hs.1
  exact ⟨h1, h2, by rw [List.length_reverse]; exact h3, fun x hx => h4 x (List.mem_reverse.mp hx), by rw [sI_rev]; omega⟩
theorem so_join (x : Int32) : stepOK (fun s => R_join s x) := fun B ((z, r, f, j, T, L), Hs, s0, s1, b) h56 hB hs => by
  show ivZ (B + 999) (R_join ((z, r, f, j, T, L), Hs, s0, s1, b) x).2.2
  obtain ⟨h1, h2, h3, h4⟩ := hs.1
  unfold R_join; dsimp only; split
  · exact ivZ_mono (by omega) hs
  · rename_i hb
    obtain ⟨q, hq, rfl⟩ := has_ex hb (by omega)
    refine st_mut hs ?_
    rw [qN_n (by omega)]
    have h5 := ok_jo h4 (by omega) (show q + 1 < T.length by omega)
    exact ⟨h1, h2, by show (joL T q).length ≤ 200; unfold joL; rw [lst_len]; omega, h5.1, Int.le_trans h5.2 (by omega)⟩
theorem so_scratch (x v : Int32) : stepOK (fun s => R_scratch s x v) := fun B ((z, r, f, j, T, L), Hs, s0, s1, b) h56 hB hs => by
  show ivZ (B + 999) (R_scratch ((z, r, f, j, T, L), Hs, s0, s1, b) x v).2.2
  obtain ⟨h1, h2, h3, h4⟩ := hs.1
  have h9 : ivZ (B + 999) ((z, r, f, j, T, L), Hs, s0, s1, b) := ivZ_mono (by omega) hs
  unfold R_scratch; dsimp only; split
  · exact h9
  · rename_i hb
    obtain ⟨q, hq, rfl⟩ := has_ex hb (by omega)
    rw [qN_n (by omega)]
    split
    · exact h9
    · rename_i hv
      split
      · exact h9
      · rename_i hf
        refine st_mut hs ?_
        have h5 := ok_sc h4 hq (fun h => hv (Or.inl h)) (Decidable.byContradiction fun h => hv (Or.inr h))
        exact ⟨h1, h2, by show (scL T q v).length ≤ 200; unfold scL; rw [lst_len]; omega, h5.1, Int.le_trans h5.2 (by omega)⟩
theorem so_change (x v : Int32) : stepOK (fun s => R_change s x v) := fun B ((z, r, f, j, T, L), Hs, s0, s1, b) h56 hB hs => by
  show ivZ (B + 999) (R_change ((z, r, f, j, T, L), Hs, s0, s1, b) x v).2.2
  obtain ⟨h1, h2, h3, h4⟩ := hs.1
  have h9 : ivZ (B + 999) ((z, r, f, j, T, L), Hs, s0, s1, b) := ivZ_mono (by omega) hs
  unfold R_change; dsimp only; split
  · exact h9
  · rename_i hb
    obtain ⟨q, hq, rfl⟩ := has_ex hb (by omega)
    split
    · exact h9
    · rename_i hv
      have hin : inF v (nI 1) (nI 999) = true := by cases h : inF v (nI 1) (nI 999); exact absurd h hv; rfl
      refine st_mut hs ?_
      rw [qN_n (by omega)]
      exact ⟨h1, h2, by show (chL T q v).length ≤ 200; unfold chL; rw [lst_len]; omega, ok_ch h4 hq hin⟩
theorem so_set (x v : Int32) : stepOK (fun s => R_set s x v) := fun B ((z, r, f, j, T, L), Hs, s0, s1, b) h56 hB hs => by
  show ivZ (B + 999) (R_set ((z, r, f, j, T, L), Hs, s0, s1, b) x v).2.2
  obtain ⟨h1, h2, h3, h4⟩ := hs.1
  have h9 : ivZ (B + 999) ((z, r, f, j, T, L), Hs, s0, s1, b) := ivZ_mono (by omega) hs
  have h5 : ivT (B + 999) T := ⟨h4.1, Int.le_trans h4.2 (by omega)⟩
  unfold R_set; dsimp only; split
  · exact h9
  · rename_i hb
    obtain ⟨q, hq, rfl⟩ := has_ex hb (by decide)
    rw [qN_n (by omega)]
    split
    · exact h9
    · rename_i hv
      have hin : okSet q v = true := by cases h : okSet q v; exact absurd h hv; rfl
      refine st_mut hs ?_
      rcases (show q = 0 ∨ q = 1 ∨ q = 2 ∨ q = 3 by omega) with e | e | e | e <;> subst e
      · obtain ⟨k, -, hk, rfl⟩ := ok_z hin
        exact ⟨by show qN (nI k) ≤ 30; rw [qN_n (by omega)]; exact hk, h2, h3, h5⟩
      · exact ⟨h1, h2, h3, h5⟩
      · exact ⟨h1, h2, h3, h5⟩
      · exact ⟨h1, hin, h3, h5⟩
theorem pl_le {z : Nat} {l : IL} {j : Int32} (h : ¬ 200 < needB z l) : (passL j 0 (strp z l)).length ≤ 200 := by
  rw [passL_len, strp_len]; unfold needB at h; omega
theorem so_swipe : stepOK R_swipe := fun B ((z, r, f, j, T, L), Hs, s0, s1, b) h56 hB hs => by
  show ivZ (B + 999) (R_swipe ((z, r, f, j, T, L), Hs, s0, s1, b)).2.2
  obtain ⟨h1, h2, h3, h4⟩ := hs.1
  unfold R_swipe; dsimp only; split
  · exact ivZ_mono (by omega) hs
  · rename_i hb
    refine st_mut hs ?_
    have hl : (passL j 0 (strp z L)).length ≤ 200 := pl_le fun h => hb (Or.inr h)
    have h5 := ok_pass h2 hl
    exact ⟨h1, h2, hl, h5.1, Int.le_trans h5.2 (by omega)⟩
theorem so_write : stepOK R_write := fun B ((z, r, f, j, T, L), Hs, s0, s1, b) h56 hB hs => by
  show ivZ (B + 999) (R_write ((z, r, f, j, T, L), Hs, s0, s1, b)).2.2
  obtain ⟨h1, h2, h3, h4⟩ := hs.1
  have h9 : ivZ (B + 999) ((z, r, f, j, T, L), Hs, s0, s1, b) := ivZ_mono (by omega) hs
  unfold R_write; dsimp only; split
  · exact h9
  · split
    · exact h9
    · rename_i hb
      refine st_mut hs ?_
      have hl : (passL j 0 (strp z (b.map lcode))).length ≤ 200 := pl_le hb
      have h5 := ok_pass h2 hl
      exact ⟨h1, h2, hl, h5.1, Int.le_trans h5.2 (by omega)⟩
theorem so_keep (x : Int32) : stepOK (fun s => R_keep s x) := fun B (s, Hs, s0, s1, b) h56 hB hs => by
  show ivZ (B + 999) (R_keep (s, Hs, s0, s1, b) x).2.2
  have h9 : ivZ (B + 999) (s, Hs, s0, s1, b) := ivZ_mono (by omega) hs
  unfold R_keep; dsimp only; split
  · exact h9
  · refine ⟨h9.1, h9.2.1, fun y hy => ?_, fun y hy => ?_⟩
    · split at hy
      · cases hy; exact h9.1
      · exact h9.2.2.1 y hy
    · split at hy
      · exact h9.2.2.2 y hy
      · cases hy; exact h9.1
theorem so_goBack (x : Int32) : stepOK (fun s => R_goBack s x) := fun B (s, Hs, s0, s1, b) h56 hB hs => by
  show ivZ (B + 999) (R_goBack (s, Hs, s0, s1, b) x).2.2
  have h9 : ivZ (B + 999) (s, Hs, s0, s1, b) := ivZ_mono (by omega) hs
  unfold R_goBack; dsimp only; split
  · exact h9
  · by_cases hq : qN x = 0
    · rw [if_pos hq]
      cases s0 with
      | none => exact h9
      | some y => exact st_mut hs (h9.2.2.1 y rfl)
    · rw [if_neg hq]
      cases s1 with
      | none => exact h9
      | some y => exact st_mut hs (h9.2.2.2 y rfl)
theorem so_undo : stepOK R_undo := fun B (s, Hs, s0, s1, b) h56 hB hs => by
  have h9 : ivZ (B + 999) (s, Hs, s0, s1, b) := ivZ_mono (by omega) hs
  show ivZ (B + 999) (R_undo (s, Hs, s0, s1, b)).2.2
  unfold R_undo; dsimp only
  rcases List.eq_nil_or_concat Hs with e | ⟨L1, y, e⟩
  · subst e; exact h9
  · rw [List.concat_eq_append] at e
    subst e
    rw [List.getLast?_concat]
    refine ⟨h9.2.1 y (List.mem_append_right _ List.mem_cons_self), fun w hw => ?_, h9.2.2.1, h9.2.2.2⟩
    rw [List.dropLast_concat] at hw
    exact h9.2.1 w (List.mem_append_left _ hw)
