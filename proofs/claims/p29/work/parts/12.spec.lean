/-! the stripe, the hand, the reader, on lists -/
/-- a row that is filled from n on -/
def apF (g : Nat → Int32) (n : Nat) (L : IL) : Nat → Int32 := fun k => if n ≤ k ∧ k < n + L.length then L.getD (k - n) 0 else g k
theorem apF_0 (g : Nat → Int32) (n : Nat) : apF g n [] = g := by
  funext k; simp only [apF, List.length_nil]; rw [if_neg (by omega)]
theorem apF_1 (g : Nat → Int32) (n : Nat) (L : IL) (x : Int32) : upd (apF g n L) (n + L.length) x = apF g n (L ++ [x]) := by
  funext k
  simp only [apF, upd, List.length_append, List.length_cons, List.length_nil]
  by_cases h : k = n + L.length
  · subst h
    rw [if_pos rfl, if_pos (by omega), show n + L.length - n = L.length from by omega]
    simp
  · rw [if_neg h]
    by_cases h2 : n ≤ k ∧ k < n + L.length
    · rw [if_pos h2, if_pos (by omega)]
      simp only [List.getD]
      rw [List.getElem?_append_left (by omega)]
    · rw [if_neg h2, if_neg (by omega)]
theorem apF_app (g : Nat → Int32) (n : Nat) (L M : IL) : apF (apF g n L) (n + L.length) M = apF g n (L ++ M) := by
  funext k
  simp only [apF, List.length_append]
  by_cases h : n + L.length ≤ k ∧ k < n + L.length + M.length
  · rw [if_pos h, if_pos (by omega)]
    simp only [List.getD]
    rw [List.getElem?_append_right (by omega), show k - n - L.length = k - (n + L.length) from by omega]
  · rw [if_neg h]
    by_cases h2 : n ≤ k ∧ k < n + L.length
    · rw [if_pos h2, if_pos (by omega)]
      simp only [List.getD]
      rw [List.getElem?_append_left (by omega)]
    · rw [if_neg h2, if_neg (by omega)]
theorem apF_in (g : Nat → Int32) (L : IL) {k : Nat} (h : k < L.length) : apF g 0 L k = L.getD k 0 := by
  simp only [apF]; rw [if_pos (by omega), Nat.sub_zero]
theorem apF_lst (g : Nat → Int32) (L : IL) : lst (apF g 0 L) L.length = L := by
  rw [lst_ext (g2 := fun k => L.getD k 0) (fun k hk => apF_in g L hk), lst_of]
theorem getD_lst (g : Nat → Int32) {n k : Nat} (h : k < n) : (lst g n).getD k 0 = g k := by
  simp only [List.getD, lst_get _ h, Option.getD_some]
/-- the check -/
def chkL (l : IL) : Int32 := l.foldl (fun a b => a ^^^ b) (nI 4)
theorem chkL_app (l : IL) (x : Int32) : chkL (l ++ [x]) = chkL l ^^^ x := by simp [chkL]
/-- the five bits of a number -/
def bt (x : Int32) (i : Nat) : Int32 := (x >>> (nI i &&& 31)) &&& nI 1
def parS (x : Int32) : Nat → Int32
  | 0 => nI 1
  | i + 1 => parS x i ^^^ bt x i
def grp (x : Int32) : IL := [bt x 0, bt x 1, bt x 2, bt x 3, parS x 4]
theorem grp_eq (x : Int32) : grp x = lst (bt x) 4 ++ [parS x 4] := rfl
theorem grp_len (x : Int32) : (grp x).length = 5 := rfl
def strp (z : Nat) (l : IL) : IL := List.replicate z (nI 0) ++ (grp (nI 11) ++ (l.flatMap grp ++ (grp (nI 15) ++ (grp (chkL l) ++ List.replicate z (nI 0)))))
theorem flat_len (l : IL) : (l.flatMap grp).length = 5 * l.length := by
  induction l with
  | nil => rfl
  | cons x xs ih => simp only [List.flatMap_cons, List.length_append, grp_len, ih, List.length_cons]; omega
theorem strp_len (z : Nat) (l : IL) : (strp z l).length = 2 * z + 5 * (l.length + 3) := by
  simp only [strp, List.length_append, List.length_replicate, grp_len, flat_len]; omega
theorem bt_01 (x : Int32) (i : Nat) : bt x i = nI 0 ∨ bt x i = nI 1 := by
  obtain ⟨j, hj, e⟩ := pk_andE (x >>> (nI i &&& 31)) (m := nI 1) 1 (by decide)
  unfold bt
  rw [e]
  rcases (show j = 0 ∨ j = 1 by omega) with rfl | rfl
  · exact Or.inl rfl
  · exact Or.inr rfl
theorem parS_01 (x : Int32) : ∀ i, parS x i = nI 0 ∨ parS x i = nI 1
  | 0 => Or.inr rfl
  | i + 1 => by
    rcases parS_01 x i with h | h <;> rcases bt_01 x i with h2 | h2 <;> rw [parS, h, h2] <;> decide
def is01 (l : IL) : Prop := ∀ b ∈ l, b = nI 0 ∨ b = nI 1
theorem is01_grp (x : Int32) : is01 (grp x) := by
  intro b hb
  simp only [grp, List.mem_cons, List.not_mem_nil, or_false] at hb
  rcases hb with rfl | rfl | rfl | rfl | rfl
  · exact bt_01 x 0
  · exact bt_01 x 1
  · exact bt_01 x 2
  · exact bt_01 x 3
  · exact parS_01 x 4
theorem is01_app {a b : IL} (ha : is01 a) (hb : is01 b) : is01 (a ++ b) := fun x hx => (List.mem_append.mp hx).elim (ha x) (hb x)
theorem is01_strp (z : Nat) (l : IL) : is01 (strp z l) := by
  have h0 : is01 (List.replicate z (nI 0)) := fun b hb => Or.inl (List.eq_of_mem_replicate hb)
  have hf : is01 (l.flatMap grp) := by
    intro b hb
    obtain ⟨x, -, hx⟩ := List.mem_flatMap.mp hb
    exact is01_grp x b hx
  exact is01_app h0 (is01_app (is01_grp _) (is01_app hf (is01_app (is01_grp _) (is01_app (is01_grp _) h0))))
/-- how many times a bit takes -/
def onesN : IL → Nat
  | [] => 0
  | b :: l => (if b = nI 0 then 0 else 1) + onesN l
theorem onesN_app (a b : IL) : onesN (a ++ b) = onesN a + onesN b := by
  induction a with
  | nil => simp [onesN]
  | cons x xs ih => simp only [List.cons_append, onesN, ih]; omega
theorem onesN_le (a : IL) : onesN a ≤ a.length := by
  induction a with
  | nil => simp [onesN]
  | cons x xs ih => simp only [onesN, List.length_cons]; split <;> omega
theorem sum_ones (l : IL) : is01 l → sumL l = nI (onesN l) := by
  have key : ∀ (l : IL) (a : Nat), is01 l → l.foldl (fun a b => a + b) (nI a) = nI (a + onesN l) := by
    intro l
    induction l with
    | nil => intro a _; rfl
    | cons x xs ih =>
      intro a h
      simp only [List.foldl_cons, onesN]
      rcases h x List.mem_cons_self with rfl | rfl
      · rw [nI_add, ih _ (fun b hb => h b (List.mem_cons_of_mem _ hb)), if_pos rfl]; congr 1; omega
      · rw [nI_add, ih _ (fun b hb => h b (List.mem_cons_of_mem _ hb)), if_neg (by decide)]; congr 1; omega
  intro h
  have := key l 0 h
  rw [Nat.zero_add] at this
  exact this
/-- the hand -/
def wid (j : Int32) (k : Nat) : Int32 := nI 200 + j * nI (k % 5) - nI 2 * j
def seg (j : Int32) (k : Nat) (b : Int32) : IL := if b = nI 0 then [wid j k] else [wid j k / nI 2, wid j k - wid j k / nI 2]
def passL (j : Int32) : Nat → IL → IL
  | _, [] => []
  | k, b :: l => seg j k b ++ passL j (k + 1) l
theorem passL_app (j : Int32) (b : Int32) : ∀ (l : IL) (k : Nat), passL j k (l ++ [b]) = passL j k l ++ seg j (k + l.length) b
  | [], k => by simp [passL]
  | x :: xs, k => by
    simp only [List.cons_append, passL, passL_app j b xs (k + 1), List.append_assoc, List.length_cons]
    rw [show k + 1 + xs.length = k + (xs.length + 1) from by omega]
theorem seg_len (j : Int32) (k : Nat) (b : Int32) : (seg j k b).length = 1 + (if b = nI 0 then 0 else 1) := by
  unfold seg; split <;> rfl
theorem passL_len (j : Int32) : ∀ (l : IL) (k : Nat), (passL j k l).length = l.length + onesN l
  | [], k => rfl
  | x :: xs, k => by
    simp only [passL, List.length_append, seg_len, passL_len j xs (k + 1), List.length_cons, onesN]; omega
/-- the row of times by the place on the way -/
def twF (bw : Bool) (g : Nat → Int32) (n p : Nat) : Int32 := if bw then g (n - 1 - p) else g p
theorem twF_lst (bw : Bool) (g : Nat → Int32) (n : Nat) : lst (twF bw g n) n = if bw then (lst g n).reverse else lst g n := by
  cases bw
  · rfl
  · rw [if_pos rfl, ← revF_lst]
    exact lst_ext fun k hk => by simp only [twF, revF, if_true]; rw [if_pos hk]
def fclk (t : IL) : Int32 := if t.length = 0 then nI 0 else sumL (t.take 4) / nI (min 4 t.length)
def nclk (c f x : Int32) : Int32 := (c * (nI 100 - f) + x * f) / nI 100
def limit (c r : Int32) : Int32 := c * r / nI 100
def rdB (r f : Int32) : Int32 → IL → IL × Int32 × Bool
  | c, [] => ([], c, true)
  | c, [t] => if t < limit c r then ([], c, false) else ([nI 0], nclk c f t, true)
  | c, t :: u :: l => if t < limit c r then (if u < limit c r then (nI 1 :: (rdB r f (nclk c f (t + u)) l).1, (rdB r f (nclk c f (t + u)) l).2) else ([], c, false)) else (nI 0 :: (rdB r f (nclk c f t) (u :: l)).1, (rdB r f (nclk c f t) (u :: l)).2)
def preB (B : IL) (z : IL × Int32 × Bool) : IL × Int32 × Bool := (B ++ z.1, z.2)
theorem rdB_long {r f c t : Int32} (l : IL) (h : ¬ t < limit c r) : rdB r f c (t :: l) = preB [nI 0] (rdB r f (nclk c f t) l) := by
  cases l with
  | nil => simp [rdB, h, preB]
  | cons u l => simp [rdB, h, preB]
theorem rdB_two {r f c t u : Int32} (l : IL) (h : t < limit c r) (h2 : u < limit c r) : rdB r f c (t :: u :: l) = preB [nI 1] (rdB r f (nclk c f (t + u)) l) := by simp [rdB, h, h2, preB]
theorem rdB_br1 {r f c t u : Int32} (l : IL) (h : t < limit c r) (h2 : ¬ u < limit c r) : rdB r f c (t :: u :: l) = ([], c, false) := by simp [rdB, h, h2]
theorem rdB_br0 {r f c t : Int32} (h : t < limit c r) : rdB r f c [t] = ([], c, false) := by simp [rdB, h]
theorem preB_app (A B : IL) (z : IL × Int32 × Bool) : preB A (preB B z) = preB (A ++ B) z := by simp [preB]
theorem preB_nil (z : IL × Int32 × Bool) : preB [] z = z := rfl
theorem rdB_01 (r f : Int32) : ∀ (t : IL) (c : Int32), is01 (rdB r f c t).1
  | [], c => fun b hb => by simp [rdB] at hb
  | [t], c => by
    unfold rdB; split
    · intro b hb; simp at hb
    · intro b hb; simp at hb; exact Or.inl hb
  | t :: u :: l, c => by
    unfold rdB; split
    · split
      · intro b hb
        rcases List.mem_cons.mp hb with h | h
        · exact Or.inr h
        · exact rdB_01 r f l _ b h
      · intro b hb; simp at hb
    · intro b hb
      rcases List.mem_cons.mp hb with h | h
      · exact Or.inl h
      · exact rdB_01 r f (u :: l) _ b h
theorem rdB_len (r f : Int32) : ∀ (t : IL) (c : Int32), (rdB r f c t).1.length ≤ t.length
  | [], c => by simp [rdB]
  | [t], c => by unfold rdB; split <;> simp
  | t :: u :: l, c => by
    unfold rdB; split
    · split
      · have := rdB_len r f l (nclk c f (t + u)); simp only [List.length_cons]; omega
      · simp
    · have := rdB_len r f (u :: l) (nclk c f t); simp only [List.length_cons] at this ⊢; omega
theorem drop_lst (g : Nat → Int32) {n i : Nat} (h : i < n) : (lst g n).drop i = g i :: (lst g n).drop (i + 1) := by
  rw [List.drop_eq_getElem_cons (by rw [lst_len]; exact h)]
  congr 1
  have := lst_get g h
  rw [List.getElem?_eq_getElem (by rw [lst_len]; exact h)] at this
  exact Option.some.inj this
theorem drop_end (g : Nat → Int32) {n i : Nat} (h : n ≤ i) : (lst g n).drop i = [] := List.drop_eq_nil_of_le (by rw [lst_len]; exact h)
/-- numbers and parity of a group -/
def bf (B : IL) : Nat → Int32 := fun k => B.getD k 0
def numS (f : Nat → Int32) (p : Nat) : Nat → Int32
  | 0 => nI 0
  | i + 1 => numS f p i + f (p + i) <<< (nI i &&& 31)
def oneS (f : Nat → Int32) (p : Nat) : Nat → Int32
  | 0 => nI 0
  | i + 1 => oneS f p i + f (p + i)
def numG (f : Nat → Int32) (p : Nat) : Int32 := numS f p 4
def oddG (f : Nat → Int32) (p : Nat) : Bool := decide (oneS f p 5 &&& nI 1 = nI 1)
theorem numS_congr {f f2 : Nat → Int32} {p : Nat} : ∀ {i : Nat}, (∀ k, k < i → f (p + k) = f2 (p + k)) → numS f p i = numS f2 p i
  | 0, _ => rfl
  | i + 1, h => by rw [numS, numS, numS_congr (fun k hk => h k (by omega)), h i (by omega)]
theorem oneS_congr {f f2 : Nat → Int32} {p : Nat} : ∀ {i : Nat}, (∀ k, k < i → f (p + k) = f2 (p + k)) → oneS f p i = oneS f2 p i
  | 0, _ => rfl
  | i + 1, h => by rw [oneS, oneS, oneS_congr (fun k hk => h k (by omega)), h i (by omega)]
theorem numG_congr {f f2 : Nat → Int32} {p : Nat} (h : ∀ k, k < 5 → f (p + k) = f2 (p + k)) : numG f p = numG f2 p := numS_congr fun k hk => h k (by omega)
theorem oddG_congr {f f2 : Nat → Int32} {p : Nat} (h : ∀ k, k < 5 → f (p + k) = f2 (p + k)) : oddG f p = oddG f2 p := by unfold oddG; rw [oneS_congr h]
/-- the first place from which on it isn't so -/
def stopAt (P : Nat → Bool) : Nat → Nat → Nat
  | 0, i => i
  | k + 1, i => if P i then stopAt P k (i + 1) else i
theorem stopAt_eq {P : Nat → Bool} : ∀ {k i c : Nat}, i ≤ c → c ≤ i + k → (∀ j, i ≤ j → j < c → P j = true) → (c < i + k → P c = false) → stopAt P k i = c
  | 0, i, c, h1, h2, _, _ => by simp only [stopAt]; omega
  | k + 1, i, c, h1, h2, h3, h4 => by
    simp only [stopAt]
    rcases Nat.eq_or_lt_of_le h1 with h | h
    · subst h; rw [h4 (by omega)]; rfl
    · rw [h3 i (Nat.le_refl _) h]
      exact stopAt_eq (by omega) (by omega) (fun j hj => h3 j (by omega)) (fun q => h4 (by omega))
theorem stopAt_le {P : Nat → Bool} : ∀ {k i : Nat}, i ≤ stopAt P k i ∧ stopAt P k i ≤ i + k
  | 0, i => by simp [stopAt]
  | k + 1, i => by
    simp only [stopAt]; split
    · have := stopAt_le (P := P) (k := k) (i := i + 1); omega
    · omega
theorem stopAt_yes {P : Nat → Bool} : ∀ {k i j : Nat}, i ≤ j → j < stopAt P k i → P j = true
  | 0, i, j, h1, h2 => by simp only [stopAt] at h2; omega
  | k + 1, i, j, h1, h2 => by
    simp only [stopAt] at h2
    split at h2
    · rcases Nat.eq_or_lt_of_le h1 with h | h
      · subst h; assumption
      · exact stopAt_yes (by omega) h2
    · omega
theorem stopAt_no {P : Nat → Bool} : ∀ {k i : Nat}, stopAt P k i < i + k → P (stopAt P k i) = false
  | 0, i, h => by simp only [stopAt] at h; omega
  | k + 1, i, h => by
    simp only [stopAt] at h ⊢
    split
    · rw [if_pos (by assumption)] at h; exact stopAt_no (by omega)
    · rename_i hh; exact Bool.eq_false_iff.mpr hh
theorem stopAt_congr {P P2 : Nat → Bool} : ∀ {k i : Nat}, (∀ j, i ≤ j → j < i + k → P j = P2 j) → stopAt P k i = stopAt P2 k i
  | 0, i, _ => rfl
  | k + 1, i, h => by
    simp only [stopAt, h i (Nat.le_refl _) (by omega)]
    rw [stopAt_congr (k := k) (i := i + 1) (fun j hj hj2 => h j (by omega) (by omega))]
