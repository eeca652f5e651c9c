/-! rows as lists -/
def lst {α : Type} (g : Nat → α) (n : Nat) : List α := (List.range n).map g
theorem lst_len {α : Type} (g : Nat → α) (n : Nat) : (lst g n).length = n := by simp [lst]
theorem lst_succ {α : Type} (g : Nat → α) (n : Nat) : lst g (n + 1) = lst g n ++ [g n] := by simp [lst, List.range_succ]
theorem lst_get {α : Type} (g : Nat → α) {n j : Nat} (h : j < n) : (lst g n)[j]? = some (g j) := by simp [lst, h]
theorem lst_ext {α : Type} {g g2 : Nat → α} {n : Nat} (h : ∀ k, k < n → g k = g2 k) : lst g n = lst g2 n := List.map_congr_left fun k hk => h k (List.mem_range.mp hk)
theorem lst_inj {α : Type} {g g2 : Nat → α} {n n2 : Nat} (h : lst g n = lst g2 n2) : n = n2 ∧ ∀ k, k < n → g k = g2 k := by
  have h1 : n = n2 := by have := congrArg List.length h; rwa [lst_len, lst_len] at this
  subst h1
  refine ⟨rfl, fun k hk => ?_⟩
  have h2 := congrArg (fun l => l[k]?) h
  simp only [lst_get _ hk, Option.some.injEq] at h2
  exact h2
theorem lst_ne {α : Type} (g : Nat → α) {n : Nat} (h : 0 < n) : lst g n ≠ [] := by
  intro q
  have := congrArg List.length q
  rw [lst_len] at this
  exact absurd this (by simp; omega)
theorem lst_of {α : Type} (L : List α) (d : α) : lst (fun k => L.getD k d) L.length = L := by
  apply List.ext_getElem?
  intro i
  by_cases h : i < L.length
  · rw [lst_get _ h]; simp [List.getD, h]
  · rw [List.getElem?_eq_none (by rw [lst_len]; omega), List.getElem?_eq_none (by omega)]
def atF (g : Nat → Int32) (n : Nat) (x : Int32) : Int32 := if x < 0 then -1 else if nI n ≤ x then -1 else g x.toNatClampNeg
theorem atF_lo {g : Nat → Int32} {n : Nat} {x : Int32} (h : x < 0) : atF g n x = -1 := by simp [atF, h]
theorem atF_hi {g : Nat → Int32} {n : Nat} {x : Int32} (h : nI n ≤ x) : atF g n x = -1 := by simp [atF, h]
theorem atF_in {g : Nat → Int32} {n j : Nat} (h : j < n) (hn : n < 2147483648) : atF g n (nI j) = g j := by
  have h1 : ¬ nI j < 0 := nI_pos (Nat.lt_trans h hn)
  have h2 : ¬ nI n ≤ nI j := fun q => by have := (ni_le hn (Nat.lt_trans h hn)).mp q; omega
  simp only [atF, h1, h2, if_false, nI_clamp (Nat.lt_trans h hn)]
theorem atF_n {g : Nat → Int32} {n j : Nat} (hj : j < 2147483648) (hn : n < 2147483648) : atF g n (nI j) = if j < n then g j else -1 := by
  by_cases h : j < n
  · rw [atF_in h hn, if_pos h]
  · rw [if_neg h, atF_hi ((ni_le hn hj).mpr (by omega))]
def hasF (n : Nat) (x : Int32) : Bool := !(decide (x < 0)) && !(decide (nI n ≤ x))
theorem hasF_lo {n : Nat} {x : Int32} (h : x < 0) : hasF n x = false := by simp [hasF, h]
theorem hasF_hi {n : Nat} {x : Int32} (h : nI n ≤ x) : hasF n x = false := by simp [hasF, h]
theorem hasF_in {n : Nat} {x : Int32} (h : ¬ x < 0) (h2 : ¬ nI n ≤ x) : hasF n x = true := by simp only [hasF, h, h2, decide_false]; rfl
theorem hasF_n {n j : Nat} (hj : j < 2147483648) (hn : n < 2147483648) : hasF n (nI j) = decide (j < n) := by
  have h1 : ¬ nI j < 0 := nI_pos hj
  by_cases h : j < n
  · rw [hasF_in h1 (fun q => by have := (ni_le hn hj).mp q; omega)]; simp [h]
  · rw [hasF_hi ((ni_le hn hj).mpr (by omega))]; simp [h]
def insF {α : Type} (g : Nat → α) (n j : Nat) (v : α) : Nat → α := fun k => if k < j then g k else if k = j then v else if k ≤ n then g (k - 1) else g k
def insL (g : Nat → Int32) (n : Nat) (v : Int32) (i : Nat) : Nat → Int32 := fun k => if i < k ∧ k ≤ n then g (k - 1) else if k = n then v else g k
theorem insL_n (g : Nat → Int32) (n : Nat) (v : Int32) : insL g n v n = upd g n v := by
  funext k; simp only [insL, upd]; rw [if_neg (by omega)]
theorem insL_step (g : Nat → Int32) (n : Nat) (v : Int32) {i : Nat} (h : 0 < i) (hn : i ≤ n) : upd (insL g n v i) i (insL g n v i (i - 1)) = insL g n v (i - 1) := by
  funext k
  simp only [insL, upd]
  by_cases h1 : k = i
  · subst h1; rw [if_pos rfl, if_neg (by omega), if_neg (by omega), if_pos (by omega)]
  · rw [if_neg h1]
    by_cases h2 : i < k ∧ k ≤ n
    · rw [if_pos h2, if_pos (by omega)]
    · rw [if_neg h2, if_neg (show ¬ k = n by omega), if_neg (by omega)]
theorem insL_end (g : Nat → Int32) (v : Int32) {n i j : Nat} (h : i = j) (hj : j ≤ n) : upd (insL g n v i) j v = insF g n j v := by
  subst h
  funext k
  simp only [insL, upd, insF]
  by_cases h1 : k = i
  · subst h1; rw [if_pos rfl, if_neg (by omega), if_pos rfl]
  · rw [if_neg h1, if_neg h1]
    by_cases h2 : k < i
    · rw [if_pos h2, if_neg (by omega), if_neg (by omega)]
    · rw [if_neg h2]
      by_cases h3 : k ≤ n
      · rw [if_pos h3, if_pos (by omega)]
      · rw [if_neg h3, if_neg (by omega), if_neg (by omega)]
def remL {α : Type} (g : Nat → α) (j i : Nat) : Nat → α := fun k => if j ≤ k ∧ k < i then g (k + 1) else g k
def remF {α : Type} (g : Nat → α) (n j : Nat) : Nat → α := remL g j (n - 1)
theorem remL_0 {α : Type} (g : Nat → α) (j : Nat) : remL g j j = g := by
  funext k; simp only [remL]; rw [if_neg (by omega)]
theorem remL_step (g : Nat → Int32) {j i : Nat} (h : j ≤ i) : upd (remL g j i) i (remL g j i (i + 1)) = remL g j (i + 1) := by
  funext k
  simp only [remL, upd]
  by_cases h1 : k = i
  · subst h1; rw [if_pos rfl, if_neg (by omega), if_pos (by omega)]
  · rw [if_neg h1]
    by_cases h2 : j ≤ k ∧ k < i
    · rw [if_pos h2, if_pos (by omega)]
    · rw [if_neg h2, if_neg (by omega)]
theorem remL_end {α : Type} (g : Nat → α) {n j i : Nat} (h : n - 1 ≤ i) (h2 : i ≤ n - 1) : remL g j i = remF g n j := by
  rw [show i = n - 1 from by omega]; rfl
def cpF {α : Type} (g2 g : Nat → α) (i : Nat) : Nat → α := fun k => if k < i then g2 k else g k
theorem cpF_0 {α : Type} (g2 g : Nat → α) : cpF g2 g 0 = g := by
  funext k; simp only [cpF]; rw [if_neg (by omega)]
theorem cpF_step (g2 g : Nat → Int32) (i : Nat) : upd (cpF g2 g i) i (g2 i) = cpF g2 g (i + 1) := by
  funext k
  simp only [cpF, upd]
  by_cases h1 : k = i
  · subst h1; rw [if_pos rfl, if_pos (by omega)]
  · rw [if_neg h1]
    by_cases h2 : k < i
    · rw [if_pos h2, if_pos (by omega)]
    · rw [if_neg h2, if_neg (by omega)]
theorem cpF_lst {α : Type} (g2 g : Nat → α) (n : Nat) : lst (cpF g2 g n) n = lst g2 n := lst_ext fun k hk => by simp only [cpF]; rw [if_pos hk]
def revL {α : Type} (g : Nat → α) (n i : Nat) : Nat → α := fun k => if (k < i ∨ n - i ≤ k) ∧ k < n then g (n - 1 - k) else g k
def revF {α : Type} (g : Nat → α) (n : Nat) : Nat → α := fun k => if k < n then g (n - 1 - k) else g k
theorem revL_0 {α : Type} (g : Nat → α) (n : Nat) : revL g n 0 = g := by
  funext k; simp only [revL]; rw [if_neg (by omega)]
theorem revL_step (g : Nat → Int32) {n i : Nat} (h : i < n / 2) : upd (upd (revL g n i) i (revL g n i (n - 1 - i))) (n - 1 - i) (revL g n i i) = revL g n (i + 1) := by
  have e1 : revL g n i (n - 1 - i) = g (n - 1 - i) := by simp only [revL]; rw [if_neg (by omega)]
  have e2 : revL g n i i = g i := by simp only [revL]; rw [if_neg (by omega)]
  rw [e1, e2]
  funext k
  simp only [revL, upd]
  by_cases h1 : k = n - 1 - i
  · subst h1; rw [if_pos rfl, if_pos (by omega), show n - 1 - (n - 1 - i) = i from by omega]
  · rw [if_neg h1]
    by_cases h2 : k = i
    · subst h2; rw [if_pos rfl, if_pos (by omega)]
    · rw [if_neg h2]
      by_cases h3 : (k < i ∨ n - i ≤ k) ∧ k < n
      · rw [if_pos h3, if_pos (by omega)]
      · rw [if_neg h3, if_neg (by omega)]
theorem revL_end {α : Type} (g : Nat → α) {n i : Nat} (h : n / 2 ≤ i) : revL g n i = revF g n := by
  funext k
  simp only [revL, revF]
  by_cases h1 : k < n
  · rw [if_pos h1]
    by_cases h2 : (k < i ∨ n - i ≤ k) ∧ k < n
    · rw [if_pos h2]
    · rw [if_neg h2, show n - 1 - k = k from by omega]
  · rw [if_neg h1, if_neg (by omega)]
theorem revF_lst {α : Type} (g : Nat → α) (n : Nat) : lst (revF g n) n = (lst g n).reverse := by
  apply List.ext_getElem?
  intro i
  by_cases h : i < n
  · rw [lst_get _ h, List.getElem?_reverse (by rw [lst_len]; exact h), lst_len, lst_get _ (by omega)]
    simp only [revF]; rw [if_pos h]
  · rw [List.getElem?_eq_none (by rw [lst_len]; omega), List.getElem?_eq_none (by rw [List.length_reverse, lst_len]; omega)]
def sumL (l : IL) : Int32 := l.foldl (fun a b => a + b) (nI 0)
theorem sumL_app (l : IL) (x : Int32) : sumL (l ++ [x]) = sumL l + x := by simp [sumL]
def minL (l : IL) : Int32 := match l with
  | [] => nI 0
  | x :: xs => xs.foldl (fun a b => if b < a then b else a) x
def maxL (l : IL) : Int32 := match l with
  | [] => nI 0
  | x :: xs => xs.foldl (fun a b => if a < b then b else a) x
theorem minL_app (l : IL) (x : Int32) (h : l ≠ []) : minL (l ++ [x]) = if x < minL l then x else minL l := by
  cases l with
  | nil => exact absurd rfl h
  | cons y ys =>
    show List.foldl _ _ (ys ++ [x]) = _
    rw [List.foldl_append]; rfl
theorem maxL_app (l : IL) (x : Int32) (h : l ≠ []) : maxL (l ++ [x]) = if maxL l < x then x else maxL l := by
  cases l with
  | nil => exact absurd rfl h
  | cons y ys =>
    show List.foldl _ _ (ys ++ [x]) = _
    rw [List.foldl_append]; rfl
theorem same_len {g g2 : Nat → Int32} {n n2 : Nat} (h : ¬ n = n2) : decide (lst g n = lst g2 n2) = false := decide_eq_false fun q => h (lst_inj q).1
theorem same_no {g g2 : Nat → Int32} {n n2 i : Nat} (h1 : i < n) (h : ¬ g i = g2 i) : decide (lst g n = lst g2 n2) = false := decide_eq_false fun q => h ((lst_inj q).2 i h1)
theorem same_yes {g g2 : Nat → Int32} {n n2 : Nat} (h1 : n = n2) (h : ∀ k, k < n → g k = g2 k) : decide (lst g n = lst g2 n2) = true := decide_eq_true (by subst h1; exact lst_ext h)
