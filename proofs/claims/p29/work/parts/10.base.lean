abbrev IL : Type := List Int32
abbrev tyG (ca : Nat → ClassId) : List (ClassId × FieldType) := [(ca 0, .int), (ca 1, .byte), (ca 2, .object RX3)]
/-- the words that no list of a method holds: nest mates, texts, exceptions -/
def NW (U : State) : Prop := (va_Nw (.fieldLinkNest "StripeSwipes$State" 23 "StripeSwipes" "FIRST_VALUES" "[I" "StripeSwipes") U) ∧ (va_Nw (.fieldLinkNest "StripeSwipes" 113 "StripeSwipes$State" "times" "LStripeSwipes$Row;" "StripeSwipes") U) ∧ (va_Nw (.fieldLinkNest "StripeSwipes" 106 "StripeSwipes$State" "letters" "LStripeSwipes$Row;" "StripeSwipes") U) ∧ (va_Nw (.fieldLinkNest "StripeSwipes" 148 "StripeSwipes$State" "settings" "LStripeSwipes$Row;" "StripeSwipes") U) ∧ (va_Nw (.fieldLinkNest "StripeSwipes" 196 "StripeSwipes$Reading" "bits" "LStripeSwipes$Row;" "StripeSwipes") U) ∧ (va_Nw (.fieldLinkNest "StripeSwipes" 199 "StripeSwipes$Reading" "letters" "LStripeSwipes$Row;" "StripeSwipes") U) ∧ (va_Nw (.methodLinkNest "StripeSwipes" 22 yX0_init "StripeSwipes") U) ∧ (va_Nw (.methodLinkNest "StripeSwipes" 38 yX1_init "StripeSwipes") U) ∧ (va_Nw (.methodLinkNest "StripeSwipes" 45 yX4_init "StripeSwipes") U) ∧ (va_Nw (.methodLinkNest "StripeSwipes$Reading" 91 yX5_checkOf "StripeSwipes") U) ∧ (va_Nw (.methodLinkNest "StripeSwipes$Stripe" 37 yX5_checkOf "StripeSwipes") U) ∧ ((∃ a : Nat, vk_R "StripeSwipes" 119 "no card was written" a U)) ∧ ((∃ a : Nat, vk_R "StripeSwipes" 126 "there are not both times" a U)) ∧ ((∃ a : Nat, vk_R "StripeSwipes" 139 "there is no such time" a U)) ∧ ((∃ a : Nat, vk_R "StripeSwipes" 141 "the time is out of range" a U)) ∧ ((∃ a : Nat, vk_R "StripeSwipes" 143 "the row is full" a U)) ∧ ((∃ a : Nat, vk_R "StripeSwipes" 151 "there is no such setting" a U)) ∧ ((∃ a : Nat, vk_R "StripeSwipes" 164 "the value is out of range" a U)) ∧ ((∃ a : Nat, vk_R "StripeSwipes" 166 "the code is out of range" a U)) ∧ ((∃ a : Nat, vk_R "StripeSwipes" 168 "the buffer is full" a U)) ∧ ((∃ a : Nat, vk_R "StripeSwipes" 170 "there is no such slot" a U)) ∧ ((∃ a : Nat, vk_R "StripeSwipes" 174 "the slot is empty" a U)) ∧ ((∃ a : Nat, vk_R "StripeSwipes" 180 "no state is saved" a U)) ∧ ((∃ a : Nat, vk_R "StripeSwipes" 185 "the place is below 0" a U)) ∧ ((∃ a : Nat, vk_R "StripeSwipes" 187 "there is no such number" a U)) ∧ ((∃ a : Nat, vk_R "StripeSwipes" 68 "the buffer does not tell a card" a U)) ∧ ((∃ a : Nat, vk_R "StripeSwipes" 99 "the row would have too many times" a U)) ∧ (va_AO RX3 U) ∧ (va_Nw (.castable "java/lang/IllegalArgumentException" "java/lang/IllegalArgumentException") U) ∧ (va_Nw (.castable "java/lang/IllegalStateException" "java/lang/IllegalStateException") U) ∧ (va_Nw (.castable "java/lang/IndexOutOfBoundsException" "java/lang/IndexOutOfBoundsException") U)
theorem NW.f23 {U : State} (h : NW U) : va_Nw (.fieldLinkNest "StripeSwipes$State" 23 "StripeSwipes" "FIRST_VALUES" "[I" "StripeSwipes") U := h.1
theorem NW.f113 {U : State} (h : NW U) : va_Nw (.fieldLinkNest "StripeSwipes" 113 "StripeSwipes$State" "times" "LStripeSwipes$Row;" "StripeSwipes") U := h.2.1
theorem NW.f106 {U : State} (h : NW U) : va_Nw (.fieldLinkNest "StripeSwipes" 106 "StripeSwipes$State" "letters" "LStripeSwipes$Row;" "StripeSwipes") U := h.2.2.1
theorem NW.f148 {U : State} (h : NW U) : va_Nw (.fieldLinkNest "StripeSwipes" 148 "StripeSwipes$State" "settings" "LStripeSwipes$Row;" "StripeSwipes") U := h.2.2.2.1
theorem NW.f196 {U : State} (h : NW U) : va_Nw (.fieldLinkNest "StripeSwipes" 196 "StripeSwipes$Reading" "bits" "LStripeSwipes$Row;" "StripeSwipes") U := h.2.2.2.2.1
theorem NW.f199 {U : State} (h : NW U) : va_Nw (.fieldLinkNest "StripeSwipes" 199 "StripeSwipes$Reading" "letters" "LStripeSwipes$Row;" "StripeSwipes") U := h.2.2.2.2.2.1
theorem NW.m22 {U : State} (h : NW U) : va_Nw (.methodLinkNest "StripeSwipes" 22 yX0_init "StripeSwipes") U := h.2.2.2.2.2.2.1
theorem NW.m38 {U : State} (h : NW U) : va_Nw (.methodLinkNest "StripeSwipes" 38 yX1_init "StripeSwipes") U := h.2.2.2.2.2.2.2.1
theorem NW.m45 {U : State} (h : NW U) : va_Nw (.methodLinkNest "StripeSwipes" 45 yX4_init "StripeSwipes") U := h.2.2.2.2.2.2.2.2.1
theorem NW.m91 {U : State} (h : NW U) : va_Nw (.methodLinkNest "StripeSwipes$Reading" 91 yX5_checkOf "StripeSwipes") U := h.2.2.2.2.2.2.2.2.2.1
theorem NW.m37 {U : State} (h : NW U) : va_Nw (.methodLinkNest "StripeSwipes$Stripe" 37 yX5_checkOf "StripeSwipes") U := h.2.2.2.2.2.2.2.2.2.2.1
theorem NW.s119 {U : State} (h : NW U) : (∃ a : Nat, vk_R "StripeSwipes" 119 "no card was written" a U) := h.2.2.2.2.2.2.2.2.2.2.2.1
theorem NW.s126 {U : State} (h : NW U) : (∃ a : Nat, vk_R "StripeSwipes" 126 "there are not both times" a U) := h.2.2.2.2.2.2.2.2.2.2.2.2.1
theorem NW.s139 {U : State} (h : NW U) : (∃ a : Nat, vk_R "StripeSwipes" 139 "there is no such time" a U) := h.2.2.2.2.2.2.2.2.2.2.2.2.2.1
theorem NW.s141 {U : State} (h : NW U) : (∃ a : Nat, vk_R "StripeSwipes" 141 "the time is out of range" a U) := h.2.2.2.2.2.2.2.2.2.2.2.2.2.2.1
theorem NW.s143 {U : State} (h : NW U) : (∃ a : Nat, vk_R "StripeSwipes" 143 "the row is full" a U) := h.2.2.2.2.2.2.2.2.2.2.2.2.2.2.2.1
theorem NW.s151 {U : State} (h : NW U) : (∃ a : Nat, vk_R "StripeSwipes" 151 "there is no such setting" a U) := h.2.2.2.2.2.2.2.2.2.2.2.2.2.2.2.2.1
theorem NW.s164 {U : State} (h : NW U) : (∃ a : Nat, vk_R "StripeSwipes" 164 "the value is out of range" a U) := h.2.2.2.2.2.2.2.2.2.2.2.2.2.2.2.2.2.1
theorem NW.s166 {U : State} (h : NW U) : (∃ a : Nat, vk_R "StripeSwipes" 166 "the code is out of range" a U) := h.2.2.2.2.2.2.2.2.2.2.2.2.2.2.2.2.2.2.1
theorem NW.s168 {U : State} (h : NW U) : (∃ a : Nat, vk_R "StripeSwipes" 168 "the buffer is full" a U) := h.2.2.2.2.2.2.2.2.2.2.2.2.2.2.2.2.2.2.2.1
theorem NW.s170 {U : State} (h : NW U) : (∃ a : Nat, vk_R "StripeSwipes" 170 "there is no such slot" a U) := h.2.2.2.2.2.2.2.2.2.2.2.2.2.2.2.2.2.2.2.2.1
theorem NW.s174 {U : State} (h : NW U) : (∃ a : Nat, vk_R "StripeSwipes" 174 "the slot is empty" a U) := h.2.2.2.2.2.2.2.2.2.2.2.2.2.2.2.2.2.2.2.2.2.1
theorem NW.s180 {U : State} (h : NW U) : (∃ a : Nat, vk_R "StripeSwipes" 180 "no state is saved" a U) := h.2.2.2.2.2.2.2.2.2.2.2.2.2.2.2.2.2.2.2.2.2.2.1
theorem NW.s185 {U : State} (h : NW U) : (∃ a : Nat, vk_R "StripeSwipes" 185 "the place is below 0" a U) := h.2.2.2.2.2.2.2.2.2.2.2.2.2.2.2.2.2.2.2.2.2.2.2.1
theorem NW.s187 {U : State} (h : NW U) : (∃ a : Nat, vk_R "StripeSwipes" 187 "there is no such number" a U) := h.2.2.2.2.2.2.2.2.2.2.2.2.2.2.2.2.2.2.2.2.2.2.2.2.1
theorem NW.s68 {U : State} (h : NW U) : (∃ a : Nat, vk_R "StripeSwipes" 68 "the buffer does not tell a card" a U) := h.2.2.2.2.2.2.2.2.2.2.2.2.2.2.2.2.2.2.2.2.2.2.2.2.2.1
theorem NW.s99 {U : State} (h : NW U) : (∃ a : Nat, vk_R "StripeSwipes" 99 "the row would have too many times" a U) := h.2.2.2.2.2.2.2.2.2.2.2.2.2.2.2.2.2.2.2.2.2.2.2.2.2.2.1
theorem NW.ao {U : State} (h : NW U) : va_AO RX3 U := h.2.2.2.2.2.2.2.2.2.2.2.2.2.2.2.2.2.2.2.2.2.2.2.2.2.2.2.1
theorem NW.cIllegalArgumentException {U : State} (h : NW U) : va_Nw (.castable "java/lang/IllegalArgumentException" "java/lang/IllegalArgumentException") U := h.2.2.2.2.2.2.2.2.2.2.2.2.2.2.2.2.2.2.2.2.2.2.2.2.2.2.2.2.1
theorem NW.cIllegalStateException {U : State} (h : NW U) : va_Nw (.castable "java/lang/IllegalStateException" "java/lang/IllegalStateException") U := h.2.2.2.2.2.2.2.2.2.2.2.2.2.2.2.2.2.2.2.2.2.2.2.2.2.2.2.2.2.1
theorem NW.cIndexOutOfBoundsException {U : State} (h : NW U) : va_Nw (.castable "java/lang/IndexOutOfBoundsException" "java/lang/IndexOutOfBoundsException") U := h.2.2.2.2.2.2.2.2.2.2.2.2.2.2.2.2.2.2.2.2.2.2.2.2.2.2.2.2.2.2
theorem NW.warm {s U : State} (hW : s.WarmedH U.vm) (h : NW s) : NW U := ⟨(va_Nw.warmF hW) (h.1), (va_Nw.warmF hW) (h.2.1), (va_Nw.warmF hW) (h.2.2.1), (va_Nw.warmF hW) (h.2.2.2.1), (va_Nw.warmF hW) (h.2.2.2.2.1), (va_Nw.warmF hW) (h.2.2.2.2.2.1), (va_Nw.warmM hW) (h.2.2.2.2.2.2.1), (va_Nw.warmM hW) (h.2.2.2.2.2.2.2.1), (va_Nw.warmM hW) (h.2.2.2.2.2.2.2.2.1), (va_Nw.warmM hW) (h.2.2.2.2.2.2.2.2.2.1), (va_Nw.warmM hW) (h.2.2.2.2.2.2.2.2.2.2.1), (fun ⟨a, h⟩ => ⟨a, vk_R.warm hW h⟩) (h.2.2.2.2.2.2.2.2.2.2.2.1), (fun ⟨a, h⟩ => ⟨a, vk_R.warm hW h⟩) (h.2.2.2.2.2.2.2.2.2.2.2.2.1), (fun ⟨a, h⟩ => ⟨a, vk_R.warm hW h⟩) (h.2.2.2.2.2.2.2.2.2.2.2.2.2.1), (fun ⟨a, h⟩ => ⟨a, vk_R.warm hW h⟩) (h.2.2.2.2.2.2.2.2.2.2.2.2.2.2.1), (fun ⟨a, h⟩ => ⟨a, vk_R.warm hW h⟩) (h.2.2.2.2.2.2.2.2.2.2.2.2.2.2.2.1), (fun ⟨a, h⟩ => ⟨a, vk_R.warm hW h⟩) (h.2.2.2.2.2.2.2.2.2.2.2.2.2.2.2.2.1), (fun ⟨a, h⟩ => ⟨a, vk_R.warm hW h⟩) (h.2.2.2.2.2.2.2.2.2.2.2.2.2.2.2.2.2.1), (fun ⟨a, h⟩ => ⟨a, vk_R.warm hW h⟩) (h.2.2.2.2.2.2.2.2.2.2.2.2.2.2.2.2.2.2.1), (fun ⟨a, h⟩ => ⟨a, vk_R.warm hW h⟩) (h.2.2.2.2.2.2.2.2.2.2.2.2.2.2.2.2.2.2.2.1), (fun ⟨a, h⟩ => ⟨a, vk_R.warm hW h⟩) (h.2.2.2.2.2.2.2.2.2.2.2.2.2.2.2.2.2.2.2.2.1), (fun ⟨a, h⟩ => ⟨a, vk_R.warm hW h⟩) (h.2.2.2.2.2.2.2.2.2.2.2.2.2.2.2.2.2.2.2.2.2.1), (fun ⟨a, h⟩ => ⟨a, vk_R.warm hW h⟩) (h.2.2.2.2.2.2.2.2.2.2.2.2.2.2.2.2.2.2.2.2.2.2.1), (fun ⟨a, h⟩ => ⟨a, vk_R.warm hW h⟩) (h.2.2.2.2.2.2.2.2.2.2.2.2.2.2.2.2.2.2.2.2.2.2.2.1), (fun ⟨a, h⟩ => ⟨a, vk_R.warm hW h⟩) (h.2.2.2.2.2.2.2.2.2.2.2.2.2.2.2.2.2.2.2.2.2.2.2.2.1), (fun ⟨a, h⟩ => ⟨a, vk_R.warm hW h⟩) (h.2.2.2.2.2.2.2.2.2.2.2.2.2.2.2.2.2.2.2.2.2.2.2.2.2.1), (fun ⟨a, h⟩ => ⟨a, vk_R.warm hW h⟩) (h.2.2.2.2.2.2.2.2.2.2.2.2.2.2.2.2.2.2.2.2.2.2.2.2.2.2.1), (va_AO.moved hW.alike) (h.2.2.2.2.2.2.2.2.2.2.2.2.2.2.2.2.2.2.2.2.2.2.2.2.2.2.2.1), (va_Nw.warmC hW) (h.2.2.2.2.2.2.2.2.2.2.2.2.2.2.2.2.2.2.2.2.2.2.2.2.2.2.2.2.1), (va_Nw.warmC hW) (h.2.2.2.2.2.2.2.2.2.2.2.2.2.2.2.2.2.2.2.2.2.2.2.2.2.2.2.2.2.1), (va_Nw.warmC hW) (h.2.2.2.2.2.2.2.2.2.2.2.2.2.2.2.2.2.2.2.2.2.2.2.2.2.2.2.2.2.2)⟩
theorem NW.call {U : State} {g : JFrame} {mk : MethodId} {a : Array Value} (h : NW U) : NW (U.calling g mk a) := ⟨(va_Nw.same rfl rfl) (h.1), (va_Nw.same rfl rfl) (h.2.1), (va_Nw.same rfl rfl) (h.2.2.1), (va_Nw.same rfl rfl) (h.2.2.2.1), (va_Nw.same rfl rfl) (h.2.2.2.2.1), (va_Nw.same rfl rfl) (h.2.2.2.2.2.1), (va_Nw.same rfl rfl) (h.2.2.2.2.2.2.1), (va_Nw.same rfl rfl) (h.2.2.2.2.2.2.2.1), (va_Nw.same rfl rfl) (h.2.2.2.2.2.2.2.2.1), (va_Nw.same rfl rfl) (h.2.2.2.2.2.2.2.2.2.1), (va_Nw.same rfl rfl) (h.2.2.2.2.2.2.2.2.2.2.1), (fun ⟨a, h⟩ => ⟨a, vk_R.same rfl h⟩) (h.2.2.2.2.2.2.2.2.2.2.2.1), (fun ⟨a, h⟩ => ⟨a, vk_R.same rfl h⟩) (h.2.2.2.2.2.2.2.2.2.2.2.2.1), (fun ⟨a, h⟩ => ⟨a, vk_R.same rfl h⟩) (h.2.2.2.2.2.2.2.2.2.2.2.2.2.1), (fun ⟨a, h⟩ => ⟨a, vk_R.same rfl h⟩) (h.2.2.2.2.2.2.2.2.2.2.2.2.2.2.1), (fun ⟨a, h⟩ => ⟨a, vk_R.same rfl h⟩) (h.2.2.2.2.2.2.2.2.2.2.2.2.2.2.2.1), (fun ⟨a, h⟩ => ⟨a, vk_R.same rfl h⟩) (h.2.2.2.2.2.2.2.2.2.2.2.2.2.2.2.2.1), (fun ⟨a, h⟩ => ⟨a, vk_R.same rfl h⟩) (h.2.2.2.2.2.2.2.2.2.2.2.2.2.2.2.2.2.1), (fun ⟨a, h⟩ => ⟨a, vk_R.same rfl h⟩) (h.2.2.2.2.2.2.2.2.2.2.2.2.2.2.2.2.2.2.1), (fun ⟨a, h⟩ => ⟨a, vk_R.same rfl h⟩) (h.2.2.2.2.2.2.2.2.2.2.2.2.2.2.2.2.2.2.2.1), (fun ⟨a, h⟩ => ⟨a, vk_R.same rfl h⟩) (h.2.2.2.2.2.2.2.2.2.2.2.2.2.2.2.2.2.2.2.2.1), (fun ⟨a, h⟩ => ⟨a, vk_R.same rfl h⟩) (h.2.2.2.2.2.2.2.2.2.2.2.2.2.2.2.2.2.2.2.2.2.1), (fun ⟨a, h⟩ => ⟨a, vk_R.same rfl h⟩) (h.2.2.2.2.2.2.2.2.2.2.2.2.2.2.2.2.2.2.2.2.2.2.1), (fun ⟨a, h⟩ => ⟨a, vk_R.same rfl h⟩) (h.2.2.2.2.2.2.2.2.2.2.2.2.2.2.2.2.2.2.2.2.2.2.2.1), (fun ⟨a, h⟩ => ⟨a, vk_R.same rfl h⟩) (h.2.2.2.2.2.2.2.2.2.2.2.2.2.2.2.2.2.2.2.2.2.2.2.2.1), (fun ⟨a, h⟩ => ⟨a, vk_R.same rfl h⟩) (h.2.2.2.2.2.2.2.2.2.2.2.2.2.2.2.2.2.2.2.2.2.2.2.2.2.1), (fun ⟨a, h⟩ => ⟨a, vk_R.same rfl h⟩) (h.2.2.2.2.2.2.2.2.2.2.2.2.2.2.2.2.2.2.2.2.2.2.2.2.2.2.1), (fun h => h) (h.2.2.2.2.2.2.2.2.2.2.2.2.2.2.2.2.2.2.2.2.2.2.2.2.2.2.2.1), (va_Nw.same rfl rfl) (h.2.2.2.2.2.2.2.2.2.2.2.2.2.2.2.2.2.2.2.2.2.2.2.2.2.2.2.2.1), (va_Nw.same rfl rfl) (h.2.2.2.2.2.2.2.2.2.2.2.2.2.2.2.2.2.2.2.2.2.2.2.2.2.2.2.2.2.1), (va_Nw.same rfl rfl) (h.2.2.2.2.2.2.2.2.2.2.2.2.2.2.2.2.2.2.2.2.2.2.2.2.2.2.2.2.2.2)⟩
abbrev KK (D : va_G) (ca : Nat → ClassId) (U : State) : Prop := va_K D vwCl (tyG ca) U ∧ NW U
theorem my_P_iff {D : va_G} {cl : List vw_C} {ws : va_W} {H : Heap} : va_P D cl ws H ↔ ∀ x ∈ ws, va_at D cl x H := by
  constructor
  · intro h x hx
    obtain ⟨i, hi⟩ := List.mem_iff_getElem?.mp hx
    exact h i x hi
  · intro h k q hk
    exact h q (List.mem_of_getElem? hk)
theorem my_D_iff {A : Nat → Prop} {ws : va_W} : va_D A ws ↔ (ws.map (fun x => x.1)).Nodup ∧ ∀ x ∈ ws, A x.1 := by
  constructor
  · rintro ⟨h1, h2⟩
    refine ⟨?_, fun x hx => ?_⟩
    · rw [List.Nodup, List.pairwise_iff_getElem]
      intro i j hi hj hij e
      rw [List.length_map] at hi hj
      rw [List.getElem_map, List.getElem_map] at e
      have := h1 i j ws[i] ws[j] (List.getElem?_eq_getElem hi) (List.getElem?_eq_getElem hj) e
      omega
    · obtain ⟨i, hi⟩ := List.mem_iff_getElem?.mp hx
      exact h2 i x hi
  · rintro ⟨h1, h2⟩
    refine ⟨fun i j p q hp hq e => ?_, fun k q hk => h2 q (List.mem_of_getElem? hk)⟩
    rw [List.Nodup, List.pairwise_iff_getElem] at h1
    obtain ⟨hi, hpi⟩ := List.getElem?_eq_some_iff.mp hp
    obtain ⟨hj, hqj⟩ := List.getElem?_eq_some_iff.mp hq
    rcases Nat.lt_trichotomy i j with h | h | h
    · exact absurd (by rw [List.getElem_map, List.getElem_map, hpi, hqj]; exact e) (h1 i j (by rw [List.length_map]; exact hi) (by rw [List.length_map]; exact hj) h)
    · exact h
    · exact absurd (by rw [List.getElem_map, List.getElem_map, hpi, hqj]; exact e.symm) (h1 j i (by rw [List.length_map]; exact hj) (by rw [List.length_map]; exact hi) h)
theorem my_A_iff {ws : va_W} {sz q : Nat} : va_A ws sz q ↔ q ∈ ws.map (fun x => x.1) ∨ sz ≤ q := by
  constructor
  · rintro (⟨k, e, h⟩ | h)
    · exact Or.inl (List.mem_map.mpr ⟨_, List.mem_of_getElem? h, rfl⟩)
    · exact Or.inr h
  · rintro (h | h)
    · obtain ⟨⟨a, e⟩, hx, rfl⟩ := List.mem_map.mp h
      obtain ⟨i, hi⟩ := List.mem_iff_getElem?.mp hx
      exact Or.inl ⟨i, e, hi⟩
    · exact Or.inr h
theorem my_P_perm {D : va_G} {cl : List vw_C} {ws ws' : va_W} {H : Heap} (h : va_P D cl ws H) (hp : ws.Perm ws') : va_P D cl ws' H := my_P_iff.mpr fun x hx => my_P_iff.mp h x (hp.mem_iff.mpr hx)
theorem my_D_perm {A : Nat → Prop} {ws ws' : va_W} (h : va_D A ws) (hp : ws.Perm ws') : va_D A ws' := by
  obtain ⟨h1, h2⟩ := my_D_iff.mp h
  exact my_D_iff.mpr ⟨(hp.map _).nodup_iff.mp h1, fun x hx => h2 x (hp.mem_iff.mpr hx)⟩
theorem my_P_left {D : va_G} {cl : List vw_C} {a b : va_W} {H : Heap} (h : va_P D cl (a ++ b) H) : va_P D cl a H := my_P_iff.mpr fun x hx => my_P_iff.mp h x (List.mem_append_left _ hx)
theorem my_P_right {D : va_G} {cl : List vw_C} {a b : va_W} {H : Heap} (h : va_P D cl (a ++ b) H) : va_P D cl b H := my_P_iff.mpr fun x hx => my_P_iff.mp h x (List.mem_append_right _ hx)
theorem my_D_left {A : Nat → Prop} {a b : va_W} (h : va_D A (a ++ b)) : va_D A a := by
  obtain ⟨h1, h2⟩ := my_D_iff.mp h
  rw [List.map_append] at h1
  exact my_D_iff.mpr ⟨(List.nodup_append.mp h1).1, fun x hx => h2 x (List.mem_append_left _ hx)⟩
theorem my_D_right {A : Nat → Prop} {a b : va_W} (h : va_D A (a ++ b)) : va_D A b := by
  obtain ⟨h1, h2⟩ := my_D_iff.mp h
  rw [List.map_append] at h1
  exact my_D_iff.mpr ⟨(List.nodup_append.mp h1).2.1, fun x hx => h2 x (List.mem_append_right _ hx)⟩
theorem my_D_true {A : Nat → Prop} {ws : va_W} (h : va_D A ws) : va_D (fun _ => True) ws := h.weaken (fun _ _ _ _ => trivial)
theorem my_D_pw {A : Nat → Prop} {ws : va_W} : va_D A ws ↔ ws.Pairwise (fun x y => x.1 ≠ y.1) ∧ ∀ x ∈ ws, A x.1 := by
  rw [my_D_iff, List.Nodup, List.pairwise_map]
theorem my_pw_sub {α : Type} {R : α → α → Prop} (hR : ∀ x y, R x y → R y x) {bs bs' : List α} (h : bs.Pairwise R) (is : List Nat) (hn : va_nd is = true) (hs : is.map (fun i => bs[i]?) = bs'.map some) : bs'.Pairwise R := by
  rw [List.pairwise_iff_getElem] at h ⊢
  have hl : is.length = bs'.length := by have := congrArg List.length hs; simpa using this
  have key : ∀ (i : Nat) (hi : i < bs'.length), ∃ k, is[i]? = some k ∧ bs[k]? = some bs'[i] := by
    intro i hi
    have h1 := congrArg (fun l => l[i]?) hs
    simp only [List.getElem?_map, List.getElem?_eq_getElem hi, Option.map_some] at h1
    rw [List.getElem?_eq_getElem (by omega)] at h1
    simp only [Option.map_some, Option.some.injEq] at h1
    exact ⟨is[i], List.getElem?_eq_getElem (by omega), h1⟩
  intro i j hi hj hij
  obtain ⟨a, ha, hba⟩ := key i hi
  obtain ⟨b, hb, hbb⟩ := key j hj
  obtain ⟨hal, hae⟩ := List.getElem?_eq_some_iff.mp hba
  obtain ⟨hbl, hbe⟩ := List.getElem?_eq_some_iff.mp hbb
  rcases Nat.lt_trichotomy a b with q | q | q
  · rw [← hae, ← hbe]; exact h a b hal hbl q
  · subst q; exact absurd (va_nd_inj is hn i j a ha hb) (by omega)
  · rw [← hae, ← hbe]; exact hR _ _ (h b a hbl hal q)
theorem my_P_subB {D : va_G} {cl : List vw_C} {bs bs' : List va_W} {H : Heap} (h : va_P D cl bs.flatten H) (is : List Nat) (hs : is.map (fun i => bs[i]?) = bs'.map some) : va_P D cl bs'.flatten H := by
  refine my_P_iff.mpr fun x hx => my_P_iff.mp h x ?_
  obtain ⟨b, hb, hxb⟩ := List.mem_flatten.mp hx
  have h1 : some b ∈ is.map (fun i => bs[i]?) := by rw [hs]; exact List.mem_map.mpr ⟨b, hb, rfl⟩
  obtain ⟨i, -, hi⟩ := List.mem_map.mp h1
  exact List.mem_flatten.mpr ⟨b, List.mem_of_getElem? hi, hxb⟩
theorem my_D_subB {A : Nat → Prop} {bs bs' : List va_W} (h : va_D A bs.flatten) (is : List Nat) (hn : va_nd is = true) (hs : is.map (fun i => bs[i]?) = bs'.map some) : va_D A bs'.flatten := by
  obtain ⟨h1, h2⟩ := my_D_pw.mp h
  have hm : ∀ b ∈ bs', b ∈ bs := by
    intro b hb
    have h1 : some b ∈ is.map (fun i => bs[i]?) := by rw [hs]; exact List.mem_map.mpr ⟨b, hb, rfl⟩
    obtain ⟨i, -, hi⟩ := List.mem_map.mp h1
    exact List.mem_of_getElem? hi
  rw [List.pairwise_flatten] at h1
  refine my_D_pw.mpr ⟨List.pairwise_flatten.mpr ⟨fun b hb => h1.1 b (hm b hb), my_pw_sub (fun x y hxy a ha b hb e => hxy b hb a ha e.symm) h1.2 is hn hs⟩, fun x hx => ?_⟩
  obtain ⟨b, hb, hxb⟩ := List.mem_flatten.mp hx
  exact h2 x (List.mem_flatten.mpr ⟨b, hm b hb, hxb⟩)
/-- the frame rule, cut after cut: what the callee had (wc) and the rest (wr) -/
theorem my_join {A0 : Nat → Prop} {D : va_G} {cl : List vw_C} {wc wr w1 : va_W} {H H1 : Heap} (hP : va_P D cl (wc ++ wr) H) (hD : va_D A0 (wc ++ wr))
    (hk : ∀ q : Nat, q < H.size → ¬ va_A wc H.size q → H1[q]? = H[q]?) (hF : ∀ q, va_A wc H.size q → A0 q) (hP1 : va_P D cl w1 H1) (hD1 : va_D (va_A wc H.size) w1) : va_P D cl (w1 ++ wr) H1 ∧ va_D A0 (w1 ++ wr) := by
  obtain ⟨d1, d2⟩ := my_D_pw.mp hD
  obtain ⟨e1, e2⟩ := my_D_pw.mp hD1
  rw [List.pairwise_append] at d1
  have hlt : ∀ y ∈ wr, y.1 < H.size := fun y hy => (my_P_iff.mp hP y (List.mem_append_right _ hy)).lt
  have hnA : ∀ y ∈ wr, ¬ va_A wc H.size y.1 := by
    intro y hy h
    rcases my_A_iff.mp h with h | h
    · obtain ⟨x, hx, e⟩ := List.mem_map.mp h
      exact d1.2.2 x hx y hy e
    · exact absurd (hlt y hy) (by omega)
  refine ⟨my_P_iff.mpr fun x hx => ?_, my_D_pw.mpr ⟨List.pairwise_append.mpr ⟨e1, d1.2.1, fun x hx y hy e => ?_⟩, fun x hx => ?_⟩⟩
  · rcases List.mem_append.mp hx with h | h
    · exact my_P_iff.mp hP1 x h
    · exact (my_P_iff.mp hP x (List.mem_append_right _ h)).kept (hk _ (hlt x h) (hnA x h))
  · exact hnA y hy (e ▸ e2 x hx)
  · rcases List.mem_append.mp hx with h | h
    · exact hF _ (e2 x h)
    · exact d2 x (List.mem_append_right _ h)
theorem my_free {A0 : Nat → Prop} {wc wr : va_W} {H0 H : Heap} {locs : List Loc} (hD : va_D A0 (wc ++ wr)) (hS : va_S A0 H0 H locs) (hA : ∀ q, H0.size ≤ q → A0 q) : ∀ q, va_A wc H.size q → A0 q := by
  intro q h
  rcases my_A_iff.mp h with h | h
  · obtain ⟨x, hx, rfl⟩ := List.mem_map.mp h
    exact (my_D_iff.mp hD).2 x (List.mem_append_left _ hx)
  · exact hA q (Nat.le_trans hS.1 h)
/-- an array's cell by another function that is the same inside -/
theorem my_cell_alt {cA : ClassId} {n : Nat} {f f2 : Nat → Int32} (h : ∀ j, j < n → f j = f2 j) : vp_cell cA (n, .inl f) = vp_cell cA (n, .inl f2) := by
  have e : (fun j : Fin n => Value.int (f j.val)) = (fun j : Fin n => Value.int (f2 j.val)) := funext fun j => by rw [h j.val j.isLt]
  show ({ cls := cA, slots := Array.ofFn (n := n) (fun j => Value.int (f j.val)), vm := .none } : Cell) = { cls := cA, slots := Array.ofFn (n := n) (fun j => Value.int (f2 j.val)), vm := .none }
  rw [e]
theorem my_P_alt {D : va_G} {cl : List vw_C} {ws : va_W} {H : Heap} {f2 : Nat → Int32} (h : va_P D cl ws H) (q0 : Nat) {a : Nat} {cA : ClassId} {n : Nat} {f : Nat → Int32} (ha : ws[q0]? = some (a, .inl (cA, n, .inl f))) (hf : ∀ j, j < n → f j = f2 j) : va_P D cl (ws.set q0 (a, .inl (cA, n, .inl f2))) H := by
  intro k q hq
  rw [List.getElem?_set] at hq
  split at hq
  · rename_i hk
    split at hq
    · cases hq
      have h1 := h q0 _ ha
      show H[a]? = some (vp_cell cA (n, .inl f2))
      rw [← my_cell_alt hf]
      exact h1
    · cases hq
  · exact h k q hq
theorem my_D_alt {A : Nat → Prop} {ws : va_W} {f2 : Nat → Int32} (h : va_D A ws) (q0 : Nat) {a : Nat} {cA : ClassId} {n : Nat} {f : Nat → Int32} (ha : ws[q0]? = some (a, .inl (cA, n, .inl f))) : va_D A (ws.set q0 (a, .inl (cA, n, .inl f2))) := h.set ha
/-! starts of contracts: what reads, what writes -/
abbrev pcR (D : va_G) (ca : Nat → ClassId) (av : List Value) (wc : va_W) : Array Value → State → Prop := va_Pc av (fun U => va_P D vwCl wc U.heap ∧ KK D ca U)
abbrev pcM (D : va_G) (ca : Nat → ClassId) (av : List Value) (wc : va_W) (sz : Nat) : Array Value → State → Prop := va_Pc av (fun U => U.heap.size = sz ∧ va_P D vwCl wc U.heap ∧ KK D ca U ∧ va_D (fun _ => True) wc)
abbrev pcN (av : List Value) : Array Value → State → Prop := va_Pc av (fun _ => True)
abbrev qB (D : va_G) {S : Type} (A : Nat → Prop) (wo : S → va_W) : S → State → Prop := fun u t => va_P D vwCl (wo u) t.heap ∧ va_D A (wo u)
theorem KK.call {D : va_G} {ca : Nat → ClassId} {U : State} {g : JFrame} {mk : MethodId} {a : Array Value} (h : KK D ca U) : KK D ca (U.calling g mk a) := ⟨va_K.moved (u := U) (U := U.calling g mk a) (Vm.Alike.refl U.vm) h.1, h.2.call⟩
theorem KK.warm {D : va_G} {ca : Nat → ClassId} {s U : State} (hW : s.WarmedH U.vm) (h : KK D ca s) : KK D ca U := ⟨va_K.moved hW.alike h.1, h.2.warm hW⟩
theorem pvR {D : va_G} {ca : Nat → ClassId} {s : State} {H : Heap} {C : String} {b : Nat} {As : List Value} {wc : va_W} (hK : KK D ca s) (hP : va_P D vwCl wc H) (hr : ∃ cell : Cell, H[b]? = some cell ∧ cell.vm.isStatics = false ∧ s.vm.findClass C = some cell.cls) : PreV s H C b (pcR D ca (.ref b :: As) wc) As :=
  ⟨fun a U g mk q => by obtain ⟨q0, qP, qK⟩ := q; exact ⟨q0, qP, qK.call⟩, hr, fun U hU hW => ⟨rfl, by rw [hU]; exact hP, hK.warm hW⟩⟩
theorem psR {D : va_G} {ca : Nat → ClassId} {s : State} {H : Heap} {As : List Value} {wc : va_W} (hK : KK D ca s) (hP : va_P D vwCl wc H) : PreS s H (pcR D ca As wc) As :=
  ⟨fun a U g mk q => by obtain ⟨q0, qP, qK⟩ := q; exact ⟨q0, qP, qK.call⟩, fun U hU hW => ⟨rfl, by rw [hU]; exact hP, hK.warm hW⟩⟩
theorem psN {s : State} {H : Heap} {As : List Value} : PreS s H (pcN As) As := ⟨fun _ _ _ _ q => ⟨q.1, trivial⟩, fun _ _ _ => ⟨rfl, trivial⟩⟩
theorem pvN {s : State} {H : Heap} {C : String} {b : Nat} {As : List Value} (hr : ∃ cell : Cell, H[b]? = some cell ∧ cell.vm.isStatics = false ∧ s.vm.findClass C = some cell.cls) : PreV s H C b (pcN (.ref b :: As)) As := ⟨fun _ _ _ _ q => ⟨q.1, trivial⟩, hr, fun _ _ _ => ⟨rfl, trivial⟩⟩
theorem pvM {D : va_G} {ca : Nat → ClassId} {s : State} {H : Heap} {C : String} {b : Nat} {As : List Value} {wc : va_W} (hK : KK D ca s) (hP : va_P D vwCl wc H) (hD : va_D (fun _ => True) wc) (hr : ∃ cell : Cell, H[b]? = some cell ∧ cell.vm.isStatics = false ∧ s.vm.findClass C = some cell.cls) : PreV s H C b (pcM D ca (.ref b :: As) wc H.size) As :=
  ⟨fun a U g mk q => by obtain ⟨q0, q1, qP, qK, qD⟩ := q; exact ⟨q0, q1, qP, qK.call, qD⟩, hr, fun U hU hW => ⟨rfl, by rw [hU], by rw [hU]; exact hP, hK.warm hW, hD⟩⟩
theorem psM {D : va_G} {ca : Nat → ClassId} {s : State} {H : Heap} {As : List Value} {wc : va_W} (hK : KK D ca s) (hP : va_P D vwCl wc H) (hD : va_D (fun _ => True) wc) : PreS s H (pcM D ca As wc H.size) As :=
  ⟨fun a U g mk q => by obtain ⟨q0, q1, qP, qK, qD⟩ := q; exact ⟨q0, q1, qP, qK.call, qD⟩, fun U hU hW => ⟨rfl, by rw [hU], by rw [hU]; exact hP, hK.warm hW, hD⟩⟩
/-- words of a call, its bytes and its room -/
theorem kk_le {a b : Nat} (h : Nat.ble a b = true) : a ≤ b := Nat.le_of_ble_eq_true h
/-! numbers -/
def bI (b : Bool) : Int32 := if b then 1 else 0
theorem bI_t : bI true = 1 := rfl
theorem bI_f : bI false = 0 := rfl
theorem bI_0 {b : Bool} : bI b = 0 ↔ b = false := by cases b <;> decide
theorem bI_n0 {b : Bool} : ¬ bI b = 0 ↔ b = true := by cases b <;> decide
theorem bI_nar (b : Bool) : narrow .boolean (.int (bI b)) = .int (bI b) := by cases b <;> rfl
theorem bI_fit (b : Bool) : fits .boolean (.int (bI b)) = true := by cases b <;> rfl
theorem ni_lt31 {a : Nat} (h : a < 2147483648) : a < 2 ^ 31 := h
theorem ni_inc (a n : Nat) (h : Int32.ofInt n = nI n) : nI a + Int32.ofInt n = nI (a + n) := by rw [h, nI_add]
theorem ni_dec (a : Nat) (h : 1 ≤ a) : nI a + Int32.ofInt (-1) = nI (a - 1) := by
  obtain ⟨b, rfl⟩ : ∃ b, a = b + 1 := ⟨a - 1, by omega⟩
  rw [show Int32.ofInt (-1) = (-1 : Int32) from by decide, Nat.add_sub_cancel]
  exact pk_m1 b
theorem ni_lt {a b : Nat} (ha : a < 2147483648) (hb : b < 2147483648) : nI a < nI b ↔ a < b := nI_ltI ha hb
theorem ni_le {a b : Nat} (ha : a < 2147483648) (hb : b < 2147483648) : nI a ≤ nI b ↔ a ≤ b := nI_leI ha hb
theorem ni_eq {a b : Nat} (ha : a < 2147483648) (hb : b < 2147483648) : nI a = nI b ↔ a = b := nI_eq ha hb
theorem ni_of {x : Int32} {n : Nat} (h0 : ¬ x < 0) (h : ¬ nI n ≤ x) (hn : n < 2147483648) : ∃ j : Nat, j < n ∧ x = nI j := by
  rcases pk_ix x hn with h1 | h1 | h1
  · exact absurd h1 h0
  · exact absurd h1 h
  · exact h1
theorem ni_min {a b : Nat} (ha : a < 2147483648) (hb : b < 2147483648) : (if nI b < nI a then nI b else nI a) = nI (min a b) := by
  by_cases h : b < a
  · rw [if_pos ((ni_lt hb ha).mpr h), Nat.min_eq_right (by omega)]
  · rw [if_neg (fun q => h ((ni_lt hb ha).mp q)), Nat.min_eq_left (by omega)]
theorem ni_max {a b : Nat} (ha : a < 2147483648) (hb : b < 2147483648) : (if nI a < nI b then nI b else nI a) = nI (max a b) := by
  by_cases h : a < b
  · rw [if_pos ((ni_lt ha hb).mpr h), Nat.max_eq_right (by omega)]
  · rw [if_neg (fun q => h ((ni_lt ha hb).mp q)), Nat.max_eq_left (by omega)]
section
variable {p : Program} {l : Launch} {e : Env} {R : Room} {s : State} {m : MethodId} {args : Array Value} {below : List Frame} {meth : Method} {c : Code} {H : Heap} {locs : List Loc} {cells slots : Nat} {Q : State → Prop} {pc : Nat} {ls : Array Slot} {rest : List Value} {cc : ByteArray}
theorem ni_iadd {a b : Nat} (hx : p.tables.exec = Jvm.exec) (hb : c.code = cc) (hd : decode cc pc = .ok (.iadd, 1)) (k : W p l e R s m args below meth c H locs cells slots Q (F0 m (pc + 1) ls (.int (nI (a + b)) :: rest))) : W p l e R s m args below meth c H locs cells slots Q (F0 m pc ls (.int (nI b) :: .int (nI a) :: rest)) := lv_iadd hx hb hd (by rw [nI_add]; exact k)
theorem ni_isub {a b : Nat} (h : b ≤ a) (hx : p.tables.exec = Jvm.exec) (hb : c.code = cc) (hd : decode cc pc = .ok (.isub, 1)) (k : W p l e R s m args below meth c H locs cells slots Q (F0 m (pc + 1) ls (.int (nI (a - b)) :: rest))) : W p l e R s m args below meth c H locs cells slots Q (F0 m pc ls (.int (nI b) :: .int (nI a) :: rest)) := lv_isub hx hb hd (by rw [pk_sub h]; exact k)
theorem ni_imul {a b : Nat} (hx : p.tables.exec = Jvm.exec) (hb : c.code = cc) (hd : decode cc pc = .ok (.imul, 1)) (k : W p l e R s m args below meth c H locs cells slots Q (F0 m (pc + 1) ls (.int (nI (a * b)) :: rest))) : W p l e R s m args below meth c H locs cells slots Q (F0 m pc ls (.int (nI b) :: .int (nI a) :: rest)) := lv_imul hx hb hd (by rw [pk_mul]; exact k)
theorem ni_idiv {a b : Nat} (h1 : 0 < b) (h2 : a < 2147483648) (h3 : b < 2147483648) (hx : p.tables.exec = Jvm.exec) (hb : c.code = cc) (hd : decode cc pc = .ok (.idiv, 1)) (k : W p l e R s m args below meth c H locs cells slots Q (F0 m (pc + 1) ls (.int (nI (a / b)) :: rest))) : W p l e R s m args below meth c H locs cells slots Q (F0 m pc ls (.int (nI b) :: .int (nI a) :: rest)) := lv_idiv hx hb hd (nI_ne0 h1 h3) (by rw [pk_div h2 h1 h3]; exact k)
theorem ni_irem {a b : Nat} (h1 : 0 < b) (h2 : a < 2147483648) (h3 : b < 2147483648) (hx : p.tables.exec = Jvm.exec) (hb : c.code = cc) (hd : decode cc pc = .ok (.irem, 1)) (k : W p l e R s m args below meth c H locs cells slots Q (F0 m (pc + 1) ls (.int (nI (a % b)) :: rest))) : W p l e R s m args below meth c H locs cells slots Q (F0 m pc ls (.int (nI b) :: .int (nI a) :: rest)) := lv_irem hx hb hd (nI_ne0 h1 h3) (by rw [pk_rem h2 h1 h3]; exact k)
theorem ni_icmp_eq {a b : Nat} {off : Int} {tgt : Nat} (h1 : a < 2147483648) (h2 : b < 2147483648) (hx : p.tables.exec = Jvm.exec) (hb : c.code = cc) (hd : decode cc pc = .ok (.if_icmp .eq off, 3)) (ht : (pc : Int) + off = (tgt : Int)) (kt : a = b → W p l e R s m args below meth c H locs cells slots Q (F0 m tgt ls rest)) (kf : ¬ a = b → W p l e R s m args below meth c H locs cells slots Q (F0 m (pc + 3) ls rest)) : W p l e R s m args below meth c H locs cells slots Q (F0 m pc ls (.int (nI b) :: .int (nI a) :: rest)) := lv_icmp_eq hx hb hd ht (fun h => kt ((ni_eq h1 h2).mp h)) (fun h => kf (fun q => h ((ni_eq h1 h2).mpr q)))
theorem ni_icmp_ne {a b : Nat} {off : Int} {tgt : Nat} (h1 : a < 2147483648) (h2 : b < 2147483648) (hx : p.tables.exec = Jvm.exec) (hb : c.code = cc) (hd : decode cc pc = .ok (.if_icmp .ne off, 3)) (ht : (pc : Int) + off = (tgt : Int)) (kt : ¬ a = b → W p l e R s m args below meth c H locs cells slots Q (F0 m tgt ls rest)) (kf : a = b → W p l e R s m args below meth c H locs cells slots Q (F0 m (pc + 3) ls rest)) : W p l e R s m args below meth c H locs cells slots Q (F0 m pc ls (.int (nI b) :: .int (nI a) :: rest)) := lv_icmp_ne hx hb hd ht (fun h => kt (fun q => h ((ni_eq h1 h2).mpr q))) (fun h => kf ((ni_eq h1 h2).mp h))
theorem ni_icmp_lt {a b : Nat} {off : Int} {tgt : Nat} (h1 : a < 2147483648) (h2 : b < 2147483648) (hx : p.tables.exec = Jvm.exec) (hb : c.code = cc) (hd : decode cc pc = .ok (.if_icmp .lt off, 3)) (ht : (pc : Int) + off = (tgt : Int)) (kt : a < b → W p l e R s m args below meth c H locs cells slots Q (F0 m tgt ls rest)) (kf : b ≤ a → W p l e R s m args below meth c H locs cells slots Q (F0 m (pc + 3) ls rest)) : W p l e R s m args below meth c H locs cells slots Q (F0 m pc ls (.int (nI b) :: .int (nI a) :: rest)) := lv_icmp_lt hx hb hd ht (fun h => kt ((ni_lt h1 h2).mp h)) (fun h => kf (Nat.le_of_not_lt (fun q => h ((ni_lt h1 h2).mpr q))))
theorem ni_icmp_ge {a b : Nat} {off : Int} {tgt : Nat} (h1 : a < 2147483648) (h2 : b < 2147483648) (hx : p.tables.exec = Jvm.exec) (hb : c.code = cc) (hd : decode cc pc = .ok (.if_icmp .ge off, 3)) (ht : (pc : Int) + off = (tgt : Int)) (kt : b ≤ a → W p l e R s m args below meth c H locs cells slots Q (F0 m tgt ls rest)) (kf : a < b → W p l e R s m args below meth c H locs cells slots Q (F0 m (pc + 3) ls rest)) : W p l e R s m args below meth c H locs cells slots Q (F0 m pc ls (.int (nI b) :: .int (nI a) :: rest)) := lv_icmp_ge hx hb hd ht (fun h => kt ((ni_le h2 h1).mp h)) (fun h => kf (Nat.lt_of_not_le (fun q => h ((ni_le h2 h1).mpr q))))
theorem ni_icmp_gt {a b : Nat} {off : Int} {tgt : Nat} (h1 : a < 2147483648) (h2 : b < 2147483648) (hx : p.tables.exec = Jvm.exec) (hb : c.code = cc) (hd : decode cc pc = .ok (.if_icmp .gt off, 3)) (ht : (pc : Int) + off = (tgt : Int)) (kt : b < a → W p l e R s m args below meth c H locs cells slots Q (F0 m tgt ls rest)) (kf : a ≤ b → W p l e R s m args below meth c H locs cells slots Q (F0 m (pc + 3) ls rest)) : W p l e R s m args below meth c H locs cells slots Q (F0 m pc ls (.int (nI b) :: .int (nI a) :: rest)) := lv_icmp_gt hx hb hd ht (fun h => kt ((ni_lt h2 h1).mp h)) (fun h => kf (Nat.le_of_not_lt (fun q => h ((ni_lt h2 h1).mpr q))))
theorem ni_icmp_le {a b : Nat} {off : Int} {tgt : Nat} (h1 : a < 2147483648) (h2 : b < 2147483648) (hx : p.tables.exec = Jvm.exec) (hb : c.code = cc) (hd : decode cc pc = .ok (.if_icmp .le off, 3)) (ht : (pc : Int) + off = (tgt : Int)) (kt : a ≤ b → W p l e R s m args below meth c H locs cells slots Q (F0 m tgt ls rest)) (kf : b < a → W p l e R s m args below meth c H locs cells slots Q (F0 m (pc + 3) ls rest)) : W p l e R s m args below meth c H locs cells slots Q (F0 m pc ls (.int (nI b) :: .int (nI a) :: rest)) := lv_icmp_le hx hb hd ht (fun h => kt ((ni_le h1 h2).mp h)) (fun h => kf (Nat.lt_of_not_le (fun q => h ((ni_le h1 h2).mpr q))))
theorem ni_if_eq {a : Nat} {off : Int} {tgt : Nat} (h1 : a < 2147483648) (hx : p.tables.exec = Jvm.exec) (hb : c.code = cc) (hd : decode cc pc = .ok (.ifCond .eq off, 3)) (ht : (pc : Int) + off = (tgt : Int)) (kt : a = 0 → W p l e R s m args below meth c H locs cells slots Q (F0 m tgt ls rest)) (kf : 0 < a → W p l e R s m args below meth c H locs cells slots Q (F0 m (pc + 3) ls rest)) : W p l e R s m args below meth c H locs cells slots Q (F0 m pc ls (.int (nI a) :: rest)) := lv_if_eq hx hb hd ht (fun h => kt (by have := (ni_eq h1 (by decide : 0 < 2147483648)).mp h; omega)) (fun h => kf (Nat.pos_of_ne_zero (fun q => h (by subst q; rfl))))
theorem ni_if_ne {a : Nat} {off : Int} {tgt : Nat} (h1 : a < 2147483648) (hx : p.tables.exec = Jvm.exec) (hb : c.code = cc) (hd : decode cc pc = .ok (.ifCond .ne off, 3)) (ht : (pc : Int) + off = (tgt : Int)) (kt : 0 < a → W p l e R s m args below meth c H locs cells slots Q (F0 m tgt ls rest)) (kf : a = 0 → W p l e R s m args below meth c H locs cells slots Q (F0 m (pc + 3) ls rest)) : W p l e R s m args below meth c H locs cells slots Q (F0 m pc ls (.int (nI a) :: rest)) := lv_if_ne hx hb hd ht (fun h => kt (Nat.pos_of_ne_zero (fun q => h (by subst q; rfl)))) (fun h => kf (by have := (ni_eq h1 (by decide : 0 < 2147483648)).mp h; omega))
theorem ni_if_lt {a : Nat} {off : Int} {tgt : Nat} (h1 : a < 2147483648) (hx : p.tables.exec = Jvm.exec) (hb : c.code = cc) (hd : decode cc pc = .ok (.ifCond .lt off, 3)) (ht : (pc : Int) + off = (tgt : Int)) (kt : False → W p l e R s m args below meth c H locs cells slots Q (F0 m tgt ls rest)) (kf : 0 ≤ a → W p l e R s m args below meth c H locs cells slots Q (F0 m (pc + 3) ls rest)) : W p l e R s m args below meth c H locs cells slots Q (F0 m pc ls (.int (nI a) :: rest)) := lv_if_lt hx hb hd ht (fun h => kt (nI_pos h1 h)) (fun h => kf (Nat.zero_le _))
theorem ni_if_ge {a : Nat} {off : Int} {tgt : Nat} (h1 : a < 2147483648) (hx : p.tables.exec = Jvm.exec) (hb : c.code = cc) (hd : decode cc pc = .ok (.ifCond .ge off, 3)) (ht : (pc : Int) + off = (tgt : Int)) (kt : 0 ≤ a → W p l e R s m args below meth c H locs cells slots Q (F0 m tgt ls rest)) (kf : False → W p l e R s m args below meth c H locs cells slots Q (F0 m (pc + 3) ls rest)) : W p l e R s m args below meth c H locs cells slots Q (F0 m pc ls (.int (nI a) :: rest)) := lv_if_ge hx hb hd ht (fun h => kt (Nat.zero_le _)) (fun h => kf (h (nI_pos' h1)))
theorem ni_if_gt {a : Nat} {off : Int} {tgt : Nat} (h1 : a < 2147483648) (hx : p.tables.exec = Jvm.exec) (hb : c.code = cc) (hd : decode cc pc = .ok (.ifCond .gt off, 3)) (ht : (pc : Int) + off = (tgt : Int)) (kt : 0 < a → W p l e R s m args below meth c H locs cells slots Q (F0 m tgt ls rest)) (kf : a = 0 → W p l e R s m args below meth c H locs cells slots Q (F0 m (pc + 3) ls rest)) : W p l e R s m args below meth c H locs cells slots Q (F0 m pc ls (.int (nI a) :: rest)) := lv_if_gt hx hb hd ht (fun h => kt ((ni_lt (by decide : 0 < 2147483648) h1).mp h)) (fun h => kf (by rcases Nat.eq_zero_or_pos a with q | q; exact q; exact absurd ((ni_lt (by decide : 0 < 2147483648) h1).mpr q) h))
theorem ni_if_le {a : Nat} {off : Int} {tgt : Nat} (h1 : a < 2147483648) (hx : p.tables.exec = Jvm.exec) (hb : c.code = cc) (hd : decode cc pc = .ok (.ifCond .le off, 3)) (ht : (pc : Int) + off = (tgt : Int)) (kt : a = 0 → W p l e R s m args below meth c H locs cells slots Q (F0 m tgt ls rest)) (kf : 0 < a → W p l e R s m args below meth c H locs cells slots Q (F0 m (pc + 3) ls rest)) : W p l e R s m args below meth c H locs cells slots Q (F0 m pc ls (.int (nI a) :: rest)) := lv_if_le hx hb hd ht (fun h => kt (Nat.le_zero.mp ((ni_le h1 (by decide : 0 < 2147483648)).mp h))) (fun h => kf (Nat.lt_of_not_le (fun q => h ((ni_le h1 (by decide : 0 < 2147483648)).mpr q))))
theorem bi_if_eq {b : Bool} {off : Int} {tgt : Nat} (hx : p.tables.exec = Jvm.exec) (hb : c.code = cc) (hd : decode cc pc = .ok (.ifCond .eq off, 3)) (ht : (pc : Int) + off = (tgt : Int)) (kt : b = false → W p l e R s m args below meth c H locs cells slots Q (F0 m tgt ls rest)) (kf : b = true → W p l e R s m args below meth c H locs cells slots Q (F0 m (pc + 3) ls rest)) : W p l e R s m args below meth c H locs cells slots Q (F0 m pc ls (.int (bI b) :: rest)) := lv_if_eq hx hb hd ht (fun h => kt (bI_0.mp h)) (fun h => kf (bI_n0.mp h))
theorem bi_if_ne {b : Bool} {off : Int} {tgt : Nat} (hx : p.tables.exec = Jvm.exec) (hb : c.code = cc) (hd : decode cc pc = .ok (.ifCond .ne off, 3)) (ht : (pc : Int) + off = (tgt : Int)) (kt : b = true → W p l e R s m args below meth c H locs cells slots Q (F0 m tgt ls rest)) (kf : b = false → W p l e R s m args below meth c H locs cells slots Q (F0 m (pc + 3) ls rest)) : W p l e R s m args below meth c H locs cells slots Q (F0 m pc ls (.int (bI b) :: rest)) := lv_if_ne hx hb hd ht (fun h => kt (bI_n0.mp h)) (fun h => kf (bI_0.mp h))
theorem my_iald {D : va_G} {ca : Nat → ClassId} {ws : va_W} {a n i : Nat} {f : Nat → Int32} (hx : p.tables.exec = Jvm.exec) (hb : c.code = cc) (hK : KK D ca s) (hP : va_P D vwCl ws H) (q0 : Nat) (ha : ws[q0]? = some (a, .inl (ca 0, n, .inl f))) (hi : i < n) (hn : n < 2147483648) (hd : decode cc pc = .ok (.iaload, 1)) (k : W p l e R s m args below meth c H locs cells slots Q (F0 m (pc + 1) ls (.int (f i) :: rest))) : W p l e R s m args below meth c H locs cells slots Q (F0 m pc ls (.int (nI i) :: .ref a :: rest)) := va_iald hx hb hK.1 hP q0 0 ha rfl (vp_in_nI hi hn) hd (by rw [nI_clamp (Nat.lt_trans hi hn)]; exact k)
theorem my_aldq {D : va_G} {ca : Nat → ClassId} {ws : va_W} {a n i : Nat} {f : Nat → Option Nat} (hx : p.tables.exec = Jvm.exec) (hb : c.code = cc) (hK : KK D ca s) (hP : va_P D vwCl ws H) (q0 : Nat) (ha : ws[q0]? = some (a, .inl (ca 2, n, .inr (.inr (.inr (.inr f)))))) (hi : i < n) (hn : n < 2147483648) (hd : decode cc pc = .ok (.aaload, 1)) (k : W p l e R s m args below meth c H locs cells slots Q (F0 m (pc + 1) ls (va_rf (f i) :: rest))) : W p l e R s m args below meth c H locs cells slots Q (F0 m pc ls (.int (nI i) :: .ref a :: rest)) := va_aldq hx hb hK.1 hP q0 2 ha rfl (vp_in_nI hi hn) hd (by rw [nI_clamp (Nat.lt_trans hi hn)]; exact k)
theorem my_iast {D : va_G} {ca : Nat → ClassId} {ws : va_W} {a n i : Nat} {f : Nat → Int32} {v : Int32} {A : Nat → Prop} {H0 : Heap} (hx : p.tables.exec = Jvm.exec) (hb : c.code = cc) (hK : KK D ca s) (hP : va_P D vwCl ws H) (hD : va_D A ws) (hS : va_S A H0 H locs) (q0 : Nat) (ha : ws[q0]? = some (a, .inl (ca 0, n, .inl f))) (hi : i < n) (hn : n < 2147483648) (hd : decode cc pc = .ok (.iastore, 1)) (k : ∀ (H1 : Heap) (locs1 : List Loc), va_P D vwCl (ws.set q0 (a, .inl (ca 0, n, .inl (upd f i v)))) H1 → va_D A (ws.set q0 (a, .inl (ca 0, n, .inl (upd f i v)))) → va_S A H0 H1 locs1 → W p l e R s m args below meth c H1 locs1 cells slots Q (F0 m (pc + 1) ls rest)) : W p l e R s m args below meth c H locs cells slots Q (F0 m pc ls (.int v :: .int (nI i) :: .ref a :: rest)) := va_iast hx hb hK.1 hP hD hS q0 0 ha rfl (vp_in_nI hi hn) hd (by rw [nI_clamp (Nat.lt_trans hi hn)]; exact k)
end
