theorem rm_c {n : Nat} (h : n ≤ 601024) : n ≤ room_1.cells := h
theorem rm_s {n : Nat} (h : n ≤ 7293034) : n ≤ room_1.slots := h
def RelL (i : Nat) (g : CG) (h : MG) : Prop := abC g = abM h ∧ okCg g ∧ okM h ∧ ivZ (56000 + 333 * (i : Int)) (abC g)
theorem rel_z {i : Nat} {g : CG} {h : MG} (hr : RelL i g h) : g.1.1 ≤ 30 := hr.2.2.2.1.1
theorem rel_zm {i : Nat} {g : CG} {h : MG} (hr : RelL i g h) : h.1.1 ≤ 30 := by
  have q := hr.2.2.2
  rw [hr.1] at q; exact q.1.1
theorem rel_p {i : Nat} {g : CG} {h : MG} (hr : RelL i g h) : ∀ x ∈ (abM h).1.2.2.2.2.1, ¬ x < nI 1 := by
  have q := hr.2.2.2
  rw [hr.1] at q; exact q.1.2.2.2.1
theorem rel_next {R : SG → RT} {i : Nat} {g g' : CG} {h h' : MG} (hr : RelL i g h) (hs : stepOK R) (hi : i + 3 ≤ 1536) (e1 : (R (abC g)).2.2 = abC g') (e2 : okCg g') (e3 : (R (abM h)).2.2 = abM h') (e4 : okM h') : RelL (i + 3) g' h' := by
  obtain ⟨r1, r2, r3, r4⟩ := hr
  have q := hs _ _ (by omega) (by omega) r4
  rw [e1] at q
  rw [r1, e3] at e1
  refine ⟨e1.symm, e2, e4, ?_⟩
  rw [show (56000 + 333 * ((i + 3 : Nat) : Int)) = 56000 + 333 * (i : Int) + 999 by omega]
  exact q
theorem rel_idle {i : Nat} {g : CG} {h : MG} (hr : RelL i g h) : RelL (i + 3) g h := ⟨hr.1, hr.2.1, hr.2.2.1, ivZ_mono (by omega) hr.2.2.2⟩
theorem rel_same {i : Nat} {g g' : CG} {h h' : MG} (hr : RelL i g h) (e1 : abC g' = abC g) (e2 : okCg g') (e3 : abM h' = abM h) (e4 : okM h') : RelL (i + 3) g' h' := by
  obtain ⟨r1, r2, r3, r4⟩ := rel_idle hr
  exact ⟨by rw [e1, e3]; exact r1, e2, e4, by rw [e1]; exact r4⟩
theorem vs_cmp {B : Int} {s : SG} (h : ivZ B s) : FP.dcmp (V_shortShare s) (V_shortShare s) = some Ordering.eq := by
  obtain ⟨⟨z, r, f, j, T, L⟩, Hs, s0, s1, b⟩ := s
  exact sh_cmp r h.1.2.2.1
theorem pq_1 {α : Type} {a b c : List α} : ((a ++ b) ++ c).Perm (b ++ (a ++ c)) := by
  rw [← List.append_assoc]; exact List.perm_append_comm.append_right c
