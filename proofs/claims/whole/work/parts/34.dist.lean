/-! how far each is from one -/
theorem isD_pre {nb : Nat → Nat → Prop} {s k a : Nat} (h : isD nb s (k + 1) a) : ∃ c, isD nb s k c ∧ nb c a := by
  obtain ⟨⟨c, h1, h2⟩, h3⟩ := h
  exact ⟨c, ⟨h1, fun j hj q => h3 (j + 1) (by omega) ⟨c, q, h2⟩⟩, h2⟩
theorem RN_isD {nb : Nat → Nat → Prop} {s : Nat} : ∀ {k a : Nat}, RN nb s k a → ∃ j, j ≤ k ∧ isD nb s j a := by
  intro k
  induction k using Nat.strongRecOn with
  | _ k ih =>
    intro a h
    by_cases c : ∃ j, j < k ∧ RN nb s j a
    · obtain ⟨j, h1, h2⟩ := c
      obtain ⟨i, h3, h4⟩ := ih j h1 h2
      exact ⟨i, by omega, h4⟩
    · exact ⟨k, Nat.le_refl _, h, fun j hj q => c ⟨j, hj, q⟩⟩
noncomputable def dsN (nb : Nat → Nat → Prop) (s a : Nat) : Int := @dite Int (∃ k, isD nb s k a) (Classical.propDecidable _) (fun h => ((Classical.choose h : Nat) : Int)) (fun _ => -4)
theorem dsN_T {nb : Nat → Nat → Prop} {s k a : Nat} (h : isD nb s k a) : dsN nb s a = (k : Int) := by
  unfold dsN
  rw [dif_pos ⟨k, h⟩]
  rw [isD_inj (Classical.choose_spec (⟨k, h⟩ : ∃ k, isD nb s k a)) h]
theorem dsN_F {nb : Nat → Nat → Prop} {s a : Nat} (h : ¬ ∃ k, isD nb s k a) : dsN nb s a = -4 := dif_neg h
theorem dsN_k {nb : Nat → Nat → Prop} {s k a : Nat} (h : dsN nb s a = (k : Int)) : isD nb s k a := by
  by_cases c : ∃ k, isD nb s k a
  · obtain ⟨j, hj⟩ := c
    rw [dsN_T hj] at h
    rw [show k = j by omega]; exact hj
  · rw [dsN_F c] at h; omega
theorem dsN_or {nb : Nat → Nat → Prop} {s a : Nat} : dsN nb s a = -4 ∨ ∃ k : Nat, dsN nb s a = (k : Int) := by
  by_cases c : ∃ k, isD nb s k a
  · obtain ⟨j, hj⟩ := c; exact Or.inr ⟨j, dsN_T hj⟩
  · exact Or.inl (dsN_F c)
