/-! how far each is from one -/
theorem isD_pre {nb : Nat → Nat → Prop} {s k a : Nat} (h : isD nb s (k + 1) a) : ∃ c, isD nb s k c ∧ nb c a := by
  obtain ⟨⟨c, h1, h2⟩, h3⟩ := h
  exact ⟨c, ⟨h1, fun j hj q => h3 (j + 1) (by omega) ⟨c, q, h2⟩⟩, h2⟩
theorem RN_isD {nb : Nat → Nat → Prop} {s : Nat} : ∀ {k a : Nat}, RN nb s k a → ∃ j, j ≤ k ∧ isD nb s j a := by
  intro k
  induction k using Nat.strongRecOn with
  | _ k ih =>
    intro a h
    by_cases c : ∃ j, j < k ∧ RN nb s j a
    · obtain ⟨j, h1, h2⟩ := c
      obtain ⟨i, h3, h4⟩ := ih j h1 h2
      exact ⟨i, by omega, h4⟩
    · exact ⟨k, Nat.le_refl _, h, fun j hj q => c ⟨j, hj, q⟩⟩
noncomputable def dsN (nb : Nat → Nat → Prop) (s a : Nat) : Int := @dite Int (∃ k, isD nb s k a) (Classical.propDecidable _) (fun h => ((Classical.choose h : Nat) : Int)) (fun _ => -4)
theorem dsN_T {nb : Nat → Nat → Prop} {s k a : Nat} (h : isD nb s k a) : dsN nb s a = (k : Int) := by
  unfold dsN
  rw [dif_pos ⟨k, h⟩]
  rw [isD_inj (Classical.choose_spec (⟨k, h⟩ : ∃ k, isD nb s k a)) h]
theorem dsN_F {nb : Nat → Nat → Prop} {s a : Nat} (h : ¬ ∃ k, isD nb s k a) : dsN nb s a = -4 := dif_neg h
theorem dsN_k {nb : Nat → Nat → Prop} {s k a : Nat} (h : dsN nb s a = (k : Int)) : isD nb s k a := by
  by_cases c : ∃ k, isD nb s k a
  · obtain ⟨j, hj⟩ := c
    rw [dsN_T hj] at h
    rw [show k = j by omega]; exact hj
  · rw [dsN_F c] at h; omega
theorem dsN_or {nb : Nat → Nat → Prop} {s a : Nat} : dsN nb s a = -4 ∨ ∃ k : Nat, dsN nb s a = (k : Int) := by
  by_cases c : ∃ k, isD nb s k a
  · obtain ⟨j, hj⟩ := c; exact Or.inr ⟨j, dsN_T hj⟩
  · exact Or.inl (dsN_F c)
/-- levels are nodes, each its own -/
theorem isD_lev {nb : Nat → Nat → Prop} {s : Nat} : ∀ {k a : Nat}, isD nb s k a → ∀ j, j ≤ k → ∃ c, isD nb s j c
  | 0, a, h, j, hj => ⟨a, by rw [show j = 0 by omega]; exact h⟩
  | k + 1, a, h, j, hj => by
    by_cases e : j = k + 1
    · exact ⟨a, by rw [e]; exact h⟩
    · obtain ⟨c, h1, _⟩ := isD_pre h
      exact isD_lev h1 j (by omega)
theorem isD_bd {nb : Nat → Nat → Prop} {s N : Nat} (hs : s < N) (hn : ∀ a b, a < N → nb a b → b < N) {k a : Nat} (h : isD nb s k a) : k < N := by
  have hR : ∀ k a, RN nb s k a → a < N := by
    intro k
    induction k with
    | zero => intro a h; rw [show a = s from h]; exact hs
    | succ k ih => intro a h; obtain ⟨c, h1, h2⟩ := h; exact hn c a (ih c h1) h2
  have ex : ∀ j : Nat, ∃ c : Nat, j ≤ k → isD nb s j c := fun j => by
    by_cases e : j ≤ k
    · obtain ⟨c, hc⟩ := isD_lev h j e; exact ⟨c, fun _ => hc⟩
    · exact ⟨0, fun q => absurd q e⟩
  obtain ⟨F, hF⟩ := Classical.axiomOfChoice ex
  have := inj_le (s := F) (n := k + 1) (m := N) (fun i hi => hR i _ (hF i (by omega)).1) (fun i j h1 h2 e => by
    have a1 := hF i (by omega)
    have a2 := hF j (by omega)
    rw [e] at a1
    have := isD_inj a1 a2
    omega)
  omega
theorem isD_up {nb : Nat → Nat → Prop} {s k a b : Nat} (h : isD nb s k a) (hb : nb a b) : ∃ j, j ≤ k + 1 ∧ isD nb s j b := RN_isD (k := k + 1) ⟨a, h.1, hb⟩
