/-! the model: measures -/
def nbR (a b : Nat) : Prop := b < 512 ∧ stp1 b a
noncomputable def dsF (e a : Nat) : Int := dsN nbR e a
noncomputable def frN (e n a : Nat) : Int := @ite Int (0 ≤ dsF e a ∧ dsF e a ≤ (n : Int)) (Classical.propDecidable _) (dsF e a) (-4)
theorem dsF_bd {e a : Nat} (he : e < 512) : dsF e a = -4 ∨ (0 ≤ dsF e a ∧ dsF e a ≤ 511) := by
  rcases dsN_or (nb := nbR) (s := e) (a := a) with h | ⟨k, hk⟩
  · exact Or.inl h
  · have := isD_bd he (fun a b _ h => h.1) (dsN_k hk)
    right
    show 0 ≤ dsN nbR e a ∧ dsN nbR e a ≤ 511
    omega
theorem frN_bd {e n a : Nat} (he : e < 512) : -4 ≤ frN e n a ∧ frN e n a ≤ 511 := by
  have := dsF_bd (a := a) he
  unfold frN
  split <;> omega
theorem frN_eq {e n a : Nat} {k : Nat} (hk : k ≤ n) : frN e n a = (k : Int) ↔ dsF e a = (k : Int) := by
  unfold frN
  split <;> omega
theorem stp_lt {a c : Nat} (ha : a < 512) (h : stp1 a c) : c < 512 := by
  obtain ⟨x, h1, h2⟩ := stp_bhN h
  rcases bhN_lt ha h1 with q | q <;> omega
/-- who is seen in the next pass -/
theorem fr_next {e n a : Nat} (ha : a < 512) (h4 : frN e n a = -4) : (frN e (n + 1) a = ((n : Int) + 1) ∧ ∃ c, stp1 a c ∧ dsF e c = (n : Int)) ∨ (frN e (n + 1) a = -4 ∧ ¬ ∃ c, stp1 a c ∧ dsF e c = (n : Int)) := by
  by_cases c : ∃ c, stp1 a c ∧ dsF e c = (n : Int)
  · left
    refine ⟨?_, c⟩
    obtain ⟨c, h1, h2⟩ := c
    obtain ⟨j, h3, h5⟩ := isD_up (b := a) (dsN_k h2) ⟨ha, h1⟩
    have hd : dsF e a = (j : Int) := dsN_T h5
    have hj : j = n + 1 := by
      rcases Nat.lt_or_ge n j with q | q
      · omega
      · have := (frN_eq (e := e) (a := a) q).mpr hd
        omega
    rw [show ((n : Int) + 1) = ((n + 1 : Nat) : Int) from rfl]
    exact (frN_eq (Nat.le_refl _)).mpr (by rw [hd, hj])
  · right
    refine ⟨?_, c⟩
    rcases dsN_or (nb := nbR) (s := e) (a := a) with h | ⟨k, hk⟩
    · have h : dsF e a = -4 := h
      unfold frN
      rw [if_neg (by omega)]
    · have hk' : dsF e a = (k : Int) := hk
      by_cases q : k ≤ n
      · have := (frN_eq (e := e) (a := a) q).mpr hk'
        omega
      · by_cases q2 : k = n + 1
        · subst q2
          obtain ⟨c', h1, h2⟩ := isD_pre (dsN_k hk)
          exact absurd ⟨c', h2.2, dsN_T h1⟩ c
        · unfold frN
          rw [if_neg (by omega)]
theorem fr_keep {e n a : Nat} (h4 : frN e n a ≠ -4) : frN e (n + 1) a = frN e n a := by
  have : 0 ≤ dsF e a ∧ dsF e a ≤ (n : Int) := by
    unfold frN at h4
    by_cases c : 0 ≤ dsF e a ∧ dsF e a ≤ (n : Int)
    · exact c
    · rw [if_neg c] at h4; exact absurd rfl h4
  unfold frN
  rw [if_pos this, if_pos (by omega)]
/-- no one new: all are seen -/
theorem fr_all {e n : Nat} (h : ∀ a, a < 512 → frN e (n + 1) a = frN e n a) : ∀ a, a < 512 → frN e n a = dsF e a := by
  have key : ∀ k a, a < 512 → dsF e a = ((n + 1 + k : Nat) : Int) → False := by
    intro k
    induction k with
    | zero =>
      intro a ha hd
      have h1 := h a ha
      have h2 := (frN_eq (e := e) (a := a) (n := n + 1) (Nat.le_refl _)).mpr hd
      rw [h1] at h2
      have := h2
      unfold frN at this
      by_cases c : 0 ≤ dsF e a ∧ dsF e a ≤ (n : Int)
      · omega
      · rw [if_neg c] at this; omega
    | succ k ih =>
      intro a ha hd
      obtain ⟨c, h1, h2⟩ := isD_pre (k := n + 1 + k) (dsN_k hd)
      exact ih c (stp_lt ha h2.2) (dsN_T h1)
  intro a ha
  rcases dsN_or (nb := nbR) (s := e) (a := a) with q | ⟨k, hk⟩
  · have q : dsF e a = -4 := q
    unfold frN
    rw [if_neg (by omega), q]
  · have hk : dsF e a = (k : Int) := hk
    by_cases c : k ≤ n
    · rw [(frN_eq c).mpr hk, hk]
    · exact absurd (by rw [hk]; congr 1; omega) (key (k - (n + 1)) a ha)
theorem fr_0 {e a : Nat} : frN e 0 a = if a = e then 0 else -4 := by
  by_cases c : a = e
  · rw [if_pos c]
    have : dsF e a = ((0 : Nat) : Int) := dsN_T ⟨c, fun j hj => by omega⟩
    exact (frN_eq (Nat.le_refl _)).mpr this
  · rw [if_neg c]
    unfold frN
    rw [if_neg]
    intro q
    have h0 : dsF e a = ((0 : Nat) : Int) := by have := q.1; have := q.2; omega
    exact c (dsN_k h0).1
