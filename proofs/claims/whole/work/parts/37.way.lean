/-! the lowest throw that leads nearer -/
def fcd (aw : Nat → Int) (air x : Nat) : Prop := air.testBit x = false ∧ aw (thr air x) = aw air - 1
theorem ftS_spec {aw : Nat → Int} {air : Nat} : ∀ {m : Nat}, m ≤ 9 → (∃ x, 10 - m ≤ x ∧ x ≤ 9 ∧ fcd aw air x) → fcd aw air (ftS aw air m) ∧ 10 - m ≤ ftS aw air m ∧ ftS aw air m ≤ 9 ∧ ∀ x, 10 - m ≤ x → x < ftS aw air m → ¬ fcd aw air x
  | 0, _, h => by obtain ⟨x, h1, h2, _⟩ := h; omega
  | m + 1, hm, h => by
    simp only [ftS]
    by_cases c : air.testBit (9 - m) = false ∧ aw (thr air (9 - m)) = aw air - 1
    · rw [if_pos c]
      exact ⟨c, by omega, by omega, fun x h1 h2 => by omega⟩
    · rw [if_neg c]
      obtain ⟨x, h1, h2, h3⟩ := h
      have hx : x ≠ 9 - m := fun q => c (by rw [← q]; exact h3)
      obtain ⟨q1, q2, q3, q4⟩ := ftS_spec (aw := aw) (air := air) (m := m) (by omega) ⟨x, by omega, h2, h3⟩
      refine ⟨q1, by omega, q3, fun y a b => ?_⟩
      by_cases e : y = 9 - m
      · rw [e]; exact c
      · exact q4 y (by omega) b
theorem ft_way {e air k : Nat} (hd : dsF e air = ((k + 1 : Nat) : Int)) : bhN air (ftA (dsF e) air) = ((thr air (ftA (dsF e) air) : Nat) : Int) ∧ dsF e (thr air (ftA (dsF e) air)) = (k : Int) ∧ ∀ x c : Nat, x < ftA (dsF e) air → bhN air x = (c : Int) → dsF e c ≠ (k : Int) := by
  obtain ⟨c, h1, h2⟩ := isD_pre (dsN_k hd)
  have hc : dsF e c = (k : Int) := dsN_T h1
  unfold ftA
  rcases h2.2 with ⟨s1, s2⟩ | ⟨s1, x, s2, s3, s4, s5⟩
  · rw [if_pos s1]
    refine ⟨?_, by rw [← s2]; exact hc, fun x c hx => by omega⟩
    unfold bhN
    rw [if_pos s1, if_pos rfl]
    simp [thr]
  · rw [if_neg (by omega)]
    obtain ⟨q1, q2, q3, q4⟩ := ftS_spec (aw := dsF e) (air := air) (m := 9) (by omega) ⟨x, by omega, s3, s4, by rw [← s5, hc, hd]; omega⟩
    generalize ftS (dsF e) air 9 = H at *
    refine ⟨?_, by rw [q1.2, hd]; omega, fun y c' hy hc' hq => ?_⟩
    · unfold bhN
      rw [if_neg (by omega), if_neg (fun z => z.elim (fun a => by omega) (fun a => by rw [q1.1] at a; cases a))]
    · unfold bhN at hc'
      rw [if_neg (by omega)] at hc'
      by_cases z : y = 0 ∨ air.testBit y = true
      · rw [if_pos z] at hc'; omega
      · rw [if_neg z] at hc'
        have z1 : ¬ y = 0 := fun a => z (Or.inl a)
        have z2 : air.testBit y = false := by
          cases hb : air.testBit y with
          | false => rfl
          | true => exact absurd (Or.inr hb) z
        refine q4 y (by omega) hy ⟨z2, ?_⟩
        rw [show thr air y = c' by omega, hq, hd]
        omega
