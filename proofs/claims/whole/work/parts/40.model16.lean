/-! the model: mended -/
theorem nar01 {P : Prop} : vp_nar .boolean (iI ((ind P : Nat) : Int)) = iI ((ind P : Nat) : Int) := by
  rcases (show ind P = 0 ∨ ind P = 1 by have := ind_le P; omega) with e | e <;> rw [e] <;> rfl
theorem scr_5556 {A : AH} (h : scrA A) (f g : Nat → Int32) : scrA (va_up (va_up A 55 (Za 512 f)) 56 (Za 512 g)) := by
  obtain ⟨⟨a, ha⟩, ⟨b, hb⟩, ⟨c, hc⟩, ⟨d', hd⟩, ⟨f', hf⟩, ⟨g', hg⟩, ⟨i, hi⟩, ⟨j, hj⟩⟩ := h
  exact ⟨⟨a, up_n (by decide) (up_n (by decide) ha)⟩, ⟨b, up_n (by decide) (up_n (by decide) hb)⟩, ⟨c, up_n (by decide) (up_n (by decide) hc)⟩, ⟨d', up_n (by decide) (up_n (by decide) hd)⟩, ⟨f', up_n (by decide) (up_n (by decide) hf)⟩, ⟨g', up_n (by decide) (up_n (by decide) hg)⟩, ⟨f, up_n (by decide) up_s⟩, ⟨g, up_s⟩⟩
theorem RepM.u56 {σ : SS} {A : AH} (hR : RepM σ A) (f g : Nat → Int32) : RepM σ (va_up (va_up A 55 (Za 512 f)) 56 (Za 512 g)) := hR.s (scr_5556 hR.2.2.2.2.2.2 f g) (fun j hj => (up_o (by omega)).trans (up_o (by omega)))
theorem up_sw {A : AH} {c c' : va_E} : va_up (va_up (va_up A 55 c) 56 c') 55 = fun x => va_up (va_up A 55 x) 56 c' := by
  funext x j
  unfold va_up
  by_cases h1 : j = 55
  · subst h1; simp
  · by_cases h2 : j = 56
    · subst h2; simp
    · simp [h1, h2]
