/-! small words -/
theorem up_s {A : AH} {a : Nat} {c : va_E} : va_up A a c a = c := va_up_self A a c
theorem up_n {A : AH} {a b : Nat} {c c' : va_E} (h : b ≠ a) (k : A b = c') : va_up A a c b = c' := (va_up_ne A c h).trans k
theorem cI_eq {a b : Int} (h : a = b) : cI .eq a b := h
theorem cI_ne {a b : Int} (h : a ≠ b) : cI .ne a b := h
theorem cI_lt {a b : Int} (h : a < b) : cI .lt a b := h
theorem cI_ge {a b : Int} (h : b ≤ a) : cI .ge a b := h
theorem cI_gt {a b : Int} (h : b < a) : cI .gt a b := h
theorem cI_le {a b : Int} (h : a ≤ b) : cI .le a b := h
theorem cN_eq {a b : Int} (h : a ≠ b) : ¬ cI .eq a b := h
theorem cN_ne {a b : Int} (h : a = b) : ¬ cI .ne a b := fun k => k h
theorem cN_lt {a b : Int} (h : b ≤ a) : ¬ cI .lt a b := Int.not_lt.mpr h
theorem cN_ge {a b : Int} (h : a < b) : ¬ cI .ge a b := Int.not_le.mpr h
theorem cN_gt {a b : Int} (h : a ≤ b) : ¬ cI .gt a b := Int.not_lt.mpr h
theorem cN_le {a b : Int} (h : b < a) : ¬ cI .le a b := Int.not_le.mpr h
theorem emod_nn (z : Int) {n : Nat} (hn : 1 ≤ n) : 0 ≤ z % (n : Int) ∧ z % (n : Int) < n := ⟨Int.emod_nonneg _ (by omega), Int.emod_lt_of_pos _ (by omega)⟩
theorem tmod_fm {a : Int} {n : Nat} (hn : 1 ≤ n) : a % (n : Int) = if a < 0 ∧ a.tmod n ≠ 0 then a.tmod n + n else a.tmod n := by
  have h0 : 0 ≤ a % (n : Int) := Int.emod_nonneg _ (by omega)
  have h1 : a % (n : Int) < n := Int.emod_lt_of_pos _ (by omega)
  have hm := Int.emod_def a n
  have hq : n * (a / n) + a % n = a := Int.mul_ediv_add_emod a n
  rw [Int.tmod_eq_emod]
  split
  · rename_i hz
    rcases hz with hz | hz
    · simp; omega
    · have : a % (n : Int) = 0 := Int.emod_eq_zero_of_dvd hz
      simp [this]
  · rename_i hz
    have hneg : a < 0 := by omega
    have hnd : a % (n : Int) ≠ 0 := fun h => hz (Or.inr (Int.dvd_of_emod_eq_zero h))
    rw [if_pos ⟨hneg, by omega⟩]
    omega
/-- the sign of an exclusive or -/
theorem xor_neg {a b : Int} (ha : bd a) (hb : bd b) (h0 : 0 ≤ b) : 0 ≤ (iI a ^^^ iI b).toInt ↔ 0 ≤ a := by
  have h1 : (iI a ^^^ iI b).toBitVec.msb = ((iI a).toBitVec.msb ^^ (iI b).toBitVec.msb) := by
    rw [Int32.toBitVec_xor, BitVec.msb_xor]
  have key : ∀ x : Int32, (0 ≤ x.toInt) ↔ x.toBitVec.msb = false := by
    intro x
    have := BitVec.msb_eq_toInt (x := x.toBitVec)
    show 0 ≤ x.toBitVec.toInt ↔ _
    rw [this]
    simp
  have hb' : (iI b).toBitVec.msb = false := (key _).mp (by rw [iI_toInt hb]; exact h0)
  rw [key, h1, hb', Bool.xor_false, ← key, iI_toInt ha]
theorem r_floorMod {d : Nat} {A : AH} {z : Int} {n : Nat} (hz : bd z) (hn : 1 ≤ n) (hn2 : n < 2147483648) : Rt mJ9_floorMod_7cf53 d [.int (iI z), .int (iI n)] A (some (.int (iI (z % n)))) A := by
  refine rt_intro kJ9_floorMod_7cf53 rfl rfl rfl ?_
  refine gr_run (pc' := 2) 2 rfl ?_
  refine gr_irem rfl (by omega) (by omega) (by omega) ?_
  refine gr_run (pc' := 6) 3 rfl ?_
  refine gr_ixor rfl ?_
  refine gr_ti (iI_of _) ?_
  have hx := xor_neg hz (b := n) (by omega) (by omega)
  have hbx := bd_of (iI z ^^^ iI n)
  have hfm := tmod_fm (a := z) hn
  have hlt : z.tmod n < n := by
    have := Int.emod_lt_of_pos z (b := n) (by omega)
    have h0 : 0 ≤ z % (n : Int) := Int.emod_nonneg _ (by omega)
    split at hfm <;> omega
  have hgt : -n ≤ z.tmod n := by
    have := Int.emod_lt_of_pos z (b := n) (by omega)
    have h0 : 0 ≤ z % (n : Int) := Int.emod_nonneg _ (by omega)
    split at hfm <;> omega
  by_cases h0 : 0 ≤ z
  · refine gr_ifT (t := 18) rfl (by decide) (by omega) (cI_ge (by omega)) ?_
    rw [if_neg (by omega)] at hfm
    rw [hfm]
    refine gr_run (pc' := 19) 1 rfl ?_
    exact gr_ret rfl rfl
  · by_cases h1 : z.tmod n = 0
    · refine gr_ifF (t := 18) rfl (by decide) (by omega) (cN_ge (by omega)) ?_
      refine gr_run (pc' := 11) 1 rfl ?_
      refine gr_ifT (t := 18) rfl (by decide) (by omega) (cI_eq (by omega)) ?_
      rw [if_neg (by omega)] at hfm
      rw [hfm]
      refine gr_run (pc' := 19) 1 rfl ?_
      exact gr_ret rfl rfl
    · refine gr_ifF (t := 18) rfl (by decide) (by omega) (cN_ge (by omega)) ?_
      refine gr_run (pc' := 11) 1 rfl ?_
      refine gr_ifF (t := 18) rfl (by decide) (by omega) (cN_eq (by omega)) ?_
      refine gr_run (pc' := 16) 2 rfl ?_
      refine gr_iadd rfl ?_
      rw [if_pos ⟨by omega, h1⟩] at hfm
      rw [hfm]
      exact gr_ret rfl rfl
