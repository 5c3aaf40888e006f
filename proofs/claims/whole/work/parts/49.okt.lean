/-! what stays true: patterns turned, backwards, raised, changed -/
theorem dstT {p : Pn} (h : okT p) {u w : Nat} (hu : u < p.1) (hw : w < p.1) (e : lnd p.1 p.2 u = lnd p.1 p.2 w) : u = w := dst_ne h.2 hu hw e
theorem okT_of {n : Nat} {h : Nat → Nat} (hh : okH n h) (hi : ∀ u w, u < n → w < n → lnd n h u = lnd n h w → u = w) : okT (n, h) :=
  ⟨hh, fun i j hij hj e => by have := hi i j (by omega) hj e; omega⟩
theorem tu_okT {p : Pn} (h : okT p) (k : Nat) : okT (p.1, tuH p.1 p.2 k) :=
  ⟨⟨h.1.1, fun i _ => h.1.2 _ (Nat.mod_lt _ (by have := h.1.1.1; omega))⟩, dst_tu h.1.1.1 h.2⟩
theorem bw_mod {n i x : Nat} (hi : i < n) : (n - 1 - (i + x) % n + x) % n = n - 1 - i := by
  have h1 := Nat.div_add_mod (i + x) n
  have h2 := Nat.mod_lt (i + x) (show 0 < n by omega)
  have e : n - 1 - (i + x) % n + x = n - 1 - i + n * ((i + x) / n) := by
    generalize n * ((i + x) / n) = w at *
    omega
  rw [e, Nat.add_mul_mod_self_left, Nat.mod_eq_of_lt (by omega)]
theorem bw_okT {p : Pn} (h : okT p) : okT (p.1, bwH p.1 p.2) := by
  have hn := h.1.1
  refine okT_of ⟨hn, fun q hq => ?_⟩ (fun u w hu hw e => ?_)
  · obtain ⟨i, hi, -, e⟩ := bw_sur (h := p.2) hn.1 h.2 hq
    rw [e]; exact h.1.2 i hi
  · obtain ⟨i, hi, i1, i2⟩ := bw_sur (h := p.2) hn.1 h.2 hu
    obtain ⟨j, hj, j1, j2⟩ := bw_sur (h := p.2) hn.1 h.2 hw
    have e1 : lnd p.1 (bwH p.1 p.2) u = p.1 - 1 - i := by
      unfold lnd
      rw [i2, i1]
      exact bw_mod hi
    have e2 : lnd p.1 (bwH p.1 p.2) w = p.1 - 1 - j := by
      unfold lnd
      rw [j2, j1]
      exact bw_mod hj
    have : i = j := by omega
    rw [i1, j1, this]
theorem ra_okT {p : Pn} (h : okT p) {z : Int} (hall : ∀ j, j < p.1 → 0 ≤ (p.2 j : Int) + z ∧ (p.2 j : Int) + z ≤ 9) : okT (p.1, raH p.2 z) := by
  have hn := h.1.1
  refine okT_of ⟨hn, fun i hi => ?_⟩ (fun u w hu hw e => dstT h hu hw ?_)
  · have := hall i hi
    unfold raH; omega
  · have a1 := hall u hu
    have a2 := hall w hw
    have r1 : ((raH p.2 z u : Nat) : Int) = (p.2 u : Int) + z := by unfold raH; omega
    have r2 : ((raH p.2 z w : Nat) : Int) = (p.2 w : Int) + z := by unfold raH; omega
    unfold lnd at e ⊢
    have e1 : ((u + raH p.2 z u : Nat) : Int) % (p.1 : Int) = ((w + raH p.2 z w : Nat) : Int) % (p.1 : Int) := congrArg (fun x : Nat => (x : Int)) e
    rw [Int.emod_eq_emod_iff_emod_sub_eq_zero] at e1
    have e2 : ((u + p.2 u : Nat) : Int) % (p.1 : Int) = ((w + p.2 w : Nat) : Int) % (p.1 : Int) := by
      rw [Int.emod_eq_emod_iff_emod_sub_eq_zero, ← e1]
      congr 1
      omega
    exact Int.ofNat.inj e2
theorem ch_okT {p : Pn} (h : okT p) {i j : Nat} (hij : i < j) (hj : j < p.1) (h1 : p.2 j + (j - i) ≤ 9) (h2 : j - i ≤ p.2 i) : okT (p.1, chH p.2 i j) := by
  have hn := h.1.1
  have hl : ∀ x, lnd p.1 (chH p.2 i j) x = lnd p.1 p.2 (swp i j x) := by
    intro x
    unfold lnd chH updN swp
    by_cases c1 : x = j
    · rw [if_pos c1, if_pos c1]; congr 1; omega
    · rw [if_neg c1, if_neg c1]
      by_cases c2 : x = i
      · rw [if_pos c2, if_pos c2]; congr 1; omega
      · rw [if_neg c2, if_neg c2]
  have hsw : ∀ x, x < p.1 → swp i j x < p.1 := fun x hx => by unfold swp; split <;> (try split) <;> omega
  refine okT_of ⟨hn, fun x hx => ch_le h1 (h.1.2 i (by omega)) (h.1.2 x hx)⟩ (fun u w hu hw e => ?_)
  rw [hl, hl] at e
  have := dstT h (hsw u hu) (hsw w hw) e
  revert this
  unfold swp
  repeat' split
  all_goals omega
