/-! the model: in, out, across -/
theorem gnd_lt {b : Nat} (h : b ≤ 9) : 2 ^ b - 1 < 512 ∧ 1 ≤ 2 ^ b ∧ 2 ^ b ≤ 512 := by
  have h1 := Nat.two_pow_pos b
  have h2 : (2 : Nat) ^ b ≤ 2 ^ 9 := Nat.pow_le_pow_right (by decide) h
  omega
section MB
variable {d : Nat} {A : AH} {σ : SS}
theorem m_inB {i : Int} (bi : bd i) (hi : i < -1) : Rt mX7_in (d + 3) [.ref 43, .int (iI i)] A (some (.int (iI (-1)))) A := by
  refine rt_intro kX7_in rfl rfl rfl ?_
  refine gr_run (pc' := 2) 2 rfl ?_
  refine gr_icF (t := 9) rfl (by decide) (by omega) (by omega) (cN_ge (by omega)) ?_
  refine gr_run (pc' := 35) 2 rfl ?_
  exact gr_ret rfl rfl
theorem m_in {i : Int} (hR : RepM σ A) (ho : okS σ) (bi : bd i) (hi : -1 ≤ i) : ∃ A', Rt mX7_in (d + 3) [.ref 43, .int (iI i)] A (some (.int (iI (wyF (airN σ.2.1.1 σ.2.1.2 0) (2 ^ blN σ.2.1 - 1) i)))) A' ∧ RepM σ A' ∧ offE A A' 43 56 := by
  have hb9 := (blN_le ho.2.1).1
  have hg := gnd_lt hb9
  have ha := airN_lt ho.2.1.1 0
  obtain ⟨A', r1, r2, r3⟩ := m_way (d := d) (fr := 2 ^ blN σ.2.1 - 1) (i := i) hR ha hg.1 ⟨hi, bi⟩
  obtain ⟨h0, -, ⟨f, e1, e2⟩, -⟩ := id hR
  have hb := m_balls (d := d + 1) hR ho.2.1 ho.2.2.1 (z := 0) (by omega)
  rw [if_pos rfl] at hb
  have e : sumN σ.2.1.2 σ.2.1.1 / σ.2.1.1 = blN σ.2.1 := rfl
  rw [e] at hb
  refine ⟨A', ?_, r2, r3⟩
  refine rt_intro kX7_in rfl rfl rfl ?_
  refine gr_run (pc' := 2) 2 rfl ?_
  refine gr_icT (t := 9) rfl (by decide) (by omega) (by omega) (cI_ge (by omega)) ?_
  refine gr_run (pc' := 13) 4 rfl ?_
  refine gr_callV (As := [_]) lk_7_105 rfl rfl (hb) (by repeat (first | exact up_s | assumption | refine up_n (by first | assumption | decide | omega) ?_)) (by first | assumption | exact Nat.le_of_ble_eq_true rfl | exact Nat.le_of_ble_eq_true (by assumption)) rfl rfl rfl rfl rfl ?_
  refine gr_ishl1 rfl (by omega) ?_
  refine gr_run (pc' := 18) 1 rfl ?_
  refine gr_isub rfl ?_
  rw [show ((2 ^ blN σ.2.1 : Nat) : Int) - 1 = ((2 ^ blN σ.2.1 - 1 : Nat) : Int) by omega]
  refine gr_run (pc' := 20) 1 rfl ?_
  refine gr_getf rfl rfl (by repeat (first | exact up_s | assumption | refine up_n (by first | assumption | decide | omega) ?_)) (by first | assumption | rfl) rfl ?_
  refine gr_run (pc' := 24) 1 rfl ?_
  refine gr_getf rfl rfl (by repeat (first | exact up_s | assumption | refine up_n (by first | assumption | decide | omega) ?_)) (by first | assumption | rfl) rfl ?_
  refine gr_run (pc' := 28) 1 rfl ?_
  refine gr_callS (As := [_, _, _]) lk_7_90 rfl rfl (r_X7_airOf e1 rfl ho.2.1.1 e2 (by omega)) rfl rfl rfl ?_
  refine gr_run (pc' := 32) 1 rfl ?_
  refine gr_callV (As := [_, _, _]) lk_7_171 rfl rfl (r1) (by repeat (first | exact up_s | assumption | refine up_n (by first | assumption | decide | omega) ?_)) (by first | assumption | exact Nat.le_of_ble_eq_true rfl | exact Nat.le_of_ble_eq_true (by assumption)) rfl rfl rfl rfl rfl ?_
  exact gr_ret rfl rfl
theorem m_outB {z i : Int} (hR : RepM σ A) (ho : okS σ) (bz : bd z) (bi : bd i) (h : ¬ (0 ≤ z ∧ z < σ.2.1.1) ∨ i < -1) : Rt mX7_out (d + 3) [.ref 43, .int (iI z), .int (iI i)] A (some (.int (iI (-1)))) A := by
  have h0 := hR.1
  have hn := ho.2.1.1.1
  refine rt_intro kX7_out rfl rfl rfl ?_
  refine gr_run (pc' := 1) 1 rfl ?_
  refine gr_i2l rfl (by omega) ?_
  refine gr_run (pc' := 4) 2 rfl ?_
  refine gr_getf rfl rfl (by repeat (first | exact up_s | assumption | refine up_n (by first | assumption | decide | omega) ?_)) (by first | assumption | rfl) rfl ?_
  refine gr_run (pc' := 8) 1 rfl ?_
  refine gr_isub rfl ?_
  refine gr_i2l rfl (by omega) ?_
  rw [show (((0 : Fin 2).val : Nat) : Int) = 0 from rfl]
  by_cases c : 0 ≤ z ∧ z < σ.2.1.1
  · refine gr_callS (As := [_, _, _]) lk_7_61 rfl rfl (r_isT (by omega) (by omega) (by omega) (by omega) (by omega)) rfl rfl rfl ?_
    refine gr_ifF (t := 21) rfl (by decide) (by omega) (cN_eq (by omega)) ?_
    refine gr_run (pc' := 18) 2 rfl ?_
    refine gr_icF (t := 25) rfl (by decide) (by omega) (by omega) (cN_ge (by omega)) ?_
    refine gr_run (pc' := 51) 2 rfl ?_
    exact gr_ret rfl rfl
  · refine gr_callS (As := [_, _, _]) lk_7_61 rfl rfl (r_isF (by omega) (by omega) (by omega) (by omega)) rfl rfl rfl ?_
    refine gr_ifT (t := 21) rfl (by decide) (by omega) (cI_eq (by omega)) ?_
    refine gr_run (pc' := 51) 2 rfl ?_
    exact gr_ret rfl rfl
theorem m_out {k : Nat} {i : Int} (hR : RepM σ A) (ho : okS σ) (hk : k < σ.2.1.1) (bi : bd i) (hi : -1 ≤ i) : ∃ A', Rt mX7_out (d + 3) [.ref 43, .int (iI k), .int (iI i)] A (some (.int (iI (wyF (2 ^ blN σ.2.1 - 1) (airN σ.2.1.1 σ.2.1.2 k) i)))) A' ∧ RepM σ A' ∧ offE A A' 43 56 := by
  have hb9 := (blN_le ho.2.1).1
  have hg := gnd_lt hb9
  have hn := ho.2.1.1.1
  have ha := airN_lt ho.2.1.1 k
  obtain ⟨A', r1, r2, r3⟩ := m_way (d := d) (i := i) hR hg.1 ha ⟨hi, bi⟩
  obtain ⟨h0, -, ⟨f, e1, e2⟩, -⟩ := id hR
  have hb := m_balls (d := d + 1) hR ho.2.1 ho.2.2.1 (z := 0) (by omega)
  rw [if_pos rfl] at hb
  have e : sumN σ.2.1.2 σ.2.1.1 / σ.2.1.1 = blN σ.2.1 := rfl
  rw [e] at hb
  refine ⟨A', ?_, r2, r3⟩
  refine rt_intro kX7_out rfl rfl rfl ?_
  refine gr_run (pc' := 1) 1 rfl ?_
  refine gr_i2l rfl (by omega) ?_
  refine gr_run (pc' := 4) 2 rfl ?_
  refine gr_getf rfl rfl (by repeat (first | exact up_s | assumption | refine up_n (by first | assumption | decide | omega) ?_)) (by first | assumption | rfl) rfl ?_
  refine gr_run (pc' := 8) 1 rfl ?_
  refine gr_isub rfl ?_
  refine gr_i2l rfl (by omega) ?_
  rw [show (((0 : Fin 2).val : Nat) : Int) = 0 from rfl]
  refine gr_callS (As := [_, _, _]) lk_7_61 rfl rfl (r_isT (by omega) (by omega) (by omega) (by omega) (by omega)) rfl rfl rfl ?_
  refine gr_ifF (t := 21) rfl (by decide) (by omega) (cN_eq (by omega)) ?_
  refine gr_run (pc' := 18) 2 rfl ?_
  refine gr_icT (t := 25) rfl (by decide) (by omega) (by omega) (cI_ge (by omega)) ?_
  refine gr_run (pc' := 27) 2 rfl ?_
  refine gr_getf rfl rfl (by repeat (first | exact up_s | assumption | refine up_n (by first | assumption | decide | omega) ?_)) (by first | assumption | rfl) rfl ?_
  refine gr_run (pc' := 31) 1 rfl ?_
  refine gr_getf rfl rfl (by repeat (first | exact up_s | assumption | refine up_n (by first | assumption | decide | omega) ?_)) (by first | assumption | rfl) rfl ?_
  refine gr_run (pc' := 35) 1 rfl ?_
  refine gr_callS (As := [_, _, _]) lk_7_90 rfl rfl (r_X7_airOf e1 rfl ho.2.1.1 e2 (by omega)) rfl rfl rfl ?_
  refine gr_run (pc' := 41) 3 rfl ?_
  refine gr_callV (As := [_]) lk_7_105 rfl rfl (hb) (by repeat (first | exact up_s | assumption | refine up_n (by first | assumption | decide | omega) ?_)) (by first | assumption | exact Nat.le_of_ble_eq_true rfl | exact Nat.le_of_ble_eq_true (by assumption)) rfl rfl rfl rfl rfl ?_
  refine gr_ishl1 rfl (by omega) ?_
  refine gr_run (pc' := 46) 1 rfl ?_
  refine gr_isub rfl ?_
  rw [show ((2 ^ blN σ.2.1 : Nat) : Int) - 1 = ((2 ^ blN σ.2.1 - 1 : Nat) : Int) by omega]
  refine gr_run (pc' := 48) 1 rfl ?_
  refine gr_callV (As := [_, _, _]) lk_7_171 rfl rfl (r1) (by repeat (first | exact up_s | assumption | refine up_n (by first | assumption | decide | omega) ?_)) (by first | assumption | exact Nat.le_of_ble_eq_true rfl | exact Nat.le_of_ble_eq_true (by assumption)) rfl rfl rfl rfl rfl ?_
  exact gr_ret rfl rfl
theorem m_acrossB {z i : Int} (hR : RepM σ A) (ho : okS σ) (bz : bd z) (bi : bd i) (h : ¬ (0 ≤ z ∧ z < σ.2.1.1) ∨ i < -1) : Rt mX7_across (d + 3) [.ref 43, .int (iI z), .int (iI i)] A (some (.int (iI (-1)))) A := by
  have h0 := hR.1
  have hn := ho.2.1.1.1
  refine rt_intro kX7_across rfl rfl rfl ?_
  refine gr_run (pc' := 1) 1 rfl ?_
  refine gr_i2l rfl (by omega) ?_
  refine gr_run (pc' := 4) 2 rfl ?_
  refine gr_getf rfl rfl (by repeat (first | exact up_s | assumption | refine up_n (by first | assumption | decide | omega) ?_)) (by first | assumption | rfl) rfl ?_
  refine gr_run (pc' := 8) 1 rfl ?_
  refine gr_isub rfl ?_
  refine gr_i2l rfl (by omega) ?_
  rw [show (((0 : Fin 2).val : Nat) : Int) = 0 from rfl]
  by_cases c : 0 ≤ z ∧ z < σ.2.1.1
  · refine gr_callS (As := [_, _, _]) lk_7_61 rfl rfl (r_isT (by omega) (by omega) (by omega) (by omega) (by omega)) rfl rfl rfl ?_
    refine gr_ifF (t := 21) rfl (by decide) (by omega) (cN_eq (by omega)) ?_
    refine gr_run (pc' := 18) 2 rfl ?_
    refine gr_icF (t := 25) rfl (by decide) (by omega) (by omega) (cN_ge (by omega)) ?_
    refine gr_run (pc' := 54) 2 rfl ?_
    exact gr_ret rfl rfl
  · refine gr_callS (As := [_, _, _]) lk_7_61 rfl rfl (r_isF (by omega) (by omega) (by omega) (by omega)) rfl rfl rfl ?_
    refine gr_ifT (t := 21) rfl (by decide) (by omega) (cI_eq (by omega)) ?_
    refine gr_run (pc' := 54) 2 rfl ?_
    exact gr_ret rfl rfl
theorem m_across {k : Nat} {i : Int} (hR : RepM σ A) (ho : okS σ) (hk : k < σ.2.1.1) (bi : bd i) (hi : -1 ≤ i) : ∃ A', Rt mX7_across (d + 3) [.ref 43, .int (iI k), .int (iI i)] A (some (.int (iI (wyF (airN σ.2.2.1.1 σ.2.2.1.2 0) (airN σ.2.1.1 σ.2.1.2 k) i)))) A' ∧ RepM σ A' ∧ offE A A' 43 56 := by
  have hn := ho.2.1.1.1
  have ha := airN_lt ho.2.1.1 k
  have ha2 := airN_lt ho.2.2.1.1 0
  obtain ⟨A', r1, r2, r3⟩ := m_way (d := d) (i := i) hR ha2 ha ⟨hi, bi⟩
  obtain ⟨h0, -, ⟨f, e1, e2⟩, ⟨g, e3, e4⟩, -⟩ := id hR
  refine ⟨A', ?_, r2, r3⟩
  refine rt_intro kX7_across rfl rfl rfl ?_
  refine gr_run (pc' := 1) 1 rfl ?_
  refine gr_i2l rfl (by omega) ?_
  refine gr_run (pc' := 4) 2 rfl ?_
  refine gr_getf rfl rfl (by repeat (first | exact up_s | assumption | refine up_n (by first | assumption | decide | omega) ?_)) (by first | assumption | rfl) rfl ?_
  refine gr_run (pc' := 8) 1 rfl ?_
  refine gr_isub rfl ?_
  refine gr_i2l rfl (by omega) ?_
  rw [show (((0 : Fin 2).val : Nat) : Int) = 0 from rfl]
  refine gr_callS (As := [_, _, _]) lk_7_61 rfl rfl (r_isT (by omega) (by omega) (by omega) (by omega) (by omega)) rfl rfl rfl ?_
  refine gr_ifF (t := 21) rfl (by decide) (by omega) (cN_eq (by omega)) ?_
  refine gr_run (pc' := 18) 2 rfl ?_
  refine gr_icT (t := 25) rfl (by decide) (by omega) (by omega) (cI_ge (by omega)) ?_
  refine gr_run (pc' := 27) 2 rfl ?_
  refine gr_getf rfl rfl (by repeat (first | exact up_s | assumption | refine up_n (by first | assumption | decide | omega) ?_)) (by first | assumption | rfl) rfl ?_
  refine gr_run (pc' := 31) 1 rfl ?_
  refine gr_getf rfl rfl (by repeat (first | exact up_s | assumption | refine up_n (by first | assumption | decide | omega) ?_)) (by first | assumption | rfl) rfl ?_
  refine gr_run (pc' := 35) 1 rfl ?_
  refine gr_callS (As := [_, _, _]) lk_7_90 rfl rfl (r_X7_airOf e1 rfl ho.2.1.1 e2 (by omega)) rfl rfl rfl ?_
  refine gr_run (pc' := 39) 1 rfl ?_
  refine gr_getf rfl rfl (by repeat (first | exact up_s | assumption | refine up_n (by first | assumption | decide | omega) ?_)) (by first | assumption | rfl) rfl ?_
  refine gr_run (pc' := 43) 1 rfl ?_
  refine gr_getf rfl rfl (by repeat (first | exact up_s | assumption | refine up_n (by first | assumption | decide | omega) ?_)) (by first | assumption | rfl) rfl ?_
  refine gr_run (pc' := 47) 1 rfl ?_
  refine gr_callS (As := [_, _, _]) lk_7_90 rfl rfl (r_X7_airOf e3 rfl ho.2.2.1.1 e4 (by omega)) rfl rfl rfl ?_
  refine gr_run (pc' := 51) 1 rfl ?_
  refine gr_callV (As := [_, _, _]) lk_7_171 rfl rfl (r1) (by repeat (first | exact up_s | assumption | refine up_n (by first | assumption | decide | omega) ?_)) (by first | assumption | exact Nat.le_of_ble_eq_true rfl | exact Nat.le_of_ble_eq_true (by assumption)) rfl rfl rfl rfl rfl ?_
  exact gr_ret rfl rfl
end MB
