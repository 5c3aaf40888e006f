/-! the class: in, out, across, together, mended -/
theorem air_odd {p : Pn} (h : okT p) {k : Nat} (hk : k < p.1) (h0 : p.2 k ≠ 0) : airN p.1 p.2 (k : Int) % 2 = 1 := by
  have hn := h.1.1
  obtain ⟨i, hi, hl⟩ := inj_surj (s := lnd p.1 p.2) (fun i _ => lnd_lt hn.1) h.2 k hk
  have hne : p.2 i ≠ 0 := by
    intro e
    unfold lnd at hl
    rw [e, Nat.add_zero, Nat.mod_eq_of_lt hi] at hl
    subst hl
    exact h0 e
  have hb : (airN p.1 p.2 (k : Int)).testBit 0 = true := by
    refine airN_bit.mpr ⟨p.2 i, by omega, h.1.2 i hi, ?_⟩
    have hd := Nat.div_add_mod (i + p.2 i) p.1
    unfold lnd at hl
    rw [hl] at hd
    have e : (k : Int) - (p.2 i : Int) = (i : Int) + (p.1 : Int) * (-(((i + p.2 i) / p.1 : Nat) : Int)) := by
      rw [Int.mul_neg, ← Int.natCast_mul]
      omega
    rw [e, hg_mod, hg_lt hi]
    rfl
  rw [Nat.testBit_zero] at hb
  simpa using hb
theorem bh_odd {a x : Nat} (ha : a % 2 = 1) (hx : 1 ≤ x) : bhN a x = if a.testBit x = true then -4 else ((thr a x : Nat) : Int) := by
  unfold bhN
  rw [if_neg (by omega)]
  by_cases c : a.testBit x = true
  · rw [if_pos (Or.inr c), if_pos c]
  · rw [if_neg (fun q => q.elim (fun z => by omega) c), if_neg c]
theorem RepX.ps {σ : SS} {A A' : AH} (h : RepX σ A) (e : ∀ k, k < 35 ∨ 38 < k → A' k = A k) (hp : psA A') : RepX σ A' :=
  ⟨(e _ (by omega)).trans h.1, ⟨(e _ (by omega)).trans h.2.1.1, h.2.1.2.o (e _ (by omega))⟩, h.2.2.1.o (e _ (by omega)) (e _ (by omega)), h.2.2.2.1.o (e _ (by omega)) (e _ (by omega)), h.2.2.2.2.1.o (e _ (by omega)) (e _ (by omega)), h.2.2.2.2.2.1.o rfl rfl (fun k h1 h2 => e k (by omega)), h.2.2.2.2.2.2.1.o rfl rfl (fun k h1 h2 => e k (by omega)), h.2.2.2.2.2.2.2.1.o (e _ (by omega)) (e _ (by omega)), hp, h.2.2.2.2.2.2.2.2.2.o (fun k h1 h2 => e k (by omega))⟩
section XE
variable {d : Nat} {A : AH} {σ : SS}
theorem x_answer {fr tt : Nat} {i : Int} (hX : RepX σ A) (hf : fr < 512) (ht : tt < 512) (hi : -1 ≤ i ∧ bd i) : ∃ (x : Int32) (A' : AH), A 35 = Ob 1 [.ref 36, .ref 37, .int x, .ref 38] ∧ Rt mX1_answer (d + 5) [.ref 35, .int (iI fr), .int (iI tt), .int (iI i)] A (some (.int (iI (wyF tt fr i)))) A' ∧ RepX σ A' ∧ offE A A' 0 42 := by
  obtain ⟨x, a0, q0, r0, h1, h2, h3, h4⟩ := hX.2.2.2.2.2.2.2.2.1
  obtain ⟨p1, p2⟩ := pass_me (a0 := a0) hf ht
  have r := r_X1_answer (d := d) (i := i) h1 h2 h3 hf ht hi p1
  rw [p2 i hi.1] at r
  exact ⟨x, _, h1, r, hX.ps (fun k hk => (up_o (by omega)).trans ((up_o (by omega)).trans (up_o (by omega)))) ⟨_, _, _, r0, up_n (by decide) (up_n (by decide) up_s), up_n (by decide) up_s, up_s, up_n (by decide) (up_n (by decide) (up_n (by decide) h4))⟩, ((offE.rf.up (by omega)).up (by omega)).up (by omega)⟩
theorem x_inB {i : Int} (bi : bd i) (hi : i < -1) : Rt mX6_in (d + 1) [.ref 0, .int (iI i)] A (some (.int (iI (-1)))) A := by
  refine rt_intro kX6_in rfl rfl rfl ?_
  refine gr_run (pc' := 2) 2 rfl ?_
  refine gr_icF (t := 7) rfl (by decide) (by omega) (by omega) (cN_ge (by omega)) ?_
  refine gr_run (pc' := 6) 1 rfl ?_
  exact gr_ret rfl rfl
theorem x_in {i : Int} (hX : RepX σ A) (ho : okS σ) (bi : bd i) (hi : -1 ≤ i) : ∃ A', Rt mX6_in (d + 6) [.ref 0, .int (iI i)] A (some (.int (iI (wyF (airN σ.2.1.1 σ.2.1.2 0) (2 ^ blN σ.2.1 - 1) i)))) A' ∧ RepX σ A' ∧ offE A A' 0 42 := by
  have h0 := hX.1
  obtain ⟨p1, f, p2, p3⟩ := hX.2.2.1
  have hb9 := (blN_le ho.2.1).1
  have hg := gnd_lt hb9
  have ha := airN_lt ho.2.1.1 0
  obtain ⟨x, A', h35, r1, r2, r3⟩ := x_answer (d := d) (fr := 2 ^ blN σ.2.1 - 1) (i := i) hX hg.1 ha ⟨hi, bi⟩
  have e : sumN σ.2.1.2 σ.2.1.1 / σ.2.1.1 = blN σ.2.1 := rfl
  refine ⟨A', ?_, r2, r3⟩
  refine rt_intro kX6_in rfl rfl rfl ?_
  refine gr_run (pc' := 2) 2 rfl ?_
  refine gr_icT (t := 7) rfl (by decide) (by omega) (by omega) (cI_ge (by omega)) ?_
  refine gr_run (pc' := 8) 1 rfl ?_
  refine gr_getf rfl rfl (by repeat (first | exact up_s | assumption | refine up_n (by first | assumption | decide | omega) ?_)) (by first | assumption | rfl) rfl ?_
  refine gr_run (pc' := 12) 1 rfl ?_
  refine gr_getf rfl rfl (by repeat (first | exact up_s | assumption | refine up_n (by first | assumption | decide | omega) ?_)) (by first | assumption | rfl) rfl ?_
  refine gr_callV (As := []) lk_6_99 rfl rfl (r_X2_ballCount p1 p2 rfl rfl ho.2.1.1 p3) (by repeat (first | exact up_s | assumption | refine up_n (by first | assumption | decide | omega) ?_)) (by first | assumption | exact Nat.le_of_ble_eq_true rfl | exact Nat.le_of_ble_eq_true (by assumption)) rfl rfl rfl rfl rfl ?_
  rw [e]
  refine gr_callS (As := [_]) lk_6_175 rfl rfl (r_ground hb9) rfl rfl rfl ?_
  refine gr_run (pc' := 22) 1 rfl ?_
  refine gr_getf rfl rfl (by repeat (first | exact up_s | assumption | refine up_n (by first | assumption | decide | omega) ?_)) (by first | assumption | rfl) rfl ?_
  refine gr_run (pc' := 26) 1 rfl ?_
  refine gr_callV (As := [_]) lk_6_105 rfl rfl (r_X2_airAhead p1 p2 rfl rfl ho.2.1.1 p3 (by omega)) (by repeat (first | exact up_s | assumption | refine up_n (by first | assumption | decide | omega) ?_)) (by first | assumption | exact Nat.le_of_ble_eq_true rfl | exact Nat.le_of_ble_eq_true (by assumption)) rfl rfl rfl rfl rfl ?_
  refine gr_run (pc' := 30) 1 rfl ?_
  refine gr_callV (As := [_, _, _]) lk_6_178 rfl rfl (r1) (by repeat (first | exact up_s | assumption | refine up_n (by first | assumption | decide | omega) ?_)) (by first | assumption | exact Nat.le_of_ble_eq_true rfl | exact Nat.le_of_ble_eq_true (by assumption)) rfl rfl rfl rfl rfl ?_
  exact gr_ret rfl rfl
theorem x_outB {z i : Int} (hX : RepX σ A) (ho : okS σ) (bz : bd z) (bi : bd i) (h : ¬ (0 ≤ z ∧ z < σ.2.1.1) ∨ i < -1) : Rt mX6_out (d + 1) [.ref 0, .int (iI z), .int (iI i)] A (some (.int (iI (-1)))) A := by
  have h0 := hX.1
  have p1 := hX.2.2.1.1
  have h10 := ho.2.1.1.1.2
  refine rt_intro kX6_out rfl rfl rfl ?_
  refine gr_run (pc' := 1) 1 rfl ?_
  refine gr_getf rfl rfl (by repeat (first | exact up_s | assumption | refine up_n (by first | assumption | decide | omega) ?_)) (by first | assumption | rfl) rfl ?_
  refine gr_run (pc' := 5) 1 rfl ?_
  by_cases c : 0 ≤ z ∧ z < σ.2.1.1
  · refine gr_callV (As := [_]) lk_6_108 rfl rfl (r_X2_hasPlaceT p1 rfl h10 c.1 c.2) (by repeat (first | exact up_s | assumption | refine up_n (by first | assumption | decide | omega) ?_)) (by first | assumption | exact Nat.le_of_ble_eq_true rfl | exact Nat.le_of_ble_eq_true (by assumption)) rfl rfl rfl rfl rfl ?_
    refine gr_ifF (t := 16) rfl (by decide) (by omega) (cN_eq (by omega)) ?_
    refine gr_run (pc' := 13) 2 rfl ?_
    refine gr_icF (t := 18) rfl (by decide) (by omega) (by omega) (cN_ge (by omega)) ?_
    refine gr_run (pc' := 17) 1 rfl ?_
    exact gr_ret rfl rfl
  · refine gr_callV (As := [_]) lk_6_108 rfl rfl (r_X2_hasPlaceF p1 rfl h10 bz (by omega)) (by repeat (first | exact up_s | assumption | refine up_n (by first | assumption | decide | omega) ?_)) (by first | assumption | exact Nat.le_of_ble_eq_true rfl | exact Nat.le_of_ble_eq_true (by assumption)) rfl rfl rfl rfl rfl ?_
    refine gr_ifT (t := 16) rfl (by decide) (by omega) (cI_eq (by omega)) ?_
    refine gr_run (pc' := 17) 1 rfl ?_
    exact gr_ret rfl rfl
theorem x_out {k : Nat} {i : Int} (hX : RepX σ A) (ho : okS σ) (hk : k < σ.2.1.1) (bi : bd i) (hi : -1 ≤ i) : ∃ A', Rt mX6_out (d + 6) [.ref 0, .int (iI k), .int (iI i)] A (some (.int (iI (wyF (2 ^ blN σ.2.1 - 1) (airN σ.2.1.1 σ.2.1.2 k) i)))) A' ∧ RepX σ A' ∧ offE A A' 0 42 := by
  have h0 := hX.1
  obtain ⟨p1, f, p2, p3⟩ := hX.2.2.1
  have h10 := ho.2.1.1.1.2
  have hb9 := (blN_le ho.2.1).1
  have hg := gnd_lt hb9
  have ha := airN_lt ho.2.1.1 k
  obtain ⟨x, A', h35, r1, r2, r3⟩ := x_answer (d := d) (tt := 2 ^ blN σ.2.1 - 1) (i := i) hX ha hg.1 ⟨hi, bi⟩
  have e : sumN σ.2.1.2 σ.2.1.1 / σ.2.1.1 = blN σ.2.1 := rfl
  refine ⟨A', ?_, r2, r3⟩
  refine rt_intro kX6_out rfl rfl rfl ?_
  refine gr_run (pc' := 1) 1 rfl ?_
  refine gr_getf rfl rfl (by repeat (first | exact up_s | assumption | refine up_n (by first | assumption | decide | omega) ?_)) (by first | assumption | rfl) rfl ?_
  refine gr_run (pc' := 5) 1 rfl ?_
  refine gr_callV (As := [_]) lk_6_108 rfl rfl (r_X2_hasPlaceT p1 rfl h10 (by omega) (by omega)) (by repeat (first | exact up_s | assumption | refine up_n (by first | assumption | decide | omega) ?_)) (by first | assumption | exact Nat.le_of_ble_eq_true rfl | exact Nat.le_of_ble_eq_true (by assumption)) rfl rfl rfl rfl rfl ?_
  refine gr_ifF (t := 16) rfl (by decide) (by omega) (cN_eq (by omega)) ?_
  refine gr_run (pc' := 13) 2 rfl ?_
  refine gr_icT (t := 18) rfl (by decide) (by omega) (by omega) (cI_ge (by omega)) ?_
  refine gr_run (pc' := 19) 1 rfl ?_
  refine gr_getf rfl rfl (by repeat (first | exact up_s | assumption | refine up_n (by first | assumption | decide | omega) ?_)) (by first | assumption | rfl) rfl ?_
  refine gr_run (pc' := 23) 1 rfl ?_
  refine gr_getf rfl rfl (by repeat (first | exact up_s | assumption | refine up_n (by first | assumption | decide | omega) ?_)) (by first | assumption | rfl) rfl ?_
  refine gr_run (pc' := 27) 1 rfl ?_
  refine gr_callV (As := [_]) lk_6_105 rfl rfl (r_X2_airAhead p1 p2 rfl rfl ho.2.1.1 p3 (by omega)) (by repeat (first | exact up_s | assumption | refine up_n (by first | assumption | decide | omega) ?_)) (by first | assumption | exact Nat.le_of_ble_eq_true rfl | exact Nat.le_of_ble_eq_true (by assumption)) rfl rfl rfl rfl rfl ?_
  refine gr_run (pc' := 31) 1 rfl ?_
  refine gr_getf rfl rfl (by repeat (first | exact up_s | assumption | refine up_n (by first | assumption | decide | omega) ?_)) (by first | assumption | rfl) rfl ?_
  refine gr_callV (As := []) lk_6_99 rfl rfl (r_X2_ballCount p1 p2 rfl rfl ho.2.1.1 p3) (by repeat (first | exact up_s | assumption | refine up_n (by first | assumption | decide | omega) ?_)) (by first | assumption | exact Nat.le_of_ble_eq_true rfl | exact Nat.le_of_ble_eq_true (by assumption)) rfl rfl rfl rfl rfl ?_
  rw [e]
  refine gr_callS (As := [_]) lk_6_175 rfl rfl (r_ground hb9) rfl rfl rfl ?_
  refine gr_run (pc' := 41) 1 rfl ?_
  refine gr_callV (As := [_, _, _]) lk_6_178 rfl rfl (r1) (by repeat (first | exact up_s | assumption | refine up_n (by first | assumption | decide | omega) ?_)) (by first | assumption | exact Nat.le_of_ble_eq_true rfl | exact Nat.le_of_ble_eq_true (by assumption)) rfl rfl rfl rfl rfl ?_
  exact gr_ret rfl rfl
theorem x_acrossB {z i : Int} (hX : RepX σ A) (ho : okS σ) (bz : bd z) (bi : bd i) (h : ¬ (0 ≤ z ∧ z < σ.2.1.1) ∨ i < -1) : Rt mX6_across (d + 1) [.ref 0, .int (iI z), .int (iI i)] A (some (.int (iI (-1)))) A := by
  have h0 := hX.1
  have p1 := hX.2.2.1.1
  have h10 := ho.2.1.1.1.2
  refine rt_intro kX6_across rfl rfl rfl ?_
  refine gr_run (pc' := 1) 1 rfl ?_
  refine gr_getf rfl rfl (by repeat (first | exact up_s | assumption | refine up_n (by first | assumption | decide | omega) ?_)) (by first | assumption | rfl) rfl ?_
  refine gr_run (pc' := 5) 1 rfl ?_
  by_cases c : 0 ≤ z ∧ z < σ.2.1.1
  · refine gr_callV (As := [_]) lk_6_108 rfl rfl (r_X2_hasPlaceT p1 rfl h10 c.1 c.2) (by repeat (first | exact up_s | assumption | refine up_n (by first | assumption | decide | omega) ?_)) (by first | assumption | exact Nat.le_of_ble_eq_true rfl | exact Nat.le_of_ble_eq_true (by assumption)) rfl rfl rfl rfl rfl ?_
    refine gr_ifF (t := 16) rfl (by decide) (by omega) (cN_eq (by omega)) ?_
    refine gr_run (pc' := 13) 2 rfl ?_
    refine gr_icF (t := 18) rfl (by decide) (by omega) (by omega) (cN_ge (by omega)) ?_
    refine gr_run (pc' := 17) 1 rfl ?_
    exact gr_ret rfl rfl
  · refine gr_callV (As := [_]) lk_6_108 rfl rfl (r_X2_hasPlaceF p1 rfl h10 bz (by omega)) (by repeat (first | exact up_s | assumption | refine up_n (by first | assumption | decide | omega) ?_)) (by first | assumption | exact Nat.le_of_ble_eq_true rfl | exact Nat.le_of_ble_eq_true (by assumption)) rfl rfl rfl rfl rfl ?_
    refine gr_ifT (t := 16) rfl (by decide) (by omega) (cI_eq (by omega)) ?_
    refine gr_run (pc' := 17) 1 rfl ?_
    exact gr_ret rfl rfl
theorem x_across {k : Nat} {i : Int} (hX : RepX σ A) (ho : okS σ) (hk : k < σ.2.1.1) (bi : bd i) (hi : -1 ≤ i) : ∃ A', Rt mX6_across (d + 6) [.ref 0, .int (iI k), .int (iI i)] A (some (.int (iI (wyF (airN σ.2.2.1.1 σ.2.2.1.2 0) (airN σ.2.1.1 σ.2.1.2 k) i)))) A' ∧ RepX σ A' ∧ offE A A' 0 42 := by
  have h0 := hX.1
  obtain ⟨p1, f, p2, p3⟩ := hX.2.2.1
  obtain ⟨q1, g, q2, q3⟩ := hX.2.2.2.1
  have h10 := ho.2.1.1.1.2
  have ha := airN_lt ho.2.1.1 k
  have ha2 := airN_lt ho.2.2.1.1 0
  obtain ⟨x, A', h35, r1, r2, r3⟩ := x_answer (d := d) (i := i) hX ha ha2 ⟨hi, bi⟩
  refine ⟨A', ?_, r2, r3⟩
  refine rt_intro kX6_across rfl rfl rfl ?_
  refine gr_run (pc' := 1) 1 rfl ?_
  refine gr_getf rfl rfl (by repeat (first | exact up_s | assumption | refine up_n (by first | assumption | decide | omega) ?_)) (by first | assumption | rfl) rfl ?_
  refine gr_run (pc' := 5) 1 rfl ?_
  refine gr_callV (As := [_]) lk_6_108 rfl rfl (r_X2_hasPlaceT p1 rfl h10 (by omega) (by omega)) (by repeat (first | exact up_s | assumption | refine up_n (by first | assumption | decide | omega) ?_)) (by first | assumption | exact Nat.le_of_ble_eq_true rfl | exact Nat.le_of_ble_eq_true (by assumption)) rfl rfl rfl rfl rfl ?_
  refine gr_ifF (t := 16) rfl (by decide) (by omega) (cN_eq (by omega)) ?_
  refine gr_run (pc' := 13) 2 rfl ?_
  refine gr_icT (t := 18) rfl (by decide) (by omega) (by omega) (cI_ge (by omega)) ?_
  refine gr_run (pc' := 19) 1 rfl ?_
  refine gr_getf rfl rfl (by repeat (first | exact up_s | assumption | refine up_n (by first | assumption | decide | omega) ?_)) (by first | assumption | rfl) rfl ?_
  refine gr_run (pc' := 23) 1 rfl ?_
  refine gr_getf rfl rfl (by repeat (first | exact up_s | assumption | refine up_n (by first | assumption | decide | omega) ?_)) (by first | assumption | rfl) rfl ?_
  refine gr_run (pc' := 27) 1 rfl ?_
  refine gr_callV (As := [_]) lk_6_105 rfl rfl (r_X2_airAhead p1 p2 rfl rfl ho.2.1.1 p3 (by omega)) (by repeat (first | exact up_s | assumption | refine up_n (by first | assumption | decide | omega) ?_)) (by first | assumption | exact Nat.le_of_ble_eq_true rfl | exact Nat.le_of_ble_eq_true (by assumption)) rfl rfl rfl rfl rfl ?_
  refine gr_run (pc' := 31) 1 rfl ?_
  refine gr_getf rfl rfl (by repeat (first | exact up_s | assumption | refine up_n (by first | assumption | decide | omega) ?_)) (by first | assumption | rfl) rfl ?_
  refine gr_run (pc' := 35) 1 rfl ?_
  refine gr_callV (As := [_]) lk_6_105 rfl rfl (r_X2_airAhead q1 q2 rfl rfl ho.2.2.1.1 q3 (by omega)) (by repeat (first | exact up_s | assumption | refine up_n (by first | assumption | decide | omega) ?_)) (by first | assumption | exact Nat.le_of_ble_eq_true rfl | exact Nat.le_of_ble_eq_true (by assumption)) rfl rfl rfl rfl rfl ?_
  refine gr_run (pc' := 39) 1 rfl ?_
  refine gr_callV (As := [_, _, _]) lk_6_178 rfl rfl (r1) (by repeat (first | exact up_s | assumption | refine up_n (by first | assumption | decide | omega) ?_)) (by first | assumption | exact Nat.le_of_ble_eq_true rfl | exact Nat.le_of_ble_eq_true (by assumption)) rfl rfl rfl rfl rfl ?_
  exact gr_ret rfl rfl
theorem x_slip {y z : Int} (hX : RepX σ A) (hS : okT σ.2.1) (hy : bd y) (hz : bd z) : Rt mX6_slipRefusal (d + 2) [.ref 0, .int (iI y), .int (iI z)] A (some (.int (iI (barN σ.2.1 y z)))) A := by
  have h0 := hX.1
  obtain ⟨p1, f, p2, p3⟩ := hX.2.2.1
  have hn := hS.1.1
  have h9 := hS.1.2
  unfold barN
  refine rt_intro kX6_slipRefusal rfl rfl rfl ?_
  refine gr_run (pc' := 1) 1 rfl ?_
  refine gr_getf rfl rfl (by repeat (first | exact up_s | assumption | refine up_n (by first | assumption | decide | omega) ?_)) (by first | assumption | rfl) rfl ?_
  refine gr_run (pc' := 5) 1 rfl ?_
  by_cases c1 : 0 ≤ y ∧ y < σ.2.1.1
  · obtain ⟨k, rfl⟩ : ∃ k : Nat, y = (k : Int) := ⟨y.toNat, by omega⟩
    simp only [Int.toNat_natCast]
    have h9k := h9 k (by omega)
    refine gr_callV (As := [_]) lk_6_108 rfl rfl (r_X2_hasPlaceT p1 rfl hn.2 c1.1 c1.2) (by repeat (first | exact up_s | assumption | refine up_n (by first | assumption | decide | omega) ?_)) (by first | assumption | exact Nat.le_of_ble_eq_true rfl | exact Nat.le_of_ble_eq_true (by assumption)) rfl rfl rfl rfl rfl ?_
    by_cases c2 : 1 ≤ z ∧ z ≤ 9
    · refine gr_ifF (t := 34) rfl (by decide) (by omega) (cN_eq (by omega)) ?_
      refine gr_run (pc' := 13) 2 rfl ?_
      refine gr_icF (t := 34) rfl (by decide) (by omega) (by omega) (cN_lt (by omega)) ?_
      refine gr_run (pc' := 19) 2 rfl ?_
      refine gr_icF (t := 34) rfl (by decide) (by omega) (by omega) (cN_gt (by omega)) ?_
      refine gr_run (pc' := 24) 2 rfl ?_
      refine gr_getf rfl rfl (by repeat (first | exact up_s | assumption | refine up_n (by first | assumption | decide | omega) ?_)) (by first | assumption | rfl) rfl ?_
      refine gr_run (pc' := 28) 1 rfl ?_
      refine gr_callV (As := [_]) lk_6_95 rfl rfl (r_X2_heightAt p1 p2 rfl rfl hn p3 (by omega)) (by repeat (first | exact up_s | assumption | refine up_n (by first | assumption | decide | omega) ?_)) (by first | assumption | exact Nat.le_of_ble_eq_true rfl | exact Nat.le_of_ble_eq_true (by assumption)) rfl rfl rfl rfl rfl ?_
      rw [hg_lt (by omega)]
      by_cases c3 : (σ.2.1.2 k : Int) = z
      · rw [if_pos (Or.inr (Or.inr c3))]
        refine gr_icF (t := 36) rfl (by decide) (by omega) (by omega) (cN_ne (by omega)) ?_
        refine gr_run (pc' := 35) 1 rfl ?_
        exact gr_ret rfl rfl
      · rw [if_neg (fun q => q.elim (fun a => a c1) (fun q => q.elim (fun a => a c2) c3))]
        refine gr_icT (t := 36) rfl (by decide) (by omega) (by omega) (cI_ne (by omega)) ?_
        refine gr_run (pc' := 37) 1 rfl ?_
        refine gr_getf rfl rfl (by repeat (first | exact up_s | assumption | refine up_n (by first | assumption | decide | omega) ?_)) (by first | assumption | rfl) rfl ?_
        refine gr_run (pc' := 41) 1 rfl ?_
        refine gr_callV (As := [_]) lk_6_95 rfl rfl (r_X2_heightAt p1 p2 rfl rfl hn p3 (by omega)) (by repeat (first | exact up_s | assumption | refine up_n (by first | assumption | decide | omega) ?_)) (by first | assumption | exact Nat.le_of_ble_eq_true rfl | exact Nat.le_of_ble_eq_true (by assumption)) rfl rfl rfl rfl rfl ?_
        rw [hg_lt (by omega)]
        by_cases c4 : σ.2.1.2 k = 0
        · rw [if_pos c4]
          refine gr_ifF (t := 52) rfl (by decide) (by omega) (cN_ne (by omega)) ?_
          refine gr_run (pc' := 53) 2 rfl ?_
          exact gr_ret rfl rfl
        · rw [if_neg c4]
          refine gr_ifT (t := 52) rfl (by decide) (by omega) (cI_ne (by omega)) ?_
          refine gr_run (pc' := 53) 1 rfl ?_
          exact gr_ret rfl rfl
    · rw [if_pos (Or.inr (Or.inl c2))]
      by_cases c3 : z < 1
      · refine gr_ifF (t := 34) rfl (by decide) (by omega) (cN_eq (by omega)) ?_
        refine gr_run (pc' := 13) 2 rfl ?_
        refine gr_icT (t := 34) rfl (by decide) (by omega) (by omega) (cI_lt (by omega)) ?_
        refine gr_run (pc' := 35) 1 rfl ?_
        exact gr_ret rfl rfl
      · refine gr_ifF (t := 34) rfl (by decide) (by omega) (cN_eq (by omega)) ?_
        refine gr_run (pc' := 13) 2 rfl ?_
        refine gr_icF (t := 34) rfl (by decide) (by omega) (by omega) (cN_lt (by omega)) ?_
        refine gr_run (pc' := 19) 2 rfl ?_
        refine gr_icT (t := 34) rfl (by decide) (by omega) (by omega) (cI_gt (by omega)) ?_
        refine gr_run (pc' := 35) 1 rfl ?_
        exact gr_ret rfl rfl
  · rw [if_pos (Or.inl c1)]
    refine gr_callV (As := [_]) lk_6_108 rfl rfl (r_X2_hasPlaceF p1 rfl hn.2 hy (by omega)) (by repeat (first | exact up_s | assumption | refine up_n (by first | assumption | decide | omega) ?_)) (by first | assumption | exact Nat.le_of_ble_eq_true rfl | exact Nat.le_of_ble_eq_true (by assumption)) rfl rfl rfl rfl rfl ?_
    refine gr_ifT (t := 34) rfl (by decide) (by omega) (cI_eq (by omega)) ?_
    refine gr_run (pc' := 35) 1 rfl ?_
    exact gr_ret rfl rfl
theorem x_meetsT {k x : Nat} (hX : RepX σ A) (hS : okT σ.2.1) (hk : k < σ.2.1.1) (hx : x ≤ 9) (h : (airN σ.2.1.1 σ.2.1.2 k).testBit x = true) : Rt mX6_meets (d + 3) [.ref 0, .int (iI k), .int (iI x)] A (some (.int (iI 1))) A := by
  have h0 := hX.1
  obtain ⟨p1, f, p2, p3⟩ := hX.2.2.1
  have hn := hS.1.1
  refine rt_intro kX6_meets rfl rfl rfl ?_
  refine gr_run (pc' := 1) 1 rfl ?_
  refine gr_getf rfl rfl (by repeat (first | exact up_s | assumption | refine up_n (by first | assumption | decide | omega) ?_)) (by first | assumption | rfl) rfl ?_
  refine gr_run (pc' := 5) 1 rfl ?_
  refine gr_callV (As := [_]) lk_6_105 rfl rfl (r_X2_airAhead p1 p2 rfl rfl hS.1 p3 (by omega)) (by repeat (first | exact up_s | assumption | refine up_n (by first | assumption | decide | omega) ?_)) (by first | assumption | exact Nat.le_of_ble_eq_true rfl | exact Nat.le_of_ble_eq_true (by assumption)) rfl rfl rfl rfl rfl ?_
  refine gr_run (pc' := 9) 1 rfl ?_
  refine gr_callS (As := [_, _]) lk_6_208 rfl rfl (r_isTakenT (airN_lt hS.1 k) hx h) rfl rfl rfl ?_
  exact gr_ret rfl rfl
theorem x_meetsF {k x : Nat} (hX : RepX σ A) (hS : okT σ.2.1) (hk : k < σ.2.1.1) (hx : x ≤ 9) (h : (airN σ.2.1.1 σ.2.1.2 k).testBit x = false) : Rt mX6_meets (d + 3) [.ref 0, .int (iI k), .int (iI x)] A (some (.int (iI 0))) A := by
  have h0 := hX.1
  obtain ⟨p1, f, p2, p3⟩ := hX.2.2.1
  have hn := hS.1.1
  refine rt_intro kX6_meets rfl rfl rfl ?_
  refine gr_run (pc' := 1) 1 rfl ?_
  refine gr_getf rfl rfl (by repeat (first | exact up_s | assumption | refine up_n (by first | assumption | decide | omega) ?_)) (by first | assumption | rfl) rfl ?_
  refine gr_run (pc' := 5) 1 rfl ?_
  refine gr_callV (As := [_]) lk_6_105 rfl rfl (r_X2_airAhead p1 p2 rfl rfl hS.1 p3 (by omega)) (by repeat (first | exact up_s | assumption | refine up_n (by first | assumption | decide | omega) ?_)) (by first | assumption | exact Nat.le_of_ble_eq_true rfl | exact Nat.le_of_ble_eq_true (by assumption)) rfl rfl rfl rfl rfl ?_
  refine gr_run (pc' := 9) 1 rfl ?_
  refine gr_callS (As := [_, _]) lk_6_208 rfl rfl (r_isTakenF (airN_lt hS.1 k) hx h) rfl rfl rfl ?_
  exact gr_ret rfl rfl
theorem x_together {y z : Int} (hX : RepX σ A) (hS : okT σ.2.1) (hy : bd y) (hz : bd z) : Rt mX6_together (d + 4) [.ref 0, .int (iI y), .int (iI z)] A (some (.int (iI (togN σ.2.1 y z)))) A := by
  have h0 := hX.1
  have hb := barN_bd σ.2.1 y z
  unfold togN
  refine rt_intro kX6_together rfl rfl rfl ?_
  refine gr_run (pc' := 3) 3 rfl ?_
  refine gr_callV (As := [_, _]) lk_6_186 rfl rfl (x_slip hX hS hy hz) (by repeat (first | exact up_s | assumption | refine up_n (by first | assumption | decide | omega) ?_)) (by first | assumption | exact Nat.le_of_ble_eq_true rfl | exact Nat.le_of_ble_eq_true (by assumption)) rfl rfl rfl rfl rfl ?_
  by_cases c : barN σ.2.1 y z < 0
  · rw [if_pos c]
    refine gr_run (pc' := 8) 2 rfl ?_
    refine gr_ifF (t := 15) rfl (by decide) (by omega) (cN_eq (by omega)) ?_
    refine gr_run (pc' := 29) 2 rfl ?_
    exact gr_ret rfl rfl
  · rw [if_neg c]
    obtain ⟨o1, o2, o3, o4⟩ := barN_ok c
    obtain ⟨k, rfl⟩ : ∃ k : Nat, y = (k : Int) := ⟨y.toNat, by omega⟩
    obtain ⟨x, rfl⟩ : ∃ x : Nat, z = (x : Int) := ⟨z.toNat, by omega⟩
    simp only [Int.toNat_natCast] at o4 ⊢
    have hbh := bh_odd (a := airN σ.2.1.1 σ.2.1.2 k) (x := x) (air_odd hS (by omega) o4) (by omega)
    refine gr_run (pc' := 8) 2 rfl ?_
    refine gr_ifT (t := 15) rfl (by decide) (by omega) (cI_eq (by omega)) ?_
    refine gr_run (pc' := 18) 3 rfl ?_
    by_cases c2 : (airN σ.2.1.1 σ.2.1.2 k).testBit x = true
    · rw [if_pos c2] at hbh
      rw [if_pos hbh]
      refine gr_callV (As := [_, _]) lk_6_190 rfl rfl (x_meetsT hX hS (by omega) (by omega) c2) (by repeat (first | exact up_s | assumption | refine up_n (by first | assumption | decide | omega) ?_)) (by first | assumption | exact Nat.le_of_ble_eq_true rfl | exact Nat.le_of_ble_eq_true (by assumption)) rfl rfl rfl rfl rfl ?_
      refine gr_ifF (t := 28) rfl (by decide) (by omega) (cN_eq (by omega)) ?_
      refine gr_run (pc' := 29) 2 rfl ?_
      exact gr_ret rfl rfl
    · rw [if_neg c2] at hbh
      have hbn : ¬ bhN (airN σ.2.1.1 σ.2.1.2 k) x = -4 := by omega
      rw [if_neg hbn]
      refine gr_callV (As := [_, _]) lk_6_190 rfl rfl (x_meetsF hX hS (by omega) (by omega) (by simpa using c2)) (by repeat (first | exact up_s | assumption | refine up_n (by first | assumption | decide | omega) ?_)) (by first | assumption | exact Nat.le_of_ble_eq_true rfl | exact Nat.le_of_ble_eq_true (by assumption)) rfl rfl rfl rfl rfl ?_
      refine gr_ifT (t := 28) rfl (by decide) (by omega) (cI_eq (by omega)) ?_
      refine gr_run (pc' := 29) 1 rfl ?_
      exact gr_ret rfl rfl
theorem x_mended {y z : Int} (hX : RepX σ A) (hS : okT σ.2.1) (hy : bd y) (hz : bd z) : ∃ A', Rt mX6_mended (d + 4) [.ref 0, .int (iI y), .int (iI z)] A (some (.int (iI (menN σ.2.1 y z)))) A' ∧ RepX σ A' ∧ offE A A' 0 42 := by
  have h0 := hX.1
  obtain ⟨p1, f, p2, p3⟩ := hX.2.2.1
  have hbb := barN_bd σ.2.1 y z
  by_cases hb : barN σ.2.1 y z < 0
  · have e : menN σ.2.1 y z = barN σ.2.1 y z := if_pos hb
    rw [e]
    refine ⟨A, ?_, hX, offE.rf⟩
    refine rt_intro kX6_mended rfl rfl rfl ?_
    refine gr_run (pc' := 3) 3 rfl ?_
    refine gr_callV (As := [_, _]) lk_6_186 rfl rfl (x_slip hX hS hy hz) (by repeat (first | exact up_s | assumption | refine up_n (by first | assumption | decide | omega) ?_)) (by first | assumption | exact Nat.le_of_ble_eq_true rfl | exact Nat.le_of_ble_eq_true (by assumption)) rfl rfl rfl rfl rfl ?_
    refine gr_run (pc' := 8) 2 rfl ?_
    refine gr_ifF (t := 13) rfl (by decide) (by omega) (cN_eq (by omega)) ?_
    refine gr_run (pc' := 12) 1 rfl ?_
    exact gr_ret rfl rfl
  have hb0 : barN σ.2.1 y z = 0 := by omega
  obtain ⟨o1, o2, o3, o4⟩ := barN_ok hb
  obtain ⟨k, rfl⟩ : ∃ k : Nat, y = (k : Int) := ⟨y.toNat, by omega⟩
  obtain ⟨x, rfl⟩ : ∃ x : Nat, z = (x : Int) := ⟨z.toNat, by omega⟩
  simp only [Int.toNat_natCast] at o4
  have hnn := hS.1.1
  have ha := airN_lt hS.1 (k : Int)
  have hbh := bh_odd (a := airN σ.2.1.1 σ.2.1.2 k) (x := x) (air_odd hS (by omega) o4) (by omega)
  have em : menN σ.2.1 k x = @ite Int (bhN (airN σ.2.1.1 σ.2.1.2 k) x = -4) (Classical.propDecidable _) (-4) (tmF (fun n => RS (bhN (airN σ.2.1.1 σ.2.1.2 k) x).toNat n (airN σ.2.1.1 σ.2.1.2 ((k : Int) + 1 + (n : Int)))) 9 1) := if_neg hb
  by_cases c2 : (airN σ.2.1.1 σ.2.1.2 k).testBit x = true
  · rw [if_pos c2] at hbh
    have em2 : menN σ.2.1 k x = -4 := em.trans (if_pos hbh)
    rw [em2]
    refine ⟨A, ?_, hX, offE.rf⟩
    refine rt_intro kX6_mended rfl rfl rfl ?_
    refine gr_run (pc' := 3) 3 rfl ?_
    refine gr_callV (As := [_, _]) lk_6_186 rfl rfl (x_slip hX hS hy hz) (by repeat (first | exact up_s | assumption | refine up_n (by first | assumption | decide | omega) ?_)) (by first | assumption | exact Nat.le_of_ble_eq_true rfl | exact Nat.le_of_ble_eq_true (by assumption)) rfl rfl rfl rfl rfl ?_
    rw [hb0]
    refine gr_run (pc' := 8) 2 rfl ?_
    refine gr_ifT (t := 13) rfl (by decide) (by omega) (cI_eq (by omega)) ?_
    refine gr_run (pc' := 16) 3 rfl ?_
    refine gr_callV (As := [_, _]) lk_6_190 rfl rfl (x_meetsT hX hS (by omega) (by omega) c2) (by repeat (first | exact up_s | assumption | refine up_n (by first | assumption | decide | omega) ?_)) (by first | assumption | exact Nat.le_of_ble_eq_true rfl | exact Nat.le_of_ble_eq_true (by assumption)) rfl rfl rfl rfl rfl ?_
    refine gr_ifF (t := 25) rfl (by decide) (by omega) (cN_eq (by omega)) ?_
    refine gr_run (pc' := 24) 1 rfl ?_
    exact gr_ret rfl rfl
  · rw [if_neg c2] at hbh
    have em2 := em.trans (if_neg (by omega))
    rw [hbh, Int.toNat_natCast] at em2
    rw [em2]
    obtain ⟨x0, a0, q0, r0, h1, h2, h3, h4⟩ := hX.2.2.2.2.2.2.2.2.1
    obtain ⟨rr, r1⟩ := r_X1_throwsToMeet (d := d) (z := (k : Int) + 1) h1 h4 (thr_lt ha (show x ≤ 9 by omega)) p1 p2 rfl rfl (by decide) (by decide) hS.1 p3 (by omega)
    refine ⟨_, ?_, hX.ps (fun k hk => up_o (by omega)) ⟨x0, a0, q0, rr, up_n (by decide) h1, up_n (by decide) h2, up_n (by decide) h3, up_s⟩, offE.rf.up (by omega)⟩
    refine rt_intro kX6_mended rfl rfl rfl ?_
    refine gr_run (pc' := 3) 3 rfl ?_
    refine gr_callV (As := [_, _]) lk_6_186 rfl rfl (x_slip hX hS hy hz) (by repeat (first | exact up_s | assumption | refine up_n (by first | assumption | decide | omega) ?_)) (by first | assumption | exact Nat.le_of_ble_eq_true rfl | exact Nat.le_of_ble_eq_true (by assumption)) rfl rfl rfl rfl rfl ?_
    rw [hb0]
    refine gr_run (pc' := 8) 2 rfl ?_
    refine gr_ifT (t := 13) rfl (by decide) (by omega) (cI_eq (by omega)) ?_
    refine gr_run (pc' := 16) 3 rfl ?_
    refine gr_callV (As := [_, _]) lk_6_190 rfl rfl (x_meetsF hX hS (by omega) (by omega) (by simpa using c2)) (by repeat (first | exact up_s | assumption | refine up_n (by first | assumption | decide | omega) ?_)) (by first | assumption | exact Nat.le_of_ble_eq_true rfl | exact Nat.le_of_ble_eq_true (by assumption)) rfl rfl rfl rfl rfl ?_
    refine gr_ifT (t := 25) rfl (by decide) (by omega) (cI_eq (by omega)) ?_
    refine gr_run (pc' := 26) 1 rfl ?_
    refine gr_getf rfl rfl (by repeat (first | exact up_s | assumption | refine up_n (by first | assumption | decide | omega) ?_)) (by first | assumption | rfl) rfl ?_
    refine gr_run (pc' := 30) 1 rfl ?_
    refine gr_getf rfl rfl (by repeat (first | exact up_s | assumption | refine up_n (by first | assumption | decide | omega) ?_)) (by first | assumption | rfl) rfl ?_
    refine gr_run (pc' := 34) 1 rfl ?_
    refine gr_callV (As := [_]) lk_6_105 rfl rfl (r_X2_airAhead p1 p2 rfl rfl hS.1 p3 (by omega)) (by repeat (first | exact up_s | assumption | refine up_n (by first | assumption | decide | omega) ?_)) (by first | assumption | exact Nat.le_of_ble_eq_true rfl | exact Nat.le_of_ble_eq_true (by assumption)) rfl rfl rfl rfl rfl ?_
    refine gr_run (pc' := 38) 1 rfl ?_
    refine gr_callS (As := [_, _]) lk_6_194 rfl rfl (r_thrown ha (by omega)) rfl rfl rfl ?_
    refine gr_run (pc' := 42) 1 rfl ?_
    refine gr_getf rfl rfl (by repeat (first | exact up_s | assumption | refine up_n (by first | assumption | decide | omega) ?_)) (by first | assumption | rfl) rfl ?_
    refine gr_run (pc' := 47) 2 rfl ?_
    refine gr_iadd rfl ?_
    refine gr_callV (As := [_, _, _]) lk_6_197 rfl rfl (r1) (by repeat (first | exact up_s | assumption | refine up_n (by first | assumption | decide | omega) ?_)) (by first | assumption | exact Nat.le_of_ble_eq_true rfl | exact Nat.le_of_ble_eq_true (by assumption)) rfl rfl rfl rfl rfl ?_
    exact gr_ret rfl rfl
end XE
