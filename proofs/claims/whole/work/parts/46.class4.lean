/-! the class: all, nth, rank, next, primes, draw, steps -/
section XD
variable {d : Nat} {A : AH} {σ : SS}
theorem x_prep {p m : Nat} (hX : RepX σ A) (hp : 1 ≤ p ∧ p ≤ 8) (hm : m ≤ 9) : ∃ (g : Nat → Int32) (L T : Int), A 33 = Ob 0 [.ref 34, .int (iI L), .int (iI T)] ∧ Rt mX0_prepare (d + 2) [.ref 33, .int (iI p), .int (iI m)] A none (va_up (va_up A 33 (Ob 0 [.ref 34, .int (iI p), .int (iI m)])) 34 (Ia 1792 g)) ∧ tabOKf p m g ∧ RepX σ (va_up (va_up A 33 (Ob 0 [.ref 34, .int (iI p), .int (iI m)])) 34 (Ia 1792 g)) := by
  have hc := hX.2.2.2.2.2.2.2.1
  obtain ⟨g, r, hg⟩ := r_X0_prepare (d := d) hc rfl rfl hp hm
  obtain ⟨L, T, f, c1, -⟩ := hc
  exact ⟨g, L, T, c1, r, hg, hX.cen hp.2 hm hg⟩
theorem x_allF {p b m : Int} (bp : bd p) (bb : bd b) (bm : bd m) (h : ¬ told p b m) : Rt mX6_all (d + 1) [.ref 0, .int (iI p), .int (iI b), .int (iI m)] A (some (.long (lI (-1)))) A := by
  refine rt_intro kX6_all rfl rfl trivial ?_
  refine gr_run (pc' := 3) 3 rfl ?_
  refine gr_callS (As := [_, _, _]) lk_6_139 rfl rfl (r_isListedF bp bb bm h) rfl rfl rfl ?_
  refine gr_ifF (t := 13) rfl (by decide) (by omega) (cN_ne (by omega)) ?_
  refine gr_run (pc' := 12) 1 rfl ?_
  exact gr_ret rfl rfl
theorem x_all {p b m : Nat} (hX : RepX σ A) (hp : 1 ≤ p ∧ p ≤ 8) (hb : 1 ≤ b ∧ b ≤ 6) (hm : 1 ≤ m ∧ m ≤ 9) : ∃ A', Rt mX6_all (d + 3) [.ref 0, .int (iI p), .int (iI b), .int (iI m)] A (some (.long (lI ((FF p m 0 b : Nat) : Int)))) A' ∧ RepX σ A' ∧ offE A A' 0 42 := by
  have h0 := hX.1
  have hF := FF_le hp.2 hm.2 0 b
  obtain ⟨g, L, T, c1, r1, hg, hX1⟩ := x_prep (d := d) hX hp hm.2
  refine ⟨_, ?_, hX1, (offE.rf.up (by omega)).up (by omega)⟩
  refine rt_intro kX6_all rfl rfl trivial ?_
  refine gr_run (pc' := 3) 3 rfl ?_
  refine gr_callS (As := [_, _, _]) lk_6_139 rfl rfl (r_isListedT (by omega) (by omega) (by omega)) rfl rfl rfl ?_
  refine gr_ifT (t := 13) rfl (by decide) (by omega) (cI_ne (by omega)) ?_
  refine gr_run (pc' := 14) 1 rfl ?_
  refine gr_getf rfl rfl (by repeat (first | exact up_s | assumption | refine up_n (by first | assumption | decide | omega) ?_)) (by first | assumption | rfl) rfl ?_
  refine gr_run (pc' := 19) 2 rfl ?_
  refine gr_callV (As := [_, _]) lk_6_145 rfl rfl (r1) (by repeat (first | exact up_s | assumption | refine up_n (by first | assumption | decide | omega) ?_)) (by first | assumption | exact Nat.le_of_ble_eq_true rfl | exact Nat.le_of_ble_eq_true (by assumption)) rfl rfl rfl rfl rfl ?_
  refine gr_run (pc' := 23) 1 rfl ?_
  refine gr_getf rfl rfl (by repeat (first | exact up_s | assumption | refine up_n (by first | assumption | decide | omega) ?_)) (by first | assumption | rfl) rfl ?_
  refine gr_run (pc' := 27) 1 rfl ?_
  refine gr_callV (As := [_]) lk_6_148 rfl rfl (r_X0_total (up_n (by decide) up_s) up_s rfl rfl hb.2 hg) (by repeat (first | exact up_s | assumption | refine up_n (by first | assumption | decide | omega) ?_)) (by first | assumption | exact Nat.le_of_ble_eq_true rfl | exact Nat.le_of_ble_eq_true (by assumption)) rfl rfl rfl rfl rfl ?_
  refine gr_i2l rfl (by omega) ?_
  exact gr_ret rfl rfl
theorem x_nthB {p b m v : Int} (bp : bd p) (bb : bd b) (bm : bd m) (bv : bdl v) (h : ¬ told p b m ∨ v < 0) : Rt mX6_nth (d + 1) [.ref 0, .int (iI p), .int (iI b), .int (iI m), .long (lI v)] A (some (.int (iI (-1)))) A := by
  by_cases ht : told p b m
  · have hv : v < 0 := h.elim (fun q => absurd ht q) id
    have hz : cmpZ v ((0 : Fin 2).val : Int) = -1 := cmpZ_lt hv
    refine rt_intro kX6_nth rfl rfl rfl ?_
    refine gr_run (pc' := 3) 3 rfl ?_
    refine gr_callS (As := [_, _, _]) lk_6_139 rfl rfl (r_isListedT ht.1 ht.2.1 ht.2.2) rfl rfl rfl ?_
    refine gr_ifF (t := 16) rfl (by decide) (by omega) (cN_eq (by omega)) ?_
    refine gr_run (pc' := 12) 2 rfl ?_
    refine gr_lcmp rfl (by omega) (by omega) ?_
    refine gr_ifF (t := 18) rfl (by decide) (by omega) (cN_ge (by omega)) ?_
    refine gr_run (pc' := 17) 1 rfl ?_
    exact gr_ret rfl rfl
  · refine rt_intro kX6_nth rfl rfl rfl ?_
    refine gr_run (pc' := 3) 3 rfl ?_
    refine gr_callS (As := [_, _, _]) lk_6_139 rfl rfl (r_isListedF bp bb bm ht) rfl rfl rfl ?_
    refine gr_ifT (t := 16) rfl (by decide) (by omega) (cI_eq (by omega)) ?_
    refine gr_run (pc' := 17) 1 rfl ?_
    exact gr_ret rfl rfl
theorem x_nthN {p b m : Nat} {v : Int} (hX : RepX σ A) (hp : 1 ≤ p ∧ p ≤ 8) (hb : 1 ≤ b ∧ b ≤ 6) (hm : 1 ≤ m ∧ m ≤ 9) (bv : bdl v) (hv : ((FF p m 0 b : Nat) : Int) ≤ v) : ∃ A', Rt mX6_nth (d + 3) [.ref 0, .int (iI p), .int (iI b), .int (iI m), .long (lI v)] A (some (.int (iI (-4)))) A' ∧ RepX σ A' ∧ offE A A' 0 42 := by
  have h0 := hX.1
  have hF := FF_le hp.2 hm.2 0 b
  obtain ⟨g, L, T, c1, r1, hg, hX1⟩ := x_prep (d := d) hX hp hm.2
  have hz1 : 0 ≤ cmpZ v ((0 : Fin 2).val : Int) ∧ cmpZ v ((0 : Fin 2).val : Int) ≤ 1 := cmpZ_ge (show (0 : Int) ≤ v by omega)
  have hz2 := cmpZ_ge hv
  refine ⟨_, ?_, hX1, (offE.rf.up (by omega)).up (by omega)⟩
  refine rt_intro kX6_nth rfl rfl rfl ?_
  refine gr_run (pc' := 3) 3 rfl ?_
  refine gr_callS (As := [_, _, _]) lk_6_139 rfl rfl (r_isListedT (by omega) (by omega) (by omega)) rfl rfl rfl ?_
  refine gr_ifF (t := 16) rfl (by decide) (by omega) (cN_eq (by omega)) ?_
  refine gr_run (pc' := 12) 2 rfl ?_
  refine gr_lcmp rfl (by omega) (by omega) ?_
  refine gr_ifT (t := 18) rfl (by decide) (by omega) (cI_ge (by omega)) ?_
  refine gr_run (pc' := 19) 1 rfl ?_
  refine gr_getf rfl rfl (by repeat (first | exact up_s | assumption | refine up_n (by first | assumption | decide | omega) ?_)) (by first | assumption | rfl) rfl ?_
  refine gr_run (pc' := 24) 2 rfl ?_
  refine gr_callV (As := [_, _]) lk_6_145 rfl rfl (r1) (by repeat (first | exact up_s | assumption | refine up_n (by first | assumption | decide | omega) ?_)) (by first | assumption | exact Nat.le_of_ble_eq_true rfl | exact Nat.le_of_ble_eq_true (by assumption)) rfl rfl rfl rfl rfl ?_
  refine gr_run (pc' := 30) 2 rfl ?_
  refine gr_getf rfl rfl (by repeat (first | exact up_s | assumption | refine up_n (by first | assumption | decide | omega) ?_)) (by first | assumption | rfl) rfl ?_
  refine gr_run (pc' := 34) 1 rfl ?_
  refine gr_callV (As := [_]) lk_6_148 rfl rfl (r_X0_total (up_n (by decide) up_s) up_s rfl rfl hb.2 hg) (by repeat (first | exact up_s | assumption | refine up_n (by first | assumption | decide | omega) ?_)) (by first | assumption | exact Nat.le_of_ble_eq_true rfl | exact Nat.le_of_ble_eq_true (by assumption)) rfl rfl rfl rfl rfl ?_
  refine gr_i2l rfl (by omega) ?_
  refine gr_lcmp rfl (by omega) (by omega) ?_
  refine gr_ifF (t := 45) rfl (by decide) (by omega) (cN_lt (by omega)) ?_
  refine gr_run (pc' := 44) 1 rfl ?_
  exact gr_ret rfl rfl
theorem x_picked {p b m v : Nat} {g : Nat → Int32} {x : Int32} {k : Nat → Int32} (hX : RepX σ A) (ho : okS σ) (hp : 1 ≤ p ∧ p ≤ 8) (hb : b ≤ 6) (hm : m ≤ 9) (hv : v < FF p m 0 b) (h33 : A 33 = Ob 0 [.ref 34, .int (iI p), .int (iI m)]) (h34 : A 34 = Ia 1792 g) (hg : tabOKf p m g) (h7 : A 7 = Ob 2 [.ref 8, .int x]) (h8 : A 8 = Ia 10 k) :
    ∃ A1 A' : AH, Rt mX0_pick (d + 2) [.ref 33, .int (iI b), .long (lI v), .ref 7] A none A1 ∧ A1 0 = A 0 ∧ Rt mX6_becomeTrial (d + 2) [.ref 0] A1 (some (.int (iI ((pkH p m b v 0 : Nat) : Int)))) A' ∧ RepX (pkT σ p m b v) A' ∧ offE A A' 0 42 := by
  have r := r_X0_pick (d := d) h33 h34 rfl rfl hp hm hg hb hv h7 h8 rfl rfl (by decide)
  obtain ⟨A', t1, t2, t3⟩ := x_become (d := d) (n := p) (h := pkH p m b v) (hX.trial (iI p) (fun i => if i < p then iI ((pkH p m b v i : Nat) : Int) else k i)) ho (up_n (by decide) up_s) up_s ⟨hp.1, by omega⟩ (fun i hi => if_pos hi)
  exact ⟨_, A', r, (up_o (by decide)).trans (up_o (by decide)), t1, t2, ((offE.rf.up (by omega)).up (by omega)).tr t3⟩
theorem x_nth {p b m v : Nat} (hX : RepX σ A) (ho : okS σ) (hp : 1 ≤ p ∧ p ≤ 8) (hb : 1 ≤ b ∧ b ≤ 6) (hm : 1 ≤ m ∧ m ≤ 9) (hv : v < FF p m 0 b) : ∃ A', Rt mX6_nth (d + 3) [.ref 0, .int (iI p), .int (iI b), .int (iI m), .long (lI v)] A (some (.int (iI ((pkH p m b v 0 : Nat) : Int)))) A' ∧ RepX (pkT σ p m b v) A' ∧ offE A A' 0 42 := by
  have h0 := hX.1
  have hF := FF_le hp.2 hm.2 0 b
  obtain ⟨x, k, h7, h8⟩ := id hX.2.2.2.2.1
  obtain ⟨g, L, T, c1, r1, hg, hX1⟩ := x_prep (d := d) hX hp hm.2
  have hz1 : 0 ≤ cmpZ (v : Int) ((0 : Fin 2).val : Int) ∧ cmpZ (v : Int) ((0 : Fin 2).val : Int) ≤ 1 := cmpZ_ge (show (0 : Int) ≤ (v : Int) by omega)
  have hz2 := cmpZ_lt (show (v : Int) < ((FF p m 0 b : Nat) : Int) by omega)
  obtain ⟨A1, A', s1, s0, s2, s3, s4⟩ := x_picked (d := d) hX1 ho hp hb.2 hm.2 hv (up_n (by decide) up_s) up_s hg (up_n (by decide) (up_n (by decide) h7)) (up_n (by decide) (up_n (by decide) h8))
  have k0 := s0.trans hX1.1
  refine ⟨A', ?_, s3, ((offE.rf.up (by omega)).up (by omega)).tr s4⟩
  refine rt_intro kX6_nth rfl rfl rfl ?_
  refine gr_run (pc' := 3) 3 rfl ?_
  refine gr_callS (As := [_, _, _]) lk_6_139 rfl rfl (r_isListedT (by omega) (by omega) (by omega)) rfl rfl rfl ?_
  refine gr_ifF (t := 16) rfl (by decide) (by omega) (cN_eq (by omega)) ?_
  refine gr_run (pc' := 12) 2 rfl ?_
  refine gr_lcmp rfl (by omega) (by omega) ?_
  refine gr_ifT (t := 18) rfl (by decide) (by omega) (cI_ge (by omega)) ?_
  refine gr_run (pc' := 19) 1 rfl ?_
  refine gr_getf rfl rfl (by repeat (first | exact up_s | assumption | refine up_n (by first | assumption | decide | omega) ?_)) (by first | assumption | rfl) rfl ?_
  refine gr_run (pc' := 24) 2 rfl ?_
  refine gr_callV (As := [_, _]) lk_6_145 rfl rfl (r1) (by repeat (first | exact up_s | assumption | refine up_n (by first | assumption | decide | omega) ?_)) (by first | assumption | exact Nat.le_of_ble_eq_true rfl | exact Nat.le_of_ble_eq_true (by assumption)) rfl rfl rfl rfl rfl ?_
  refine gr_run (pc' := 30) 2 rfl ?_
  refine gr_getf rfl rfl (by repeat (first | exact up_s | assumption | refine up_n (by first | assumption | decide | omega) ?_)) (by first | assumption | rfl) rfl ?_
  refine gr_run (pc' := 34) 1 rfl ?_
  refine gr_callV (As := [_]) lk_6_148 rfl rfl (r_X0_total (up_n (by decide) up_s) up_s rfl rfl hb.2 hg) (by repeat (first | exact up_s | assumption | refine up_n (by first | assumption | decide | omega) ?_)) (by first | assumption | exact Nat.le_of_ble_eq_true rfl | exact Nat.le_of_ble_eq_true (by assumption)) rfl rfl rfl rfl rfl ?_
  refine gr_i2l rfl (by omega) ?_
  refine gr_lcmp rfl (by omega) (by omega) ?_
  refine gr_ifT (t := 45) rfl (by decide) (by omega) (cI_lt (by omega)) ?_
  refine gr_run (pc' := 46) 1 rfl ?_
  refine gr_getf rfl rfl (by repeat (first | exact up_s | assumption | refine up_n (by first | assumption | decide | omega) ?_)) (by first | assumption | rfl) rfl ?_
  refine gr_run (pc' := 53) 3 rfl ?_
  refine gr_getf rfl rfl (by repeat (first | exact up_s | assumption | refine up_n (by first | assumption | decide | omega) ?_)) (by first | assumption | rfl) rfl ?_
  refine gr_callV (As := [_, _, _]) lk_6_151 rfl rfl (s1) (by repeat (first | exact up_s | assumption | refine up_n (by first | assumption | decide | omega) ?_)) (by first | assumption | exact Nat.le_of_ble_eq_true rfl | exact Nat.le_of_ble_eq_true (by assumption)) rfl rfl rfl rfl rfl ?_
  refine gr_run (pc' := 60) 1 rfl ?_
  refine gr_callV (As := []) lk_6_115 rfl rfl (s2) (by repeat (first | exact up_s | assumption | refine up_n (by first | assumption | decide | omega) ?_)) (by first | assumption | exact Nat.le_of_ble_eq_true rfl | exact Nat.le_of_ble_eq_true (by assumption)) rfl rfl rfl rfl rfl ?_
  exact gr_ret rfl rfl
theorem x_isRankedT (hX : RepX σ A) (ho : okS σ) (h : rkd σ.2.1) : Rt mX6_isRanked (d + 1) [.ref 0] A (some (.int (iI 1))) A := by
  have h0 := hX.1
  obtain ⟨p1, f, p2, p3⟩ := hX.2.2.1
  obtain ⟨r1, r2, r3⟩ := h
  have e : sumN σ.2.1.2 σ.2.1.1 / σ.2.1.1 = blN σ.2.1 := rfl
  refine rt_intro kX6_isRanked rfl rfl rfl ?_
  refine gr_run (pc' := 1) 1 rfl ?_
  refine gr_getf rfl rfl (by repeat (first | exact up_s | assumption | refine up_n (by first | assumption | decide | omega) ?_)) (by first | assumption | rfl) rfl ?_
  refine gr_callV (As := []) lk_6_99 rfl rfl (r_X2_ballCount p1 p2 rfl rfl ho.2.1.1 p3) (by repeat (first | exact up_s | assumption | refine up_n (by first | assumption | decide | omega) ?_)) (by first | assumption | exact Nat.le_of_ble_eq_true rfl | exact Nat.le_of_ble_eq_true (by assumption)) rfl rfl rfl rfl rfl ?_
  rw [e]
  refine gr_run (pc' := 9) 2 rfl ?_
  refine gr_getf rfl rfl (by repeat (first | exact up_s | assumption | refine up_n (by first | assumption | decide | omega) ?_)) (by first | assumption | rfl) rfl ?_
  refine gr_callV (As := []) lk_6_94 rfl rfl (r_X2_length p1 rfl) (by repeat (first | exact up_s | assumption | refine up_n (by first | assumption | decide | omega) ?_)) (by first | assumption | exact Nat.le_of_ble_eq_true rfl | exact Nat.le_of_ble_eq_true (by assumption)) rfl rfl rfl rfl rfl ?_
  refine gr_run (pc' := 17) 1 rfl ?_
  refine gr_icF (t := 35) rfl (by decide) (by omega) (by omega) (cN_gt (by omega)) ?_
  refine gr_run (pc' := 22) 2 rfl ?_
  refine gr_icF (t := 35) rfl (by decide) (by omega) (by omega) (cN_lt (by omega)) ?_
  refine gr_run (pc' := 28) 2 rfl ?_
  refine gr_icF (t := 35) rfl (by decide) (by omega) (by omega) (cN_gt (by omega)) ?_
  refine gr_run (pc' := 36) 2 rfl ?_
  exact gr_ret rfl rfl
theorem x_isRankedF (hX : RepX σ A) (ho : okS σ) (h : ¬ rkd σ.2.1) : Rt mX6_isRanked (d + 1) [.ref 0] A (some (.int (iI 0))) A := by
  have h0 := hX.1
  obtain ⟨p1, f, p2, p3⟩ := hX.2.2.1
  have hn := ho.2.1.1.1
  have hb := (blN_le ho.2.1).1
  have e : sumN σ.2.1.2 σ.2.1.1 / σ.2.1.1 = blN σ.2.1 := rfl
  refine rt_intro kX6_isRanked rfl rfl rfl ?_
  refine gr_run (pc' := 1) 1 rfl ?_
  refine gr_getf rfl rfl (by repeat (first | exact up_s | assumption | refine up_n (by first | assumption | decide | omega) ?_)) (by first | assumption | rfl) rfl ?_
  refine gr_callV (As := []) lk_6_99 rfl rfl (r_X2_ballCount p1 p2 rfl rfl ho.2.1.1 p3) (by repeat (first | exact up_s | assumption | refine up_n (by first | assumption | decide | omega) ?_)) (by first | assumption | exact Nat.le_of_ble_eq_true rfl | exact Nat.le_of_ble_eq_true (by assumption)) rfl rfl rfl rfl rfl ?_
  rw [e]
  refine gr_run (pc' := 9) 2 rfl ?_
  refine gr_getf rfl rfl (by repeat (first | exact up_s | assumption | refine up_n (by first | assumption | decide | omega) ?_)) (by first | assumption | rfl) rfl ?_
  refine gr_callV (As := []) lk_6_94 rfl rfl (r_X2_length p1 rfl) (by repeat (first | exact up_s | assumption | refine up_n (by first | assumption | decide | omega) ?_)) (by first | assumption | exact Nat.le_of_ble_eq_true rfl | exact Nat.le_of_ble_eq_true (by assumption)) rfl rfl rfl rfl rfl ?_
  by_cases c1 : σ.2.1.1 ≤ 8
  · by_cases c2 : 1 ≤ blN σ.2.1
    · have c3 : ¬ blN σ.2.1 ≤ 6 := fun q => h ⟨c1, c2, q⟩
      refine gr_run (pc' := 17) 1 rfl ?_
      refine gr_icF (t := 35) rfl (by decide) (by omega) (by omega) (cN_gt (by omega)) ?_
      refine gr_run (pc' := 22) 2 rfl ?_
      refine gr_icF (t := 35) rfl (by decide) (by omega) (by omega) (cN_lt (by omega)) ?_
      refine gr_run (pc' := 28) 2 rfl ?_
      refine gr_icT (t := 35) rfl (by decide) (by omega) (by omega) (cI_gt (by omega)) ?_
      refine gr_run (pc' := 36) 1 rfl ?_
      exact gr_ret rfl rfl
    · refine gr_run (pc' := 17) 1 rfl ?_
      refine gr_icF (t := 35) rfl (by decide) (by omega) (by omega) (cN_gt (by omega)) ?_
      refine gr_run (pc' := 22) 2 rfl ?_
      refine gr_icT (t := 35) rfl (by decide) (by omega) (by omega) (cI_lt (by omega)) ?_
      refine gr_run (pc' := 36) 1 rfl ?_
      exact gr_ret rfl rfl
  · refine gr_run (pc' := 17) 1 rfl ?_
    refine gr_icT (t := 35) rfl (by decide) (by omega) (by omega) (cI_gt (by omega)) ?_
    refine gr_run (pc' := 36) 1 rfl ?_
    exact gr_ret rfl rfl
theorem x_place (hX : RepX σ A) (ho : okS σ) (h : rkd σ.2.1) : ∃ g : Nat → Int32, Rt mX6_placeOfPattern (d + 3) [.ref 0] A (some (.int (iI ((rkA σ.2.1.1 9 σ.2.1.2 (blN σ.2.1) σ.2.1.1 : Nat) : Int)))) (va_up (va_up A 33 (Ob 0 [.ref 34, .int (iI σ.2.1.1), .int (iI ((9 : Nat) : Int))])) 34 (Ia 1792 g)) ∧ tabOKf σ.2.1.1 9 g ∧ RepX σ (va_up (va_up A 33 (Ob 0 [.ref 34, .int (iI σ.2.1.1), .int (iI ((9 : Nat) : Int))])) 34 (Ia 1792 g)) := by
  have h0 := hX.1
  obtain ⟨p1, f, p2, p3⟩ := hX.2.2.1
  have hn := ho.2.1.1.1
  obtain ⟨g, L, T, c1, r1, hg, hX1⟩ := x_prep (d := d) (p := σ.2.1.1) (m := 9) hX ⟨hn.1, h.1⟩ (by omega)
  refine ⟨g, ?_, hg, hX1⟩
  have r2 := r_X0_placeOf (d := d) (A := va_up (va_up A 33 (Ob 0 [.ref 34, .int (iI σ.2.1.1), .int (iI ((9 : Nat) : Int))])) 34 (Ia 1792 g)) (up_n (by decide) up_s) up_s rfl rfl ⟨hn.1, h.1⟩ (by omega) hg (up_n (by decide) (up_n (by decide) p1)) (up_n (by decide) (up_n (by decide) p2)) rfl rfl ho.2.1.1 p3 h.2.2 (fun j hj => rd_le ⟨hn.1, h.1⟩ ho.2.1.2 hj)
  refine rt_intro kX6_placeOfPattern rfl rfl rfl ?_
  refine gr_run (pc' := 1) 1 rfl ?_
  refine gr_getf rfl rfl (by repeat (first | exact up_s | assumption | refine up_n (by first | assumption | decide | omega) ?_)) (by first | assumption | rfl) rfl ?_
  refine gr_run (pc' := 5) 1 rfl ?_
  refine gr_getf rfl rfl (by repeat (first | exact up_s | assumption | refine up_n (by first | assumption | decide | omega) ?_)) (by first | assumption | rfl) rfl ?_
  refine gr_callV (As := []) lk_6_94 rfl rfl (r_X2_length p1 rfl) (by repeat (first | exact up_s | assumption | refine up_n (by first | assumption | decide | omega) ?_)) (by first | assumption | exact Nat.le_of_ble_eq_true rfl | exact Nat.le_of_ble_eq_true (by assumption)) rfl rfl rfl rfl rfl ?_
  refine gr_run (pc' := 13) 1 rfl ?_
  refine gr_callV (As := [_, _]) lk_6_145 rfl rfl (r1) (by repeat (first | exact up_s | assumption | refine up_n (by first | assumption | decide | omega) ?_)) (by first | assumption | exact Nat.le_of_ble_eq_true rfl | exact Nat.le_of_ble_eq_true (by assumption)) rfl rfl rfl rfl rfl ?_
  refine gr_run (pc' := 17) 1 rfl ?_
  refine gr_getf rfl rfl (by repeat (first | exact up_s | assumption | refine up_n (by first | assumption | decide | omega) ?_)) (by first | assumption | rfl) rfl ?_
  refine gr_run (pc' := 21) 1 rfl ?_
  refine gr_getf rfl rfl (by repeat (first | exact up_s | assumption | refine up_n (by first | assumption | decide | omega) ?_)) (by first | assumption | rfl) rfl ?_
  refine gr_callV (As := [_]) lk_6_204 rfl rfl (r2) (by repeat (first | exact up_s | assumption | refine up_n (by first | assumption | decide | omega) ?_)) (by first | assumption | exact Nat.le_of_ble_eq_true rfl | exact Nat.le_of_ble_eq_true (by assumption)) rfl rfl rfl rfl rfl ?_
  exact gr_ret rfl rfl
theorem x_rankF (hX : RepX σ A) (ho : okS σ) (h : ¬ rkd σ.2.1) : Rt mX6_rank (d + 2) [.ref 0] A (some (.long (lI (-2)))) A := by
  have h0 := hX.1
  refine rt_intro kX6_rank rfl rfl trivial ?_
  refine gr_run (pc' := 1) 1 rfl ?_
  refine gr_callV (As := []) lk_6_155 rfl rfl (x_isRankedF hX ho h) (by repeat (first | exact up_s | assumption | refine up_n (by first | assumption | decide | omega) ?_)) (by first | assumption | exact Nat.le_of_ble_eq_true rfl | exact Nat.le_of_ble_eq_true (by assumption)) rfl rfl rfl rfl rfl ?_
  refine gr_ifT (t := 15) rfl (by decide) (by omega) (cI_eq (by omega)) ?_
  refine gr_run (pc' := 18) 1 rfl ?_
  exact gr_ret rfl rfl
theorem rk_bd {σ : SS} (ho : okS σ) (h : rkd σ.2.1) : rkA σ.2.1.1 9 σ.2.1.2 (blN σ.2.1) σ.2.1.1 < FF σ.2.1.1 9 0 (blN σ.2.1) ∧ FF σ.2.1.1 9 0 (blN σ.2.1) ≤ 100000000 :=
  ⟨rk_lt ⟨ho.2.1.1.1.1, h.1⟩ ho.2.1.1.2 ho.2.1.2, FF_le h.1 (by omega) 0 _⟩
theorem x_rank (hX : RepX σ A) (ho : okS σ) (h : rkd σ.2.1) : ∃ A', Rt mX6_rank (d + 4) [.ref 0] A (some (.long (lI ((rkA σ.2.1.1 9 σ.2.1.2 (blN σ.2.1) σ.2.1.1 : Nat) : Int)))) A' ∧ RepX σ A' ∧ offE A A' 0 42 := by
  have h0 := hX.1
  obtain ⟨g, r1, hg, hX1⟩ := x_place (d := d) hX ho h
  have hb := rk_bd ho h
  refine ⟨_, ?_, hX1, (offE.rf.up (by omega)).up (by omega)⟩
  refine rt_intro kX6_rank rfl rfl trivial ?_
  refine gr_run (pc' := 1) 1 rfl ?_
  refine gr_callV (As := []) lk_6_155 rfl rfl (x_isRankedT hX ho h) (by repeat (first | exact up_s | assumption | refine up_n (by first | assumption | decide | omega) ?_)) (by first | assumption | exact Nat.le_of_ble_eq_true rfl | exact Nat.le_of_ble_eq_true (by assumption)) rfl rfl rfl rfl rfl ?_
  refine gr_ifF (t := 15) rfl (by decide) (by omega) (cN_eq (by omega)) ?_
  refine gr_run (pc' := 8) 1 rfl ?_
  refine gr_callV (As := []) lk_6_159 rfl rfl (r1) (by repeat (first | exact up_s | assumption | refine up_n (by first | assumption | decide | omega) ?_)) (by first | assumption | exact Nat.le_of_ble_eq_true rfl | exact Nat.le_of_ble_eq_true (by assumption)) rfl rfl rfl rfl rfl ?_
  refine gr_i2l rfl (by omega) ?_
  refine gr_run (pc' := 18) 1 rfl ?_
  exact gr_ret rfl rfl
theorem x_nextF (hX : RepX σ A) (ho : okS σ) (h : ¬ rkd σ.2.1) : Rt mX6_next (d + 2) [.ref 0] A (some (.int (iI (-2)))) A := by
  have h0 := hX.1
  refine rt_intro kX6_next rfl rfl rfl ?_
  refine gr_run (pc' := 1) 1 rfl ?_
  refine gr_callV (As := []) lk_6_155 rfl rfl (x_isRankedF hX ho h) (by repeat (first | exact up_s | assumption | refine up_n (by first | assumption | decide | omega) ?_)) (by first | assumption | exact Nat.le_of_ble_eq_true rfl | exact Nat.le_of_ble_eq_true (by assumption)) rfl rfl rfl rfl rfl ?_
  refine gr_ifF (t := 10) rfl (by decide) (by omega) (cN_ne (by omega)) ?_
  refine gr_run (pc' := 9) 1 rfl ?_
  exact gr_ret rfl rfl
theorem x_nextN (hX : RepX σ A) (ho : okS σ) (h : rkd σ.2.1) (hl : FF σ.2.1.1 9 0 (blN σ.2.1) ≤ rkA σ.2.1.1 9 σ.2.1.2 (blN σ.2.1) σ.2.1.1 + 1) : ∃ A', Rt mX6_next (d + 4) [.ref 0] A (some (.int (iI (-4)))) A' ∧ RepX σ A' ∧ offE A A' 0 42 := by
  have h0 := hX.1
  obtain ⟨g, r1, hg, hX1⟩ := x_place (d := d) hX ho h
  have hb := rk_bd ho h
  obtain ⟨p1, f, p2, p3⟩ := hX.2.2.1
  have e : sumN σ.2.1.2 σ.2.1.1 / σ.2.1.1 = blN σ.2.1 := rfl
  have hbl := h.2.2
  refine ⟨_, ?_, hX1, (offE.rf.up (by omega)).up (by omega)⟩
  refine rt_intro kX6_next rfl rfl rfl ?_
  refine gr_run (pc' := 1) 1 rfl ?_
  refine gr_callV (As := []) lk_6_155 rfl rfl (x_isRankedT hX ho h) (by repeat (first | exact up_s | assumption | refine up_n (by first | assumption | decide | omega) ?_)) (by first | assumption | exact Nat.le_of_ble_eq_true rfl | exact Nat.le_of_ble_eq_true (by assumption)) rfl rfl rfl rfl rfl ?_
  refine gr_ifT (t := 10) rfl (by decide) (by omega) (cI_ne (by omega)) ?_
  refine gr_run (pc' := 11) 1 rfl ?_
  refine gr_callV (As := []) lk_6_159 rfl rfl (r1) (by repeat (first | exact up_s | assumption | refine up_n (by first | assumption | decide | omega) ?_)) (by first | assumption | exact Nat.le_of_ble_eq_true rfl | exact Nat.le_of_ble_eq_true (by assumption)) rfl rfl rfl rfl rfl ?_
  refine gr_run (pc' := 15) 1 rfl ?_
  refine gr_iadd rfl ?_
  refine gr_run (pc' := 18) 2 rfl ?_
  refine gr_getf rfl rfl (by repeat (first | exact up_s | assumption | refine up_n (by first | assumption | decide | omega) ?_)) (by first | assumption | rfl) rfl ?_
  refine gr_callV (As := []) lk_6_99 rfl rfl (r_X2_ballCount (up_n (by decide) (up_n (by decide) p1)) (up_n (by decide) (up_n (by decide) p2)) rfl rfl ho.2.1.1 p3) (by repeat (first | exact up_s | assumption | refine up_n (by first | assumption | decide | omega) ?_)) (by first | assumption | exact Nat.le_of_ble_eq_true rfl | exact Nat.le_of_ble_eq_true (by assumption)) rfl rfl rfl rfl rfl ?_
  rw [e]
  refine gr_run (pc' := 27) 3 rfl ?_
  refine gr_getf rfl rfl (by repeat (first | exact up_s | assumption | refine up_n (by first | assumption | decide | omega) ?_)) (by first | assumption | rfl) rfl ?_
  refine gr_run (pc' := 31) 1 rfl ?_
  refine gr_callV (As := [_]) lk_6_148 rfl rfl (r_X0_total (up_n (by decide) up_s) up_s rfl rfl hbl hg) (by repeat (first | exact up_s | assumption | refine up_n (by first | assumption | decide | omega) ?_)) (by first | assumption | exact Nat.le_of_ble_eq_true rfl | exact Nat.le_of_ble_eq_true (by assumption)) rfl rfl rfl rfl rfl ?_
  refine gr_icF (t := 40) rfl (by decide) (by omega) (by omega) (cN_lt (by omega)) ?_
  refine gr_run (pc' := 39) 1 rfl ?_
  exact gr_ret rfl rfl
theorem x_next (hX : RepX σ A) (ho : okS σ) (h : rkd σ.2.1) (hl : rkA σ.2.1.1 9 σ.2.1.2 (blN σ.2.1) σ.2.1.1 + 1 < FF σ.2.1.1 9 0 (blN σ.2.1)) : ∃ A', Rt mX6_next (d + 4) [.ref 0] A (some (.int (iI ((pkH σ.2.1.1 9 (blN σ.2.1) (rkA σ.2.1.1 9 σ.2.1.2 (blN σ.2.1) σ.2.1.1 + 1) 0 : Nat) : Int)))) A' ∧ RepX (pkT σ σ.2.1.1 9 (blN σ.2.1) (rkA σ.2.1.1 9 σ.2.1.2 (blN σ.2.1) σ.2.1.1 + 1)) A' ∧ offE A A' 0 42 := by
  have h0 := hX.1
  obtain ⟨g, r1, hg, hX1⟩ := x_place (d := d) hX ho h
  have hb := rk_bd ho h
  obtain ⟨p1, f, p2, p3⟩ := hX.2.2.1
  obtain ⟨x, k, h7, h8⟩ := id hX.2.2.2.2.1
  have e : sumN σ.2.1.2 σ.2.1.1 / σ.2.1.1 = blN σ.2.1 := rfl
  have hbl := h.2.2
  obtain ⟨A1, A', s1, s0, s2, s3, s4⟩ := x_picked (d := d + 1) hX1 ho ⟨ho.2.1.1.1.1, h.1⟩ hbl (by omega) hl (up_n (by decide) up_s) up_s hg (up_n (by decide) (up_n (by decide) h7)) (up_n (by decide) (up_n (by decide) h8))
  have k0 := s0.trans hX1.1
  refine ⟨A', ?_, s3, ((offE.rf.up (by omega)).up (by omega)).tr s4⟩
  refine rt_intro kX6_next rfl rfl rfl ?_
  refine gr_run (pc' := 1) 1 rfl ?_
  refine gr_callV (As := []) lk_6_155 rfl rfl (x_isRankedT hX ho h) (by repeat (first | exact up_s | assumption | refine up_n (by first | assumption | decide | omega) ?_)) (by first | assumption | exact Nat.le_of_ble_eq_true rfl | exact Nat.le_of_ble_eq_true (by assumption)) rfl rfl rfl rfl rfl ?_
  refine gr_ifT (t := 10) rfl (by decide) (by omega) (cI_ne (by omega)) ?_
  refine gr_run (pc' := 11) 1 rfl ?_
  refine gr_callV (As := []) lk_6_159 rfl rfl (r1) (by repeat (first | exact up_s | assumption | refine up_n (by first | assumption | decide | omega) ?_)) (by first | assumption | exact Nat.le_of_ble_eq_true rfl | exact Nat.le_of_ble_eq_true (by assumption)) rfl rfl rfl rfl rfl ?_
  refine gr_run (pc' := 15) 1 rfl ?_
  refine gr_iadd rfl ?_
  refine gr_run (pc' := 18) 2 rfl ?_
  refine gr_getf rfl rfl (by repeat (first | exact up_s | assumption | refine up_n (by first | assumption | decide | omega) ?_)) (by first | assumption | rfl) rfl ?_
  refine gr_callV (As := []) lk_6_99 rfl rfl (r_X2_ballCount (up_n (by decide) (up_n (by decide) p1)) (up_n (by decide) (up_n (by decide) p2)) rfl rfl ho.2.1.1 p3) (by repeat (first | exact up_s | assumption | refine up_n (by first | assumption | decide | omega) ?_)) (by first | assumption | exact Nat.le_of_ble_eq_true rfl | exact Nat.le_of_ble_eq_true (by assumption)) rfl rfl rfl rfl rfl ?_
  rw [e]
  refine gr_run (pc' := 27) 3 rfl ?_
  refine gr_getf rfl rfl (by repeat (first | exact up_s | assumption | refine up_n (by first | assumption | decide | omega) ?_)) (by first | assumption | rfl) rfl ?_
  refine gr_run (pc' := 31) 1 rfl ?_
  refine gr_callV (As := [_]) lk_6_148 rfl rfl (r_X0_total (up_n (by decide) up_s) up_s rfl rfl hbl hg) (by repeat (first | exact up_s | assumption | refine up_n (by first | assumption | decide | omega) ?_)) (by first | assumption | exact Nat.le_of_ble_eq_true rfl | exact Nat.le_of_ble_eq_true (by assumption)) rfl rfl rfl rfl rfl ?_
  refine gr_icT (t := 40) rfl (by decide) (by omega) (by omega) (cI_lt (by omega)) ?_
  refine gr_run (pc' := 41) 1 rfl ?_
  refine gr_getf rfl rfl (by repeat (first | exact up_s | assumption | refine up_n (by first | assumption | decide | omega) ?_)) (by first | assumption | rfl) rfl ?_
  refine gr_run (pc' := 46) 2 rfl ?_
  refine gr_i2l rfl (by omega) ?_
  refine gr_run (pc' := 48) 1 rfl ?_
  refine gr_getf rfl rfl (by repeat (first | exact up_s | assumption | refine up_n (by first | assumption | decide | omega) ?_)) (by first | assumption | rfl) rfl ?_
  rw [show ((rkA σ.2.1.1 9 σ.2.1.2 (blN σ.2.1) σ.2.1.1 : Nat) : Int) + 1 = ((rkA σ.2.1.1 9 σ.2.1.2 (blN σ.2.1) σ.2.1.1 + 1 : Nat) : Int) from rfl]
  refine gr_callV (As := [_, _, _]) lk_6_151 rfl rfl (s1) (by repeat (first | exact up_s | assumption | refine up_n (by first | assumption | decide | omega) ?_)) (by first | assumption | exact Nat.le_of_ble_eq_true rfl | exact Nat.le_of_ble_eq_true (by assumption)) rfl rfl rfl rfl rfl ?_
  refine gr_run (pc' := 55) 1 rfl ?_
  refine gr_callV (As := []) lk_6_115 rfl rfl (s2) (by repeat (first | exact up_s | assumption | refine up_n (by first | assumption | decide | omega) ?_)) (by first | assumption | exact Nat.le_of_ble_eq_true rfl | exact Nat.le_of_ble_eq_true (by assumption)) rfl rfl rfl rfl rfl ?_
  exact gr_ret rfl rfl
theorem r_X0_primeRounds {p b m : Nat} {f g : Nat → Int32} {x : Int32} (h33 : A 33 = Ob 0 [.ref 34, .int (iI p), .int (iI m)]) (h34 : A 34 = Ia 1792 f) (hf : tabOKf p m f) (hp : 1 ≤ p ∧ p ≤ 6) (hb : b ≤ 6) (hm : m ≤ 9) (h7 : A 7 = Ob 2 [.ref 8, .int x]) (h8 : A 8 = Ia 10 g) :
    ∃ g' : Nat → Int32, Rt mX0_primeRounds (d + 11) [.ref 33, .int (iI b), .ref 7] A (some (.int (iI ((pfF p m p 0 0 b (fun _ => 0) : Nat) : Int)))) (va_up (va_up A 7 (Ob 2 [.ref 8, .int (iI p)])) 8 (Ia 10 g')) := by
  obtain ⟨g', r, -⟩ := r_X0_primesFrom (d := d + (6 - p)) (A := va_up A 7 (Ob 2 [.ref 8, .int (iI p)])) (q := 33) (c := 34) (p := p) (m := m) (f := f) (a := 7) (e := 8) (up_n (by decide) h33) (up_n (by decide) h34) rfl rfl ⟨hp.1, by omega⟩ hm hf up_s rfl rfl (by decide) (by decide) (by decide) p 0 0 b (fun _ => 0) g (by omega) (Nat.two_pow_pos p) (by decide) hb (fun i hi => absurd hi (Nat.not_lt_zero i)) (fun i hi => absurd hi (Nat.not_lt_zero i))
  rw [show d + (6 - p) + p + 4 = d + 10 by omega] at r
  have e8 : va_up (va_up A 7 (Ob 2 [.ref 8, .int (iI p)])) 8 (Ia 10 g) = va_up A 7 (Ob 2 [.ref 8, .int (iI p)]) := up_same (up_n (by decide) h8)
  rw [e8] at r
  refine ⟨g', ?_⟩
  refine rt_intro kX0_primeRounds rfl rfl rfl ?_
  refine gr_run (pc' := 2) 2 rfl ?_
  refine gr_getf rfl rfl (by repeat (first | exact up_s | assumption | refine up_n (by first | assumption | decide | omega) ?_)) (by first | assumption | rfl) rfl ?_
  refine gr_callV (As := [_]) lk_0_47 rfl rfl (r_X2_resize h7 rfl ⟨hp.1, by omega⟩) (by repeat (first | exact up_s | assumption | refine up_n (by first | assumption | decide | omega) ?_)) (by first | assumption | exact Nat.le_of_ble_eq_true rfl | exact Nat.le_of_ble_eq_true (by assumption)) rfl rfl rfl rfl rfl ?_
  refine gr_run (pc' := 13) 5 rfl ?_
  refine gr_callV (As := [_, _, _, _]) lk_0_67 rfl rfl (r) (by repeat (first | exact up_s | assumption | refine up_n (by first | assumption | decide | omega) ?_)) (by first | assumption | exact Nat.le_of_ble_eq_true rfl | exact Nat.le_of_ble_eq_true (by assumption)) rfl rfl rfl rfl rfl ?_
  exact gr_ret rfl rfl
theorem x_primesB {p b m : Int} (bp : bd p) (bb : bd b) (bm : bd m) (h : ¬ told p b m ∨ 6 < p) : Rt mX6_primes (d + 1) [.ref 0, .int (iI p), .int (iI b), .int (iI m)] A (some (.int (iI (-1)))) A := by
  by_cases ht : told p b m
  · have hv : 6 < p := h.elim (fun q => absurd ht q) id
    refine rt_intro kX6_primes rfl rfl rfl ?_
    refine gr_run (pc' := 3) 3 rfl ?_
    refine gr_callS (As := [_, _, _]) lk_6_139 rfl rfl (r_isListedT ht.1 ht.2.1 ht.2.2) rfl rfl rfl ?_
    refine gr_ifF (t := 15) rfl (by decide) (by omega) (cN_eq (by omega)) ?_
    refine gr_run (pc' := 12) 2 rfl ?_
    refine gr_icF (t := 17) rfl (by decide) (by omega) (by omega) (cN_le (by omega)) ?_
    refine gr_run (pc' := 16) 1 rfl ?_
    exact gr_ret rfl rfl
  · refine rt_intro kX6_primes rfl rfl rfl ?_
    refine gr_run (pc' := 3) 3 rfl ?_
    refine gr_callS (As := [_, _, _]) lk_6_139 rfl rfl (r_isListedF bp bb bm ht) rfl rfl rfl ?_
    refine gr_ifT (t := 15) rfl (by decide) (by omega) (cI_eq (by omega)) ?_
    refine gr_run (pc' := 16) 1 rfl ?_
    exact gr_ret rfl rfl
theorem x_primes {p b m : Nat} (hX : RepX σ A) (hp6 : 1 ≤ p ∧ p ≤ 6) (hb : 1 ≤ b ∧ b ≤ 6) (hm : 1 ≤ m ∧ m ≤ 9) : ∃ A', Rt mX6_primes (d + 12) [.ref 0, .int (iI p), .int (iI b), .int (iI m)] A (some (.int (iI ((pfF p m p 0 0 b (fun _ => 0) : Nat) : Int)))) A' ∧ RepX σ A' ∧ offE A A' 0 42 := by
  have h0 := hX.1
  obtain ⟨x, k, h7, h8⟩ := id hX.2.2.2.2.1
  obtain ⟨g, L, T, c1, r1, hg, hX1⟩ := x_prep (d := d + 9) (p := p) hX ⟨hp6.1, by omega⟩ hm.2
  obtain ⟨g', r2⟩ := r_X0_primeRounds (d := d) (A := va_up (va_up A 33 (Ob 0 [.ref 34, .int (iI p), .int (iI m)])) 34 (Ia 1792 g)) (up_n (by decide) up_s) up_s hg hp6 hb.2 hm.2 (up_n (by decide) (up_n (by decide) h7)) (up_n (by decide) (up_n (by decide) h8))
  refine ⟨_, ?_, hX1.trial (iI p) g', (((offE.rf.up (by omega)).up (by omega)).up (by omega)).up (by omega)⟩
  refine rt_intro kX6_primes rfl rfl rfl ?_
  refine gr_run (pc' := 3) 3 rfl ?_
  refine gr_callS (As := [_, _, _]) lk_6_139 rfl rfl (r_isListedT (by omega) (by omega) (by omega)) rfl rfl rfl ?_
  refine gr_ifF (t := 15) rfl (by decide) (by omega) (cN_eq (by omega)) ?_
  refine gr_run (pc' := 12) 2 rfl ?_
  refine gr_icT (t := 17) rfl (by decide) (by omega) (by omega) (cI_le (by omega)) ?_
  refine gr_run (pc' := 18) 1 rfl ?_
  refine gr_getf rfl rfl (by repeat (first | exact up_s | assumption | refine up_n (by first | assumption | decide | omega) ?_)) (by first | assumption | rfl) rfl ?_
  refine gr_run (pc' := 23) 2 rfl ?_
  refine gr_callV (As := [_, _]) lk_6_145 rfl rfl (r1) (by repeat (first | exact up_s | assumption | refine up_n (by first | assumption | decide | omega) ?_)) (by first | assumption | exact Nat.le_of_ble_eq_true rfl | exact Nat.le_of_ble_eq_true (by assumption)) rfl rfl rfl rfl rfl ?_
  refine gr_run (pc' := 27) 1 rfl ?_
  refine gr_getf rfl rfl (by repeat (first | exact up_s | assumption | refine up_n (by first | assumption | decide | omega) ?_)) (by first | assumption | rfl) rfl ?_
  refine gr_run (pc' := 32) 2 rfl ?_
  refine gr_getf rfl rfl (by repeat (first | exact up_s | assumption | refine up_n (by first | assumption | decide | omega) ?_)) (by first | assumption | rfl) rfl ?_
  refine gr_callV (As := [_, _]) lk_6_167 rfl rfl (r2) (by repeat (first | exact up_s | assumption | refine up_n (by first | assumption | decide | omega) ?_)) (by first | assumption | exact Nat.le_of_ble_eq_true rfl | exact Nat.le_of_ble_eq_true (by assumption)) rfl rfl rfl rfl rfl ?_
  exact gr_ret rfl rfl
theorem x_drawB {p b m z : Int} (bp : bd p) (bb : bd b) (bm : bd m) (bz : bd z) (h : ¬ told p b m ∨ ¬ (0 ≤ z ∧ z ≤ 9999)) : Rt mX6_draw (d + 1) [.ref 0, .int (iI p), .int (iI b), .int (iI m), .int (iI z)] A (some (.int (iI (-1)))) A := by
  by_cases ht : told p b m
  · have hv : ¬ (0 ≤ z ∧ z ≤ 9999) := h.elim (fun q => absurd ht q) id
    refine rt_intro kX6_draw rfl rfl rfl ?_
    refine gr_run (pc' := 3) 3 rfl ?_
    refine gr_callS (As := [_, _, _]) lk_6_139 rfl rfl (r_isListedT ht.1 ht.2.1 ht.2.2) rfl rfl rfl ?_
    by_cases c : z < 0
    · refine gr_ifF (t := 22) rfl (by decide) (by omega) (cN_eq (by omega)) ?_
      refine gr_run (pc' := 11) 1 rfl ?_
      refine gr_ifT (t := 22) rfl (by decide) (by omega) (cI_lt (by omega)) ?_
      refine gr_run (pc' := 23) 1 rfl ?_
      exact gr_ret rfl rfl
    · refine gr_ifF (t := 22) rfl (by decide) (by omega) (cN_eq (by omega)) ?_
      refine gr_run (pc' := 11) 1 rfl ?_
      refine gr_ifF (t := 22) rfl (by decide) (by omega) (cN_lt (by omega)) ?_
      refine gr_run (pc' := 19) 2 rfl ?_
      refine gr_icF (t := 24) rfl (by decide) (by omega) (by omega) (cN_le (by omega)) ?_
      refine gr_run (pc' := 23) 1 rfl ?_
      exact gr_ret rfl rfl
  · refine rt_intro kX6_draw rfl rfl rfl ?_
    refine gr_run (pc' := 3) 3 rfl ?_
    refine gr_callS (As := [_, _, _]) lk_6_139 rfl rfl (r_isListedF bp bb bm ht) rfl rfl rfl ?_
    refine gr_ifT (t := 22) rfl (by decide) (by omega) (cI_eq (by omega)) ?_
    refine gr_run (pc' := 23) 1 rfl ?_
    exact gr_ret rfl rfl
theorem x_drawN {p b m z : Nat} (hX : RepX σ A) (hp : 1 ≤ p ∧ p ≤ 8) (hb : 1 ≤ b ∧ b ≤ 6) (hm : 1 ≤ m ∧ m ≤ 9) (hz : z ≤ 9999) (hF : FF p m 0 b = 0) : ∃ A', Rt mX6_draw (d + 3) [.ref 0, .int (iI p), .int (iI b), .int (iI m), .int (iI z)] A (some (.int (iI (-4)))) A' ∧ RepX σ A' ∧ offE A A' 0 42 := by
  have h0 := hX.1
  obtain ⟨g, L, T, c1, r1, hg, hX1⟩ := x_prep (d := d) hX hp hm.2
  refine ⟨_, ?_, hX1, (offE.rf.up (by omega)).up (by omega)⟩
  refine rt_intro kX6_draw rfl rfl rfl ?_
  refine gr_run (pc' := 3) 3 rfl ?_
  refine gr_callS (As := [_, _, _]) lk_6_139 rfl rfl (r_isListedT (by omega) (by omega) (by omega)) rfl rfl rfl ?_
  refine gr_ifF (t := 22) rfl (by decide) (by omega) (cN_eq (by omega)) ?_
  refine gr_run (pc' := 11) 1 rfl ?_
  refine gr_ifF (t := 22) rfl (by decide) (by omega) (cN_lt (by omega)) ?_
  refine gr_run (pc' := 19) 2 rfl ?_
  refine gr_icT (t := 24) rfl (by decide) (by omega) (by omega) (cI_le (by omega)) ?_
  refine gr_run (pc' := 25) 1 rfl ?_
  refine gr_getf rfl rfl (by repeat (first | exact up_s | assumption | refine up_n (by first | assumption | decide | omega) ?_)) (by first | assumption | rfl) rfl ?_
  refine gr_run (pc' := 30) 2 rfl ?_
  refine gr_callV (As := [_, _]) lk_6_145 rfl rfl (r1) (by repeat (first | exact up_s | assumption | refine up_n (by first | assumption | decide | omega) ?_)) (by first | assumption | exact Nat.le_of_ble_eq_true rfl | exact Nat.le_of_ble_eq_true (by assumption)) rfl rfl rfl rfl rfl ?_
  refine gr_run (pc' := 34) 1 rfl ?_
  refine gr_getf rfl rfl (by repeat (first | exact up_s | assumption | refine up_n (by first | assumption | decide | omega) ?_)) (by first | assumption | rfl) rfl ?_
  refine gr_run (pc' := 38) 1 rfl ?_
  refine gr_callV (As := [_]) lk_6_148 rfl rfl (r_X0_total (up_n (by decide) up_s) up_s rfl rfl hb.2 hg) (by repeat (first | exact up_s | assumption | refine up_n (by first | assumption | decide | omega) ?_)) (by first | assumption | exact Nat.le_of_ble_eq_true rfl | exact Nat.le_of_ble_eq_true (by assumption)) rfl rfl rfl rfl rfl ?_
  rw [hF]
  refine gr_run (pc' := 46) 3 rfl ?_
  refine gr_icF (t := 52) rfl (by decide) (by omega) (by omega) (cN_ge (by omega)) ?_
  refine gr_run (pc' := 51) 1 rfl ?_
  exact gr_ret rfl rfl
theorem x_draw {p b m z : Nat} (hX : RepX σ A) (ho : okS σ) (hp : 1 ≤ p ∧ p ≤ 8) (hb : 1 ≤ b ∧ b ≤ 6) (hm : 1 ≤ m ∧ m ≤ 9) (hz : z ≤ 9999) (hF : 0 < FF p m 0 b) : ∃ A', Rt mX6_draw (d + 3) [.ref 0, .int (iI p), .int (iI b), .int (iI m), .int (iI z)] A (some (.int (iI ((pkH p m b (dwV z (FF p m 0 b)) 0 : Nat) : Int)))) A' ∧ RepX (pkT σ p m b (dwV z (FF p m 0 b))) A' ∧ offE A A' 0 42 := by
  have h0 := hX.1
  have hFl := FF_le hp.2 hm.2 0 b
  obtain ⟨x, k, h7, h8⟩ := id hX.2.2.2.2.1
  obtain ⟨g, L, T, c1, r1, hg, hX1⟩ := x_prep (d := d) hX hp hm.2
  have hdw := dwN_bd (z := z) (by omega)
  have hv0 : 0 ≤ dwN (z : Int) % ((FF p m 0 b : Nat) : Int) := Int.emod_nonneg _ (by omega)
  have hv1 : dwN (z : Int) % ((FF p m 0 b : Nat) : Int) < ((FF p m 0 b : Nat) : Int) := Int.emod_lt_of_pos _ (by omega)
  have hv : dwV z (FF p m 0 b) < FF p m 0 b := by unfold dwV; omega
  have hve : dwN (z : Int) % ((FF p m 0 b : Nat) : Int) = ((dwV z (FF p m 0 b) : Nat) : Int) := by unfold dwV; omega
  obtain ⟨A1, A', s1, s0, s2, s3, s4⟩ := x_picked (d := d) hX1 ho hp hb.2 hm.2 hv (up_n (by decide) up_s) up_s hg (up_n (by decide) (up_n (by decide) h7)) (up_n (by decide) (up_n (by decide) h8))
  have k0 := s0.trans hX1.1
  refine ⟨A', ?_, s3, ((offE.rf.up (by omega)).up (by omega)).tr s4⟩
  refine rt_intro kX6_draw rfl rfl rfl ?_
  refine gr_run (pc' := 3) 3 rfl ?_
  refine gr_callS (As := [_, _, _]) lk_6_139 rfl rfl (r_isListedT (by omega) (by omega) (by omega)) rfl rfl rfl ?_
  refine gr_ifF (t := 22) rfl (by decide) (by omega) (cN_eq (by omega)) ?_
  refine gr_run (pc' := 11) 1 rfl ?_
  refine gr_ifF (t := 22) rfl (by decide) (by omega) (cN_lt (by omega)) ?_
  refine gr_run (pc' := 19) 2 rfl ?_
  refine gr_icT (t := 24) rfl (by decide) (by omega) (by omega) (cI_le (by omega)) ?_
  refine gr_run (pc' := 25) 1 rfl ?_
  refine gr_getf rfl rfl (by repeat (first | exact up_s | assumption | refine up_n (by first | assumption | decide | omega) ?_)) (by first | assumption | rfl) rfl ?_
  refine gr_run (pc' := 30) 2 rfl ?_
  refine gr_callV (As := [_, _]) lk_6_145 rfl rfl (r1) (by repeat (first | exact up_s | assumption | refine up_n (by first | assumption | decide | omega) ?_)) (by first | assumption | exact Nat.le_of_ble_eq_true rfl | exact Nat.le_of_ble_eq_true (by assumption)) rfl rfl rfl rfl rfl ?_
  refine gr_run (pc' := 34) 1 rfl ?_
  refine gr_getf rfl rfl (by repeat (first | exact up_s | assumption | refine up_n (by first | assumption | decide | omega) ?_)) (by first | assumption | rfl) rfl ?_
  refine gr_run (pc' := 38) 1 rfl ?_
  refine gr_callV (As := [_]) lk_6_148 rfl rfl (r_X0_total (up_n (by decide) up_s) up_s rfl rfl hb.2 hg) (by repeat (first | exact up_s | assumption | refine up_n (by first | assumption | decide | omega) ?_)) (by first | assumption | exact Nat.le_of_ble_eq_true rfl | exact Nat.le_of_ble_eq_true (by assumption)) rfl rfl rfl rfl rfl ?_
  refine gr_run (pc' := 46) 3 rfl ?_
  refine gr_icT (t := 52) rfl (by decide) (by omega) (by omega) (cI_ge (by omega)) ?_
  refine gr_run (pc' := 53) 1 rfl ?_
  refine gr_getf rfl rfl (by repeat (first | exact up_s | assumption | refine up_n (by first | assumption | decide | omega) ?_)) (by first | assumption | rfl) rfl ?_
  refine gr_run (pc' := 59) 2 rfl ?_
  refine gr_callS (As := [_]) lk_6_171 rfl rfl (r_drawnNumber (by omega)) rfl rfl rfl ?_
  refine gr_run (pc' := 64) 1 rfl ?_
  refine gr_i2l rfl (by omega) ?_
  refine gr_lremN rfl (by omega) (by omega) (by omega) (by omega) ?_
  rw [hve]
  refine gr_run (pc' := 67) 1 rfl ?_
  refine gr_getf rfl rfl (by repeat (first | exact up_s | assumption | refine up_n (by first | assumption | decide | omega) ?_)) (by first | assumption | rfl) rfl ?_
  refine gr_callV (As := [_, _, _]) lk_6_151 rfl rfl (s1) (by repeat (first | exact up_s | assumption | refine up_n (by first | assumption | decide | omega) ?_)) (by first | assumption | exact Nat.le_of_ble_eq_true rfl | exact Nat.le_of_ble_eq_true (by assumption)) rfl rfl rfl rfl rfl ?_
  refine gr_run (pc' := 74) 1 rfl ?_
  refine gr_callV (As := []) lk_6_115 rfl rfl (s2) (by repeat (first | exact up_s | assumption | refine up_n (by first | assumption | decide | omega) ?_)) (by first | assumption | exact Nat.le_of_ble_eq_true rfl | exact Nat.le_of_ble_eq_true (by assumption)) rfl rfl rfl rfl rfl ?_
  exact gr_ret rfl rfl
theorem x_stepsN (hX : RepX σ A) (ho : okS σ) (h : σ.2.1.1 ≠ σ.2.2.1.1 ∨ 5 < σ.2.1.1) : Rt mX6_steps (d + 1) [.ref 0] A (some (.int (iI (-2)))) A := by
  have h0 := hX.1
  have h1 := ho.2.1.1.1
  have h2 := ho.2.2.1.1.1
  have p1 := hX.2.2.1.1
  have q1 := hX.2.2.2.1.1
  refine rt_intro kX6_steps rfl rfl rfl ?_
  refine gr_run (pc' := 1) 1 rfl ?_
  refine gr_getf rfl rfl (by repeat (first | exact up_s | assumption | refine up_n (by first | assumption | decide | omega) ?_)) (by first | assumption | rfl) rfl ?_
  refine gr_callV (As := []) lk_6_94 rfl rfl (r_X2_length p1 rfl) (by repeat (first | exact up_s | assumption | refine up_n (by first | assumption | decide | omega) ?_)) (by first | assumption | exact Nat.le_of_ble_eq_true rfl | exact Nat.le_of_ble_eq_true (by assumption)) rfl rfl rfl rfl rfl ?_
  refine gr_run (pc' := 8) 1 rfl ?_
  refine gr_getf rfl rfl (by repeat (first | exact up_s | assumption | refine up_n (by first | assumption | decide | omega) ?_)) (by first | assumption | rfl) rfl ?_
  refine gr_callV (As := []) lk_6_94 rfl rfl (r_X2_length q1 rfl) (by repeat (first | exact up_s | assumption | refine up_n (by first | assumption | decide | omega) ?_)) (by first | assumption | exact Nat.le_of_ble_eq_true rfl | exact Nat.le_of_ble_eq_true (by assumption)) rfl rfl rfl rfl rfl ?_
  by_cases e : σ.2.1.1 = σ.2.2.1.1
  · refine gr_icF (t := 28) rfl (by decide) (by omega) (by omega) (cN_ne (by omega)) ?_
    refine gr_run (pc' := 18) 1 rfl ?_
    refine gr_getf rfl rfl (by repeat (first | exact up_s | assumption | refine up_n (by first | assumption | decide | omega) ?_)) (by first | assumption | rfl) rfl ?_
    refine gr_callV (As := []) lk_6_94 rfl rfl (r_X2_length p1 rfl) (by repeat (first | exact up_s | assumption | refine up_n (by first | assumption | decide | omega) ?_)) (by first | assumption | exact Nat.le_of_ble_eq_true rfl | exact Nat.le_of_ble_eq_true (by assumption)) rfl rfl rfl rfl rfl ?_
    refine gr_run (pc' := 25) 1 rfl ?_
    refine gr_icF (t := 31) rfl (by decide) (by omega) (by omega) (cN_le (by omega)) ?_
    refine gr_run (pc' := 30) 1 rfl ?_
    exact gr_ret rfl rfl
  · refine gr_icT (t := 28) rfl (by decide) (by omega) (by omega) (cI_ne (by omega)) ?_
    refine gr_run (pc' := 30) 1 rfl ?_
    exact gr_ret rfl rfl
theorem x_steps (hX : RepX σ A) (ho : okS σ) (he : σ.2.1.1 = σ.2.2.1.1) (hn5 : σ.2.1.1 ≤ 5) : ∃ (A' : AH) (r : Int), Rt mX6_steps (d + 4) [.ref 0] A (some (.int (iI r))) A' ∧ dOf (nbX σ.2.1.1) (cdX σ.2.1.1 σ.2.1.2) (cdX σ.2.1.1 σ.2.2.1.2) r ∧ RepX σ A' ∧ offE A A' 0 42 := by
  have h0 := hX.1
  obtain ⟨p1, f, p2, p3⟩ := hX.2.2.1
  obtain ⟨q1, g, q2, q3⟩ := hX.2.2.2.1
  have hn := ho.2.1.1.1
  have hn' := ho.2.2.1.1
  have q1' := q1
  rw [← he] at q1' q3 hn'
  have hS0 := hX.2.2.2.2.2.2.2.2.2
  obtain ⟨A', r, r1, r2, r3, r4⟩ := r_X4_fewest (d := d) hS0 hn5 (cap_ok hn5 (cdX_lt ho.2.1.1.2)) p1 p2 rfl rfl ho.2.1.1 p3 q1' q2 rfl rfl hn' q3 (by decide) (by decide) (by decide) (by decide)
  have o : ∀ k, k < 39 → A' k = A k := fun k hk => r2 k (by omega)
  obtain ⟨xx, qf, df, gg, s1, -⟩ := hS0
  refine ⟨A', r, ?_, r4, ⟨(o _ (by omega)).trans hX.1, ⟨(o _ (by omega)).trans hX.2.1.1, hX.2.1.2.o (o _ (by omega))⟩, hX.2.2.1.o (o _ (by omega)) (o _ (by omega)), hX.2.2.2.1.o (o _ (by omega)) (o _ (by omega)), hX.2.2.2.2.1.o (o _ (by omega)) (o _ (by omega)), hX.2.2.2.2.2.1.o rfl rfl (fun k _ _ => o k (by omega)), hX.2.2.2.2.2.2.1.o rfl rfl (fun k _ _ => o k (by omega)), hX.2.2.2.2.2.2.2.1.o (o _ (by omega)) (o _ (by omega)), hX.2.2.2.2.2.2.2.2.1.o (fun k _ _ => o k (by omega)), r3⟩, r2.w (by omega) (by omega)⟩
  refine rt_intro kX6_steps rfl rfl rfl ?_
  refine gr_run (pc' := 1) 1 rfl ?_
  refine gr_getf rfl rfl (by repeat (first | exact up_s | assumption | refine up_n (by first | assumption | decide | omega) ?_)) (by first | assumption | rfl) rfl ?_
  refine gr_callV (As := []) lk_6_94 rfl rfl (r_X2_length p1 rfl) (by repeat (first | exact up_s | assumption | refine up_n (by first | assumption | decide | omega) ?_)) (by first | assumption | exact Nat.le_of_ble_eq_true rfl | exact Nat.le_of_ble_eq_true (by assumption)) rfl rfl rfl rfl rfl ?_
  refine gr_run (pc' := 8) 1 rfl ?_
  refine gr_getf rfl rfl (by repeat (first | exact up_s | assumption | refine up_n (by first | assumption | decide | omega) ?_)) (by first | assumption | rfl) rfl ?_
  refine gr_callV (As := []) lk_6_94 rfl rfl (r_X2_length q1 rfl) (by repeat (first | exact up_s | assumption | refine up_n (by first | assumption | decide | omega) ?_)) (by first | assumption | exact Nat.le_of_ble_eq_true rfl | exact Nat.le_of_ble_eq_true (by assumption)) rfl rfl rfl rfl rfl ?_
  refine gr_icF (t := 28) rfl (by decide) (by omega) (by omega) (cN_ne (by omega)) ?_
  refine gr_run (pc' := 18) 1 rfl ?_
  refine gr_getf rfl rfl (by repeat (first | exact up_s | assumption | refine up_n (by first | assumption | decide | omega) ?_)) (by first | assumption | rfl) rfl ?_
  refine gr_callV (As := []) lk_6_94 rfl rfl (r_X2_length p1 rfl) (by repeat (first | exact up_s | assumption | refine up_n (by first | assumption | decide | omega) ?_)) (by first | assumption | exact Nat.le_of_ble_eq_true rfl | exact Nat.le_of_ble_eq_true (by assumption)) rfl rfl rfl rfl rfl ?_
  refine gr_run (pc' := 25) 1 rfl ?_
  refine gr_icT (t := 31) rfl (by decide) (by omega) (by omega) (cI_le (by omega)) ?_
  refine gr_run (pc' := 32) 1 rfl ?_
  refine gr_getf rfl rfl (by repeat (first | exact up_s | assumption | refine up_n (by first | assumption | decide | omega) ?_)) (by first | assumption | rfl) rfl ?_
  refine gr_run (pc' := 36) 1 rfl ?_
  refine gr_getf rfl rfl (by repeat (first | exact up_s | assumption | refine up_n (by first | assumption | decide | omega) ?_)) (by first | assumption | rfl) rfl ?_
  refine gr_run (pc' := 40) 1 rfl ?_
  refine gr_getf rfl rfl (by repeat (first | exact up_s | assumption | refine up_n (by first | assumption | decide | omega) ?_)) (by first | assumption | rfl) rfl ?_
  refine gr_callV (As := [_, _]) lk_6_182 rfl rfl (r1) (by repeat (first | exact up_s | assumption | refine up_n (by first | assumption | decide | omega) ?_)) (by first | assumption | exact Nat.le_of_ble_eq_true rfl | exact Nat.le_of_ble_eq_true (by assumption)) rfl rfl rfl rfl rfl ?_
  exact gr_ret rfl rfl
end XD
