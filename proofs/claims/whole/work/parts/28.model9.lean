/-! the model: nth, rank, next, draw, prime -/
def blN (p : Pn) : Nat := sumN p.2 p.1 / p.1
theorem blN_le {p : Pn} (h : okT p) : blN p ≤ 9 ∧ sumN p.2 p.1 ≤ 90 := by
  have h1 := h.1.1
  have h2 := sumN_le (m := 9) h.1.2
  refine ⟨?_, by omega⟩
  unfold blN
  exact Nat.div_le_of_le_mul h2
section MB
variable {d : Nat} {A : AH} {σ : SS}
theorem m_nthB {p b m v : Int} (bp : bd p) (bb : bd b) (bm : bd m) (bv : bdl v) (h : ¬ told p b m ∨ v < 0) : Rt mX7_nth (d + 3) [.ref 43, .int (iI p), .int (iI b), .int (iI m), .long (lI v)] A (some (.int (iI (-1)))) A := by
  by_cases ht : told p b m
  · have hv : v < 0 := h.elim (fun q => absurd ht q) id
    have hz : cmpZ v ((0 : Fin 2).val : Int) = -1 := cmpZ_lt hv
    refine rt_intro kX7_nth rfl rfl rfl ?_
    refine gr_run (pc' := 3) 3 rfl ?_
    refine gr_callS (As := [_, _, _]) lk_7_125 rfl rfl (r_areToldT ht) rfl rfl rfl ?_
    refine gr_ifF (t := 16) rfl (by decide) (by omega) (cN_eq (by omega)) ?_
    refine gr_run (pc' := 12) 2 rfl ?_
    refine gr_lcmp rfl (by omega) (by omega) ?_
    refine gr_ifF (t := 18) rfl (by decide) (by omega) (cN_ge (by omega)) ?_
    refine gr_run (pc' := 17) 1 rfl ?_
    exact gr_ret rfl rfl
  · refine rt_intro kX7_nth rfl rfl rfl ?_
    refine gr_run (pc' := 3) 3 rfl ?_
    refine gr_callS (As := [_, _, _]) lk_7_125 rfl rfl (r_areToldF bp bb bm ht) rfl rfl rfl ?_
    refine gr_ifT (t := 16) rfl (by decide) (by omega) (cI_eq (by omega)) ?_
    refine gr_run (pc' := 17) 1 rfl ?_
    exact gr_ret rfl rfl
theorem m_nthN {p b m : Nat} {v : Int} (hR : RepM σ A) (hp : 1 ≤ p ∧ p ≤ 8) (hb : 1 ≤ b ∧ b ≤ 6) (hm : 1 ≤ m ∧ m ≤ 9) (bv : bdl v) (hv : ((FF p m 0 b : Nat) : Int) ≤ v) : ∃ A', Rt mX7_nth (d + 3) [.ref 43, .int (iI p), .int (iI b), .int (iI m), .long (lI v)] A (some (.int (iI (-4)))) A' ∧ RepM σ A' ∧ offE A A' 43 56 := by
  obtain ⟨g', r1, r2⟩ := m_counts (d := d) hR hp hb.2 hm.2
  rw [GG_FF hp] at r1
  have h0 := hR.1
  have hF := FF_le hp.2 hm.2 0 b
  have hz1 : 0 ≤ cmpZ v ((0 : Fin 2).val : Int) ∧ cmpZ v ((0 : Fin 2).val : Int) ≤ 1 := cmpZ_ge (show (0 : Int) ≤ v by omega)
  have hz2 := cmpZ_ge hv
  refine ⟨va_up A 51 (La 12544 g'), ?_, hR.u51 g', offE.rf.up (by omega)⟩
  refine rt_intro kX7_nth rfl rfl rfl ?_
  refine gr_run (pc' := 3) 3 rfl ?_
  refine gr_callS (As := [_, _, _]) lk_7_125 rfl rfl (r_areToldT ⟨by omega, by omega, by omega⟩) rfl rfl rfl ?_
  refine gr_ifF (t := 16) rfl (by decide) (by omega) (cN_eq (by omega)) ?_
  refine gr_run (pc' := 12) 2 rfl ?_
  refine gr_lcmp rfl (by omega) (by omega) ?_
  refine gr_ifT (t := 18) rfl (by decide) (by omega) (cI_ge (by omega)) ?_
  refine gr_run (pc' := 24) 5 rfl ?_
  refine gr_callV (As := [_, _, _]) lk_7_129 rfl rfl (r1) (by repeat (first | exact up_s | assumption | refine up_n (by first | assumption | decide | omega) ?_)) (by first | assumption | exact Nat.le_of_ble_eq_true rfl | exact Nat.le_of_ble_eq_true (by assumption)) rfl rfl rfl rfl rfl ?_
  refine gr_lcmp rfl (by omega) (by omega) ?_
  refine gr_ifF (t := 34) rfl (by decide) (by omega) (cN_lt (by omega)) ?_
  refine gr_run (pc' := 33) 1 rfl ?_
  exact gr_ret rfl rfl
theorem m_nth {p b m v : Nat} (hR : RepM σ A) (ho : okS σ) (hp : 1 ≤ p ∧ p ≤ 8) (hb : 1 ≤ b ∧ b ≤ 6) (hm : 1 ≤ m ∧ m ≤ 9) (hv : v < FF p m 0 b) : ∃ A', Rt mX7_nth (d + 3) [.ref 43, .int (iI p), .int (iI b), .int (iI m), .long (lI v)] A (some (.int (iI ((pkH p m b v 0 : Nat) : Int)))) A' ∧ RepM (pkT σ p m b v) A' ∧ offE A A' 43 56 := by
  obtain ⟨g', r1, r2⟩ := m_counts (d := d) hR hp hb.2 hm.2
  rw [GG_FF hp] at r1
  have h0 := hR.1
  have hF := FF_le hp.2 hm.2 0 b
  have hz1 : 0 ≤ cmpZ (v : Int) ((0 : Fin 2).val : Int) ∧ cmpZ (v : Int) ((0 : Fin 2).val : Int) ≤ 1 := cmpZ_ge (show (0 : Int) ≤ (v : Int) by omega)
  have hz2 := cmpZ_lt (show (v : Int) < ((FF p m 0 b : Nat) : Int) by omega)
  obtain ⟨g'', s1, s2⟩ := m_drafts (d := d) (hR.u51 g') up_s r2 hp hb.2 hm.2 hv
  obtain ⟨A', t1, t2, t3⟩ := m_becomes (d := d + 1) (n := p) (h := pkH p m b v) ((hR.u51 g').u49 g'') ho up_s ⟨hp.1, by omega⟩ s2
  refine ⟨A', ?_, t2, ((offE.rf.up (by omega)).up (by omega)).tr t3⟩
  refine rt_intro kX7_nth rfl rfl rfl ?_
  refine gr_run (pc' := 3) 3 rfl ?_
  refine gr_callS (As := [_, _, _]) lk_7_125 rfl rfl (r_areToldT ⟨by omega, by omega, by omega⟩) rfl rfl rfl ?_
  refine gr_ifF (t := 16) rfl (by decide) (by omega) (cN_eq (by omega)) ?_
  refine gr_run (pc' := 12) 2 rfl ?_
  refine gr_lcmp rfl (by omega) (by omega) ?_
  refine gr_ifT (t := 18) rfl (by decide) (by omega) (cI_ge (by omega)) ?_
  refine gr_run (pc' := 24) 5 rfl ?_
  refine gr_callV (As := [_, _, _]) lk_7_129 rfl rfl (r1) (by repeat (first | exact up_s | assumption | refine up_n (by first | assumption | decide | omega) ?_)) (by first | assumption | exact Nat.le_of_ble_eq_true rfl | exact Nat.le_of_ble_eq_true (by assumption)) rfl rfl rfl rfl rfl ?_
  refine gr_lcmp rfl (by omega) (by omega) ?_
  refine gr_ifT (t := 34) rfl (by decide) (by omega) (cI_lt (by omega)) ?_
  refine gr_run (pc' := 40) 5 rfl ?_
  refine gr_callV (As := [_, _, _, _]) lk_7_133 rfl rfl (s1) (by repeat (first | exact up_s | assumption | refine up_n (by first | assumption | decide | omega) ?_)) (by first | assumption | exact Nat.le_of_ble_eq_true rfl | exact Nat.le_of_ble_eq_true (by assumption)) rfl rfl rfl rfl rfl ?_
  refine gr_run (pc' := 45) 2 rfl ?_
  refine gr_callV (As := [_]) lk_7_137 rfl rfl (t1) (by repeat (first | exact up_s | assumption | refine up_n (by first | assumption | decide | omega) ?_)) (by first | assumption | exact Nat.le_of_ble_eq_true rfl | exact Nat.le_of_ble_eq_true (by assumption)) rfl rfl rfl rfl rfl ?_
  exact gr_ret rfl rfl
def rkd (p : Pn) : Prop := p.1 ≤ 8 ∧ 1 ≤ blN p ∧ blN p ≤ 6
theorem m_isRankedT (hR : RepM σ A) (ho : okS σ) (h : rkd σ.2.1) : Rt mX7_isRanked (d + 2) [.ref 43] A (some (.int (iI 1))) A := by
  obtain ⟨h1, h2, h3⟩ := h
  have h0 := hR.1
  have hb := m_balls (d := d) hR ho.2.1 ho.2.2.1 (z := 0) (by omega)
  rw [if_pos rfl] at hb
  have e : sumN σ.2.1.2 σ.2.1.1 / σ.2.1.1 = blN σ.2.1 := rfl
  rw [e] at hb
  refine rt_intro kX7_isRanked rfl rfl rfl ?_
  refine gr_run (pc' := 1) 1 rfl ?_
  refine gr_getf rfl rfl (by repeat (first | exact up_s | assumption | refine up_n (by first | assumption | decide | omega) ?_)) (by first | assumption | rfl) rfl ?_
  refine gr_run (pc' := 6) 1 rfl ?_
  refine gr_icF (t := 29) rfl (by decide) (by omega) (by omega) (cN_gt (by omega)) ?_
  refine gr_run (pc' := 11) 2 rfl ?_
  refine gr_callV (As := [_]) lk_7_105 rfl rfl (hb) (by repeat (first | exact up_s | assumption | refine up_n (by first | assumption | decide | omega) ?_)) (by first | assumption | exact Nat.le_of_ble_eq_true rfl | exact Nat.le_of_ble_eq_true (by assumption)) rfl rfl rfl rfl rfl ?_
  refine gr_i2l rfl (by omega) ?_
  refine gr_run (pc' := 19) 2 rfl ?_
  refine gr_callS (As := [_, _, _]) lk_7_61 rfl rfl (r_isT (by omega) (by omega) (by omega) (by omega) (by omega)) rfl rfl rfl ?_
  refine gr_ifF (t := 29) rfl (by decide) (by omega) (cN_eq (by omega)) ?_
  refine gr_run (pc' := 30) 2 rfl ?_
  exact gr_ret rfl rfl
theorem m_isRankedF (hR : RepM σ A) (ho : okS σ) (h : ¬ rkd σ.2.1) : Rt mX7_isRanked (d + 2) [.ref 43] A (some (.int (iI 0))) A := by
  unfold rkd at h
  have h0 := hR.1
  have h10 := ho.2.1.1.1
  have hb := m_balls (d := d) hR ho.2.1 ho.2.2.1 (z := 0) (by omega)
  rw [if_pos rfl] at hb
  have e : sumN σ.2.1.2 σ.2.1.1 / σ.2.1.1 = blN σ.2.1 := rfl
  rw [e] at hb
  have hb9 := (blN_le ho.2.1).1
  refine rt_intro kX7_isRanked rfl rfl rfl ?_
  by_cases h1 : σ.2.1.1 ≤ 8
  · refine gr_run (pc' := 1) 1 rfl ?_
    refine gr_getf rfl rfl (by repeat (first | exact up_s | assumption | refine up_n (by first | assumption | decide | omega) ?_)) (by first | assumption | rfl) rfl ?_
    refine gr_run (pc' := 6) 1 rfl ?_
    refine gr_icF (t := 29) rfl (by decide) (by omega) (by omega) (cN_gt (by omega)) ?_
    refine gr_run (pc' := 11) 2 rfl ?_
    refine gr_callV (As := [_]) lk_7_105 rfl rfl (hb) (by repeat (first | exact up_s | assumption | refine up_n (by first | assumption | decide | omega) ?_)) (by first | assumption | exact Nat.le_of_ble_eq_true rfl | exact Nat.le_of_ble_eq_true (by assumption)) rfl rfl rfl rfl rfl ?_
    refine gr_i2l rfl (by omega) ?_
    refine gr_run (pc' := 19) 2 rfl ?_
    refine gr_callS (As := [_, _, _]) lk_7_61 rfl rfl (r_isF (by omega) (by omega) (by omega) (by omega)) rfl rfl rfl ?_
    refine gr_ifT (t := 29) rfl (by decide) (by omega) (cI_eq (by omega)) ?_
    refine gr_run (pc' := 30) 1 rfl ?_
    exact gr_ret rfl rfl
  · refine gr_run (pc' := 1) 1 rfl ?_
    refine gr_getf rfl rfl (by repeat (first | exact up_s | assumption | refine up_n (by first | assumption | decide | omega) ?_)) (by first | assumption | rfl) rfl ?_
    refine gr_run (pc' := 6) 1 rfl ?_
    refine gr_icT (t := 29) rfl (by decide) (by omega) (by omega) (cI_gt (by omega)) ?_
    refine gr_run (pc' := 30) 1 rfl ?_
    exact gr_ret rfl rfl
theorem m_rankOf {g : Nat → Int64} (hR : RepM σ A) (ho : okS σ) (h : rkd σ.2.1) (h51 : A 51 = La 12544 g) (hg : rstOK σ.2.1.1 9 (σ.2.1.1 * blN σ.2.1) g) : Rt mX7_rankOf (d + 2) [.ref 43] A (some (.long (lI ((rkA σ.2.1.1 9 σ.2.1.2 (blN σ.2.1) σ.2.1.1 : Nat) : Int)))) A := by
  obtain ⟨h0, -, ⟨f, e1, e2⟩, -⟩ := hR
  obtain ⟨hh, hi⟩ := ho.2.1
  obtain ⟨h1, h2, h3⟩ := h
  have hn : 1 ≤ σ.2.1.1 ∧ σ.2.1.1 ≤ 8 := ⟨hh.1.1, h1⟩
  have hrd := rd_sum hn hi
  have hS : sumN σ.2.1.2 σ.2.1.1 = σ.2.1.1 * blN σ.2.1 := by unfold blN; rw [hrd.2]; exact hrd.1
  have hB48 : σ.2.1.1 * blN σ.2.1 ≤ 48 := Nat.mul_le_mul hn.2 h3
  have h256 := pow8 hn.2
  have key : ∀ j, j ≤ σ.2.1.1 → ∀ x6 : Option Value, Gr mX7_rankOf (d + 2) 19 [some (.ref 43), some (.int (iI ((mkN σ.2.1.1 σ.2.1.2 j : Nat) : Int))), some (.int (iI ((sumN σ.2.1.2 σ.2.1.1 - sumN σ.2.1.2 j : Nat) : Int))), some (.long (lI ((rkA σ.2.1.1 9 σ.2.1.2 (blN σ.2.1) j : Nat) : Int))), none, some (.int (iI (j : Int))), x6] [] A (some (.long (lI ((rkA σ.2.1.1 9 σ.2.1.2 (blN σ.2.1) σ.2.1.1 : Nat) : Int)))) A := by
    refine go_up ?_ ?_
    · intro x6
      refine gr_run (pc' := 22) 2 rfl ?_
      refine gr_getf rfl rfl (by repeat (first | exact up_s | assumption | refine up_n (by first | assumption | decide | omega) ?_)) (by first | assumption | rfl) rfl ?_
      refine gr_icT (t := 100) rfl (by decide) (by omega) (by omega) (cI_ge (by omega)) ?_
      refine gr_run (pc' := 101) 1 rfl ?_
      exact gr_ret rfl rfl
    · intro j hj ih x6
      have hrel := mk_rel hn hi (j := j) (by omega)
      have hmt := mkN_lt (h := σ.2.1.2) hn.1 j
      have hbc := (mk_bc hn hi j (by omega)).1
      have h9 := hh.2 j hj
      have hle : sumN σ.2.1.2 (j + 1) ≤ sumN σ.2.1.2 σ.2.1.1 := sumN_mono (by omega)
      have hse : sumN σ.2.1.2 (j + 1) = sumN σ.2.1.2 j + σ.2.1.2 j := rfl
      have hmod : lnd σ.2.1.1 σ.2.1.2 j < σ.2.1.1 := lnd_lt hn.1
      have inner : ∀ y, y ≤ σ.2.1.2 j → Gr mX7_rankOf (d + 2) 31 [some (.ref 43), some (.int (iI ((mkN σ.2.1.1 σ.2.1.2 j : Nat) : Int))), some (.int (iI ((sumN σ.2.1.2 σ.2.1.1 - sumN σ.2.1.2 j : Nat) : Int))), some (.long (lI ((rkA σ.2.1.1 9 σ.2.1.2 (blN σ.2.1) j + sumN (fun x => fb σ.2.1.1 9 (mkN σ.2.1.1 σ.2.1.2 j) (blN σ.2.1 - rdN σ.2.1.1 σ.2.1.2 j) x) y : Nat) : Int))), none, some (.int (iI (j : Int))), some (.int (iI (y : Int)))] [] A (some (.long (lI ((rkA σ.2.1.1 9 σ.2.1.2 (blN σ.2.1) σ.2.1.1 : Nat) : Int)))) A := by
        refine go_up ?_ ?_
        · refine gr_run (pc' := 34) 2 rfl ?_
          refine gr_getf rfl rfl (by repeat (first | exact up_s | assumption | refine up_n (by first | assumption | decide | omega) ?_)) (by first | assumption | rfl) rfl ?_
          refine gr_run (pc' := 39) 1 rfl ?_
          refine gr_iald rfl (by repeat (first | exact up_s | assumption | refine up_n (by first | assumption | decide | omega) ?_)) (by first | assumption | rfl) (ix_i rfl (by omega) (by decide)) ?_
          rw [e2 _ hj]
          refine gr_icT (t := 64) rfl (by decide) (by omega) (by omega) (cI_ge (by omega)) ?_
          refine gr_run (pc' := 69) 4 rfl ?_
          refine gr_getf rfl rfl (by repeat (first | exact up_s | assumption | refine up_n (by first | assumption | decide | omega) ?_)) (by first | assumption | rfl) rfl ?_
          refine gr_run (pc' := 74) 1 rfl ?_
          refine gr_iald rfl (by repeat (first | exact up_s | assumption | refine up_n (by first | assumption | decide | omega) ?_)) (by first | assumption | rfl) (ix_i rfl (by omega) (by decide)) ?_
          rw [e2 _ hj]
          refine gr_iadd rfl ?_
          refine gr_run (pc' := 77) 1 rfl ?_
          refine gr_getf rfl rfl (by repeat (first | exact up_s | assumption | refine up_n (by first | assumption | decide | omega) ?_)) (by first | assumption | rfl) rfl ?_
          refine gr_iremN rfl (by omega) (by omega) (by omega) (by omega) ?_
          rw [show ((j : Int) + (σ.2.1.2 j : Int)) % (σ.2.1.1 : Int) = ((lnd σ.2.1.1 σ.2.1.2 j : Nat) : Int) from rfl]
          refine gr_ishl1 rfl (by omega) ?_
          refine gr_iorN rfl ?_
          refine gr_run (pc' := 86) 3 rfl ?_
          refine gr_getf rfl rfl (by repeat (first | exact up_s | assumption | refine up_n (by first | assumption | decide | omega) ?_)) (by first | assumption | rfl) rfl ?_
          refine gr_run (pc' := 91) 1 rfl ?_
          refine gr_iald rfl (by repeat (first | exact up_s | assumption | refine up_n (by first | assumption | decide | omega) ?_)) (by first | assumption | rfl) (ix_i rfl (by omega) (by decide)) ?_
          rw [e2 _ hj]
          refine gr_isub rfl ?_
          rw [show ((sumN σ.2.1.2 σ.2.1.1 - sumN σ.2.1.2 j : Nat) : Int) - (σ.2.1.2 j : Int) = ((sumN σ.2.1.2 σ.2.1.1 - sumN σ.2.1.2 (j + 1) : Nat) : Int) by omega]
          refine gr_run (pc' := 94) 1 rfl ?_
          refine gr_iinc rfl rfl rfl rfl ?_
          refine gr_run (pc' := 19) 1 rfl ?_
          exact ih _
        · intro y hy ih2
          refine gr_run (pc' := 34) 2 rfl ?_
          refine gr_getf rfl rfl (by repeat (first | exact up_s | assumption | refine up_n (by first | assumption | decide | omega) ?_)) (by first | assumption | rfl) rfl ?_
          refine gr_run (pc' := 39) 1 rfl ?_
          refine gr_iald rfl (by repeat (first | exact up_s | assumption | refine up_n (by first | assumption | decide | omega) ?_)) (by first | assumption | rfl) (ix_i rfl (by omega) (by decide)) ?_
          rw [e2 _ hj]
          refine gr_icF (t := 64) rfl (by decide) (by omega) (by omega) (cN_ge (by omega)) ?_
          refine gr_run (pc' := 46) 3 rfl ?_
          refine gr_getf rfl rfl (by repeat (first | exact up_s | assumption | refine up_n (by first | assumption | decide | omega) ?_)) (by first | assumption | rfl) rfl ?_
          refine gr_run (pc' := 53) 3 rfl ?_
          refine gr_callV (As := [_, _, _, _]) lk_7_121 rfl rfl (r_afterF (m := 9) h0 h51 hn hmt (by omega) hB48 (by omega) (by omega) hg hrel) (by repeat (first | exact up_s | assumption | refine up_n (by first | assumption | decide | omega) ?_)) (by first | assumption | exact Nat.le_of_ble_eq_true rfl | exact Nat.le_of_ble_eq_true (by assumption)) rfl rfl rfl rfl rfl ?_
          refine gr_ladd rfl ?_
          have e : sumN σ.2.1.2 σ.2.1.1 / σ.2.1.1 = blN σ.2.1 := rfl
          rw [e]
          rw [show sumN (fun x => fb σ.2.1.1 9 (mkN σ.2.1.1 σ.2.1.2 j) (blN σ.2.1 - rdN σ.2.1.1 σ.2.1.2 j) x) (y + 1) = sumN (fun x => fb σ.2.1.1 9 (mkN σ.2.1.1 σ.2.1.2 j) (blN σ.2.1 - rdN σ.2.1.1 σ.2.1.2 j) x) y + fb σ.2.1.1 9 (mkN σ.2.1.1 σ.2.1.2 j) (blN σ.2.1 - rdN σ.2.1.1 σ.2.1.2 j) y from rfl, ← Nat.add_assoc] at ih2
          refine gr_run (pc' := 58) 1 rfl ?_
          refine gr_iinc rfl rfl rfl rfl ?_
          refine gr_run (pc' := 31) 1 rfl ?_
          exact ih2
      refine gr_run (pc' := 22) 2 rfl ?_
      refine gr_getf rfl rfl (by repeat (first | exact up_s | assumption | refine up_n (by first | assumption | decide | omega) ?_)) (by first | assumption | rfl) rfl ?_
      refine gr_icF (t := 100) rfl (by decide) (by omega) (by omega) (cN_ge (by omega)) ?_
      refine gr_run (pc' := 31) 2 rfl ?_
      exact inner 0 (by omega)
  refine rt_intro kX7_rankOf rfl rfl trivial ?_
  refine gr_run (pc' := 3) 3 rfl ?_
  refine gr_getf rfl rfl (by repeat (first | exact up_s | assumption | refine up_n (by first | assumption | decide | omega) ?_)) (by first | assumption | rfl) rfl ?_
  refine gr_run (pc' := 7) 1 rfl ?_
  refine gr_getf rfl rfl (by repeat (first | exact up_s | assumption | refine up_n (by first | assumption | decide | omega) ?_)) (by first | assumption | rfl) rfl ?_
  refine gr_callS (As := [_, _]) lk_7_84 rfl rfl (r_X7_sumOf e1 rfl (by omega) e2) rfl rfl rfl ?_
  refine gr_run (pc' := 19) 5 rfl ?_
  exact key 0 (by omega) none
theorem m_rankF (hR : RepM σ A) (ho : okS σ) (h : ¬ rkd σ.2.1) : Rt mX7_rank (d + 3) [.ref 43] A (some (.long (lI (-2)))) A := by
  have h0 := hR.1
  refine rt_intro kX7_rank rfl rfl trivial ?_
  refine gr_run (pc' := 1) 1 rfl ?_
  refine gr_callV (As := []) lk_7_140 rfl rfl (m_isRankedF hR ho h) (by repeat (first | exact up_s | assumption | refine up_n (by first | assumption | decide | omega) ?_)) (by first | assumption | exact Nat.le_of_ble_eq_true rfl | exact Nat.le_of_ble_eq_true (by assumption)) rfl rfl rfl rfl rfl ?_
  refine gr_ifF (t := 11) rfl (by decide) (by omega) (cN_ne (by omega)) ?_
  refine gr_run (pc' := 10) 1 rfl ?_
  exact gr_ret rfl rfl
theorem m_rank (hR : RepM σ A) (ho : okS σ) (h : rkd σ.2.1) : ∃ A', Rt mX7_rank (d + 3) [.ref 43] A (some (.long (lI ((rkA σ.2.1.1 9 σ.2.1.2 (blN σ.2.1) σ.2.1.1 : Nat) : Int)))) A' ∧ RepM σ A' ∧ offE A A' 43 56 := by
  obtain ⟨hh, hi⟩ := ho.2.1
  have hn : 1 ≤ σ.2.1.1 ∧ σ.2.1.1 ≤ 8 := ⟨hh.1.1, h.1⟩
  obtain ⟨g', r1, r2⟩ := m_counts (d := d) (m := 9) hR hn h.2.2 (by omega)
  rw [GG_FF hn] at r1
  have h0 := hR.1
  have hF := FF_le hn.2 (show 9 ≤ 9 by omega) 0 (blN σ.2.1)
  have hlt : rkA σ.2.1.1 9 σ.2.1.2 (blN σ.2.1) σ.2.1.1 < FF σ.2.1.1 9 0 (blN σ.2.1) := rk_lt hn hh.2 hi
  have hz1 : cmpZ ((FF σ.2.1.1 9 0 (blN σ.2.1) : Nat) : Int) ((0 : Fin 2).val : Int) = 1 := cmpZ_gt (show (0 : Int) < ((FF σ.2.1.1 9 0 (blN σ.2.1) : Nat) : Int) by omega)
  have hb := m_balls (d := d + 1) hR ho.2.1 ho.2.2.1 (z := 0) (by omega)
  rw [if_pos rfl] at hb
  refine ⟨va_up A 51 (La 12544 g'), ?_, hR.u51 g', offE.rf.up (by omega)⟩
  refine rt_intro kX7_rank rfl rfl trivial ?_
  refine gr_run (pc' := 1) 1 rfl ?_
  refine gr_callV (As := []) lk_7_140 rfl rfl (m_isRankedT hR ho h) (by repeat (first | exact up_s | assumption | refine up_n (by first | assumption | decide | omega) ?_)) (by first | assumption | exact Nat.le_of_ble_eq_true rfl | exact Nat.le_of_ble_eq_true (by assumption)) rfl rfl rfl rfl rfl ?_
  refine gr_ifT (t := 11) rfl (by decide) (by omega) (cI_ne (by omega)) ?_
  refine gr_run (pc' := 13) 2 rfl ?_
  refine gr_getf rfl rfl (by repeat (first | exact up_s | assumption | refine up_n (by first | assumption | decide | omega) ?_)) (by first | assumption | rfl) rfl ?_
  refine gr_run (pc' := 18) 2 rfl ?_
  refine gr_callV (As := [_]) lk_7_105 rfl rfl (hb) (by repeat (first | exact up_s | assumption | refine up_n (by first | assumption | decide | omega) ?_)) (by first | assumption | exact Nat.le_of_ble_eq_true rfl | exact Nat.le_of_ble_eq_true (by assumption)) rfl rfl rfl rfl rfl ?_
  refine gr_run (pc' := 23) 1 rfl ?_
  refine gr_callV (As := [_, _, _]) lk_7_129 rfl rfl (r1) (by repeat (first | exact up_s | assumption | refine up_n (by first | assumption | decide | omega) ?_)) (by first | assumption | exact Nat.le_of_ble_eq_true rfl | exact Nat.le_of_ble_eq_true (by assumption)) rfl rfl rfl rfl rfl ?_
  refine gr_run (pc' := 27) 1 rfl ?_
  refine gr_lcmp rfl (by omega) (by omega) ?_
  refine gr_ifF (t := 38) rfl (by decide) (by omega) (cN_le (by omega)) ?_
  refine gr_run (pc' := 32) 1 rfl ?_
  refine gr_callV (As := []) lk_7_146 rfl rfl (m_rankOf (hR.u51 g') ho h up_s r2) (by repeat (first | exact up_s | assumption | refine up_n (by first | assumption | decide | omega) ?_)) (by first | assumption | exact Nat.le_of_ble_eq_true rfl | exact Nat.le_of_ble_eq_true (by assumption)) rfl rfl rfl rfl rfl ?_
  refine gr_run (pc' := 41) 1 rfl ?_
  exact gr_ret rfl rfl
theorem m_nextF (hR : RepM σ A) (ho : okS σ) (h : ¬ rkd σ.2.1) : Rt mX7_next (d + 3) [.ref 43] A (some (.int (iI (-2)))) A := by
  have h0 := hR.1
  refine rt_intro kX7_next rfl rfl rfl ?_
  refine gr_run (pc' := 1) 1 rfl ?_
  refine gr_callV (As := []) lk_7_140 rfl rfl (m_isRankedF hR ho h) (by repeat (first | exact up_s | assumption | refine up_n (by first | assumption | decide | omega) ?_)) (by first | assumption | exact Nat.le_of_ble_eq_true rfl | exact Nat.le_of_ble_eq_true (by assumption)) rfl rfl rfl rfl rfl ?_
  refine gr_ifF (t := 10) rfl (by decide) (by omega) (cN_ne (by omega)) ?_
  refine gr_run (pc' := 9) 1 rfl ?_
  exact gr_ret rfl rfl
theorem m_nextN (hR : RepM σ A) (ho : okS σ) (h : rkd σ.2.1) (hl : FF σ.2.1.1 9 0 (blN σ.2.1) ≤ rkA σ.2.1.1 9 σ.2.1.2 (blN σ.2.1) σ.2.1.1 + 1) : ∃ A', Rt mX7_next (d + 3) [.ref 43] A (some (.int (iI (-4)))) A' ∧ RepM σ A' ∧ offE A A' 43 56 := by
  obtain ⟨hh, hi⟩ := ho.2.1
  have hn : 1 ≤ σ.2.1.1 ∧ σ.2.1.1 ≤ 8 := ⟨hh.1.1, h.1⟩
  obtain ⟨g', r1, r2⟩ := m_counts (d := d) (m := 9) hR hn h.2.2 (by omega)
  rw [GG_FF hn] at r1
  have h0 := hR.1
  have hF := FF_le hn.2 (show 9 ≤ 9 by omega) 0 (blN σ.2.1)
  have hlt : rkA σ.2.1.1 9 σ.2.1.2 (blN σ.2.1) σ.2.1.1 < FF σ.2.1.1 9 0 (blN σ.2.1) := rk_lt hn hh.2 hi
  have hz1 := cmpZ_eq (show ((rkA σ.2.1.1 9 σ.2.1.2 (blN σ.2.1) σ.2.1.1 : Nat) : Int) + 1 = ((FF σ.2.1.1 9 0 (blN σ.2.1) : Nat) : Int) by omega)
  have hb := m_balls (d := d + 1) hR ho.2.1 ho.2.2.1 (z := 0) (by omega)
  rw [if_pos rfl] at hb
  refine ⟨va_up A 51 (La 12544 g'), ?_, hR.u51 g', offE.rf.up (by omega)⟩
  refine rt_intro kX7_next rfl rfl rfl ?_
  refine gr_run (pc' := 1) 1 rfl ?_
  refine gr_callV (As := []) lk_7_140 rfl rfl (m_isRankedT hR ho h) (by repeat (first | exact up_s | assumption | refine up_n (by first | assumption | decide | omega) ?_)) (by first | assumption | exact Nat.le_of_ble_eq_true rfl | exact Nat.le_of_ble_eq_true (by assumption)) rfl rfl rfl rfl rfl ?_
  refine gr_ifT (t := 10) rfl (by decide) (by omega) (cI_ne (by omega)) ?_
  refine gr_run (pc' := 12) 2 rfl ?_
  refine gr_callV (As := [_]) lk_7_105 rfl rfl (hb) (by repeat (first | exact up_s | assumption | refine up_n (by first | assumption | decide | omega) ?_)) (by first | assumption | exact Nat.le_of_ble_eq_true rfl | exact Nat.le_of_ble_eq_true (by assumption)) rfl rfl rfl rfl rfl ?_
  refine gr_run (pc' := 18) 3 rfl ?_
  refine gr_getf rfl rfl (by repeat (first | exact up_s | assumption | refine up_n (by first | assumption | decide | omega) ?_)) (by first | assumption | rfl) rfl ?_
  refine gr_run (pc' := 24) 2 rfl ?_
  refine gr_callV (As := [_, _, _]) lk_7_129 rfl rfl (r1) (by repeat (first | exact up_s | assumption | refine up_n (by first | assumption | decide | omega) ?_)) (by first | assumption | exact Nat.le_of_ble_eq_true rfl | exact Nat.le_of_ble_eq_true (by assumption)) rfl rfl rfl rfl rfl ?_
  refine gr_run (pc' := 29) 2 rfl ?_
  refine gr_callV (As := []) lk_7_146 rfl rfl (m_rankOf (hR.u51 g') ho h up_s r2) (by repeat (first | exact up_s | assumption | refine up_n (by first | assumption | decide | omega) ?_)) (by first | assumption | exact Nat.le_of_ble_eq_true rfl | exact Nat.le_of_ble_eq_true (by assumption)) rfl rfl rfl rfl rfl ?_
  refine gr_run (pc' := 33) 1 rfl ?_
  refine gr_ladd rfl ?_
  rw [show (((1 : Fin 2).val : Nat) : Int) = 1 from rfl]
  refine gr_run (pc' := 39) 3 rfl ?_
  refine gr_lcmp rfl (by omega) (by omega) ?_
  refine gr_ifF (t := 46) rfl (by decide) (by omega) (cN_ne (by omega)) ?_
  refine gr_run (pc' := 45) 1 rfl ?_
  exact gr_ret rfl rfl
theorem m_next (hR : RepM σ A) (ho : okS σ) (h : rkd σ.2.1) (hl : rkA σ.2.1.1 9 σ.2.1.2 (blN σ.2.1) σ.2.1.1 + 1 < FF σ.2.1.1 9 0 (blN σ.2.1)) : ∃ A', Rt mX7_next (d + 3) [.ref 43] A (some (.int (iI ((pkH σ.2.1.1 9 (blN σ.2.1) (rkA σ.2.1.1 9 σ.2.1.2 (blN σ.2.1) σ.2.1.1 + 1) 0 : Nat) : Int)))) A' ∧ RepM (pkT σ σ.2.1.1 9 (blN σ.2.1) (rkA σ.2.1.1 9 σ.2.1.2 (blN σ.2.1) σ.2.1.1 + 1)) A' ∧ offE A A' 43 56 := by
  obtain ⟨hh, hi⟩ := ho.2.1
  have hn : 1 ≤ σ.2.1.1 ∧ σ.2.1.1 ≤ 8 := ⟨hh.1.1, h.1⟩
  obtain ⟨g', r1, r2⟩ := m_counts (d := d) (m := 9) hR hn h.2.2 (by omega)
  rw [GG_FF hn] at r1
  have h0 := hR.1
  have hF := FF_le hn.2 (show 9 ≤ 9 by omega) 0 (blN σ.2.1)
  have hz1 := cmpZ_ne (show ((rkA σ.2.1.1 9 σ.2.1.2 (blN σ.2.1) σ.2.1.1 : Nat) : Int) + 1 ≠ ((FF σ.2.1.1 9 0 (blN σ.2.1) : Nat) : Int) by omega)
  have hb := m_balls (d := d + 1) hR ho.2.1 ho.2.2.1 (z := 0) (by omega)
  rw [if_pos rfl] at hb
  obtain ⟨g'', s1, s2⟩ := m_drafts (d := d) (v := rkA σ.2.1.1 9 σ.2.1.2 (blN σ.2.1) σ.2.1.1 + 1) (hR.u51 g') up_s r2 hn h.2.2 (by omega) hl
  obtain ⟨A', t1, t2, t3⟩ := m_becomes (d := d + 1) (n := σ.2.1.1) (h := pkH σ.2.1.1 9 (blN σ.2.1) (rkA σ.2.1.1 9 σ.2.1.2 (blN σ.2.1) σ.2.1.1 + 1)) ((hR.u51 g').u49 g'') ho up_s ⟨hn.1, by omega⟩ s2
  refine ⟨A', ?_, t2, ((offE.rf.up (by omega)).up (by omega)).tr t3⟩
  refine rt_intro kX7_next rfl rfl rfl ?_
  refine gr_run (pc' := 1) 1 rfl ?_
  refine gr_callV (As := []) lk_7_140 rfl rfl (m_isRankedT hR ho h) (by repeat (first | exact up_s | assumption | refine up_n (by first | assumption | decide | omega) ?_)) (by first | assumption | exact Nat.le_of_ble_eq_true rfl | exact Nat.le_of_ble_eq_true (by assumption)) rfl rfl rfl rfl rfl ?_
  refine gr_ifT (t := 10) rfl (by decide) (by omega) (cI_ne (by omega)) ?_
  refine gr_run (pc' := 12) 2 rfl ?_
  refine gr_callV (As := [_]) lk_7_105 rfl rfl (hb) (by repeat (first | exact up_s | assumption | refine up_n (by first | assumption | decide | omega) ?_)) (by first | assumption | exact Nat.le_of_ble_eq_true rfl | exact Nat.le_of_ble_eq_true (by assumption)) rfl rfl rfl rfl rfl ?_
  refine gr_run (pc' := 18) 3 rfl ?_
  refine gr_getf rfl rfl (by repeat (first | exact up_s | assumption | refine up_n (by first | assumption | decide | omega) ?_)) (by first | assumption | rfl) rfl ?_
  refine gr_run (pc' := 24) 2 rfl ?_
  refine gr_callV (As := [_, _, _]) lk_7_129 rfl rfl (r1) (by repeat (first | exact up_s | assumption | refine up_n (by first | assumption | decide | omega) ?_)) (by first | assumption | exact Nat.le_of_ble_eq_true rfl | exact Nat.le_of_ble_eq_true (by assumption)) rfl rfl rfl rfl rfl ?_
  refine gr_run (pc' := 29) 2 rfl ?_
  refine gr_callV (As := []) lk_7_146 rfl rfl (m_rankOf (hR.u51 g') ho h up_s r2) (by repeat (first | exact up_s | assumption | refine up_n (by first | assumption | decide | omega) ?_)) (by first | assumption | exact Nat.le_of_ble_eq_true rfl | exact Nat.le_of_ble_eq_true (by assumption)) rfl rfl rfl rfl rfl ?_
  refine gr_run (pc' := 33) 1 rfl ?_
  refine gr_ladd rfl ?_
  rw [show (((1 : Fin 2).val : Nat) : Int) = 1 from rfl]
  refine gr_run (pc' := 39) 3 rfl ?_
  refine gr_lcmp rfl (by omega) (by omega) ?_
  refine gr_ifT (t := 46) rfl (by decide) (by omega) (cI_ne (by omega)) ?_
  refine gr_run (pc' := 48) 2 rfl ?_
  refine gr_getf rfl rfl (by repeat (first | exact up_s | assumption | refine up_n (by first | assumption | decide | omega) ?_)) (by first | assumption | rfl) rfl ?_
  refine gr_run (pc' := 56) 3 rfl ?_
  refine gr_callV (As := [_, _, _, _]) lk_7_133 rfl rfl (s1) (by repeat (first | exact up_s | assumption | refine up_n (by first | assumption | decide | omega) ?_)) (by first | assumption | exact Nat.le_of_ble_eq_true rfl | exact Nat.le_of_ble_eq_true (by assumption)) rfl rfl rfl rfl rfl ?_
  refine gr_run (pc' := 61) 2 rfl ?_
  refine gr_getf rfl rfl (by repeat (first | exact up_s | assumption | refine up_n (by first | assumption | decide | omega) ?_)) (by first | assumption | rfl) rfl ?_
  refine gr_callV (As := [_]) lk_7_137 rfl rfl (t1) (by repeat (first | exact up_s | assumption | refine up_n (by first | assumption | decide | omega) ?_)) (by first | assumption | exact Nat.le_of_ble_eq_true rfl | exact Nat.le_of_ble_eq_true (by assumption)) rfl rfl rfl rfl rfl ?_
  exact gr_ret rfl rfl
end MB
