/-! the model: draw, prime -/
noncomputable def unN (n : Nat) (h : Nat → Nat) : Nat := @ite Nat (unl n h) (Classical.propDecidable _) 1 0
theorem unN_T {n : Nat} {h : Nat → Nat} (u : unl n h) : unN n h = 1 := if_pos u
theorem unN_F {n : Nat} {h : Nat → Nat} (u : ¬ unl n h) : unN n h = 0 := if_neg u
theorem unN_le (n : Nat) (h : Nat → Nat) : unN n h ≤ 1 := by unfold unN; split <;> omega
def dwV (z F : Nat) : Nat := (dwN (z : Int) % (F : Int)).toNat
theorem dwN_bd {z : Int} (hz : 0 ≤ z ∧ z ≤ 9999) : 0 ≤ dwN z ∧ dwN z ≤ 10000000000 := by
  unfold dwN
  generalize (7919 * z + 1) * (7919 * z + 1) = u
  generalize (6151 * z + 2) * (6151 * z + 2) = v
  omega
section MB
variable {d : Nat} {A : AH} {σ : SS}
theorem m_drawB {p b m z : Int} (bp : bd p) (bb : bd b) (bm : bd m) (bz : bd z) (h : ¬ told p b m ∨ ¬ (0 ≤ z ∧ z ≤ 9999)) : Rt mX7_draw (d + 3) [.ref 43, .int (iI p), .int (iI b), .int (iI m), .int (iI z)] A (some (.int (iI (-1)))) A := by
  by_cases ht : told p b m
  · have hv : ¬ (0 ≤ z ∧ z ≤ 9999) := h.elim (fun q => absurd ht q) id
    refine rt_intro kX7_draw rfl rfl rfl ?_
    refine gr_run (pc' := 3) 3 rfl ?_
    refine gr_callS (As := [_, _, _]) lk_7_125 rfl rfl (r_areToldT ht) rfl rfl rfl ?_
    refine gr_ifF (t := 22) rfl (by decide) (by omega) (cN_eq (by omega)) ?_
    refine gr_run (pc' := 11) 1 rfl ?_
    refine gr_i2l rfl (by omega) ?_
    refine gr_run (pc' := 16) 2 rfl ?_
    rw [show (((0 : Fin 2).val : Nat) : Int) = 0 from rfl]
    refine gr_callS (As := [_, _, _]) lk_7_61 rfl rfl (r_isF (by omega) (by omega) (by omega) (by omega)) rfl rfl rfl ?_
    refine gr_ifF (t := 24) rfl (by decide) (by omega) (cN_ne (by omega)) ?_
    refine gr_run (pc' := 23) 1 rfl ?_
    exact gr_ret rfl rfl
  · refine rt_intro kX7_draw rfl rfl rfl ?_
    refine gr_run (pc' := 3) 3 rfl ?_
    refine gr_callS (As := [_, _, _]) lk_7_125 rfl rfl (r_areToldF bp bb bm ht) rfl rfl rfl ?_
    refine gr_ifT (t := 22) rfl (by decide) (by omega) (cI_eq (by omega)) ?_
    refine gr_run (pc' := 23) 1 rfl ?_
    exact gr_ret rfl rfl
theorem m_drawN {p b m z : Nat} (hR : RepM σ A) (hp : 1 ≤ p ∧ p ≤ 8) (hb : 1 ≤ b ∧ b ≤ 6) (hm : 1 ≤ m ∧ m ≤ 9) (hz : z ≤ 9999) (hF : FF p m 0 b = 0) : ∃ A', Rt mX7_draw (d + 3) [.ref 43, .int (iI p), .int (iI b), .int (iI m), .int (iI z)] A (some (.int (iI (-4)))) A' ∧ RepM σ A' ∧ offE A A' 43 56 := by
  obtain ⟨g', r1, r2⟩ := m_counts (d := d) hR hp hb.2 hm.2
  rw [GG_FF hp, hF] at r1
  have h0 := hR.1
  have hz1 : cmpZ ((0 : Nat) : Int) ((0 : Fin 2).val : Int) = 0 := cmpZ_eq rfl
  refine ⟨va_up A 51 (La 12544 g'), ?_, hR.u51 g', offE.rf.up (by omega)⟩
  refine rt_intro kX7_draw rfl rfl rfl ?_
  refine gr_run (pc' := 3) 3 rfl ?_
  refine gr_callS (As := [_, _, _]) lk_7_125 rfl rfl (r_areToldT ⟨by omega, by omega, by omega⟩) rfl rfl rfl ?_
  refine gr_ifF (t := 22) rfl (by decide) (by omega) (cN_eq (by omega)) ?_
  refine gr_run (pc' := 11) 1 rfl ?_
  refine gr_i2l rfl (by omega) ?_
  refine gr_run (pc' := 16) 2 rfl ?_
  rw [show (((0 : Fin 2).val : Nat) : Int) = 0 from rfl]
  refine gr_callS (As := [_, _, _]) lk_7_61 rfl rfl (r_isT (by omega) (by omega) (by omega) (by omega) (by omega)) rfl rfl rfl ?_
  refine gr_ifT (t := 24) rfl (by decide) (by omega) (cI_ne (by omega)) ?_
  refine gr_run (pc' := 28) 4 rfl ?_
  refine gr_callV (As := [_, _, _]) lk_7_129 rfl rfl (r1) (by repeat (first | exact up_s | assumption | refine up_n (by first | assumption | decide | omega) ?_)) (by first | assumption | exact Nat.le_of_ble_eq_true rfl | exact Nat.le_of_ble_eq_true (by assumption)) rfl rfl rfl rfl rfl ?_
  refine gr_run (pc' := 36) 3 rfl ?_
  refine gr_lcmp rfl (by omega) (by omega) ?_
  refine gr_ifF (t := 43) rfl (by decide) (by omega) (cN_ne (by omega)) ?_
  refine gr_run (pc' := 42) 1 rfl ?_
  exact gr_ret rfl rfl
theorem m_draw {p b m z : Nat} (hR : RepM σ A) (ho : okS σ) (hp : 1 ≤ p ∧ p ≤ 8) (hb : 1 ≤ b ∧ b ≤ 6) (hm : 1 ≤ m ∧ m ≤ 9) (hz : z ≤ 9999) (hF : 0 < FF p m 0 b) : ∃ A', Rt mX7_draw (d + 3) [.ref 43, .int (iI p), .int (iI b), .int (iI m), .int (iI z)] A (some (.int (iI ((pkH p m b (dwV z (FF p m 0 b)) 0 : Nat) : Int)))) A' ∧ RepM (pkT σ p m b (dwV z (FF p m 0 b))) A' ∧ offE A A' 43 56 := by
  obtain ⟨g', r1, r2⟩ := m_counts (d := d) hR hp hb.2 hm.2
  rw [GG_FF hp] at r1
  have h0 := hR.1
  have hFl := FF_le hp.2 hm.2 0 b
  have hz1 : cmpZ ((FF p m 0 b : Nat) : Int) ((0 : Fin 2).val : Int) = 1 := cmpZ_gt (show (0 : Int) < ((FF p m 0 b : Nat) : Int) by omega)
  have hdw := dwN_bd (z := z) (by omega)
  have hv0 : 0 ≤ dwN (z : Int) % ((FF p m 0 b : Nat) : Int) := Int.emod_nonneg _ (by omega)
  have hv1 : dwN (z : Int) % ((FF p m 0 b : Nat) : Int) < ((FF p m 0 b : Nat) : Int) := Int.emod_lt_of_pos _ (by omega)
  have hv : dwV z (FF p m 0 b) < FF p m 0 b := by unfold dwV; omega
  have hve : dwN (z : Int) % ((FF p m 0 b : Nat) : Int) = ((dwV z (FF p m 0 b) : Nat) : Int) := by unfold dwV; omega
  obtain ⟨g'', s1, s2⟩ := m_drafts (d := d) (hR.u51 g') up_s r2 hp hb.2 hm.2 hv
  obtain ⟨A', t1, t2, t3⟩ := m_becomes (d := d + 1) (n := p) (h := pkH p m b (dwV z (FF p m 0 b))) ((hR.u51 g').u49 g'') ho up_s ⟨hp.1, by omega⟩ s2
  refine ⟨A', ?_, t2, ((offE.rf.up (by omega)).up (by omega)).tr t3⟩
  rw [← hve] at s1
  have q1 := sq_bd (y := 7919 * (z : Int) + 1) (by omega)
  have q2 := sq_bd (y := 6151 * (z : Int) + 2) (by omega)
  unfold dwN at s1 hdw
  generalize hx : 7919 * (z : Int) + 1 = x at *
  generalize hy : 6151 * (z : Int) + 2 = y at *
  generalize hxx : x * x = xx at *
  generalize hyy : y * y = yy at *
  generalize FF p m 0 b = F at *
  refine rt_intro kX7_draw rfl rfl rfl ?_
  refine gr_run (pc' := 3) 3 rfl ?_
  refine gr_callS (As := [_, _, _]) lk_7_125 rfl rfl (r_areToldT ⟨by omega, by omega, by omega⟩) rfl rfl rfl ?_
  refine gr_ifF (t := 22) rfl (by decide) (by omega) (cN_eq (by omega)) ?_
  refine gr_run (pc' := 11) 1 rfl ?_
  refine gr_i2l rfl (by omega) ?_
  refine gr_run (pc' := 16) 2 rfl ?_
  rw [show (((0 : Fin 2).val : Nat) : Int) = 0 from rfl]
  refine gr_callS (As := [_, _, _]) lk_7_61 rfl rfl (r_isT (by omega) (by omega) (by omega) (by omega) (by omega)) rfl rfl rfl ?_
  refine gr_ifT (t := 24) rfl (by decide) (by omega) (cI_ne (by omega)) ?_
  refine gr_run (pc' := 28) 4 rfl ?_
  refine gr_callV (As := [_, _, _]) lk_7_129 rfl rfl (r1) (by repeat (first | exact up_s | assumption | refine up_n (by first | assumption | decide | omega) ?_)) (by first | assumption | exact Nat.le_of_ble_eq_true rfl | exact Nat.le_of_ble_eq_true (by assumption)) rfl rfl rfl rfl rfl ?_
  refine gr_run (pc' := 36) 3 rfl ?_
  refine gr_lcmp rfl (by omega) (by omega) ?_
  refine gr_ifT (t := 43) rfl (by decide) (by omega) (cI_ne (by omega)) ?_
  refine gr_run (pc' := 48) 2 rfl ?_
  refine gr_i2l rfl (by omega) ?_
  refine gr_lmul rfl ?_
  refine gr_run (pc' := 51) 1 rfl ?_
  refine gr_ladd rfl ?_
  rw [show (7919 : Int) * z + ((1 : Fin 2).val : Int) = x by rw [← hx]; rfl]
  refine gr_run (pc' := 59) 3 rfl ?_
  refine gr_i2l rfl (by omega) ?_
  refine gr_lmul rfl ?_
  refine gr_run (pc' := 64) 1 rfl ?_
  refine gr_ladd rfl ?_
  rw [hy]
  refine gr_run (pc' := 75) 7 rfl ?_
  refine gr_lmul rfl ?_
  rw [hxx]
  refine gr_run (pc' := 79) 1 rfl ?_
  refine gr_lremN rfl (by omega) (by omega) (by omega) (by omega) ?_
  refine gr_run (pc' := 83) 1 rfl ?_
  refine gr_lmul rfl ?_
  refine gr_run (pc' := 88) 2 rfl ?_
  refine gr_lmul rfl ?_
  rw [hyy]
  refine gr_run (pc' := 92) 1 rfl ?_
  refine gr_lremN rfl (by omega) (by omega) (by omega) (by omega) ?_
  refine gr_ladd rfl ?_
  refine gr_run (pc' := 96) 1 rfl ?_
  refine gr_lremN rfl (by omega) (by omega) (by omega) (by omega) ?_
  refine gr_callV (As := [_, _, _, _]) lk_7_133 rfl rfl (s1) (by repeat (first | exact up_s | assumption | refine up_n (by first | assumption | decide | omega) ?_)) (by first | assumption | exact Nat.le_of_ble_eq_true rfl | exact Nat.le_of_ble_eq_true (by assumption)) rfl rfl rfl rfl rfl ?_
  refine gr_run (pc' := 102) 2 rfl ?_
  refine gr_callV (As := [_]) lk_7_137 rfl rfl (t1) (by repeat (first | exact up_s | assumption | refine up_n (by first | assumption | decide | omega) ?_)) (by first | assumption | exact Nat.le_of_ble_eq_true rfl | exact Nat.le_of_ble_eq_true (by assumption)) rfl rfl rfl rfl rfl ?_
  exact gr_ret rfl rfl
theorem r_isPrime {b n : Nat} {h : Nat → Nat} {f : Nat → Int32} (hb : A b = Ia 10 f) (pb : Nat.blt b NC = true) (hh : okH n h) (hf : ∀ i, i < n → f i = iI (h i)) : Rt mX7_isPrime (d + 1) [.ref b, .int (iI n)] A (some (.int (iI ((unN n h : Nat) : Int)))) A := by
  have hn := hh.1
  have key : ∀ k, k ≤ n → (∀ i j, i < j → j < k → airN n h (i : Int) ≠ airN n h (j : Int)) → ∀ x3 : Option Value, Gr mX7_isPrime (d + 1) 2 [some (.ref b), some (.int (iI n)), some (.int (iI (k : Int))), x3] [] A (some (.int (iI ((unN n h : Nat) : Int)))) A := by
    refine go_up ?_ ?_
    · intro u x3
      rw [unN_T (fun i j h1 h2 => u i j h1 h2)]
      refine gr_run (pc' := 4) 2 rfl ?_
      refine gr_icT (t := 43) rfl (by decide) (by omega) (by omega) (cI_ge (by omega)) ?_
      refine gr_run (pc' := 44) 1 rfl ?_
      exact gr_ret rfl rfl
    · intro k hk ih u x3
      have inner : ∀ j, j ≤ k → (∀ i, i < j → airN n h (i : Int) ≠ airN n h (k : Int)) → Gr mX7_isPrime (d + 1) 9 [some (.ref b), some (.int (iI n)), some (.int (iI (k : Int))), some (.int (iI (j : Int)))] [] A (some (.int (iI ((unN n h : Nat) : Int)))) A := by
        refine go_up ?_ ?_
        · intro w
          have r := ih (fun i j h1 h2 => by
            by_cases e : j = k
            · subst e; exact w i h1
            · exact u i j h1 (by omega)) (some (.int (iI (k : Int))))
          refine gr_run (pc' := 11) 2 rfl ?_
          refine gr_icT (t := 37) rfl (by decide) (by omega) (by omega) (cI_ge (by omega)) ?_
          refine gr_iinc rfl rfl rfl rfl ?_
          refine gr_run (pc' := 2) 1 rfl ?_
          exact r
        · intro j hj ih2 w
          have a1 := airN_lt hh (k : Int)
          have a2 := airN_lt hh (j : Int)
          refine gr_run (pc' := 11) 2 rfl ?_
          refine gr_icF (t := 37) rfl (by decide) (by omega) (by omega) (cN_ge (by omega)) ?_
          refine gr_run (pc' := 17) 3 rfl ?_
          refine gr_callS (As := [_, _, _]) lk_7_90 rfl rfl (r_X7_airOf hb pb hh hf (by omega)) rfl rfl rfl ?_
          refine gr_run (pc' := 23) 3 rfl ?_
          refine gr_callS (As := [_, _, _]) lk_7_90 rfl rfl (r_X7_airOf hb pb hh hf (by omega)) rfl rfl rfl ?_
          by_cases e : airN n h (j : Int) = airN n h (k : Int)
          · rw [unN_F (fun q => q j k hj hk e)]
            refine gr_icF (t := 31) rfl (by decide) (by omega) (by omega) (cN_ne (by omega)) ?_
            refine gr_run (pc' := 30) 1 rfl ?_
            exact gr_ret rfl rfl
          · have r := ih2 (fun i hi => by
              by_cases e2 : i = j
              · subst e2; exact e
              · exact w i (by omega))
            refine gr_icT (t := 31) rfl (by decide) (by omega) (by omega) (cI_ne (by omega)) ?_
            refine gr_iinc rfl rfl rfl rfl ?_
            refine gr_run (pc' := 9) 1 rfl ?_
            exact r
      refine gr_run (pc' := 4) 2 rfl ?_
      refine gr_icF (t := 43) rfl (by decide) (by omega) (by omega) (cN_ge (by omega)) ?_
      refine gr_run (pc' := 9) 2 rfl ?_
      exact inner 0 (by omega) (fun i hi => by omega)
  have hu := unN_le n h
  refine rt_intro kX7_isPrime rfl rfl (by rcases (show unN n h = 0 ∨ unN n h = 1 by omega) with e | e <;> rw [e] <;> rfl) ?_
  refine gr_run (pc' := 2) 2 rfl ?_
  exact key 0 (by omega) (fun i j h1 h2 => by omega) none
theorem m_prime (hR : RepM σ A) (ho : okS σ) : Rt mX7_prime (d + 2) [.ref 43] A (some (.int (iI ((unN σ.2.1.1 σ.2.1.2 : Nat) : Int)))) A := by
  obtain ⟨h0, -, ⟨f, e1, e2⟩, -⟩ := hR
  have hu := unN_le σ.2.1.1 σ.2.1.2
  refine rt_intro kX7_prime rfl rfl rfl ?_
  refine gr_run (pc' := 1) 1 rfl ?_
  refine gr_getf rfl rfl (by repeat (first | exact up_s | assumption | refine up_n (by first | assumption | decide | omega) ?_)) (by first | assumption | rfl) rfl ?_
  refine gr_run (pc' := 5) 1 rfl ?_
  refine gr_getf rfl rfl (by repeat (first | exact up_s | assumption | refine up_n (by first | assumption | decide | omega) ?_)) (by first | assumption | rfl) rfl ?_
  refine gr_callS (As := [_, _]) lk_7_150 rfl rfl (r_isPrime e1 rfl ho.2.1.1 e2) rfl rfl rfl ?_
  by_cases c : unN σ.2.1.1 σ.2.1.2 = 0
  · rw [c]
    refine gr_ifT (t := 18) rfl (by decide) (by omega) (cI_eq (by omega)) ?_
    refine gr_run (pc' := 19) 1 rfl ?_
    exact gr_ret rfl rfl
  · rw [show unN σ.2.1.1 σ.2.1.2 = 1 by omega]
    refine gr_ifF (t := 18) rfl (by decide) (by omega) (cN_eq (by omega)) ?_
    refine gr_run (pc' := 19) 2 rfl ?_
    exact gr_ret rfl rfl
end MB
