/-! the model: way -/
noncomputable def wyF (e fr : Nat) (i : Int) : Int := @ite Int (dsF e fr = -4) (Classical.propDecidable _) (-4) (@ite Int (i < 0) (Classical.propDecidable _) (dsF e fr) (@ite Int (dsF e fr ≤ i) (Classical.propDecidable _) (-4) ((ftA (dsF e) (anW (dsF e) fr i.toNat) : Nat) : Int)))
theorem an_ds {e fr D : Nat} (hd : dsF e fr = (D : Int)) : ∀ k, k ≤ D → dsF e (anW (dsF e) fr k) = ((D - k : Nat) : Int)
  | 0, _ => by simpa [anW] using hd
  | k + 1, hk => by
    have ih := an_ds hd k (by omega)
    obtain ⟨j, hj⟩ : ∃ j, D - k = j + 1 := ⟨D - k - 1, by omega⟩
    rw [hj] at ih
    have := (ft_way ih).2.1
    simp only [anW]
    rw [this]; congr 1; omega
section MB
variable {d : Nat} {A : AH} {σ : SS}
theorem m_way {e fr : Nat} {i : Int} (hR : RepM σ A) (he : e < 512) (hf : fr < 512) (hi : -1 ≤ i ∧ bd i) : ∃ A', Rt mX7_way (d + 2) [.ref 43, .int (iI fr), .int (iI e), .int (iI i)] A (some (.int (iI (wyF e fr i)))) A' ∧ RepM σ A' ∧ offE A A' 43 56 := by
  obtain ⟨g, r1, r2⟩ := m_measures (d := d) hR he
  have h0 := hR.1
  have h0' : (va_up A 52 (Ia 512 g)) 43 = _ := up_n (by decide) h0
  have hb := dsF_bd (a := fr) he
  refine ⟨va_up A 52 (Ia 512 g), ?_, hR.u52 g, offE.rf.up (by omega)⟩
  unfold wyF
  by_cases c1 : dsF e fr = -4
  · rw [if_pos c1]
    refine rt_intro kX7_way rfl rfl rfl ?_
    refine gr_run (pc' := 2) 2 rfl ?_
    refine gr_callV (As := [_]) lk_7_168 rfl rfl (r1) (by repeat (first | exact up_s | assumption | refine up_n (by first | assumption | decide | omega) ?_)) (by first | assumption | exact Nat.le_of_ble_eq_true rfl | exact Nat.le_of_ble_eq_true (by assumption)) rfl rfl rfl rfl rfl ?_
    refine gr_run (pc' := 6) 1 rfl ?_
    refine gr_getf rfl rfl (by repeat (first | exact up_s | assumption | refine up_n (by first | assumption | decide | omega) ?_)) (by first | assumption | rfl) rfl ?_
    refine gr_run (pc' := 10) 1 rfl ?_
    refine gr_iald rfl (by repeat (first | exact up_s | assumption | refine up_n (by first | assumption | decide | omega) ?_)) (by first | assumption | rfl) (ix_i rfl (by omega) (by decide)) ?_
    rw [r2 fr hf, c1]
    refine gr_run (pc' := 13) 1 rfl ?_
    refine gr_icT (t := 26) rfl (by decide) (by omega) (by omega) (cI_eq (by omega)) ?_
    refine gr_run (pc' := 28) 1 rfl ?_
    exact gr_ret rfl rfl
  · rw [if_neg c1]
    obtain ⟨D, hD⟩ : ∃ D : Nat, dsF e fr = (D : Int) := ⟨(dsF e fr).toNat, by omega⟩
    by_cases c2 : i < 0
    · rw [if_pos c2]
      refine rt_intro kX7_way rfl rfl rfl ?_
      refine gr_run (pc' := 2) 2 rfl ?_
      refine gr_callV (As := [_]) lk_7_168 rfl rfl (r1) (by repeat (first | exact up_s | assumption | refine up_n (by first | assumption | decide | omega) ?_)) (by first | assumption | exact Nat.le_of_ble_eq_true rfl | exact Nat.le_of_ble_eq_true (by assumption)) rfl rfl rfl rfl rfl ?_
      refine gr_run (pc' := 6) 1 rfl ?_
      refine gr_getf rfl rfl (by repeat (first | exact up_s | assumption | refine up_n (by first | assumption | decide | omega) ?_)) (by first | assumption | rfl) rfl ?_
      refine gr_run (pc' := 10) 1 rfl ?_
      refine gr_iald rfl (by repeat (first | exact up_s | assumption | refine up_n (by first | assumption | decide | omega) ?_)) (by first | assumption | rfl) (ix_i rfl (by omega) (by decide)) ?_
      rw [r2 fr hf, hD]
      refine gr_run (pc' := 13) 1 rfl ?_
      refine gr_icF (t := 26) rfl (by decide) (by omega) (by omega) (cN_eq (by omega)) ?_
      refine gr_run (pc' := 18) 2 rfl ?_
      refine gr_getf rfl rfl (by repeat (first | exact up_s | assumption | refine up_n (by first | assumption | decide | omega) ?_)) (by first | assumption | rfl) rfl ?_
      refine gr_run (pc' := 22) 1 rfl ?_
      refine gr_iald rfl (by repeat (first | exact up_s | assumption | refine up_n (by first | assumption | decide | omega) ?_)) (by first | assumption | rfl) (ix_i rfl (by omega) (by decide)) ?_
      rw [r2 fr hf, hD]
      refine gr_icT (t := 29) rfl (by decide) (by omega) (by omega) (cI_lt (by omega)) ?_
      refine gr_run (pc' := 30) 1 rfl ?_
      refine gr_ifF (t := 40) rfl (by decide) (by omega) (cN_ge (by omega)) ?_
      refine gr_run (pc' := 34) 1 rfl ?_
      refine gr_getf rfl rfl (by repeat (first | exact up_s | assumption | refine up_n (by first | assumption | decide | omega) ?_)) (by first | assumption | rfl) rfl ?_
      refine gr_run (pc' := 38) 1 rfl ?_
      refine gr_iald rfl (by repeat (first | exact up_s | assumption | refine up_n (by first | assumption | decide | omega) ?_)) (by first | assumption | rfl) (ix_i rfl (by omega) (by decide)) ?_
      rw [r2 fr hf, hD]
      exact gr_ret rfl rfl
    · rw [if_neg c2]
      by_cases c3 : dsF e fr ≤ i
      · rw [if_pos c3]
        refine rt_intro kX7_way rfl rfl rfl ?_
        refine gr_run (pc' := 2) 2 rfl ?_
        refine gr_callV (As := [_]) lk_7_168 rfl rfl (r1) (by repeat (first | exact up_s | assumption | refine up_n (by first | assumption | decide | omega) ?_)) (by first | assumption | exact Nat.le_of_ble_eq_true rfl | exact Nat.le_of_ble_eq_true (by assumption)) rfl rfl rfl rfl rfl ?_
        refine gr_run (pc' := 6) 1 rfl ?_
        refine gr_getf rfl rfl (by repeat (first | exact up_s | assumption | refine up_n (by first | assumption | decide | omega) ?_)) (by first | assumption | rfl) rfl ?_
        refine gr_run (pc' := 10) 1 rfl ?_
        refine gr_iald rfl (by repeat (first | exact up_s | assumption | refine up_n (by first | assumption | decide | omega) ?_)) (by first | assumption | rfl) (ix_i rfl (by omega) (by decide)) ?_
        rw [r2 fr hf, hD]
        refine gr_run (pc' := 13) 1 rfl ?_
        refine gr_icF (t := 26) rfl (by decide) (by omega) (by omega) (cN_eq (by omega)) ?_
        refine gr_run (pc' := 18) 2 rfl ?_
        refine gr_getf rfl rfl (by repeat (first | exact up_s | assumption | refine up_n (by first | assumption | decide | omega) ?_)) (by first | assumption | rfl) rfl ?_
        refine gr_run (pc' := 22) 1 rfl ?_
        refine gr_iald rfl (by repeat (first | exact up_s | assumption | refine up_n (by first | assumption | decide | omega) ?_)) (by first | assumption | rfl) (ix_i rfl (by omega) (by decide)) ?_
        rw [r2 fr hf, hD]
        refine gr_icF (t := 29) rfl (by decide) (by omega) (by omega) (cN_lt (by omega)) ?_
        refine gr_run (pc' := 28) 1 rfl ?_
        exact gr_ret rfl rfl
      · rw [if_neg c3]
        obtain ⟨I, rfl⟩ : ∃ I : Nat, i = (I : Int) := ⟨i.toNat, by omega⟩
        rw [show ((I : Int)).toNat = I from rfl]
        have loop : ∀ (m k : Nat) (x5 : Int32), k + m = I → Gr mX7_way (d + 2) 49 [some (.ref 43), some (.int (iI fr)), some (.int (iI e)), some (.int (iI (I : Int))), some (.int (iI ((anW (dsF e) fr k : Nat) : Int))), some (.int x5), some (.int (iI (k : Int)))] [] (va_up A 52 (Ia 512 g)) (some (.int (iI ((ftA (dsF e) (anW (dsF e) fr I) : Nat) : Int)))) (va_up A 52 (Ia 512 g)) := by
          intro m
          have body : ∀ (k : Nat) (x5 : Int32) (R : Option Value), k ≤ I → (Gr mX7_way (d + 2) 49 [some (.ref 43), some (.int (iI fr)), some (.int (iI e)), some (.int (iI (I : Int))), some (.int (iI ((anW (dsF e) fr (k + 1) : Nat) : Int))), some (.int (iI ((ftA (dsF e) (anW (dsF e) fr k) : Nat) : Int))), some (.int (iI ((k + 1 : Nat) : Int)))] [] (va_up A 52 (Ia 512 g)) R (va_up A 52 (Ia 512 g))) → Gr mX7_way (d + 2) 49 [some (.ref 43), some (.int (iI fr)), some (.int (iI e)), some (.int (iI (I : Int))), some (.int (iI ((anW (dsF e) fr k : Nat) : Int))), some (.int x5), some (.int (iI (k : Int)))] [] (va_up A 52 (Ia 512 g)) R (va_up A 52 (Ia 512 g)) := by
            intro k x5 R hk K
            have had := an_ds hD k (by omega)
            have hal := anW_lt (aw := dsF e) hf k
            have ew : anW (dsF e) fr (k + 1) = thr (anW (dsF e) fr k) (ftA (dsF e) (anW (dsF e) fr k)) := rfl
            rw [ew] at K
            obtain ⟨j, hj⟩ : ∃ j, D - k = j + 1 := ⟨D - k - 1, by omega⟩
            rw [hj] at had
            obtain ⟨w1, w2, w3⟩ := ft_way had
            have hf9 := ftA_le (aw := dsF e) (air := anW (dsF e) fr k)
            generalize anW (dsF e) fr k = a at *
            have htl := thr_lt hal hf9
            generalize ftA (dsF e) a = H at *
            have seek : ∀ x, x ≤ H → Gr mX7_way (d + 2) 58 [some (.ref 43), some (.int (iI fr)), some (.int (iI e)), some (.int (iI (I : Int))), some (.int (iI (a : Int))), some (.int (iI (x : Int))), some (.int (iI (k : Int)))] [] (va_up A 52 (Ia 512 g)) R (va_up A 52 (Ia 512 g)) := by
              refine go_up ?_ ?_
              · refine gr_run (pc' := 62) 2 rfl ?_
                refine gr_callS (As := [_, _]) lk_7_164 rfl rfl (r_behind (by omega) (by omega)) rfl rfl rfl ?_
                rw [w1]
                refine gr_run (pc' := 67) 1 rfl ?_
                refine gr_icF (t := 94) rfl (by decide) (by omega) (by omega) (cN_eq (by omega)) ?_
                refine gr_run (pc' := 71) 1 rfl ?_
                refine gr_getf rfl rfl (by repeat (first | exact up_s | assumption | refine up_n (by first | assumption | decide | omega) ?_)) (by first | assumption | rfl) rfl ?_
                refine gr_run (pc' := 78) 2 rfl ?_
                refine gr_callS (As := [_, _]) lk_7_164 rfl rfl (r_behind (by omega) (by omega)) rfl rfl rfl ?_
                rw [w1]
                refine gr_iald rfl (by repeat (first | exact up_s | assumption | refine up_n (by first | assumption | decide | omega) ?_)) (by first | assumption | rfl) (ix_i rfl htl (by decide)) ?_
                rw [r2 _ htl, w2]
                refine gr_run (pc' := 83) 1 rfl ?_
                refine gr_getf rfl rfl (by repeat (first | exact up_s | assumption | refine up_n (by first | assumption | decide | omega) ?_)) (by first | assumption | rfl) rfl ?_
                refine gr_run (pc' := 88) 1 rfl ?_
                refine gr_iald rfl (by repeat (first | exact up_s | assumption | refine up_n (by first | assumption | decide | omega) ?_)) (by first | assumption | rfl) (ix_i rfl (by omega) (by decide)) ?_
                rw [r2 _ hal, had]
                refine gr_run (pc' := 90) 1 rfl ?_
                refine gr_isub rfl ?_
                refine gr_icT (t := 100) rfl (by decide) (by omega) (by omega) (cI_eq (by omega)) ?_
                refine gr_run (pc' := 104) 2 rfl ?_
                refine gr_callS (As := [_, _]) lk_7_164 rfl rfl (r_behind (by omega) (by omega)) rfl rfl rfl ?_
                rw [w1]
                refine gr_run (pc' := 109) 1 rfl ?_
                refine gr_iinc rfl rfl rfl rfl ?_
                refine gr_run (pc' := 49) 1 rfl ?_
                exact K
              · intro x hx ih
                rcases bhN_lt (a := a) (x := x) hal (by omega) with q | q
                · refine gr_run (pc' := 62) 2 rfl ?_
                  refine gr_callS (As := [_, _]) lk_7_164 rfl rfl (r_behind (by omega) (by omega)) rfl rfl rfl ?_
                  rw [q]
                  refine gr_run (pc' := 67) 1 rfl ?_
                  refine gr_icT (t := 94) rfl (by decide) (by omega) (by omega) (cI_eq (by omega)) ?_
                  refine gr_iinc rfl rfl rfl rfl ?_
                  refine gr_run (pc' := 58) 1 rfl ?_
                  exact ih
                · obtain ⟨c, hc⟩ : ∃ c : Nat, bhN a x = (c : Int) := ⟨(bhN a x).toNat, by omega⟩
                  have hcl : c < 512 := by omega
                  have hne := w3 x c hx hc
                  have hcb := dsF_bd (a := c) he
                  refine gr_run (pc' := 62) 2 rfl ?_
                  refine gr_callS (As := [_, _]) lk_7_164 rfl rfl (r_behind (by omega) (by omega)) rfl rfl rfl ?_
                  rw [hc]
                  refine gr_run (pc' := 67) 1 rfl ?_
                  refine gr_icF (t := 94) rfl (by decide) (by omega) (by omega) (cN_eq (by omega)) ?_
                  refine gr_run (pc' := 71) 1 rfl ?_
                  refine gr_getf rfl rfl (by repeat (first | exact up_s | assumption | refine up_n (by first | assumption | decide | omega) ?_)) (by first | assumption | rfl) rfl ?_
                  refine gr_run (pc' := 78) 2 rfl ?_
                  refine gr_callS (As := [_, _]) lk_7_164 rfl rfl (r_behind (by omega) (by omega)) rfl rfl rfl ?_
                  rw [hc]
                  refine gr_iald rfl (by repeat (first | exact up_s | assumption | refine up_n (by first | assumption | decide | omega) ?_)) (by first | assumption | rfl) (ix_i rfl hcl (by decide)) ?_
                  rw [r2 _ hcl]
                  refine gr_run (pc' := 83) 1 rfl ?_
                  refine gr_getf rfl rfl (by repeat (first | exact up_s | assumption | refine up_n (by first | assumption | decide | omega) ?_)) (by first | assumption | rfl) rfl ?_
                  refine gr_run (pc' := 88) 1 rfl ?_
                  refine gr_iald rfl (by repeat (first | exact up_s | assumption | refine up_n (by first | assumption | decide | omega) ?_)) (by first | assumption | rfl) (ix_i rfl (by omega) (by decide)) ?_
                  rw [r2 _ hal, had]
                  refine gr_run (pc' := 90) 1 rfl ?_
                  refine gr_isub rfl ?_
                  refine gr_icF (t := 100) rfl (by decide) (by omega) (by omega) (cN_eq (by omega)) ?_
                  refine gr_iinc rfl rfl rfl rfl ?_
                  refine gr_run (pc' := 58) 1 rfl ?_
                  exact ih
            refine gr_run (pc' := 52) 2 rfl ?_
            refine gr_icF (t := 115) rfl (by decide) (by omega) (by omega) (cN_gt (by omega)) ?_
            refine gr_run (pc' := 58) 2 rfl ?_
            exact seek 0 (by omega)
          induction m with
          | zero =>
            intro k x5 hk
            have ek : k = I := by omega
            subst ek
            refine body k x5 _ (by omega) ?_
            refine gr_run (pc' := 52) 2 rfl ?_
            refine gr_icT (t := 115) rfl (by decide) (by omega) (by omega) (cI_gt (by omega)) ?_
            refine gr_run (pc' := 117) 1 rfl ?_
            exact gr_ret rfl rfl
          | succ m ih =>
            intro k x5 hk
            exact body k x5 _ (by omega) (ih (k + 1) _ (by omega))
        refine rt_intro kX7_way rfl rfl rfl ?_
        refine gr_run (pc' := 2) 2 rfl ?_
        refine gr_callV (As := [_]) lk_7_168 rfl rfl (r1) (by repeat (first | exact up_s | assumption | refine up_n (by first | assumption | decide | omega) ?_)) (by first | assumption | exact Nat.le_of_ble_eq_true rfl | exact Nat.le_of_ble_eq_true (by assumption)) rfl rfl rfl rfl rfl ?_
        refine gr_run (pc' := 6) 1 rfl ?_
        refine gr_getf rfl rfl (by repeat (first | exact up_s | assumption | refine up_n (by first | assumption | decide | omega) ?_)) (by first | assumption | rfl) rfl ?_
        refine gr_run (pc' := 10) 1 rfl ?_
        refine gr_iald rfl (by repeat (first | exact up_s | assumption | refine up_n (by first | assumption | decide | omega) ?_)) (by first | assumption | rfl) (ix_i rfl (by omega) (by decide)) ?_
        rw [r2 fr hf, hD]
        refine gr_run (pc' := 13) 1 rfl ?_
        refine gr_icF (t := 26) rfl (by decide) (by omega) (by omega) (cN_eq (by omega)) ?_
        refine gr_run (pc' := 18) 2 rfl ?_
        refine gr_getf rfl rfl (by repeat (first | exact up_s | assumption | refine up_n (by first | assumption | decide | omega) ?_)) (by first | assumption | rfl) rfl ?_
        refine gr_run (pc' := 22) 1 rfl ?_
        refine gr_iald rfl (by repeat (first | exact up_s | assumption | refine up_n (by first | assumption | decide | omega) ?_)) (by first | assumption | rfl) (ix_i rfl (by omega) (by decide)) ?_
        rw [r2 fr hf, hD]
        refine gr_icT (t := 29) rfl (by decide) (by omega) (by omega) (cI_lt (by omega)) ?_
        refine gr_run (pc' := 30) 1 rfl ?_
        refine gr_ifT (t := 40) rfl (by decide) (by omega) (cI_ge (by omega)) ?_
        refine gr_run (pc' := 49) 6 rfl ?_
        exact loop I 0 _ (by omega)
end MB
