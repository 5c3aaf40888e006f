/-! the model: lay, remember, changes -/
def layOK (t : Pn) : Prop := flt t.1 t.2 = -4 ∧ clF t.1 (txH t) t.1 0 = -4
def popU (U : Sk) : Sk := (U.1 - 1, U.2)
section MC
variable {d : Nat} {A : AH} {σ : SS}
theorem m_layB {z : Int} (hR : RepM σ A) (hz : bd z) (hn : z ≠ 0 ∧ z ≠ 1) : Rt mX7_lay (d + 1) [.ref 43, .int (iI z)] A (some (.int (iI (-1)))) A := by
  refine rt_intro kX7_lay rfl rfl rfl ?_
  refine gr_run (pc' := 1) 1 rfl ?_
  refine gr_i2l rfl (by omega) ?_
  refine gr_run (pc' := 4) 2 rfl ?_
  refine gr_callS (As := [_, _, _]) lk_7_61 rfl rfl (r_isF (by omega) (by decide) (by decide) (by show z < 0 ∨ 1 < z; omega)) rfl rfl rfl ?_
  refine gr_ifF (t := 12) rfl (by decide) (by omega) (cN_ne (by omega)) ?_
  refine gr_run (pc' := 11) 1 rfl ?_
  exact gr_ret rfl rfl
theorem m_layN {z : Int} (hR : RepM σ A) (ho : okX σ.1) (hz : z = 0 ∨ z = 1) (hl : ¬ layOK σ.1) : Rt mX7_lay (d + 2) [.ref 43, .int (iI z)] A (some (.int (iI (-2)))) A := by
  have h0 := hR.1
  have hbd := flt_bd ho
  refine rt_intro kX7_lay rfl rfl rfl ?_
  refine gr_run (pc' := 1) 1 rfl ?_
  refine gr_i2l rfl (by omega) ?_
  refine gr_run (pc' := 4) 2 rfl ?_
  refine gr_callS (As := [_, _, _]) lk_7_61 rfl rfl (r_isT (by omega) (by decide) (by decide) (by show (0 : Int) ≤ z; omega) (by show z ≤ 1; omega)) rfl rfl rfl ?_
  refine gr_ifT (t := 12) rfl (by decide) (by omega) (cI_ne (by omega)) ?_
  refine gr_run (pc' := 13) 1 rfl ?_
  refine gr_callV (As := []) lk_7_74 rfl rfl (m_fault hR ho) (by repeat (first | exact up_s | assumption | refine up_n (by first | assumption | decide | omega) ?_)) (by first | assumption | exact Nat.le_of_ble_eq_true rfl | exact Nat.le_of_ble_eq_true (by assumption)) rfl rfl rfl rfl rfl ?_
  by_cases hf : flt σ.1.1 σ.1.2 = -4
  · have hc : clF σ.1.1 (txH σ.1) σ.1.1 0 ≠ -4 := fun q => hl ⟨hf, q⟩
    have hcb := clF_bd (n := σ.1.1) (h := txH σ.1) (m := σ.1.1) (i := 0)
    have h40 := ho.1
    refine gr_run (pc' := 18) 1 rfl ?_
    refine gr_icF (t := 30) rfl (by decide) (by omega) (by omega) (cN_ne (by omega)) ?_
    refine gr_run (pc' := 22) 1 rfl ?_
    refine gr_callV (As := []) lk_7_78 rfl rfl (m_clashes hR hf) (by repeat (first | exact up_s | assumption | refine up_n (by first | assumption | decide | omega) ?_)) (by first | assumption | exact Nat.le_of_ble_eq_true rfl | exact Nat.le_of_ble_eq_true (by assumption)) rfl rfl rfl rfl rfl ?_
    refine gr_run (pc' := 27) 1 rfl ?_
    refine gr_icF (t := 33) rfl (by decide) (by omega) (by omega) (cN_eq (by omega)) ?_
    refine gr_run (pc' := 32) 1 rfl ?_
    exact gr_ret rfl rfl
  · refine gr_run (pc' := 18) 1 rfl ?_
    refine gr_icT (t := 30) rfl (by decide) (by omega) (by omega) (cI_ne (by omega)) ?_
    refine gr_run (pc' := 32) 1 rfl ?_
    exact gr_ret rfl rfl
theorem m_lay0 (hR : RepM σ A) (ho : okX σ.1) (hl : layOK σ.1) : ∃ A', Rt mX7_lay (d + 2) [.ref 43, .int (iI 0)] A (some (.int (iI σ.1.1))) A' ∧ RepM (σ.1, (σ.1.1, txH σ.1), σ.2.2.1, (0, σ.2.2.2.1.2), σ.2.2.2.2) A' ∧ offE A A' 43 56 := by
  obtain ⟨h0, ⟨tf, t1, t2⟩, ⟨f, e1, e2⟩, h3, h4, h5, h6⟩ := id hR
  obtain ⟨hn, hb⟩ := flt_none hl.1
  have key : ∀ i, i ≤ σ.1.1 → Gr mX7_lay (d + 2) 35 [some (.ref 43), some (.int (iI 0)), some (.int (iI (i : Int)))] [] (va_up A 45 (Ia 10 (fun j => if j < i then iI ((txH σ.1 j : Nat) : Int) else f j))) (some (.int (iI σ.1.1))) (va_up (va_up A 45 (Ia 10 (fun j => if j < σ.1.1 then iI ((txH σ.1 j : Nat) : Int) else f j))) 43 (mdl σ.1.1 σ.1.1 σ.2.2.1.1 0 σ.2.2.2.2.1)) := by
    refine go_up ?_ ?_
    · refine gr_run (pc' := 37) 2 rfl ?_
      refine gr_getf rfl rfl (by repeat (first | exact up_s | assumption | refine up_n (by first | assumption | decide | omega) ?_)) (by first | assumption | rfl) rfl ?_
      refine gr_icT (t := 86) rfl (by decide) (by omega) (by omega) (cI_ge (by omega)) ?_
      refine gr_run (pc' := 87) 1 rfl ?_
      refine gr_ifF (t := 106) rfl (by decide) (by omega) (cN_ne (by omega)) ?_
      refine gr_run (pc' := 92) 2 rfl ?_
      refine gr_getf rfl rfl (by repeat (first | exact up_s | assumption | refine up_n (by first | assumption | decide | omega) ?_)) (by first | assumption | rfl) rfl ?_
      refine gr_putf rfl rfl rfl (by repeat (first | exact up_s | assumption | refine up_n (by first | assumption | decide | omega) ?_)) (by first | assumption | rfl) rfl rfl ?_
      refine gr_run (pc' := 100) 2 rfl ?_
      refine gr_putf rfl rfl rfl (by repeat (first | exact up_s | assumption | refine up_n (by first | assumption | decide | omega) ?_)) (by first | assumption | rfl) rfl rfl ?_
      rw [bx_uu]
      refine gr_run (pc' := 115) 2 rfl ?_
      refine gr_getf rfl rfl (by repeat (first | exact up_s | assumption | refine up_n (by first | assumption | decide | omega) ?_)) (by first | assumption | rfl) rfl ?_
      exact gr_ret rfl rfl
    · intro i hi ih
      have hbi := hb i hi
      refine gr_run (pc' := 37) 2 rfl ?_
      refine gr_getf rfl rfl (by repeat (first | exact up_s | assumption | refine up_n (by first | assumption | decide | omega) ?_)) (by first | assumption | rfl) rfl ?_
      refine gr_icF (t := 86) rfl (by decide) (by omega) (by omega) (cN_ge (by omega)) ?_
      refine gr_run (pc' := 44) 1 rfl ?_
      refine gr_ifF (t := 65) rfl (by decide) (by omega) (cN_ne (by omega)) ?_
      refine gr_run (pc' := 48) 1 rfl ?_
      refine gr_getf rfl rfl (by repeat (first | exact up_s | assumption | refine up_n (by first | assumption | decide | omega) ?_)) (by first | assumption | rfl) rfl ?_
      refine gr_run (pc' := 53) 2 rfl ?_
      refine gr_getf rfl rfl (by repeat (first | exact up_s | assumption | refine up_n (by first | assumption | decide | omega) ?_)) (by first | assumption | rfl) rfl ?_
      refine gr_run (pc' := 57) 1 rfl ?_
      refine gr_iald rfl (by repeat (first | exact up_s | assumption | refine up_n (by first | assumption | decide | omega) ?_)) (by first | assumption | rfl) (ix_i rfl (by omega) (by decide)) ?_
      rw [t2 i hi]
      refine gr_run (pc' := 60) 1 rfl ?_
      refine gr_isub rfl ?_
      rw [show (σ.1.2 i : Int) - 48 = ((txH σ.1 i : Nat) : Int) by unfold txH; omega]
      refine gr_iast rfl (by repeat (first | exact up_s | assumption | refine up_n (by first | assumption | decide | omega) ?_)) (by first | assumption | rfl) (ix_i rfl (by omega) (by decide)) ?_
      rw [bx_uu, upd_lt (g := fun j => iI ((txH σ.1 j : Nat) : Int))]
      refine gr_run (pc' := 80) 1 rfl ?_
      refine gr_iinc rfl rfl rfl rfl ?_
      refine gr_run (pc' := 35) 1 rfl ?_
      exact ih
  refine ⟨va_up (va_up A 45 (Ia 10 (fun j => if j < σ.1.1 then iI ((txH σ.1 j : Nat) : Int) else f j))) 43 (mdl σ.1.1 σ.1.1 σ.2.2.1.1 0 σ.2.2.2.2.1), ?_, ⟨up_s, ⟨tf, up_n (by decide) (up_n (by decide) t1), t2⟩, ⟨fun j => if j < σ.1.1 then iI ((txH σ.1 j : Nat) : Int) else f j, up_n (by decide) up_s, fun i hi => if_pos hi⟩, h3.o ((up_o (by decide)).trans (up_o (by decide))), ?_, h5.o ((up_o (by decide)).trans (up_o (by decide))), h6.o (fun k _ _ => (up_o (by omega)).trans (up_o (by omega)))⟩, (offE.rf.up (by omega)).up (by omega)⟩
  · have hbd := flt_bd ho
    refine rt_intro kX7_lay rfl rfl rfl ?_
    refine gr_run (pc' := 1) 1 rfl ?_
    refine gr_i2l rfl (by omega) ?_
    refine gr_run (pc' := 4) 2 rfl ?_
    refine gr_callS (As := [_, _, _]) lk_7_61 rfl rfl (r_isT (by decide) (by decide) (by decide) (by decide) (by decide)) rfl rfl rfl ?_
    refine gr_ifT (t := 12) rfl (by decide) (by omega) (cI_ne (by omega)) ?_
    refine gr_run (pc' := 13) 1 rfl ?_
    refine gr_callV (As := []) lk_7_74 rfl rfl (m_fault hR ho) (by repeat (first | exact up_s | assumption | refine up_n (by first | assumption | decide | omega) ?_)) (by first | assumption | exact Nat.le_of_ble_eq_true rfl | exact Nat.le_of_ble_eq_true (by assumption)) rfl rfl rfl rfl rfl ?_
    rw [hl.1]
    refine gr_run (pc' := 18) 1 rfl ?_
    refine gr_icF (t := 30) rfl (by decide) (by omega) (by omega) (cN_ne (by omega)) ?_
    refine gr_run (pc' := 22) 1 rfl ?_
    refine gr_callV (As := []) lk_7_78 rfl rfl (m_clashes hR hl.1) (by repeat (first | exact up_s | assumption | refine up_n (by first | assumption | decide | omega) ?_)) (by first | assumption | exact Nat.le_of_ble_eq_true rfl | exact Nat.le_of_ble_eq_true (by assumption)) rfl rfl rfl rfl rfl ?_
    rw [hl.2]
    refine gr_run (pc' := 27) 1 rfl ?_
    refine gr_icT (t := 33) rfl (by decide) (by omega) (by omega) (cI_eq (by omega)) ?_
    refine gr_run (pc' := 35) 2 rfl ?_
    refine gr_h ?_ (key 0 (by omega))
    exact (up_same (by simpa using e1)).symm
  · obtain ⟨g, g1, g2⟩ := h4
    exact ⟨g, (up_n (by decide) (up_n (by decide) g1)), fun j hj => by simp at hj⟩
theorem m_lay1 (hR : RepM σ A) (ho : okX σ.1) (hl : layOK σ.1) : ∃ A', Rt mX7_lay (d + 2) [.ref 43, .int (iI 1)] A (some (.int (iI σ.1.1))) A' ∧ RepM (σ.1, σ.2.1, (σ.1.1, txH σ.1), σ.2.2.2) A' ∧ offE A A' 43 56 := by
  obtain ⟨h0, ⟨tf, t1, t2⟩, h2, ⟨f, e1, e2⟩, h4, h5, h6⟩ := id hR
  obtain ⟨hn, hb⟩ := flt_none hl.1
  have key : ∀ i, i ≤ σ.1.1 → Gr mX7_lay (d + 2) 35 [some (.ref 43), some (.int (iI 1)), some (.int (iI (i : Int)))] [] (va_up A 46 (Ia 10 (fun j => if j < i then iI ((txH σ.1 j : Nat) : Int) else f j))) (some (.int (iI σ.1.1))) (va_up (va_up A 46 (Ia 10 (fun j => if j < σ.1.1 then iI ((txH σ.1 j : Nat) : Int) else f j))) 43 (mdl σ.1.1 σ.2.1.1 σ.1.1 σ.2.2.2.1.1 σ.2.2.2.2.1)) := by
    refine go_up ?_ ?_
    · refine gr_run (pc' := 37) 2 rfl ?_
      refine gr_getf rfl rfl (by repeat (first | exact up_s | assumption | refine up_n (by first | assumption | decide | omega) ?_)) (by first | assumption | rfl) rfl ?_
      refine gr_icT (t := 86) rfl (by decide) (by omega) (by omega) (cI_ge (by omega)) ?_
      refine gr_run (pc' := 87) 1 rfl ?_
      refine gr_ifT (t := 106) rfl (by decide) (by omega) (cI_ne (by omega)) ?_
      refine gr_run (pc' := 108) 2 rfl ?_
      refine gr_getf rfl rfl (by repeat (first | exact up_s | assumption | refine up_n (by first | assumption | decide | omega) ?_)) (by first | assumption | rfl) rfl ?_
      refine gr_putf rfl rfl rfl (by repeat (first | exact up_s | assumption | refine up_n (by first | assumption | decide | omega) ?_)) (by first | assumption | rfl) rfl rfl ?_
      refine gr_run (pc' := 115) 1 rfl ?_
      refine gr_getf rfl rfl (by repeat (first | exact up_s | assumption | refine up_n (by first | assumption | decide | omega) ?_)) (by first | assumption | rfl) rfl ?_
      exact gr_ret rfl rfl
    · intro i hi ih
      have hbi := hb i hi
      refine gr_run (pc' := 37) 2 rfl ?_
      refine gr_getf rfl rfl (by repeat (first | exact up_s | assumption | refine up_n (by first | assumption | decide | omega) ?_)) (by first | assumption | rfl) rfl ?_
      refine gr_icF (t := 86) rfl (by decide) (by omega) (by omega) (cN_ge (by omega)) ?_
      refine gr_run (pc' := 44) 1 rfl ?_
      refine gr_ifT (t := 65) rfl (by decide) (by omega) (cI_ne (by omega)) ?_
      refine gr_run (pc' := 66) 1 rfl ?_
      refine gr_getf rfl rfl (by repeat (first | exact up_s | assumption | refine up_n (by first | assumption | decide | omega) ?_)) (by first | assumption | rfl) rfl ?_
      refine gr_run (pc' := 71) 2 rfl ?_
      refine gr_getf rfl rfl (by repeat (first | exact up_s | assumption | refine up_n (by first | assumption | decide | omega) ?_)) (by first | assumption | rfl) rfl ?_
      refine gr_run (pc' := 75) 1 rfl ?_
      refine gr_iald rfl (by repeat (first | exact up_s | assumption | refine up_n (by first | assumption | decide | omega) ?_)) (by first | assumption | rfl) (ix_i rfl (by omega) (by decide)) ?_
      rw [t2 i hi]
      refine gr_run (pc' := 78) 1 rfl ?_
      refine gr_isub rfl ?_
      rw [show (σ.1.2 i : Int) - 48 = ((txH σ.1 i : Nat) : Int) by unfold txH; omega]
      refine gr_iast rfl (by repeat (first | exact up_s | assumption | refine up_n (by first | assumption | decide | omega) ?_)) (by first | assumption | rfl) (ix_i rfl (by omega) (by decide)) ?_
      rw [bx_uu, upd_lt (g := fun j => iI ((txH σ.1 j : Nat) : Int))]
      refine gr_iinc rfl rfl rfl rfl ?_
      refine gr_run (pc' := 35) 1 rfl ?_
      exact ih
  refine ⟨va_up (va_up A 46 (Ia 10 (fun j => if j < σ.1.1 then iI ((txH σ.1 j : Nat) : Int) else f j))) 43 (mdl σ.1.1 σ.2.1.1 σ.1.1 σ.2.2.2.1.1 σ.2.2.2.2.1), ?_, ⟨up_s, ⟨tf, up_n (by decide) (up_n (by decide) t1), t2⟩, h2.o ((up_o (by decide)).trans (up_o (by decide))), ⟨fun j => if j < σ.1.1 then iI ((txH σ.1 j : Nat) : Int) else f j, up_n (by decide) up_s, fun i hi => if_pos hi⟩, h4.o ((up_o (by decide)).trans (up_o (by decide))), h5.o ((up_o (by decide)).trans (up_o (by decide))), h6.o (fun k _ _ => (up_o (by omega)).trans (up_o (by omega)))⟩, (offE.rf.up (by omega)).up (by omega)⟩
  have hbd := flt_bd ho
  refine rt_intro kX7_lay rfl rfl rfl ?_
  refine gr_run (pc' := 1) 1 rfl ?_
  refine gr_i2l rfl (by omega) ?_
  refine gr_run (pc' := 4) 2 rfl ?_
  refine gr_callS (As := [_, _, _]) lk_7_61 rfl rfl (r_isT (by decide) (by decide) (by decide) (by decide) (by decide)) rfl rfl rfl ?_
  refine gr_ifT (t := 12) rfl (by decide) (by omega) (cI_ne (by omega)) ?_
  refine gr_run (pc' := 13) 1 rfl ?_
  refine gr_callV (As := []) lk_7_74 rfl rfl (m_fault hR ho) (by repeat (first | exact up_s | assumption | refine up_n (by first | assumption | decide | omega) ?_)) (by first | assumption | exact Nat.le_of_ble_eq_true rfl | exact Nat.le_of_ble_eq_true (by assumption)) rfl rfl rfl rfl rfl ?_
  rw [hl.1]
  refine gr_run (pc' := 18) 1 rfl ?_
  refine gr_icF (t := 30) rfl (by decide) (by omega) (by omega) (cN_ne (by omega)) ?_
  refine gr_run (pc' := 22) 1 rfl ?_
  refine gr_callV (As := []) lk_7_78 rfl rfl (m_clashes hR hl.1) (by repeat (first | exact up_s | assumption | refine up_n (by first | assumption | decide | omega) ?_)) (by first | assumption | exact Nat.le_of_ble_eq_true rfl | exact Nat.le_of_ble_eq_true (by assumption)) rfl rfl rfl rfl rfl ?_
  rw [hl.2]
  refine gr_run (pc' := 27) 1 rfl ?_
  refine gr_icT (t := 33) rfl (by decide) (by omega) (by omega) (cI_eq (by omega)) ?_
  refine gr_run (pc' := 35) 2 rfl ?_
  refine gr_h ?_ (key 0 (by omega))
  exact (up_same (by simpa using e1)).symm
theorem m_remember (hR : RepM σ A) (hS : okS σ) : ∃ A', Rt mX7_remember d [.ref 43] A none A' ∧ RepM (σ.1, σ.2.1, σ.2.2.1, pushU σ.2.2.2.1 σ.2.1, σ.2.2.2.2) A' ∧ offE A A' 43 56 ∧ A' 49 = A 49 := by
  obtain ⟨h0, h1, ⟨f, e1, e2⟩, h3, ⟨g, g1, g2⟩, h5, h6⟩ := id hR
  have hu8 := hS.2.2.2.1.1
  have hn10 := hS.2.1.1.1
  -- the second half, with room for one more
  have second : ∀ (b : Nat → Int32) (v : Nat), v ≤ 7 → ∃ b' : Nat → Int32, (∀ x1 : Option Value, Gr mX7_remember d 48 [some (.ref 43), x1] [] (va_up (va_up A 47 (Ia 88 b)) 43 (mdl σ.1.1 σ.2.1.1 σ.2.2.1.1 v σ.2.2.2.2.1)) none (va_up (va_up A 47 (Ia 88 b')) 43 (mdl σ.1.1 σ.2.1.1 σ.2.2.1.1 (v + 1) σ.2.2.2.2.1))) ∧ (∀ q, q < 11 * v → b' q = b q) ∧ b' (11 * v) = iI (σ.2.1.1) ∧ ∀ i, i < 10 → b' (11 * v + 1 + i) = f i := by
    intro b v hv
    have loop : ∀ (m k : Nat) (b1 : Nat → Int32), k + m = 10 → (∀ q, q < 11 * v → b1 q = b q) → b1 (11 * v) = iI (σ.2.1.1) → (∀ i, i < k → b1 (11 * v + 1 + i) = f i) → ∃ b' : Nat → Int32, Gr mX7_remember d 66 [some (.ref 43), some (.int (iI (k : Int)))] [] (va_up (va_up A 43 (mdl σ.1.1 σ.2.1.1 σ.2.2.1.1 v σ.2.2.2.2.1)) 47 (Ia 88 b1)) none (va_up (va_up A 47 (Ia 88 b')) 43 (mdl σ.1.1 σ.2.1.1 σ.2.2.1.1 (v + 1) σ.2.2.2.2.1)) ∧ (∀ q, q < 11 * v → b' q = b q) ∧ b' (11 * v) = iI (σ.2.1.1) ∧ ∀ i, i < 10 → b' (11 * v + 1 + i) = f i := by
      intro m
      induction m with
      | zero =>
        intro k b1 hk q1 q2 q3
        refine ⟨b1, ?_, q1, q2, fun i hi => q3 i (by omega)⟩
        refine gr_run (pc' := 69) 2 rfl ?_
        refine gr_icT (t := 100) rfl (by decide) (by omega) (by omega) (cI_ge (by omega)) ?_
        refine gr_run (pc' := 102) 2 rfl ?_
        refine gr_getf rfl rfl (by repeat (first | exact up_s | assumption | refine up_n (by first | assumption | decide | omega) ?_)) (by first | assumption | rfl) rfl ?_
        refine gr_run (pc' := 106) 1 rfl ?_
        refine gr_iadd rfl ?_
        refine gr_putf rfl rfl rfl (by repeat (first | exact up_s | assumption | refine up_n (by first | assumption | decide | omega) ?_)) (by first | assumption | rfl) rfl rfl ?_
        have e : va_up (va_up (va_up A 43 (mdl σ.1.1 σ.2.1.1 σ.2.2.1.1 v σ.2.2.2.2.1)) 47 (Ia 88 b1)) 43 (mdl σ.1.1 σ.2.1.1 σ.2.2.1.1 (v + 1) σ.2.2.2.2.1) = va_up (va_up A 47 (Ia 88 b1)) 43 (mdl σ.1.1 σ.2.1.1 σ.2.2.1.1 (v + 1) σ.2.2.2.2.1) := by
          funext k
          simp only [va_up]
          by_cases a1 : k = 43 <;> by_cases a2 : k = 47 <;> simp [a1, a2]
        rw [← e]
        exact gr_ret rfl rfl
      | succ m ih =>
        intro k b1 hk q1 q2 q3
        obtain ⟨b', r1, r2⟩ := ih (k + 1) (upd b1 (11 * v + 1 + k) (f k)) (by omega) (fun q hq => by rw [← q1 q hq]; exact if_neg (by omega)) (by rw [← q2]; exact if_neg (by omega)) (fun i hi => by
          unfold upd
          by_cases e : i = k
          · subst e; rw [if_pos rfl]
          · rw [if_neg (by omega)]; exact q3 i (by omega))
        refine ⟨b', ?_, r2⟩
        refine gr_run (pc' := 69) 2 rfl ?_
        refine gr_icF (t := 100) rfl (by decide) (by omega) (by omega) (cN_ge (by omega)) ?_
        refine gr_run (pc' := 73) 1 rfl ?_
        refine gr_getf rfl rfl (by repeat (first | exact up_s | assumption | refine up_n (by first | assumption | decide | omega) ?_)) (by first | assumption | rfl) rfl ?_
        refine gr_run (pc' := 79) 2 rfl ?_
        refine gr_getf rfl rfl (by repeat (first | exact up_s | assumption | refine up_n (by first | assumption | decide | omega) ?_)) (by first | assumption | rfl) rfl ?_
        refine gr_imul rfl ?_
        refine gr_run (pc' := 84) 1 rfl ?_
        refine gr_iadd rfl ?_
        refine gr_run (pc' := 86) 1 rfl ?_
        refine gr_iadd rfl ?_
        refine gr_run (pc' := 88) 1 rfl ?_
        refine gr_getf rfl rfl (by repeat (first | exact up_s | assumption | refine up_n (by first | assumption | decide | omega) ?_)) (by first | assumption | rfl) rfl ?_
        refine gr_run (pc' := 92) 1 rfl ?_
        refine gr_iald rfl (by repeat (first | exact up_s | assumption | refine up_n (by first | assumption | decide | omega) ?_)) (by first | assumption | rfl) (ix_i rfl (by omega) (by decide)) ?_
        refine gr_iast rfl (by repeat (first | exact up_s | assumption | refine up_n (by first | assumption | decide | omega) ?_)) (by first | assumption | rfl) (ix_i (j := 11 * v + 1 + k) (by omega) (by omega) (by decide)) ?_
        rw [bx_uu]
        refine gr_iinc rfl rfl rfl rfl ?_
        refine gr_run (pc' := 66) 1 rfl ?_
        exact r1
    obtain ⟨b', r1, r2⟩ := loop 10 0 (upd b (11 * v) (iI (σ.2.1.1))) (by omega) (fun q hq => if_neg (by omega)) (if_pos rfl) (fun i hi => by omega)
    refine ⟨b', fun x1 => ?_, r2⟩
    refine gr_run (pc' := 49) 1 rfl ?_
    refine gr_getf rfl rfl (by repeat (first | exact up_s | assumption | refine up_n (by first | assumption | decide | omega) ?_)) (by first | assumption | rfl) rfl ?_
    refine gr_run (pc' := 55) 2 rfl ?_
    refine gr_getf rfl rfl (by repeat (first | exact up_s | assumption | refine up_n (by first | assumption | decide | omega) ?_)) (by first | assumption | rfl) rfl ?_
    refine gr_imul rfl ?_
    refine gr_run (pc' := 60) 1 rfl ?_
    refine gr_getf rfl rfl (by repeat (first | exact up_s | assumption | refine up_n (by first | assumption | decide | omega) ?_)) (by first | assumption | rfl) rfl ?_
    refine gr_iast rfl (by repeat (first | exact up_s | assumption | refine up_n (by first | assumption | decide | omega) ?_)) (by first | assumption | rfl) (ix_i (j := 11 * v) (by omega) (by omega) (by decide)) ?_
    refine gr_run (pc' := 66) 2 rfl ?_
    refine gr_h ?_ r1
    funext k
    simp only [va_up]
    by_cases a1 : k = 43 <;> by_cases a2 : k = 47 <;> simp [a1, a2]
  by_cases hfull : σ.2.2.2.1.1 < 8
  · obtain ⟨b', r1, r2, r3, r4⟩ := second g σ.2.2.2.1.1 (by omega)
    have hpu : pushU σ.2.2.2.1 σ.2.1 = (σ.2.2.2.1.1 + 1, fun j => if j = σ.2.2.2.1.1 then σ.2.1 else σ.2.2.2.1.2 j) := if_pos hfull
    rw [hpu]
    refine ⟨va_up (va_up A 47 (Ia 88 b')) 43 (mdl σ.1.1 σ.2.1.1 σ.2.2.1.1 (σ.2.2.2.1.1 + 1) σ.2.2.2.2.1), ?_, ⟨up_s, h1.o ((up_o (by decide)).trans (up_o (by decide))), ⟨f, up_n (by decide) (up_n (by decide) e1), e2⟩, h3.o ((up_o (by decide)).trans (up_o (by decide))), ⟨b', up_n (by decide) up_s, fun j hj => ?_⟩, h5.o ((up_o (by decide)).trans (up_o (by decide))), h6.o (fun k _ _ => (up_o (by omega)).trans (up_o (by omega)))⟩, (offE.rf.up (by omega)).up (by omega), (up_o (by decide)).trans (up_o (by decide))⟩
    · refine rt_intro kX7_remember rfl rfl trivial ?_
      refine gr_run (pc' := 1) 1 rfl ?_
      refine gr_getf rfl rfl (by repeat (first | exact up_s | assumption | refine up_n (by first | assumption | decide | omega) ?_)) (by first | assumption | rfl) rfl ?_
      refine gr_run (pc' := 6) 1 rfl ?_
      refine gr_icT (t := 48) rfl (by decide) (by omega) (by omega) (cI_ne (by omega)) ?_
      refine gr_h ?_ (r1 none)
      rw [up_same g1, up_same h0]
    · simp only at hj ⊢
      by_cases e : j = σ.2.2.2.1.1
      · rw [if_pos e, e]
        exact ⟨r3, fun i hi => by rw [r4 i (by omega)]; exact e2 i hi⟩
      · rw [if_neg e]
        have hj2 : j < σ.2.2.2.1.1 := by omega
        have hk := (hS.2.2.2.1.2 j hj2).1.1
        obtain ⟨w1, w2⟩ := g2 j hj2
        exact ⟨by rw [r2 _ (by omega)]; exact w1, fun i hi => by rw [r2 _ (by omega)]; exact w2 i hi⟩
  · have hu : σ.2.2.2.1.1 = 8 := by omega
    have hpu : pushU σ.2.2.2.1 σ.2.1 = (8, fun j => if j = 7 then σ.2.1 else σ.2.2.2.1.2 (j + 1)) := if_neg hfull
    obtain ⟨b', r1, r2, r3, r4⟩ := second (fun q => if q < 77 then g (q + 11) else g q) 7 (by omega)
    rw [hpu]
    refine ⟨va_up (va_up A 47 (Ia 88 b')) 43 (mdl σ.1.1 σ.2.1.1 σ.2.2.1.1 8 σ.2.2.2.2.1), ?_, ⟨up_s, h1.o ((up_o (by decide)).trans (up_o (by decide))), ⟨f, up_n (by decide) (up_n (by decide) e1), e2⟩, h3.o ((up_o (by decide)).trans (up_o (by decide))), ⟨b', up_n (by decide) up_s, fun j hj => ?_⟩, h5.o ((up_o (by decide)).trans (up_o (by decide))), h6.o (fun k _ _ => (up_o (by omega)).trans (up_o (by omega)))⟩, (offE.rf.up (by omega)).up (by omega), (up_o (by decide)).trans (up_o (by decide))⟩
    · have shift : ∀ k : Nat, k ≤ 77 → Gr mX7_remember d 11 [some (.ref 43), some (.int (iI (k : Int)))] [] (va_up A 47 (Ia 88 (fun q => if q < k then g (q + 11) else g q))) none (va_up (va_up A 47 (Ia 88 b')) 43 (mdl σ.1.1 σ.2.1.1 σ.2.2.1.1 8 σ.2.2.2.2.1)) := by
        refine go_up ?_ ?_
        · refine gr_run (pc' := 14) 2 rfl ?_
          refine gr_icT (t := 38) rfl (by decide) (by omega) (by omega) (cI_ge (by omega)) ?_
          refine gr_run (pc' := 40) 2 rfl ?_
          refine gr_getf rfl rfl (by repeat (first | exact up_s | assumption | refine up_n (by first | assumption | decide | omega) ?_)) (by first | assumption | rfl) rfl ?_
          refine gr_run (pc' := 44) 1 rfl ?_
          refine gr_isub rfl ?_
          refine gr_putf rfl rfl rfl (by repeat (first | exact up_s | assumption | refine up_n (by first | assumption | decide | omega) ?_)) (by first | assumption | rfl) rfl rfl ?_
          have := r1 (some (.int (iI ((77 : Nat) : Int))))
          rw [show iI ((σ.2.2.2.1.1 : Int) - 1) = iI ((7 : Nat) : Int) by rw [hu]; rfl]
          exact this
        · intro k hk ih
          refine gr_run (pc' := 14) 2 rfl ?_
          refine gr_icF (t := 38) rfl (by decide) (by omega) (by omega) (cN_ge (by omega)) ?_
          refine gr_run (pc' := 18) 1 rfl ?_
          refine gr_getf rfl rfl (by repeat (first | exact up_s | assumption | refine up_n (by first | assumption | decide | omega) ?_)) (by first | assumption | rfl) rfl ?_
          refine gr_run (pc' := 23) 2 rfl ?_
          refine gr_getf rfl rfl (by repeat (first | exact up_s | assumption | refine up_n (by first | assumption | decide | omega) ?_)) (by first | assumption | rfl) rfl ?_
          refine gr_run (pc' := 29) 2 rfl ?_
          refine gr_iadd rfl ?_
          refine gr_iald rfl (by repeat (first | exact up_s | assumption | refine up_n (by first | assumption | decide | omega) ?_)) (by first | assumption | rfl) (ix_i (j := k + 11) rfl (by omega) (by decide)) ?_
          rw [if_neg (show ¬ k + 11 < k by omega)]
          refine gr_iast rfl (by repeat (first | exact up_s | assumption | refine up_n (by first | assumption | decide | omega) ?_)) (by first | assumption | rfl) (ix_i rfl (by omega) (by decide)) ?_
          rw [bx_uu, upd_lt (g := fun q => g (q + 11))]
          refine gr_iinc rfl rfl rfl rfl ?_
          refine gr_run (pc' := 11) 1 rfl ?_
          exact ih
      refine rt_intro kX7_remember rfl rfl trivial ?_
      refine gr_run (pc' := 1) 1 rfl ?_
      refine gr_getf rfl rfl (by repeat (first | exact up_s | assumption | refine up_n (by first | assumption | decide | omega) ?_)) (by first | assumption | rfl) rfl ?_
      refine gr_run (pc' := 6) 1 rfl ?_
      refine gr_icF (t := 48) rfl (by decide) (by omega) (by omega) (cN_ne (by omega)) ?_
      refine gr_run (pc' := 11) 2 rfl ?_
      refine gr_h ?_ (shift 0 (by omega))
      exact (up_same (by simpa using g1)).symm
    · simp only at hj ⊢
      by_cases e : j = 7
      · rw [if_pos e, e]
        exact ⟨r3, fun i hi => by rw [r4 i (by omega)]; exact e2 i hi⟩
      · rw [if_neg e]
        have hj2 : j + 1 < σ.2.2.2.1.1 := by omega
        have hk := (hS.2.2.2.1.2 (j + 1) hj2).1.1
        obtain ⟨w1, w2⟩ := g2 (j + 1) hj2
        refine ⟨?_, fun i hi => ?_⟩
        · rw [r2 _ (by omega), if_pos (by omega), show 11 * j + 11 = 11 * (j + 1) by omega]; exact w1
        · rw [r2 _ (by omega), if_pos (by omega), show 11 * j + 1 + i + 11 = 11 * (j + 1) + 1 + i by omega]; exact w2 i hi
theorem m_takeDraft {n : Nat} {h : Nat → Nat} {dr : Nat → Int32} (hR : RepM σ A) (hd : A 49 = Ia 10 dr) (hn : n ≤ 10) (hf : ∀ i, i < n → dr i = iI (h i)) : ∃ A', Rt mX7_takeDraft d [.ref 43, .int (iI n)] A none A' ∧ RepM (σ.1, (n, h), σ.2.2) A' ∧ offE A A' 43 56 := by
  obtain ⟨h0, h1, ⟨f, e1, e2⟩, h3, h4, h5, h6⟩ := id hR
  have key : ∀ i, i ≤ n → Gr mX7_takeDraft d 7 [some (.ref 43), some (.int (iI n)), some (.int (iI (i : Int)))] [] (va_up (va_up A 43 (mdl σ.1.1 n σ.2.2.1.1 σ.2.2.2.1.1 σ.2.2.2.2.1)) 45 (Ia 10 (fun j => if j < i then iI (h j) else f j))) none (va_up (va_up A 43 (mdl σ.1.1 n σ.2.2.1.1 σ.2.2.2.1.1 σ.2.2.2.2.1)) 45 (Ia 10 (fun j => if j < n then iI (h j) else f j))) := by
    refine go_up ?_ ?_
    · refine gr_run (pc' := 9) 2 rfl ?_
      refine gr_icT (t := 30) rfl (by decide) (by omega) (by omega) (cI_ge (by omega)) ?_
      exact gr_ret rfl rfl
    · intro i hi ih
      refine gr_run (pc' := 9) 2 rfl ?_
      refine gr_icF (t := 30) rfl (by decide) (by omega) (by omega) (cN_ge (by omega)) ?_
      refine gr_run (pc' := 13) 1 rfl ?_
      refine gr_getf rfl rfl (by repeat (first | exact up_s | assumption | refine up_n (by first | assumption | decide | omega) ?_)) (by first | assumption | rfl) rfl ?_
      refine gr_run (pc' := 18) 2 rfl ?_
      refine gr_getf rfl rfl (by repeat (first | exact up_s | assumption | refine up_n (by first | assumption | decide | omega) ?_)) (by first | assumption | rfl) rfl ?_
      refine gr_run (pc' := 22) 1 rfl ?_
      refine gr_iald rfl (by repeat (first | exact up_s | assumption | refine up_n (by first | assumption | decide | omega) ?_)) (by first | assumption | rfl) (ix_i rfl (by omega) (by decide)) ?_
      rw [hf i hi]
      refine gr_iast rfl (by repeat (first | exact up_s | assumption | refine up_n (by first | assumption | decide | omega) ?_)) (by first | assumption | rfl) (ix_i rfl (by omega) (by decide)) ?_
      rw [bx_uu, upd_lt (g := fun j => iI (h j))]
      refine gr_iinc rfl rfl rfl rfl ?_
      refine gr_run (pc' := 7) 1 rfl ?_
      exact ih
  refine ⟨va_up (va_up A 43 (mdl σ.1.1 n σ.2.2.1.1 σ.2.2.2.1.1 σ.2.2.2.2.1)) 45 (Ia 10 (fun j => if j < n then iI (h j) else f j)), ?_, ⟨up_n (by decide) up_s, h1.o ((up_o (by decide)).trans (up_o (by decide))), ⟨fun j => if j < n then iI (h j) else f j, up_s, fun i hi => if_pos hi⟩, h3.o ((up_o (by decide)).trans (up_o (by decide))), h4.o ((up_o (by decide)).trans (up_o (by decide))), h5.o ((up_o (by decide)).trans (up_o (by decide))), h6.o (fun k _ _ => (up_o (by omega)).trans (up_o (by omega)))⟩, (offE.rf.up (by omega)).up (by omega)⟩
  refine rt_intro kX7_takeDraft rfl rfl trivial ?_
  refine gr_run (pc' := 2) 2 rfl ?_
  refine gr_putf rfl rfl rfl (by repeat (first | exact up_s | assumption | refine up_n (by first | assumption | decide | omega) ?_)) (by first | assumption | rfl) rfl rfl ?_
  refine gr_run (pc' := 7) 2 rfl ?_
  refine gr_h ?_ (key 0 (by omega))
  exact (up_same (up_n (by decide) (by simpa using e1))).symm
theorem m_becomes {n : Nat} {h : Nat → Nat} {dr : Nat → Int32} (hR : RepM σ A) (hS : okS σ) (hd : A 49 = Ia 10 dr) (hn : 1 ≤ n ∧ n ≤ 10) (hf : ∀ i, i < n → dr i = iI (h i)) : ∃ A', Rt mX7_becomes (d + 1) [.ref 43, .int (iI n)] A (some (.int (iI (h 0)))) A' ∧ RepM (σ.1, (n, h), σ.2.2.1, pushU σ.2.2.2.1 σ.2.1, σ.2.2.2.2) A' ∧ offE A A' 43 56 := by
  obtain ⟨A1, r1, r2, r3, r4⟩ := m_remember (d := d) hR hS
  obtain ⟨A2, q1, q2, q3⟩ := m_takeDraft (d := d) (dr := dr) (h := h) r2 (r4.trans hd) hn.2 hf
  refine ⟨A2, ?_, q2, r3.tr q3⟩
  have h0 := hR.1
  have h1 := r2.1
  obtain ⟨h2, -, ⟨f, e1, e2⟩, -⟩ := q2
  refine rt_intro kX7_becomes rfl rfl rfl ?_
  refine gr_run (pc' := 1) 1 rfl ?_
  refine gr_callV (As := []) lk_7_94 rfl rfl (r1) (by repeat (first | exact up_s | assumption | refine up_n (by first | assumption | decide | omega) ?_)) (by first | assumption | exact Nat.le_of_ble_eq_true rfl | exact Nat.le_of_ble_eq_true (by assumption)) rfl rfl rfl rfl rfl ?_
  refine gr_run (pc' := 6) 2 rfl ?_
  refine gr_callV (As := [_]) lk_7_97 rfl rfl (q1) (by repeat (first | exact up_s | assumption | refine up_n (by first | assumption | decide | omega) ?_)) (by first | assumption | exact Nat.le_of_ble_eq_true rfl | exact Nat.le_of_ble_eq_true (by assumption)) rfl rfl rfl rfl rfl ?_
  refine gr_run (pc' := 10) 1 rfl ?_
  refine gr_getf rfl rfl (by repeat (first | exact up_s | assumption | refine up_n (by first | assumption | decide | omega) ?_)) (by first | assumption | rfl) rfl ?_
  refine gr_run (pc' := 14) 1 rfl ?_
  refine gr_iald rfl (by repeat (first | exact up_s | assumption | refine up_n (by first | assumption | decide | omega) ?_)) (by first | assumption | rfl) (ix_i (j := 0) rfl (by omega) (by decide)) ?_
  rw [e2 0 hn.1]
  exact gr_ret rfl rfl
end MC
