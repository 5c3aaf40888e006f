/-! the class: turn, backwards, raise, change -/
section XC
variable {d : Nat} {A : AH} {σ : SS}
theorem x_turnB {z : Int} (hX : RepX σ A) (hS : okS σ) (hz : bd z) (hn : z < 0 ∨ (σ.2.1.1 : Int) ≤ z) : Rt mX6_turn (d + 1) [.ref 0, .int (iI z)] A (some (.int (iI (-1)))) A := by
  have h0 := hX.1
  have p1 := hX.2.2.1.1
  refine rt_intro kX6_turn rfl rfl rfl ?_
  refine gr_run (pc' := 1) 1 rfl ?_
  refine gr_getf rfl rfl (by repeat (first | exact up_s | assumption | refine up_n (by first | assumption | decide | omega) ?_)) (by first | assumption | rfl) rfl ?_
  refine gr_run (pc' := 5) 1 rfl ?_
  refine gr_callV (As := [_]) lk_6_108 rfl rfl (r_X2_hasPlaceF p1 rfl hS.2.1.1.1.2 hz hn) (by repeat (first | exact up_s | assumption | refine up_n (by first | assumption | decide | omega) ?_)) (by first | assumption | exact Nat.le_of_ble_eq_true rfl | exact Nat.le_of_ble_eq_true (by assumption)) rfl rfl rfl rfl rfl ?_
  refine gr_ifF (t := 13) rfl (by decide) (by omega) (cN_ne (by omega)) ?_
  refine gr_run (pc' := 12) 1 rfl ?_
  exact gr_ret rfl rfl
theorem x_turn {k : Nat} (hX : RepX σ A) (hS : okS σ) (hk : k < σ.2.1.1) : ∃ A', Rt mX6_turn (d + 3) [.ref 0, .int (iI k)] A (some (.int (iI (tuH σ.2.1.1 σ.2.1.2 k 0)))) A' ∧ RepX (σ.1, (σ.2.1.1, tuH σ.2.1.1 σ.2.1.2 k), σ.2.2.1, pushU σ.2.2.2.1 σ.2.1, σ.2.2.2.2) A' ∧ offE A A' 0 42 := by
  have h0 := hX.1
  obtain ⟨p1, f, p2, p3⟩ := id hX.2.2.1
  obtain ⟨x, g, h7, h8⟩ := hX.2.2.2.2.1
  have hn := hS.2.1.1.1
  have loop : ∀ (m i : Nat) (g1 : Nat → Int32), i + m = σ.2.1.1 → (∀ j, j < i → g1 j = iI (tuH σ.2.1.1 σ.2.1.2 k j)) →
      ∃ A', Gr mX6_turn (d + 3) 26 [some (.ref 0), some (.int (iI k)), some (.int (iI (i : Int)))] [] (va_up (va_up A 7 (Ob 2 [.ref 8, .int (iI σ.2.1.1)])) 8 (Ia 10 g1)) (some (.int (iI (tuH σ.2.1.1 σ.2.1.2 k 0)))) A' ∧ RepX (σ.1, (σ.2.1.1, tuH σ.2.1.1 σ.2.1.2 k), σ.2.2.1, pushU σ.2.2.2.1 σ.2.1, σ.2.2.2.2) A' ∧ offE A A' 0 42 := by
    intro m
    induction m with
    | zero =>
      intro i g1 hi hg
      obtain ⟨A', r1, r2, r3⟩ := x_become (d := d) (h := tuH σ.2.1.1 σ.2.1.2 k) (hX.trial (iI σ.2.1.1) g1) hS (up_n (by decide) up_s) up_s hn (fun j hj => hg j (by omega))
      refine ⟨A', ?_, r2, ((offE.rf.up (by omega)).up (by omega)).tr r3⟩
      refine gr_run (pc' := 28) 2 rfl ?_
      refine gr_getf rfl rfl (by repeat (first | exact up_s | assumption | refine up_n (by first | assumption | decide | omega) ?_)) (by first | assumption | rfl) rfl ?_
      refine gr_callV (As := []) lk_6_94 rfl rfl (r_X2_length (up_n (by decide) (up_n (by decide) p1)) rfl) (by repeat (first | exact up_s | assumption | refine up_n (by first | assumption | decide | omega) ?_)) (by first | assumption | exact Nat.le_of_ble_eq_true rfl | exact Nat.le_of_ble_eq_true (by assumption)) rfl rfl rfl rfl rfl ?_
      refine gr_icT (t := 61) rfl (by decide) (by omega) (by omega) (cI_ge (by omega)) ?_
      refine gr_run (pc' := 62) 1 rfl ?_
      refine gr_callV (As := []) lk_6_115 rfl rfl (r1) (by repeat (first | exact up_s | assumption | refine up_n (by first | assumption | decide | omega) ?_)) (by first | assumption | exact Nat.le_of_ble_eq_true rfl | exact Nat.le_of_ble_eq_true (by assumption)) rfl rfl rfl rfl rfl ?_
      exact gr_ret rfl rfl
    | succ m ih =>
      intro i g1 hi hg
      obtain ⟨A', r1, r2⟩ := ih (i + 1) (upd g1 i (iI (tuH σ.2.1.1 σ.2.1.2 k i))) (by omega) (fun j hj => by
        unfold upd
        by_cases e : j = i
        · rw [if_pos e, e]
        · rw [if_neg e]; exact hg j (by omega))
      refine ⟨A', ?_, r2⟩
      refine gr_run (pc' := 28) 2 rfl ?_
      refine gr_getf rfl rfl (by repeat (first | exact up_s | assumption | refine up_n (by first | assumption | decide | omega) ?_)) (by first | assumption | rfl) rfl ?_
      refine gr_callV (As := []) lk_6_94 rfl rfl (r_X2_length (up_n (by decide) (up_n (by decide) p1)) rfl) (by repeat (first | exact up_s | assumption | refine up_n (by first | assumption | decide | omega) ?_)) (by first | assumption | exact Nat.le_of_ble_eq_true rfl | exact Nat.le_of_ble_eq_true (by assumption)) rfl rfl rfl rfl rfl ?_
      refine gr_icF (t := 61) rfl (by decide) (by omega) (by omega) (cN_ge (by omega)) ?_
      refine gr_run (pc' := 38) 1 rfl ?_
      refine gr_getf rfl rfl (by repeat (first | exact up_s | assumption | refine up_n (by first | assumption | decide | omega) ?_)) (by first | assumption | rfl) rfl ?_
      refine gr_run (pc' := 43) 2 rfl ?_
      refine gr_getf rfl rfl (by repeat (first | exact up_s | assumption | refine up_n (by first | assumption | decide | omega) ?_)) (by first | assumption | rfl) rfl ?_
      refine gr_run (pc' := 48) 2 rfl ?_
      refine gr_iadd rfl ?_
      refine gr_callV (As := [_]) lk_6_95 rfl rfl (r_X2_heightAt (up_n (by decide) (up_n (by decide) p1)) (up_n (by decide) (up_n (by decide) p2)) rfl rfl hn p3 (by omega)) (by repeat (first | exact up_s | assumption | refine up_n (by first | assumption | decide | omega) ?_)) (by first | assumption | exact Nat.le_of_ble_eq_true rfl | exact Nat.le_of_ble_eq_true (by assumption)) rfl rfl rfl rfl rfl ?_
      rw [hg_nat]
      refine gr_callV (As := [_, _]) lk_6_111 rfl rfl (r_X2_put (up_n (by decide) up_s) up_s rfl rfl hn.2 (by omega)) (by repeat (first | exact up_s | assumption | refine up_n (by first | assumption | decide | omega) ?_)) (by first | assumption | exact Nat.le_of_ble_eq_true rfl | exact Nat.le_of_ble_eq_true (by assumption)) rfl rfl rfl rfl rfl ?_
      rw [bx_uu]
      refine gr_iinc rfl rfl rfl rfl ?_
      refine gr_run (pc' := 26) 1 rfl ?_
      exact r1
  obtain ⟨A', r1, r2⟩ := loop σ.2.1.1 0 (fun i => if i < σ.2.1.1 then f i else g i) (by omega) (fun j hj => by omega)
  refine ⟨A', ?_, r2⟩
  refine rt_intro kX6_turn rfl rfl rfl ?_
  refine gr_run (pc' := 1) 1 rfl ?_
  refine gr_getf rfl rfl (by repeat (first | exact up_s | assumption | refine up_n (by first | assumption | decide | omega) ?_)) (by first | assumption | rfl) rfl ?_
  refine gr_run (pc' := 5) 1 rfl ?_
  refine gr_callV (As := [_]) lk_6_108 rfl rfl (r_X2_hasPlaceT p1 rfl hn.2 (by omega) (by omega)) (by repeat (first | exact up_s | assumption | refine up_n (by first | assumption | decide | omega) ?_)) (by first | assumption | exact Nat.le_of_ble_eq_true rfl | exact Nat.le_of_ble_eq_true (by assumption)) rfl rfl rfl rfl rfl ?_
  refine gr_ifT (t := 13) rfl (by decide) (by omega) (cI_ne (by omega)) ?_
  refine gr_run (pc' := 14) 1 rfl ?_
  refine gr_getf rfl rfl (by repeat (first | exact up_s | assumption | refine up_n (by first | assumption | decide | omega) ?_)) (by first | assumption | rfl) rfl ?_
  refine gr_run (pc' := 18) 1 rfl ?_
  refine gr_getf rfl rfl (by repeat (first | exact up_s | assumption | refine up_n (by first | assumption | decide | omega) ?_)) (by first | assumption | rfl) rfl ?_
  refine gr_callV (As := [_]) lk_6_90 rfl rfl (r_X2_copy h7 h8 p1 p2 rfl rfl rfl rfl hn.2 (by decide) (by decide)) (by repeat (first | exact up_s | assumption | refine up_n (by first | assumption | decide | omega) ?_)) (by first | assumption | exact Nat.le_of_ble_eq_true rfl | exact Nat.le_of_ble_eq_true (by assumption)) rfl rfl rfl rfl rfl ?_
  refine gr_run (pc' := 26) 2 rfl ?_
  exact r1
theorem x_backwards (hX : RepX σ A) (hS : okS σ) : ∃ A', Rt mX6_backwards (d + 3) [.ref 0] A (some (.int (iI (bwH σ.2.1.1 σ.2.1.2 0)))) A' ∧ RepX (σ.1, (σ.2.1.1, bwH σ.2.1.1 σ.2.1.2), σ.2.2.1, pushU σ.2.2.2.1 σ.2.1, σ.2.2.2.2) A' ∧ offE A A' 0 42 := by
  have h0 := hX.1
  obtain ⟨p1, f, p2, p3⟩ := id hX.2.2.1
  obtain ⟨x, g, h7, h8⟩ := hX.2.2.2.2.1
  have hn := hS.2.1.1.1
  have loop : ∀ (m i : Nat) (g1 : Nat → Int32), i + m = σ.2.1.1 → (∀ j, j < i → g1 (σ.2.1.1 - 1 - lnd σ.2.1.1 σ.2.1.2 j) = iI (σ.2.1.2 j)) →
      ∃ A', Gr mX6_backwards (d + 3) 13 [some (.ref 0), some (.int (iI (i : Int)))] [] (va_up (va_up A 7 (Ob 2 [.ref 8, .int (iI σ.2.1.1)])) 8 (Ia 10 g1)) (some (.int (iI (bwH σ.2.1.1 σ.2.1.2 0)))) A' ∧ RepX (σ.1, (σ.2.1.1, bwH σ.2.1.1 σ.2.1.2), σ.2.2.1, pushU σ.2.2.2.1 σ.2.1, σ.2.2.2.2) A' ∧ offE A A' 0 42 := by
    intro m
    induction m with
    | zero =>
      intro i g1 hi hg
      obtain ⟨A', r1, r2, r3⟩ := x_become (d := d) (h := bwH σ.2.1.1 σ.2.1.2) (hX.trial (iI σ.2.1.1) g1) hS (up_n (by decide) up_s) up_s hn (fun q hq => by
        obtain ⟨j, j1, j2, j3⟩ := bw_sur (h := σ.2.1.2) hn.1 hS.2.1.2 hq
        rw [j3, j2]
        exact hg j (by omega))
      refine ⟨A', ?_, r2, ((offE.rf.up (by omega)).up (by omega)).tr r3⟩
      refine gr_run (pc' := 15) 2 rfl ?_
      refine gr_getf rfl rfl (by repeat (first | exact up_s | assumption | refine up_n (by first | assumption | decide | omega) ?_)) (by first | assumption | rfl) rfl ?_
      refine gr_callV (As := []) lk_6_94 rfl rfl (r_X2_length (up_n (by decide) (up_n (by decide) p1)) rfl) (by repeat (first | exact up_s | assumption | refine up_n (by first | assumption | decide | omega) ?_)) (by first | assumption | exact Nat.le_of_ble_eq_true rfl | exact Nat.le_of_ble_eq_true (by assumption)) rfl rfl rfl rfl rfl ?_
      refine gr_icT (t := 63) rfl (by decide) (by omega) (by omega) (cI_ge (by omega)) ?_
      refine gr_run (pc' := 64) 1 rfl ?_
      refine gr_callV (As := []) lk_6_115 rfl rfl (r1) (by repeat (first | exact up_s | assumption | refine up_n (by first | assumption | decide | omega) ?_)) (by first | assumption | exact Nat.le_of_ble_eq_true rfl | exact Nat.le_of_ble_eq_true (by assumption)) rfl rfl rfl rfl rfl ?_
      exact gr_ret rfl rfl
    | succ m ih =>
      intro i g1 hi hg
      have hll := lnd_lt (h := σ.2.1.2) (i := i) hn.1
      obtain ⟨A', r1, r2⟩ := ih (i + 1) (upd g1 (σ.2.1.1 - 1 - lnd σ.2.1.1 σ.2.1.2 i) (iI (σ.2.1.2 i))) (by omega) (fun j hj => by
        unfold upd
        by_cases e : j = i
        · subst e; rw [if_pos rfl]
        · have l1 := lnd_lt (h := σ.2.1.2) (i := j) hn.1
          have l2 := hS.2.1.2 j i (by omega) (by omega)
          rw [if_neg (by omega)]
          exact hg j (by omega))
      refine ⟨A', ?_, r2⟩
      refine gr_run (pc' := 15) 2 rfl ?_
      refine gr_getf rfl rfl (by repeat (first | exact up_s | assumption | refine up_n (by first | assumption | decide | omega) ?_)) (by first | assumption | rfl) rfl ?_
      refine gr_callV (As := []) lk_6_94 rfl rfl (r_X2_length (up_n (by decide) (up_n (by decide) p1)) rfl) (by repeat (first | exact up_s | assumption | refine up_n (by first | assumption | decide | omega) ?_)) (by first | assumption | exact Nat.le_of_ble_eq_true rfl | exact Nat.le_of_ble_eq_true (by assumption)) rfl rfl rfl rfl rfl ?_
      refine gr_icF (t := 63) rfl (by decide) (by omega) (by omega) (cN_ge (by omega)) ?_
      refine gr_run (pc' := 25) 1 rfl ?_
      refine gr_getf rfl rfl (by repeat (first | exact up_s | assumption | refine up_n (by first | assumption | decide | omega) ?_)) (by first | assumption | rfl) rfl ?_
      refine gr_run (pc' := 29) 1 rfl ?_
      refine gr_getf rfl rfl (by repeat (first | exact up_s | assumption | refine up_n (by first | assumption | decide | omega) ?_)) (by first | assumption | rfl) rfl ?_
      refine gr_callV (As := []) lk_6_94 rfl rfl (r_X2_length (up_n (by decide) (up_n (by decide) p1)) rfl) (by repeat (first | exact up_s | assumption | refine up_n (by first | assumption | decide | omega) ?_)) (by first | assumption | exact Nat.le_of_ble_eq_true rfl | exact Nat.le_of_ble_eq_true (by assumption)) rfl rfl rfl rfl rfl ?_
      refine gr_run (pc' := 36) 1 rfl ?_
      refine gr_isub rfl ?_
      refine gr_run (pc' := 38) 1 rfl ?_
      refine gr_getf rfl rfl (by repeat (first | exact up_s | assumption | refine up_n (by first | assumption | decide | omega) ?_)) (by first | assumption | rfl) rfl ?_
      refine gr_run (pc' := 42) 1 rfl ?_
      refine gr_callV (As := [_]) lk_6_118 rfl rfl (r_X2_landing (up_n (by decide) (up_n (by decide) p1)) (up_n (by decide) (up_n (by decide) p2)) rfl rfl hS.2.1.1 p3 (by omega)) (by repeat (first | exact up_s | assumption | refine up_n (by first | assumption | decide | omega) ?_)) (by first | assumption | exact Nat.le_of_ble_eq_true rfl | exact Nat.le_of_ble_eq_true (by assumption)) rfl rfl rfl rfl rfl ?_
      rw [lnd_int (by omega)]
      refine gr_isub rfl ?_
      rw [show (σ.2.1.1 : Int) - 1 - ((lnd σ.2.1.1 σ.2.1.2 i : Nat) : Int) = ((σ.2.1.1 - 1 - lnd σ.2.1.1 σ.2.1.2 i : Nat) : Int) by omega]
      refine gr_run (pc' := 47) 1 rfl ?_
      refine gr_getf rfl rfl (by repeat (first | exact up_s | assumption | refine up_n (by first | assumption | decide | omega) ?_)) (by first | assumption | rfl) rfl ?_
      refine gr_run (pc' := 51) 1 rfl ?_
      refine gr_callV (As := [_]) lk_6_95 rfl rfl (r_X2_heightAt (up_n (by decide) (up_n (by decide) p1)) (up_n (by decide) (up_n (by decide) p2)) rfl rfl hn p3 (by omega)) (by repeat (first | exact up_s | assumption | refine up_n (by first | assumption | decide | omega) ?_)) (by first | assumption | exact Nat.le_of_ble_eq_true rfl | exact Nat.le_of_ble_eq_true (by assumption)) rfl rfl rfl rfl rfl ?_
      rw [hg_lt (by omega)]
      refine gr_callV (As := [_, _]) lk_6_111 rfl rfl (r_X2_put (up_n (by decide) up_s) up_s rfl rfl hn.2 (by omega)) (by repeat (first | exact up_s | assumption | refine up_n (by first | assumption | decide | omega) ?_)) (by first | assumption | exact Nat.le_of_ble_eq_true rfl | exact Nat.le_of_ble_eq_true (by assumption)) rfl rfl rfl rfl rfl ?_
      rw [bx_uu]
      refine gr_iinc rfl rfl rfl rfl ?_
      refine gr_run (pc' := 13) 1 rfl ?_
      exact r1
  obtain ⟨A', r1, r2⟩ := loop σ.2.1.1 0 (fun i => if i < σ.2.1.1 then f i else g i) (by omega) (fun j hj => by omega)
  refine ⟨A', ?_, r2⟩
  refine rt_intro kX6_backwards rfl rfl rfl ?_
  refine gr_run (pc' := 1) 1 rfl ?_
  refine gr_getf rfl rfl (by repeat (first | exact up_s | assumption | refine up_n (by first | assumption | decide | omega) ?_)) (by first | assumption | rfl) rfl ?_
  refine gr_run (pc' := 5) 1 rfl ?_
  refine gr_getf rfl rfl (by repeat (first | exact up_s | assumption | refine up_n (by first | assumption | decide | omega) ?_)) (by first | assumption | rfl) rfl ?_
  refine gr_callV (As := [_]) lk_6_90 rfl rfl (r_X2_copy h7 h8 p1 p2 rfl rfl rfl rfl hn.2 (by decide) (by decide)) (by repeat (first | exact up_s | assumption | refine up_n (by first | assumption | decide | omega) ?_)) (by first | assumption | exact Nat.le_of_ble_eq_true rfl | exact Nat.le_of_ble_eq_true (by assumption)) rfl rfl rfl rfl rfl ?_
  refine gr_run (pc' := 13) 2 rfl ?_
  exact r1
theorem x_raiseB {z : Int} (hz : bd z) (hn : z < -9 ∨ 9 < z) : Rt mX6_raise (d + 1) [.ref 0, .int (iI z)] A (some (.int (iI (-1)))) A := by
  refine rt_intro kX6_raise rfl rfl rfl ?_
  by_cases c : z < -9
  · refine gr_run (pc' := 3) 2 rfl ?_
    refine gr_icT (t := 12) rfl (by decide) (by omega) (by omega) (cI_lt (by omega)) ?_
    refine gr_run (pc' := 13) 1 rfl ?_
    exact gr_ret rfl rfl
  · refine gr_run (pc' := 3) 2 rfl ?_
    refine gr_icF (t := 12) rfl (by decide) (by omega) (by omega) (cN_lt (by omega)) ?_
    refine gr_run (pc' := 9) 2 rfl ?_
    refine gr_icF (t := 14) rfl (by decide) (by omega) (by omega) (cN_le (by omega)) ?_
    refine gr_run (pc' := 13) 1 rfl ?_
    exact gr_ret rfl rfl
theorem x_raiseN {z : Int} {j : Nat} (hX : RepX σ A) (hS : okS σ) (hz : -9 ≤ z ∧ z ≤ 9) (hj : j < σ.2.1.1) (hb : (σ.2.1.2 j : Int) + z < 0 ∨ 9 < (σ.2.1.2 j : Int) + z) : ∃ A', Rt mX6_raise (d + 3) [.ref 0, .int (iI z)] A (some (.int (iI (-2)))) A' ∧ RepX σ A' ∧ offE A A' 0 42 := by
  have h0 := hX.1
  obtain ⟨p1, f, p2, p3⟩ := id hX.2.2.1
  obtain ⟨x, g, h7, h8⟩ := hX.2.2.2.2.1
  have hn := hS.2.1.1.1
  have h9 := hS.2.1.1.2
  have loop : ∀ (m i : Nat) (g1 : Nat → Int32) (x3 : Option Value), i + m = j → ∃ g2 : Nat → Int32, Gr mX6_raise (d + 3) 27 [some (.ref 0), some (.int (iI z)), some (.int (iI (i : Int))), x3] [] (va_up (va_up A 7 (Ob 2 [.ref 8, .int (iI σ.2.1.1)])) 8 (Ia 10 g1)) (some (.int (iI (-2)))) (va_up (va_up A 7 (Ob 2 [.ref 8, .int (iI σ.2.1.1)])) 8 (Ia 10 g2)) := by
    intro m
    induction m with
    | zero =>
      intro i g1 x3 hi
      have hij : i = j := by omega
      subst hij
      have h9i := h9 i hj
      refine ⟨g1, ?_⟩
      refine gr_run (pc' := 29) 2 rfl ?_
      refine gr_getf rfl rfl (by repeat (first | exact up_s | assumption | refine up_n (by first | assumption | decide | omega) ?_)) (by first | assumption | rfl) rfl ?_
      refine gr_callV (As := []) lk_6_94 rfl rfl (r_X2_length (up_n (by decide) (up_n (by decide) p1)) rfl) (by repeat (first | exact up_s | assumption | refine up_n (by first | assumption | decide | omega) ?_)) (by first | assumption | exact Nat.le_of_ble_eq_true rfl | exact Nat.le_of_ble_eq_true (by assumption)) rfl rfl rfl rfl rfl ?_
      refine gr_icF (t := 74) rfl (by decide) (by omega) (by omega) (cN_ge (by omega)) ?_
      refine gr_run (pc' := 39) 1 rfl ?_
      refine gr_getf rfl rfl (by repeat (first | exact up_s | assumption | refine up_n (by first | assumption | decide | omega) ?_)) (by first | assumption | rfl) rfl ?_
      refine gr_run (pc' := 43) 1 rfl ?_
      refine gr_callV (As := [_]) lk_6_95 rfl rfl (r_X2_heightAt (up_n (by decide) (up_n (by decide) p1)) (up_n (by decide) (up_n (by decide) p2)) rfl rfl hn p3 (by omega)) (by repeat (first | exact up_s | assumption | refine up_n (by first | assumption | decide | omega) ?_)) (by first | assumption | exact Nat.le_of_ble_eq_true rfl | exact Nat.le_of_ble_eq_true (by assumption)) rfl rfl rfl rfl rfl ?_
      rw [hg_lt (by omega)]
      refine gr_run (pc' := 47) 1 rfl ?_
      refine gr_iadd rfl ?_
      refine gr_run (pc' := 50) 2 rfl ?_
      refine gr_callS (As := [_]) lk_6_121 rfl rfl (r_isHeightF (by omega) hb) rfl rfl rfl ?_
      refine gr_ifF (t := 59) rfl (by decide) (by omega) (cN_ne (by omega)) ?_
      refine gr_run (pc' := 58) 1 rfl ?_
      exact gr_ret rfl rfl
    | succ m ih =>
      intro i g1 x3 hi
      have h9i := h9 i (by omega)
      by_cases c : 0 ≤ (σ.2.1.2 i : Int) + z ∧ (σ.2.1.2 i : Int) + z ≤ 9
      · obtain ⟨g2, r⟩ := ih (i + 1) (upd g1 i (iI ((σ.2.1.2 i : Int) + z))) (some (.int (iI ((σ.2.1.2 i : Int) + z)))) (by omega)
        refine ⟨g2, ?_⟩
        refine gr_run (pc' := 29) 2 rfl ?_
        refine gr_getf rfl rfl (by repeat (first | exact up_s | assumption | refine up_n (by first | assumption | decide | omega) ?_)) (by first | assumption | rfl) rfl ?_
        refine gr_callV (As := []) lk_6_94 rfl rfl (r_X2_length (up_n (by decide) (up_n (by decide) p1)) rfl) (by repeat (first | exact up_s | assumption | refine up_n (by first | assumption | decide | omega) ?_)) (by first | assumption | exact Nat.le_of_ble_eq_true rfl | exact Nat.le_of_ble_eq_true (by assumption)) rfl rfl rfl rfl rfl ?_
        refine gr_icF (t := 74) rfl (by decide) (by omega) (by omega) (cN_ge (by omega)) ?_
        refine gr_run (pc' := 39) 1 rfl ?_
        refine gr_getf rfl rfl (by repeat (first | exact up_s | assumption | refine up_n (by first | assumption | decide | omega) ?_)) (by first | assumption | rfl) rfl ?_
        refine gr_run (pc' := 43) 1 rfl ?_
        refine gr_callV (As := [_]) lk_6_95 rfl rfl (r_X2_heightAt (up_n (by decide) (up_n (by decide) p1)) (up_n (by decide) (up_n (by decide) p2)) rfl rfl hn p3 (by omega)) (by repeat (first | exact up_s | assumption | refine up_n (by first | assumption | decide | omega) ?_)) (by first | assumption | exact Nat.le_of_ble_eq_true rfl | exact Nat.le_of_ble_eq_true (by assumption)) rfl rfl rfl rfl rfl ?_
        rw [hg_lt (by omega)]
        refine gr_run (pc' := 47) 1 rfl ?_
        refine gr_iadd rfl ?_
        refine gr_run (pc' := 50) 2 rfl ?_
        refine gr_callS (As := [_]) lk_6_121 rfl rfl (r_isHeightT c) rfl rfl rfl ?_
        refine gr_ifT (t := 59) rfl (by decide) (by omega) (cI_ne (by omega)) ?_
        refine gr_run (pc' := 60) 1 rfl ?_
        refine gr_getf rfl rfl (by repeat (first | exact up_s | assumption | refine up_n (by first | assumption | decide | omega) ?_)) (by first | assumption | rfl) rfl ?_
        refine gr_run (pc' := 65) 2 rfl ?_
        refine gr_callV (As := [_, _]) lk_6_111 rfl rfl (r_X2_put (up_n (by decide) up_s) up_s rfl rfl hn.2 (by omega)) (by repeat (first | exact up_s | assumption | refine up_n (by first | assumption | decide | omega) ?_)) (by first | assumption | exact Nat.le_of_ble_eq_true rfl | exact Nat.le_of_ble_eq_true (by assumption)) rfl rfl rfl rfl rfl ?_
        rw [bx_uu]
        refine gr_iinc rfl rfl rfl rfl ?_
        refine gr_run (pc' := 27) 1 rfl ?_
        exact r
      · refine ⟨g1, ?_⟩
        refine gr_run (pc' := 29) 2 rfl ?_
        refine gr_getf rfl rfl (by repeat (first | exact up_s | assumption | refine up_n (by first | assumption | decide | omega) ?_)) (by first | assumption | rfl) rfl ?_
        refine gr_callV (As := []) lk_6_94 rfl rfl (r_X2_length (up_n (by decide) (up_n (by decide) p1)) rfl) (by repeat (first | exact up_s | assumption | refine up_n (by first | assumption | decide | omega) ?_)) (by first | assumption | exact Nat.le_of_ble_eq_true rfl | exact Nat.le_of_ble_eq_true (by assumption)) rfl rfl rfl rfl rfl ?_
        refine gr_icF (t := 74) rfl (by decide) (by omega) (by omega) (cN_ge (by omega)) ?_
        refine gr_run (pc' := 39) 1 rfl ?_
        refine gr_getf rfl rfl (by repeat (first | exact up_s | assumption | refine up_n (by first | assumption | decide | omega) ?_)) (by first | assumption | rfl) rfl ?_
        refine gr_run (pc' := 43) 1 rfl ?_
        refine gr_callV (As := [_]) lk_6_95 rfl rfl (r_X2_heightAt (up_n (by decide) (up_n (by decide) p1)) (up_n (by decide) (up_n (by decide) p2)) rfl rfl hn p3 (by omega)) (by repeat (first | exact up_s | assumption | refine up_n (by first | assumption | decide | omega) ?_)) (by first | assumption | exact Nat.le_of_ble_eq_true rfl | exact Nat.le_of_ble_eq_true (by assumption)) rfl rfl rfl rfl rfl ?_
        rw [hg_lt (by omega)]
        refine gr_run (pc' := 47) 1 rfl ?_
        refine gr_iadd rfl ?_
        refine gr_run (pc' := 50) 2 rfl ?_
        refine gr_callS (As := [_]) lk_6_121 rfl rfl (r_isHeightF (by omega) (by omega)) rfl rfl rfl ?_
        refine gr_ifF (t := 59) rfl (by decide) (by omega) (cN_ne (by omega)) ?_
        refine gr_run (pc' := 58) 1 rfl ?_
        exact gr_ret rfl rfl
  obtain ⟨g2, r⟩ := loop j 0 (fun i => if i < σ.2.1.1 then f i else g i) none (by omega)
  refine ⟨_, ?_, hX.trial (iI σ.2.1.1) g2, (offE.rf.up (by omega)).up (by omega)⟩
  refine rt_intro kX6_raise rfl rfl rfl ?_
  refine gr_run (pc' := 3) 2 rfl ?_
  refine gr_icF (t := 12) rfl (by decide) (by omega) (by omega) (cN_lt (by omega)) ?_
  refine gr_run (pc' := 9) 2 rfl ?_
  refine gr_icT (t := 14) rfl (by decide) (by omega) (by omega) (cI_le (by omega)) ?_
  refine gr_run (pc' := 15) 1 rfl ?_
  refine gr_getf rfl rfl (by repeat (first | exact up_s | assumption | refine up_n (by first | assumption | decide | omega) ?_)) (by first | assumption | rfl) rfl ?_
  refine gr_run (pc' := 19) 1 rfl ?_
  refine gr_getf rfl rfl (by repeat (first | exact up_s | assumption | refine up_n (by first | assumption | decide | omega) ?_)) (by first | assumption | rfl) rfl ?_
  refine gr_callV (As := [_]) lk_6_90 rfl rfl (r_X2_copy h7 h8 p1 p2 rfl rfl rfl rfl hn.2 (by decide) (by decide)) (by repeat (first | exact up_s | assumption | refine up_n (by first | assumption | decide | omega) ?_)) (by first | assumption | exact Nat.le_of_ble_eq_true rfl | exact Nat.le_of_ble_eq_true (by assumption)) rfl rfl rfl rfl rfl ?_
  refine gr_run (pc' := 27) 2 rfl ?_
  exact r
theorem x_raise {z : Int} (hX : RepX σ A) (hS : okS σ) (hz : -9 ≤ z ∧ z ≤ 9) (hall : ∀ j, j < σ.2.1.1 → 0 ≤ (σ.2.1.2 j : Int) + z ∧ (σ.2.1.2 j : Int) + z ≤ 9) (hT : okT (σ.2.1.1, raH σ.2.1.2 z)) : ∃ A', Rt mX6_raise (d + 3) [.ref 0, .int (iI z)] A (some (.int (iI ((sumN (raH σ.2.1.2 z) σ.2.1.1 / σ.2.1.1 : Nat) : Int)))) A' ∧ RepX (σ.1, (σ.2.1.1, raH σ.2.1.2 z), σ.2.2.1, pushU σ.2.2.2.1 σ.2.1, σ.2.2.2.2) A' ∧ offE A A' 0 42 := by
  have h0 := hX.1
  obtain ⟨p1, f, p2, p3⟩ := id hX.2.2.1
  obtain ⟨x, g, h7, h8⟩ := hX.2.2.2.2.1
  have hn := hS.2.1.1.1
  have h9 := hS.2.1.1.2
  have loop : ∀ (m i : Nat) (g1 : Nat → Int32) (x3 : Option Value), i + m = σ.2.1.1 → (∀ j, j < i → g1 j = iI (raH σ.2.1.2 z j)) →
      ∃ A', Gr mX6_raise (d + 3) 27 [some (.ref 0), some (.int (iI z)), some (.int (iI (i : Int))), x3] [] (va_up (va_up A 7 (Ob 2 [.ref 8, .int (iI σ.2.1.1)])) 8 (Ia 10 g1)) (some (.int (iI ((sumN (raH σ.2.1.2 z) σ.2.1.1 / σ.2.1.1 : Nat) : Int)))) A' ∧ RepX (σ.1, (σ.2.1.1, raH σ.2.1.2 z), σ.2.2.1, pushU σ.2.2.2.1 σ.2.1, σ.2.2.2.2) A' ∧ offE A A' 0 42 := by
    intro m
    induction m with
    | zero =>
      intro i g1 x3 hi hg
      obtain ⟨A', r1, r2, r3⟩ := x_become (d := d) (h := raH σ.2.1.2 z) (hX.trial (iI σ.2.1.1) g1) hS (up_n (by decide) up_s) up_s hn (fun j hj => hg j (by omega))
      refine ⟨A', ?_, r2, ((offE.rf.up (by omega)).up (by omega)).tr r3⟩
      have k0 := r2.1
      obtain ⟨k1, kf, k2, k3⟩ := r2.2.2.1
      refine gr_run (pc' := 29) 2 rfl ?_
      refine gr_getf rfl rfl (by repeat (first | exact up_s | assumption | refine up_n (by first | assumption | decide | omega) ?_)) (by first | assumption | rfl) rfl ?_
      refine gr_callV (As := []) lk_6_94 rfl rfl (r_X2_length (up_n (by decide) (up_n (by decide) p1)) rfl) (by repeat (first | exact up_s | assumption | refine up_n (by first | assumption | decide | omega) ?_)) (by first | assumption | exact Nat.le_of_ble_eq_true rfl | exact Nat.le_of_ble_eq_true (by assumption)) rfl rfl rfl rfl rfl ?_
      refine gr_icT (t := 74) rfl (by decide) (by omega) (by omega) (cI_ge (by omega)) ?_
      refine gr_run (pc' := 75) 1 rfl ?_
      refine gr_callV (As := []) lk_6_115 rfl rfl (r1) (by repeat (first | exact up_s | assumption | refine up_n (by first | assumption | decide | omega) ?_)) (by first | assumption | exact Nat.le_of_ble_eq_true rfl | exact Nat.le_of_ble_eq_true (by assumption)) rfl rfl rfl rfl rfl ?_
      refine gr_run (pc' := 80) 2 rfl ?_
      refine gr_getf rfl rfl (by repeat (first | exact up_s | assumption | refine up_n (by first | assumption | decide | omega) ?_)) (by first | assumption | rfl) rfl ?_
      refine gr_callV (As := []) lk_6_99 rfl rfl (r_X2_ballCount k1 k2 rfl rfl hT.1 k3) (by repeat (first | exact up_s | assumption | refine up_n (by first | assumption | decide | omega) ?_)) (by first | assumption | exact Nat.le_of_ble_eq_true rfl | exact Nat.le_of_ble_eq_true (by assumption)) rfl rfl rfl rfl rfl ?_
      exact gr_ret rfl rfl
    | succ m ih =>
      intro i g1 x3 hi hg
      have h9i := h9 i (by omega)
      have c := hall i (by omega)
      have er : (σ.2.1.2 i : Int) + z = ((raH σ.2.1.2 z i : Nat) : Int) := by unfold raH; omega
      obtain ⟨A', r1, r2⟩ := ih (i + 1) (upd g1 i (iI ((σ.2.1.2 i : Int) + z))) (some (.int (iI ((σ.2.1.2 i : Int) + z)))) (by omega) (fun j hj => by
        unfold upd
        by_cases e : j = i
        · rw [if_pos e, e, er]
        · rw [if_neg e]; exact hg j (by omega))
      refine ⟨A', ?_, r2⟩
      refine gr_run (pc' := 29) 2 rfl ?_
      refine gr_getf rfl rfl (by repeat (first | exact up_s | assumption | refine up_n (by first | assumption | decide | omega) ?_)) (by first | assumption | rfl) rfl ?_
      refine gr_callV (As := []) lk_6_94 rfl rfl (r_X2_length (up_n (by decide) (up_n (by decide) p1)) rfl) (by repeat (first | exact up_s | assumption | refine up_n (by first | assumption | decide | omega) ?_)) (by first | assumption | exact Nat.le_of_ble_eq_true rfl | exact Nat.le_of_ble_eq_true (by assumption)) rfl rfl rfl rfl rfl ?_
      refine gr_icF (t := 74) rfl (by decide) (by omega) (by omega) (cN_ge (by omega)) ?_
      refine gr_run (pc' := 39) 1 rfl ?_
      refine gr_getf rfl rfl (by repeat (first | exact up_s | assumption | refine up_n (by first | assumption | decide | omega) ?_)) (by first | assumption | rfl) rfl ?_
      refine gr_run (pc' := 43) 1 rfl ?_
      refine gr_callV (As := [_]) lk_6_95 rfl rfl (r_X2_heightAt (up_n (by decide) (up_n (by decide) p1)) (up_n (by decide) (up_n (by decide) p2)) rfl rfl hn p3 (by omega)) (by repeat (first | exact up_s | assumption | refine up_n (by first | assumption | decide | omega) ?_)) (by first | assumption | exact Nat.le_of_ble_eq_true rfl | exact Nat.le_of_ble_eq_true (by assumption)) rfl rfl rfl rfl rfl ?_
      rw [hg_lt (by omega)]
      refine gr_run (pc' := 47) 1 rfl ?_
      refine gr_iadd rfl ?_
      refine gr_run (pc' := 50) 2 rfl ?_
      refine gr_callS (As := [_]) lk_6_121 rfl rfl (r_isHeightT c) rfl rfl rfl ?_
      refine gr_ifT (t := 59) rfl (by decide) (by omega) (cI_ne (by omega)) ?_
      refine gr_run (pc' := 60) 1 rfl ?_
      refine gr_getf rfl rfl (by repeat (first | exact up_s | assumption | refine up_n (by first | assumption | decide | omega) ?_)) (by first | assumption | rfl) rfl ?_
      refine gr_run (pc' := 65) 2 rfl ?_
      refine gr_callV (As := [_, _]) lk_6_111 rfl rfl (r_X2_put (up_n (by decide) up_s) up_s rfl rfl hn.2 (by omega)) (by repeat (first | exact up_s | assumption | refine up_n (by first | assumption | decide | omega) ?_)) (by first | assumption | exact Nat.le_of_ble_eq_true rfl | exact Nat.le_of_ble_eq_true (by assumption)) rfl rfl rfl rfl rfl ?_
      rw [bx_uu]
      refine gr_iinc rfl rfl rfl rfl ?_
      refine gr_run (pc' := 27) 1 rfl ?_
      exact r1
  obtain ⟨A', r1, r2⟩ := loop σ.2.1.1 0 (fun i => if i < σ.2.1.1 then f i else g i) none (by omega) (fun j hj => by omega)
  refine ⟨A', ?_, r2⟩
  refine rt_intro kX6_raise rfl rfl rfl ?_
  refine gr_run (pc' := 3) 2 rfl ?_
  refine gr_icF (t := 12) rfl (by decide) (by omega) (by omega) (cN_lt (by omega)) ?_
  refine gr_run (pc' := 9) 2 rfl ?_
  refine gr_icT (t := 14) rfl (by decide) (by omega) (by omega) (cI_le (by omega)) ?_
  refine gr_run (pc' := 15) 1 rfl ?_
  refine gr_getf rfl rfl (by repeat (first | exact up_s | assumption | refine up_n (by first | assumption | decide | omega) ?_)) (by first | assumption | rfl) rfl ?_
  refine gr_run (pc' := 19) 1 rfl ?_
  refine gr_getf rfl rfl (by repeat (first | exact up_s | assumption | refine up_n (by first | assumption | decide | omega) ?_)) (by first | assumption | rfl) rfl ?_
  refine gr_callV (As := [_]) lk_6_90 rfl rfl (r_X2_copy h7 h8 p1 p2 rfl rfl rfl rfl hn.2 (by decide) (by decide)) (by repeat (first | exact up_s | assumption | refine up_n (by first | assumption | decide | omega) ?_)) (by first | assumption | exact Nat.le_of_ble_eq_true rfl | exact Nat.le_of_ble_eq_true (by assumption)) rfl rfl rfl rfl rfl ?_
  refine gr_run (pc' := 27) 2 rfl ?_
  exact r1
theorem x_changeB {y z : Int} (hX : RepX σ A) (hS : okS σ) (hy : bd y) (hz : bd z) (hn : ¬ (0 ≤ y ∧ y < z ∧ z < σ.2.1.1)) : Rt mX6_change (d + 1) [.ref 0, .int (iI y), .int (iI z)] A (some (.int (iI (-1)))) A := by
  have h0 := hX.1
  have p1 := hX.2.2.1.1
  have h10 := hS.2.1.1.1.2
  refine rt_intro kX6_change rfl rfl rfl ?_
  refine gr_run (pc' := 1) 1 rfl ?_
  refine gr_getf rfl rfl (by repeat (first | exact up_s | assumption | refine up_n (by first | assumption | decide | omega) ?_)) (by first | assumption | rfl) rfl ?_
  refine gr_run (pc' := 5) 1 rfl ?_
  by_cases c1 : 0 ≤ y ∧ y < σ.2.1.1
  · refine gr_callV (As := [_]) lk_6_108 rfl rfl (r_X2_hasPlaceT p1 rfl h10 c1.1 c1.2) (by repeat (first | exact up_s | assumption | refine up_n (by first | assumption | decide | omega) ?_)) (by first | assumption | exact Nat.le_of_ble_eq_true rfl | exact Nat.le_of_ble_eq_true (by assumption)) rfl rfl rfl rfl rfl ?_
    refine gr_ifF (t := 27) rfl (by decide) (by omega) (cN_eq (by omega)) ?_
    refine gr_run (pc' := 12) 1 rfl ?_
    refine gr_getf rfl rfl (by repeat (first | exact up_s | assumption | refine up_n (by first | assumption | decide | omega) ?_)) (by first | assumption | rfl) rfl ?_
    refine gr_run (pc' := 16) 1 rfl ?_
    by_cases c2 : 0 ≤ z ∧ z < σ.2.1.1
    · refine gr_callV (As := [_]) lk_6_108 rfl rfl (r_X2_hasPlaceT p1 rfl h10 c2.1 c2.2) (by repeat (first | exact up_s | assumption | refine up_n (by first | assumption | decide | omega) ?_)) (by first | assumption | exact Nat.le_of_ble_eq_true rfl | exact Nat.le_of_ble_eq_true (by assumption)) rfl rfl rfl rfl rfl ?_
      refine gr_ifF (t := 27) rfl (by decide) (by omega) (cN_eq (by omega)) ?_
      refine gr_run (pc' := 24) 2 rfl ?_
      refine gr_icF (t := 29) rfl (by decide) (by omega) (by omega) (cN_lt (by omega)) ?_
      refine gr_run (pc' := 28) 1 rfl ?_
      exact gr_ret rfl rfl
    · refine gr_callV (As := [_]) lk_6_108 rfl rfl (r_X2_hasPlaceF p1 rfl h10 hz (by omega)) (by repeat (first | exact up_s | assumption | refine up_n (by first | assumption | decide | omega) ?_)) (by first | assumption | exact Nat.le_of_ble_eq_true rfl | exact Nat.le_of_ble_eq_true (by assumption)) rfl rfl rfl rfl rfl ?_
      refine gr_ifT (t := 27) rfl (by decide) (by omega) (cI_eq (by omega)) ?_
      refine gr_run (pc' := 28) 1 rfl ?_
      exact gr_ret rfl rfl
  · refine gr_callV (As := [_]) lk_6_108 rfl rfl (r_X2_hasPlaceF p1 rfl h10 hy (by omega)) (by repeat (first | exact up_s | assumption | refine up_n (by first | assumption | decide | omega) ?_)) (by first | assumption | exact Nat.le_of_ble_eq_true rfl | exact Nat.le_of_ble_eq_true (by assumption)) rfl rfl rfl rfl rfl ?_
    refine gr_ifT (t := 27) rfl (by decide) (by omega) (cI_eq (by omega)) ?_
    refine gr_run (pc' := 28) 1 rfl ?_
    exact gr_ret rfl rfl
theorem x_changeN {i j : Nat} (hX : RepX σ A) (hS : okS σ) (hij : i < j) (hj : j < σ.2.1.1) (hn : 9 < σ.2.1.2 j + (j - i) ∨ σ.2.1.2 i < j - i) : Rt mX6_change (d + 3) [.ref 0, .int (iI i), .int (iI j)] A (some (.int (iI (-2)))) A := by
  have h0 := hX.1
  obtain ⟨p1, f, p2, p3⟩ := id hX.2.2.1
  have h10 := hS.2.1.1.1
  have h9i := hS.2.1.1.2 i (by omega)
  have h9j := hS.2.1.1.2 j (by omega)
  refine rt_intro kX6_change rfl rfl rfl ?_
  refine gr_run (pc' := 1) 1 rfl ?_
  refine gr_getf rfl rfl (by repeat (first | exact up_s | assumption | refine up_n (by first | assumption | decide | omega) ?_)) (by first | assumption | rfl) rfl ?_
  refine gr_run (pc' := 5) 1 rfl ?_
  refine gr_callV (As := [_]) lk_6_108 rfl rfl (r_X2_hasPlaceT p1 rfl h10.2 (by omega) (by omega)) (by repeat (first | exact up_s | assumption | refine up_n (by first | assumption | decide | omega) ?_)) (by first | assumption | exact Nat.le_of_ble_eq_true rfl | exact Nat.le_of_ble_eq_true (by assumption)) rfl rfl rfl rfl rfl ?_
  refine gr_ifF (t := 27) rfl (by decide) (by omega) (cN_eq (by omega)) ?_
  refine gr_run (pc' := 12) 1 rfl ?_
  refine gr_getf rfl rfl (by repeat (first | exact up_s | assumption | refine up_n (by first | assumption | decide | omega) ?_)) (by first | assumption | rfl) rfl ?_
  refine gr_run (pc' := 16) 1 rfl ?_
  refine gr_callV (As := [_]) lk_6_108 rfl rfl (r_X2_hasPlaceT p1 rfl h10.2 (by omega) (by omega)) (by repeat (first | exact up_s | assumption | refine up_n (by first | assumption | decide | omega) ?_)) (by first | assumption | exact Nat.le_of_ble_eq_true rfl | exact Nat.le_of_ble_eq_true (by assumption)) rfl rfl rfl rfl rfl ?_
  refine gr_ifF (t := 27) rfl (by decide) (by omega) (cN_eq (by omega)) ?_
  refine gr_run (pc' := 24) 2 rfl ?_
  refine gr_icT (t := 29) rfl (by decide) (by omega) (by omega) (cI_lt (by omega)) ?_
  refine gr_run (pc' := 30) 1 rfl ?_
  refine gr_getf rfl rfl (by repeat (first | exact up_s | assumption | refine up_n (by first | assumption | decide | omega) ?_)) (by first | assumption | rfl) rfl ?_
  refine gr_run (pc' := 34) 1 rfl ?_
  refine gr_callV (As := [_]) lk_6_95 rfl rfl (r_X2_heightAt p1 p2 rfl rfl h10 p3 (by omega)) (by repeat (first | exact up_s | assumption | refine up_n (by first | assumption | decide | omega) ?_)) (by first | assumption | exact Nat.le_of_ble_eq_true rfl | exact Nat.le_of_ble_eq_true (by assumption)) rfl rfl rfl rfl rfl ?_
  rw [hg_lt hj]
  refine gr_run (pc' := 39) 2 rfl ?_
  refine gr_isub rfl ?_
  refine gr_iadd rfl ?_
  refine gr_run (pc' := 43) 2 rfl ?_
  refine gr_getf rfl rfl (by repeat (first | exact up_s | assumption | refine up_n (by first | assumption | decide | omega) ?_)) (by first | assumption | rfl) rfl ?_
  refine gr_run (pc' := 47) 1 rfl ?_
  refine gr_callV (As := [_]) lk_6_95 rfl rfl (r_X2_heightAt p1 p2 rfl rfl h10 p3 (by omega)) (by repeat (first | exact up_s | assumption | refine up_n (by first | assumption | decide | omega) ?_)) (by first | assumption | exact Nat.le_of_ble_eq_true rfl | exact Nat.le_of_ble_eq_true (by assumption)) rfl rfl rfl rfl rfl ?_
  rw [hg_lt (by omega)]
  refine gr_run (pc' := 52) 2 rfl ?_
  refine gr_isub rfl ?_
  refine gr_isub rfl ?_
  refine gr_run (pc' := 57) 2 rfl ?_
  by_cases c : 9 < σ.2.1.2 j + (j - i)
  · refine gr_callS (As := [_]) lk_6_121 rfl rfl (r_isHeightF (by omega) (by omega)) rfl rfl rfl ?_
    refine gr_ifT (t := 71) rfl (by decide) (by omega) (cI_eq (by omega)) ?_
    refine gr_run (pc' := 73) 1 rfl ?_
    exact gr_ret rfl rfl
  · refine gr_callS (As := [_]) lk_6_121 rfl rfl (r_isHeightT (by omega)) rfl rfl rfl ?_
    refine gr_ifF (t := 71) rfl (by decide) (by omega) (cN_eq (by omega)) ?_
    refine gr_run (pc' := 65) 1 rfl ?_
    refine gr_callS (As := [_]) lk_6_121 rfl rfl (r_isHeightF (by omega) (by omega)) rfl rfl rfl ?_
    refine gr_ifF (t := 74) rfl (by decide) (by omega) (cN_ne (by omega)) ?_
    refine gr_run (pc' := 73) 1 rfl ?_
    exact gr_ret rfl rfl
theorem x_change {i j : Nat} (hX : RepX σ A) (hS : okS σ) (hij : i < j) (hj : j < σ.2.1.1) (h1 : σ.2.1.2 j + (j - i) ≤ 9) (h2 : j - i ≤ σ.2.1.2 i) : ∃ A', Rt mX6_change (d + 3) [.ref 0, .int (iI i), .int (iI j)] A (some (.int (iI ((σ.2.1.2 j + (j - i) : Nat) : Int)))) A' ∧ RepX (σ.1, (σ.2.1.1, chH σ.2.1.2 i j), σ.2.2.1, pushU σ.2.2.2.1 σ.2.1, σ.2.2.2.2) A' ∧ offE A A' 0 42 := by
  have h0 := hX.1
  obtain ⟨p1, f, p2, p3⟩ := id hX.2.2.1
  obtain ⟨x, g, h7, h8⟩ := hX.2.2.2.2.1
  have h10 := hS.2.1.1.1
  have h9i := hS.2.1.1.2 i (by omega)
  have h9j := hS.2.1.1.2 j (by omega)
  have e1 : (σ.2.1.2 j : Int) + ((j : Int) - i) = ((σ.2.1.2 j + (j - i) : Nat) : Int) := by omega
  have e2 : (σ.2.1.2 i : Int) - ((j : Int) - i) = ((σ.2.1.2 i - (j - i) : Nat) : Int) := by omega
  obtain ⟨A', r1, r2, r3⟩ := x_become (d := d) (h := chH σ.2.1.2 i j) (hX.trial (iI σ.2.1.1) (upd (upd (fun i => if i < σ.2.1.1 then f i else g i) i (iI ((σ.2.1.2 j + (j - i) : Nat) : Int))) j (iI ((σ.2.1.2 i - (j - i) : Nat) : Int)))) hS (up_n (by decide) up_s) up_s h10 (fun q hq => by
    unfold upd chH updN
    by_cases c1 : q = j
    · rw [if_pos c1, if_pos c1]
    · rw [if_neg c1, if_neg c1]
      by_cases c2 : q = i
      · rw [if_pos c2, if_pos c2]
      · rw [if_neg c2, if_neg c2]; exact (if_pos hq).trans (p3 q hq))
  refine ⟨A', ?_, r2, ((offE.rf.up (by omega)).up (by omega)).tr r3⟩
  refine rt_intro kX6_change rfl rfl rfl ?_
  refine gr_run (pc' := 1) 1 rfl ?_
  refine gr_getf rfl rfl (by repeat (first | exact up_s | assumption | refine up_n (by first | assumption | decide | omega) ?_)) (by first | assumption | rfl) rfl ?_
  refine gr_run (pc' := 5) 1 rfl ?_
  refine gr_callV (As := [_]) lk_6_108 rfl rfl (r_X2_hasPlaceT p1 rfl h10.2 (by omega) (by omega)) (by repeat (first | exact up_s | assumption | refine up_n (by first | assumption | decide | omega) ?_)) (by first | assumption | exact Nat.le_of_ble_eq_true rfl | exact Nat.le_of_ble_eq_true (by assumption)) rfl rfl rfl rfl rfl ?_
  refine gr_ifF (t := 27) rfl (by decide) (by omega) (cN_eq (by omega)) ?_
  refine gr_run (pc' := 12) 1 rfl ?_
  refine gr_getf rfl rfl (by repeat (first | exact up_s | assumption | refine up_n (by first | assumption | decide | omega) ?_)) (by first | assumption | rfl) rfl ?_
  refine gr_run (pc' := 16) 1 rfl ?_
  refine gr_callV (As := [_]) lk_6_108 rfl rfl (r_X2_hasPlaceT p1 rfl h10.2 (by omega) (by omega)) (by repeat (first | exact up_s | assumption | refine up_n (by first | assumption | decide | omega) ?_)) (by first | assumption | exact Nat.le_of_ble_eq_true rfl | exact Nat.le_of_ble_eq_true (by assumption)) rfl rfl rfl rfl rfl ?_
  refine gr_ifF (t := 27) rfl (by decide) (by omega) (cN_eq (by omega)) ?_
  refine gr_run (pc' := 24) 2 rfl ?_
  refine gr_icT (t := 29) rfl (by decide) (by omega) (by omega) (cI_lt (by omega)) ?_
  refine gr_run (pc' := 30) 1 rfl ?_
  refine gr_getf rfl rfl (by repeat (first | exact up_s | assumption | refine up_n (by first | assumption | decide | omega) ?_)) (by first | assumption | rfl) rfl ?_
  refine gr_run (pc' := 34) 1 rfl ?_
  refine gr_callV (As := [_]) lk_6_95 rfl rfl (r_X2_heightAt p1 p2 rfl rfl h10 p3 (by omega)) (by repeat (first | exact up_s | assumption | refine up_n (by first | assumption | decide | omega) ?_)) (by first | assumption | exact Nat.le_of_ble_eq_true rfl | exact Nat.le_of_ble_eq_true (by assumption)) rfl rfl rfl rfl rfl ?_
  rw [hg_lt hj]
  refine gr_run (pc' := 39) 2 rfl ?_
  refine gr_isub rfl ?_
  refine gr_iadd rfl ?_
  rw [e1]
  refine gr_run (pc' := 43) 2 rfl ?_
  refine gr_getf rfl rfl (by repeat (first | exact up_s | assumption | refine up_n (by first | assumption | decide | omega) ?_)) (by first | assumption | rfl) rfl ?_
  refine gr_run (pc' := 47) 1 rfl ?_
  refine gr_callV (As := [_]) lk_6_95 rfl rfl (r_X2_heightAt p1 p2 rfl rfl h10 p3 (by omega)) (by repeat (first | exact up_s | assumption | refine up_n (by first | assumption | decide | omega) ?_)) (by first | assumption | exact Nat.le_of_ble_eq_true rfl | exact Nat.le_of_ble_eq_true (by assumption)) rfl rfl rfl rfl rfl ?_
  rw [hg_lt (by omega)]
  refine gr_run (pc' := 52) 2 rfl ?_
  refine gr_isub rfl ?_
  refine gr_isub rfl ?_
  rw [e2]
  refine gr_run (pc' := 57) 2 rfl ?_
  refine gr_callS (As := [_]) lk_6_121 rfl rfl (r_isHeightT (by omega)) rfl rfl rfl ?_
  refine gr_ifF (t := 71) rfl (by decide) (by omega) (cN_eq (by omega)) ?_
  refine gr_run (pc' := 65) 1 rfl ?_
  refine gr_callS (As := [_]) lk_6_121 rfl rfl (r_isHeightT (by omega)) rfl rfl rfl ?_
  refine gr_ifT (t := 74) rfl (by decide) (by omega) (cI_ne (by omega)) ?_
  refine gr_run (pc' := 75) 1 rfl ?_
  refine gr_getf rfl rfl (by repeat (first | exact up_s | assumption | refine up_n (by first | assumption | decide | omega) ?_)) (by first | assumption | rfl) rfl ?_
  refine gr_run (pc' := 79) 1 rfl ?_
  refine gr_getf rfl rfl (by repeat (first | exact up_s | assumption | refine up_n (by first | assumption | decide | omega) ?_)) (by first | assumption | rfl) rfl ?_
  refine gr_callV (As := [_]) lk_6_90 rfl rfl (r_X2_copy h7 h8 p1 p2 rfl rfl rfl rfl h10.2 (by decide) (by decide)) (by repeat (first | exact up_s | assumption | refine up_n (by first | assumption | decide | omega) ?_)) (by first | assumption | exact Nat.le_of_ble_eq_true rfl | exact Nat.le_of_ble_eq_true (by assumption)) rfl rfl rfl rfl rfl ?_
  refine gr_run (pc' := 86) 1 rfl ?_
  refine gr_getf rfl rfl (by repeat (first | exact up_s | assumption | refine up_n (by first | assumption | decide | omega) ?_)) (by first | assumption | rfl) rfl ?_
  refine gr_run (pc' := 91) 2 rfl ?_
  refine gr_callV (As := [_, _]) lk_6_111 rfl rfl (r_X2_put (up_n (by decide) up_s) up_s rfl rfl h10.2 (by omega)) (by repeat (first | exact up_s | assumption | refine up_n (by first | assumption | decide | omega) ?_)) (by first | assumption | exact Nat.le_of_ble_eq_true rfl | exact Nat.le_of_ble_eq_true (by assumption)) rfl rfl rfl rfl rfl ?_
  rw [bx_uu]
  refine gr_run (pc' := 95) 1 rfl ?_
  refine gr_getf rfl rfl (by repeat (first | exact up_s | assumption | refine up_n (by first | assumption | decide | omega) ?_)) (by first | assumption | rfl) rfl ?_
  refine gr_run (pc' := 101) 2 rfl ?_
  refine gr_callV (As := [_, _]) lk_6_111 rfl rfl (r_X2_put (up_n (by decide) up_s) up_s rfl rfl h10.2 (by omega)) (by repeat (first | exact up_s | assumption | refine up_n (by first | assumption | decide | omega) ?_)) (by first | assumption | exact Nat.le_of_ble_eq_true rfl | exact Nat.le_of_ble_eq_true (by assumption)) rfl rfl rfl rfl rfl ?_
  rw [bx_uu]
  refine gr_run (pc' := 105) 1 rfl ?_
  refine gr_callV (As := []) lk_6_115 rfl rfl (r1) (by repeat (first | exact up_s | assumption | refine up_n (by first | assumption | decide | omega) ?_)) (by first | assumption | exact Nat.le_of_ble_eq_true rfl | exact Nat.le_of_ble_eq_true (by assumption)) rfl rfl rfl rfl rfl ?_
  refine gr_run (pc' := 110) 2 rfl ?_
  exact gr_ret rfl rfl
end XC
