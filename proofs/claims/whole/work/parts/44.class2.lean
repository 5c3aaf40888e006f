/-! the class: write, toss, balls, air, cycle, hands, count, prime, keep, back, undo, becomeTrial -/
theorem hg_n {n : Nat} {h : Nat → Nat} {m : Nat} : hg n h (m : Int) = h (m % n) := rfl
section XB
variable {d : Nat} {A : AH} {σ : SS}
theorem x_toss (hX : RepX σ A) (h1 : okT σ.2.1) (h2 : okT σ.2.2.1) {w z : Int} (hw : bd w) (hz : bd z) : Rt mX6_toss (d + 2) [.ref 0, .int (iI w), .int (iI z)] A (some (.int (iI (if (w = 0 ∨ w = 1) ∧ 0 ≤ z then (if w = 0 then (if z < σ.2.1.1 then ((σ.2.1.2 z.toNat : Nat) : Int) else -4) else (if z < σ.2.2.1.1 then ((σ.2.2.1.2 z.toNat : Nat) : Int) else -4)) else -1)))) A := by
  have h0 := hX.1
  obtain ⟨p1, f, p2, p3⟩ := hX.2.2.1
  obtain ⟨q1, g, q2, q3⟩ := hX.2.2.2.1
  have a1 := h1.1.1
  have a2 := h2.1.1
  refine rt_intro kX6_toss rfl rfl rfl ?_
  by_cases hw01 : w = 0 ∨ w = 1
  · refine gr_run (pc' := 1) 1 rfl ?_
    refine gr_callS (As := [_]) lk_6_82 rfl rfl (r_isWhichT hw01) rfl rfl rfl ?_
    by_cases hz0 : 0 ≤ z
    · rw [if_pos ⟨hw01, hz0⟩]
      obtain ⟨k, rfl⟩ : ∃ k : Nat, z = (k : Int) := ⟨z.toNat, by omega⟩
      simp only [Int.toNat_natCast]
      by_cases hw0 : w = 0
      · rw [if_pos hw0]
        subst hw0
        refine gr_ifF (t := 11) rfl (by decide) (by omega) (cN_eq (by omega)) ?_
        refine gr_run (pc' := 8) 1 rfl ?_
        refine gr_ifT (t := 13) rfl (by decide) (by omega) (cI_ge (by omega)) ?_
        refine gr_run (pc' := 15) 2 rfl ?_
        refine gr_callV (As := [_]) lk_6_86 rfl rfl (x_chosen0 hX) (by repeat (first | exact up_s | assumption | refine up_n (by first | assumption | decide | omega) ?_)) (by first | assumption | exact Nat.le_of_ble_eq_true rfl | exact Nat.le_of_ble_eq_true (by assumption)) rfl rfl rfl rfl rfl ?_
        refine gr_run (pc' := 21) 3 rfl ?_
        refine gr_callV (As := []) lk_6_94 rfl rfl (r_X2_length p1 rfl) (by repeat (first | exact up_s | assumption | refine up_n (by first | assumption | decide | omega) ?_)) (by first | assumption | exact Nat.le_of_ble_eq_true rfl | exact Nat.le_of_ble_eq_true (by assumption)) rfl rfl rfl rfl rfl ?_
        by_cases hl : (k : Int) < σ.2.1.1
        · rw [if_pos hl, ← hg_lt (h := σ.2.1.2) (show k < σ.2.1.1 by omega)]
          refine gr_icF (t := 35) rfl (by decide) (by omega) (by omega) (cN_ge (by omega)) ?_
          refine gr_run (pc' := 29) 2 rfl ?_
          refine gr_callV (As := [_]) lk_6_95 rfl rfl (r_X2_heightAt p1 p2 rfl rfl a1 p3 (by omega)) (by repeat (first | exact up_s | assumption | refine up_n (by first | assumption | decide | omega) ?_)) (by first | assumption | exact Nat.le_of_ble_eq_true rfl | exact Nat.le_of_ble_eq_true (by assumption)) rfl rfl rfl rfl rfl ?_
          refine gr_run (pc' := 37) 1 rfl ?_
          exact gr_ret rfl rfl
        · rw [if_neg hl]
          refine gr_icT (t := 35) rfl (by decide) (by omega) (by omega) (cI_ge (by omega)) ?_
          refine gr_run (pc' := 37) 1 rfl ?_
          exact gr_ret rfl rfl
      · rw [if_neg hw0]
        have hw1 : w = 1 := by omega
        subst hw1
        refine gr_ifF (t := 11) rfl (by decide) (by omega) (cN_eq (by omega)) ?_
        refine gr_run (pc' := 8) 1 rfl ?_
        refine gr_ifT (t := 13) rfl (by decide) (by omega) (cI_ge (by omega)) ?_
        refine gr_run (pc' := 15) 2 rfl ?_
        refine gr_callV (As := [_]) lk_6_86 rfl rfl (x_chosen1 hX) (by repeat (first | exact up_s | assumption | refine up_n (by first | assumption | decide | omega) ?_)) (by first | assumption | exact Nat.le_of_ble_eq_true rfl | exact Nat.le_of_ble_eq_true (by assumption)) rfl rfl rfl rfl rfl ?_
        refine gr_run (pc' := 21) 3 rfl ?_
        refine gr_callV (As := []) lk_6_94 rfl rfl (r_X2_length q1 rfl) (by repeat (first | exact up_s | assumption | refine up_n (by first | assumption | decide | omega) ?_)) (by first | assumption | exact Nat.le_of_ble_eq_true rfl | exact Nat.le_of_ble_eq_true (by assumption)) rfl rfl rfl rfl rfl ?_
        by_cases hl : (k : Int) < σ.2.2.1.1
        · rw [if_pos hl, ← hg_lt (h := σ.2.2.1.2) (show k < σ.2.2.1.1 by omega)]
          refine gr_icF (t := 35) rfl (by decide) (by omega) (by omega) (cN_ge (by omega)) ?_
          refine gr_run (pc' := 29) 2 rfl ?_
          refine gr_callV (As := [_]) lk_6_95 rfl rfl (r_X2_heightAt q1 q2 rfl rfl a2 q3 (by omega)) (by repeat (first | exact up_s | assumption | refine up_n (by first | assumption | decide | omega) ?_)) (by first | assumption | exact Nat.le_of_ble_eq_true rfl | exact Nat.le_of_ble_eq_true (by assumption)) rfl rfl rfl rfl rfl ?_
          refine gr_run (pc' := 37) 1 rfl ?_
          exact gr_ret rfl rfl
        · rw [if_neg hl]
          refine gr_icT (t := 35) rfl (by decide) (by omega) (by omega) (cI_ge (by omega)) ?_
          refine gr_run (pc' := 37) 1 rfl ?_
          exact gr_ret rfl rfl
    · rw [if_neg (fun q => hz0 q.2)]
      refine gr_ifF (t := 11) rfl (by decide) (by omega) (cN_eq (by omega)) ?_
      refine gr_run (pc' := 8) 1 rfl ?_
      refine gr_ifF (t := 13) rfl (by decide) (by omega) (cN_ge (by omega)) ?_
      refine gr_run (pc' := 12) 1 rfl ?_
      exact gr_ret rfl rfl
  · rw [if_neg (fun q => hw01 q.1)]
    refine gr_run (pc' := 1) 1 rfl ?_
    refine gr_callS (As := [_]) lk_6_82 rfl rfl (r_isWhichF hw (by omega)) rfl rfl rfl ?_
    refine gr_ifT (t := 11) rfl (by decide) (by omega) (cI_eq (by omega)) ?_
    refine gr_run (pc' := 12) 1 rfl ?_
    exact gr_ret rfl rfl
theorem x_balls (hX : RepX σ A) (h1 : okT σ.2.1) (h2 : okT σ.2.2.1) {z : Int} (hz : bd z) : Rt mX6_balls (d + 1) [.ref 0, .int (iI z)] A (some (.int (iI (if z = 0 then ((sumN σ.2.1.2 σ.2.1.1 / σ.2.1.1 : Nat) : Int) else if z = 1 then ((sumN σ.2.2.1.2 σ.2.2.1.1 / σ.2.2.1.1 : Nat) : Int) else -1)))) A := by
  have h0 := hX.1
  obtain ⟨p1, f, p2, p3⟩ := hX.2.2.1
  obtain ⟨q1, g, q2, q3⟩ := hX.2.2.2.1
  refine rt_intro kX6_balls rfl rfl rfl ?_
  by_cases hz0 : z = 0
  · rw [if_pos hz0]
    subst hz0
    refine gr_run (pc' := 1) 1 rfl ?_
    refine gr_callS (As := [_]) lk_6_82 rfl rfl (r_isWhichT (by omega)) rfl rfl rfl ?_
    refine gr_ifF (t := 18) rfl (by decide) (by omega) (cN_eq (by omega)) ?_
    refine gr_run (pc' := 9) 2 rfl ?_
    refine gr_callV (As := [_]) lk_6_86 rfl rfl (x_chosen0 hX) (by repeat (first | exact up_s | assumption | refine up_n (by first | assumption | decide | omega) ?_)) (by first | assumption | exact Nat.le_of_ble_eq_true rfl | exact Nat.le_of_ble_eq_true (by assumption)) rfl rfl rfl rfl rfl ?_
    refine gr_callV (As := []) lk_6_99 rfl rfl (r_X2_ballCount p1 p2 rfl rfl h1.1 p3) (by repeat (first | exact up_s | assumption | refine up_n (by first | assumption | decide | omega) ?_)) (by first | assumption | exact Nat.le_of_ble_eq_true rfl | exact Nat.le_of_ble_eq_true (by assumption)) rfl rfl rfl rfl rfl ?_
    refine gr_run (pc' := 19) 1 rfl ?_
    exact gr_ret rfl rfl
  · rw [if_neg hz0]
    by_cases hz1 : z = 1
    · rw [if_pos hz1]
      subst hz1
      refine gr_run (pc' := 1) 1 rfl ?_
      refine gr_callS (As := [_]) lk_6_82 rfl rfl (r_isWhichT (by omega)) rfl rfl rfl ?_
      refine gr_ifF (t := 18) rfl (by decide) (by omega) (cN_eq (by omega)) ?_
      refine gr_run (pc' := 9) 2 rfl ?_
      refine gr_callV (As := [_]) lk_6_86 rfl rfl (x_chosen1 hX) (by repeat (first | exact up_s | assumption | refine up_n (by first | assumption | decide | omega) ?_)) (by first | assumption | exact Nat.le_of_ble_eq_true rfl | exact Nat.le_of_ble_eq_true (by assumption)) rfl rfl rfl rfl rfl ?_
      refine gr_callV (As := []) lk_6_99 rfl rfl (r_X2_ballCount q1 q2 rfl rfl h2.1 q3) (by repeat (first | exact up_s | assumption | refine up_n (by first | assumption | decide | omega) ?_)) (by first | assumption | exact Nat.le_of_ble_eq_true rfl | exact Nat.le_of_ble_eq_true (by assumption)) rfl rfl rfl rfl rfl ?_
      refine gr_run (pc' := 19) 1 rfl ?_
      exact gr_ret rfl rfl
    · rw [if_neg hz1]
      refine gr_run (pc' := 1) 1 rfl ?_
      refine gr_callS (As := [_]) lk_6_82 rfl rfl (r_isWhichF hz (by omega)) rfl rfl rfl ?_
      refine gr_ifT (t := 18) rfl (by decide) (by omega) (cI_eq (by omega)) ?_
      refine gr_run (pc' := 19) 1 rfl ?_
      exact gr_ret rfl rfl
theorem x_air (hX : RepX σ A) (h1 : okT σ.2.1) {z : Int} (hz : bd z) : Rt mX6_air (d + 3) [.ref 0, .int (iI z)] A (some (.int (iI (if 0 ≤ z ∧ z ≤ 100000 then ((airN σ.2.1.1 σ.2.1.2 z : Nat) : Int) else -1)))) A := by
  have h0 := hX.1
  obtain ⟨p1, f, p2, p3⟩ := hX.2.2.1
  refine rt_intro kX6_air rfl rfl rfl ?_
  by_cases c : 0 ≤ z ∧ z ≤ 100000
  · rw [if_pos c]
    refine gr_run (pc' := 1) 1 rfl ?_
    refine gr_callS (As := [_]) lk_6_102 rfl rfl (r_isBeatT c) rfl rfl rfl ?_
    refine gr_ifF (t := 18) rfl (by decide) (by omega) (cN_eq (by omega)) ?_
    refine gr_run (pc' := 8) 1 rfl ?_
    refine gr_getf rfl rfl (by repeat (first | exact up_s | assumption | refine up_n (by first | assumption | decide | omega) ?_)) (by first | assumption | rfl) rfl ?_
    refine gr_run (pc' := 12) 1 rfl ?_
    refine gr_callV (As := [_]) lk_6_105 rfl rfl (r_X2_airAhead p1 p2 rfl rfl h1.1 p3 (by omega)) (by repeat (first | exact up_s | assumption | refine up_n (by first | assumption | decide | omega) ?_)) (by first | assumption | exact Nat.le_of_ble_eq_true rfl | exact Nat.le_of_ble_eq_true (by assumption)) rfl rfl rfl rfl rfl ?_
    refine gr_run (pc' := 19) 1 rfl ?_
    exact gr_ret rfl rfl
  · rw [if_neg c]
    refine gr_run (pc' := 1) 1 rfl ?_
    refine gr_callS (As := [_]) lk_6_102 rfl rfl (r_isBeatF hz (by omega)) rfl rfl rfl ?_
    refine gr_ifT (t := 18) rfl (by decide) (by omega) (cI_eq (by omega)) ?_
    refine gr_run (pc' := 19) 1 rfl ?_
    exact gr_ret rfl rfl
theorem x_writeN {v : Int64} : ∀ {m : Nat} {σ : SS} {A : AH} {x : Int32}, RepX σ A → σ.1.1 + m ≤ 40 → m ≤ 8 →
    ∃ A', Gr mX6_write (d + 1) 35 [some (.ref 0), some (.int x), some (.long v), none, some (.int (iI ((m : Int) - 1)))] [] A (some (.int (iI ((wrF v m σ.1).1 : Int)))) A' ∧ RepX (wrF v m σ.1, σ.2) A' ∧ offE A A' 0 42
  | 0, σ, A, x, hX, hm, h8 => by
    have h0 := hX.1
    have h1 := hX.2.1.1
    refine ⟨A, ?_, hX, offE.rf⟩
    refine gr_run (pc' := 37) 1 rfl ?_
    refine gr_ifT (t := 65) rfl (by decide) (by omega) (cI_lt (by omega)) ?_
    refine gr_run (pc' := 66) 1 rfl ?_
    refine gr_getf rfl rfl (by repeat (first | exact up_s | assumption | refine up_n (by first | assumption | decide | omega) ?_)) (by first | assumption | rfl) rfl ?_
    refine gr_callV (As := []) lk_6_62 rfl rfl (r_X5_length h1 rfl) (by repeat (first | exact up_s | assumption | refine up_n (by first | assumption | decide | omega) ?_)) (by first | assumption | exact Nat.le_of_ble_eq_true rfl | exact Nat.le_of_ble_eq_true (by assumption)) rfl rfl rfl rfl rfl ?_
    exact gr_ret rfl rfl
  | m + 1, σ, A, x, hX, hm, h8 => by
    have h0 := hX.1
    obtain ⟨h1, f, h2, h3⟩ := hX.2.1
    have hX2 : RepX ((σ.1.1 + 1, fun i => if i = σ.1.1 then byN v m else σ.1.2 i), σ.2) (va_up (va_up A 2 (Ia 40 (upd f σ.1.1 (iI (byN v m : Int))))) 1 (Ob 5 [.ref 2, .int (iI ((σ.1.1 + 1 : Nat) : Int))])) := by
      refine hX.set ((up_o (by omega)).trans (up_o (by omega))) ⟨up_s, _, up_n (by omega) up_s, fun i hi => ?_⟩ (hX.2.2.1.o ((up_o (by omega)).trans (up_o (by omega))) ((up_o (by omega)).trans (up_o (by omega)))) (hX.2.2.2.1.o ((up_o (by omega)).trans (up_o (by omega))) ((up_o (by omega)).trans (up_o (by omega)))) (hX.2.2.2.2.1.o ((up_o (by omega)).trans (up_o (by omega))) ((up_o (by omega)).trans (up_o (by omega)))) (hX.2.2.2.2.2.1.o rfl rfl (by intro k _ _; repeat (first | rfl | refine (up_o (by omega)).trans ?_))) (hX.2.2.2.2.2.2.1.o rfl rfl (by intro k _ _; repeat (first | rfl | refine (up_o (by omega)).trans ?_))) (by intro k _ _; repeat (first | rfl | refine (up_o (by omega)).trans ?_))
      simp only at hi ⊢
      by_cases e : i = σ.1.1
      · rw [if_pos e, e]; unfold upd; rw [if_pos rfl]
      · rw [if_neg e]; unfold upd; rw [if_neg e]; exact h3 i (by omega)
    obtain ⟨A', g, r, o⟩ := x_writeN (m := m) (x := x) hX2 (by simp only; omega) (by omega)
    refine ⟨A', ?_, r, (offE.rf.up (by omega)).up (by omega) |>.tr o⟩
    rw [show (((m + 1 : Nat) : Int) - 1) = (m : Int) by omega]
    refine gr_run (pc' := 37) 1 rfl ?_
    refine gr_ifF (t := 65) rfl (by decide) (by omega) (cN_lt (by omega)) ?_
    refine gr_run (pc' := 41) 1 rfl ?_
    refine gr_getf rfl rfl (by repeat (first | exact up_s | assumption | refine up_n (by first | assumption | decide | omega) ?_)) (by first | assumption | rfl) rfl ?_
    refine gr_run (pc' := 49) 3 rfl ?_
    refine gr_imul rfl ?_
    refine gr_lushr rfl ?_
    refine gr_l2ix rfl ?_
    refine gr_run (pc' := 55) 1 rfl ?_
    refine gr_iand rfl ?_
    rw [by_c (by omega)]
    refine gr_callV (As := [_]) lk_6_66 rfl rfl (r_X5_append h1 h2 rfl rfl (by omega)) (by repeat (first | exact up_s | assumption | refine up_n (by first | assumption | decide | omega) ?_)) (by first | assumption | exact Nat.le_of_ble_eq_true rfl | exact Nat.le_of_ble_eq_true (by assumption)) rfl rfl rfl rfl rfl ?_
    refine gr_iinc rfl rfl rfl rfl ?_
    refine gr_run (pc' := 35) 1 rfl ?_
    exact g
theorem x_write {n : Int} {v : Int64} (hn : bd n) (hX : RepX σ A) (ho : okS σ) : ∃ A', Rt mX6_write (d + 1) [.ref 0, .int (iI n), .long v] A (some (.int (iI (wrA σ n v)))) A' ∧ RepX (wrS σ n v) A' ∧ offE A A' 0 42 := by
  have h40 := ho.1.1
  have h0 := hX.1
  have h1 := hX.2.1.1
  by_cases c1 : n < 1 ∨ 8 < n
  · have e1 : wrA σ n v = -1 := if_pos c1
    refine ⟨A, ?_, by rw [wrS, e1]; exact hX, offE.rf⟩
    rw [e1]
    refine rt_intro kX6_write rfl rfl rfl ?_
    by_cases c2 : n < 1
    · refine gr_run (pc' := 2) 2 rfl ?_
      refine gr_icT (t := 11) rfl (by decide) (by omega) (by omega) (cI_lt (by omega)) ?_
      refine gr_run (pc' := 12) 1 rfl ?_
      exact gr_ret rfl rfl
    · refine gr_run (pc' := 2) 2 rfl ?_
      refine gr_icF (t := 11) rfl (by decide) (by omega) (by omega) (cN_lt (by omega)) ?_
      refine gr_run (pc' := 8) 2 rfl ?_
      refine gr_icF (t := 13) rfl (by decide) (by omega) (by omega) (cN_le (by omega)) ?_
      refine gr_run (pc' := 12) 1 rfl ?_
      exact gr_ret rfl rfl
  · have e0 : wrA σ n v = _ := if_neg c1
    by_cases c2 : 40 < (σ.1.1 : Int) + n
    · have e1 : wrA σ n v = -3 := e0.trans (if_pos c2)
      refine ⟨A, ?_, by rw [wrS, e1]; exact hX, offE.rf⟩
      rw [e1]
      refine rt_intro kX6_write rfl rfl rfl ?_
      refine gr_run (pc' := 2) 2 rfl ?_
      refine gr_icF (t := 11) rfl (by decide) (by omega) (by omega) (cN_lt (by omega)) ?_
      refine gr_run (pc' := 8) 2 rfl ?_
      refine gr_icT (t := 13) rfl (by decide) (by omega) (by omega) (cI_le (by omega)) ?_
      refine gr_run (pc' := 14) 1 rfl ?_
      refine gr_getf rfl rfl (by repeat (first | exact up_s | assumption | refine up_n (by first | assumption | decide | omega) ?_)) (by first | assumption | rfl) rfl ?_
      refine gr_callV (As := []) lk_6_62 rfl rfl (r_X5_length h1 rfl) (by repeat (first | exact up_s | assumption | refine up_n (by first | assumption | decide | omega) ?_)) (by first | assumption | exact Nat.le_of_ble_eq_true rfl | exact Nat.le_of_ble_eq_true (by assumption)) rfl rfl rfl rfl rfl ?_
      refine gr_run (pc' := 21) 1 rfl ?_
      refine gr_iadd rfl ?_
      refine gr_run (pc' := 24) 1 rfl ?_
      refine gr_icF (t := 30) rfl (by decide) (by omega) (by omega) (cN_le (by omega)) ?_
      refine gr_run (pc' := 29) 1 rfl ?_
      exact gr_ret rfl rfl
    · have e1 : wrA σ n v = _ := e0.trans (if_neg c2)
      obtain ⟨m, rfl⟩ : ∃ m : Nat, n = (m : Int) := ⟨n.toNat, by omega⟩
      obtain ⟨A', g, r, o⟩ := x_writeN (d := d) (v := v) (m := m) (x := iI (m : Int)) hX (by omega) (by omega)
      have e2 : wrS σ (m : Int) v = (wrF v m σ.1, σ.2) := by rw [wrS, if_neg (by omega)]; rfl
      refine ⟨A', ?_, by rw [e2]; exact r, o⟩
      rw [e1, show (σ.1.1 : Int) + (m : Int) = ((wrF v m σ.1).1 : Int) by rw [wrF_1]; omega]
      refine rt_intro kX6_write rfl rfl rfl ?_
      refine gr_run (pc' := 2) 2 rfl ?_
      refine gr_icF (t := 11) rfl (by decide) (by omega) (by omega) (cN_lt (by omega)) ?_
      refine gr_run (pc' := 8) 2 rfl ?_
      refine gr_icT (t := 13) rfl (by decide) (by omega) (by omega) (cI_le (by omega)) ?_
      refine gr_run (pc' := 14) 1 rfl ?_
      refine gr_getf rfl rfl (by repeat (first | exact up_s | assumption | refine up_n (by first | assumption | decide | omega) ?_)) (by first | assumption | rfl) rfl ?_
      refine gr_callV (As := []) lk_6_62 rfl rfl (r_X5_length h1 rfl) (by repeat (first | exact up_s | assumption | refine up_n (by first | assumption | decide | omega) ?_)) (by first | assumption | exact Nat.le_of_ble_eq_true rfl | exact Nat.le_of_ble_eq_true (by assumption)) rfl rfl rfl rfl rfl ?_
      refine gr_run (pc' := 21) 1 rfl ?_
      refine gr_iadd rfl ?_
      refine gr_run (pc' := 24) 1 rfl ?_
      refine gr_icT (t := 30) rfl (by decide) (by omega) (by omega) (cI_le (by omega)) ?_
      refine gr_run (pc' := 32) 2 rfl ?_
      refine gr_isub rfl ?_
      refine gr_run (pc' := 35) 1 rfl ?_
      exact g
theorem x_cycle {z : Int} (hX : RepX σ A) (hS : okT σ.2.1) (hz : bd z) : Rt mX6_cycle (d + 5) [.ref 0, .int (iI z)] A (some (.int (iI (cycN σ.2.1 z)))) A := by
  have h0 := hX.1
  obtain ⟨p1, f, p2, p3⟩ := hX.2.2.1
  have hn := hS.1.1
  unfold cycN
  refine rt_intro kX6_cycle rfl rfl rfl ?_
  by_cases c1 : z = -1
  · rw [if_pos c1]
    refine gr_run (pc' := 2) 2 rfl ?_
    refine gr_icF (t := 13) rfl (by decide) (by omega) (by omega) (cN_ne (by omega)) ?_
    refine gr_run (pc' := 6) 1 rfl ?_
    refine gr_getf rfl rfl (by repeat (first | exact up_s | assumption | refine up_n (by first | assumption | decide | omega) ?_)) (by first | assumption | rfl) rfl ?_
    refine gr_callV (As := []) lk_6_130 rfl rfl (r_X2_cycleCount p1 p2 rfl rfl hS.1 p3) (by repeat (first | exact up_s | assumption | refine up_n (by first | assumption | decide | omega) ?_)) (by first | assumption | exact Nat.le_of_ble_eq_true rfl | exact Nat.le_of_ble_eq_true (by assumption)) rfl rfl rfl rfl rfl ?_
    exact gr_ret rfl rfl
  · rw [if_neg c1]
    by_cases c2 : 0 ≤ z ∧ z < σ.2.1.1
    · rw [if_pos c2]
      obtain ⟨k, rfl⟩ : ∃ k : Nat, z = (k : Int) := ⟨z.toNat, by omega⟩
      simp only [Int.toNat_natCast]
      refine gr_run (pc' := 2) 2 rfl ?_
      refine gr_icT (t := 13) rfl (by decide) (by omega) (by omega) (cI_ne (by omega)) ?_
      refine gr_run (pc' := 14) 1 rfl ?_
      refine gr_getf rfl rfl (by repeat (first | exact up_s | assumption | refine up_n (by first | assumption | decide | omega) ?_)) (by first | assumption | rfl) rfl ?_
      refine gr_run (pc' := 18) 1 rfl ?_
      refine gr_callV (As := [_]) lk_6_108 rfl rfl (r_X2_hasPlaceT p1 rfl hn.2 c2.1 c2.2) (by repeat (first | exact up_s | assumption | refine up_n (by first | assumption | decide | omega) ?_)) (by first | assumption | exact Nat.le_of_ble_eq_true rfl | exact Nat.le_of_ble_eq_true (by assumption)) rfl rfl rfl rfl rfl ?_
      refine gr_ifF (t := 35) rfl (by decide) (by omega) (cN_eq (by omega)) ?_
      refine gr_run (pc' := 25) 1 rfl ?_
      refine gr_getf rfl rfl (by repeat (first | exact up_s | assumption | refine up_n (by first | assumption | decide | omega) ?_)) (by first | assumption | rfl) rfl ?_
      refine gr_run (pc' := 29) 1 rfl ?_
      refine gr_callV (As := [_]) lk_6_133 rfl rfl (r_X2_cycleBits p1 p2 rfl rfl hS.1 p3 (by omega)) (by repeat (first | exact up_s | assumption | refine up_n (by first | assumption | decide | omega) ?_)) (by first | assumption | exact Nat.le_of_ble_eq_true rfl | exact Nat.le_of_ble_eq_true (by assumption)) rfl rfl rfl rfl rfl ?_
      refine gr_run (pc' := 36) 1 rfl ?_
      exact gr_ret rfl rfl
    · rw [if_neg c2]
      refine gr_run (pc' := 2) 2 rfl ?_
      refine gr_icT (t := 13) rfl (by decide) (by omega) (by omega) (cI_ne (by omega)) ?_
      refine gr_run (pc' := 14) 1 rfl ?_
      refine gr_getf rfl rfl (by repeat (first | exact up_s | assumption | refine up_n (by first | assumption | decide | omega) ?_)) (by first | assumption | rfl) rfl ?_
      refine gr_run (pc' := 18) 1 rfl ?_
      refine gr_callV (As := [_]) lk_6_108 rfl rfl (r_X2_hasPlaceF p1 rfl hn.2 hz (by omega)) (by repeat (first | exact up_s | assumption | refine up_n (by first | assumption | decide | omega) ?_)) (by first | assumption | exact Nat.le_of_ble_eq_true rfl | exact Nat.le_of_ble_eq_true (by assumption)) rfl rfl rfl rfl rfl ?_
      refine gr_ifT (t := 35) rfl (by decide) (by omega) (cI_eq (by omega)) ?_
      refine gr_run (pc' := 36) 1 rfl ?_
      exact gr_ret rfl rfl
theorem x_ballB {z : Int} (hz : bd z) (hc : ¬ (0 ≤ z ∧ z ≤ 100000)) : Rt mX6_ball (d + 1) [.ref 0, .int (iI z)] A (some (.int (iI (-1)))) A := by
  refine rt_intro kX6_ball rfl rfl rfl ?_
  refine gr_run (pc' := 1) 1 rfl ?_
  refine gr_callS (As := [_]) lk_6_102 rfl rfl (r_isBeatF hz (by omega)) rfl rfl rfl ?_
  refine gr_ifF (t := 9) rfl (by decide) (by omega) (cN_ne (by omega)) ?_
  refine gr_run (pc' := 8) 1 rfl ?_
  exact gr_ret rfl rfl
theorem x_ball {t : Nat} (hX : RepX σ A) (hS : okT σ.2.1) (ht : t ≤ 100000) : Rt mX6_ball (d + 6) [.ref 0, .int (iI t)] A (some (.int (iI (if σ.2.1.2 (t % σ.2.1.1) = 0 then -4 else btN σ.2.1.1 σ.2.1.2 t)))) A := by
  have h0 := hX.1
  obtain ⟨p1, f, p2, p3⟩ := hX.2.2.1
  have hn := hS.1.1
  have h9 := hg_le hS.1 (t : Int)
  rw [hg_n] at h9
  refine rt_intro kX6_ball rfl rfl rfl ?_
  refine gr_run (pc' := 1) 1 rfl ?_
  refine gr_callS (As := [_]) lk_6_102 rfl rfl (r_isBeatT (by omega)) rfl rfl rfl ?_
  refine gr_ifT (t := 9) rfl (by decide) (by omega) (cI_ne (by omega)) ?_
  refine gr_run (pc' := 10) 1 rfl ?_
  refine gr_getf rfl rfl (by repeat (first | exact up_s | assumption | refine up_n (by first | assumption | decide | omega) ?_)) (by first | assumption | rfl) rfl ?_
  refine gr_run (pc' := 14) 1 rfl ?_
  refine gr_callV (As := [_]) lk_6_95 rfl rfl (r_X2_heightAt p1 p2 rfl rfl hn p3 (by omega)) (by repeat (first | exact up_s | assumption | refine up_n (by first | assumption | decide | omega) ?_)) (by first | assumption | exact Nat.le_of_ble_eq_true rfl | exact Nat.le_of_ble_eq_true (by assumption)) rfl rfl rfl rfl rfl ?_
  rw [hg_n]
  by_cases c : σ.2.1.2 (t % σ.2.1.1) = 0
  · rw [if_pos c]
    refine gr_ifF (t := 25) rfl (by decide) (by omega) (cN_ne (by omega)) ?_
    refine gr_run (pc' := 33) 2 rfl ?_
    exact gr_ret rfl rfl
  · rw [if_neg c]
    refine gr_ifT (t := 25) rfl (by decide) (by omega) (cI_ne (by omega)) ?_
    refine gr_run (pc' := 26) 1 rfl ?_
    refine gr_getf rfl rfl (by repeat (first | exact up_s | assumption | refine up_n (by first | assumption | decide | omega) ?_)) (by first | assumption | rfl) rfl ?_
    refine gr_run (pc' := 30) 1 rfl ?_
    refine gr_callV (As := [_]) lk_6_136 rfl rfl (r_X2_ballThrownAt p1 p2 rfl rfl hS.1 p3 (by omega)) (by repeat (first | exact up_s | assumption | refine up_n (by first | assumption | decide | omega) ?_)) (by first | assumption | exact Nat.le_of_ble_eq_true rfl | exact Nat.le_of_ble_eq_true (by assumption)) rfl rfl rfl rfl rfl ?_
    exact gr_ret rfl rfl
theorem x_count {z : Int} (hX : RepX σ A) (hz : bd z) : Rt mX6_count (d + 1) [.ref 0, .int (iI z)] A (some (.int (iI (cntN σ z)))) A := by
  have h0 := hX.1
  have h1 := hX.2.1.1
  have h3 := hX.2.2.1.1
  have h5 := hX.2.2.2.1.1
  obtain ⟨st, h9, -⟩ := hX.2.2.2.2.2.1
  obtain ⟨st2, h27, -⟩ := hX.2.2.2.2.2.2.1
  unfold cntN
  refine rt_intro kX6_count rfl rfl rfl ?_
  refine gr_run (pc' := 1) 1 rfl ?_
  by_cases c0 : z = 0
  · rw [if_pos c0]; subst c0
    refine gr_tabIn (t := 36) rfl (by omega) (by omega) (by omega) rfl (by decide) ?_
    refine gr_run (pc' := 37) 1 rfl ?_
    refine gr_getf rfl rfl (by repeat (first | exact up_s | assumption | refine up_n (by first | assumption | decide | omega) ?_)) (by first | assumption | rfl) rfl ?_
    refine gr_callV (As := []) lk_6_94 rfl rfl (r_X2_length h3 rfl) (by repeat (first | exact up_s | assumption | refine up_n (by first | assumption | decide | omega) ?_)) (by first | assumption | exact Nat.le_of_ble_eq_true rfl | exact Nat.le_of_ble_eq_true (by assumption)) rfl rfl rfl rfl rfl ?_
    exact gr_ret rfl rfl
  rw [if_neg c0]
  by_cases c1 : z = 1
  · rw [if_pos c1]; subst c1
    refine gr_tabIn (t := 44) rfl (by omega) (by omega) (by omega) rfl (by decide) ?_
    refine gr_run (pc' := 45) 1 rfl ?_
    refine gr_getf rfl rfl (by repeat (first | exact up_s | assumption | refine up_n (by first | assumption | decide | omega) ?_)) (by first | assumption | rfl) rfl ?_
    refine gr_callV (As := []) lk_6_94 rfl rfl (r_X2_length h5 rfl) (by repeat (first | exact up_s | assumption | refine up_n (by first | assumption | decide | omega) ?_)) (by first | assumption | exact Nat.le_of_ble_eq_true rfl | exact Nat.le_of_ble_eq_true (by assumption)) rfl rfl rfl rfl rfl ?_
    exact gr_ret rfl rfl
  rw [if_neg c1]
  by_cases c2 : z = 2
  · rw [if_pos c2]; subst c2
    refine gr_tabIn (t := 52) rfl (by omega) (by omega) (by omega) rfl (by decide) ?_
    refine gr_run (pc' := 53) 1 rfl ?_
    refine gr_getf rfl rfl (by repeat (first | exact up_s | assumption | refine up_n (by first | assumption | decide | omega) ?_)) (by first | assumption | rfl) rfl ?_
    refine gr_callV (As := []) lk_6_124 rfl rfl (r_X3_used h9 rfl) (by repeat (first | exact up_s | assumption | refine up_n (by first | assumption | decide | omega) ?_)) (by first | assumption | exact Nat.le_of_ble_eq_true rfl | exact Nat.le_of_ble_eq_true (by assumption)) rfl rfl rfl rfl rfl ?_
    exact gr_ret rfl rfl
  rw [if_neg c2]
  by_cases c3 : z = 3
  · rw [if_pos c3]; subst c3
    refine gr_tabIn (t := 60) rfl (by omega) (by omega) (by omega) rfl (by decide) ?_
    refine gr_run (pc' := 61) 1 rfl ?_
    refine gr_getf rfl rfl (by repeat (first | exact up_s | assumption | refine up_n (by first | assumption | decide | omega) ?_)) (by first | assumption | rfl) rfl ?_
    refine gr_callV (As := []) lk_6_124 rfl rfl (r_X3_used h27 rfl) (by repeat (first | exact up_s | assumption | refine up_n (by first | assumption | decide | omega) ?_)) (by first | assumption | exact Nat.le_of_ble_eq_true rfl | exact Nat.le_of_ble_eq_true (by assumption)) rfl rfl rfl rfl rfl ?_
    exact gr_ret rfl rfl
  rw [if_neg c3]
  by_cases c4 : z = 4
  · rw [if_pos c4]; subst c4
    refine gr_tabIn (t := 68) rfl (by omega) (by omega) (by omega) rfl (by decide) ?_
    refine gr_run (pc' := 69) 1 rfl ?_
    refine gr_getf rfl rfl (by repeat (first | exact up_s | assumption | refine up_n (by first | assumption | decide | omega) ?_)) (by first | assumption | rfl) rfl ?_
    refine gr_callV (As := []) lk_6_62 rfl rfl (r_X5_length h1 rfl) (by repeat (first | exact up_s | assumption | refine up_n (by first | assumption | decide | omega) ?_)) (by first | assumption | exact Nat.le_of_ble_eq_true rfl | exact Nat.le_of_ble_eq_true (by assumption)) rfl rfl rfl rfl rfl ?_
    exact gr_ret rfl rfl
  rw [if_neg c4]
  refine gr_tabOut (t := 76) rfl (by omega) (by omega) (by decide) ?_
  refine gr_run (pc' := 77) 1 rfl ?_
  exact gr_ret rfl rfl
theorem x_prime (hX : RepX σ A) (hS : okT σ.2.1) : Rt mX6_prime (d + 4) [.ref 0] A (some (.int (iI ((unN σ.2.1.1 σ.2.1.2 : Nat) : Int)))) A := by
  have h0 := hX.1
  obtain ⟨p1, f, p2, p3⟩ := hX.2.2.1
  refine rt_intro kX6_prime rfl rfl rfl ?_
  rcases unl_dec (n := σ.2.1.1) (h := σ.2.1.2) with u | ⟨i, j, h1, h2, h3⟩
  · rw [unN_T u]
    refine gr_run (pc' := 1) 1 rfl ?_
    refine gr_getf rfl rfl (by repeat (first | exact up_s | assumption | refine up_n (by first | assumption | decide | omega) ?_)) (by first | assumption | rfl) rfl ?_
    refine gr_callV (As := []) lk_6_164 rfl rfl (r_X2_hasUnlikeT p1 p2 rfl rfl hS.1 p3 u) (by repeat (first | exact up_s | assumption | refine up_n (by first | assumption | decide | omega) ?_)) (by first | assumption | exact Nat.le_of_ble_eq_true rfl | exact Nat.le_of_ble_eq_true (by assumption)) rfl rfl rfl rfl rfl ?_
    refine gr_ifF (t := 14) rfl (by decide) (by omega) (cN_eq (by omega)) ?_
    refine gr_run (pc' := 15) 2 rfl ?_
    exact gr_ret rfl rfl
  · rw [unN_F (fun u => u i j h1 h2 h3)]
    refine gr_run (pc' := 1) 1 rfl ?_
    refine gr_getf rfl rfl (by repeat (first | exact up_s | assumption | refine up_n (by first | assumption | decide | omega) ?_)) (by first | assumption | rfl) rfl ?_
    refine gr_callV (As := []) lk_6_164 rfl rfl (r_X2_hasUnlikeF p1 p2 rfl rfl hS.1 p3 ⟨h1, h2⟩ h3) (by repeat (first | exact up_s | assumption | refine up_n (by first | assumption | decide | omega) ?_)) (by first | assumption | exact Nat.le_of_ble_eq_true rfl | exact Nat.le_of_ble_eq_true (by assumption)) rfl rfl rfl rfl rfl ?_
    refine gr_ifT (t := 14) rfl (by decide) (by omega) (cI_eq (by omega)) ?_
    refine gr_run (pc' := 15) 1 rfl ?_
    exact gr_ret rfl rfl
theorem x_keepF (hX : RepX σ A) (hk : σ.2.2.2.2.1 = 2) : Rt mX6_keep (d + 1) [.ref 0] A (some (.int (iI (-3)))) A := by
  have h0 := hX.1
  obtain ⟨st2, h27, -⟩ := hX.2.2.2.2.2.2.1
  refine rt_intro kX6_keep rfl rfl rfl ?_
  refine gr_run (pc' := 1) 1 rfl ?_
  refine gr_getf rfl rfl (by repeat (first | exact up_s | assumption | refine up_n (by first | assumption | decide | omega) ?_)) (by first | assumption | rfl) rfl ?_
  refine gr_callV (As := []) lk_6_124 rfl rfl (r_X3_used h27 rfl) (by repeat (first | exact up_s | assumption | refine up_n (by first | assumption | decide | omega) ?_)) (by first | assumption | exact Nat.le_of_ble_eq_true rfl | exact Nat.le_of_ble_eq_true (by assumption)) rfl rfl rfl rfl rfl ?_
  refine gr_run (pc' := 8) 1 rfl ?_
  refine gr_icF (t := 14) rfl (by decide) (by omega) (by omega) (cN_lt (by omega)) ?_
  refine gr_run (pc' := 13) 1 rfl ?_
  exact gr_ret rfl rfl
theorem x_keep (hX : RepX σ A) (hS : okS σ) (hk : σ.2.2.2.2.1 < 2) : ∃ A', Rt mX6_keep (d + 2) [.ref 0] A (some (.int (iI ((σ.2.2.2.2.1 + 1 : Nat) : Int)))) A' ∧ RepX (σ.1, σ.2.1, σ.2.2.1, σ.2.2.2.1, keepS σ.2.2.2.2 σ.2.1) A' ∧ offE A A' 0 42 := by
  have h0 := hX.1
  obtain ⟨st2, h27, -⟩ := id hX.2.2.2.2.2.2.1
  obtain ⟨A', r1, r2, r3⟩ := shA_add (d := d) hX.2.2.2.2.2.2.1 (by omega) rfl rfl (by omega) hX.2.2.1 hS.2.1.1.1.2 (by omega)
  have e : pushS 2 σ.2.2.2.2 σ.2.1 = keepS σ.2.2.2.2 σ.2.1 := if_pos hk
  rw [e] at r2
  have o : ∀ k, k < 27 ∨ 32 < k → A' k = A k := fun k hk => r3 k (by omega)
  obtain ⟨st3, g27, -⟩ := id r2
  have g0 := (o 0 (by omega)).trans h0
  refine ⟨A', ?_, hX.set (o _ (by omega)) ⟨(o _ (by omega)).trans hX.2.1.1, hX.2.1.2.o (o _ (by omega))⟩ (hX.2.2.1.o (o _ (by omega)) (o _ (by omega))) (hX.2.2.2.1.o (o _ (by omega)) (o _ (by omega))) (hX.2.2.2.2.1.o (o _ (by omega)) (o _ (by omega))) (hX.2.2.2.2.2.1.o rfl rfl (fun k _ _ => o k (by omega))) r2 (fun k _ _ => o k (by omega)), r3.w (by omega) (by omega)⟩
  refine rt_intro kX6_keep rfl rfl rfl ?_
  refine gr_run (pc' := 1) 1 rfl ?_
  refine gr_getf rfl rfl (by repeat (first | exact up_s | assumption | refine up_n (by first | assumption | decide | omega) ?_)) (by first | assumption | rfl) rfl ?_
  refine gr_callV (As := []) lk_6_124 rfl rfl (r_X3_used h27 rfl) (by repeat (first | exact up_s | assumption | refine up_n (by first | assumption | decide | omega) ?_)) (by first | assumption | exact Nat.le_of_ble_eq_true rfl | exact Nat.le_of_ble_eq_true (by assumption)) rfl rfl rfl rfl rfl ?_
  refine gr_run (pc' := 8) 1 rfl ?_
  refine gr_icT (t := 14) rfl (by decide) (by omega) (by omega) (cI_lt (by omega)) ?_
  refine gr_run (pc' := 15) 1 rfl ?_
  refine gr_getf rfl rfl (by repeat (first | exact up_s | assumption | refine up_n (by first | assumption | decide | omega) ?_)) (by first | assumption | rfl) rfl ?_
  refine gr_run (pc' := 19) 1 rfl ?_
  refine gr_getf rfl rfl (by repeat (first | exact up_s | assumption | refine up_n (by first | assumption | decide | omega) ?_)) (by first | assumption | rfl) rfl ?_
  refine gr_callV (As := [_]) lk_6_201 rfl rfl (r1) (by repeat (first | exact up_s | assumption | refine up_n (by first | assumption | decide | omega) ?_)) (by first | assumption | exact Nat.le_of_ble_eq_true rfl | exact Nat.le_of_ble_eq_true (by assumption)) rfl rfl rfl rfl rfl ?_
  refine gr_run (pc' := 26) 1 rfl ?_
  refine gr_getf rfl rfl (by repeat (first | exact up_s | assumption | refine up_n (by first | assumption | decide | omega) ?_)) (by first | assumption | rfl) rfl ?_
  refine gr_callV (As := []) lk_6_124 rfl rfl (r_X3_used g27 rfl) (by repeat (first | exact up_s | assumption | refine up_n (by first | assumption | decide | omega) ?_)) (by first | assumption | exact Nat.le_of_ble_eq_true rfl | exact Nat.le_of_ble_eq_true (by assumption)) rfl rfl rfl rfl rfl ?_
  exact gr_ret rfl rfl
theorem x_back0 (hX : RepX σ A) (hk : σ.2.2.2.2.1 = 0) : Rt mX6_back (d + 1) [.ref 0] A (some (.int (iI (-2)))) A := by
  have h0 := hX.1
  obtain ⟨st2, h27, -⟩ := hX.2.2.2.2.2.2.1
  refine rt_intro kX6_back rfl rfl rfl ?_
  refine gr_run (pc' := 1) 1 rfl ?_
  refine gr_getf rfl rfl (by repeat (first | exact up_s | assumption | refine up_n (by first | assumption | decide | omega) ?_)) (by first | assumption | rfl) rfl ?_
  refine gr_callV (As := []) lk_6_124 rfl rfl (r_X3_used h27 rfl) (by repeat (first | exact up_s | assumption | refine up_n (by first | assumption | decide | omega) ?_)) (by first | assumption | exact Nat.le_of_ble_eq_true rfl | exact Nat.le_of_ble_eq_true (by assumption)) rfl rfl rfl rfl rfl ?_
  refine gr_ifF (t := 13) rfl (by decide) (by omega) (cN_ne (by omega)) ?_
  refine gr_run (pc' := 12) 1 rfl ?_
  exact gr_ret rfl rfl
theorem x_back (hX : RepX σ A) (hS : okS σ) (hu : 1 ≤ σ.2.2.2.2.1) : ∃ A', Rt mX6_back (d + 2) [.ref 0] A (some (.int (iI ((σ.2.2.2.2.1 - 1 : Nat) : Int)))) A' ∧ RepX (σ.1, σ.2.2.2.2.2 (σ.2.2.2.2.1 - 1), σ.2.2.1, (0, σ.2.2.2.1.2), popU σ.2.2.2.2) A' ∧ offE A A' 0 42 := by
  have h0 := hX.1
  have hk2 := hS.2.2.2.2.1
  obtain ⟨st2, h27, -⟩ := id hX.2.2.2.2.2.2.1
  obtain ⟨p1, f, p2, p3⟩ := id hX.2.2.1
  obtain ⟨A1, r1, r2, r3, r4⟩ := shA_take (d := d) hX.2.2.2.2.2.2.1 (by omega) rfl rfl (by omega) hu p1 p2 (hS.2.2.2.2.2 _ (by omega)).1.1.2 (by omega) (by omega)
  have s1 := hX.2.2.2.2.2.1.o (A' := A1) rfl rfl (fun k _ _ => r4 k (by omega) (by omega) (by omega))
  obtain ⟨st, s2, s3⟩ := s1.z rfl rfl
  obtain ⟨st3, g27, -⟩ := id r2
  have g0 := (r4 0 (by omega) (by omega) (by omega)).trans h0
  refine ⟨va_up A1 9 (Ob 3 [.ref 10, .int (iI st), .int (iI 0)]), ?_, hX.set ((up_o (by omega)).trans (r4 _ (by omega) (by omega) (by omega))) ⟨up_n (by omega) ((r4 _ (by omega) (by omega) (by omega)).trans hX.2.1.1), hX.2.1.2.o ((up_o (by omega)).trans (r4 _ (by omega) (by omega) (by omega)))⟩ (r3.o (up_o (by omega)) (up_o (by omega))) (hX.2.2.2.1.o ((up_o (by omega)).trans (r4 _ (by omega) (by omega) (by omega))) ((up_o (by omega)).trans (r4 _ (by omega) (by omega) (by omega)))) (hX.2.2.2.2.1.o ((up_o (by omega)).trans (r4 _ (by omega) (by omega) (by omega))) ((up_o (by omega)).trans (r4 _ (by omega) (by omega) (by omega)))) s3 (r2.o rfl rfl (by intro k _ _; repeat (first | rfl | refine (up_o (by omega)).trans ?_))) (fun k _ _ => (up_o (by omega)).trans (r4 k (by omega) (by omega) (by omega))), fun k hk => (up_o (by omega)).trans (r4 k (by omega) (by omega) (by omega))⟩
  refine rt_intro kX6_back rfl rfl rfl ?_
  refine gr_run (pc' := 1) 1 rfl ?_
  refine gr_getf rfl rfl (by repeat (first | exact up_s | assumption | refine up_n (by first | assumption | decide | omega) ?_)) (by first | assumption | rfl) rfl ?_
  refine gr_callV (As := []) lk_6_124 rfl rfl (r_X3_used h27 rfl) (by repeat (first | exact up_s | assumption | refine up_n (by first | assumption | decide | omega) ?_)) (by first | assumption | exact Nat.le_of_ble_eq_true rfl | exact Nat.le_of_ble_eq_true (by assumption)) rfl rfl rfl rfl rfl ?_
  refine gr_ifT (t := 13) rfl (by decide) (by omega) (cI_ne (by omega)) ?_
  refine gr_run (pc' := 14) 1 rfl ?_
  refine gr_getf rfl rfl (by repeat (first | exact up_s | assumption | refine up_n (by first | assumption | decide | omega) ?_)) (by first | assumption | rfl) rfl ?_
  refine gr_run (pc' := 18) 1 rfl ?_
  refine gr_getf rfl rfl (by repeat (first | exact up_s | assumption | refine up_n (by first | assumption | decide | omega) ?_)) (by first | assumption | rfl) rfl ?_
  refine gr_callV (As := [_]) lk_6_127 rfl rfl (r1) (by repeat (first | exact up_s | assumption | refine up_n (by first | assumption | decide | omega) ?_)) (by first | assumption | exact Nat.le_of_ble_eq_true rfl | exact Nat.le_of_ble_eq_true (by assumption)) rfl rfl rfl rfl rfl ?_
  refine gr_run (pc' := 25) 1 rfl ?_
  refine gr_getf rfl rfl (by repeat (first | exact up_s | assumption | refine up_n (by first | assumption | decide | omega) ?_)) (by first | assumption | rfl) rfl ?_
  refine gr_callV (As := []) lk_6_93 rfl rfl (r_X3_clear s2 rfl) (by repeat (first | exact up_s | assumption | refine up_n (by first | assumption | decide | omega) ?_)) (by first | assumption | exact Nat.le_of_ble_eq_true rfl | exact Nat.le_of_ble_eq_true (by assumption)) rfl rfl rfl rfl rfl ?_
  refine gr_run (pc' := 32) 1 rfl ?_
  refine gr_getf rfl rfl (by repeat (first | exact up_s | assumption | refine up_n (by first | assumption | decide | omega) ?_)) (by first | assumption | rfl) rfl ?_
  refine gr_callV (As := []) lk_6_124 rfl rfl (r_X3_used (up_n (by decide) g27) rfl) (by repeat (first | exact up_s | assumption | refine up_n (by first | assumption | decide | omega) ?_)) (by first | assumption | exact Nat.le_of_ble_eq_true rfl | exact Nat.le_of_ble_eq_true (by assumption)) rfl rfl rfl rfl rfl ?_
  exact gr_ret rfl rfl
theorem x_undo0 (hX : RepX σ A) (hu : σ.2.2.2.1.1 = 0) : Rt mX6_undo (d + 1) [.ref 0] A (some (.int (iI (-2)))) A := by
  have h0 := hX.1
  obtain ⟨st, h9, -⟩ := hX.2.2.2.2.2.1
  refine rt_intro kX6_undo rfl rfl rfl ?_
  refine gr_run (pc' := 1) 1 rfl ?_
  refine gr_getf rfl rfl (by repeat (first | exact up_s | assumption | refine up_n (by first | assumption | decide | omega) ?_)) (by first | assumption | rfl) rfl ?_
  refine gr_callV (As := []) lk_6_124 rfl rfl (r_X3_used h9 rfl) (by repeat (first | exact up_s | assumption | refine up_n (by first | assumption | decide | omega) ?_)) (by first | assumption | exact Nat.le_of_ble_eq_true rfl | exact Nat.le_of_ble_eq_true (by assumption)) rfl rfl rfl rfl rfl ?_
  refine gr_ifF (t := 13) rfl (by decide) (by omega) (cN_ne (by omega)) ?_
  refine gr_run (pc' := 12) 1 rfl ?_
  exact gr_ret rfl rfl
theorem x_undo (hX : RepX σ A) (hS : okS σ) (hu : 1 ≤ σ.2.2.2.1.1) : ∃ A', Rt mX6_undo (d + 2) [.ref 0] A (some (.int (iI ((σ.2.2.2.1.1 - 1 : Nat) : Int)))) A' ∧ RepX (σ.1, σ.2.2.2.1.2 (σ.2.2.2.1.1 - 1), σ.2.2.1, popU σ.2.2.2.1, σ.2.2.2.2) A' ∧ offE A A' 0 42 := by
  have h0 := hX.1
  have hk8 := hS.2.2.2.1.1
  obtain ⟨st, h9, -⟩ := id hX.2.2.2.2.2.1
  obtain ⟨p1, f, p2, p3⟩ := id hX.2.2.1
  obtain ⟨A1, r1, r2, r3, r4⟩ := shA_take (d := d) hX.2.2.2.2.2.1 (by omega) rfl rfl (by omega) hu p1 p2 (hS.2.2.2.1.2 _ (by omega)).1.1.2 (by omega) (by omega)
  obtain ⟨st3, g9, -⟩ := id r2
  have g0 := (r4 0 (by omega) (by omega) (by omega)).trans h0
  refine ⟨A1, ?_, hX.set (r4 _ (by omega) (by omega) (by omega)) ⟨(r4 _ (by omega) (by omega) (by omega)).trans hX.2.1.1, hX.2.1.2.o (r4 _ (by omega) (by omega) (by omega))⟩ r3 (hX.2.2.2.1.o (r4 _ (by omega) (by omega) (by omega)) (r4 _ (by omega) (by omega) (by omega))) (hX.2.2.2.2.1.o (r4 _ (by omega) (by omega) (by omega)) (r4 _ (by omega) (by omega) (by omega))) r2 (hX.2.2.2.2.2.2.1.o rfl rfl (fun k _ _ => r4 k (by omega) (by omega) (by omega))) (fun k _ _ => r4 k (by omega) (by omega) (by omega)), fun k hk => r4 k (by omega) (by omega) (by omega)⟩
  refine rt_intro kX6_undo rfl rfl rfl ?_
  refine gr_run (pc' := 1) 1 rfl ?_
  refine gr_getf rfl rfl (by repeat (first | exact up_s | assumption | refine up_n (by first | assumption | decide | omega) ?_)) (by first | assumption | rfl) rfl ?_
  refine gr_callV (As := []) lk_6_124 rfl rfl (r_X3_used h9 rfl) (by repeat (first | exact up_s | assumption | refine up_n (by first | assumption | decide | omega) ?_)) (by first | assumption | exact Nat.le_of_ble_eq_true rfl | exact Nat.le_of_ble_eq_true (by assumption)) rfl rfl rfl rfl rfl ?_
  refine gr_ifT (t := 13) rfl (by decide) (by omega) (cI_ne (by omega)) ?_
  refine gr_run (pc' := 14) 1 rfl ?_
  refine gr_getf rfl rfl (by repeat (first | exact up_s | assumption | refine up_n (by first | assumption | decide | omega) ?_)) (by first | assumption | rfl) rfl ?_
  refine gr_run (pc' := 18) 1 rfl ?_
  refine gr_getf rfl rfl (by repeat (first | exact up_s | assumption | refine up_n (by first | assumption | decide | omega) ?_)) (by first | assumption | rfl) rfl ?_
  refine gr_callV (As := [_]) lk_6_127 rfl rfl (r1) (by repeat (first | exact up_s | assumption | refine up_n (by first | assumption | decide | omega) ?_)) (by first | assumption | exact Nat.le_of_ble_eq_true rfl | exact Nat.le_of_ble_eq_true (by assumption)) rfl rfl rfl rfl rfl ?_
  refine gr_run (pc' := 25) 1 rfl ?_
  refine gr_getf rfl rfl (by repeat (first | exact up_s | assumption | refine up_n (by first | assumption | decide | omega) ?_)) (by first | assumption | rfl) rfl ?_
  refine gr_callV (As := []) lk_6_124 rfl rfl (r_X3_used g9 rfl) (by repeat (first | exact up_s | assumption | refine up_n (by first | assumption | decide | omega) ?_)) (by first | assumption | exact Nat.le_of_ble_eq_true rfl | exact Nat.le_of_ble_eq_true (by assumption)) rfl rfl rfl rfl rfl ?_
  exact gr_ret rfl rfl
theorem x_become {n : Nat} {h : Nat → Nat} {g : Nat → Int32} (hX : RepX σ A) (hS : okS σ) (h7 : A 7 = Ob 2 [.ref 8, .int (iI n)]) (h8 : A 8 = Ia 10 g) (hn : 1 ≤ n ∧ n ≤ 10) (hf : ∀ i, i < n → g i = iI (h i)) : ∃ A', Rt mX6_becomeTrial (d + 2) [.ref 0] A (some (.int (iI (h 0)))) A' ∧ RepX (σ.1, (n, h), σ.2.2.1, pushU σ.2.2.2.1 σ.2.1, σ.2.2.2.2) A' ∧ offE A A' 0 42 := by
  have h0 := hX.1
  obtain ⟨p1, f, p2, p3⟩ := id hX.2.2.1
  obtain ⟨A1, r1, r2, r3⟩ := shA_add (d := d) hX.2.2.2.2.2.1 (by omega) rfl rfl (by omega) hX.2.2.1 hS.2.1.1.1.2 (by omega)
  obtain ⟨st9, h9, -⟩ := id hX.2.2.2.2.2.1
  have e : pushS 8 σ.2.2.2.1 σ.2.1 = pushU σ.2.2.2.1 σ.2.1 := rfl
  rw [e] at r2
  have o : ∀ k, k < 9 ∨ 26 < k → A1 k = A k := fun k hk => r3 k (by omega)
  have g0 := (o 0 (by omega)).trans h0
  have g3 := (o 3 (by omega)).trans p1
  have g4 := (o 4 (by omega)).trans p2
  have g7 := (o 7 (by omega)).trans h7
  have g8 := (o 8 (by omega)).trans h8
  have hrow : ∀ i, i < n → (if i < n then g i else f i) = iI (h i) := fun i hi => by rw [if_pos hi]; exact hf i hi
  refine ⟨va_up (va_up A1 3 (Ob 2 [.ref 4, .int (iI n)])) 4 (Ia 10 (fun i => if i < n then g i else f i)), ?_, hX.set ((up_o (by omega)).trans ((up_o (by omega)).trans (o _ (by omega)))) ⟨up_n (by omega) (up_n (by omega) ((o _ (by omega)).trans hX.2.1.1)), hX.2.1.2.o ((up_o (by omega)).trans ((up_o (by omega)).trans (o _ (by omega))))⟩ ⟨up_n (by omega) up_s, _, up_s, hrow⟩ (hX.2.2.2.1.o ((up_o (by omega)).trans ((up_o (by omega)).trans (o _ (by omega)))) ((up_o (by omega)).trans ((up_o (by omega)).trans (o _ (by omega))))) (hX.2.2.2.2.1.o ((up_o (by omega)).trans ((up_o (by omega)).trans (o _ (by omega)))) ((up_o (by omega)).trans ((up_o (by omega)).trans (o _ (by omega))))) (r2.o rfl rfl (by intro k _ _; repeat (first | rfl | refine (up_o (by omega)).trans ?_))) (hX.2.2.2.2.2.2.1.o rfl rfl (fun k _ _ => (up_o (by omega)).trans ((up_o (by omega)).trans (o _ (by omega))))) (fun k _ _ => (up_o (by omega)).trans ((up_o (by omega)).trans (o _ (by omega)))), fun k hk => (up_o (by omega)).trans ((up_o (by omega)).trans (o _ (by omega)))⟩
  refine rt_intro kX6_becomeTrial rfl rfl rfl ?_
  refine gr_run (pc' := 1) 1 rfl ?_
  refine gr_getf rfl rfl (by repeat (first | exact up_s | assumption | refine up_n (by first | assumption | decide | omega) ?_)) (by first | assumption | rfl) rfl ?_
  refine gr_run (pc' := 5) 1 rfl ?_
  refine gr_getf rfl rfl (by repeat (first | exact up_s | assumption | refine up_n (by first | assumption | decide | omega) ?_)) (by first | assumption | rfl) rfl ?_
  refine gr_callV (As := [_]) lk_6_201 rfl rfl (r1) (by repeat (first | exact up_s | assumption | refine up_n (by first | assumption | decide | omega) ?_)) (by first | assumption | exact Nat.le_of_ble_eq_true rfl | exact Nat.le_of_ble_eq_true (by assumption)) rfl rfl rfl rfl rfl ?_
  refine gr_run (pc' := 12) 1 rfl ?_
  refine gr_getf rfl rfl (by repeat (first | exact up_s | assumption | refine up_n (by first | assumption | decide | omega) ?_)) (by first | assumption | rfl) rfl ?_
  refine gr_run (pc' := 16) 1 rfl ?_
  refine gr_getf rfl rfl (by repeat (first | exact up_s | assumption | refine up_n (by first | assumption | decide | omega) ?_)) (by first | assumption | rfl) rfl ?_
  refine gr_callV (As := [_]) lk_6_90 rfl rfl (r_X2_copy g3 g4 g7 g8 rfl rfl rfl rfl hn.2 (by decide) (by decide)) (by repeat (first | exact up_s | assumption | refine up_n (by first | assumption | decide | omega) ?_)) (by first | assumption | exact Nat.le_of_ble_eq_true rfl | exact Nat.le_of_ble_eq_true (by assumption)) rfl rfl rfl rfl rfl ?_
  refine gr_run (pc' := 23) 1 rfl ?_
  refine gr_getf rfl rfl (by repeat (first | exact up_s | assumption | refine up_n (by first | assumption | decide | omega) ?_)) (by first | assumption | rfl) rfl ?_
  refine gr_run (pc' := 27) 1 rfl ?_
  rw [← hg_lt (h := h) (show 0 < n by omega)]
  refine gr_callV (As := [_]) lk_6_95 rfl rfl (r_X2_heightAt (up_n (by decide) up_s) up_s rfl rfl hn hrow (by omega)) (by repeat (first | exact up_s | assumption | refine up_n (by first | assumption | decide | omega) ?_)) (by first | assumption | exact Nat.le_of_ble_eq_true rfl | exact Nat.le_of_ble_eq_true (by assumption)) rfl rfl rfl rfl rfl ?_
  exact gr_ret rfl rfl
theorem x_handsB {n a b : Int} (hn : bd n) (ha : bd a) (hb : bd b) (hc : ¬ ((1 ≤ n ∧ n ≤ 5) ∧ (0 ≤ a ∧ a < n) ∧ (0 ≤ b ∧ b < n))) : Rt mX6_hands (d + 1) [.ref 0, .int (iI n), .int (iI a), .int (iI b)] A (some (.int (iI (-1)))) A := by
  refine rt_intro kX6_hands rfl rfl rfl ?_
  by_cases c1 : n < 1
  · refine gr_run (pc' := 2) 2 rfl ?_
    refine gr_icT (t := 28) rfl (by decide) (by omega) (by omega) (cI_lt (by omega)) ?_
    refine gr_run (pc' := 29) 1 rfl ?_
    exact gr_ret rfl rfl
  by_cases c2 : 5 < n
  · refine gr_run (pc' := 2) 2 rfl ?_
    refine gr_icF (t := 28) rfl (by decide) (by omega) (by omega) (cN_lt (by omega)) ?_
    refine gr_run (pc' := 7) 2 rfl ?_
    refine gr_icT (t := 28) rfl (by decide) (by omega) (by omega) (cI_gt (by omega)) ?_
    refine gr_run (pc' := 29) 1 rfl ?_
    exact gr_ret rfl rfl
  by_cases c3 : a < 0
  · refine gr_run (pc' := 2) 2 rfl ?_
    refine gr_icF (t := 28) rfl (by decide) (by omega) (by omega) (cN_lt (by omega)) ?_
    refine gr_run (pc' := 7) 2 rfl ?_
    refine gr_icF (t := 28) rfl (by decide) (by omega) (by omega) (cN_gt (by omega)) ?_
    refine gr_run (pc' := 11) 1 rfl ?_
    refine gr_ifT (t := 28) rfl (by decide) (by omega) (cI_lt (by omega)) ?_
    refine gr_run (pc' := 29) 1 rfl ?_
    exact gr_ret rfl rfl
  by_cases c4 : n ≤ a
  · refine gr_run (pc' := 2) 2 rfl ?_
    refine gr_icF (t := 28) rfl (by decide) (by omega) (by omega) (cN_lt (by omega)) ?_
    refine gr_run (pc' := 7) 2 rfl ?_
    refine gr_icF (t := 28) rfl (by decide) (by omega) (by omega) (cN_gt (by omega)) ?_
    refine gr_run (pc' := 11) 1 rfl ?_
    refine gr_ifF (t := 28) rfl (by decide) (by omega) (cN_lt (by omega)) ?_
    refine gr_run (pc' := 16) 2 rfl ?_
    refine gr_icT (t := 28) rfl (by decide) (by omega) (by omega) (cI_ge (by omega)) ?_
    refine gr_run (pc' := 29) 1 rfl ?_
    exact gr_ret rfl rfl
  by_cases c5 : b < 0
  · refine gr_run (pc' := 2) 2 rfl ?_
    refine gr_icF (t := 28) rfl (by decide) (by omega) (by omega) (cN_lt (by omega)) ?_
    refine gr_run (pc' := 7) 2 rfl ?_
    refine gr_icF (t := 28) rfl (by decide) (by omega) (by omega) (cN_gt (by omega)) ?_
    refine gr_run (pc' := 11) 1 rfl ?_
    refine gr_ifF (t := 28) rfl (by decide) (by omega) (cN_lt (by omega)) ?_
    refine gr_run (pc' := 16) 2 rfl ?_
    refine gr_icF (t := 28) rfl (by decide) (by omega) (by omega) (cN_ge (by omega)) ?_
    refine gr_run (pc' := 20) 1 rfl ?_
    refine gr_ifT (t := 28) rfl (by decide) (by omega) (cI_lt (by omega)) ?_
    refine gr_run (pc' := 29) 1 rfl ?_
    exact gr_ret rfl rfl
  · refine gr_run (pc' := 2) 2 rfl ?_
    refine gr_icF (t := 28) rfl (by decide) (by omega) (by omega) (cN_lt (by omega)) ?_
    refine gr_run (pc' := 7) 2 rfl ?_
    refine gr_icF (t := 28) rfl (by decide) (by omega) (by omega) (cN_gt (by omega)) ?_
    refine gr_run (pc' := 11) 1 rfl ?_
    refine gr_ifF (t := 28) rfl (by decide) (by omega) (cN_lt (by omega)) ?_
    refine gr_run (pc' := 16) 2 rfl ?_
    refine gr_icF (t := 28) rfl (by decide) (by omega) (by omega) (cN_ge (by omega)) ?_
    refine gr_run (pc' := 20) 1 rfl ?_
    refine gr_ifF (t := 28) rfl (by decide) (by omega) (cN_lt (by omega)) ?_
    refine gr_run (pc' := 25) 2 rfl ?_
    refine gr_icF (t := 30) rfl (by decide) (by omega) (by omega) (cN_lt (by omega)) ?_
    refine gr_run (pc' := 29) 1 rfl ?_
    exact gr_ret rfl rfl
theorem x_hands {n a b : Nat} (hX : RepX σ A) (hS : okT σ.2.1) (hn : 1 ≤ n ∧ n ≤ 5) (ha : a < n) (hb : b < n) : Rt mX6_hands (d + 2) [.ref 0, .int (iI n), .int (iI a), .int (iI b)] A (some (.int (iI ((hdN σ.2.1.1 σ.2.1.2 n a b : Nat) : Int)))) A := by
  have h0 := hX.1
  obtain ⟨p1, f, p2, p3⟩ := id hX.2.2.1
  have hP := hS.1.1
  have h9 := hS.1.2
  have hmul : ∀ k, k < σ.2.1.1 → a + n * k + n ≤ σ.2.1.1 * n + a := fun k hk => by
    have : n * (k + 1) ≤ n * σ.2.1.1 := Nat.mul_le_mul_left n hk
    rw [Nat.mul_add, Nat.mul_comm n σ.2.1.1] at this
    omega
  have hPn : σ.2.1.1 * n ≤ 50 := Nat.mul_le_mul hP.2 hn.2
  have key : ∀ k, k ≤ σ.2.1.1 → ∀ x6 : Option Value, Gr mX6_hands (d + 2) 36 [some (.ref 0), some (.int (iI n)), some (.int (iI a)), some (.int (iI b)), some (.int (iI ((sumN (fun k => if 0 < σ.2.1.2 ((a + n * k) % σ.2.1.1) ∧ (a + n * k + σ.2.1.2 ((a + n * k) % σ.2.1.1)) % n = b then 1 else 0) k : Nat) : Int))), some (.int (iI ((a + n * k : Nat) : Int))), x6] [] A (some (.int (iI ((hdN σ.2.1.1 σ.2.1.2 n a b : Nat) : Int)))) A := by
    refine go_up ?_ ?_
    · intro x6
      refine gr_run (pc' := 39) 2 rfl ?_
      refine gr_getf rfl rfl (by repeat (first | exact up_s | assumption | refine up_n (by first | assumption | decide | omega) ?_)) (by first | assumption | rfl) rfl ?_
      refine gr_callV (As := []) lk_6_94 rfl rfl (r_X2_length p1 rfl) (by repeat (first | exact up_s | assumption | refine up_n (by first | assumption | decide | omega) ?_)) (by first | assumption | exact Nat.le_of_ble_eq_true rfl | exact Nat.le_of_ble_eq_true (by assumption)) rfl rfl rfl rfl rfl ?_
      refine gr_run (pc' := 46) 1 rfl ?_
      refine gr_imul rfl ?_
      rw [show (σ.2.1.1 : Int) * (n : Int) = ((σ.2.1.1 * n : Nat) : Int) from rfl, Nat.mul_comm n σ.2.1.1]
      refine gr_icT (t := 89) rfl (by decide) (by omega) (by omega) (cI_ge (by omega)) ?_
      refine gr_run (pc' := 91) 1 rfl ?_
      exact gr_ret rfl rfl
    · intro k hk ih x6
      have hm := hmul k hk
      have hmod : (a + n * k) % σ.2.1.1 < σ.2.1.1 := Nat.mod_lt _ (by omega)
      have h9k := h9 _ hmod
      have hnext : ((a + n * k : Nat) : Int) + (n : Int) = ((a + n * (k + 1) : Nat) : Int) := by rw [Nat.mul_add]; omega
      generalize htt : a + n * k = t at *
      refine gr_run (pc' := 39) 2 rfl ?_
      refine gr_getf rfl rfl (by repeat (first | exact up_s | assumption | refine up_n (by first | assumption | decide | omega) ?_)) (by first | assumption | rfl) rfl ?_
      refine gr_callV (As := []) lk_6_94 rfl rfl (r_X2_length p1 rfl) (by repeat (first | exact up_s | assumption | refine up_n (by first | assumption | decide | omega) ?_)) (by first | assumption | exact Nat.le_of_ble_eq_true rfl | exact Nat.le_of_ble_eq_true (by assumption)) rfl rfl rfl rfl rfl ?_
      refine gr_run (pc' := 46) 1 rfl ?_
      refine gr_imul rfl ?_
      rw [show (σ.2.1.1 : Int) * (n : Int) = ((σ.2.1.1 * n : Nat) : Int) from rfl]
      refine gr_icF (t := 89) rfl (by decide) (by omega) (by omega) (cN_ge (by omega)) ?_
      refine gr_run (pc' := 51) 1 rfl ?_
      refine gr_getf rfl rfl (by repeat (first | exact up_s | assumption | refine up_n (by first | assumption | decide | omega) ?_)) (by first | assumption | rfl) rfl ?_
      refine gr_run (pc' := 56) 1 rfl ?_
      refine gr_callV (As := [_]) lk_6_95 rfl rfl (r_X2_heightAt p1 p2 rfl rfl hP p3 (by omega)) (by repeat (first | exact up_s | assumption | refine up_n (by first | assumption | decide | omega) ?_)) (by first | assumption | exact Nat.le_of_ble_eq_true rfl | exact Nat.le_of_ble_eq_true (by assumption)) rfl rfl rfl rfl rfl ?_
      rw [hg_n]
      by_cases c1 : 0 < σ.2.1.2 (t % σ.2.1.1)
      · refine gr_run (pc' := 63) 2 rfl ?_
        refine gr_ifF (t := 80) rfl (by decide) (by omega) (cN_le (by omega)) ?_
        refine gr_run (pc' := 70) 2 rfl ?_
        refine gr_iadd rfl ?_
        refine gr_run (pc' := 72) 1 rfl ?_
        refine gr_iremN rfl (by omega) (by omega) (by omega) (by omega) ?_
        rw [show ((t : Int) + (σ.2.1.2 (t % σ.2.1.1) : Int)) % (n : Int) = (((t + σ.2.1.2 (t % σ.2.1.1)) % n : Nat) : Int) from rfl]
        have hmn : (t + σ.2.1.2 (t % σ.2.1.1)) % n < n := Nat.mod_lt _ (by omega)
        generalize hww : (t + σ.2.1.2 (t % σ.2.1.1)) % n = w at *
        by_cases c2 : w = b
        · refine gr_run (pc' := 74) 1 rfl ?_
          refine gr_icF (t := 80) rfl (by decide) (by omega) (by omega) (cN_ne (by omega)) ?_
          refine gr_iinc rfl rfl rfl rfl ?_
          refine gr_run (pc' := 83) 2 rfl ?_
          refine gr_iadd rfl ?_
          rw [hnext]
          refine gr_run (pc' := 36) 2 rfl ?_
          have := ih (some (.int (iI ((σ.2.1.2 (t % σ.2.1.1) : Nat) : Int))))
          simp only [sumN, htt] at this
          rw [if_pos ⟨c1, by rw [hww]; exact c2⟩] at this
          exact this
        · refine gr_run (pc' := 74) 1 rfl ?_
          refine gr_icT (t := 80) rfl (by decide) (by omega) (by omega) (cI_ne (by omega)) ?_
          refine gr_run (pc' := 83) 2 rfl ?_
          refine gr_iadd rfl ?_
          rw [hnext]
          refine gr_run (pc' := 36) 2 rfl ?_
          have := ih (some (.int (iI ((σ.2.1.2 (t % σ.2.1.1) : Nat) : Int))))
          simp only [sumN, htt] at this
          rw [if_neg (fun q => c2 (by rw [← hww]; exact q.2))] at this
          exact this
      · refine gr_run (pc' := 63) 2 rfl ?_
        refine gr_ifT (t := 80) rfl (by decide) (by omega) (cI_le (by omega)) ?_
        refine gr_run (pc' := 83) 2 rfl ?_
        refine gr_iadd rfl ?_
        rw [hnext]
        refine gr_run (pc' := 36) 2 rfl ?_
        have := ih (some (.int (iI ((σ.2.1.2 (t % σ.2.1.1) : Nat) : Int))))
        simp only [sumN, htt] at this
        rw [if_neg (fun q => c1 q.1)] at this
        exact this
  refine rt_intro kX6_hands rfl rfl rfl ?_
  refine gr_run (pc' := 2) 2 rfl ?_
  refine gr_icF (t := 28) rfl (by decide) (by omega) (by omega) (cN_lt (by omega)) ?_
  refine gr_run (pc' := 7) 2 rfl ?_
  refine gr_icF (t := 28) rfl (by decide) (by omega) (by omega) (cN_gt (by omega)) ?_
  refine gr_run (pc' := 11) 1 rfl ?_
  refine gr_ifF (t := 28) rfl (by decide) (by omega) (cN_lt (by omega)) ?_
  refine gr_run (pc' := 16) 2 rfl ?_
  refine gr_icF (t := 28) rfl (by decide) (by omega) (by omega) (cN_ge (by omega)) ?_
  refine gr_run (pc' := 20) 1 rfl ?_
  refine gr_ifF (t := 28) rfl (by decide) (by omega) (cN_lt (by omega)) ?_
  refine gr_run (pc' := 25) 2 rfl ?_
  refine gr_icT (t := 30) rfl (by decide) (by omega) (by omega) (cI_lt (by omega)) ?_
  refine gr_run (pc' := 36) 4 rfl ?_
  exact key 0 (by omega) none
end XB
