/-! BallsInAir$Pattern -/
theorem up_same {A : AH} {b : Nat} {c : va_E} (h : A b = c) : va_up A b c = A := by
  funext k
  unfold va_up
  split
  · rename_i e; rw [e, h]
  · rfl
theorem upd_lt {f g : Nat → Int32} {i : Nat} : upd (fun j => if j < i then g j else f j) i (g i) = fun j => if j < i + 1 then g j else f j := by
  funext j
  unfold upd
  by_cases h1 : j = i
  · subst h1; simp
  · by_cases h2 : j < i
    · simp [h1, h2, show j < i + 1 by omega]
    · simp [h1, h2, show ¬ j < i + 1 by omega]
theorem max1 {k : Nat} (h : 1 ≤ k) (h2 : k ≤ 1000) : (if iI 1 < iI (k : Int) then iI (k : Int) else iI 1) = iI (k : Int) := by
  split
  · rfl
  · rename_i e
    rw [iI_lt (by omega) (by omega)] at e
    have : k = 1 := by omega
    subst this; rfl
section PA
variable {d : Nat} {A : AH} {a b n : Nat} {f : Nat → Int32} {h : Nat → Nat}
theorem r_X2_length {x : Int32} (ha : A a = Ob 2 [.ref b, .int x]) (pa : Nat.blt a NC = true) : Rt mX2_length d [.ref a] A (some (.int x)) A := by
  refine rt_intro kX2_length rfl rfl rfl ?_
  refine gr_run (pc' := 1) 1 rfl ?_
  refine gr_getf rfl rfl (by repeat (first | exact up_s | assumption | refine up_n (by first | assumption | decide | omega) ?_)) (by first | assumption | rfl) rfl ?_
  exact gr_ret rfl rfl
theorem r_X2_resize {k : Nat} {x : Int32} (ha : A a = Ob 2 [.ref b, .int x]) (pa : Nat.blt a NC = true) (hk : 1 ≤ k ∧ k ≤ 10) : Rt mX2_resize (d + 1) [.ref a, .int (iI k)] A none (va_up A a (Ob 2 [.ref b, .int (iI k)])) := by
  refine rt_intro kX2_resize rfl rfl trivial ?_
  refine gr_run (pc' := 5) 4 rfl ?_
  refine gr_mmin lk_2_19 rfl rfl ?_
  rw [if_neg (by rw [iI_lt (by omega) (by omega)]; omega)]
  refine gr_mmax lk_2_25 rfl rfl ?_
  rw [max1 hk.1 (by omega)]
  refine gr_putf rfl rfl rfl (by repeat (first | exact up_s | assumption | refine up_n (by first | assumption | decide | omega) ?_)) (by first | assumption | rfl) rfl rfl ?_
  exact gr_ret rfl rfl
theorem r_X2_hasPlaceT {z : Int} (ha : A a = Ob 2 [.ref b, .int (iI n)]) (pa : Nat.blt a NC = true) (hn : n ≤ 10) (h0 : 0 ≤ z) (h1 : z < n) : Rt mX2_hasPlace d [.ref a, .int (iI z)] A (some (.int (iI 1))) A := by
  refine rt_intro kX2_hasPlace rfl rfl rfl ?_
  refine gr_run (pc' := 1) 1 rfl ?_
  refine gr_ifF (t := 16) rfl (by decide) (by omega) (cN_lt (by omega)) ?_
  refine gr_run (pc' := 6) 2 rfl ?_
  refine gr_getf rfl rfl (by repeat (first | exact up_s | assumption | refine up_n (by first | assumption | decide | omega) ?_)) (by first | assumption | rfl) rfl ?_
  refine gr_icF (t := 16) rfl (by decide) (by omega) (by omega) (cN_ge (by omega)) ?_
  refine gr_run (pc' := 17) 2 rfl ?_
  exact gr_ret rfl rfl
theorem r_X2_hasPlaceF {z : Int} (ha : A a = Ob 2 [.ref b, .int (iI n)]) (pa : Nat.blt a NC = true) (hn : n ≤ 10) (hz : bd z) (h0 : z < 0 ∨ n ≤ z) : Rt mX2_hasPlace d [.ref a, .int (iI z)] A (some (.int (iI 0))) A := by
  refine rt_intro kX2_hasPlace rfl rfl rfl ?_
  by_cases h1 : z < 0
  · refine gr_run (pc' := 1) 1 rfl ?_
    refine gr_ifT (t := 16) rfl (by decide) (by omega) (cI_lt (by omega)) ?_
    refine gr_run (pc' := 17) 1 rfl ?_
    exact gr_ret rfl rfl
  · refine gr_run (pc' := 1) 1 rfl ?_
    refine gr_ifF (t := 16) rfl (by decide) (by omega) (cN_lt (by omega)) ?_
    refine gr_run (pc' := 6) 2 rfl ?_
    refine gr_getf rfl rfl (by repeat (first | exact up_s | assumption | refine up_n (by first | assumption | decide | omega) ?_)) (by first | assumption | rfl) rfl ?_
    refine gr_icT (t := 16) rfl (by decide) (by omega) (by omega) (cI_ge (by omega)) ?_
    refine gr_run (pc' := 17) 1 rfl ?_
    exact gr_ret rfl rfl
theorem r_X2_put {i : Nat} {x : Int32} (ha : A a = Ob 2 [.ref b, .int (iI n)]) (hb : A b = Ia 10 f) (pa : Nat.blt a NC = true) (pb : Nat.blt b NC = true) (hn : n ≤ 10) (hi : i < n) : Rt mX2_put (d + 1) [.ref a, .int (iI i), .int x] A none (va_up A b (Ia 10 (upd f i x))) := by
  refine rt_intro kX2_put rfl rfl trivial ?_
  refine gr_run (pc' := 2) 2 rfl ?_
  refine gr_callV (As := [_]) lk_2_28 rfl rfl (r_X2_hasPlaceT ha pa hn (by omega) (by omega)) (by repeat (first | exact up_s | assumption | refine up_n (by first | assumption | decide | omega) ?_)) (by first | assumption | exact Nat.le_of_ble_eq_true rfl | exact Nat.le_of_ble_eq_true (by assumption)) rfl rfl rfl rfl rfl ?_
  refine gr_ifF (t := 15) rfl (by decide) (by omega) (cN_eq (by omega)) ?_
  refine gr_run (pc' := 9) 1 rfl ?_
  refine gr_getf rfl rfl (by repeat (first | exact up_s | assumption | refine up_n (by first | assumption | decide | omega) ?_)) (by first | assumption | rfl) rfl ?_
  refine gr_run (pc' := 14) 2 rfl ?_
  refine gr_iast rfl (by repeat (first | exact up_s | assumption | refine up_n (by first | assumption | decide | omega) ?_)) (by first | assumption | rfl) (ix_i rfl (by omega) (by decide)) ?_
  exact gr_ret rfl rfl
theorem r_X2_heightAt {z : Int} (ha : A a = Ob 2 [.ref b, .int (iI n)]) (hb : A b = Ia 10 f) (pa : Nat.blt a NC = true) (pb : Nat.blt b NC = true) (hn : 1 ≤ n ∧ n ≤ 10) (hf : ∀ i, i < n → f i = iI (h i)) (hz : bd z) : Rt mX2_heightAt (d + 1) [.ref a, .int (iI z)] A (some (.int (iI (hg n h z)))) A := by
  have hm := emod_nn z hn.1
  refine rt_intro kX2_heightAt rfl rfl rfl ?_
  refine gr_run (pc' := 1) 1 rfl ?_
  refine gr_getf rfl rfl (by repeat (first | exact up_s | assumption | refine up_n (by first | assumption | decide | omega) ?_)) (by first | assumption | rfl) rfl ?_
  refine gr_run (pc' := 5) 1 rfl ?_
  refine gr_icT (t := 12) rfl (by decide) (by omega) (by omega) (cI_ge (by omega)) ?_
  refine gr_run (pc' := 13) 1 rfl ?_
  refine gr_getf rfl rfl (by repeat (first | exact up_s | assumption | refine up_n (by first | assumption | decide | omega) ?_)) (by first | assumption | rfl) rfl ?_
  refine gr_run (pc' := 18) 2 rfl ?_
  refine gr_getf rfl rfl (by repeat (first | exact up_s | assumption | refine up_n (by first | assumption | decide | omega) ?_)) (by first | assumption | rfl) rfl ?_
  refine gr_callS (As := [_, _]) lk_2_32 rfl rfl (r_floorMod hz hn.1 (by omega)) rfl rfl rfl ?_
  refine gr_iald rfl (by repeat (first | exact up_s | assumption | refine up_n (by first | assumption | decide | omega) ?_)) (by first | assumption | rfl) (ix_i (j := (z % (n : Int)).toNat) (by omega) (by omega) (by decide)) ?_
  rw [hf _ (by omega)]
  exact gr_ret rfl rfl
theorem r_X2_copy {s t k : Nat} {g : Nat → Int32} {x : Int32} (ha : A a = Ob 2 [.ref b, .int x]) (hb : A b = Ia 10 f) (hs : A s = Ob 2 [.ref t, .int (iI k)]) (ht : A t = Ia 10 g) (pa : Nat.blt a NC = true) (pb : Nat.blt b NC = true) (ps : Nat.blt s NC = true) (pt : Nat.blt t NC = true) (hk : k ≤ 10) (hne : a ≠ s) (hne2 : b ≠ t) :
    Rt mX2_copy d [.ref a, .ref s] A none (va_up (va_up A a (Ob 2 [.ref b, .int (iI k)])) b (Ia 10 (fun i => if i < k then g i else f i))) := by
  have hab : a ≠ b := by intro e; subst e; rw [ha] at hb; cases hb
  have hat : a ≠ t := by intro e; subst e; rw [ha] at ht; cases ht
  have hbs : b ≠ s := by intro e; subst e; rw [hb] at hs; cases hs
  have key : ∀ i, i ≤ k → Gr mX2_copy d 10 [some (.ref a), some (.ref s), some (.int (iI (i : Int)))] [] (va_up (va_up A a (Ob 2 [.ref b, .int (iI k)])) b (Ia 10 (fun j => if j < i then g j else f j))) none (va_up (va_up A a (Ob 2 [.ref b, .int (iI k)])) b (Ia 10 (fun j => if j < k then g j else f j))) := by
    refine go_up ?_ ?_
    · refine gr_run (pc' := 12) 2 rfl ?_
      refine gr_getf rfl rfl (by repeat (first | exact up_s | assumption | refine up_n (by first | assumption | decide | omega) ?_)) (by first | assumption | rfl) rfl ?_
      refine gr_icT (t := 36) rfl (by decide) (by omega) (by omega) (cI_ge (by omega)) ?_
      exact gr_ret rfl rfl
    · intro i hi ih
      refine gr_run (pc' := 12) 2 rfl ?_
      refine gr_getf rfl rfl (by repeat (first | exact up_s | assumption | refine up_n (by first | assumption | decide | omega) ?_)) (by first | assumption | rfl) rfl ?_
      refine gr_icF (t := 36) rfl (by decide) (by omega) (by omega) (cN_ge (by omega)) ?_
      refine gr_run (pc' := 19) 1 rfl ?_
      refine gr_getf rfl rfl (by repeat (first | exact up_s | assumption | refine up_n (by first | assumption | decide | omega) ?_)) (by first | assumption | rfl) rfl ?_
      refine gr_run (pc' := 24) 2 rfl ?_
      refine gr_getf rfl rfl (by repeat (first | exact up_s | assumption | refine up_n (by first | assumption | decide | omega) ?_)) (by first | assumption | rfl) rfl ?_
      refine gr_run (pc' := 28) 1 rfl ?_
      refine gr_iald rfl (by repeat (first | exact up_s | assumption | refine up_n (by first | assumption | decide | omega) ?_)) (by first | assumption | rfl) (ix_i rfl (by omega) (by decide)) ?_
      refine gr_iast rfl (by repeat (first | exact up_s | assumption | refine up_n (by first | assumption | decide | omega) ?_)) (by first | assumption | rfl) (ix_i rfl (by omega) (by decide)) ?_
      rw [bx_uu, upd_lt]
      refine gr_iinc rfl rfl rfl rfl ?_
      refine gr_run (pc' := 10) 1 rfl ?_
      exact ih
  refine rt_intro kX2_copy rfl rfl trivial ?_
  refine gr_run (pc' := 2) 2 rfl ?_
  refine gr_getf rfl rfl (by repeat (first | exact up_s | assumption | refine up_n (by first | assumption | decide | omega) ?_)) (by first | assumption | rfl) rfl ?_
  refine gr_putf rfl rfl rfl (by repeat (first | exact up_s | assumption | refine up_n (by first | assumption | decide | omega) ?_)) (by first | assumption | rfl) rfl rfl ?_
  refine gr_run (pc' := 10) 2 rfl ?_
  refine gr_h ?_ (key 0 (by omega))
  exact (up_same (up_n hab.symm (by simpa using hb))).symm
theorem r_X2_landing {z : Int} (ha : A a = Ob 2 [.ref b, .int (iI n)]) (hb : A b = Ia 10 f) (pa : Nat.blt a NC = true) (pb : Nat.blt b NC = true) (hh : okH n h) (hf : ∀ i, i < n → f i = iI (h i)) (hz : bd (z - 10) ∧ bd (z + 10)) : Rt mX2_landing (d + 2) [.ref a, .int (iI z)] A (some (.int (iI ((z + hg n h z) % n)))) A := by
  have hn := hh.1
  have hz1 := hg_le hh z
  refine rt_intro kX2_landing rfl rfl rfl ?_
  refine gr_run (pc' := 1) 1 rfl ?_
  refine gr_getf rfl rfl (by repeat (first | exact up_s | assumption | refine up_n (by first | assumption | decide | omega) ?_)) (by first | assumption | rfl) rfl ?_
  refine gr_run (pc' := 5) 1 rfl ?_
  refine gr_icT (t := 12) rfl (by decide) (by omega) (by omega) (cI_ge (by omega)) ?_
  refine gr_run (pc' := 15) 3 rfl ?_
  refine gr_callV (As := [_]) lk_2_35 rfl rfl (r_X2_heightAt ha hb pa pb hn hf (by omega)) (by repeat (first | exact up_s | assumption | refine up_n (by first | assumption | decide | omega) ?_)) (by first | assumption | exact Nat.le_of_ble_eq_true rfl | exact Nat.le_of_ble_eq_true (by assumption)) rfl rfl rfl rfl rfl ?_
  refine gr_iadd rfl ?_
  refine gr_run (pc' := 20) 1 rfl ?_
  refine gr_getf rfl rfl (by repeat (first | exact up_s | assumption | refine up_n (by first | assumption | decide | omega) ?_)) (by first | assumption | rfl) rfl ?_
  refine gr_callS (As := [_, _]) lk_2_32 rfl rfl (r_floorMod (by omega) hn.1 (by omega)) rfl rfl rfl ?_
  exact gr_ret rfl rfl
theorem r_X2_ballCount (ha : A a = Ob 2 [.ref b, .int (iI n)]) (hb : A b = Ia 10 f) (pa : Nat.blt a NC = true) (pb : Nat.blt b NC = true) (hh : okH n h) (hf : ∀ i, i < n → f i = iI (h i)) : Rt mX2_ballCount d [.ref a] A (some (.int (iI ((sumN h n / n : Nat) : Int)))) A := by
  have hn := hh.1
  have hs := sumN_le hh.2
  have key : ∀ i, i ≤ n → Gr mX2_ballCount d 4 [some (.ref a), some (.int (iI ((sumN h i : Nat) : Int))), some (.int (iI (i : Int)))] [] A (some (.int (iI ((sumN h n / n : Nat) : Int)))) A := by
    refine go_up ?_ ?_
    · refine gr_run (pc' := 6) 2 rfl ?_
      refine gr_getf rfl rfl (by repeat (first | exact up_s | assumption | refine up_n (by first | assumption | decide | omega) ?_)) (by first | assumption | rfl) rfl ?_
      refine gr_icT (t := 27) rfl (by decide) (by omega) (by omega) (cI_ge (by omega)) ?_
      refine gr_run (pc' := 28) 1 rfl ?_
      refine gr_getf rfl rfl (by repeat (first | exact up_s | assumption | refine up_n (by first | assumption | decide | omega) ?_)) (by first | assumption | rfl) rfl ?_
      refine gr_run (pc' := 32) 1 rfl ?_
      refine gr_icT (t := 39) rfl (by decide) (by omega) (by omega) (cI_ge (by omega)) ?_
      refine gr_run (pc' := 41) 2 rfl ?_
      refine gr_getf rfl rfl (by repeat (first | exact up_s | assumption | refine up_n (by first | assumption | decide | omega) ?_)) (by first | assumption | rfl) rfl ?_
      refine gr_idivN rfl (by omega) (by omega) (by omega) (by omega) ?_
      exact gr_ret rfl rfl
    · intro i hi ih
      refine gr_run (pc' := 6) 2 rfl ?_
      refine gr_getf rfl rfl (by repeat (first | exact up_s | assumption | refine up_n (by first | assumption | decide | omega) ?_)) (by first | assumption | rfl) rfl ?_
      refine gr_icF (t := 27) rfl (by decide) (by omega) (by omega) (cN_ge (by omega)) ?_
      refine gr_run (pc' := 14) 2 rfl ?_
      refine gr_getf rfl rfl (by repeat (first | exact up_s | assumption | refine up_n (by first | assumption | decide | omega) ?_)) (by first | assumption | rfl) rfl ?_
      refine gr_run (pc' := 18) 1 rfl ?_
      refine gr_iald rfl (by repeat (first | exact up_s | assumption | refine up_n (by first | assumption | decide | omega) ?_)) (by first | assumption | rfl) (ix_i rfl (by omega) (by decide)) ?_
      rw [hf i hi]
      refine gr_iadd rfl ?_
      refine gr_run (pc' := 21) 1 rfl ?_
      refine gr_iinc rfl rfl rfl rfl ?_
      refine gr_run (pc' := 4) 1 rfl ?_
      exact ih
  refine rt_intro kX2_ballCount rfl rfl rfl ?_
  refine gr_run (pc' := 4) 4 rfl ?_
  exact key 0 (by omega)
theorem r_X2_airAhead {z : Int} (ha : A a = Ob 2 [.ref b, .int (iI n)]) (hb : A b = Ia 10 f) (pa : Nat.blt a NC = true) (pb : Nat.blt b NC = true) (hh : okH n h) (hf : ∀ i, i < n → f i = iI (h i)) (hz : bd (z - 20) ∧ bd (z + 20)) : Rt mX2_airAhead (d + 2) [.ref a, .int (iI z)] A (some (.int (iI ((airN n h z : Nat) : Int)))) A := by
  have hn := hh.1
  have key : ∀ k, k ≤ 9 → ∀ x4 : Option Value, Gr mX2_airAhead (d + 2) 4 [some (.ref a), some (.int (iI z)), some (.int (iI ((orN (fun k => air1 (hg n h (z - ((k : Int) + 1))) (k + 1)) k : Nat) : Int))), some (.int (iI ((k : Int) + 1))), x4] [] A (some (.int (iI ((airN n h z : Nat) : Int)))) A := by
    refine go_up ?_ ?_
    · intro x4
      refine gr_run (pc' := 7) 2 rfl ?_
      refine gr_icT (t := 39) rfl (by decide) (by omega) (by omega) (cI_gt (by omega)) ?_
      refine gr_run (pc' := 40) 1 rfl ?_
      exact gr_ret rfl rfl
    · intro k hk ih x4
      have h9 := hg_le hh (z - ((k : Int) + 1))
      refine gr_run (pc' := 7) 2 rfl ?_
      refine gr_icF (t := 39) rfl (by decide) (by omega) (by omega) (cN_gt (by omega)) ?_
      refine gr_run (pc' := 13) 3 rfl ?_
      refine gr_isub rfl ?_
      refine gr_callV (As := [_]) lk_2_35 rfl rfl (r_X2_heightAt ha hb pa pb hn hf (by omega)) (by repeat (first | exact up_s | assumption | refine up_n (by first | assumption | decide | omega) ?_)) (by first | assumption | exact Nat.le_of_ble_eq_true rfl | exact Nat.le_of_ble_eq_true (by assumption)) rfl rfl rfl rfl rfl ?_
      by_cases hq : k + 1 ≤ hg n h (z - ((k : Int) + 1))
      · refine gr_run (pc' := 18) 1 rfl ?_
        refine gr_isub rfl ?_
        refine gr_run (pc' := 23) 2 rfl ?_
        refine gr_ifF (t := 33) rfl (by decide) (by omega) (cN_lt (by omega)) ?_
        refine gr_run (pc' := 28) 2 rfl ?_
        obtain ⟨q, hq2⟩ : ∃ q : Nat, q = hg n h (z - ((k : Int) + 1)) - (k + 1) := ⟨_, rfl⟩
        rw [show ((hg n h (z - ((k : Int) + 1)) : Nat) : Int) - ((k : Int) + 1) = (q : Int) by omega]
        refine gr_run (pc' := 30) 1 rfl ?_
        refine gr_ishl1 rfl (by omega) ?_
        refine gr_iorN rfl ?_
        refine gr_run (pc' := 33) 1 rfl ?_
        refine gr_iinc rfl rfl rfl rfl ?_
        refine gr_run (pc' := 4) 1 rfl ?_
        have := ih (some (.int (iI (q : Int))))
        simp only [orN, air1, if_pos hq] at this
        rw [hq2] at this ⊢
        exact this
      · refine gr_run (pc' := 18) 1 rfl ?_
        refine gr_isub rfl ?_
        refine gr_run (pc' := 23) 2 rfl ?_
        refine gr_ifT (t := 33) rfl (by decide) (by omega) (cI_lt (by omega)) ?_
        refine gr_iinc rfl rfl rfl rfl ?_
        refine gr_run (pc' := 4) 1 rfl ?_
        have := ih (some (.int (iI (((hg n h (z - ((k : Int) + 1)) : Nat) : Int) - ((k : Int) + 1)))))
        simp only [orN, air1, if_neg hq, Nat.or_zero] at this
        exact this
  refine rt_intro kX2_airAhead rfl rfl rfl ?_
  refine gr_run (pc' := 4) 4 rfl ?_
  exact key 0 (by omega) none
end PA
