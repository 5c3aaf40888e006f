/-! the model: ball -/
def baS (n : Nat) (h : Nat → Nat) : Nat → Nat × (Nat → Nat)
  | 0 => (0, fun _ => 0)
  | t + 1 => if h (t % n) = 0 then ((baS n h t).1, updN (baS n h t).2 (t % 10) 0)
    else if (baS n h t).2 (t % 10) = 0 then ((baS n h t).1 + 1, updN (updN (baS n h t).2 (t % 10) 0) ((t + h (t % n)) % 10) ((baS n h t).1 + 1))
    else ((baS n h t).1, updN (updN (baS n h t).2 (t % 10) 0) ((t + h (t % n)) % 10) ((baS n h t).2 (t % 10)))
def baN (n : Nat) (h : Nat → Nat) (t : Nat) : Int := if h (t % n) = 0 then -4 else if (baS n h t).2 (t % 10) = 0 then ((baS n h t).1 : Int) else ((baS n h t).2 (t % 10) : Int) - 1
theorem updN_le {f : Nat → Nat} {k v b : Nat} (hf : ∀ i, f i ≤ b) (hv : v ≤ b) (i : Nat) : updN f k v i ≤ b := by unfold updN; split; exact hv; exact hf i
theorem baS_le {n : Nat} {h : Nat → Nat} : ∀ t, (baS n h t).1 ≤ t ∧ ∀ i, (baS n h t).2 i ≤ t
  | 0 => ⟨Nat.le_refl _, fun _ => Nat.le_refl _⟩
  | t + 1 => by
    obtain ⟨h1, h2⟩ := baS_le (n := n) (h := h) t
    have h3 : ∀ i, (baS n h t).2 i ≤ t + 1 := fun i => Nat.le_succ_of_le (h2 i)
    simp only [baS]
    split
    · exact ⟨by simp only; omega, updN_le h3 (by omega)⟩
    · split
      · exact ⟨by simp only; omega, updN_le (updN_le h3 (by omega)) (by omega)⟩
      · exact ⟨by simp only; omega, updN_le (updN_le h3 (by omega)) (h3 _)⟩
theorem upd_N {g : Nat → Int32} {c : Nat → Nat} {j v : Nat} {x : Int32} (hg : ∀ k, k < 10 → g k = iI (c k : Int)) (hx : x = iI (v : Int)) : ∀ k, k < 10 → upd g j x k = iI (updN c j v k : Int) := by
  intro k hk
  unfold upd updN
  split
  · exact hx
  · exact hg k hk
section MB
variable {d : Nat} {A : AH} {σ : SS}
theorem m_ball {t : Nat} (hR : RepM σ A) (ho : okS σ) (ht : t ≤ 100000) : ∃ A', Rt mX7_ball (d + 1) [.ref 43, .int (iI t)] A (some (.int (iI (baN σ.2.1.1 σ.2.1.2 t)))) A' ∧ RepM σ A' ∧ offE A A' 43 56 := by
  obtain ⟨h0, h1, ⟨f, e1, e2⟩, h3, h4, h5, h6⟩ := id hR
  obtain ⟨s1, ⟨f0, e50⟩, s3⟩ := id h6
  have hn := ho.2.1.1.1
  have h9 := ho.2.1.1.2
  have hmk : ∀ g' : Nat → Int32, RepM σ (va_up A 50 (Ia 10 g')) := fun g' =>
    ⟨up_n (by decide) h0, h1.o (up_o (by decide)), ⟨f, up_n (by decide) e1, e2⟩, h3.o (up_o (by decide)), h4.o (up_o (by decide)), h5.o (up_o (by decide)),
      by
        obtain ⟨⟨a, ha⟩, ⟨b, hb⟩, ⟨c, hc⟩, ⟨d', hd⟩, ⟨f', hf⟩, ⟨g, hg⟩, ⟨i, hi⟩, ⟨j, hj⟩⟩ := h6
        exact ⟨⟨a, up_n (by decide) ha⟩, ⟨g', up_s⟩, ⟨c, up_n (by decide) hc⟩, ⟨d', up_n (by decide) hd⟩, ⟨f', up_n (by decide) hf⟩, ⟨g, up_n (by decide) hg⟩, ⟨i, up_n (by decide) hi⟩, ⟨j, up_n (by decide) hj⟩⟩⟩
  have htn : t % σ.2.1.1 < σ.2.1.1 := Nat.mod_lt _ (by omega)
  by_cases hz : σ.2.1.2 (t % σ.2.1.1) = 0
  · refine ⟨A, ?_, hR, offE.rf⟩
    rw [show baN σ.2.1.1 σ.2.1.2 t = -4 from if_pos hz]
    refine rt_intro kX7_ball rfl rfl rfl ?_
    refine gr_run (pc' := 1) 1 rfl ?_
    refine gr_i2l rfl (by omega) ?_
    refine gr_run (pc' := 6) 2 rfl ?_
    refine gr_callS (As := [_, _, _]) lk_7_61 rfl rfl (r_isT (by omega) (by omega) (by omega) (by omega) (by omega)) rfl rfl rfl ?_
    refine gr_ifT (t := 14) rfl (by decide) (by omega) (cI_ne (by omega)) ?_
    refine gr_run (pc' := 15) 1 rfl ?_
    refine gr_getf rfl rfl (by repeat (first | exact up_s | assumption | refine up_n (by first | assumption | decide | omega) ?_)) (by first | assumption | rfl) rfl ?_
    refine gr_run (pc' := 20) 2 rfl ?_
    refine gr_getf rfl rfl (by repeat (first | exact up_s | assumption | refine up_n (by first | assumption | decide | omega) ?_)) (by first | assumption | rfl) rfl ?_
    refine gr_iremN rfl (by omega) (by omega) (by omega) (by omega) ?_
    refine gr_iald rfl (by repeat (first | exact up_s | assumption | refine up_n (by first | assumption | decide | omega) ?_)) (by first | assumption | rfl) (ix_i (j := t % σ.2.1.1) rfl (by omega) (by decide)) ?_
    rw [e2 _ htn, hz]
    refine gr_ifF (t := 31) rfl (by decide) (by omega) (cN_ne (by omega)) ?_
    refine gr_run (pc' := 30) 1 rfl ?_
    exact gr_ret rfl rfl
  · have loop : ∀ (m i : Nat) (g : Nat → Int32) (x4 x5 : Option Value), i + m = t → (∀ k, k < 10 → g k = iI ((baS σ.2.1.1 σ.2.1.2 i).2 k : Int)) → ∃ g' : Nat → Int32, Gr mX7_ball (d + 1) 56 [some (.ref 43), some (.int (iI (t : Int))), some (.int (iI ((baS σ.2.1.1 σ.2.1.2 i).1 : Int))), some (.int (iI (i : Int))), x4, x5] [] (va_up A 50 (Ia 10 g)) (some (.int (iI (baN σ.2.1.1 σ.2.1.2 t)))) (va_up A 50 (Ia 10 g')) := by
      intro m
      induction m with
      | zero =>
        intro i g x4 x5 hi hg
        have e : i = t := by omega
        subst e
        obtain ⟨b1, b2⟩ := baS_le (n := σ.2.1.1) (h := σ.2.1.2) i
        have b3 := b2 (i % 10)
        refine ⟨g, ?_⟩
        have hv : baN σ.2.1.1 σ.2.1.2 i = _ := if_neg hz
        rw [hv]
        by_cases hc : (baS σ.2.1.1 σ.2.1.2 i).2 (i % 10) = 0
        · rw [if_pos hc]
          refine gr_run (pc' := 58) 2 rfl ?_
          refine gr_icT (t := 142) rfl (by decide) (by omega) (by omega) (cI_ge (by omega)) ?_
          refine gr_run (pc' := 143) 1 rfl ?_
          refine gr_getf rfl rfl (by repeat (first | exact up_s | assumption | refine up_n (by first | assumption | decide | omega) ?_)) (by first | assumption | rfl) rfl ?_
          refine gr_run (pc' := 149) 2 rfl ?_
          refine gr_iremN rfl (by omega) (by omega) (by omega) (by omega) ?_
          refine gr_iald rfl (by repeat (first | exact up_s | assumption | refine up_n (by first | assumption | decide | omega) ?_)) (by first | assumption | rfl) (ix_i (j := i % 10) (by omega) (by omega) (by decide)) ?_
          rw [hg _ (by omega), hc]
          refine gr_ifF (t := 158) rfl (by decide) (by omega) (cN_ne (by omega)) ?_
          refine gr_run (pc' := 169) 2 rfl ?_
          exact gr_ret rfl rfl
        · rw [if_neg hc]
          refine gr_run (pc' := 58) 2 rfl ?_
          refine gr_icT (t := 142) rfl (by decide) (by omega) (by omega) (cI_ge (by omega)) ?_
          refine gr_run (pc' := 143) 1 rfl ?_
          refine gr_getf rfl rfl (by repeat (first | exact up_s | assumption | refine up_n (by first | assumption | decide | omega) ?_)) (by first | assumption | rfl) rfl ?_
          refine gr_run (pc' := 149) 2 rfl ?_
          refine gr_iremN rfl (by omega) (by omega) (by omega) (by omega) ?_
          refine gr_iald rfl (by repeat (first | exact up_s | assumption | refine up_n (by first | assumption | decide | omega) ?_)) (by first | assumption | rfl) (ix_i (j := i % 10) (by omega) (by omega) (by decide)) ?_
          rw [hg _ (by omega)]
          refine gr_ifT (t := 158) rfl (by decide) (by omega) (cI_ne (by omega)) ?_
          refine gr_run (pc' := 159) 1 rfl ?_
          refine gr_getf rfl rfl (by repeat (first | exact up_s | assumption | refine up_n (by first | assumption | decide | omega) ?_)) (by first | assumption | rfl) rfl ?_
          refine gr_run (pc' := 165) 2 rfl ?_
          refine gr_iremN rfl (by omega) (by omega) (by omega) (by omega) ?_
          refine gr_iald rfl (by repeat (first | exact up_s | assumption | refine up_n (by first | assumption | decide | omega) ?_)) (by first | assumption | rfl) (ix_i (j := i % 10) (by omega) (by omega) (by decide)) ?_
          rw [hg _ (by omega)]
          refine gr_run (pc' := 168) 1 rfl ?_
          refine gr_isub rfl ?_
          exact gr_ret rfl rfl
      | succ m ih =>
        intro i g x4 x5 hi hg
        obtain ⟨b1, b2⟩ := baS_le (n := σ.2.1.1) (h := σ.2.1.2) i
        have b3 := b2 (i % 10)
        have hin : i % σ.2.1.1 < σ.2.1.1 := Nat.mod_lt _ (by omega)
        have hi9 := h9 (i % σ.2.1.1) hin
        by_cases hc : σ.2.1.2 (i % σ.2.1.1) = 0
        · have es : baS σ.2.1.1 σ.2.1.2 (i + 1) = _ := if_pos hc
          have := ih (i + 1) (upd g (i % 10) (iI 0)) (some (.int (iI (σ.2.1.2 (i % σ.2.1.1) : Int)))) (some (.int (iI ((baS σ.2.1.1 σ.2.1.2 i).2 (i % 10) : Int)))) (by omega) (by rw [es]; exact upd_N (v := 0) hg rfl)
          obtain ⟨g', r⟩ := this
          rw [es] at r
          refine ⟨g', ?_⟩
          refine gr_run (pc' := 58) 2 rfl ?_
          refine gr_icF (t := 142) rfl (by decide) (by omega) (by omega) (cN_ge (by omega)) ?_
          refine gr_run (pc' := 62) 1 rfl ?_
          refine gr_getf rfl rfl (by repeat (first | exact up_s | assumption | refine up_n (by first | assumption | decide | omega) ?_)) (by first | assumption | rfl) rfl ?_
          refine gr_run (pc' := 67) 2 rfl ?_
          refine gr_getf rfl rfl (by repeat (first | exact up_s | assumption | refine up_n (by first | assumption | decide | omega) ?_)) (by first | assumption | rfl) rfl ?_
          refine gr_iremN rfl (by omega) (by omega) (by omega) (by omega) ?_
          refine gr_iald rfl (by repeat (first | exact up_s | assumption | refine up_n (by first | assumption | decide | omega) ?_)) rfl (ix_i (j := i % σ.2.1.1) rfl (by omega) (by decide)) ?_
          rw [e2 _ hin]
          refine gr_run (pc' := 75) 2 rfl ?_
          refine gr_getf rfl rfl (by repeat (first | exact up_s | assumption | refine up_n (by first | assumption | decide | omega) ?_)) (by first | assumption | rfl) rfl ?_
          refine gr_run (pc' := 81) 2 rfl ?_
          refine gr_iremN rfl (by omega) (by omega) (by omega) (by omega) ?_
          refine gr_iald rfl (by repeat (first | exact up_s | assumption | refine up_n (by first | assumption | decide | omega) ?_)) (by first | assumption | rfl) (ix_i (j := i % 10) (by omega) (by omega) (by decide)) ?_
          rw [hg _ (by omega)]
          refine gr_run (pc' := 86) 2 rfl ?_
          refine gr_getf rfl rfl (by repeat (first | exact up_s | assumption | refine up_n (by first | assumption | decide | omega) ?_)) (by first | assumption | rfl) rfl ?_
          refine gr_run (pc' := 92) 2 rfl ?_
          refine gr_iremN rfl (by omega) (by omega) (by omega) (by omega) ?_
          refine gr_run (pc' := 94) 1 rfl ?_
          refine gr_iast rfl (by repeat (first | exact up_s | assumption | refine up_n (by first | assumption | decide | omega) ?_)) (by first | assumption | rfl) (ix_i (j := i % 10) (by omega) (by omega) (by decide)) ?_
          rw [bx_uu]
          refine gr_run (pc' := 97) 1 rfl ?_
          refine gr_ifT (t := 136) rfl (by decide) (by omega) (cI_le (by omega)) ?_
          refine gr_iinc rfl rfl rfl rfl ?_
          refine gr_run (pc' := 56) 1 rfl ?_
          exact r
        · by_cases hw : (baS σ.2.1.1 σ.2.1.2 i).2 (i % 10) = 0
          · have es : baS σ.2.1.1 σ.2.1.2 (i + 1) = _ := (if_neg hc).trans (if_pos hw)
            have := ih (i + 1) (upd (upd g (i % 10) (iI 0)) ((i + σ.2.1.2 (i % σ.2.1.1)) % 10) (iI (((baS σ.2.1.1 σ.2.1.2 i).1 : Int) + 1))) (some (.int (iI (σ.2.1.2 (i % σ.2.1.1) : Int)))) (some (.int (iI ((baS σ.2.1.1 σ.2.1.2 i).2 (i % 10) : Int)))) (by omega) (by rw [es]; exact upd_N (upd_N (v := 0) hg rfl) rfl)
            obtain ⟨g', r⟩ := this
            rw [es] at r
            refine ⟨g', ?_⟩
            refine gr_run (pc' := 58) 2 rfl ?_
            refine gr_icF (t := 142) rfl (by decide) (by omega) (by omega) (cN_ge (by omega)) ?_
            refine gr_run (pc' := 62) 1 rfl ?_
            refine gr_getf rfl rfl (by repeat (first | exact up_s | assumption | refine up_n (by first | assumption | decide | omega) ?_)) (by first | assumption | rfl) rfl ?_
            refine gr_run (pc' := 67) 2 rfl ?_
            refine gr_getf rfl rfl (by repeat (first | exact up_s | assumption | refine up_n (by first | assumption | decide | omega) ?_)) (by first | assumption | rfl) rfl ?_
            refine gr_iremN rfl (by omega) (by omega) (by omega) (by omega) ?_
            refine gr_iald rfl (by repeat (first | exact up_s | assumption | refine up_n (by first | assumption | decide | omega) ?_)) rfl (ix_i (j := i % σ.2.1.1) rfl (by omega) (by decide)) ?_
            rw [e2 _ hin]
            refine gr_run (pc' := 75) 2 rfl ?_
            refine gr_getf rfl rfl (by repeat (first | exact up_s | assumption | refine up_n (by first | assumption | decide | omega) ?_)) (by first | assumption | rfl) rfl ?_
            refine gr_run (pc' := 81) 2 rfl ?_
            refine gr_iremN rfl (by omega) (by omega) (by omega) (by omega) ?_
            refine gr_iald rfl (by repeat (first | exact up_s | assumption | refine up_n (by first | assumption | decide | omega) ?_)) (by first | assumption | rfl) (ix_i (j := i % 10) (by omega) (by omega) (by decide)) ?_
            rw [hg _ (by omega)]
            refine gr_run (pc' := 86) 2 rfl ?_
            refine gr_getf rfl rfl (by repeat (first | exact up_s | assumption | refine up_n (by first | assumption | decide | omega) ?_)) (by first | assumption | rfl) rfl ?_
            refine gr_run (pc' := 92) 2 rfl ?_
            refine gr_iremN rfl (by omega) (by omega) (by omega) (by omega) ?_
            refine gr_run (pc' := 94) 1 rfl ?_
            refine gr_iast rfl (by repeat (first | exact up_s | assumption | refine up_n (by first | assumption | decide | omega) ?_)) (by first | assumption | rfl) (ix_i (j := i % 10) (by omega) (by omega) (by decide)) ?_
            rw [bx_uu]
            refine gr_run (pc' := 97) 1 rfl ?_
            refine gr_ifF (t := 136) rfl (by decide) (by omega) (cN_le (by omega)) ?_
            refine gr_run (pc' := 103) 2 rfl ?_
            refine gr_ifF (t := 110) rfl (by decide) (by omega) (cN_ne (by omega)) ?_
            refine gr_run (pc' := 111) 2 rfl ?_
            refine gr_iadd rfl ?_
            refine gr_run (pc' := 114) 2 rfl ?_
            refine gr_getf rfl rfl (by repeat (first | exact up_s | assumption | refine up_n (by first | assumption | decide | omega) ?_)) (by first | assumption | rfl) rfl ?_
            refine gr_run (pc' := 120) 2 rfl ?_
            refine gr_iadd rfl ?_
            refine gr_run (pc' := 123) 1 rfl ?_
            refine gr_iremN rfl (by omega) (by omega) (by omega) (by omega) ?_
            refine gr_run (pc' := 126) 1 rfl ?_
            refine gr_ifF (t := 133) rfl (by decide) (by omega) (cN_ne (by omega)) ?_
            refine gr_run (pc' := 135) 2 rfl ?_
            refine gr_iast rfl (by repeat (first | exact up_s | assumption | refine up_n (by first | assumption | decide | omega) ?_)) (by first | assumption | rfl) (ix_i (j := (i + σ.2.1.2 (i % σ.2.1.1)) % 10) (by omega) (by omega) (by decide)) ?_
            rw [bx_uu]
            refine gr_iinc rfl rfl rfl rfl ?_
            refine gr_run (pc' := 56) 1 rfl ?_
            exact r
          · have es : baS σ.2.1.1 σ.2.1.2 (i + 1) = _ := (if_neg hc).trans (if_neg hw)
            have := ih (i + 1) (upd (upd g (i % 10) (iI 0)) ((i + σ.2.1.2 (i % σ.2.1.1)) % 10) (iI ((baS σ.2.1.1 σ.2.1.2 i).2 (i % 10) : Int))) (some (.int (iI (σ.2.1.2 (i % σ.2.1.1) : Int)))) (some (.int (iI ((baS σ.2.1.1 σ.2.1.2 i).2 (i % 10) : Int)))) (by omega) (by rw [es]; exact upd_N (upd_N (v := 0) hg rfl) rfl)
            obtain ⟨g', r⟩ := this
            rw [es] at r
            refine ⟨g', ?_⟩
            refine gr_run (pc' := 58) 2 rfl ?_
            refine gr_icF (t := 142) rfl (by decide) (by omega) (by omega) (cN_ge (by omega)) ?_
            refine gr_run (pc' := 62) 1 rfl ?_
            refine gr_getf rfl rfl (by repeat (first | exact up_s | assumption | refine up_n (by first | assumption | decide | omega) ?_)) (by first | assumption | rfl) rfl ?_
            refine gr_run (pc' := 67) 2 rfl ?_
            refine gr_getf rfl rfl (by repeat (first | exact up_s | assumption | refine up_n (by first | assumption | decide | omega) ?_)) (by first | assumption | rfl) rfl ?_
            refine gr_iremN rfl (by omega) (by omega) (by omega) (by omega) ?_
            refine gr_iald rfl (by repeat (first | exact up_s | assumption | refine up_n (by first | assumption | decide | omega) ?_)) rfl (ix_i (j := i % σ.2.1.1) rfl (by omega) (by decide)) ?_
            rw [e2 _ hin]
            refine gr_run (pc' := 75) 2 rfl ?_
            refine gr_getf rfl rfl (by repeat (first | exact up_s | assumption | refine up_n (by first | assumption | decide | omega) ?_)) (by first | assumption | rfl) rfl ?_
            refine gr_run (pc' := 81) 2 rfl ?_
            refine gr_iremN rfl (by omega) (by omega) (by omega) (by omega) ?_
            refine gr_iald rfl (by repeat (first | exact up_s | assumption | refine up_n (by first | assumption | decide | omega) ?_)) (by first | assumption | rfl) (ix_i (j := i % 10) (by omega) (by omega) (by decide)) ?_
            rw [hg _ (by omega)]
            refine gr_run (pc' := 86) 2 rfl ?_
            refine gr_getf rfl rfl (by repeat (first | exact up_s | assumption | refine up_n (by first | assumption | decide | omega) ?_)) (by first | assumption | rfl) rfl ?_
            refine gr_run (pc' := 92) 2 rfl ?_
            refine gr_iremN rfl (by omega) (by omega) (by omega) (by omega) ?_
            refine gr_run (pc' := 94) 1 rfl ?_
            refine gr_iast rfl (by repeat (first | exact up_s | assumption | refine up_n (by first | assumption | decide | omega) ?_)) (by first | assumption | rfl) (ix_i (j := i % 10) (by omega) (by omega) (by decide)) ?_
            rw [bx_uu]
            refine gr_run (pc' := 97) 1 rfl ?_
            refine gr_ifF (t := 136) rfl (by decide) (by omega) (cN_le (by omega)) ?_
            refine gr_run (pc' := 103) 2 rfl ?_
            refine gr_ifT (t := 110) rfl (by decide) (by omega) (cI_ne (by omega)) ?_
            refine gr_run (pc' := 111) 1 rfl ?_
            refine gr_iadd rfl ?_
            rw [Int.add_zero]
            refine gr_run (pc' := 114) 2 rfl ?_
            refine gr_getf rfl rfl (by repeat (first | exact up_s | assumption | refine up_n (by first | assumption | decide | omega) ?_)) (by first | assumption | rfl) rfl ?_
            refine gr_run (pc' := 120) 2 rfl ?_
            refine gr_iadd rfl ?_
            refine gr_run (pc' := 123) 1 rfl ?_
            refine gr_iremN rfl (by omega) (by omega) (by omega) (by omega) ?_
            refine gr_run (pc' := 126) 1 rfl ?_
            refine gr_ifT (t := 133) rfl (by decide) (by omega) (cI_ne (by omega)) ?_
            refine gr_run (pc' := 135) 1 rfl ?_
            refine gr_iast rfl (by repeat (first | exact up_s | assumption | refine up_n (by first | assumption | decide | omega) ?_)) (by first | assumption | rfl) (ix_i (j := (i + σ.2.1.2 (i % σ.2.1.1)) % 10) (by omega) (by omega) (by decide)) ?_
            rw [bx_uu]
            refine gr_iinc rfl rfl rfl rfl ?_
            refine gr_run (pc' := 56) 1 rfl ?_
            exact r
    have zero : ∀ (m k : Nat) (g : Nat → Int32), k + m = 10 → (∀ j, j < k → g j = iI 0) → ∃ g' : Nat → Int32, Gr mX7_ball (d + 1) 33 [some (.ref 43), some (.int (iI (t : Int))), some (.int (iI (k : Int))), none, none, none] [] (va_up A 50 (Ia 10 g)) (some (.int (iI (baN σ.2.1.1 σ.2.1.2 t)))) (va_up A 50 (Ia 10 g')) := by
      intro m
      induction m with
      | zero =>
        intro k g hk hg
        obtain ⟨g', r⟩ := loop t 0 g none none (by omega) (fun j hj => hg j (by omega))
        refine ⟨g', ?_⟩
        refine gr_run (pc' := 36) 2 rfl ?_
        refine gr_icT (t := 52) rfl (by decide) (by omega) (by omega) (cI_ge (by omega)) ?_
        refine gr_run (pc' := 56) 4 rfl ?_
        exact r
      | succ m ih =>
        intro k g hk hg
        obtain ⟨g', r⟩ := ih (k + 1) (upd g k (iI 0)) (by omega) (fun j hj => by
          unfold upd
          split
          · rfl
          · exact hg j (by omega))
        refine ⟨g', ?_⟩
        refine gr_run (pc' := 36) 2 rfl ?_
        refine gr_icF (t := 52) rfl (by decide) (by omega) (by omega) (cN_ge (by omega)) ?_
        refine gr_run (pc' := 40) 1 rfl ?_
        refine gr_getf rfl rfl (by repeat (first | exact up_s | assumption | refine up_n (by first | assumption | decide | omega) ?_)) (by first | assumption | rfl) rfl ?_
        refine gr_run (pc' := 45) 2 rfl ?_
        refine gr_iast rfl (by repeat (first | exact up_s | assumption | refine up_n (by first | assumption | decide | omega) ?_)) (by first | assumption | rfl) (ix_i rfl (by omega) (by decide)) ?_
        rw [bx_uu]
        refine gr_iinc rfl rfl rfl rfl ?_
        refine gr_run (pc' := 33) 1 rfl ?_
        exact r
    obtain ⟨g', r⟩ := zero 10 0 f0 (by omega) (fun j hj => by omega)
    refine ⟨_, ?_, hmk g', offE.rf.up (by omega)⟩
    rw [up_same e50] at r
    have ht9 := h9 _ htn
    refine rt_intro kX7_ball rfl rfl rfl ?_
    refine gr_run (pc' := 1) 1 rfl ?_
    refine gr_i2l rfl (by omega) ?_
    refine gr_run (pc' := 6) 2 rfl ?_
    refine gr_callS (As := [_, _, _]) lk_7_61 rfl rfl (r_isT (by omega) (by omega) (by omega) (by omega) (by omega)) rfl rfl rfl ?_
    refine gr_ifT (t := 14) rfl (by decide) (by omega) (cI_ne (by omega)) ?_
    refine gr_run (pc' := 15) 1 rfl ?_
    refine gr_getf rfl rfl (by repeat (first | exact up_s | assumption | refine up_n (by first | assumption | decide | omega) ?_)) (by first | assumption | rfl) rfl ?_
    refine gr_run (pc' := 20) 2 rfl ?_
    refine gr_getf rfl rfl (by repeat (first | exact up_s | assumption | refine up_n (by first | assumption | decide | omega) ?_)) (by first | assumption | rfl) rfl ?_
    refine gr_iremN rfl (by omega) (by omega) (by omega) (by omega) ?_
    refine gr_iald rfl (by repeat (first | exact up_s | assumption | refine up_n (by first | assumption | decide | omega) ?_)) (by first | assumption | rfl) (ix_i (j := t % σ.2.1.1) rfl (by omega) (by decide)) ?_
    rw [e2 _ htn]
    refine gr_ifT (t := 31) rfl (by decide) (by omega) (cI_ne (by omega)) ?_
    refine gr_run (pc' := 33) 2 rfl ?_
    exact r
theorem m_ballB {z : Int} (hz : bd z) (hc : ¬ (0 ≤ z ∧ z ≤ 100000)) : Rt mX7_ball (d + 1) [.ref 43, .int (iI z)] A (some (.int (iI (-1)))) A := by
  refine rt_intro kX7_ball rfl rfl rfl ?_
  refine gr_run (pc' := 1) 1 rfl ?_
  refine gr_i2l rfl (by omega) ?_
  refine gr_run (pc' := 6) 2 rfl ?_
  refine gr_callS (As := [_, _, _]) lk_7_61 rfl rfl (r_isF (by omega) (by omega) (by omega) (by omega)) rfl rfl rfl ?_
  refine gr_ifF (t := 14) rfl (by decide) (by omega) (cN_ne (by omega)) ?_
  refine gr_run (pc' := 13) 1 rfl ?_
  exact gr_ret rfl rfl
end MB
