/-! the model: measures, way -/
theorem scr_52 {A : AH} (h : scrA A) (g : Nat → Int32) : scrA (va_up A 52 (Ia 512 g)) := by
  obtain ⟨⟨a, ha⟩, ⟨b, hb⟩, ⟨c, hc⟩, ⟨d', hd⟩, ⟨f', hf⟩, ⟨g', hg⟩, ⟨i, hi⟩, ⟨j, hj⟩⟩ := h
  exact ⟨⟨a, up_n (by decide) ha⟩, ⟨b, up_n (by decide) hb⟩, ⟨c, up_n (by decide) hc⟩, ⟨g, up_s⟩, ⟨f', up_n (by decide) hf⟩, ⟨g', up_n (by decide) hg⟩, ⟨i, up_n (by decide) hi⟩, ⟨j, up_n (by decide) hj⟩⟩
theorem RepM.u52 {σ : SS} {A : AH} (hR : RepM σ A) (g : Nat → Int32) : RepM σ (va_up A 52 (Ia 512 g)) := hR.s (scr_52 hR.2.2.2.2.2.2 g) (fun j hj => up_o (by omega))
section MB
variable {d : Nat} {A : AH} {σ : SS}
theorem m_measures {e : Nat} (hR : RepM σ A) (he : e < 512) : ∃ g' : Nat → Int32, Rt mX7_measures (d + 1) [.ref 43, .int (iI e)] A none (va_up A 52 (Ia 512 g')) ∧ ∀ a, a < 512 → g' a = iI (dsF e a) := by
  obtain ⟨h0, -, -, -, -, -, s1, s2, s3, ⟨f0, e52⟩, -⟩ := id hR
  have fin : ∀ (n : Nat) (g : Nat → Int32) (x4 x5 x6 : Option Value), n ≤ 1000 → (∀ a, a < 512 → g a = iI (dsF e a)) →
      ∃ g' : Nat → Int32, Gr mX7_measures (d + 1) 36 [some (.ref 43), some (.int (iI e)), some (.int (iI 0)), some (.int (iI (n : Int))), x4, x5, x6] [] (va_up A 52 (Ia 512 g)) none (va_up A 52 (Ia 512 g')) ∧ ∀ a, a < 512 → g' a = iI (dsF e a) := by
    intro n g x4 x5 x6 hn hg
    refine ⟨g, ?_, hg⟩
    refine gr_run (pc' := 37) 1 rfl ?_
    refine gr_ifT (t := 132) rfl (by decide) (by omega) (cI_eq (by omega)) ?_
    exact gr_ret rfl rfl
  have main : ∀ (f n : Nat) (g : Nat → Int32) (x4 x5 x6 : Option Value), n + f = 512 → (∀ a, a < 512 → g a = iI (frN e n a)) →
      ∃ g' : Nat → Int32, Gr mX7_measures (d + 1) 36 [some (.ref 43), some (.int (iI e)), some (.int (iI 1)), some (.int (iI (n : Int))), x4, x5, x6] [] (va_up A 52 (Ia 512 g)) none (va_up A 52 (Ia 512 g')) ∧ ∀ a, a < 512 → g' a = iI (dsF e a) := by
    intro f
    induction f using Nat.strongRecOn with
    | _ f IH =>
      intro n g x4 x5 x6 hnf hg
      have pass : ∀ (k a v : Nat) (g : Nat → Int32) (x5 x6 : Option Value), a + k = 512 → v ≤ 1 → (v = 0 → ∀ i, i < a → frN e (n + 1) i = frN e n i) → (v = 1 → ∃ i, i < 512 ∧ frN e (n + 1) i = (n : Int) + 1) → (∀ i, i < a → g i = iI (frN e (n + 1) i)) → (∀ i, a ≤ i → i < 512 → g i = iI (frN e n i)) →
          ∃ g' : Nat → Int32, Gr mX7_measures (d + 1) 45 [some (.ref 43), some (.int (iI e)), some (.int (iI (v : Int))), some (.int (iI (n : Int))), some (.int (iI (a : Int))), x5, x6] [] (va_up A 52 (Ia 512 g)) none (va_up A 52 (Ia 512 g')) ∧ ∀ a, a < 512 → g' a = iI (dsF e a) := by
        intro k
        induction k with
        | zero =>
          intro a v g x5 x6 ha hv v0 v1 g1 g2
          by_cases c : v = 0
          · subst c
            have hall := fr_all (e := e) (n := n) (fun i hi => v0 rfl i (by omega))
            obtain ⟨g', r, r2⟩ := fin (n + 1) g (some (.int (iI (a : Int)))) x5 x6 (by omega) (fun i hi => by rw [g1 i (by omega), v0 rfl i (by omega), hall i hi])
            refine ⟨g', ?_, r2⟩
            refine gr_run (pc' := 50) 2 rfl ?_
            refine gr_icT (t := 126) rfl (by decide) (by omega) (by omega) (cI_ge (by omega)) ?_
            refine gr_iinc rfl rfl rfl rfl ?_
            refine gr_run (pc' := 36) 1 rfl ?_
            exact r
          · have hv1 : v = 1 := by omega
            subst hv1
            obtain ⟨i, hi, hfi⟩ := v1 rfl
            have hb := frN_bd (e := e) (n := n + 1) (a := i) he
            obtain ⟨g', r, r2⟩ := IH (f - 1) (by omega) (n + 1) g (some (.int (iI (a : Int)))) x5 x6 (by omega) (fun i hi => g1 i (by omega))
            refine ⟨g', ?_, r2⟩
            refine gr_run (pc' := 50) 2 rfl ?_
            refine gr_icT (t := 126) rfl (by decide) (by omega) (by omega) (cI_ge (by omega)) ?_
            refine gr_iinc rfl rfl rfl rfl ?_
            refine gr_run (pc' := 36) 1 rfl ?_
            exact r
        | succ k ih =>
          intro a v g x5 x6 ha hv v0 v1 g1 g2
          have gb := frN_bd (e := e) (n := n) (a := a) he
          by_cases c4 : frN e n a = -4
          · -- a search among the throws
            have look : ∀ (m h : Nat) (x6 : Option Value), h + m = 10 → (∀ x c : Nat, x < h → bhN a x = (c : Int) → dsF e c ≠ (n : Int)) →
                ∃ g' : Nat → Int32, Gr mX7_measures (d + 1) 56 [some (.ref 43), some (.int (iI e)), some (.int (iI (v : Int))), some (.int (iI (n : Int))), some (.int (iI (a : Int))), some (.int (iI (h : Int))), x6] [] (va_up A 52 (Ia 512 g)) none (va_up A 52 (Ia 512 g')) ∧ ∀ a, a < 512 → g' a = iI (dsF e a) := by
              intro m
              induction m with
              | zero =>
                intro h x6 hh hno
                have h10 : h = 10 := by omega
                subst h10
                have hnx : frN e (n + 1) a = -4 := by
                  rcases fr_next (e := e) (n := n) (by omega) c4 with q | q
                  · obtain ⟨c, q1, q2⟩ := q.2
                    obtain ⟨x, q3, q4⟩ := stp_bhN q1
                    exact absurd q2 (hno x c (by omega) q4)
                  · exact q.1
                obtain ⟨g', r, r2⟩ := ih (a + 1) v g (some (.int (iI (10 : Int)))) x6 (by omega) hv (fun z i hi => by
                  by_cases ei : i = a
                  · rw [ei, hnx, c4]
                  · exact v0 z i (by omega)) v1 (fun i hi => by
                  by_cases ei : i = a
                  · rw [ei, g2 a (by omega) (by omega), hnx, c4]
                  · exact g1 i (by omega)) (fun i a1 a2 => g2 i (by omega) a2)
                refine ⟨g', ?_, r2⟩
                refine gr_run (pc' := 60) 2 rfl ?_
                refine gr_icT (t := 120) rfl (by decide) (by omega) (by omega) (cI_gt (by omega)) ?_
                refine gr_iinc rfl rfl rfl rfl ?_
                refine gr_run (pc' := 45) 1 rfl ?_
                exact r
              | succ m ih2 =>
                intro h x6 hh hno
                have hga : g a = iI (-4) := by rw [g2 a (by omega) (by omega), c4]
                rcases bhN_lt (a := a) (x := h) (by omega) (by omega) with q | q
                · obtain ⟨g', r, r2⟩ := ih2 (h + 1) (some (.int (iI (-4)))) (by omega) (fun x c hx hc => by
                    by_cases ex : x = h
                    · rw [ex] at hc; omega
                    · exact hno x c (by omega) hc)
                  refine ⟨g', ?_, r2⟩
                  refine gr_run (pc' := 60) 2 rfl ?_
                  refine gr_icF (t := 120) rfl (by decide) (by omega) (by omega) (cN_gt (by omega)) ?_
                  refine gr_run (pc' := 64) 1 rfl ?_
                  refine gr_getf rfl rfl (by repeat (first | exact up_s | assumption | refine up_n (by first | assumption | decide | omega) ?_)) (by first | assumption | rfl) rfl ?_
                  refine gr_run (pc' := 69) 1 rfl ?_
                  refine gr_iald rfl (by repeat (first | exact up_s | assumption | refine up_n (by first | assumption | decide | omega) ?_)) (by first | assumption | rfl) (ix_i rfl (by omega) (by decide)) ?_
                  rw [hga]
                  refine gr_run (pc' := 72) 1 rfl ?_
                  refine gr_icF (t := 120) rfl (by decide) (by omega) (by omega) (cN_ne (by omega)) ?_
                  refine gr_run (pc' := 79) 2 rfl ?_
                  refine gr_callS (As := [_, _]) lk_7_164 rfl rfl (r_behind (by omega) (by omega)) rfl rfl rfl ?_
                  rw [q]
                  refine gr_run (pc' := 88) 3 rfl ?_
                  refine gr_icT (t := 114) rfl (by decide) (by omega) (by omega) (cI_eq (by omega)) ?_
                  refine gr_iinc rfl rfl rfl rfl ?_
                  refine gr_run (pc' := 56) 1 rfl ?_
                  exact r
                · obtain ⟨c, hc⟩ : ∃ c : Nat, bhN a h = (c : Int) := ⟨(bhN a h).toNat, by omega⟩
                  have hc512 : c < 512 := by omega
                  have hgc : g c = iI (if c < a then frN e (n + 1) c else frN e n c) := by
                    by_cases z : c < a
                    · rw [if_pos z]; exact g1 c z
                    · rw [if_neg z]; exact g2 c (by omega) hc512
                  have hcn : ((if c < a then frN e (n + 1) c else frN e n c) = (n : Int)) ↔ dsF e c = (n : Int) := by
                    by_cases z : c < a
                    · rw [if_pos z]; exact frN_eq (by omega)
                    · rw [if_neg z]; exact frN_eq (by omega)
                  have hb1 := frN_bd (e := e) (n := n + 1) (a := c) he
                  have hb2 := frN_bd (e := e) (n := n) (a := c) he
                  have hbm : -4 ≤ (if c < a then frN e (n + 1) c else frN e n c) ∧ (if c < a then frN e (n + 1) c else frN e n c) ≤ 511 := by split <;> omega
                  generalize (if c < a then frN e (n + 1) c else frN e n c) = w at *
                  by_cases cw : w = (n : Int)
                  · have hnx : frN e (n + 1) a = (n : Int) + 1 := by
                      rcases fr_next (e := e) (n := n) (by omega) c4 with z | z
                      · exact z.1
                      · exact absurd ⟨c, bhN_stp (by omega) hc, hcn.mp cw⟩ z.2
                    obtain ⟨g', r, r2⟩ := ih (a + 1) 1 (upd g a (iI ((n : Int) + 1))) (some (.int (iI ((h + 1 : Nat) : Int)))) (some (.int (iI (c : Int)))) (by omega) (by omega) (fun z => by omega) (fun _ => ⟨a, by omega, hnx⟩) (fun i hi => by
                      unfold upd
                      by_cases ei : i = a
                      · rw [if_pos ei, ei, hnx]
                      · rw [if_neg ei]; exact g1 i (by omega)) (fun i a1 a2 => (if_neg (by omega)).trans (g2 i (by omega) a2))
                    refine ⟨g', ?_, r2⟩
                    refine gr_run (pc' := 60) 2 rfl ?_
                    refine gr_icF (t := 120) rfl (by decide) (by omega) (by omega) (cN_gt (by omega)) ?_
                    refine gr_run (pc' := 64) 1 rfl ?_
                    refine gr_getf rfl rfl (by repeat (first | exact up_s | assumption | refine up_n (by first | assumption | decide | omega) ?_)) (by first | assumption | rfl) rfl ?_
                    refine gr_run (pc' := 69) 1 rfl ?_
                    refine gr_iald rfl (by repeat (first | exact up_s | assumption | refine up_n (by first | assumption | decide | omega) ?_)) (by first | assumption | rfl) (ix_i rfl (by omega) (by decide)) ?_
                    rw [hga]
                    refine gr_run (pc' := 72) 1 rfl ?_
                    refine gr_icF (t := 120) rfl (by decide) (by omega) (by omega) (cN_ne (by omega)) ?_
                    refine gr_run (pc' := 79) 2 rfl ?_
                    refine gr_callS (As := [_, _]) lk_7_164 rfl rfl (r_behind (by omega) (by omega)) rfl rfl rfl ?_
                    rw [hc]
                    refine gr_run (pc' := 88) 3 rfl ?_
                    refine gr_icF (t := 114) rfl (by decide) (by omega) (by omega) (cN_eq (by omega)) ?_
                    refine gr_run (pc' := 92) 1 rfl ?_
                    refine gr_getf rfl rfl (by repeat (first | exact up_s | assumption | refine up_n (by first | assumption | decide | omega) ?_)) (by first | assumption | rfl) rfl ?_
                    refine gr_run (pc' := 97) 1 rfl ?_
                    refine gr_iald rfl (by repeat (first | exact up_s | assumption | refine up_n (by first | assumption | decide | omega) ?_)) (by first | assumption | rfl) (ix_i rfl (by omega) (by decide)) ?_
                    rw [hgc]
                    refine gr_run (pc' := 99) 1 rfl ?_
                    refine gr_icF (t := 114) rfl (by decide) (by omega) (by omega) (cN_ne (by omega)) ?_
                    refine gr_run (pc' := 103) 1 rfl ?_
                    refine gr_getf rfl rfl (by repeat (first | exact up_s | assumption | refine up_n (by first | assumption | decide | omega) ?_)) (by first | assumption | rfl) rfl ?_
                    refine gr_run (pc' := 110) 3 rfl ?_
                    refine gr_iadd rfl ?_
                    refine gr_iast rfl (by repeat (first | exact up_s | assumption | refine up_n (by first | assumption | decide | omega) ?_)) (by first | assumption | rfl) (ix_i rfl (by omega) (by decide)) ?_
                    rw [bx_uu]
                    refine gr_run (pc' := 114) 2 rfl ?_
                    refine gr_iinc rfl rfl rfl rfl ?_
                    refine gr_run (pc' := 56) 1 rfl ?_
                    by_cases h9 : h + 1 ≤ 9
                    · refine gr_run (pc' := 60) 2 rfl ?_
                      refine gr_icF (t := 120) rfl (by decide) (by omega) (by omega) (cN_gt (by omega)) ?_
                      refine gr_run (pc' := 64) 1 rfl ?_
                      refine gr_getf rfl rfl (by repeat (first | exact up_s | assumption | refine up_n (by first | assumption | decide | omega) ?_)) (by first | assumption | rfl) rfl ?_
                      refine gr_run (pc' := 69) 1 rfl ?_
                      refine gr_iald rfl (by repeat (first | exact up_s | assumption | refine up_n (by first | assumption | decide | omega) ?_)) (by first | assumption | rfl) (ix_i rfl (by omega) (by decide)) ?_
                      rw [show upd g a (iI ((n : Int) + 1)) a = iI ((n : Int) + 1) from if_pos rfl]
                      refine gr_run (pc' := 72) 1 rfl ?_
                      refine gr_icT (t := 120) rfl (by decide) (by omega) (by omega) (cI_ne (by omega)) ?_
                      refine gr_iinc rfl rfl rfl rfl ?_
                      refine gr_run (pc' := 45) 1 rfl ?_
                      exact r
                    · refine gr_run (pc' := 60) 2 rfl ?_
                      refine gr_icT (t := 120) rfl (by decide) (by omega) (by omega) (cI_gt (by omega)) ?_
                      refine gr_iinc rfl rfl rfl rfl ?_
                      refine gr_run (pc' := 45) 1 rfl ?_
                      exact r
                  · obtain ⟨g', r, r2⟩ := ih2 (h + 1) (some (.int (iI (c : Int)))) (by omega) (fun x c' hx hc' => by
                      by_cases ex : x = h
                      · rw [ex, hc] at hc'
                        rw [show c' = c by omega]
                        exact fun z => cw (hcn.mpr z)
                      · exact hno x c' (by omega) hc')
                    refine ⟨g', ?_, r2⟩
                    refine gr_run (pc' := 60) 2 rfl ?_
                    refine gr_icF (t := 120) rfl (by decide) (by omega) (by omega) (cN_gt (by omega)) ?_
                    refine gr_run (pc' := 64) 1 rfl ?_
                    refine gr_getf rfl rfl (by repeat (first | exact up_s | assumption | refine up_n (by first | assumption | decide | omega) ?_)) (by first | assumption | rfl) rfl ?_
                    refine gr_run (pc' := 69) 1 rfl ?_
                    refine gr_iald rfl (by repeat (first | exact up_s | assumption | refine up_n (by first | assumption | decide | omega) ?_)) (by first | assumption | rfl) (ix_i rfl (by omega) (by decide)) ?_
                    rw [hga]
                    refine gr_run (pc' := 72) 1 rfl ?_
                    refine gr_icF (t := 120) rfl (by decide) (by omega) (by omega) (cN_ne (by omega)) ?_
                    refine gr_run (pc' := 79) 2 rfl ?_
                    refine gr_callS (As := [_, _]) lk_7_164 rfl rfl (r_behind (by omega) (by omega)) rfl rfl rfl ?_
                    rw [hc]
                    refine gr_run (pc' := 88) 3 rfl ?_
                    refine gr_icF (t := 114) rfl (by decide) (by omega) (by omega) (cN_eq (by omega)) ?_
                    refine gr_run (pc' := 92) 1 rfl ?_
                    refine gr_getf rfl rfl (by repeat (first | exact up_s | assumption | refine up_n (by first | assumption | decide | omega) ?_)) (by first | assumption | rfl) rfl ?_
                    refine gr_run (pc' := 97) 1 rfl ?_
                    refine gr_iald rfl (by repeat (first | exact up_s | assumption | refine up_n (by first | assumption | decide | omega) ?_)) (by first | assumption | rfl) (ix_i rfl (by omega) (by decide)) ?_
                    rw [hgc]
                    refine gr_run (pc' := 99) 1 rfl ?_
                    refine gr_icT (t := 114) rfl (by decide) (by omega) (by omega) (cI_ne (by omega)) ?_
                    refine gr_iinc rfl rfl rfl rfl ?_
                    refine gr_run (pc' := 56) 1 rfl ?_
                    exact r
            obtain ⟨g', r, r2⟩ := look 10 0 x6 (by omega) (fun x c hx => by omega)
            refine ⟨g', ?_, r2⟩
            refine gr_run (pc' := 50) 2 rfl ?_
            refine gr_icF (t := 126) rfl (by decide) (by omega) (by omega) (cN_ge (by omega)) ?_
            refine gr_run (pc' := 56) 2 rfl ?_
            exact r
          · have hk := fr_keep c4
            obtain ⟨g', r, r2⟩ := ih (a + 1) v g (some (.int (iI 0))) x6 (by omega) hv (fun z i hi => by
              by_cases ei : i = a
              · rw [ei, hk]
              · exact v0 z i (by omega)) v1 (fun i hi => by
              by_cases ei : i = a
              · rw [ei, g2 a (by omega) (by omega), hk]
              · exact g1 i (by omega)) (fun i a1 a2 => g2 i (by omega) a2)
            refine ⟨g', ?_, r2⟩
            refine gr_run (pc' := 50) 2 rfl ?_
            refine gr_icF (t := 126) rfl (by decide) (by omega) (by omega) (cN_ge (by omega)) ?_
            refine gr_run (pc' := 60) 4 rfl ?_
            refine gr_icF (t := 120) rfl (by decide) (by omega) (by omega) (cN_gt (by omega)) ?_
            refine gr_run (pc' := 64) 1 rfl ?_
            refine gr_getf rfl rfl (by repeat (first | exact up_s | assumption | refine up_n (by first | assumption | decide | omega) ?_)) (by first | assumption | rfl) rfl ?_
            refine gr_run (pc' := 69) 1 rfl ?_
            refine gr_iald rfl (by repeat (first | exact up_s | assumption | refine up_n (by first | assumption | decide | omega) ?_)) (by first | assumption | rfl) (ix_i rfl (by omega) (by decide)) ?_
            rw [g2 a (by omega) (by omega)]
            refine gr_run (pc' := 72) 1 rfl ?_
            refine gr_icT (t := 120) rfl (by decide) (by omega) (by omega) (cI_ne (by omega)) ?_
            refine gr_iinc rfl rfl rfl rfl ?_
            refine gr_run (pc' := 45) 1 rfl ?_
            exact r
      obtain ⟨g', r, r2⟩ := pass 512 0 0 g x5 x6 (by omega) (by omega) (fun _ i hi => by omega) (fun z => by omega) (fun i hi => by omega) (fun i _ hi => hg i hi)
      refine ⟨g', ?_, r2⟩
      refine gr_run (pc' := 37) 1 rfl ?_
      refine gr_ifF (t := 132) rfl (by decide) (by omega) (cN_eq (by omega)) ?_
      refine gr_run (pc' := 45) 4 rfl ?_
      exact r
  have init : ∀ (k a : Nat) (g : Nat → Int32), a + k = 512 → (∀ i, i < a → g i = iI (frN e 0 i)) →
      ∃ g' : Nat → Int32, Gr mX7_measures (d + 1) 2 [some (.ref 43), some (.int (iI e)), some (.int (iI (a : Int))), none, none, none, none] [] (va_up A 52 (Ia 512 g)) none (va_up A 52 (Ia 512 g')) ∧ ∀ a, a < 512 → g' a = iI (dsF e a) := by
    intro k
    induction k with
    | zero =>
      intro a g ha hg
      obtain ⟨g', r, r2⟩ := main 512 0 g none none none (by omega) (fun i hi => hg i (by omega))
      refine ⟨g', ?_, r2⟩
      refine gr_run (pc' := 6) 2 rfl ?_
      refine gr_icT (t := 32) rfl (by decide) (by omega) (by omega) (cI_ge (by omega)) ?_
      refine gr_run (pc' := 36) 4 rfl ?_
      exact r
    | succ k ih =>
      intro a g ha hg
      obtain ⟨g', r, r2⟩ := ih (a + 1) (upd g a (iI (frN e 0 a))) (by omega) (fun i hi => by
        unfold upd
        by_cases ei : i = a
        · rw [if_pos ei, ei]
        · rw [if_neg ei]; exact hg i (by omega))
      refine ⟨g', ?_, r2⟩
      rw [fr_0] at r
      by_cases ea : a = e
      · rw [if_pos ea] at r
        refine gr_run (pc' := 6) 2 rfl ?_
        refine gr_icF (t := 32) rfl (by decide) (by omega) (by omega) (cN_ge (by omega)) ?_
        refine gr_run (pc' := 10) 1 rfl ?_
        refine gr_getf rfl rfl (by repeat (first | exact up_s | assumption | refine up_n (by first | assumption | decide | omega) ?_)) (by first | assumption | rfl) rfl ?_
        refine gr_run (pc' := 16) 3 rfl ?_
        refine gr_icF (t := 23) rfl (by decide) (by omega) (by omega) (cN_ne (by omega)) ?_
        refine gr_run (pc' := 25) 2 rfl ?_
        refine gr_iast rfl (by repeat (first | exact up_s | assumption | refine up_n (by first | assumption | decide | omega) ?_)) (by first | assumption | rfl) (ix_i rfl (by omega) (by decide)) ?_
        rw [bx_uu]
        refine gr_iinc rfl rfl rfl rfl ?_
        refine gr_run (pc' := 2) 1 rfl ?_
        exact r
      · rw [if_neg ea] at r
        refine gr_run (pc' := 6) 2 rfl ?_
        refine gr_icF (t := 32) rfl (by decide) (by omega) (by omega) (cN_ge (by omega)) ?_
        refine gr_run (pc' := 10) 1 rfl ?_
        refine gr_getf rfl rfl (by repeat (first | exact up_s | assumption | refine up_n (by first | assumption | decide | omega) ?_)) (by first | assumption | rfl) rfl ?_
        refine gr_run (pc' := 16) 3 rfl ?_
        refine gr_icT (t := 23) rfl (by decide) (by omega) (by omega) (cI_ne (by omega)) ?_
        refine gr_run (pc' := 25) 1 rfl ?_
        refine gr_iast rfl (by repeat (first | exact up_s | assumption | refine up_n (by first | assumption | decide | omega) ?_)) (by first | assumption | rfl) (ix_i rfl (by omega) (by decide)) ?_
        rw [bx_uu]
        refine gr_iinc rfl rfl rfl rfl ?_
        refine gr_run (pc' := 2) 1 rfl ?_
        exact r
  obtain ⟨g', r, r2⟩ := init 512 0 f0 (by omega) (fun i hi => by omega)
  rw [up_same e52] at r
  refine ⟨g', ?_, r2⟩
  refine rt_intro kX7_measures rfl rfl trivial ?_
  refine gr_run (pc' := 2) 2 rfl ?_
  exact r
end MB
