/-! the model: steps -/
theorem up_cm {A : AH} {a b : Nat} {x y : va_E} (h : a ≠ b) : va_up (va_up A a x) b y = va_up (va_up A b y) a x := by
  funext j
  unfold va_up
  by_cases h1 : j = a
  · by_cases h2 : j = b
    · exact absurd (h1.symm.trans h2) h
    · simp [h1, h]
  · by_cases h2 : j = b
    · subst h2; simp [h1]
    · simp [h1, h2]
abbrev hSt (A : AH) (dr sf qf : Nat → Int32) : AH := va_up (va_up (va_up A 49 (Ia 10 dr)) 53 (Ia 100000 sf)) 54 (Ia 100000 qf)
theorem hSt_49 {A : AH} {dr sf qf dr' : Nat → Int32} : va_up (hSt A dr sf qf) 49 (Ia 10 dr') = hSt A dr' sf qf := by
  rw [up_cm (by decide), up_cm (A := va_up A 49 (Ia 10 dr)) (by decide), bx_uu]
theorem hSt_53 {A : AH} {dr sf qf sf' : Nat → Int32} : va_up (hSt A dr sf qf) 53 (Ia 100000 sf') = hSt A dr sf' qf := by
  rw [up_cm (by decide), bx_uu]
theorem hSt_54 {A : AH} {dr sf qf qf' : Nat → Int32} : va_up (hSt A dr sf qf) 54 (Ia 100000 qf') = hSt A dr sf qf' := by
  rw [bx_uu]
theorem RepM.uSt {σ : SS} {A : AH} (hR : RepM σ A) (dr sf qf : Nat → Int32) : RepM σ (hSt A dr sf qf) := by
  refine hR.s ?_ (fun j hj => (up_o (by omega)).trans ((up_o (by omega)).trans (up_o (by omega))))
  obtain ⟨⟨a, ha⟩, ⟨b, hb⟩, ⟨c, hc⟩, ⟨d', hd⟩, ⟨f', hf⟩, ⟨g', hg⟩, ⟨i, hi⟩, ⟨j, hj⟩⟩ := hR.2.2.2.2.2.2
  exact ⟨⟨dr, up_n (by decide) (up_n (by decide) up_s)⟩, ⟨b, up_n (by decide) (up_n (by decide) (up_n (by decide) hb))⟩, ⟨c, up_n (by decide) (up_n (by decide) (up_n (by decide) hc))⟩, ⟨d', up_n (by decide) (up_n (by decide) (up_n (by decide) hd))⟩, ⟨sf, up_n (by decide) up_s⟩, ⟨qf, up_s⟩, ⟨i, up_n (by decide) (up_n (by decide) (up_n (by decide) hi))⟩, ⟨j, up_n (by decide) (up_n (by decide) (up_n (by decide) hj))⟩⟩
def StA (Q D : Nat → Nat) (q : Nat) (sf qf : Nat → Int32) : Prop := (∀ i, i < q → qf i = iI (Q i)) ∧ (∀ i, i < q → sf (Q i) = iI (D i)) ∧ ∀ v, v < 100000 → (∀ i, i < q → Q i ≠ v) → sf v = iI (-4)
theorem StA.add {Q D : Nat → Nat} {q b dd : Nat} {sf qf : Nat → Int32} (h : StA Q D q sf qf) (hn : ∀ i, i < q → Q i ≠ b) : StA (updN Q q b) (updN D q dd) (q + 1) (upd sf b (iI dd)) (upd qf q (iI b)) := by
  refine ⟨fun i hi => ?_, fun i hi => ?_, fun v hv hq => ?_⟩
  · unfold upd updN
    by_cases e : i = q
    · rw [if_pos e, if_pos e]
    · rw [if_neg e, if_neg e]; exact h.1 i (by omega)
  · unfold upd updN
    by_cases e : i = q
    · rw [if_pos e, if_pos rfl, if_pos e]
    · rw [if_neg e, if_neg e, if_neg (hn i (by omega))]; exact h.2.1 i (by omega)
  · have hb : v ≠ b := by
      have := hq q (by omega)
      rw [show updN Q q b q = b from if_pos rfl] at this
      exact fun e => this e.symm
    unfold upd
    rw [if_neg hb]
    refine h.2.2 v hv (fun i hi => ?_)
    have := hq i (by omega)
    rw [show updN Q q b i = Q i from if_neg (by omega)] at this
    exact this
section NO
variable {d : Nat} {A : AH}
theorem r_numberOf {b n : Nat} {h : Nat → Nat} {f : Nat → Int32} (hb : A b = Ia 10 f) (pb : Nat.blt b NC = true) (hn : n ≤ 5) (hf : ∀ i, i < n → f i = iI (h i)) : Rt mX7_numberOf d [.ref b, .int (iI n)] A (some (.int (iI ((nmF h n : Nat) : Int)))) A := by
  have key : ∀ i, i ≤ n → Gr mX7_numberOf d 4 [some (.ref b), some (.int (iI n)), some (.int (iI ((nmF h i : Nat) : Int))), some (.int (iI (i : Int)))] [] A (some (.int (iI ((nmF h n : Nat) : Int)))) A := by
    refine go_up ?_ ?_
    · refine gr_run (pc' := 6) 2 rfl ?_
      refine gr_icT (t := 24) rfl (by decide) (by omega) (by omega) (cI_ge (by omega)) ?_
      refine gr_run (pc' := 25) 1 rfl ?_
      exact gr_ret rfl rfl
    · intro i hi ih
      refine gr_run (pc' := 6) 2 rfl ?_
      refine gr_icF (t := 24) rfl (by decide) (by omega) (by omega) (cN_ge (by omega)) ?_
      refine gr_run (pc' := 12) 2 rfl ?_
      refine gr_imul rfl ?_
      refine gr_run (pc' := 15) 2 rfl ?_
      refine gr_iald rfl (by repeat (first | exact up_s | assumption | refine up_n (by first | assumption | decide | omega) ?_)) (by first | assumption | rfl) (ix_i rfl (by omega) (by decide)) ?_
      rw [hf i hi]
      refine gr_iadd rfl ?_
      rw [show (10 : Int) * ((nmF h i : Nat) : Int) + (h i : Int) = ((nmF h (i + 1) : Nat) : Int) from by simp only [nmF]; omega]
      refine gr_run (pc' := 18) 1 rfl ?_
      refine gr_iinc rfl rfl rfl rfl ?_
      refine gr_run (pc' := 4) 1 rfl ?_
      exact ih
  refine rt_intro kX7_numberOf rfl rfl rfl ?_
  refine gr_run (pc' := 4) 4 rfl ?_
  exact key 0 (by omega)
end NO
def stG (d n s t : Nat) (A : AH) (pc : Nat) (L : LV) (dr sf qf : Nat → Int32) : Prop := ∃ (r : Int) (dr' sf' qf' : Nat → Int32), Gr mX7_steps (d + 1) pc L [] (hSt A dr sf qf) (some (.int (iI r))) (hSt A dr' sf' qf') ∧ dOf (nbM n) s t r
theorem stG.k {d n s t : Nat} {A : AH} {pc pc' : Nat} {L L' : LV} {dr sf qf dr' sf' qf' : Nat → Int32} (h : stG d n s t A pc' L' dr' sf' qf') (K : ∀ (r : Option Value) (A' : AH), Gr mX7_steps (d + 1) pc' L' [] (hSt A dr' sf' qf') r A' → Gr mX7_steps (d + 1) pc L [] (hSt A dr sf qf) r A') : stG d n s t A pc L dr sf qf := by
  obtain ⟨r, a, b, c, h1, h2⟩ := h
  exact ⟨r, a, b, c, K _ _ h1, h2⟩
theorem pow5 {n : Nat} (h : n ≤ 5) : (10 : Nat) ^ n ≤ 100000 := Nat.pow_le_pow_right (n := 10) (by decide) h
theorem BF_cap {n s : Nat} {Q D : Nat → Nat} {q k : Nat} (hn : n ≤ 5) (hs : s < 10 ^ n) (h : BF (nbM n) s Q D q k) : q ≤ 100000 := by
  have h5 := pow5 hn
  exact inj_le (s := Q) (fun i hi => Nat.lt_of_lt_of_le (RNM_lt hs _ _ (h.2.2.1 i hi).1) h5) h.2.1
section ST
variable {d : Nat} {A : AH} {σ : SS}
theorem m_stepsN (hR : RepM σ A) (ho : okS σ) (h : σ.2.1.1 ≠ σ.2.2.1.1 ∨ 5 < σ.2.1.1) : Rt mX7_steps (d + 1) [.ref 43] A (some (.int (iI (-2)))) A := by
  have h0 := hR.1
  have h1 := ho.2.1.1.1
  have h2 := ho.2.2.1.1.1
  refine rt_intro kX7_steps rfl rfl rfl ?_
  by_cases e : σ.2.1.1 = σ.2.2.1.1
  · refine gr_run (pc' := 1) 1 rfl ?_
    refine gr_getf rfl rfl (by repeat (first | exact up_s | assumption | refine up_n (by first | assumption | decide | omega) ?_)) (by first | assumption | rfl) rfl ?_
    refine gr_run (pc' := 5) 1 rfl ?_
    refine gr_getf rfl rfl (by repeat (first | exact up_s | assumption | refine up_n (by first | assumption | decide | omega) ?_)) (by first | assumption | rfl) rfl ?_
    refine gr_icF (t := 19) rfl (by decide) (by omega) (by omega) (cN_ne (by omega)) ?_
    refine gr_run (pc' := 12) 1 rfl ?_
    refine gr_getf rfl rfl (by repeat (first | exact up_s | assumption | refine up_n (by first | assumption | decide | omega) ?_)) (by first | assumption | rfl) rfl ?_
    refine gr_run (pc' := 16) 1 rfl ?_
    refine gr_icF (t := 22) rfl (by decide) (by omega) (by omega) (cN_le (by omega)) ?_
    refine gr_run (pc' := 21) 1 rfl ?_
    exact gr_ret rfl rfl
  · refine gr_run (pc' := 1) 1 rfl ?_
    refine gr_getf rfl rfl (by repeat (first | exact up_s | assumption | refine up_n (by first | assumption | decide | omega) ?_)) (by first | assumption | rfl) rfl ?_
    refine gr_run (pc' := 5) 1 rfl ?_
    refine gr_getf rfl rfl (by repeat (first | exact up_s | assumption | refine up_n (by first | assumption | decide | omega) ?_)) (by first | assumption | rfl) rfl ?_
    refine gr_icT (t := 19) rfl (by decide) (by omega) (by omega) (cI_ne (by omega)) ?_
    refine gr_run (pc' := 21) 1 rfl ?_
    exact gr_ret rfl rfl
theorem m_steps (hR : RepM σ A) (ho : okS σ) (he : σ.2.1.1 = σ.2.2.1.1) (hn5 : σ.2.1.1 ≤ 5) : ∃ (A' : AH) (r : Int), Rt mX7_steps (d + 1) [.ref 43] A (some (.int (iI r))) A' ∧ dOf (nbM σ.2.1.1) (nmF σ.2.1.2 σ.2.1.1) (nmF σ.2.2.1.2 σ.2.1.1) r ∧ RepM σ A' ∧ offE A A' 43 56 := by
  obtain ⟨h0, -, ⟨f1, e1, e2⟩, ⟨f2, e3, e4⟩, -, -, ⟨dr0, s1⟩, s2, s3, s4, ⟨sf0, s5⟩, ⟨qf0, s6⟩, -⟩ := id hR
  have hn1 := ho.2.1.1.1.1
  have hs : nmF σ.2.1.2 σ.2.1.1 < 10 ^ σ.2.1.1 := nmF_lt ho.2.1.1.2
  have ht : nmF σ.2.2.1.2 σ.2.1.1 < 10 ^ σ.2.1.1 := nmF_lt (fun i hi => ho.2.2.1.1.2 i (by omega))
  rw [← he] at e4
  have hp5 := pow5 hn5
  have c1 := r_numberOf (d := d) (A := A) e1 rfl hn5 e2
  generalize hss : nmF σ.2.1.2 σ.2.1.1 = s at *
  generalize htt : nmF σ.2.2.1.2 σ.2.1.1 = t at *
  generalize hnn : σ.2.1.1 = n at *
  have hNN : ∃ N : Nat, n * n = N ∧ N ≤ 25 := ⟨n * n, rfl, Nat.mul_le_mul hn5 hn5⟩
  obtain ⟨N, hN, hN25⟩ := hNN
  have hNi : (n : Int) * (n : Int) = (N : Int) := by rw [← hN]; rfl
  have fin : ∀ (dr sf qf : Nat → Int32) (Q D : Nat → Nat) (q k : Nat) (x2 x3 x4 x5 x6 x7 x8 x9 x10 x11 x12 : Option Value), StA Q D q sf qf → BF (nbM n) s Q D q k → (k = q ∨ ∃ i, i < q ∧ Q i = t) →
      stG d n s t A 353 [some (.ref 43), some (.int (iI (t : Int))), x2, x3, x4, x5, x6, x7, x8, x9, x10, x11, x12] dr sf qf := by
    intro dr sf qf Q D q k x2 x3 x4 x5 x6 x7 x8 x9 x10 x11 x12 hS hB hk
    by_cases hq : ∃ i, i < q ∧ Q i = t
    · obtain ⟨i, hi, hqi⟩ := hq
      have h1 := hS.2.1 i hi
      rw [hqi] at h1
      refine ⟨D i, dr, sf, qf, ?_, Or.inl ⟨D i, by rw [← hqi]; exact hB.2.2.1 i hi, rfl⟩⟩
      refine gr_run (pc' := 354) 1 rfl ?_
      refine gr_getf rfl rfl (by repeat (first | exact up_s | assumption | refine up_n (by first | assumption | decide | omega) ?_)) (by first | assumption | rfl) rfl ?_
      refine gr_run (pc' := 358) 1 rfl ?_
      refine gr_iald rfl (by repeat (first | exact up_s | assumption | refine up_n (by first | assumption | decide | omega) ?_)) (by first | assumption | rfl) (ix_i rfl (by omega) (by decide)) ?_
      rw [h1]
      exact gr_ret rfl rfl
    · have hkq : k = q := hk.resolve_right hq
      have h1 := hS.2.2 t (by omega) (fun i hi e => hq ⟨i, hi, e⟩)
      refine ⟨-4, dr, sf, qf, ?_, Or.inr ⟨fun j hj => ?_, rfl⟩⟩
      · refine gr_run (pc' := 354) 1 rfl ?_
        refine gr_getf rfl rfl (by repeat (first | exact up_s | assumption | refine up_n (by first | assumption | decide | omega) ?_)) (by first | assumption | rfl) rfl ?_
        refine gr_run (pc' := 358) 1 rfl ?_
        refine gr_iald rfl (by repeat (first | exact up_s | assumption | refine up_n (by first | assumption | decide | omega) ?_)) (by first | assumption | rfl) (ix_i rfl (by omega) (by decide)) ?_
        rw [h1]
        exact gr_ret rfl rfl
      · rw [hkq] at hB
        exact hq (BF_end hB hj)
  have main : ∀ (m k : Nat) (dr sf qf : Nat → Int32) (Q D : Nat → Nat) (q : Nat) (x4 x5 x6 x7 x8 x9 x10 x11 x12 : Option Value), k + m = 100000 → StA Q D q sf qf → BF (nbM n) s Q D q k →
      stG d n s t A 89 [some (.ref 43), some (.int (iI (t : Int))), some (.int (iI (q : Int))), some (.int (iI (k : Int))), x4, x5, x6, x7, x8, x9, x10, x11, x12] dr sf qf := by
    intro m
    induction m with
    | zero =>
      intro k dr sf qf Q D q x4 x5 x6 x7 x8 x9 x10 x11 x12 hk hS hB
      have hq := BF_cap hn5 hs hB
      have hkq := hB.1.2.1
      refine stG.k (fin dr sf qf Q D q k (some (.int (iI (q : Int)))) (some (.int (iI (k : Int)))) x4 x5 x6 x7 x8 x9 x10 x11 x12 hS hB (Or.inl (by omega))) (fun r A' K => ?_)
      refine gr_run (pc' := 91) 2 rfl ?_
      refine gr_icT (t := 353) rfl (by decide) (by omega) (by omega) (cI_ge (by omega)) ?_
      exact K
    | succ m ihm =>
      intro k dr sf qf Q D q x4 x5 x6 x7 x8 x9 x10 x11 x12 hk hS hB
      have hq := BF_cap hn5 hs hB
      have hkq := hB.1.2.1
      by_cases hkl : k = q
      · refine stG.k (fin dr sf qf Q D q k (some (.int (iI (q : Int)))) (some (.int (iI (k : Int)))) x4 x5 x6 x7 x8 x9 x10 x11 x12 hS hB (Or.inl (by omega))) (fun r A' K => ?_)
        refine gr_run (pc' := 91) 2 rfl ?_
        refine gr_icT (t := 353) rfl (by decide) (by omega) (by omega) (cI_ge (by omega)) ?_
        exact K
      by_cases hin : ∃ i, i < q ∧ Q i = t
      · refine stG.k (fin dr sf qf Q D q k (some (.int (iI (q : Int)))) (some (.int (iI (k : Int)))) x4 x5 x6 x7 x8 x9 x10 x11 x12 hS hB (Or.inr hin)) (fun r A' K => ?_)
        obtain ⟨i, hi, hqi⟩ := hin
        have h1 := hS.2.1 i hi
        rw [hqi] at h1
        have h2 := BF_idx hB (D i) i hi rfl
        refine gr_run (pc' := 91) 2 rfl ?_
        refine gr_icF (t := 353) rfl (by decide) (by omega) (by omega) (cN_ge (by omega)) ?_
        refine gr_run (pc' := 95) 1 rfl ?_
        refine gr_getf rfl rfl (by repeat (first | exact up_s | assumption | refine up_n (by first | assumption | decide | omega) ?_)) (by first | assumption | rfl) rfl ?_
        refine gr_run (pc' := 99) 1 rfl ?_
        refine gr_iald rfl (by repeat (first | exact up_s | assumption | refine up_n (by first | assumption | decide | omega) ?_)) (by first | assumption | rfl) (ix_i rfl (by omega) (by decide)) ?_
        rw [h1]
        refine gr_run (pc' := 102) 1 rfl ?_
        refine gr_icT (t := 353) rfl (by decide) (by omega) (by omega) (cI_ne (by omega)) ?_
        exact K
      have h4 := hS.2.2 t (by omega) (fun i hi e => hin ⟨i, hi, e⟩)
      have hvk := hS.1 k (by omega)
      have hv : Q k < 10 ^ n := RNM_lt hs _ _ (hB.2.2.1 k (by omega)).1
      obtain ⟨v, hvv⟩ : ∃ v, v = Q k := ⟨_, rfl⟩
      rw [← hvv] at hvk hv
      -- the pairs
      have pairs : ∀ (dr : Nat → Int32), (∀ x, x < n → dr x = iI (dm n v x)) → ∀ (mp pr : Nat) (sf qf : Nat → Int32) (Q D : Nat → Nat) (q : Nat) (y5 : Int32) (x7 x8 x9 x10 x11 x12 : Option Value), pr + mp = N → StA Q D q sf qf → BF (nbM n) s Q D q k → k < q → Q k = v →
          (∀ p, p < pr → p / n < p % n → dm n v (p % n) + (p % n - p / n) ≤ 9 → p % n - p / n ≤ dm n v (p / n) → ∃ x, x < q ∧ Q x = nmF (chH (dm n v) (p / n) (p % n)) n) →
          stG d n s t A 158 [some (.ref 43), some (.int (iI (t : Int))), some (.int (iI (q : Int))), some (.int (iI (k : Int))), some (.int (iI (v : Int))), some (.int y5), some (.int (iI (pr : Int))), x7, x8, x9, x10, x11, x12] dr sf qf := by
        intro dr hdr mp
        induction mp with
        | zero =>
          intro pr sf qf Q D q y5 x7 x8 x9 x10 x11 x12 hpr hS hB hkq hQk hall
          refine stG.k (ihm (k + 1) dr sf qf Q D q (some (.int (iI (v : Int)))) (some (.int y5)) (some (.int (iI (pr : Int)))) x7 x8 x9 x10 x11 x12 (by omega) hS (BF_next hB hkq (fun b hb => ?_))) (fun r A' K => ?_)
          · rw [hQk] at hb
            obtain ⟨i, j, hij, hj, h1, h2, h3⟩ := hb
            have q1 : (n * i + j) / n = i := by rw [Nat.mul_add_div (by omega), Nat.div_eq_of_lt hj, Nat.add_zero]
            have q2 : (n * i + j) % n = j := by rw [Nat.mul_add_mod, Nat.mod_eq_of_lt hj]
            have q3 : n * i + n ≤ n * n := by rw [← Nat.mul_succ]; exact Nat.mul_le_mul_left n (by omega)
            obtain ⟨x, hx, hx2⟩ := hall (n * i + j) (by omega) (by rw [q1, q2]; exact hij) (by rw [q1, q2]; exact h1) (by rw [q1, q2]; exact h2)
            rw [q1, q2] at hx2
            exact ⟨x, hx, by rw [hx2, h3]⟩
          · refine gr_run (pc' := 161) 2 rfl ?_
            refine gr_getf rfl rfl (by repeat (first | exact up_s | assumption | refine up_n (by first | assumption | decide | omega) ?_)) (by first | assumption | rfl) rfl ?_
            refine gr_run (pc' := 165) 1 rfl ?_
            refine gr_getf rfl rfl (by repeat (first | exact up_s | assumption | refine up_n (by first | assumption | decide | omega) ?_)) (by first | assumption | rfl) rfl ?_
            refine gr_imul rfl ?_
            rw [hNi]
            refine gr_icT (t := 347) rfl (by decide) (by omega) (by omega) (cI_ge (by omega)) ?_
            refine gr_iinc rfl rfl rfl rfl ?_
            refine gr_run (pc' := 89) 1 rfl ?_
            exact K
        | succ mp ihp =>
          intro pr sf qf Q D q y5 x7 x8 x9 x10 x11 x12 hpr hS hB hkq hQk hall
          have hi : pr / n < n := Nat.div_lt_of_lt_mul (by omega)
          have hj : pr % n < n := Nat.mod_lt _ (by omega)
          have ei : (pr : Int) / (n : Int) = ((pr / n : Nat) : Int) := rfl
          have ej : (pr : Int) % (n : Int) = ((pr % n : Nat) : Int) := rfl
          obtain ⟨i, hii⟩ : ∃ i, i = pr / n := ⟨_, rfl⟩
          obtain ⟨j, hjj⟩ : ∃ j, j = pr % n := ⟨_, rfl⟩
          rw [← hii] at hi ei
          rw [← hjj] at hj ej
          have hdi := hdr i hi
          have hdj := hdr j hj
          have l1 := dg_le v (n - 1 - i)
          have l2 := dg_le v (n - 1 - j)
          rw [show dg v (n - 1 - i) = dm n v i from rfl] at l1
          rw [show dg v (n - 1 - j) = dm n v j from rfl] at l2
          -- to the question
          have ask : ∀ (r : Option Value) (A' : AH), Gr mX7_steps (d + 1) 220 [some (.ref 43), some (.int (iI (t : Int))), some (.int (iI (q : Int))), some (.int (iI (k : Int))), some (.int (iI (v : Int))), some (.int y5), some (.int (iI (pr : Int))), some (.int (iI (i : Int))), some (.int (iI (j : Int))), some (.int (iI ((dm n v j : Int) + j - i))), some (.int (iI ((dm n v i : Int) - ((j : Int) - i)))), x11, x12] [] (hSt A dr sf qf) r A' → Gr mX7_steps (d + 1) 158 [some (.ref 43), some (.int (iI (t : Int))), some (.int (iI (q : Int))), some (.int (iI (k : Int))), some (.int (iI (v : Int))), some (.int y5), some (.int (iI (pr : Int))), x7, x8, x9, x10, x11, x12] [] (hSt A dr sf qf) r A' := by
            intro r A' K
            refine gr_run (pc' := 161) 2 rfl ?_
            refine gr_getf rfl rfl (by repeat (first | exact up_s | assumption | refine up_n (by first | assumption | decide | omega) ?_)) (by first | assumption | rfl) rfl ?_
            refine gr_run (pc' := 165) 1 rfl ?_
            refine gr_getf rfl rfl (by repeat (first | exact up_s | assumption | refine up_n (by first | assumption | decide | omega) ?_)) (by first | assumption | rfl) rfl ?_
            refine gr_imul rfl ?_
            rw [hNi]
            refine gr_icF (t := 347) rfl (by decide) (by omega) (by omega) (cN_ge (by omega)) ?_
            refine gr_run (pc' := 175) 2 rfl ?_
            refine gr_getf rfl rfl (by repeat (first | exact up_s | assumption | refine up_n (by first | assumption | decide | omega) ?_)) (by first | assumption | rfl) rfl ?_
            refine gr_idivN rfl (by omega) (by omega) (by omega) (by omega) ?_
            rw [ei]
            refine gr_run (pc' := 184) 3 rfl ?_
            refine gr_getf rfl rfl (by repeat (first | exact up_s | assumption | refine up_n (by first | assumption | decide | omega) ?_)) (by first | assumption | rfl) rfl ?_
            refine gr_iremN rfl (by omega) (by omega) (by omega) (by omega) ?_
            rw [ej]
            refine gr_run (pc' := 191) 2 rfl ?_
            refine gr_getf rfl rfl (by repeat (first | exact up_s | assumption | refine up_n (by first | assumption | decide | omega) ?_)) (by first | assumption | rfl) rfl ?_
            refine gr_run (pc' := 196) 1 rfl ?_
            refine gr_iald rfl (by repeat (first | exact up_s | assumption | refine up_n (by first | assumption | decide | omega) ?_)) (by first | assumption | rfl) (ix_i rfl (by omega) (by decide)) ?_
            rw [hdj]
            refine gr_run (pc' := 199) 1 rfl ?_
            refine gr_iadd rfl ?_
            refine gr_run (pc' := 202) 1 rfl ?_
            refine gr_isub rfl ?_
            refine gr_run (pc' := 206) 2 rfl ?_
            refine gr_getf rfl rfl (by repeat (first | exact up_s | assumption | refine up_n (by first | assumption | decide | omega) ?_)) (by first | assumption | rfl) rfl ?_
            refine gr_run (pc' := 211) 1 rfl ?_
            refine gr_iald rfl (by repeat (first | exact up_s | assumption | refine up_n (by first | assumption | decide | omega) ?_)) (by first | assumption | rfl) (ix_i rfl (by omega) (by decide)) ?_
            rw [hdi]
            refine gr_run (pc' := 216) 2 rfl ?_
            refine gr_isub rfl ?_
            refine gr_isub rfl ?_
            refine gr_run (pc' := 220) 1 rfl ?_
            exact K
          have next : ∀ (sf qf : Nat → Int32) (Q D : Nat → Nat) (q : Nat) (x7 x8 x9 x10 x11 x12 : Option Value), StA Q D q sf qf → BF (nbM n) s Q D q k → k < q → Q k = v →
              (∀ p, p < pr → p / n < p % n → dm n v (p % n) + (p % n - p / n) ≤ 9 → p % n - p / n ≤ dm n v (p / n) → ∃ x, x < q ∧ Q x = nmF (chH (dm n v) (p / n) (p % n)) n) →
              (i < j → dm n v j + (j - i) ≤ 9 → j - i ≤ dm n v i → ∃ x, x < q ∧ Q x = nmF (chH (dm n v) i j) n) →
              stG d n s t A 341 [some (.ref 43), some (.int (iI (t : Int))), some (.int (iI (q : Int))), some (.int (iI (k : Int))), some (.int (iI (v : Int))), some (.int y5), some (.int (iI (pr : Int))), x7, x8, x9, x10, x11, x12] dr sf qf := by
            intro sf qf Q D q x7 x8 x9 x10 x11 x12 hS hB hkq hQk hall hthis
            refine stG.k (ihp (pr + 1) sf qf Q D q y5 x7 x8 x9 x10 x11 x12 (by omega) hS hB hkq hQk (fun p hp p1 p2 p3 => ?_)) (fun r A' K => ?_)
            · by_cases ep : p = pr
              · subst ep
                rw [← hii, ← hjj] at p1 p2 p3 ⊢
                exact hthis p1 p2 p3
              · exact hall p (by omega) p1 p2 p3
            · refine gr_iinc rfl rfl rfl rfl ?_
              refine gr_run (pc' := 158) 1 rfl ?_
              exact K
          by_cases hij : i < j
          · by_cases h9 : dm n v j + (j - i) ≤ 9
            · by_cases h0' : j - i ≤ dm n v i
              · -- a change
                have hle : ∀ x, x < n → chH (dm n v) i j x ≤ 9 := fun x _ => ch_le h9 l1 (dg_le _ _)
                have hb := nmF_lt hle
                have hnb : nbM n (Q k) (nmF (chH (dm n v) i j) n) := by rw [hQk]; exact ⟨i, j, hij, hj, h9, h0', rfl⟩
                have row : ∀ (r : Option Value) (A' : AH), Gr mX7_steps (d + 1) 302 [some (.ref 43), some (.int (iI (t : Int))), some (.int (iI (q : Int))), some (.int (iI (k : Int))), some (.int (iI (v : Int))), some (.int y5), some (.int (iI (pr : Int))), some (.int (iI (i : Int))), some (.int (iI (j : Int))), some (.int (iI ((dm n v j : Int) + j - i))), some (.int (iI ((dm n v i : Int) - ((j : Int) - i)))), some (.int (iI ((nmF (chH (dm n v) i j) n : Nat) : Int))), some (.int (iI (n : Int)))] [] (hSt A dr sf qf) r A' →
                    ∀ y, y ≤ n → Gr mX7_steps (d + 1) 248 [some (.ref 43), some (.int (iI (t : Int))), some (.int (iI (q : Int))), some (.int (iI (k : Int))), some (.int (iI (v : Int))), some (.int y5), some (.int (iI (pr : Int))), some (.int (iI (i : Int))), some (.int (iI (j : Int))), some (.int (iI ((dm n v j : Int) + j - i))), some (.int (iI ((dm n v i : Int) - ((j : Int) - i)))), some (.int (iI ((nmF (chH (dm n v) i j) y : Nat) : Int))), some (.int (iI (y : Int)))] [] (hSt A dr sf qf) r A' := by
                  intro r A' K
                  refine go_up ?_ ?_
                  · refine gr_run (pc' := 251) 2 rfl ?_
                    refine gr_getf rfl rfl (by repeat (first | exact up_s | assumption | refine up_n (by first | assumption | decide | omega) ?_)) (by first | assumption | rfl) rfl ?_
                    refine gr_icT (t := 302) rfl (by decide) (by omega) (by omega) (cI_ge (by omega)) ?_
                    exact K
                  · intro y hy ih
                    by_cases y1 : y = i
                    · refine gr_run (pc' := 251) 2 rfl ?_
                      refine gr_getf rfl rfl (by repeat (first | exact up_s | assumption | refine up_n (by first | assumption | decide | omega) ?_)) (by first | assumption | rfl) rfl ?_
                      refine gr_icF (t := 302) rfl (by decide) (by omega) (by omega) (cN_ge (by omega)) ?_
                      refine gr_run (pc' := 261) 2 rfl ?_
                      refine gr_imul rfl ?_
                      refine gr_run (pc' := 266) 2 rfl ?_
                      refine gr_icF (t := 274) rfl (by decide) (by omega) (by omega) (cN_ne (by omega)) ?_
                      refine gr_run (pc' := 293) 2 rfl ?_
                      refine gr_iadd rfl ?_
                      rw [show (10 : Int) * ((nmF (chH (dm n v) i j) y : Nat) : Int) + ((dm n v j : Int) + j - i) = ((nmF (chH (dm n v) i j) (y + 1) : Nat) : Int) from by
                        simp only [nmF]
                        rw [show chH (dm n v) i j y = dm n v j + (j - i) from by unfold chH updN; rw [if_neg (by omega), if_pos y1]]
                        omega]
                      refine gr_run (pc' := 296) 1 rfl ?_
                      refine gr_iinc rfl rfl rfl rfl ?_
                      refine gr_run (pc' := 248) 1 rfl ?_
                      exact ih
                    · by_cases y2 : y = j
                      · refine gr_run (pc' := 251) 2 rfl ?_
                        refine gr_getf rfl rfl (by repeat (first | exact up_s | assumption | refine up_n (by first | assumption | decide | omega) ?_)) (by first | assumption | rfl) rfl ?_
                        refine gr_icF (t := 302) rfl (by decide) (by omega) (by omega) (cN_ge (by omega)) ?_
                        refine gr_run (pc' := 261) 2 rfl ?_
                        refine gr_imul rfl ?_
                        refine gr_run (pc' := 266) 2 rfl ?_
                        refine gr_icT (t := 274) rfl (by decide) (by omega) (by omega) (cI_ne (by omega)) ?_
                        refine gr_run (pc' := 278) 2 rfl ?_
                        refine gr_icF (t := 286) rfl (by decide) (by omega) (by omega) (cN_ne (by omega)) ?_
                        refine gr_run (pc' := 293) 2 rfl ?_
                        refine gr_iadd rfl ?_
                        rw [show (10 : Int) * ((nmF (chH (dm n v) i j) y : Nat) : Int) + ((dm n v i : Int) - ((j : Int) - i)) = ((nmF (chH (dm n v) i j) (y + 1) : Nat) : Int) from by
                          simp only [nmF]
                          rw [show chH (dm n v) i j y = dm n v i - (j - i) from by unfold chH updN; rw [if_pos y2]]
                          omega]
                        refine gr_run (pc' := 296) 1 rfl ?_
                        refine gr_iinc rfl rfl rfl rfl ?_
                        refine gr_run (pc' := 248) 1 rfl ?_
                        exact ih
                      · refine gr_run (pc' := 251) 2 rfl ?_
                        refine gr_getf rfl rfl (by repeat (first | exact up_s | assumption | refine up_n (by first | assumption | decide | omega) ?_)) (by first | assumption | rfl) rfl ?_
                        refine gr_icF (t := 302) rfl (by decide) (by omega) (by omega) (cN_ge (by omega)) ?_
                        refine gr_run (pc' := 261) 2 rfl ?_
                        refine gr_imul rfl ?_
                        refine gr_run (pc' := 266) 2 rfl ?_
                        refine gr_icT (t := 274) rfl (by decide) (by omega) (by omega) (cI_ne (by omega)) ?_
                        refine gr_run (pc' := 278) 2 rfl ?_
                        refine gr_icT (t := 286) rfl (by decide) (by omega) (by omega) (cI_ne (by omega)) ?_
                        refine gr_run (pc' := 287) 1 rfl ?_
                        refine gr_getf rfl rfl (by repeat (first | exact up_s | assumption | refine up_n (by first | assumption | decide | omega) ?_)) (by first | assumption | rfl) rfl ?_
                        refine gr_run (pc' := 292) 1 rfl ?_
                        refine gr_iald rfl (by repeat (first | exact up_s | assumption | refine up_n (by first | assumption | decide | omega) ?_)) (by first | assumption | rfl) (ix_i rfl (by omega) (by decide)) ?_
                        rw [hdr y hy]
                        refine gr_iadd rfl ?_
                        rw [show (10 : Int) * ((nmF (chH (dm n v) i j) y : Nat) : Int) + (dm n v y : Int) = ((nmF (chH (dm n v) i j) (y + 1) : Nat) : Int) from by
                          simp only [nmF]
                          rw [show chH (dm n v) i j y = dm n v y from by unfold chH updN; rw [if_neg y2, if_neg y1]]
                          omega]
                        refine gr_run (pc' := 296) 1 rfl ?_
                        refine gr_iinc rfl rfl rfl rfl ?_
                        refine gr_run (pc' := 248) 1 rfl ?_
                        exact ih
                generalize hbb : nmF (chH (dm n v) i j) n = b at *
                by_cases hin2 : ∃ x, x < q ∧ Q x = b
                · refine stG.k (next sf qf Q D q (some (.int (iI (i : Int)))) (some (.int (iI (j : Int)))) (some (.int (iI ((dm n v j : Int) + j - i)))) (some (.int (iI ((dm n v i : Int) - ((j : Int) - i))))) (some (.int (iI (b : Int)))) (some (.int (iI (n : Int)))) hS hB hkq hQk hall (fun _ _ _ => hin2)) (fun r A' K => ask _ _ ?_)
                  obtain ⟨x, hx, hqx⟩ := hin2
                  have g1 := hS.2.1 x hx
                  rw [hqx] at g1
                  have g2 := BF_idx hB (D x) x hx rfl
                  have g3 := BF_cap hn5 hs hB
                  refine gr_run (pc' := 224) 2 rfl ?_
                  refine gr_icF (t := 341) rfl (by decide) (by omega) (by omega) (cN_ge (by omega)) ?_
                  refine gr_run (pc' := 231) 2 rfl ?_
                  refine gr_icF (t := 341) rfl (by decide) (by omega) (by omega) (cN_gt (by omega)) ?_
                  refine gr_run (pc' := 236) 1 rfl ?_
                  refine gr_ifT (t := 242) rfl (by decide) (by omega) (cI_ge (by omega)) ?_
                  refine gr_run (pc' := 248) 4 rfl ?_
                  refine row _ _ ?_ 0 (by omega)
                  refine gr_run (pc' := 303) 1 rfl ?_
                  refine gr_getf rfl rfl (by repeat (first | exact up_s | assumption | refine up_n (by first | assumption | decide | omega) ?_)) (by first | assumption | rfl) rfl ?_
                  refine gr_run (pc' := 308) 1 rfl ?_
                  refine gr_iald rfl (by repeat (first | exact up_s | assumption | refine up_n (by first | assumption | decide | omega) ?_)) (by first | assumption | rfl) (ix_i rfl (by omega) (by decide)) ?_
                  rw [g1]
                  refine gr_run (pc' := 311) 1 rfl ?_
                  refine gr_icT (t := 341) rfl (by decide) (by omega) (by omega) (cI_ne (by omega)) ?_
                  exact K
                · have hout : ∀ x, x < q → Q x ≠ b := fun x hx e => hin2 ⟨x, hx, e⟩
                  have hB2 := BF_add hB hkq hnb hout
                  have hcap := BF_cap hn5 hs hB2
                  have hext : ∀ y, y < q → updN Q q b y = Q y := fun y hy => if_neg (by omega)
                  refine stG.k (next (upd sf b (iI ((D k + 1 : Nat) : Int))) (upd qf q (iI (b : Int))) (updN Q q b) (updN D q (D k + 1)) (q + 1) (some (.int (iI (i : Int)))) (some (.int (iI (j : Int)))) (some (.int (iI ((dm n v j : Int) + j - i)))) (some (.int (iI ((dm n v i : Int) - ((j : Int) - i))))) (some (.int (iI (b : Int)))) (some (.int (iI (n : Int)))) (hS.add hout) hB2 (by omega) (by rw [hext k hkq]; exact hQk) (fun p hp p1 p2 p3 => by
                    obtain ⟨x, hx, hx2⟩ := hall p hp p1 p2 p3
                    exact ⟨x, by omega, by rw [hext x hx]; exact hx2⟩) (fun _ _ _ => ⟨q, by omega, if_pos rfl⟩)) (fun r A' K => ask _ _ ?_)
                  have g1 := hS.2.2 b (by omega) hout
                  have g4 := hS.2.1 k hkq
                  rw [hQk] at g4
                  have g2 := BF_idx hB (D k) k hkq rfl
                  refine gr_run (pc' := 224) 2 rfl ?_
                  refine gr_icF (t := 341) rfl (by decide) (by omega) (by omega) (cN_ge (by omega)) ?_
                  refine gr_run (pc' := 231) 2 rfl ?_
                  refine gr_icF (t := 341) rfl (by decide) (by omega) (by omega) (cN_gt (by omega)) ?_
                  refine gr_run (pc' := 236) 1 rfl ?_
                  refine gr_ifT (t := 242) rfl (by decide) (by omega) (cI_ge (by omega)) ?_
                  refine gr_run (pc' := 248) 4 rfl ?_
                  refine row _ _ ?_ 0 (by omega)
                  refine gr_run (pc' := 303) 1 rfl ?_
                  refine gr_getf rfl rfl (by repeat (first | exact up_s | assumption | refine up_n (by first | assumption | decide | omega) ?_)) (by first | assumption | rfl) rfl ?_
                  refine gr_run (pc' := 308) 1 rfl ?_
                  refine gr_iald rfl (by repeat (first | exact up_s | assumption | refine up_n (by first | assumption | decide | omega) ?_)) (by first | assumption | rfl) (ix_i rfl (by omega) (by decide)) ?_
                  rw [g1]
                  refine gr_run (pc' := 311) 1 rfl ?_
                  refine gr_icF (t := 341) rfl (by decide) (by omega) (by omega) (cN_ne (by omega)) ?_
                  refine gr_run (pc' := 315) 1 rfl ?_
                  refine gr_getf rfl rfl (by repeat (first | exact up_s | assumption | refine up_n (by first | assumption | decide | omega) ?_)) (by first | assumption | rfl) rfl ?_
                  refine gr_run (pc' := 321) 2 rfl ?_
                  refine gr_getf rfl rfl (by repeat (first | exact up_s | assumption | refine up_n (by first | assumption | decide | omega) ?_)) (by first | assumption | rfl) rfl ?_
                  refine gr_run (pc' := 326) 1 rfl ?_
                  refine gr_iald rfl (by repeat (first | exact up_s | assumption | refine up_n (by first | assumption | decide | omega) ?_)) (by first | assumption | rfl) (ix_i rfl (by omega) (by decide)) ?_
                  rw [g4]
                  refine gr_run (pc' := 328) 1 rfl ?_
                  refine gr_iadd rfl ?_
                  rw [show ((D k : Nat) : Int) + 1 = ((D k + 1 : Nat) : Int) from rfl]
                  refine gr_iast rfl (by repeat (first | exact up_s | assumption | refine up_n (by first | assumption | decide | omega) ?_)) (by first | assumption | rfl) (ix_i rfl (by omega) (by decide)) ?_
                  rw [hSt_53]
                  refine gr_run (pc' := 331) 1 rfl ?_
                  refine gr_getf rfl rfl (by repeat (first | exact up_s | assumption | refine up_n (by first | assumption | decide | omega) ?_)) (by first | assumption | rfl) rfl ?_
                  refine gr_run (pc' := 337) 2 rfl ?_
                  refine gr_iast rfl (by repeat (first | exact up_s | assumption | refine up_n (by first | assumption | decide | omega) ?_)) (by first | assumption | rfl) (ix_i rfl (by omega) (by decide)) ?_
                  rw [hSt_54]
                  refine gr_iinc rfl rfl rfl rfl ?_
                  exact K
              · refine stG.k (next sf qf Q D q (some (.int (iI (i : Int)))) (some (.int (iI (j : Int)))) (some (.int (iI ((dm n v j : Int) + j - i)))) (some (.int (iI ((dm n v i : Int) - ((j : Int) - i))))) x11 x12 hS hB hkq hQk hall (fun _ _ q3 => absurd q3 h0')) (fun r A' K => ask _ _ ?_)
                refine gr_run (pc' := 224) 2 rfl ?_
                refine gr_icF (t := 341) rfl (by decide) (by omega) (by omega) (cN_ge (by omega)) ?_
                refine gr_run (pc' := 231) 2 rfl ?_
                refine gr_icF (t := 341) rfl (by decide) (by omega) (by omega) (cN_gt (by omega)) ?_
                refine gr_run (pc' := 236) 1 rfl ?_
                refine gr_ifF (t := 242) rfl (by decide) (by omega) (cN_ge (by omega)) ?_
                refine gr_run (pc' := 341) 1 rfl ?_
                exact K
            · refine stG.k (next sf qf Q D q (some (.int (iI (i : Int)))) (some (.int (iI (j : Int)))) (some (.int (iI ((dm n v j : Int) + j - i)))) (some (.int (iI ((dm n v i : Int) - ((j : Int) - i))))) x11 x12 hS hB hkq hQk hall (fun _ q2 _ => absurd q2 h9)) (fun r A' K => ask _ _ ?_)
              refine gr_run (pc' := 224) 2 rfl ?_
              refine gr_icF (t := 341) rfl (by decide) (by omega) (by omega) (cN_ge (by omega)) ?_
              refine gr_run (pc' := 231) 2 rfl ?_
              refine gr_icT (t := 341) rfl (by decide) (by omega) (by omega) (cI_gt (by omega)) ?_
              exact K
          · refine stG.k (next sf qf Q D q (some (.int (iI (i : Int)))) (some (.int (iI (j : Int)))) (some (.int (iI ((dm n v j : Int) + j - i)))) (some (.int (iI ((dm n v i : Int) - ((j : Int) - i))))) x11 x12 hS hB hkq hQk hall (fun q1 _ _ => absurd q1 hij)) (fun r A' K => ask _ _ ?_)
            refine gr_run (pc' := 224) 2 rfl ?_
            refine gr_icT (t := 341) rfl (by decide) (by omega) (by omega) (cI_ge (by omega)) ?_
            exact K
      -- its figures
      have figs : ∀ (j : Nat) (dr : Nat → Int32), j ≤ n → (∀ x, j ≤ x → x < n → dr x = iI (dm n v x)) →
          stG d n s t A 125 [some (.ref 43), some (.int (iI (t : Int))), some (.int (iI (q : Int))), some (.int (iI (k : Int))), some (.int (iI (v : Int))), some (.int (iI ((v / 10 ^ (n - j) : Nat) : Int))), some (.int (iI ((j : Int) - 1))), x7, x8, x9, x10, x11, x12] dr sf qf := by
        intro j
        induction j with
        | zero =>
          intro dr hj hdr
          refine stG.k (pairs dr (fun x hx => hdr x (by omega) hx) N 0 sf qf Q D q (iI ((v / 10 ^ (n - 0) : Nat) : Int)) x7 x8 x9 x10 x11 x12 (by omega) hS hB (by omega) hvv.symm (fun p hp => by omega)) (fun r A' K => ?_)
          refine gr_run (pc' := 127) 1 rfl ?_
          refine gr_ifT (t := 155) rfl (by decide) (by omega) (cI_lt (by omega)) ?_
          refine gr_run (pc' := 158) 2 rfl ?_
          exact K
        | succ j ih =>
          intro dr hj hdr
          have hvl : v / 10 ^ (n - (j + 1)) ≤ v := Nat.div_le_self _ _
          have d1 : v / 10 ^ (n - (j + 1)) % 10 = dm n v j := by unfold dm dg; rw [show n - 1 - j = n - (j + 1) by omega]
          have d2 : v / 10 ^ (n - (j + 1)) / 10 = v / 10 ^ (n - j) := by rw [Nat.div_div_eq_div_mul, ← Nat.pow_succ, show (n - (j + 1)).succ = n - j by omega]
          have ih' := ih (upd dr j (iI (dm n v j : Int))) (by omega) (fun x hx hxn => by
            unfold upd
            by_cases ex : x = j
            · rw [if_pos ex, ex]
            · rw [if_neg ex]; exact hdr x (by omega) hxn)
          rw [← d2] at ih'
          rw [← d1] at ih'
          generalize v / 10 ^ (n - (j + 1)) = w at *
          refine stG.k ih' (fun r A' K => ?_)
          rw [show ((j + 1 : Nat) : Int) - 1 = (j : Int) by omega]
          refine gr_run (pc' := 127) 1 rfl ?_
          refine gr_ifF (t := 155) rfl (by decide) (by omega) (cN_lt (by omega)) ?_
          refine gr_run (pc' := 131) 1 rfl ?_
          refine gr_getf rfl rfl (by repeat (first | exact up_s | assumption | refine up_n (by first | assumption | decide | omega) ?_)) (by first | assumption | rfl) rfl ?_
          refine gr_run (pc' := 140) 3 rfl ?_
          refine gr_iremN rfl (by omega) (by omega) (by omega) (by omega) ?_
          rw [show (w : Int) % 10 = ((w % 10 : Nat) : Int) from rfl]
          refine gr_iast rfl (by repeat (first | exact up_s | assumption | refine up_n (by first | assumption | decide | omega) ?_)) (by first | assumption | rfl) (ix_i rfl (by omega) (by decide)) ?_
          rw [hSt_49]
          refine gr_run (pc' := 146) 2 rfl ?_
          refine gr_idivN rfl (by omega) (by omega) (by omega) (by omega) ?_
          rw [show (w : Int) / 10 = ((w / 10 : Nat) : Int) from rfl]
          refine gr_run (pc' := 149) 1 rfl ?_
          refine gr_iinc rfl rfl rfl rfl ?_
          refine gr_run (pc' := 125) 1 rfl ?_
          exact K
      refine stG.k (figs n dr (Nat.le_refl _) (fun x h1 h2 => by omega)) (fun r A' K => ?_)
      rw [Nat.sub_self, Nat.pow_zero, Nat.div_one] at K
      refine gr_run (pc' := 91) 2 rfl ?_
      refine gr_icF (t := 353) rfl (by decide) (by omega) (by omega) (cN_ge (by omega)) ?_
      refine gr_run (pc' := 95) 1 rfl ?_
      refine gr_getf rfl rfl (by repeat (first | exact up_s | assumption | refine up_n (by first | assumption | decide | omega) ?_)) (by first | assumption | rfl) rfl ?_
      refine gr_run (pc' := 99) 1 rfl ?_
      refine gr_iald rfl (by repeat (first | exact up_s | assumption | refine up_n (by first | assumption | decide | omega) ?_)) (by first | assumption | rfl) (ix_i rfl (by omega) (by decide)) ?_
      rw [h4]
      refine gr_run (pc' := 102) 1 rfl ?_
      refine gr_icF (t := 353) rfl (by decide) (by omega) (by omega) (cN_ne (by omega)) ?_
      refine gr_run (pc' := 106) 1 rfl ?_
      refine gr_getf rfl rfl (by repeat (first | exact up_s | assumption | refine up_n (by first | assumption | decide | omega) ?_)) (by first | assumption | rfl) rfl ?_
      refine gr_run (pc' := 110) 1 rfl ?_
      refine gr_iald rfl (by repeat (first | exact up_s | assumption | refine up_n (by first | assumption | decide | omega) ?_)) (by first | assumption | rfl) (ix_i rfl (by omega) (by decide)) ?_
      rw [hvk]
      refine gr_run (pc' := 118) 4 rfl ?_
      refine gr_getf rfl rfl (by repeat (first | exact up_s | assumption | refine up_n (by first | assumption | decide | omega) ?_)) (by first | assumption | rfl) rfl ?_
      refine gr_run (pc' := 122) 1 rfl ?_
      refine gr_isub rfl ?_
      refine gr_run (pc' := 125) 1 rfl ?_
      exact K
  have clear : ∀ (m k : Nat) (sf : Nat → Int32), k + m = 100000 → (∀ i, i < k → sf i = iI (-4)) →
      stG d n s t A 24 [some (.ref 43), some (.int (iI (k : Int))), none, none, none, none, none, none, none, none, none, none, none] dr0 sf qf0 := by
    intro m
    induction m with
    | zero =>
      intro k sf hk hsf
      refine stG.k (main 100000 0 dr0 (upd sf s (iI ((0 : Nat) : Int))) (upd qf0 0 (iI (s : Int))) (fun _ => s) (fun _ => 0) 1 none none none none none none none none none (by omega) ⟨fun i hi => by rw [show i = 0 by omega]; exact if_pos rfl, fun i hi => if_pos rfl, fun v hv hv2 => ?_⟩ (BF_0 rfl rfl)) (fun r A' K => ?_)
      · unfold upd
        rw [if_neg (fun e => hv2 0 (by omega) e.symm)]
        exact hsf v (by omega)
      · have c2 : Rt mX7_numberOf d [.ref 46, .int (iI n)] (hSt A dr0 sf qf0) (some (.int (iI (t : Int)))) (hSt A dr0 sf qf0) := by
          rw [← htt]
          exact r_numberOf (up_n (by decide) (up_n (by decide) (up_n (by decide) e3))) rfl hn5 e4
        have c3 : Rt mX7_numberOf d [.ref 45, .int (iI n)] (hSt A dr0 sf qf0) (some (.int (iI (s : Int)))) (hSt A dr0 sf qf0) := by
          rw [← hss]
          exact r_numberOf (up_n (by decide) (up_n (by decide) (up_n (by decide) e1))) rfl hn5 e2
        refine gr_run (pc' := 27) 2 rfl ?_
        refine gr_icT (t := 44) rfl (by decide) (by omega) (by omega) (cI_ge (by omega)) ?_
        refine gr_run (pc' := 45) 1 rfl ?_
        refine gr_getf rfl rfl (by repeat (first | exact up_s | assumption | refine up_n (by first | assumption | decide | omega) ?_)) (by first | assumption | rfl) rfl ?_
        refine gr_run (pc' := 49) 1 rfl ?_
        refine gr_getf rfl rfl (by repeat (first | exact up_s | assumption | refine up_n (by first | assumption | decide | omega) ?_)) (by first | assumption | rfl) rfl ?_
        refine gr_callS (As := [_, _]) lk_7_175 rfl rfl (c2) rfl rfl rfl ?_
        refine gr_run (pc' := 57) 2 rfl ?_
        refine gr_getf rfl rfl (by repeat (first | exact up_s | assumption | refine up_n (by first | assumption | decide | omega) ?_)) (by first | assumption | rfl) rfl ?_
        refine gr_run (pc' := 62) 2 rfl ?_
        refine gr_getf rfl rfl (by repeat (first | exact up_s | assumption | refine up_n (by first | assumption | decide | omega) ?_)) (by first | assumption | rfl) rfl ?_
        refine gr_run (pc' := 66) 1 rfl ?_
        refine gr_getf rfl rfl (by repeat (first | exact up_s | assumption | refine up_n (by first | assumption | decide | omega) ?_)) (by first | assumption | rfl) rfl ?_
        refine gr_callS (As := [_, _]) lk_7_175 rfl rfl (c3) rfl rfl rfl ?_
        refine gr_iast rfl (by repeat (first | exact up_s | assumption | refine up_n (by first | assumption | decide | omega) ?_)) (by first | assumption | rfl) (ix_i (j := 0) rfl (by omega) (by decide)) ?_
        rw [hSt_54]
        refine gr_run (pc' := 74) 1 rfl ?_
        refine gr_getf rfl rfl (by repeat (first | exact up_s | assumption | refine up_n (by first | assumption | decide | omega) ?_)) (by first | assumption | rfl) rfl ?_
        refine gr_run (pc' := 78) 1 rfl ?_
        refine gr_getf rfl rfl (by repeat (first | exact up_s | assumption | refine up_n (by first | assumption | decide | omega) ?_)) (by first | assumption | rfl) rfl ?_
        refine gr_run (pc' := 82) 1 rfl ?_
        refine gr_iald rfl (by repeat (first | exact up_s | assumption | refine up_n (by first | assumption | decide | omega) ?_)) (by first | assumption | rfl) (ix_i (j := 0) rfl (by omega) (by decide)) ?_
        rw [show upd qf0 0 (iI (s : Int)) 0 = iI (s : Int) from if_pos rfl]
        refine gr_run (pc' := 84) 1 rfl ?_
        refine gr_iast rfl (by repeat (first | exact up_s | assumption | refine up_n (by first | assumption | decide | omega) ?_)) (by first | assumption | rfl) (ix_i rfl (by omega) (by decide)) ?_
        rw [hSt_53]
        refine gr_run (pc' := 89) 4 rfl ?_
        exact K
    | succ m ih =>
      intro k sf hk hsf
      refine stG.k (ih (k + 1) (upd sf k (iI (-4))) (by omega) (fun i hi => by
        unfold upd
        by_cases e : i = k
        · rw [if_pos e]
        · rw [if_neg e]; exact hsf i (by omega))) (fun r A' K => ?_)
      refine gr_run (pc' := 27) 2 rfl ?_
      refine gr_icF (t := 44) rfl (by decide) (by omega) (by omega) (cN_ge (by omega)) ?_
      refine gr_run (pc' := 31) 1 rfl ?_
      refine gr_getf rfl rfl (by repeat (first | exact up_s | assumption | refine up_n (by first | assumption | decide | omega) ?_)) (by first | assumption | rfl) rfl ?_
      refine gr_run (pc' := 37) 2 rfl ?_
      refine gr_iast rfl (by repeat (first | exact up_s | assumption | refine up_n (by first | assumption | decide | omega) ?_)) (by first | assumption | rfl) (ix_i rfl (by omega) (by decide)) ?_
      rw [hSt_53]
      refine gr_iinc rfl rfl rfl rfl ?_
      refine gr_run (pc' := 24) 1 rfl ?_
      exact K
  obtain ⟨r, dr', sf', qf', g1, g2⟩ := clear 100000 0 sf0 (by omega) (fun i hi => by omega)
  rw [show hSt A dr0 sf0 qf0 = A from by unfold hSt; rw [up_same s1, up_same s5, up_same s6]] at g1
  refine ⟨_, r, ?_, g2, hR.uSt dr' sf' qf', ((offE.rf.up (by omega)).up (by omega)).up (by omega)⟩
  refine rt_intro kX7_steps rfl rfl rfl ?_
  refine gr_run (pc' := 1) 1 rfl ?_
  refine gr_getf rfl rfl (by repeat (first | exact up_s | assumption | refine up_n (by first | assumption | decide | omega) ?_)) (by first | assumption | rfl) rfl ?_
  refine gr_run (pc' := 5) 1 rfl ?_
  refine gr_getf rfl rfl (by repeat (first | exact up_s | assumption | refine up_n (by first | assumption | decide | omega) ?_)) (by first | assumption | rfl) rfl ?_
  refine gr_icF (t := 19) rfl (by decide) (by omega) (by omega) (cN_ne (by omega)) ?_
  refine gr_run (pc' := 12) 1 rfl ?_
  refine gr_getf rfl rfl (by repeat (first | exact up_s | assumption | refine up_n (by first | assumption | decide | omega) ?_)) (by first | assumption | rfl) rfl ?_
  refine gr_run (pc' := 16) 1 rfl ?_
  refine gr_icT (t := 22) rfl (by decide) (by omega) (by omega) (cI_le (by omega)) ?_
  refine gr_run (pc' := 24) 2 rfl ?_
  exact g1
end ST
