/-! Swaps: codeOf, enqueueChanged, forgetSeen, fewest -/
def cdX (n : Nat) (h : Nat → Nat) : Nat := sumN (fun i => h i * 10 ^ i) n
theorem ch_range {c i j : Nat} (hc : c < 100000) (hij : i < j) (hj : j < 5) (h1 : dg c j + (j - i) ≤ 9) (h2 : j - i ≤ dg c i) : 0 ≤ chZ c i j ∧ chZ c i j < 100000 := by
  obtain ⟨a0, b0⟩ : ∃ x, x = c / 1 % 10 := ⟨_, rfl⟩
  obtain ⟨a1, b1⟩ : ∃ x, x = c / 10 % 10 := ⟨_, rfl⟩
  obtain ⟨a2, b2⟩ : ∃ x, x = c / 100 % 10 := ⟨_, rfl⟩
  obtain ⟨a3, b3⟩ : ∃ x, x = c / 1000 % 10 := ⟨_, rfl⟩
  obtain ⟨a4, b4⟩ : ∃ x, x = c / 10000 % 10 := ⟨_, rfl⟩
  have hsum : c = a0 + 10 * a1 + 100 * a2 + 1000 * a3 + 10000 * a4 := by omega
  have l0 : a0 ≤ 9 := by omega
  have l1 : a1 ≤ 9 := by omega
  have l2 : a2 ≤ 9 := by omega
  have l3 : a3 ≤ 9 := by omega
  have l4 : a4 ≤ 9 := by omega
  unfold chZ dg at *
  match i, j, hij, hj with
  | 0, 1, _, _ => simp only [Nat.reducePow, ← b0, ← b1, ← b2, ← b3, ← b4] at h1 h2 ⊢; clear b0 b1 b2 b3 b4; omega
  | 0, 2, _, _ => simp only [Nat.reducePow, ← b0, ← b1, ← b2, ← b3, ← b4] at h1 h2 ⊢; clear b0 b1 b2 b3 b4; omega
  | 0, 3, _, _ => simp only [Nat.reducePow, ← b0, ← b1, ← b2, ← b3, ← b4] at h1 h2 ⊢; clear b0 b1 b2 b3 b4; omega
  | 0, 4, _, _ => simp only [Nat.reducePow, ← b0, ← b1, ← b2, ← b3, ← b4] at h1 h2 ⊢; clear b0 b1 b2 b3 b4; omega
  | 1, 2, _, _ => simp only [Nat.reducePow, ← b0, ← b1, ← b2, ← b3, ← b4] at h1 h2 ⊢; clear b0 b1 b2 b3 b4; omega
  | 1, 3, _, _ => simp only [Nat.reducePow, ← b0, ← b1, ← b2, ← b3, ← b4] at h1 h2 ⊢; clear b0 b1 b2 b3 b4; omega
  | 1, 4, _, _ => simp only [Nat.reducePow, ← b0, ← b1, ← b2, ← b3, ← b4] at h1 h2 ⊢; clear b0 b1 b2 b3 b4; omega
  | 2, 3, _, _ => simp only [Nat.reducePow, ← b0, ← b1, ← b2, ← b3, ← b4] at h1 h2 ⊢; clear b0 b1 b2 b3 b4; omega
  | 2, 4, _, _ => simp only [Nat.reducePow, ← b0, ← b1, ← b2, ← b3, ← b4] at h1 h2 ⊢; clear b0 b1 b2 b3 b4; omega
  | 3, 4, _, _ => simp only [Nat.reducePow, ← b0, ← b1, ← b2, ← b3, ← b4] at h1 h2 ⊢; clear b0 b1 b2 b3 b4; omega
  | i + 4, j, h1, h2 => omega
theorem nbX_lt {n c c' : Nat} (hn : n ≤ 5) (hc : c < 100000) (h : nbX n c c') : c' < 100000 := by
  obtain ⟨i, j, h1, h2, h3, h4, h5⟩ := h
  have := ch_range hc h1 (by omega) h3 h4
  omega
theorem RN_lt {n s : Nat} (hn : n ≤ 5) (hs : s < 100000) : ∀ k c, RN (nbX n) s k c → c < 100000
  | 0, c, h => by rw [show c = s from h]; exact hs
  | k + 1, c, ⟨a, h1, h2⟩ => nbX_lt hn (RN_lt hn hs k a h1) h2
theorem cdX_lt {h : Nat → Nat} : ∀ {n : Nat}, (∀ i, i < n → h i ≤ 9) → cdX n h < 10 ^ n
  | 0, _ => by simp [cdX, sumN]
  | n + 1, hh => by
    have h1 := cdX_lt (n := n) (fun i hi => hh i (by omega))
    have h2 := hh n (by omega)
    unfold cdX at *
    simp only [sumN]
    have h3 : h n * 10 ^ n ≤ 9 * 10 ^ n := Nat.mul_le_mul_right _ h2
    rw [Nat.pow_succ]
    omega
def capOK (n s : Nat) : Prop := ∀ (Q : Nat → Nat) (q : Nat), (∀ i j, i < j → j < q → Q i ≠ Q j) → (∀ i, i < q → ∃ k, RN (nbX n) s k (Q i)) → q ≤ 120
/-- the seen are none -/
def Sw0 (A : AH) : Prop := ∃ (x : Int32) (qf df : Nat → Int32) (g : Nat → Int64), A 39 = Ob 4 [.ref 40, .ref 41, .ref 42, .int x] ∧ A 40 = Ia 120 qf ∧ A 41 = Ia 120 df ∧ A 42 = La 1563 g ∧ ∀ k, k < 1563 → g k = 0
theorem pow_le4 {i : Nat} (h : i < 5) : (10 : Nat) ^ i ≤ 10000 := Nat.pow_le_pow_right (n := 10) (by decide) (show i ≤ 4 by omega)
section SX
variable {d : Nat} {A : AH}
theorem r_X4_codeOf {a b n : Nat} {h : Nat → Nat} {f : Nat → Int32} (ha : A a = Ob 2 [.ref b, .int (iI n)]) (hb : A b = Ia 10 f) (pa : Nat.blt a NC = true) (pb : Nat.blt b NC = true) (hh : okH n h) (hn5 : n ≤ 5) (hf : ∀ i, i < n → f i = iI (h i)) : Rt mX4_codeOf (d + 2) [.ref a] A (some (.int (iI ((cdX n h : Nat) : Int)))) A := by
  have hn := hh.1
  have key : ∀ i, i ≤ n → Gr mX4_codeOf (d + 2) 4 [some (.ref a), some (.int (iI ((cdX i h : Nat) : Int))), some (.int (iI (i : Int)))] [] A (some (.int (iI ((cdX n h : Nat) : Int)))) A := by
    refine go_up ?_ ?_
    · refine gr_run (pc' := 6) 2 rfl ?_
      refine gr_callV (As := []) lk_4_34 rfl rfl (r_X2_length ha pa) (by repeat (first | exact up_s | assumption | refine up_n (by first | assumption | decide | omega) ?_)) (by first | assumption | exact Nat.le_of_ble_eq_true rfl | exact Nat.le_of_ble_eq_true (by assumption)) rfl rfl rfl rfl rfl ?_
      refine gr_icT (t := 37) rfl (by decide) (by omega) (by omega) (cI_ge (by omega)) ?_
      refine gr_run (pc' := 38) 1 rfl ?_
      exact gr_ret rfl rfl
    · intro i hi ih
      refine gr_run (pc' := 6) 2 rfl ?_
      refine gr_callV (As := []) lk_4_34 rfl rfl (r_X2_length ha pa) (by repeat (first | exact up_s | assumption | refine up_n (by first | assumption | decide | omega) ?_)) (by first | assumption | exact Nat.le_of_ble_eq_true rfl | exact Nat.le_of_ble_eq_true (by assumption)) rfl rfl rfl rfl rfl ?_
      refine gr_icF (t := 37) rfl (by decide) (by omega) (by omega) (cN_ge (by omega)) ?_
      refine gr_run (pc' := 14) 2 rfl ?_
      refine gr_icF (t := 37) rfl (by decide) (by omega) (by omega) (cN_ge (by omega)) ?_
      refine gr_run (pc' := 20) 3 rfl ?_
      refine gr_callV (As := [_]) lk_4_47 rfl rfl (r_X2_heightAt ha hb pa pb hn hf (by omega)) (by repeat (first | exact up_s | assumption | refine up_n (by first | assumption | decide | omega) ?_)) (by first | assumption | exact Nat.le_of_ble_eq_true rfl | exact Nat.le_of_ble_eq_true (by assumption)) rfl rfl rfl rfl rfl ?_
      rw [hg_lt hi]
      refine gr_gets rfl rfl ?_
      refine gr_run (pc' := 27) 1 rfl ?_
      refine gr_pv rfl (ix_i rfl (by omega) (by decide)) (pv_eq (by omega)) ?_
      refine gr_imul rfl ?_
      refine gr_iadd rfl ?_
      refine gr_run (pc' := 31) 1 rfl ?_
      refine gr_iinc rfl rfl rfl rfl ?_
      refine gr_run (pc' := 4) 1 rfl ?_
      exact ih
  refine rt_intro kX4_codeOf rfl rfl rfl ?_
  refine gr_run (pc' := 4) 4 rfl ?_
  exact key 0 (by omega)
/-- what a call leaves: the search as far as place k, one more throw of it looked at -/
def WE (A A' : AH) (n s k : Nat) (Q D : Nat → Nat) (q : Nat) (Q' D' : Nat → Nat) (q' : Nat) : Prop := SwA A' Q' D' q' ∧ offE A A' 39 42 ∧ q ≤ q' ∧ (∀ i, i < q → Q' i = Q i ∧ D' i = D i) ∧ BF (nbX n) s Q' D' q' k
theorem r_X4_enqueueChanged {n s k q : Nat} {Q D : Nat → Nat} (hn : n ≤ 5) (hs : s < 100000) (hcap : capOK n s) (hS : SwA A Q D q) (hB : BF (nbX n) s Q D q k) (hk : k < q) : ∃ (A' : AH) (Q' D' : Nat → Nat) (q' : Nat), Rt mX4_enqueueChanged (d + 1) [.ref 39, .int (iI (Q k)), .int (iI n), .int (iI ((D k + 1 : Nat) : Int))] A none A' ∧ WE A A' n s (k + 1) Q D q Q' D' q' := by
  have hcn : (Q k) < 100000 := RN_lt hn hs _ _ (hB.2.2.1 k hk).1
  generalize hc : Q k = c at *
  -- from the place (j, i) on: all that went before is in the queue
  have outer : ∀ (mo j : Nat) (A1 : AH) (Q1 D1 : Nat → Nat) (q1 : Nat), j + mo = max n 1 → 1 ≤ j → WE A A1 n s k Q D q Q1 D1 q1 → (∀ i' j', i' < j' → j' < j → dg c j' + (j' - i') ≤ 9 → j' - i' ≤ dg c i' → ∃ x, x < q1 ∧ (Q1 x : Int) = chZ c i' j') → ∀ x6 x7 x8 x9 x10 : Option Value,
      ∃ (A' : AH) (Q' D' : Nat → Nat) (q' : Nat), Gr mX4_enqueueChanged (d + 1) 10 [some (.ref 39), some (.int (iI c)), some (.int (iI n)), some (.int (iI ((D k + 1 : Nat) : Int))), some (.int (iI n)), some (.int (iI (j : Int))), x6, x7, x8, x9, x10] [] A1 none A' ∧ WE A A' n s (k + 1) Q D q Q' D' q' := by
    intro mo
    induction mo with
    | zero =>
      intro j A1 Q1 D1 q1 hj hj1 hW hpr x6 x7 x8 x9 x10
      refine ⟨A1, Q1, D1, q1, ?_, hW.1, hW.2.1, hW.2.2.1, hW.2.2.2.1, ?_⟩
      · refine gr_run (pc' := 14) 2 rfl ?_
        refine gr_icT (t := 133) rfl (by decide) (by omega) (by omega) (cI_ge (by omega)) ?_
        exact gr_ret rfl rfl
      · refine BF_next hW.2.2.2.2 (by have := hW.2.2.1; omega) (fun b hb => ?_)
        rw [(hW.2.2.2.1 k hk).1, hc] at hb
        obtain ⟨i', j', h1, h2, h3, h4, h5⟩ := hb
        obtain ⟨x, hx, hx2⟩ := hpr i' j' h1 (by omega) h3 h4
        exact ⟨x, hx, by omega⟩
    | succ mo iho =>
      intro j A1 Q1 D1 q1 hj hj1 hW hpr x6 x7 x8 x9 x10
      have hjn : j < n := by omega
      have hpj := pow_le4 (i := j) (by omega)
      have hpj0 : 0 < 10 ^ j := Nat.pow_pos (by decide)
      have inner : ∀ (mi i : Nat) (A1 : AH) (Q1 D1 : Nat → Nat) (q1 : Nat), i + mi = j → WE A A1 n s k Q D q Q1 D1 q1 → (∀ i' j', i' < j' → j' < j → dg c j' + (j' - i') ≤ 9 → j' - i' ≤ dg c i' → ∃ x, x < q1 ∧ (Q1 x : Int) = chZ c i' j') → (∀ i', i' < i → dg c j + (j - i') ≤ 9 → j - i' ≤ dg c i' → ∃ x, x < q1 ∧ (Q1 x : Int) = chZ c i' j) → ∀ x7 x8 x9 x10 : Option Value,
          ∃ (A' : AH) (Q' D' : Nat → Nat) (q' : Nat), Gr mX4_enqueueChanged (d + 1) 20 [some (.ref 39), some (.int (iI c)), some (.int (iI n)), some (.int (iI ((D k + 1 : Nat) : Int))), some (.int (iI n)), some (.int (iI (j : Int))), some (.int (iI (i : Int))), x7, x8, x9, x10] [] A1 none A' ∧ WE A A' n s (k + 1) Q D q Q' D' q' := by
        intro mi
        induction mi with
        | zero =>
          intro i A1 Q1 D1 q1 hi hW hpr hpi x7 x8 x9 x10
          have hij : i = j := by omega
          obtain ⟨A', Q', D', q', g1, g2⟩ := iho (j + 1) A1 Q1 D1 q1 (by omega) (by omega) hW (fun i' j' h1 h2 h3 h4 => by
            by_cases e : j' = j
            · subst e; exact hpi i' (by omega) h3 h4
            · exact hpr i' j' h1 (by omega) h3 h4) (some (.int (iI (i : Int)))) x7 x8 x9 x10
          refine ⟨A', Q', D', q', ?_, g2⟩
          refine gr_run (pc' := 24) 2 rfl ?_
          refine gr_icT (t := 127) rfl (by decide) (by omega) (by omega) (cI_ge (by omega)) ?_
          refine gr_iinc rfl rfl rfl rfl ?_
          refine gr_run (pc' := 10) 1 rfl ?_
          exact g1
        | succ mi ihi =>
          intro i A1 Q1 D1 q1 hi hW hpr hpi x7 x8 x9 x10
          have hij : i < j := by omega
          have hpi4 := pow_le4 (i := i) (by omega)
          have hpi0 : 0 < 10 ^ i := Nat.pow_pos (by decide)
          have hd1 : dg c i ≤ 9 := by unfold dg; omega
          have hd2 : dg c j ≤ 9 := by unfold dg; omega
          have hst : ∀ (A' : AH), (Gr mX4_enqueueChanged (d + 1) 73 [some (.ref 39), some (.int (iI c)), some (.int (iI n)), some (.int (iI ((D k + 1 : Nat) : Int))), some (.int (iI n)), some (.int (iI (j : Int))), some (.int (iI (i : Int))), some (.int (iI (dg c i : Int))), some (.int (iI (dg c j : Int))), some (.int (iI ((dg c j : Int) + ((j : Int) - i)))), some (.int (iI ((dg c i : Int) - ((j : Int) - i))))] [] A1 none A') → Gr mX4_enqueueChanged (d + 1) 20 [some (.ref 39), some (.int (iI c)), some (.int (iI n)), some (.int (iI ((D k + 1 : Nat) : Int))), some (.int (iI n)), some (.int (iI (j : Int))), some (.int (iI (i : Int))), x7, x8, x9, x10] [] A1 none A' := by
            intro A' K
            refine gr_run (pc' := 24) 2 rfl ?_
            refine gr_icF (t := 127) rfl (by decide) (by omega) (by omega) (cN_ge (by omega)) ?_
            refine gr_run (pc' := 28) 1 rfl ?_
            refine gr_gets rfl rfl ?_
            refine gr_run (pc' := 33) 1 rfl ?_
            refine gr_pv rfl (ix_i rfl (by omega) (by decide)) (pv_eq (by omega)) ?_
            refine gr_idivN rfl (by omega) (by omega) (by omega) (by omega) ?_
            rw [show (c : Int) / ((10 ^ i : Nat) : Int) = ((c / 10 ^ i : Nat) : Int) from rfl]
            have hq1 : c / 10 ^ i ≤ c := Nat.div_le_self _ _
            generalize hz1 : c / 10 ^ i = z1 at hq1 ⊢
            refine gr_run (pc' := 37) 1 rfl ?_
            refine gr_iremN rfl (by omega) (by omega) (by omega) (by omega) ?_
            rw [show (z1 : Int) % 10 = ((dg c i : Nat) : Int) from by rw [← hz1]; rfl]
            refine gr_run (pc' := 41) 2 rfl ?_
            refine gr_gets rfl rfl ?_
            refine gr_run (pc' := 46) 1 rfl ?_
            refine gr_pv rfl (ix_i rfl (by omega) (by decide)) (pv_eq (by omega)) ?_
            refine gr_idivN rfl (by omega) (by omega) (by omega) (by omega) ?_
            rw [show (c : Int) / ((10 ^ j : Nat) : Int) = ((c / 10 ^ j : Nat) : Int) from rfl]
            have hq2 : c / 10 ^ j ≤ c := Nat.div_le_self _ _
            generalize hz2 : c / 10 ^ j = z2 at hq2 ⊢
            refine gr_run (pc' := 50) 1 rfl ?_
            refine gr_iremN rfl (by omega) (by omega) (by omega) (by omega) ?_
            rw [show (z2 : Int) % 10 = ((dg c j : Nat) : Int) from by rw [← hz2]; rfl]
            refine gr_run (pc' := 59) 4 rfl ?_
            refine gr_isub rfl ?_
            refine gr_iadd rfl ?_
            refine gr_run (pc' := 69) 4 rfl ?_
            refine gr_isub rfl ?_
            refine gr_isub rfl ?_
            refine gr_run (pc' := 73) 1 rfl ?_
            exact K
          -- the next one, with the queue that came of this one
          have hnext : ∀ (A2 : AH) (Q2 D2 : Nat → Nat) (q2 : Nat), WE A A2 n s k Q D q Q2 D2 q2 → (∀ i' j', i' < j' → j' < j → dg c j' + (j' - i') ≤ 9 → j' - i' ≤ dg c i' → ∃ x, x < q2 ∧ (Q2 x : Int) = chZ c i' j') → (∀ i', i' < i + 1 → dg c j + (j - i') ≤ 9 → j - i' ≤ dg c i' → ∃ x, x < q2 ∧ (Q2 x : Int) = chZ c i' j) →
              ∃ (A' : AH) (Q' D' : Nat → Nat) (q' : Nat), Gr mX4_enqueueChanged (d + 1) 121 [some (.ref 39), some (.int (iI c)), some (.int (iI n)), some (.int (iI ((D k + 1 : Nat) : Int))), some (.int (iI n)), some (.int (iI (j : Int))), some (.int (iI (i : Int))), some (.int (iI (dg c i : Int))), some (.int (iI (dg c j : Int))), some (.int (iI ((dg c j : Int) + ((j : Int) - i)))), some (.int (iI ((dg c i : Int) - ((j : Int) - i))))] [] A2 none A' ∧ WE A A' n s (k + 1) Q D q Q' D' q' := by
            intro A2 Q2 D2 q2 hW2 hp2 hp3
            obtain ⟨A', Q', D', q', g1, g2⟩ := ihi (i + 1) A2 Q2 D2 q2 (by omega) hW2 hp2 hp3 (some (.int (iI (dg c i : Int)))) (some (.int (iI (dg c j : Int)))) (some (.int (iI ((dg c j : Int) + ((j : Int) - i))))) (some (.int (iI ((dg c i : Int) - ((j : Int) - i)))))
            refine ⟨A', Q', D', q', ?_, g2⟩
            refine gr_iinc rfl rfl rfl rfl ?_
            refine gr_run (pc' := 20) 1 rfl ?_
            exact g1
          by_cases hup : dg c j + (j - i) ≤ 9
          · by_cases hdn : j - i ≤ dg c i
            · have hcr := ch_range hcn hij (by omega) hup hdn
              obtain ⟨c', hc'⟩ : ∃ c' : Nat, chZ c i j = (c' : Int) := ⟨(chZ c i j).toNat, by omega⟩
              have hkq1 : k < q1 := by have := hW.2.2.1; omega
              have hnb : nbX n (Q1 k) c' := by
                rw [(hW.2.2.2.1 k hk).1, hc]
                exact ⟨i, j, hij, hjn, hup, hdn, hc'.symm⟩
              have hBF1 := hW.2.2.2.2
              have hreach : ∀ x, x < q1 → ∃ y, RN (nbX n) s y (Q1 x) := fun x hx => ⟨D1 x, (hBF1.2.2.1 x hx).1⟩
              have hq120 : q1 ≤ 120 := hcap Q1 q1 hBF1.2.1 hreach
              have hDk : D1 k = D k := (hW.2.2.2.1 k hk).2
              obtain ⟨A2, r1, r2, r3⟩ := r_X4_enqueue (d := d) (c := c') (dp := D k + 1) hW.1 (by omega) hq120 (fun hout => by
                have h9 := BF_add hBF1 hkq1 hnb hout
                have h8 := hcap _ _ h9.2.1 (fun x hx => ⟨_, (h9.2.2.1 x hx).1⟩)
                omega)
              have hgo : ∀ (A' : AH), (Gr mX4_enqueueChanged (d + 1) 121 [some (.ref 39), some (.int (iI c)), some (.int (iI n)), some (.int (iI ((D k + 1 : Nat) : Int))), some (.int (iI n)), some (.int (iI (j : Int))), some (.int (iI (i : Int))), some (.int (iI (dg c i : Int))), some (.int (iI (dg c j : Int))), some (.int (iI ((dg c j : Int) + ((j : Int) - i)))), some (.int (iI ((dg c i : Int) - ((j : Int) - i))))] [] A2 none A') → Gr mX4_enqueueChanged (d + 1) 73 [some (.ref 39), some (.int (iI c)), some (.int (iI n)), some (.int (iI ((D k + 1 : Nat) : Int))), some (.int (iI n)), some (.int (iI (j : Int))), some (.int (iI (i : Int))), some (.int (iI (dg c i : Int))), some (.int (iI (dg c j : Int))), some (.int (iI ((dg c j : Int) + ((j : Int) - i)))), some (.int (iI ((dg c i : Int) - ((j : Int) - i))))] [] A1 none A' := by
                intro A' K
                obtain ⟨qf, df, g, e1, e2, e3, e4, -⟩ := hW.1
                refine gr_run (pc' := 75) 1 rfl ?_
                refine gr_callN (As := [_]) lk_4_60 rfl rfl (by decide +kernel) (r_isHeightT (by omega)) rfl rfl rfl ?_
                refine gr_ifF (t := 121) rfl (by decide) (by omega) (cN_eq (by omega)) ?_
                refine gr_run (pc' := 83) 1 rfl ?_
                refine gr_callN (As := [_]) lk_4_60 rfl rfl (by decide +kernel) (r_isHeightT (by omega)) rfl rfl rfl ?_
                refine gr_ifF (t := 121) rfl (by decide) (by omega) (cN_eq (by omega)) ?_
                refine gr_run (pc' := 95) 4 rfl ?_
                refine gr_isub rfl ?_
                refine gr_gets rfl rfl ?_
                refine gr_run (pc' := 101) 1 rfl ?_
                refine gr_pv rfl (ix_i rfl (by omega) (by decide)) (pv_eq (by omega)) ?_
                refine gr_imul rfl ?_
                refine gr_iadd rfl ?_
                refine gr_run (pc' := 108) 2 rfl ?_
                refine gr_isub rfl ?_
                refine gr_gets rfl rfl ?_
                refine gr_run (pc' := 114) 1 rfl ?_
                refine gr_pv rfl (ix_i rfl (by omega) (by decide)) (pv_eq (by omega)) ?_
                refine gr_imul rfl ?_
                refine gr_iadd rfl ?_
                rw [show (c : Int) + ((dg c j : Int) + ((j : Int) - i) - dg c i) * ((10 ^ i : Nat) : Int) + ((dg c i : Int) - ((j : Int) - i) - dg c j) * ((10 ^ j : Nat) : Int) = (c' : Int) from hc']
                refine gr_run (pc' := 118) 1 rfl ?_
                refine gr_callV (As := [_, _]) lk_4_30 rfl rfl (r1) (by repeat (first | exact up_s | assumption | refine up_n (by first | assumption | decide | omega) ?_)) (by first | assumption | exact Nat.le_of_ble_eq_true rfl | exact Nat.le_of_ble_eq_true (by assumption)) rfl rfl rfl rfl rfl ?_
                exact K
              rcases r3 with ⟨⟨x, hx, hxc⟩, rfl⟩ | ⟨hout, hS2⟩
              · obtain ⟨A', Q', D', q', g1, g2⟩ := hnext A2 Q1 D1 q1 hW hpr (fun i' hi' h3 h4 => by
                  by_cases e : i' = i
                  · subst e; exact ⟨x, hx, by omega⟩
                  · exact hpi i' (by omega) h3 h4)
                exact ⟨A', Q', D', q', hst _ (hgo _ g1), g2⟩
              · have hext : ∀ y, y < q1 → updN Q1 q1 c' y = Q1 y := fun y hy => if_neg (by omega)
                have hextD : ∀ y, y < q1 → updN D1 q1 (D k + 1) y = D1 y := fun y hy => if_neg (by omega)
                obtain ⟨A', Q', D', q', g1, g2⟩ := hnext A2 (updN Q1 q1 c') (updN D1 q1 (D k + 1)) (q1 + 1) ⟨hS2, hW.2.1.tr r2, by have := hW.2.2.1; omega, fun y hy => by rw [hext y (by have := hW.2.2.1; omega), hextD y (by have := hW.2.2.1; omega)]; exact hW.2.2.2.1 y hy, by rw [← hDk]; exact BF_add hBF1 hkq1 hnb hout⟩ (fun i' j' h1 h2 h3 h4 => by
                  obtain ⟨x, hx, hx2⟩ := hpr i' j' h1 h2 h3 h4
                  exact ⟨x, by omega, by rw [hext x hx]; exact hx2⟩) (fun i' hi' h3 h4 => by
                  by_cases e : i' = i
                  · subst e; exact ⟨q1, by omega, by rw [show updN Q1 q1 c' q1 = c' from if_pos rfl]; exact hc'.symm⟩
                  · obtain ⟨x, hx, hx2⟩ := hpi i' (by omega) h3 h4
                    exact ⟨x, by omega, by rw [hext x hx]; exact hx2⟩)
                exact ⟨A', Q', D', q', hst _ (hgo _ g1), g2⟩
            · obtain ⟨A', Q', D', q', g1, g2⟩ := hnext A1 Q1 D1 q1 hW hpr (fun i' hi' h3 h4 => by
                by_cases e : i' = i
                · subst e; exact absurd h4 hdn
                · exact hpi i' (by omega) h3 h4)
              refine ⟨A', Q', D', q', hst _ ?_, g2⟩
              refine gr_run (pc' := 75) 1 rfl ?_
              refine gr_callN (As := [_]) lk_4_60 rfl rfl (by decide +kernel) (r_isHeightT (by omega)) rfl rfl rfl ?_
              refine gr_ifF (t := 121) rfl (by decide) (by omega) (cN_eq (by omega)) ?_
              refine gr_run (pc' := 83) 1 rfl ?_
              refine gr_callN (As := [_]) lk_4_60 rfl rfl (by decide +kernel) (r_isHeightF (by omega) (by omega)) rfl rfl rfl ?_
              refine gr_ifT (t := 121) rfl (by decide) (by omega) (cI_eq (by omega)) ?_
              exact g1
          · obtain ⟨A', Q', D', q', g1, g2⟩ := hnext A1 Q1 D1 q1 hW hpr (fun i' hi' h3 h4 => by
              by_cases e : i' = i
              · subst e; exact absurd h3 hup
              · exact hpi i' (by omega) h3 h4)
            refine ⟨A', Q', D', q', hst _ ?_, g2⟩
            refine gr_run (pc' := 75) 1 rfl ?_
            refine gr_callN (As := [_]) lk_4_60 rfl rfl (by decide +kernel) (r_isHeightF (by omega) (by omega)) rfl rfl rfl ?_
            refine gr_ifT (t := 121) rfl (by decide) (by omega) (cI_eq (by omega)) ?_
            exact g1
      obtain ⟨A', Q', D', q', g1, g2⟩ := inner j 0 A1 Q1 D1 q1 (by omega) hW hpr (fun i' hi' => by omega) x7 x8 x9 x10
      refine ⟨A', Q', D', q', ?_, g2⟩
      refine gr_run (pc' := 14) 2 rfl ?_
      refine gr_icF (t := 133) rfl (by decide) (by omega) (by omega) (cN_ge (by omega)) ?_
      refine gr_run (pc' := 20) 2 rfl ?_
      exact g1
  obtain ⟨A', Q', D', q', g1, g2⟩ := outer (max n 1 - 1) 1 A Q D q (by omega) (by omega) ⟨hS, offE.rf, Nat.le_refl _, fun _ _ => ⟨rfl, rfl⟩, hB⟩ (fun i' j' h1 h2 => by omega) none none none none none
  refine ⟨A', Q', D', q', ?_, g2⟩
  refine rt_intro kX4_enqueueChanged rfl rfl trivial ?_
  refine gr_run (pc' := 2) 2 rfl ?_
  refine gr_mmin lk_4_54 rfl rfl ?_
  rw [show (if iI 5 < iI (n : Int) then iI 5 else iI (n : Int)) = iI (n : Int) from if_neg (by rw [iI_lt (by omega) (by omega)]; omega)]
  refine gr_run (pc' := 10) 3 rfl ?_
  exact g1
end SX
