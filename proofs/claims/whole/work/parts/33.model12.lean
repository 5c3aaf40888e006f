/-! the model: primes -/
theorem or_sub' : ∀ t : Fin 256, ∀ j : Fin 8, t.val.testBit j.val = false → (t.val ||| 2 ^ j.val) - 2 ^ j.val = t.val ∧ (t.val ||| 2 ^ j.val).testBit j.val = true := by decide +kernel
theorem mk_pre {p pl x : Nat} {h : Nat → Nat} : mkN p (updN h pl x) pl = mkN p h pl := by
  unfold mkN
  exact orN_congr (fun i hi => by rw [lnd_loc (updN_o (by omega))])
section MB
variable {d : Nat} {A : AH} {σ : SS}
theorem m_primesB {p b m : Int} (bp : bd p) (bb : bd b) (bm : bd m) (h : ¬ told p b m ∨ 6 < p) : Rt mX7_primes (d + 3) [.ref 43, .int (iI p), .int (iI b), .int (iI m)] A (some (.int (iI (-1)))) A := by
  by_cases hp : 1 ≤ p ∧ p ≤ 6
  · have ht : ¬ told p b m := h.elim id (fun q => by omega)
    refine rt_intro kX7_primes rfl rfl rfl ?_
    refine gr_run (pc' := 1) 1 rfl ?_
    refine gr_i2l rfl (by omega) ?_
    refine gr_run (pc' := 6) 2 rfl ?_
    rw [show (((1 : Fin 2).val : Nat) : Int) = 1 from rfl]
    refine gr_callS (As := [_, _, _]) lk_7_61 rfl rfl (r_isT (by omega) (by omega) (by omega) (by omega) (by omega)) rfl rfl rfl ?_
    refine gr_ifF (t := 21) rfl (by decide) (by omega) (cN_eq (by omega)) ?_
    refine gr_run (pc' := 15) 3 rfl ?_
    refine gr_callS (As := [_, _, _]) lk_7_125 rfl rfl (r_areToldF bp bb bm ht) rfl rfl rfl ?_
    refine gr_ifF (t := 23) rfl (by decide) (by omega) (cN_ne (by omega)) ?_
    refine gr_run (pc' := 22) 1 rfl ?_
    exact gr_ret rfl rfl
  · refine rt_intro kX7_primes rfl rfl rfl ?_
    refine gr_run (pc' := 1) 1 rfl ?_
    refine gr_i2l rfl (by omega) ?_
    refine gr_run (pc' := 6) 2 rfl ?_
    rw [show (((1 : Fin 2).val : Nat) : Int) = 1 from rfl]
    refine gr_callS (As := [_, _, _]) lk_7_61 rfl rfl (r_isF (by omega) (by omega) (by omega) (by omega)) rfl rfl rfl ?_
    refine gr_ifT (t := 21) rfl (by decide) (by omega) (cI_eq (by omega)) ?_
    refine gr_run (pc' := 22) 1 rfl ?_
    exact gr_ret rfl rfl
theorem m_primes {p b m : Nat} (hR : RepM σ A) (hp6 : 1 ≤ p ∧ p ≤ 6) (hb : 1 ≤ b ∧ b ≤ 6) (hm : 1 ≤ m ∧ m ≤ 9) : ∃ A', Rt mX7_primes (d + 3) [.ref 43, .int (iI p), .int (iI b), .int (iI m)] A (some (.int (iI ((pfF p m p 0 0 b (fun _ => 0) : Nat) : Int)))) A' ∧ RepM σ A' ∧ offE A A' 43 56 := by
  have hp : 1 ≤ p ∧ p ≤ 8 := ⟨hp6.1, by omega⟩
  obtain ⟨g5, r1, r2⟩ := m_counts (d := d) hR hp hb.2 hm.2
  have hR1 := hR.u51 g5
  obtain ⟨h0, -, -, -, -, -, ⟨f0, e49⟩, -⟩ := id hR1
  have e51 : (va_up A 51 (La 12544 g5)) 51 = La 12544 g5 := up_s
  have hrs : rstOK p m (p * b) g5 := r2
  have hB48 : p * b ≤ 48 := Nat.mul_le_mul hp.2 hb.2
  have hBi : (p : Int) * (b : Int) = ((p * b : Nat) : Int) := rfl
  have h256 := pow8 hp.2
  generalize hA1 : va_up A 51 (La 12544 g5) = A1 at *
  generalize hG : GG p m 0 (p * b) = GT at *
  obtain ⟨B, hB⟩ : ∃ B, B = p * b := ⟨_, rfl⟩
  rw [← hB] at hB48 hBi hrs
  -- a level, from a throw on
  have lev : ∀ (kk pl : Nat), pl + kk + 1 = p → ∀ (h : Nat → Nat) (l : Nat), pv p b h pl → (∀ i, i < pl → h i ≤ m) → l ≤ B → l + wt (mkN p h pl) = p * (b - rdN p h pl) + tri pl →
      ∀ (y x n : Nat) (g : Nat → Int32) (R : Option Value), x + y = m + 1 → (∀ i, i < pl → g i = iI (h i : Int)) → g pl = iI ((x : Int) - 1) →
      (∀ g' : Nat → Int32, (∀ i, i < pl → g' i = g i) → ∃ gf : Nat → Int32, Gr mX7_primes (d + 3) 57 [some (.ref 43), some (.int (iI p)), some (.int (iI b)), some (.int (iI m)), some (.long (lI (GT : Int))), none, some (.int (iI ((n + sumN (fun i => if 0 < fb p m (mkN p h pl) (b - rdN p h pl) (x + i) then prF p m kk (pl + 1) (mkN p h pl ||| 2 ^ ((pl + (x + i)) % p)) (b - rdN p h pl - (pl + (x + i)) / p) (updN h pl (x + i)) else 0) y : Nat) : Int))), some (.ref 49), some (.int (iI ((pl : Int) - 1))), some (.int (iI ((mkN p h (pl - 1) : Nat) : Int))), some (.int (iI ((l + (if pl = 0 then 0 else h (pl - 1)) : Nat) : Int)))] [] (va_up A1 49 (Ia 10 g')) R (va_up A1 49 (Ia 10 gf))) →
      ∃ gf : Nat → Int32, Gr mX7_primes (d + 3) 57 [some (.ref 43), some (.int (iI p)), some (.int (iI b)), some (.int (iI m)), some (.long (lI (GT : Int))), none, some (.int (iI (n : Int))), some (.ref 49), some (.int (iI (pl : Int))), some (.int (iI ((mkN p h pl : Nat) : Int))), some (.int (iI (l : Int)))] [] (va_up A1 49 (Ia 10 g)) R (va_up A1 49 (Ia 10 gf)) := by
    intro kk
    induction kk with
    | zero =>
      intro pl hpl h l hv h9 hl hrel y
      have hbt := mk_bcp hp pl (by omega) hv.1
      have hmt := mkN_lt (h := h) hp.1 pl
      induction y with
      | zero =>
        intro x n g R hx hg hgp K
        obtain ⟨gf, r⟩ := K (upd g pl (iI (x : Int))) (fun i hi => if_neg (by omega))
        refine ⟨gf, ?_⟩
        refine gr_run (pc' := 59) 1 rfl ?_
        refine gr_ifF (t := 211) rfl (by decide) (by omega) (cN_lt (by omega)) ?_
        refine gr_run (pc' := 67) 3 rfl ?_
        refine gr_iald rfl (by repeat (first | exact up_s | assumption | refine up_n (by first | assumption | decide | omega) ?_)) (by first | assumption | rfl) (ix_i (j := pl) rfl (by omega) (by decide)) ?_
        rw [hgp]
        refine gr_run (pc' := 69) 1 rfl ?_
        refine gr_iadd rfl ?_
        rw [show (x : Int) - 1 + 1 = (x : Int) by omega]
        refine gr_iast rfl (by repeat (first | exact up_s | assumption | refine up_n (by first | assumption | decide | omega) ?_)) (by first | assumption | rfl) (ix_i (j := pl) rfl (by omega) (by decide)) ?_
        rw [bx_uu]
        refine gr_run (pc' := 75) 2 rfl ?_
        refine gr_iald rfl (by repeat (first | exact up_s | assumption | refine up_n (by first | assumption | decide | omega) ?_)) (by first | assumption | rfl) (ix_i (j := pl) rfl (by omega) (by decide)) ?_
        rw [show upd g pl (iI (x : Int)) pl = iI (x : Int) from if_pos rfl]
        by_cases e : pl = 0
        · subst e
          refine gr_run (pc' := 77) 1 rfl ?_
          refine gr_icF (t := 120) rfl (by decide) (by omega) (by omega) (cN_le (by omega)) ?_
          refine gr_iinc rfl rfl rfl rfl ?_
          refine gr_run (pc' := 85) 1 rfl ?_
          refine gr_ifT (t := 57) rfl (by decide) (by omega) (cI_lt (by omega)) ?_
          exact r
        · obtain ⟨q, rfl⟩ : ∃ q, pl = q + 1 := ⟨pl - 1, by omega⟩
          rw [if_neg (by omega)] at r
          rw [show q + 1 - 1 = q by omega] at r
          have hq9 := h9 q (by omega)
          have hlq : lnd p h q < p := lnd_lt hp.1
          have hfq : (mkN p h q).testBit (lnd p h q) = false := by
            cases e : (mkN p h q).testBit (lnd p h q) with
            | false => rfl
            | true =>
              obtain ⟨i, a1, a2⟩ := mkN_bit.mp e
              exact absurd a2 (hv.1 i q a1 (by omega))
          have hmq := mkN_lt (h := h) hp.1 q
          obtain ⟨o1, o2⟩ := or_sub' ⟨mkN p h q, by omega⟩ ⟨lnd p h q, by omega⟩ hfq
          simp only at o1 o2
          rw [← mk_s] at o1 o2
          refine gr_run (pc' := 77) 1 rfl ?_
          refine gr_icF (t := 120) rfl (by decide) (by omega) (by omega) (cN_le (by omega)) ?_
          refine gr_iinc rfl rfl rfl rfl ?_
          rw [show (((q + 1 : Nat) : Int) + -1) = (q : Int) by omega]
          refine gr_run (pc' := 85) 1 rfl ?_
          refine gr_ifF (t := 57) rfl (by decide) (by omega) (cN_lt (by omega)) ?_
          refine gr_run (pc' := 97) 5 rfl ?_
          refine gr_iald rfl (by repeat (first | exact up_s | assumption | refine up_n (by first | assumption | decide | omega) ?_)) (by first | assumption | rfl) (ix_i (j := q) rfl (by omega) (by decide)) ?_
          rw [show upd g (q + 1) (iI (x : Int)) q = iI (h q : Int) from (if_neg (by omega)).trans (hg q (by omega))]
          refine gr_iadd rfl ?_
          refine gr_run (pc' := 100) 1 rfl ?_
          refine gr_iremN rfl (by omega) (by omega) (by omega) (by omega) ?_
          rw [show ((q : Int) + (h q : Int)) % (p : Int) = ((lnd p h q : Nat) : Int) from rfl]
          refine gr_ishl1 rfl (by omega) ?_
          refine gr_run (pc' := 103) 1 rfl ?_
          refine gr_ixor rfl ?_
          refine gr_iand rfl ?_
          rw [and_not ⟨mkN p h (q + 1), by omega⟩ ⟨lnd p h q, by omega⟩ o2]
          rw [show ((⟨mkN p h (q + 1), by omega⟩ : Fin 512).val - 2 ^ (⟨lnd p h q, by omega⟩ : Fin 9).val) = mkN p h q from o1]
          refine gr_run (pc' := 113) 4 rfl ?_
          refine gr_iald rfl (by repeat (first | exact up_s | assumption | refine up_n (by first | assumption | decide | omega) ?_)) (by first | assumption | rfl) (ix_i (j := q) rfl (by omega) (by decide)) ?_
          rw [show upd g (q + 1) (iI (x : Int)) q = iI (h q : Int) from (if_neg (by omega)).trans (hg q (by omega))]
          refine gr_iadd rfl ?_
          refine gr_run (pc' := 57) 2 rfl ?_
          rw [show (((q + 1 : Nat) : Int) - 1) = (q : Int) by omega] at r
          exact r
      | succ y ih =>
        intro x n g R hx hg hgp K
        have hfl := fb_le hp.2 hm.2 (mkN p h pl) (b - rdN p h pl) x
        have hgu : ∀ i, i < pl → upd g pl (iI (x : Int)) i = iI (h i : Int) := fun i hi => (if_neg (by omega)).trans (hg i hi)
        rw [show y + 1 = y + 1 from rfl] at K
        simp only [sumN_shift] at K
        have K2 := fun g' hg' => K g' hg'
        have step : ∀ nx : Nat, nx = (if 0 < fb p m (mkN p h pl) (b - rdN p h pl) x then unN p (updN h pl x) else 0) → ∃ gf : Nat → Int32, Gr mX7_primes (d + 3) 57 [some (.ref 43), some (.int (iI p)), some (.int (iI b)), some (.int (iI m)), some (.long (lI (GT : Int))), none, some (.int (iI ((n + nx : Nat) : Int))), some (.ref 49), some (.int (iI (pl : Int))), some (.int (iI ((mkN p h pl : Nat) : Int))), some (.int (iI (l : Int)))] [] (va_up A1 49 (Ia 10 (upd g pl (iI (x : Int))))) R (va_up A1 49 (Ia 10 gf)) := by
          intro nx hnx
          refine ih (x + 1) (n + nx) (upd g pl (iI (x : Int))) R (by omega) hgu (by rw [show upd g pl (iI (x : Int)) pl = iI (x : Int) from if_pos rfl]; congr 1; omega) (fun g' hg' => ?_)
          have := K2 g' (fun i hi => (hg' i hi).trans (if_neg (by omega)))
          simp only [Nat.add_zero, prF] at this
          rw [← hnx, ← Nat.add_assoc] at this
          rw [sumN_congr (g := fun i => if 0 < fb p m (mkN p h pl) (b - rdN p h pl) (x + (i + 1)) then prF p m 0 (pl + 1) (mkN p h pl ||| 2 ^ ((pl + (x + (i + 1))) % p)) (b - rdN p h pl - (pl + (x + (i + 1))) / p) (updN h pl (x + (i + 1))) else 0) (fun i _ => by rw [show x + 1 + i = x + (i + 1) by omega])]
          exact this
        by_cases c : fb p m (mkN p h pl) (b - rdN p h pl) x = 0
        · obtain ⟨gf, r⟩ := step 0 (by rw [if_neg (by omega)])
          rw [Nat.add_zero] at r
          have hz : cmpZ ((0 : Nat) : Int) ((0 : Fin 2).val : Int) = 0 := cmpZ_eq rfl
          refine ⟨gf, ?_⟩
          refine gr_run (pc' := 59) 1 rfl ?_
          refine gr_ifF (t := 211) rfl (by decide) (by omega) (cN_lt (by omega)) ?_
          refine gr_run (pc' := 67) 3 rfl ?_
          refine gr_iald rfl (by repeat (first | exact up_s | assumption | refine up_n (by first | assumption | decide | omega) ?_)) (by first | assumption | rfl) (ix_i (j := pl) rfl (by omega) (by decide)) ?_
          rw [hgp]
          refine gr_run (pc' := 69) 1 rfl ?_
          refine gr_iadd rfl ?_
          rw [show (x : Int) - 1 + 1 = (x : Int) by omega]
          refine gr_iast rfl (by repeat (first | exact up_s | assumption | refine up_n (by first | assumption | decide | omega) ?_)) (by first | assumption | rfl) (ix_i (j := pl) rfl (by omega) (by decide)) ?_
          rw [bx_uu]
          refine gr_run (pc' := 75) 2 rfl ?_
          refine gr_iald rfl (by repeat (first | exact up_s | assumption | refine up_n (by first | assumption | decide | omega) ?_)) (by first | assumption | rfl) (ix_i (j := pl) rfl (by omega) (by decide)) ?_
          rw [show upd g pl (iI (x : Int)) pl = iI (x : Int) from if_pos rfl]
          refine gr_run (pc' := 77) 1 rfl ?_
          refine gr_icT (t := 120) rfl (by decide) (by omega) (by omega) (cI_le (by omega)) ?_
          refine gr_run (pc' := 130) 6 rfl ?_
          refine gr_iald rfl (by repeat (first | exact up_s | assumption | refine up_n (by first | assumption | decide | omega) ?_)) (by first | assumption | rfl) (ix_i (j := pl) rfl (by omega) (by decide)) ?_
          rw [show upd g pl (iI (x : Int)) pl = iI (x : Int) from if_pos rfl]
          refine gr_callV (As := [_, _, _, _]) lk_7_121 rfl rfl (r_afterF (m := m) (r := b - rdN p h pl) (up_n (by decide) h0) (up_n (by decide) e51) hp hmt (by omega) hB48 hl (by omega) hrs (by rw [hbt]; exact hrel)) (by repeat (first | exact up_s | assumption | refine up_n (by first | assumption | decide | omega) ?_)) (by first | assumption | exact Nat.le_of_ble_eq_true rfl | exact Nat.le_of_ble_eq_true (by assumption)) rfl rfl rfl rfl rfl ?_
          rw [c]
          refine gr_run (pc' := 135) 1 rfl ?_
          refine gr_lcmp rfl (by omega) (by omega) ?_
          refine gr_ifF (t := 142) rfl (by decide) (by omega) (cN_ne (by omega)) ?_
          refine gr_run (pc' := 57) 1 rfl ?_
          exact r
        · obtain ⟨gf, r⟩ := step (unN p (updN h pl x)) (by rw [if_pos (by omega)])
          have hz : cmpZ ((fb p m (mkN p h pl) (b - rdN p h pl) x : Nat) : Int) ((0 : Fin 2).val : Int) = 1 := cmpZ_gt (show (0 : Int) < ((fb p m (mkN p h pl) (b - rdN p h pl) x : Nat) : Int) by omega)
          have hun := unN_le p (updN h pl x)
          have hok : okH p (updN h pl x) := ⟨⟨hp.1, by omega⟩, fun i hi => by
            by_cases e : i = pl
            · rw [e, updN_s]; omega
            · rw [updN_o e]; exact Nat.le_trans (h9 i (by omega)) hm.2⟩
          refine ⟨gf, ?_⟩
          refine gr_run (pc' := 59) 1 rfl ?_
          refine gr_ifF (t := 211) rfl (by decide) (by omega) (cN_lt (by omega)) ?_
          refine gr_run (pc' := 67) 3 rfl ?_
          refine gr_iald rfl (by repeat (first | exact up_s | assumption | refine up_n (by first | assumption | decide | omega) ?_)) (by first | assumption | rfl) (ix_i (j := pl) rfl (by omega) (by decide)) ?_
          rw [hgp]
          refine gr_run (pc' := 69) 1 rfl ?_
          refine gr_iadd rfl ?_
          rw [show (x : Int) - 1 + 1 = (x : Int) by omega]
          refine gr_iast rfl (by repeat (first | exact up_s | assumption | refine up_n (by first | assumption | decide | omega) ?_)) (by first | assumption | rfl) (ix_i (j := pl) rfl (by omega) (by decide)) ?_
          rw [bx_uu]
          refine gr_run (pc' := 75) 2 rfl ?_
          refine gr_iald rfl (by repeat (first | exact up_s | assumption | refine up_n (by first | assumption | decide | omega) ?_)) (by first | assumption | rfl) (ix_i (j := pl) rfl (by omega) (by decide)) ?_
          rw [show upd g pl (iI (x : Int)) pl = iI (x : Int) from if_pos rfl]
          refine gr_run (pc' := 77) 1 rfl ?_
          refine gr_icT (t := 120) rfl (by decide) (by omega) (by omega) (cI_le (by omega)) ?_
          refine gr_run (pc' := 130) 6 rfl ?_
          refine gr_iald rfl (by repeat (first | exact up_s | assumption | refine up_n (by first | assumption | decide | omega) ?_)) (by first | assumption | rfl) (ix_i (j := pl) rfl (by omega) (by decide)) ?_
          rw [show upd g pl (iI (x : Int)) pl = iI (x : Int) from if_pos rfl]
          refine gr_callV (As := [_, _, _, _]) lk_7_121 rfl rfl (r_afterF (m := m) (r := b - rdN p h pl) (up_n (by decide) h0) (up_n (by decide) e51) hp hmt (by omega) hB48 hl (by omega) hrs (by rw [hbt]; exact hrel)) (by repeat (first | exact up_s | assumption | refine up_n (by first | assumption | decide | omega) ?_)) (by first | assumption | exact Nat.le_of_ble_eq_true rfl | exact Nat.le_of_ble_eq_true (by assumption)) rfl rfl rfl rfl rfl ?_
          refine gr_run (pc' := 135) 1 rfl ?_
          refine gr_lcmp rfl (by omega) (by omega) ?_
          refine gr_ifT (t := 142) rfl (by decide) (by omega) (cI_ne (by omega)) ?_
          refine gr_run (pc' := 146) 3 rfl ?_
          refine gr_isub rfl ?_
          refine gr_icF (t := 172) rfl (by decide) (by omega) (by omega) (cN_ne (by omega)) ?_
          refine gr_run (pc' := 155) 3 rfl ?_
          have hrow : ∀ i, i < p → upd g pl (iI (x : Int)) i = iI (updN h pl x i : Int) := fun i hi => by
            by_cases e : i = pl
            · rw [e, updN_s]; exact if_pos rfl
            · rw [updN_o e]; exact hgu i (by omega)
          refine gr_callS (As := [_, _]) lk_7_150 rfl rfl (r_isPrime (h := updN h pl x) up_s rfl hok hrow) rfl rfl rfl ?_
          by_cases cu : unN p (updN h pl x) = 0
          · rw [cu] at r ⊢
            refine gr_ifT (t := 165) rfl (by decide) (by omega) (cI_eq (by omega)) ?_
            refine gr_run (pc' := 166) 1 rfl ?_
            refine gr_iadd rfl ?_
            refine gr_run (pc' := 57) 2 rfl ?_
            exact r
          · rw [show unN p (updN h pl x) = 1 by omega] at r ⊢
            refine gr_ifF (t := 165) rfl (by decide) (by omega) (cN_eq (by omega)) ?_
            refine gr_run (pc' := 166) 2 rfl ?_
            refine gr_iadd rfl ?_
            refine gr_run (pc' := 57) 2 rfl ?_
            exact r
    | succ kk IH =>
      intro pl hpl h l hv h9 hl hrel y
      have hbt := mk_bcp hp pl (by omega) hv.1
      have hmt := mkN_lt (h := h) hp.1 pl
      induction y with
      | zero =>
        intro x n g R hx hg hgp K
        obtain ⟨gf, r⟩ := K (upd g pl (iI (x : Int))) (fun i hi => if_neg (by omega))
        refine ⟨gf, ?_⟩
        refine gr_run (pc' := 59) 1 rfl ?_
        refine gr_ifF (t := 211) rfl (by decide) (by omega) (cN_lt (by omega)) ?_
        refine gr_run (pc' := 67) 3 rfl ?_
        refine gr_iald rfl (by repeat (first | exact up_s | assumption | refine up_n (by first | assumption | decide | omega) ?_)) (by first | assumption | rfl) (ix_i (j := pl) rfl (by omega) (by decide)) ?_
        rw [hgp]
        refine gr_run (pc' := 69) 1 rfl ?_
        refine gr_iadd rfl ?_
        rw [show (x : Int) - 1 + 1 = (x : Int) by omega]
        refine gr_iast rfl (by repeat (first | exact up_s | assumption | refine up_n (by first | assumption | decide | omega) ?_)) (by first | assumption | rfl) (ix_i (j := pl) rfl (by omega) (by decide)) ?_
        rw [bx_uu]
        refine gr_run (pc' := 75) 2 rfl ?_
        refine gr_iald rfl (by repeat (first | exact up_s | assumption | refine up_n (by first | assumption | decide | omega) ?_)) (by first | assumption | rfl) (ix_i (j := pl) rfl (by omega) (by decide)) ?_
        rw [show upd g pl (iI (x : Int)) pl = iI (x : Int) from if_pos rfl]
        by_cases e : pl = 0
        · subst e
          refine gr_run (pc' := 77) 1 rfl ?_
          refine gr_icF (t := 120) rfl (by decide) (by omega) (by omega) (cN_le (by omega)) ?_
          refine gr_iinc rfl rfl rfl rfl ?_
          refine gr_run (pc' := 85) 1 rfl ?_
          refine gr_ifT (t := 57) rfl (by decide) (by omega) (cI_lt (by omega)) ?_
          exact r
        · obtain ⟨q, rfl⟩ : ∃ q, pl = q + 1 := ⟨pl - 1, by omega⟩
          rw [if_neg (by omega)] at r
          rw [show q + 1 - 1 = q by omega] at r
          have hq9 := h9 q (by omega)
          have hlq : lnd p h q < p := lnd_lt hp.1
          have hfq : (mkN p h q).testBit (lnd p h q) = false := by
            cases e : (mkN p h q).testBit (lnd p h q) with
            | false => rfl
            | true =>
              obtain ⟨i, a1, a2⟩ := mkN_bit.mp e
              exact absurd a2 (hv.1 i q a1 (by omega))
          have hmq := mkN_lt (h := h) hp.1 q
          obtain ⟨o1, o2⟩ := or_sub' ⟨mkN p h q, by omega⟩ ⟨lnd p h q, by omega⟩ hfq
          simp only at o1 o2
          rw [← mk_s] at o1 o2
          refine gr_run (pc' := 77) 1 rfl ?_
          refine gr_icF (t := 120) rfl (by decide) (by omega) (by omega) (cN_le (by omega)) ?_
          refine gr_iinc rfl rfl rfl rfl ?_
          rw [show (((q + 1 : Nat) : Int) + -1) = (q : Int) by omega]
          refine gr_run (pc' := 85) 1 rfl ?_
          refine gr_ifF (t := 57) rfl (by decide) (by omega) (cN_lt (by omega)) ?_
          refine gr_run (pc' := 97) 5 rfl ?_
          refine gr_iald rfl (by repeat (first | exact up_s | assumption | refine up_n (by first | assumption | decide | omega) ?_)) (by first | assumption | rfl) (ix_i (j := q) rfl (by omega) (by decide)) ?_
          rw [show upd g (q + 1) (iI (x : Int)) q = iI (h q : Int) from (if_neg (by omega)).trans (hg q (by omega))]
          refine gr_iadd rfl ?_
          refine gr_run (pc' := 100) 1 rfl ?_
          refine gr_iremN rfl (by omega) (by omega) (by omega) (by omega) ?_
          rw [show ((q : Int) + (h q : Int)) % (p : Int) = ((lnd p h q : Nat) : Int) from rfl]
          refine gr_ishl1 rfl (by omega) ?_
          refine gr_run (pc' := 103) 1 rfl ?_
          refine gr_ixor rfl ?_
          refine gr_iand rfl ?_
          rw [and_not ⟨mkN p h (q + 1), by omega⟩ ⟨lnd p h q, by omega⟩ o2]
          rw [show ((⟨mkN p h (q + 1), by omega⟩ : Fin 512).val - 2 ^ (⟨lnd p h q, by omega⟩ : Fin 9).val) = mkN p h q from o1]
          refine gr_run (pc' := 113) 4 rfl ?_
          refine gr_iald rfl (by repeat (first | exact up_s | assumption | refine up_n (by first | assumption | decide | omega) ?_)) (by first | assumption | rfl) (ix_i (j := q) rfl (by omega) (by decide)) ?_
          rw [show upd g (q + 1) (iI (x : Int)) q = iI (h q : Int) from (if_neg (by omega)).trans (hg q (by omega))]
          refine gr_iadd rfl ?_
          refine gr_run (pc' := 57) 2 rfl ?_
          rw [show (((q + 1 : Nat) : Int) - 1) = (q : Int) by omega] at r
          exact r
      | succ y ih =>
        intro x n g R hx hg hgp K
        have hfl := fb_le hp.2 hm.2 (mkN p h pl) (b - rdN p h pl) x
        have hgu : ∀ i, i < pl → upd g pl (iI (x : Int)) i = iI (h i : Int) := fun i hi => (if_neg (by omega)).trans (hg i hi)
        simp only [sumN_shift] at K
        have step : ∀ (nx : Nat) (gn : Nat → Int32), (∀ i, i < pl + 1 → gn i = upd g pl (iI (x : Int)) i) → nx = (if 0 < fb p m (mkN p h pl) (b - rdN p h pl) x then prF p m (kk + 1) (pl + 1) (mkN p h pl ||| 2 ^ ((pl + x) % p)) (b - rdN p h pl - (pl + x) / p) (updN h pl x) else 0) → ∃ gf : Nat → Int32, Gr mX7_primes (d + 3) 57 [some (.ref 43), some (.int (iI p)), some (.int (iI b)), some (.int (iI m)), some (.long (lI (GT : Int))), none, some (.int (iI ((n + nx : Nat) : Int))), some (.ref 49), some (.int (iI (pl : Int))), some (.int (iI ((mkN p h pl : Nat) : Int))), some (.int (iI (l : Int)))] [] (va_up A1 49 (Ia 10 gn)) R (va_up A1 49 (Ia 10 gf)) := by
          intro nx gn hgn hnx
          refine ih (x + 1) (n + nx) gn R (by omega) (fun i hi => (hgn i (by omega)).trans (hgu i hi)) (by rw [hgn pl (by omega), show upd g pl (iI (x : Int)) pl = iI (x : Int) from if_pos rfl]; congr 1; omega) (fun g' hg' => ?_)
          have := K g' (fun i hi => ((hg' i hi).trans (hgn i (by omega))).trans (if_neg (by omega)))
          simp only [Nat.add_zero] at this
          rw [← hnx, ← Nat.add_assoc] at this
          rw [sumN_congr (g := fun i => if 0 < fb p m (mkN p h pl) (b - rdN p h pl) (x + (i + 1)) then prF p m (kk + 1) (pl + 1) (mkN p h pl ||| 2 ^ ((pl + (x + (i + 1))) % p)) (b - rdN p h pl - (pl + (x + (i + 1))) / p) (updN h pl (x + (i + 1))) else 0) (fun i _ => by rw [show x + 1 + i = x + (i + 1) by omega])]
          exact this
        by_cases c : fb p m (mkN p h pl) (b - rdN p h pl) x = 0
        · obtain ⟨gf, r⟩ := step 0 (upd g pl (iI (x : Int))) (fun i _ => rfl) (by rw [if_neg (by omega)])
          rw [Nat.add_zero] at r
          have hz : cmpZ ((0 : Nat) : Int) ((0 : Fin 2).val : Int) = 0 := cmpZ_eq rfl
          refine ⟨gf, ?_⟩
          refine gr_run (pc' := 59) 1 rfl ?_
          refine gr_ifF (t := 211) rfl (by decide) (by omega) (cN_lt (by omega)) ?_
          refine gr_run (pc' := 67) 3 rfl ?_
          refine gr_iald rfl (by repeat (first | exact up_s | assumption | refine up_n (by first | assumption | decide | omega) ?_)) (by first | assumption | rfl) (ix_i (j := pl) rfl (by omega) (by decide)) ?_
          rw [hgp]
          refine gr_run (pc' := 69) 1 rfl ?_
          refine gr_iadd rfl ?_
          rw [show (x : Int) - 1 + 1 = (x : Int) by omega]
          refine gr_iast rfl (by repeat (first | exact up_s | assumption | refine up_n (by first | assumption | decide | omega) ?_)) (by first | assumption | rfl) (ix_i (j := pl) rfl (by omega) (by decide)) ?_
          rw [bx_uu]
          refine gr_run (pc' := 75) 2 rfl ?_
          refine gr_iald rfl (by repeat (first | exact up_s | assumption | refine up_n (by first | assumption | decide | omega) ?_)) (by first | assumption | rfl) (ix_i (j := pl) rfl (by omega) (by decide)) ?_
          rw [show upd g pl (iI (x : Int)) pl = iI (x : Int) from if_pos rfl]
          refine gr_run (pc' := 77) 1 rfl ?_
          refine gr_icT (t := 120) rfl (by decide) (by omega) (by omega) (cI_le (by omega)) ?_
          refine gr_run (pc' := 130) 6 rfl ?_
          refine gr_iald rfl (by repeat (first | exact up_s | assumption | refine up_n (by first | assumption | decide | omega) ?_)) (by first | assumption | rfl) (ix_i (j := pl) rfl (by omega) (by decide)) ?_
          rw [show upd g pl (iI (x : Int)) pl = iI (x : Int) from if_pos rfl]
          refine gr_callV (As := [_, _, _, _]) lk_7_121 rfl rfl (r_afterF (m := m) (r := b - rdN p h pl) (up_n (by decide) h0) (up_n (by decide) e51) hp hmt (by omega) hB48 hl (by omega) hrs (by rw [hbt]; exact hrel)) (by repeat (first | exact up_s | assumption | refine up_n (by first | assumption | decide | omega) ?_)) (by first | assumption | exact Nat.le_of_ble_eq_true rfl | exact Nat.le_of_ble_eq_true (by assumption)) rfl rfl rfl rfl rfl ?_
          rw [c]
          refine gr_run (pc' := 135) 1 rfl ?_
          refine gr_lcmp rfl (by omega) (by omega) ?_
          refine gr_ifF (t := 142) rfl (by decide) (by omega) (cN_ne (by omega)) ?_
          refine gr_run (pc' := 57) 1 rfl ?_
          exact r
        · have hz : cmpZ ((fb p m (mkN p h pl) (b - rdN p h pl) x : Nat) : Int) ((0 : Fin 2).val : Int) = 1 := cmpZ_gt (show (0 : Int) < ((fb p m (mkN p h pl) (b - rdN p h pl) x : Nat) : Int) by omega)
          obtain ⟨q1, q2⟩ := fb_pv hp (by omega) hv (Nat.pos_of_ne_zero c)
          have q3 := (pv_upd hv).mp q1
          have hxl : x ≤ l := by
            have h6 := Nat.pos_of_ne_zero c
            rw [← gb_fb (l := l) hp hmt (by omega) (by rw [hbt]; exact hrel)] at h6
            unfold gb at h6
            by_cases cc : l < x
            · rw [if_pos cc] at h6; split at h6 <;> omega
            · omega
          have hmod : (pl + x) % p < p := Nat.mod_lt _ (by omega)
          have w1 := wt_or' hp.2 hmt hmod q3.1
          have dm := Nat.div_add_mod (pl + x) p
          have hrel2 : l - x + wt (mkN p (updN h pl x) (pl + 1)) = p * (b - rdN p (updN h pl x) (pl + 1)) + tri (pl + 1) := by
            rw [mk_upd, rd_upd, w1, ← Nat.sub_sub, Nat.mul_sub, tri_s]
            have z1 := Nat.mul_le_mul_left p q3.2
            generalize p * ((pl + x) / p) = u1 at *
            generalize p * (b - rdN p h pl) = u2 at *
            generalize (pl + x) % p = u3 at *
            omega
          obtain ⟨gf, r⟩ := IH (pl + 1) (by omega) (updN h pl x) (l - x) q1 (fun i hi => by
            by_cases e : i = pl
            · rw [e, updN_s]; omega
            · rw [updN_o e]; exact h9 i (by omega)) (by omega) hrel2 (m + 1) 0 n (upd (upd g pl (iI (x : Int))) (pl + 1) (iI (-1))) R (by omega) (fun i hi => by
            rw [show upd (upd g pl (iI (x : Int))) (pl + 1) (iI (-1)) i = upd g pl (iI (x : Int)) i from if_neg (by omega)]
            by_cases e : i = pl
            · rw [e, updN_s]; exact if_pos rfl
            · rw [updN_o e]; exact hgu i (by omega)) (by rw [show ((0 : Nat) : Int) - 1 = -1 from rfl]; exact if_pos rfl) (fun g' hg' => by
            have := step _ g' (fun i hi => (hg' i hi).trans (if_neg (by omega))) rfl
            obtain ⟨gf, r⟩ := this
            refine ⟨gf, ?_⟩
            rw [if_pos (Nat.pos_of_ne_zero c)] at r
            rw [show pl + 1 - 1 = pl by omega, mk_pre, if_neg (by omega), updN_s, show l - x + x = l by omega, show (((pl + 1 : Nat) : Int) - 1) = (pl : Int) by omega, mk_upd, rd_upd, ← Nat.sub_sub]
            simp only [Nat.zero_add]
            exact r)
          refine ⟨gf, ?_⟩
          refine gr_run (pc' := 59) 1 rfl ?_
          refine gr_ifF (t := 211) rfl (by decide) (by omega) (cN_lt (by omega)) ?_
          refine gr_run (pc' := 67) 3 rfl ?_
          refine gr_iald rfl (by repeat (first | exact up_s | assumption | refine up_n (by first | assumption | decide | omega) ?_)) (by first | assumption | rfl) (ix_i (j := pl) rfl (by omega) (by decide)) ?_
          rw [hgp]
          refine gr_run (pc' := 69) 1 rfl ?_
          refine gr_iadd rfl ?_
          rw [show (x : Int) - 1 + 1 = (x : Int) by omega]
          refine gr_iast rfl (by repeat (first | exact up_s | assumption | refine up_n (by first | assumption | decide | omega) ?_)) (by first | assumption | rfl) (ix_i (j := pl) rfl (by omega) (by decide)) ?_
          rw [bx_uu]
          refine gr_run (pc' := 75) 2 rfl ?_
          refine gr_iald rfl (by repeat (first | exact up_s | assumption | refine up_n (by first | assumption | decide | omega) ?_)) (by first | assumption | rfl) (ix_i (j := pl) rfl (by omega) (by decide)) ?_
          rw [show upd g pl (iI (x : Int)) pl = iI (x : Int) from if_pos rfl]
          refine gr_run (pc' := 77) 1 rfl ?_
          refine gr_icT (t := 120) rfl (by decide) (by omega) (by omega) (cI_le (by omega)) ?_
          refine gr_run (pc' := 130) 6 rfl ?_
          refine gr_iald rfl (by repeat (first | exact up_s | assumption | refine up_n (by first | assumption | decide | omega) ?_)) (by first | assumption | rfl) (ix_i (j := pl) rfl (by omega) (by decide)) ?_
          rw [show upd g pl (iI (x : Int)) pl = iI (x : Int) from if_pos rfl]
          refine gr_callV (As := [_, _, _, _]) lk_7_121 rfl rfl (r_afterF (m := m) (r := b - rdN p h pl) (up_n (by decide) h0) (up_n (by decide) e51) hp hmt (by omega) hB48 hl (by omega) hrs (by rw [hbt]; exact hrel)) (by repeat (first | exact up_s | assumption | refine up_n (by first | assumption | decide | omega) ?_)) (by first | assumption | exact Nat.le_of_ble_eq_true rfl | exact Nat.le_of_ble_eq_true (by assumption)) rfl rfl rfl rfl rfl ?_
          refine gr_run (pc' := 135) 1 rfl ?_
          refine gr_lcmp rfl (by omega) (by omega) ?_
          refine gr_ifT (t := 142) rfl (by decide) (by omega) (cI_ne (by omega)) ?_
          refine gr_run (pc' := 146) 3 rfl ?_
          refine gr_isub rfl ?_
          refine gr_icT (t := 172) rfl (by decide) (by omega) (by omega) (cI_ne (by omega)) ?_
          refine gr_run (pc' := 181) 5 rfl ?_
          refine gr_iald rfl (by repeat (first | exact up_s | assumption | refine up_n (by first | assumption | decide | omega) ?_)) (by first | assumption | rfl) (ix_i (j := pl) rfl (by omega) (by decide)) ?_
          rw [show upd g pl (iI (x : Int)) pl = iI (x : Int) from if_pos rfl]
          refine gr_iadd rfl ?_
          refine gr_run (pc' := 184) 1 rfl ?_
          refine gr_iremN rfl (by omega) (by omega) (by omega) (by omega) ?_
          rw [show ((pl : Int) + (x : Int)) % (p : Int) = (((pl + x) % p : Nat) : Int) from rfl]
          refine gr_ishl1 rfl (by omega) ?_
          refine gr_iorN rfl ?_
          refine gr_run (pc' := 195) 4 rfl ?_
          refine gr_iald rfl (by repeat (first | exact up_s | assumption | refine up_n (by first | assumption | decide | omega) ?_)) (by first | assumption | rfl) (ix_i (j := pl) rfl (by omega) (by decide)) ?_
          rw [show upd g pl (iI (x : Int)) pl = iI (x : Int) from if_pos rfl]
          refine gr_isub rfl ?_
          rw [show (l : Int) - (x : Int) = ((l - x : Nat) : Int) by omega]
          refine gr_run (pc' := 199) 1 rfl ?_
          refine gr_iinc rfl rfl rfl rfl ?_
          refine gr_run (pc' := 207) 3 rfl ?_
          refine gr_iast rfl (by repeat (first | exact up_s | assumption | refine up_n (by first | assumption | decide | omega) ?_)) (by first | assumption | rfl) (ix_i (j := pl + 1) rfl (by omega) (by decide)) ?_
          rw [bx_uu]
          refine gr_run (pc' := 57) 1 rfl ?_
          rw [mk_upd] at r
          exact r
  -- all
  have hprb : prF p m p 0 0 b (fun _ => 0) ≤ 1000000 := by
    have a := pr_sum (b := b) (m := m) hp (k := p) (pl := 0) (h := fun _ => 0) (by omega) pv_0 (fun e => by omega)
    rw [show mkN p (fun _ => 0) 0 = 0 from rfl, show rdN p (fun _ => 0) 0 = 0 from rfl, Nat.sub_zero] at a
    rw [a]
    refine Nat.le_trans (SqU_bd (fun s => Nat.le_trans (VU_le s) (ind_le _)) hm.2) ?_
    exact Nat.pow_le_pow_right (n := 10) (by omega) hp6.2
  have hdv : prF p m p 0 0 b (fun _ => 0) / p = pfF p m p 0 0 b (fun _ => 0) := by
    rw [pr_pf (h' := fun _ => 0) hp hm.2]
    exact Nat.mul_div_cancel_left _ (by omega)
  obtain ⟨kk, hkk⟩ : ∃ kk, p = kk + 1 := ⟨p - 1, by omega⟩
  obtain ⟨gf, r⟩ := lev kk 0 (by omega) (fun _ => 0) B pv_0 (fun i hi => by omega) (Nat.le_refl _) (by
    show B + wt 0 = p * b + tri 0
    rw [show wt 0 = 0 by decide, hB]; rfl) (m + 1) 0 0 (upd f0 0 (iI (-1))) (some (.int (iI ((pfF p m p 0 0 b (fun _ => 0) : Nat) : Int)))) (by omega) (fun i hi => by omega) (by rw [show ((0 : Nat) : Int) - 1 = -1 from rfl]; exact if_pos rfl) (fun g' _ => by
    refine ⟨g', ?_⟩
    have e : 0 + sumN (fun i => if 0 < fb p m (mkN p (fun _ => 0) 0) (b - rdN p (fun _ => 0) 0) (0 + i) then prF p m kk (0 + 1) (mkN p (fun _ => 0) 0 ||| 2 ^ ((0 + (0 + i)) % p)) (b - rdN p (fun _ => 0) 0 - (0 + (0 + i)) / p) (updN (fun _ => 0) 0 (0 + i)) else 0) (m + 1) = prF p m p 0 0 b (fun _ => 0) := by
      have e0 : prF p m p 0 0 b (fun _ => 0) = prF p m (kk + 1) 0 0 b (fun _ => 0) := by rw [← hkk]
      rw [e0]
      simp only [Nat.zero_add, prF]
      rfl
    rw [e]
    refine gr_run (pc' := 59) 1 rfl ?_
    refine gr_ifT (t := 211) rfl (by decide) (by omega) (cI_lt (by omega)) ?_
    refine gr_run (pc' := 214) 2 rfl ?_
    refine gr_idivN rfl (by omega) (by omega) (by omega) (by omega) ?_
    rw [show ((prF p m p 0 0 b (fun _ => 0) : Nat) : Int) / (p : Int) = ((prF p m p 0 0 b (fun _ => 0) / p : Nat) : Int) from rfl, hdv]
    exact gr_ret rfl rfl)
  refine ⟨va_up A1 49 (Ia 10 gf), ?_, hR1.u49 gf, by rw [← hA1]; exact (offE.rf.up (by omega)).up (by omega)⟩
  refine rt_intro kX7_primes rfl rfl rfl ?_
  refine gr_run (pc' := 1) 1 rfl ?_
  refine gr_i2l rfl (by omega) ?_
  refine gr_run (pc' := 6) 2 rfl ?_
  rw [show (((1 : Fin 2).val : Nat) : Int) = 1 from rfl]
  refine gr_callS (As := [_, _, _]) lk_7_61 rfl rfl (r_isT (by omega) (by omega) (by omega) (by omega) (by omega)) rfl rfl rfl ?_
  refine gr_ifF (t := 21) rfl (by decide) (by omega) (cN_eq (by omega)) ?_
  refine gr_run (pc' := 15) 3 rfl ?_
  refine gr_callS (As := [_, _, _]) lk_7_125 rfl rfl (r_areToldT ⟨by omega, by omega, by omega⟩) rfl rfl rfl ?_
  refine gr_ifT (t := 23) rfl (by decide) (by omega) (cI_ne (by omega)) ?_
  refine gr_run (pc' := 27) 4 rfl ?_
  have h0A := hR.1
  refine gr_callV (As := [_, _, _]) lk_7_129 rfl rfl (r1) (by repeat (first | exact up_s | assumption | refine up_n (by first | assumption | decide | omega) ?_)) (by first | assumption | exact Nat.le_of_ble_eq_true rfl | exact Nat.le_of_ble_eq_true (by assumption)) rfl rfl rfl rfl rfl ?_
  refine gr_run (pc' := 36) 4 rfl ?_
  refine gr_getf rfl rfl (by repeat (first | exact up_s | assumption | refine up_n (by first | assumption | decide | omega) ?_)) (by first | assumption | rfl) rfl ?_
  refine gr_run (pc' := 49) 7 rfl ?_
  refine gr_imul rfl ?_
  rw [hBi]
  refine gr_run (pc' := 56) 4 rfl ?_
  refine gr_iast rfl (by repeat (first | exact up_s | assumption | refine up_n (by first | assumption | decide | omega) ?_)) (by first | assumption | rfl) (ix_i (j := 0) rfl (by decide) (by decide)) ?_
  exact r
end MB
