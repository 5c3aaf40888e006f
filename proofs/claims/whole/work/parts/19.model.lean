/-! what both sides hold: a text, two patterns, what can be undone, what is kept -/
abbrev Pn : Type := Nat × (Nat → Nat)
abbrev Sk : Type := Nat × (Nat → Pn)
abbrev SS : Type := Pn × Pn × Pn × Sk × Sk
/-- a true pattern -/
def okT (p : Pn) : Prop := okH p.1 p.2 ∧ ∀ i j, i < j → j < p.1 → lnd p.1 p.2 i ≠ lnd p.1 p.2 j
def okX (t : Pn) : Prop := t.1 ≤ 40 ∧ ∀ i, i < t.1 → t.2 i < 256
def okS (σ : SS) : Prop := okX σ.1 ∧ okT σ.2.1 ∧ okT σ.2.2.1 ∧ (σ.2.2.2.1.1 ≤ 8 ∧ ∀ j, j < σ.2.2.2.1.1 → okT (σ.2.2.2.1.2 j)) ∧ (σ.2.2.2.2.1 ≤ 2 ∧ ∀ j, j < σ.2.2.2.2.1 → okT (σ.2.2.2.2.2 j))
def pushU (U : Sk) (p : Pn) : Sk := if U.1 < 8 then (U.1 + 1, fun j => if j = U.1 then p else U.2 j) else (8, fun j => if j = 7 then p else U.2 (j + 1))
/-! the model: at 43, its rows at 44 to 56 -/
abbrev mdl (tn n n2 u k : Nat) : va_E := Ob 7 [.ref 44, .int (iI tn), .int (iI n), .ref 45, .int (iI n2), .ref 46, .int (iI u), .ref 47, .int (iI k), .ref 48, .ref 49, .ref 50, .ref 51, .ref 52, .ref 53, .ref 54, .ref 55, .ref 56]
def txtA (A : AH) (b : Nat) (t : Pn) : Prop := ∃ f, A b = Ia 40 f ∧ ∀ i, i < t.1 → f i = iI (t.2 i)
def patA (A : AH) (b : Nat) (p : Pn) : Prop := ∃ f, A b = Ia 10 f ∧ ∀ i, i < p.1 → f i = iI (p.2 i)
def stkF (f : Nat → Int32) (U : Sk) : Prop := ∀ j, j < U.1 → f (11 * j) = iI ((U.2 j).1) ∧ ∀ i, i < (U.2 j).1 → f (11 * j + 1 + i) = iI ((U.2 j).2 i)
def stkA (A : AH) (b len : Nat) (U : Sk) : Prop := ∃ f, A b = Ia len f ∧ stkF f U
def scrA (A : AH) : Prop := (∃ f, A 49 = Ia 10 f) ∧ (∃ f, A 50 = Ia 10 f) ∧ (∃ f, A 51 = La 12544 f) ∧ (∃ f, A 52 = Ia 512 f) ∧ (∃ f, A 53 = Ia 100000 f) ∧ (∃ f, A 54 = Ia 100000 f) ∧ (∃ f, A 55 = Za 512 f) ∧ ∃ f, A 56 = Za 512 f
def RepM (σ : SS) (A : AH) : Prop := A 43 = mdl σ.1.1 σ.2.1.1 σ.2.2.1.1 σ.2.2.2.1.1 σ.2.2.2.2.1 ∧ txtA A 44 σ.1 ∧ patA A 45 σ.2.1 ∧ patA A 46 σ.2.2.1 ∧ stkA A 47 88 σ.2.2.2.1 ∧ stkA A 48 22 σ.2.2.2.2 ∧ scrA A
/-! what is elsewhere stays -/
theorem txtA.o {A A' : AH} {b : Nat} {t : Pn} (h : txtA A b t) (e : A' b = A b) : txtA A' b t := by obtain ⟨f, h1, h2⟩ := h; exact ⟨f, e.trans h1, h2⟩
theorem patA.o {A A' : AH} {b : Nat} {t : Pn} (h : patA A b t) (e : A' b = A b) : patA A' b t := by obtain ⟨f, h1, h2⟩ := h; exact ⟨f, e.trans h1, h2⟩
theorem stkA.o {A A' : AH} {b l : Nat} {t : Sk} (h : stkA A b l t) (e : A' b = A b) : stkA A' b l t := by obtain ⟨f, h1, h2⟩ := h; exact ⟨f, e.trans h1, h2⟩
theorem scrA.o {A A' : AH} (h : scrA A) (e : ∀ k, 49 ≤ k → k ≤ 56 → A' k = A k) : scrA A' := by
  obtain ⟨⟨a, ha⟩, ⟨b, hb⟩, ⟨c, hc⟩, ⟨d, hd⟩, ⟨f, hf⟩, ⟨g, hg⟩, ⟨i, hi⟩, ⟨j, hj⟩⟩ := h
  exact ⟨⟨a, (e 49 (by omega) (by omega)).trans ha⟩, ⟨b, (e 50 (by omega) (by omega)).trans hb⟩, ⟨c, (e 51 (by omega) (by omega)).trans hc⟩, ⟨d, (e 52 (by omega) (by omega)).trans hd⟩, ⟨f, (e 53 (by omega) (by omega)).trans hf⟩, ⟨g, (e 54 (by omega) (by omega)).trans hg⟩, ⟨i, (e 55 (by omega) (by omega)).trans hi⟩, ⟨j, (e 56 (by omega) (by omega)).trans hj⟩⟩
theorem up_o {A : AH} {k : Nat} {c : va_E} {j : Nat} (h : j ≠ k) : va_up A k c j = A j := va_up_ne A c h
theorem pushU_ok {U : Sk} {p : Pn} (hU : U.1 ≤ 8 ∧ ∀ j, j < U.1 → okT (U.2 j)) (hp : okT p) : (pushU U p).1 ≤ 8 ∧ ∀ j, j < (pushU U p).1 → okT ((pushU U p).2 j) := by
  unfold pushU
  split
  · rename_i h
    refine ⟨by simp only; omega, fun j hj => ?_⟩
    simp only at hj ⊢
    by_cases e : j = U.1
    · rw [if_pos e]; exact hp
    · rw [if_neg e]; exact hU.2 j (by omega)
  · rename_i h
    refine ⟨by simp, fun j hj => ?_⟩
    simp only at hj ⊢
    by_cases e : j = 7
    · rw [if_pos e]; exact hp
    · rw [if_neg e]; exact hU.2 (j + 1) (by omega)
section MA
variable {d : Nat} {A : AH}
theorem r_isT {v lo hi : Int} (h1 : bdl v) (h2 : bdl lo) (h3 : bdl hi) (h4 : lo ≤ v) (h5 : v ≤ hi) : Rt mX7_is d [.long (lI v), .long (lI lo), .long (lI hi)] A (some (.int (iI 1))) A := by
  have c1 := cmpZ_ge h4
  have c2 := cmpZ_le h5
  refine rt_intro kX7_is rfl rfl rfl ?_
  refine gr_run (pc' := 2) 2 rfl ?_
  refine gr_lcmp rfl (by omega) (by omega) ?_
  refine gr_ifF (t := 17) rfl (by decide) (by omega) (cN_lt (by omega)) ?_
  refine gr_run (pc' := 9) 2 rfl ?_
  refine gr_lcmp rfl (by omega) (by omega) ?_
  refine gr_ifF (t := 17) rfl (by decide) (by omega) (cN_gt (by omega)) ?_
  refine gr_run (pc' := 18) 2 rfl ?_
  exact gr_ret rfl rfl
theorem r_isF {v lo hi : Int} (h1 : bdl v) (h2 : bdl lo) (h3 : bdl hi) (h4 : v < lo ∨ hi < v) : Rt mX7_is d [.long (lI v), .long (lI lo), .long (lI hi)] A (some (.int (iI 0))) A := by
  refine rt_intro kX7_is rfl rfl rfl ?_
  by_cases h5 : v < lo
  · have c1 := cmpZ_lt h5
    refine gr_run (pc' := 2) 2 rfl ?_
    refine gr_lcmp rfl (by omega) (by omega) ?_
    refine gr_ifT (t := 17) rfl (by decide) (by omega) (cI_lt (by omega)) ?_
    refine gr_run (pc' := 18) 1 rfl ?_
    exact gr_ret rfl rfl
  · have c1 := cmpZ_ge (show lo ≤ v by omega)
    have c2 := cmpZ_gt (show hi < v by omega)
    refine gr_run (pc' := 2) 2 rfl ?_
    refine gr_lcmp rfl (by omega) (by omega) ?_
    refine gr_ifF (t := 17) rfl (by decide) (by omega) (cN_lt (by omega)) ?_
    refine gr_run (pc' := 9) 2 rfl ?_
    refine gr_lcmp rfl (by omega) (by omega) ?_
    refine gr_ifT (t := 17) rfl (by decide) (by omega) (cI_gt (by omega)) ?_
    refine gr_run (pc' := 18) 1 rfl ?_
    exact gr_ret rfl rfl
theorem r_X7_sumOf {b n : Nat} {h : Nat → Nat} {f : Nat → Int32} (hb : A b = Ia 10 f) (pb : Nat.blt b NC = true) (hn : n ≤ 10) (hf : ∀ i, i < n → f i = iI (h i)) : Rt mX7_sumOf d [.ref b, .int (iI n)] A (some (.int (iI ((sumN h n : Nat) : Int)))) A := by
  have key : ∀ i, i ≤ n → Gr mX7_sumOf d 4 [some (.ref b), some (.int (iI n)), some (.int (iI ((sumN h i : Nat) : Int))), some (.int (iI (i : Int)))] [] A (some (.int (iI ((sumN h n : Nat) : Int)))) A := by
    refine go_up ?_ ?_
    · refine gr_run (pc' := 6) 2 rfl ?_
      refine gr_icT (t := 21) rfl (by decide) (by omega) (by omega) (cI_ge (by omega)) ?_
      refine gr_run (pc' := 22) 1 rfl ?_
      exact gr_ret rfl rfl
    · intro i hi ih
      refine gr_run (pc' := 6) 2 rfl ?_
      refine gr_icF (t := 21) rfl (by decide) (by omega) (by omega) (cN_ge (by omega)) ?_
      refine gr_run (pc' := 12) 3 rfl ?_
      refine gr_iald rfl (by repeat (first | exact up_s | assumption | refine up_n (by first | assumption | decide | omega) ?_)) (by first | assumption | rfl) (ix_i rfl (by omega) (by decide)) ?_
      rw [hf i hi]
      refine gr_iadd rfl ?_
      refine gr_run (pc' := 15) 1 rfl ?_
      refine gr_iinc rfl rfl rfl rfl ?_
      refine gr_run (pc' := 4) 1 rfl ?_
      exact ih
  refine rt_intro kX7_sumOf rfl rfl rfl ?_
  refine gr_run (pc' := 4) 4 rfl ?_
  exact key 0 (by omega)
theorem mod_mod {z : Int} {n : Nat} (hn : 1 ≤ n) : (z.tmod n + n) % (n : Int) = z % n := by
  have h := Int.tmod_eq_emod (a := z) (b := n)
  rw [h]
  split
  · simp [Int.add_emod_right]
  · have : (z % (n : Int) - ((n : Int).natAbs : Int) + n) = z % n := by omega
    rw [this]; simp
theorem tmod_bd {z : Int} {n : Nat} (hn : 1 ≤ n) : -(n : Int) < z.tmod n ∧ z.tmod n < n := by
  have h1 := Int.tmod_lt_of_pos z (show (0 : Int) < n by omega)
  have h2 := Int.lt_tmod_of_pos z (show (0 : Int) < n by omega)
  exact ⟨h2, h1⟩
theorem r_X7_airOf {b n : Nat} {h : Nat → Nat} {f : Nat → Int32} {z : Int} (hb : A b = Ia 10 f) (pb : Nat.blt b NC = true) (hh : okH n h) (hf : ∀ i, i < n → f i = iI (h i)) (hz : bd (z - 20) ∧ bd (z + 20)) : Rt mX7_airOf d [.ref b, .int (iI n), .int (iI z)] A (some (.int (iI ((airN n h z : Nat) : Int)))) A := by
  have hn := hh.1
  have key : ∀ k, k ≤ 9 → ∀ x5 : Option Value, Gr mX7_airOf d 5 [some (.ref b), some (.int (iI n)), some (.int (iI z)), some (.int (iI ((orN (fun k => air1 (hg n h (z - ((k : Int) + 1))) (k + 1)) k : Nat) : Int))), some (.int (iI ((k : Int) + 1))), x5] [] A (some (.int (iI ((airN n h z : Nat) : Int)))) A := by
    refine go_up ?_ ?_
    · intro x5
      refine gr_run (pc' := 9) 2 rfl ?_
      refine gr_icT (t := 53) rfl (by decide) (by omega) (by omega) (cI_gt (by omega)) ?_
      refine gr_run (pc' := 54) 1 rfl ?_
      exact gr_ret rfl rfl
    · intro k hk ih x5
      have h9 := hg_le hh (z - ((k : Int) + 1))
      have hb1 := tmod_bd (z := z - ((k : Int) + 1)) hn.1
      have hm := emod_nn (z - ((k : Int) + 1)) hn.1
      refine gr_run (pc' := 9) 2 rfl ?_
      refine gr_icF (t := 53) rfl (by decide) (by omega) (by omega) (cN_gt (by omega)) ?_
      refine gr_run (pc' := 16) 3 rfl ?_
      refine gr_isub rfl ?_
      refine gr_run (pc' := 18) 1 rfl ?_
      refine gr_irem rfl (by omega) (by omega) (by omega) ?_
      refine gr_run (pc' := 20) 1 rfl ?_
      refine gr_iadd rfl ?_
      refine gr_run (pc' := 22) 1 rfl ?_
      refine gr_irem rfl (by omega) (by omega) (by omega) ?_
      rw [Int.tmod_eq_emod_of_nonneg (by omega), mod_mod hn.1]
      refine gr_iald rfl (by repeat (first | exact up_s | assumption | refine up_n (by first | assumption | decide | omega) ?_)) (by first | assumption | rfl) (ix_i (j := ((z - ((k : Int) + 1)) % (n : Int)).toNat) (by omega) (by omega) (by decide)) ?_
      rw [hf _ (by omega)]
      have e : h ((z - ((k : Int) + 1)) % (n : Int)).toNat = hg n h (z - ((k : Int) + 1)) := rfl
      rw [e]
      by_cases hq : k + 1 ≤ hg n h (z - ((k : Int) + 1))
      · refine gr_run (pc' := 31) 4 rfl ?_
        refine gr_icT (t := 38) rfl (by decide) (by omega) (by omega) (cI_ge (by omega)) ?_
        refine gr_run (pc' := 43) 3 rfl ?_
        refine gr_isub rfl ?_
        obtain ⟨q, hq2⟩ : ∃ q : Nat, q = hg n h (z - ((k : Int) + 1)) - (k + 1) := ⟨_, rfl⟩
        rw [show ((hg n h (z - ((k : Int) + 1)) : Nat) : Int) - ((k : Int) + 1) = (q : Int) by omega]
        refine gr_ishl1 rfl (by omega) ?_
        refine gr_iorN rfl ?_
        refine gr_run (pc' := 47) 1 rfl ?_
        refine gr_iinc rfl rfl rfl rfl ?_
        refine gr_run (pc' := 5) 1 rfl ?_
        have := ih (some (.int (iI ((hg n h (z - ((k : Int) + 1)) : Nat) : Int))))
        simp only [orN, air1, if_pos hq] at this
        rw [← hq2] at this
        exact this
      · refine gr_run (pc' := 31) 4 rfl ?_
        refine gr_icF (t := 38) rfl (by decide) (by omega) (by omega) (cN_ge (by omega)) ?_
        refine gr_run (pc' := 45) 2 rfl ?_
        refine gr_iorN (b := 0) rfl ?_
        rw [Nat.or_zero]
        refine gr_run (pc' := 47) 1 rfl ?_
        refine gr_iinc rfl rfl rfl rfl ?_
        refine gr_run (pc' := 5) 1 rfl ?_
        have := ih (some (.int (iI ((hg n h (z - ((k : Int) + 1)) : Nat) : Int))))
        simp only [orN, air1, if_neg hq, Nat.or_zero] at this
        exact this
  refine rt_intro kX7_airOf rfl rfl rfl ?_
  refine gr_run (pc' := 5) 4 rfl ?_
  exact key 0 (by omega) none
end MA
section MB
variable {d : Nat} {A : AH} {σ : SS}
theorem m_wipe (hR : RepM σ A) : ∃ A', Rt mX7_wipe d [.ref 43] A (some (.int (iI σ.1.1))) A' ∧ RepM ((0, σ.1.2), σ.2) A' ∧ offE A A' 43 56 := by
  obtain ⟨h0, h1, h2, h3, h4, h5, h6⟩ := hR
  refine ⟨va_up A 43 (mdl 0 σ.2.1.1 σ.2.2.1.1 σ.2.2.2.1.1 σ.2.2.2.2.1), ?_, ⟨up_s, ?_, h2.o (up_o (by decide)), h3.o (up_o (by decide)), h4.o (up_o (by decide)), h5.o (up_o (by decide)), h6.o (fun k _ _ => up_o (by omega))⟩, offE.rf.up (by omega)⟩
  · refine rt_intro kX7_wipe rfl rfl rfl ?_
    refine gr_run (pc' := 1) 1 rfl ?_
    refine gr_getf rfl rfl (by repeat (first | exact up_s | assumption | refine up_n (by first | assumption | decide | omega) ?_)) (by first | assumption | rfl) rfl ?_
    refine gr_run (pc' := 7) 3 rfl ?_
    refine gr_putf rfl rfl rfl (by repeat (first | exact up_s | assumption | refine up_n (by first | assumption | decide | omega) ?_)) (by first | assumption | rfl) rfl rfl ?_
    refine gr_run (pc' := 11) 1 rfl ?_
    exact gr_ret rfl rfl
  · obtain ⟨f, e1, e2⟩ := h1
    exact ⟨f, up_n (by decide) e1, fun i hi => by simp at hi⟩
theorem m_fault (hR : RepM σ A) (ho : okX σ.1) : Rt mX7_fault (d + 1) [.ref 43] A (some (.int (iI (flt σ.1.1 σ.1.2)))) A := by
  obtain ⟨h0, ⟨f, e1, e2⟩, -⟩ := hR
  have h40 := ho.1
  have key : ∀ m i, i + m = σ.1.1 → i ≤ 10 → (i = 0 → σ.1.1 ≠ 0) → Gr mX7_fault (d + 1) 2 [some (.ref 43), some (.int (iI (i : Int)))] [] A (some (.int (iI (fltF σ.1.2 m i)))) A := by
    intro m
    induction m with
    | zero =>
      intro i hi h10 h00
      refine gr_run (pc' := 4) 2 rfl ?_
      refine gr_getf rfl rfl (by repeat (first | exact up_s | assumption | refine up_n (by first | assumption | decide | omega) ?_)) (by first | assumption | rfl) rfl ?_
      refine gr_icT (t := 43) rfl (by decide) (by omega) (by omega) (cI_ge (by omega)) ?_
      refine gr_run (pc' := 44) 1 rfl ?_
      refine gr_getf rfl rfl (by repeat (first | exact up_s | assumption | refine up_n (by first | assumption | decide | omega) ?_)) (by first | assumption | rfl) rfl ?_
      refine gr_ifT (t := 54) rfl (by decide) (by omega) (cI_ne (by omega)) ?_
      refine gr_run (pc' := 56) 1 rfl ?_
      exact gr_ret rfl rfl
    | succ m ih =>
      intro i hi h10 h00
      have ht := ho.2 i (by omega)
      by_cases hb : 10 ≤ i ∨ σ.1.2 i < 48 ∨ 57 < σ.1.2 i
      · simp only [fltF, if_pos hb]
        by_cases h1 : i = 10
        · refine gr_run (pc' := 4) 2 rfl ?_
          refine gr_getf rfl rfl (by repeat (first | exact up_s | assumption | refine up_n (by first | assumption | decide | omega) ?_)) (by first | assumption | rfl) rfl ?_
          refine gr_icF (t := 43) rfl (by decide) (by omega) (by omega) (cN_ge (by omega)) ?_
          refine gr_run (pc' := 13) 2 rfl ?_
          refine gr_icT (t := 35) rfl (by decide) (by omega) (by omega) (cI_eq (by omega)) ?_
          refine gr_run (pc' := 36) 1 rfl ?_
          exact gr_ret rfl rfl
        · refine gr_run (pc' := 4) 2 rfl ?_
          refine gr_getf rfl rfl (by repeat (first | exact up_s | assumption | refine up_n (by first | assumption | decide | omega) ?_)) (by first | assumption | rfl) rfl ?_
          refine gr_icF (t := 43) rfl (by decide) (by omega) (by omega) (cN_ge (by omega)) ?_
          refine gr_run (pc' := 13) 2 rfl ?_
          refine gr_icF (t := 35) rfl (by decide) (by omega) (by omega) (cN_eq (by omega)) ?_
          refine gr_run (pc' := 17) 1 rfl ?_
          refine gr_getf rfl rfl (by repeat (first | exact up_s | assumption | refine up_n (by first | assumption | decide | omega) ?_)) (by first | assumption | rfl) rfl ?_
          refine gr_run (pc' := 21) 1 rfl ?_
          refine gr_iald rfl (by repeat (first | exact up_s | assumption | refine up_n (by first | assumption | decide | omega) ?_)) (by first | assumption | rfl) (ix_i rfl (by omega) (by decide)) ?_
          rw [e2 i (by omega)]
          refine gr_i2l rfl (by omega) ?_
          refine gr_run (pc' := 29) 2 rfl ?_
          refine gr_callS (As := [_, _, _]) lk_7_61 rfl rfl (r_isF (by omega) (by omega) (by omega) (by omega)) rfl rfl rfl ?_
          refine gr_ifF (t := 37) rfl (by decide) (by omega) (cN_ne (by omega)) ?_
          refine gr_run (pc' := 36) 1 rfl ?_
          exact gr_ret rfl rfl
      · simp only [fltF, if_neg hb]
        refine gr_run (pc' := 4) 2 rfl ?_
        refine gr_getf rfl rfl (by repeat (first | exact up_s | assumption | refine up_n (by first | assumption | decide | omega) ?_)) (by first | assumption | rfl) rfl ?_
        refine gr_icF (t := 43) rfl (by decide) (by omega) (by omega) (cN_ge (by omega)) ?_
        refine gr_run (pc' := 13) 2 rfl ?_
        refine gr_icF (t := 35) rfl (by decide) (by omega) (by omega) (cN_eq (by omega)) ?_
        refine gr_run (pc' := 17) 1 rfl ?_
        refine gr_getf rfl rfl (by repeat (first | exact up_s | assumption | refine up_n (by first | assumption | decide | omega) ?_)) (by first | assumption | rfl) rfl ?_
        refine gr_run (pc' := 21) 1 rfl ?_
        refine gr_iald rfl (by repeat (first | exact up_s | assumption | refine up_n (by first | assumption | decide | omega) ?_)) (by first | assumption | rfl) (ix_i rfl (by omega) (by decide)) ?_
        rw [e2 i (by omega)]
        refine gr_i2l rfl (by omega) ?_
        refine gr_run (pc' := 29) 2 rfl ?_
        refine gr_callS (As := [_, _, _]) lk_7_61 rfl rfl (r_isT (by omega) (by omega) (by omega) (by omega) (by omega)) rfl rfl rfl ?_
        refine gr_ifT (t := 37) rfl (by decide) (by omega) (cI_ne (by omega)) ?_
        refine gr_iinc rfl rfl rfl rfl ?_
        refine gr_run (pc' := 2) 1 rfl ?_
        exact ih (i + 1) (by omega) (by omega) (by omega)
  refine rt_intro kX7_fault rfl rfl rfl ?_
  unfold flt
  by_cases h00 : σ.1.1 = 0
  · rw [if_pos h00]
    refine gr_run (pc' := 4) 4 rfl ?_
    refine gr_getf rfl rfl (by repeat (first | exact up_s | assumption | refine up_n (by first | assumption | decide | omega) ?_)) (by first | assumption | rfl) rfl ?_
    refine gr_icT (t := 43) rfl (by decide) (by omega) (by omega) (cI_ge (by omega)) ?_
    refine gr_run (pc' := 44) 1 rfl ?_
    refine gr_getf rfl rfl (by repeat (first | exact up_s | assumption | refine up_n (by first | assumption | decide | omega) ?_)) (by first | assumption | rfl) rfl ?_
    refine gr_ifF (t := 54) rfl (by decide) (by omega) (cN_ne (by omega)) ?_
    refine gr_run (pc' := 56) 2 rfl ?_
    exact gr_ret rfl rfl
  · rw [if_neg h00]
    refine gr_run (pc' := 2) 2 rfl ?_
    exact key _ 0 (by omega) (by omega) (fun _ => h00)
/-- the text as throws -/
def txH (t : Pn) : Nat → Nat := fun i => t.2 i - 48
theorem fltF_none {tx : Nat → Nat} : ∀ {m i : Nat}, fltF tx m i = -4 → ∀ j, i ≤ j → j < i + m → j < 10 ∧ 48 ≤ tx j ∧ tx j ≤ 57
  | 0, i, _, j, h1, h2 => by omega
  | m + 1, i, h, j, h1, h2 => by
    simp only [fltF] at h
    by_cases hb : 10 ≤ i ∨ tx i < 48 ∨ 57 < tx i
    · rw [if_pos hb] at h; omega
    · rw [if_neg hb] at h
      by_cases e : j = i
      · subst e; omega
      · exact fltF_none h j (by omega) (by omega)
theorem fltF_bd {tx : Nat → Nat} : ∀ {m i : Nat}, fltF tx m i = -4 ∨ (0 ≤ fltF tx m i ∧ fltF tx m i < i + m)
  | 0, i => Or.inl rfl
  | m + 1, i => by
    simp only [fltF]
    split
    · exact Or.inr (by omega)
    · rcases fltF_bd (tx := tx) (m := m) (i := i + 1) with h | h
      · exact Or.inl h
      · exact Or.inr (by omega)
theorem flt_bd {t : Pn} (ho : okX t) : flt t.1 t.2 = -4 ∨ (0 ≤ flt t.1 t.2 ∧ flt t.1 t.2 ≤ 40) := by
  unfold flt
  split
  · exact Or.inr (by omega)
  · rcases fltF_bd (tx := t.2) (m := t.1) (i := 0) with h | h
    · exact Or.inl h
    · have := ho.1; exact Or.inr (by omega)
theorem flt_none {t : Pn} (h : flt t.1 t.2 = -4) : (1 ≤ t.1 ∧ t.1 ≤ 10) ∧ ∀ j, j < t.1 → 48 ≤ t.2 j ∧ t.2 j ≤ 57 := by
  unfold flt at h
  split at h
  · omega
  · have hh := fltF_none h
    refine ⟨⟨by omega, ?_⟩, fun j hj => (hh j (by omega) (by omega)).2⟩
    have := (hh (t.1 - 1) (by omega) (by omega)).1
    omega
theorem txH_ok {t : Pn} (h : flt t.1 t.2 = -4) : okH t.1 (txH t) := by
  obtain ⟨h1, h2⟩ := flt_none h
  exact ⟨h1, fun i hi => by have := h2 i hi; unfold txH; omega⟩
theorem clF_bd {n : Nat} {h : Nat → Nat} : ∀ {m i : Nat}, clF n h m i = -4 ∨ (0 ≤ clF n h m i ∧ clF n h m i < i + m)
  | 0, i => Or.inl rfl
  | m + 1, i => by
    simp only [clF]
    split
    · exact Or.inr (by omega)
    · rcases clF_bd (n := n) (h := h) (m := m) (i := i + 1) with h | h
      · exact Or.inl h
      · exact Or.inr (by omega)
theorem clF_none {n : Nat} {h : Nat → Nat} : ∀ {m i : Nat}, clF n h m i = -4 → ∀ j, i ≤ j → j < i + m → (mkN n h j).testBit (lnd n h j) = false
  | 0, i, _, j, h1, h2 => by omega
  | m + 1, i, hc, j, h1, h2 => by
    simp only [clF] at hc
    by_cases hb : (mkN n h i).testBit (lnd n h i) = true
    · rw [if_pos hb] at hc; omega
    · rw [if_neg hb] at hc
      by_cases e : j = i
      · subst e; simpa using hb
      · exact clF_none hc j (by omega) (by omega)
theorem mkN_bit {n : Nat} {h : Nat → Nat} {i b : Nat} : (mkN n h i).testBit b = true ↔ ∃ j, j < i ∧ lnd n h j = b := by
  unfold mkN
  rw [orN_bit]
  constructor
  · rintro ⟨j, h1, h2⟩
    exact ⟨j, h1, (bit_pow.mp h2).symm⟩
  · rintro ⟨j, h1, h2⟩
    exact ⟨j, h1, bit_pow.mpr h2.symm⟩
theorem clF_true {n : Nat} {h : Nat → Nat} (hc : clF n h n 0 = -4) : ∀ i j, i < j → j < n → lnd n h i ≠ lnd n h j := by
  intro i j h1 h2 he
  have h3 := clF_none hc j (by omega) (by omega)
  have h4 := (mkN_bit (n := n) (h := h) (i := j) (b := lnd n h j)).mpr ⟨i, h1, he⟩
  rw [h3] at h4
  cases h4
theorem m_clashes (hR : RepM σ A) (hf : flt σ.1.1 σ.1.2 = -4) : Rt mX7_clashes d [.ref 43] A (some (.int (iI (clF σ.1.1 (txH σ.1) σ.1.1 0)))) A := by
  obtain ⟨h0, ⟨f, e1, e2⟩, -⟩ := hR
  obtain ⟨hn, hb⟩ := flt_none hf
  have key : ∀ m i, i + m = σ.1.1 → ∀ x3 : Option Value, Gr mX7_clashes d 4 [some (.ref 43), some (.int (iI ((mkN σ.1.1 (txH σ.1) i : Nat) : Int))), some (.int (iI (i : Int))), x3] [] A (some (.int (iI (clF σ.1.1 (txH σ.1) m i)))) A := by
    intro m
    induction m with
    | zero =>
      intro i hi x3
      refine gr_run (pc' := 6) 2 rfl ?_
      refine gr_getf rfl rfl (by repeat (first | exact up_s | assumption | refine up_n (by first | assumption | decide | omega) ?_)) (by first | assumption | rfl) rfl ?_
      refine gr_icT (t := 49) rfl (by decide) (by omega) (by omega) (cI_ge (by omega)) ?_
      refine gr_run (pc' := 51) 1 rfl ?_
      exact gr_ret rfl rfl
    | succ m ih =>
      intro i hi x3
      have hll := lnd_lt (h := txH σ.1) (i := i) hn.1
      have hbi := hb i (by omega)
      refine gr_run (pc' := 6) 2 rfl ?_
      refine gr_getf rfl rfl (by repeat (first | exact up_s | assumption | refine up_n (by first | assumption | decide | omega) ?_)) (by first | assumption | rfl) rfl ?_
      refine gr_icF (t := 49) rfl (by decide) (by omega) (by omega) (cN_ge (by omega)) ?_
      refine gr_run (pc' := 15) 3 rfl ?_
      refine gr_getf rfl rfl (by repeat (first | exact up_s | assumption | refine up_n (by first | assumption | decide | omega) ?_)) (by first | assumption | rfl) rfl ?_
      refine gr_run (pc' := 19) 1 rfl ?_
      refine gr_iald rfl (by repeat (first | exact up_s | assumption | refine up_n (by first | assumption | decide | omega) ?_)) (by first | assumption | rfl) (ix_i rfl (by omega) (by decide)) ?_
      rw [e2 i (by omega)]
      refine gr_iadd rfl ?_
      refine gr_run (pc' := 23) 1 rfl ?_
      refine gr_isub rfl ?_
      refine gr_run (pc' := 25) 1 rfl ?_
      refine gr_getf rfl rfl (by repeat (first | exact up_s | assumption | refine up_n (by first | assumption | decide | omega) ?_)) (by first | assumption | rfl) rfl ?_
      refine gr_iremN rfl (by omega) (by omega) (by omega) (by omega) ?_
      rw [show ((i : Int) + (σ.1.2 i : Int) - 48) % (σ.1.1 : Int) = ((lnd σ.1.1 (txH σ.1) i : Nat) : Int) by
        unfold lnd txH
        rw [show (i : Int) + (σ.1.2 i : Int) - 48 = ((i + (σ.1.2 i - 48) : Nat) : Int) by omega]
        rfl]
      refine gr_ishl1 rfl (by omega) ?_
      refine gr_run (pc' := 33) 3 rfl ?_
      refine gr_iandN rfl ?_
      rw [and_pow]
      by_cases ht : (mkN σ.1.1 (txH σ.1) i).testBit (lnd σ.1.1 (txH σ.1) i) = true
      · rw [if_pos ht]
        have hp := Nat.two_pow_pos (lnd σ.1.1 (txH σ.1) i)
        have hp2 := pow2_le30 (k := lnd σ.1.1 (txH σ.1) i) (by omega)
        refine gr_ifF (t := 39) rfl (by decide) (by omega) (cN_eq (by omega)) ?_
        refine gr_run (pc' := 38) 1 rfl ?_
        simp only [clF, if_pos ht]
        exact gr_ret rfl rfl
      · rw [if_neg ht]
        refine gr_ifT (t := 39) rfl (by decide) (by omega) (cI_eq (by omega)) ?_
        refine gr_run (pc' := 41) 2 rfl ?_
        refine gr_iorN rfl ?_
        refine gr_run (pc' := 43) 1 rfl ?_
        refine gr_iinc rfl rfl rfl rfl ?_
        refine gr_run (pc' := 4) 1 rfl ?_
        simp only [clF, if_neg ht]
        exact ih (i + 1) (by omega) _
  refine rt_intro kX7_clashes rfl rfl rfl ?_
  refine gr_run (pc' := 4) 4 rfl ?_
  exact key _ 0 (by omega) none
def clR (t : Pn) : Int := if flt t.1 t.2 = -4 then clF t.1 (txH t) t.1 0 else -2
theorem m_clash (hR : RepM σ A) (ho : okX σ.1) : Rt mX7_clash (d + 2) [.ref 43] A (some (.int (iI (clR σ.1)))) A := by
  have h0 := hR.1
  have hbd := flt_bd ho
  unfold clR
  refine rt_intro kX7_clash rfl rfl rfl ?_
  refine gr_run (pc' := 1) 1 rfl ?_
  refine gr_callV (As := []) lk_7_74 rfl rfl (m_fault hR ho) (by repeat (first | exact up_s | assumption | refine up_n (by first | assumption | decide | omega) ?_)) (by first | assumption | exact Nat.le_of_ble_eq_true rfl | exact Nat.le_of_ble_eq_true (by assumption)) rfl rfl rfl rfl rfl ?_
  by_cases hf : flt σ.1.1 σ.1.2 = -4
  · rw [if_pos hf]
    refine gr_run (pc' := 6) 1 rfl ?_
    refine gr_icF (t := 16) rfl (by decide) (by omega) (by omega) (cN_ne (by omega)) ?_
    refine gr_run (pc' := 10) 1 rfl ?_
    refine gr_callV (As := []) lk_7_78 rfl rfl (m_clashes hR hf) (by repeat (first | exact up_s | assumption | refine up_n (by first | assumption | decide | omega) ?_)) (by first | assumption | exact Nat.le_of_ble_eq_true rfl | exact Nat.le_of_ble_eq_true (by assumption)) rfl rfl rfl rfl rfl ?_
    refine gr_run (pc' := 18) 1 rfl ?_
    exact gr_ret rfl rfl
  · rw [if_neg hf]
    refine gr_run (pc' := 6) 1 rfl ?_
    refine gr_icT (t := 16) rfl (by decide) (by omega) (by omega) (cI_ne (by omega)) ?_
    refine gr_run (pc' := 18) 1 rfl ?_
    exact gr_ret rfl rfl
theorem m_balls (hR : RepM σ A) (h1 : okT σ.2.1) (h2 : okT σ.2.2.1) {z : Int} (hz : bd z) : Rt mX7_balls (d + 1) [.ref 43, .int (iI z)] A (some (.int (iI (if z = 0 then ((sumN σ.2.1.2 σ.2.1.1 / σ.2.1.1 : Nat) : Int) else if z = 1 then ((sumN σ.2.2.1.2 σ.2.2.1.1 / σ.2.2.1.1 : Nat) : Int) else -1)))) A := by
  obtain ⟨h0, -, ⟨f, e1, e2⟩, ⟨g, e3, e4⟩, -⟩ := hR
  have a1 := h1.1.1
  have a2 := h2.1.1
  have s1 := sumN_le h1.1.2
  have s2 := sumN_le h2.1.2
  refine rt_intro kX7_balls rfl rfl rfl ?_
  by_cases hz0 : z = 0
  · rw [if_pos hz0]
    refine gr_run (pc' := 1) 1 rfl ?_
    refine gr_ifF (t := 23) rfl (by decide) (by omega) (cN_ne (by omega)) ?_
    refine gr_run (pc' := 5) 1 rfl ?_
    refine gr_getf rfl rfl (by repeat (first | exact up_s | assumption | refine up_n (by first | assumption | decide | omega) ?_)) (by first | assumption | rfl) rfl ?_
    refine gr_run (pc' := 9) 1 rfl ?_
    refine gr_getf rfl rfl (by repeat (first | exact up_s | assumption | refine up_n (by first | assumption | decide | omega) ?_)) (by first | assumption | rfl) rfl ?_
    refine gr_callS (As := [_, _]) lk_7_84 rfl rfl (r_X7_sumOf e1 rfl a1.2 e2) rfl rfl rfl ?_
    refine gr_run (pc' := 16) 1 rfl ?_
    refine gr_getf rfl rfl (by repeat (first | exact up_s | assumption | refine up_n (by first | assumption | decide | omega) ?_)) (by first | assumption | rfl) rfl ?_
    refine gr_idivN rfl (by omega) (by omega) (by omega) (by omega) ?_
    refine gr_run (pc' := 48) 1 rfl ?_
    exact gr_ret rfl rfl
  · rw [if_neg hz0]
    by_cases hz1 : z = 1
    · rw [if_pos hz1]
      refine gr_run (pc' := 1) 1 rfl ?_
      refine gr_ifT (t := 23) rfl (by decide) (by omega) (cI_ne (by omega)) ?_
      refine gr_run (pc' := 25) 2 rfl ?_
      refine gr_icF (t := 47) rfl (by decide) (by omega) (by omega) (cN_ne (by omega)) ?_
      refine gr_run (pc' := 29) 1 rfl ?_
      refine gr_getf rfl rfl (by repeat (first | exact up_s | assumption | refine up_n (by first | assumption | decide | omega) ?_)) (by first | assumption | rfl) rfl ?_
      refine gr_run (pc' := 33) 1 rfl ?_
      refine gr_getf rfl rfl (by repeat (first | exact up_s | assumption | refine up_n (by first | assumption | decide | omega) ?_)) (by first | assumption | rfl) rfl ?_
      refine gr_callS (As := [_, _]) lk_7_84 rfl rfl (r_X7_sumOf e3 rfl a2.2 e4) rfl rfl rfl ?_
      refine gr_run (pc' := 40) 1 rfl ?_
      refine gr_getf rfl rfl (by repeat (first | exact up_s | assumption | refine up_n (by first | assumption | decide | omega) ?_)) (by first | assumption | rfl) rfl ?_
      refine gr_idivN rfl (by omega) (by omega) (by omega) (by omega) ?_
      refine gr_run (pc' := 48) 1 rfl ?_
      exact gr_ret rfl rfl
    · rw [if_neg hz1]
      refine gr_run (pc' := 1) 1 rfl ?_
      refine gr_ifT (t := 23) rfl (by decide) (by omega) (cI_ne (by omega)) ?_
      refine gr_run (pc' := 25) 2 rfl ?_
      refine gr_icT (t := 47) rfl (by decide) (by omega) (by omega) (cI_ne (by omega)) ?_
      refine gr_run (pc' := 48) 1 rfl ?_
      exact gr_ret rfl rfl
theorem m_air (hR : RepM σ A) (h1 : okT σ.2.1) {z : Int} (hz : bd z) : Rt mX7_air (d + 1) [.ref 43, .int (iI z)] A (some (.int (iI (if 0 ≤ z ∧ z ≤ 100000 then ((airN σ.2.1.1 σ.2.1.2 z : Nat) : Int) else -1)))) A := by
  obtain ⟨h0, -, ⟨f, e1, e2⟩, -⟩ := hR
  refine rt_intro kX7_air rfl rfl rfl ?_
  by_cases hc : 0 ≤ z ∧ z ≤ 100000
  · rw [if_pos hc]
    refine gr_run (pc' := 1) 1 rfl ?_
    refine gr_i2l rfl (by omega) ?_
    refine gr_run (pc' := 6) 2 rfl ?_
    refine gr_callS (As := [_, _, _]) lk_7_61 rfl rfl (r_isT (by omega) (by decide) (by omega) (by exact hc.1) (by omega)) rfl rfl rfl ?_
    refine gr_ifF (t := 27) rfl (by decide) (by omega) (cN_eq (by omega)) ?_
    refine gr_run (pc' := 13) 1 rfl ?_
    refine gr_getf rfl rfl (by repeat (first | exact up_s | assumption | refine up_n (by first | assumption | decide | omega) ?_)) (by first | assumption | rfl) rfl ?_
    refine gr_run (pc' := 17) 1 rfl ?_
    refine gr_getf rfl rfl (by repeat (first | exact up_s | assumption | refine up_n (by first | assumption | decide | omega) ?_)) (by first | assumption | rfl) rfl ?_
    refine gr_run (pc' := 21) 1 rfl ?_
    refine gr_callS (As := [_, _, _]) lk_7_90 rfl rfl (r_X7_airOf e1 rfl h1.1 e2 (by omega)) rfl rfl rfl ?_
    refine gr_run (pc' := 28) 1 rfl ?_
    exact gr_ret rfl rfl
  · rw [if_neg hc]
    refine gr_run (pc' := 1) 1 rfl ?_
    refine gr_i2l rfl (by omega) ?_
    refine gr_run (pc' := 6) 2 rfl ?_
    refine gr_callS (As := [_, _, _]) lk_7_61 rfl rfl (r_isF (by omega) (by decide) (by omega) (by show z < 0 ∨ 100000 < z; omega)) rfl rfl rfl ?_
    refine gr_ifT (t := 27) rfl (by decide) (by omega) (cI_eq (by omega)) ?_
    refine gr_run (pc' := 28) 1 rfl ?_
    exact gr_ret rfl rfl
theorem m_toss (hR : RepM σ A) (h1 : okT σ.2.1) (h2 : okT σ.2.2.1) {w z : Int} (hw : bd w) (hz : bd z) : Rt mX7_toss (d + 1) [.ref 43, .int (iI w), .int (iI z)] A (some (.int (iI (if (w = 0 ∨ w = 1) ∧ 0 ≤ z then (if w = 0 then (if z < σ.2.1.1 then ((σ.2.1.2 z.toNat : Nat) : Int) else -4) else (if z < σ.2.2.1.1 then ((σ.2.2.1.2 z.toNat : Nat) : Int) else -4)) else -1)))) A := by
  obtain ⟨h0, -, ⟨f, e1, e2⟩, ⟨g, e3, e4⟩, -⟩ := hR
  have a1 := h1.1.1
  have a2 := h2.1.1
  refine rt_intro kX7_toss rfl rfl rfl ?_
  by_cases hw01 : w = 0 ∨ w = 1
  · refine gr_run (pc' := 1) 1 rfl ?_
    refine gr_i2l rfl (by omega) ?_
    refine gr_run (pc' := 4) 2 rfl ?_
    refine gr_callS (As := [_, _, _]) lk_7_61 rfl rfl (r_isT (by omega) (by decide) (by decide) (by show (0 : Int) ≤ w; omega) (by show w ≤ 1; omega)) rfl rfl rfl ?_
    by_cases hz0 : 0 ≤ z
    · rw [if_pos ⟨hw01, hz0⟩]
      obtain ⟨k, rfl⟩ : ∃ k : Nat, z = (k : Int) := ⟨z.toNat, by omega⟩
      simp only [Int.toNat_natCast]
      by_cases hw0 : w = 0
      · rw [if_pos hw0]
        by_cases hl : (k : Int) < σ.2.1.1
        · rw [if_pos hl]
          refine gr_ifF (t := 14) rfl (by decide) (by omega) (cN_eq (by omega)) ?_
          refine gr_run (pc' := 11) 1 rfl ?_
          refine gr_ifT (t := 16) rfl (by decide) (by omega) (cI_ge (by omega)) ?_
          refine gr_run (pc' := 17) 1 rfl ?_
          refine gr_ifF (t := 42) rfl (by decide) (by omega) (cN_ne (by omega)) ?_
          refine gr_run (pc' := 22) 2 rfl ?_
          refine gr_getf rfl rfl (by repeat (first | exact up_s | assumption | refine up_n (by first | assumption | decide | omega) ?_)) (by first | assumption | rfl) rfl ?_
          refine gr_icF (t := 37) rfl (by decide) (by omega) (by omega) (cN_ge (by omega)) ?_
          refine gr_run (pc' := 29) 1 rfl ?_
          refine gr_getf rfl rfl (by repeat (first | exact up_s | assumption | refine up_n (by first | assumption | decide | omega) ?_)) (by first | assumption | rfl) rfl ?_
          refine gr_run (pc' := 33) 1 rfl ?_
          refine gr_iald rfl (by repeat (first | exact up_s | assumption | refine up_n (by first | assumption | decide | omega) ?_)) (by first | assumption | rfl) (ix_i rfl (by omega) (by decide)) ?_
          rw [e2 k (by omega)]
          refine gr_run (pc' := 61) 1 rfl ?_
          exact gr_ret rfl rfl
        · rw [if_neg hl]
          refine gr_ifF (t := 14) rfl (by decide) (by omega) (cN_eq (by omega)) ?_
          refine gr_run (pc' := 11) 1 rfl ?_
          refine gr_ifT (t := 16) rfl (by decide) (by omega) (cI_ge (by omega)) ?_
          refine gr_run (pc' := 17) 1 rfl ?_
          refine gr_ifF (t := 42) rfl (by decide) (by omega) (cN_ne (by omega)) ?_
          refine gr_run (pc' := 22) 2 rfl ?_
          refine gr_getf rfl rfl (by repeat (first | exact up_s | assumption | refine up_n (by first | assumption | decide | omega) ?_)) (by first | assumption | rfl) rfl ?_
          refine gr_icT (t := 37) rfl (by decide) (by omega) (by omega) (cI_ge (by omega)) ?_
          refine gr_run (pc' := 61) 2 rfl ?_
          exact gr_ret rfl rfl
      · rw [if_neg hw0]
        by_cases hl : (k : Int) < σ.2.2.1.1
        · rw [if_pos hl]
          refine gr_ifF (t := 14) rfl (by decide) (by omega) (cN_eq (by omega)) ?_
          refine gr_run (pc' := 11) 1 rfl ?_
          refine gr_ifT (t := 16) rfl (by decide) (by omega) (cI_ge (by omega)) ?_
          refine gr_run (pc' := 17) 1 rfl ?_
          refine gr_ifT (t := 42) rfl (by decide) (by omega) (cI_ne (by omega)) ?_
          refine gr_run (pc' := 44) 2 rfl ?_
          refine gr_getf rfl rfl (by repeat (first | exact up_s | assumption | refine up_n (by first | assumption | decide | omega) ?_)) (by first | assumption | rfl) rfl ?_
          refine gr_icF (t := 59) rfl (by decide) (by omega) (by omega) (cN_ge (by omega)) ?_
          refine gr_run (pc' := 51) 1 rfl ?_
          refine gr_getf rfl rfl (by repeat (first | exact up_s | assumption | refine up_n (by first | assumption | decide | omega) ?_)) (by first | assumption | rfl) rfl ?_
          refine gr_run (pc' := 55) 1 rfl ?_
          refine gr_iald rfl (by repeat (first | exact up_s | assumption | refine up_n (by first | assumption | decide | omega) ?_)) (by first | assumption | rfl) (ix_i rfl (by omega) (by decide)) ?_
          rw [e4 k (by omega)]
          refine gr_run (pc' := 61) 1 rfl ?_
          exact gr_ret rfl rfl
        · rw [if_neg hl]
          refine gr_ifF (t := 14) rfl (by decide) (by omega) (cN_eq (by omega)) ?_
          refine gr_run (pc' := 11) 1 rfl ?_
          refine gr_ifT (t := 16) rfl (by decide) (by omega) (cI_ge (by omega)) ?_
          refine gr_run (pc' := 17) 1 rfl ?_
          refine gr_ifT (t := 42) rfl (by decide) (by omega) (cI_ne (by omega)) ?_
          refine gr_run (pc' := 44) 2 rfl ?_
          refine gr_getf rfl rfl (by repeat (first | exact up_s | assumption | refine up_n (by first | assumption | decide | omega) ?_)) (by first | assumption | rfl) rfl ?_
          refine gr_icT (t := 59) rfl (by decide) (by omega) (by omega) (cI_ge (by omega)) ?_
          refine gr_run (pc' := 61) 1 rfl ?_
          exact gr_ret rfl rfl
    · rw [if_neg (fun q => hz0 q.2)]
      refine gr_ifF (t := 14) rfl (by decide) (by omega) (cN_eq (by omega)) ?_
      refine gr_run (pc' := 11) 1 rfl ?_
      refine gr_ifF (t := 16) rfl (by decide) (by omega) (cN_ge (by omega)) ?_
      refine gr_run (pc' := 15) 1 rfl ?_
      exact gr_ret rfl rfl
  · rw [if_neg (fun q => hw01 q.1)]
    refine gr_run (pc' := 1) 1 rfl ?_
    refine gr_i2l rfl (by omega) ?_
    refine gr_run (pc' := 4) 2 rfl ?_
    refine gr_callS (As := [_, _, _]) lk_7_61 rfl rfl (r_isF (by omega) (by decide) (by decide) (by show w < 0 ∨ 1 < w; omega)) rfl rfl rfl ?_
    refine gr_ifT (t := 14) rfl (by decide) (by omega) (cI_eq (by omega)) ?_
    refine gr_run (pc' := 15) 1 rfl ?_
    exact gr_ret rfl rfl
end MB
