/-! the model: keep, back, count, cycles, hands, slips, write -/
def keepS (K : Sk) (p : Pn) : Sk := (K.1 + 1, fun j => if j = K.1 then p else K.2 j)
/-- the place comes again: no more beats come in -/
theorem cy_end {n : Nat} {h : Nat → Nat} {t k : Nat} (hk : k ≤ n) (hr : ∃ j, j < k ∧ plc n h t j = plc n h t k) : orN (fun i => 2 ^ plc n h t i) k = cyB n h t := by
  have all : ∀ i, ∃ j, j < k ∧ plc n h t j = plc n h t i := by
    intro i
    induction i with
    | zero =>
      obtain ⟨j, h1, h2⟩ := hr
      exact ⟨0, by omega, rfl⟩
    | succ i ih =>
      obtain ⟨j, h1, h2⟩ := ih
      by_cases e : j + 1 < k
      · exact ⟨j + 1, e, by simp only [plc]; rw [h2]⟩
      · have : j + 1 = k := by omega
        obtain ⟨j', h3, h4⟩ := hr
        refine ⟨j', h3, ?_⟩
        rw [h4, ← this]
        simp only [plc]; rw [h2]
  unfold cyB
  apply Nat.eq_of_testBit_eq
  intro b
  rw [Bool.eq_iff_iff, orN_bit, orN_bit]
  constructor
  · rintro ⟨i, h1, h2⟩
    exact ⟨i, by omega, h2⟩
  · rintro ⟨i, h1, h2⟩
    obtain ⟨j, h3, h4⟩ := all i
    exact ⟨j, h3, by rw [h4]; exact h2⟩
def bhN (a x : Nat) : Int := if a % 2 = 0 then (if x = 0 then ((a / 2 : Nat) : Int) else -4) else if x = 0 ∨ a.testBit x = true then -4 else ((thr a x : Nat) : Int)
theorem bhN_lt {a x : Nat} (ha : a < 512) (hx : x ≤ 9) : bhN a x = -4 ∨ (0 ≤ bhN a x ∧ bhN a x < 512) := by
  unfold bhN
  have := thr_lt ha hx
  split
  · split
    · exact Or.inr (by omega)
    · exact Or.inl rfl
  · split
    · exact Or.inl rfl
    · exact Or.inr (by omega)
theorem bhN_stp {a b x : Nat} (hx : x ≤ 9) : bhN a x = (b : Int) → stp1 a b := by
  unfold bhN stp1
  split
  · rename_i h0
    split
    · intro e
      refine Or.inl ⟨h0, ?_⟩
      rw [show thr a 0 = a / 2 by simp [thr]]
      omega
    · intro e; omega
  · split
    · intro e; omega
    · rename_i h1
      intro e
      have h2 : ¬ x = 0 := fun q => h1 (Or.inl q)
      have h3 : a.testBit x = false := by
        cases hb : a.testBit x with
        | false => rfl
        | true => exact absurd (Or.inr hb) h1
      exact Or.inr ⟨by omega, x, by omega, hx, h3, by omega⟩
theorem stp_bhN {a b : Nat} (h : stp1 a b) : ∃ x, x ≤ 9 ∧ bhN a x = (b : Int) := by
  rcases h with ⟨h1, h2⟩ | ⟨h1, x, h2, h3, h4, h5⟩
  · refine ⟨0, by omega, ?_⟩
    unfold bhN
    rw [if_pos h1, if_pos rfl, h2]
    simp [thr]
  · refine ⟨x, h3, ?_⟩
    unfold bhN
    rw [if_neg (by omega), if_neg (fun q => q.elim (fun e => by omega) (fun e => by rw [h4] at e; cases e)), h5]
def hdN (P : Nat) (h : Nat → Nat) (n a b : Nat) : Nat := sumN (fun k => if 0 < h ((a + n * k) % P) ∧ (a + n * k + h ((a + n * k) % P)) % n = b then 1 else 0) P
/-- what stands against a slip -/
def barN (p : Pn) (y z : Int) : Int := if ¬ (0 ≤ y ∧ y < p.1) ∨ ¬ (1 ≤ z ∧ z ≤ 9) ∨ (p.2 y.toNat : Int) = z then -1 else if p.2 y.toNat = 0 then -2 else 0
section ME
variable {d : Nat} {A : AH} {σ : SS}
theorem m_keepF (hR : RepM σ A) (hk : σ.2.2.2.2.1 = 2) : Rt mX7_keep d [.ref 43] A (some (.int (iI (-3)))) A := by
  have h0 := hR.1
  refine rt_intro kX7_keep rfl rfl rfl ?_
  refine gr_run (pc' := 1) 1 rfl ?_
  refine gr_getf rfl rfl (by repeat (first | exact up_s | assumption | refine up_n (by first | assumption | decide | omega) ?_)) (by first | assumption | rfl) rfl ?_
  refine gr_run (pc' := 5) 1 rfl ?_
  refine gr_icF (t := 11) rfl (by decide) (by omega) (by omega) (cN_ne (by omega)) ?_
  refine gr_run (pc' := 10) 1 rfl ?_
  exact gr_ret rfl rfl
theorem m_keep (hR : RepM σ A) (hS : okS σ) (hk : σ.2.2.2.2.1 < 2) : ∃ A', Rt mX7_keep d [.ref 43] A (some (.int (iI ((σ.2.2.2.2.1 + 1 : Nat) : Int)))) A' ∧ RepM (σ.1, σ.2.1, σ.2.2.1, σ.2.2.2.1, keepS σ.2.2.2.2 σ.2.1) A' ∧ offE A A' 43 56 := by
  obtain ⟨h0, h1, ⟨f, e1, e2⟩, h3, h4, ⟨g, g1, g2⟩, h6⟩ := id hR
  have hn10 := hS.2.1.1.1
  generalize hv : σ.2.2.2.2.1 = v at *
  have loop : ∀ (m k : Nat) (b1 : Nat → Int32), k + m = 10 → (∀ q, q < 11 * v → b1 q = g q) → b1 (11 * v) = iI (σ.2.1.1) → (∀ i, i < k → b1 (11 * v + 1 + i) = f i) → ∃ b' : Nat → Int32, Gr mX7_keep d 29 [some (.ref 43), some (.int (iI (k : Int)))] [] (va_up A 48 (Ia 22 b1)) (some (.int (iI ((v + 1 : Nat) : Int)))) (va_up (va_up A 48 (Ia 22 b')) 43 (mdl σ.1.1 σ.2.1.1 σ.2.2.1.1 σ.2.2.2.1.1 (v + 1))) ∧ (∀ q, q < 11 * v → b' q = g q) ∧ b' (11 * v) = iI (σ.2.1.1) ∧ ∀ i, i < 10 → b' (11 * v + 1 + i) = f i := by
    intro m
    induction m with
    | zero =>
      intro k b1 hk q1 q2 q3
      refine ⟨b1, ?_, q1, q2, fun i hi => q3 i (by omega)⟩
      refine gr_run (pc' := 32) 2 rfl ?_
      refine gr_icT (t := 63) rfl (by decide) (by omega) (by omega) (cI_ge (by omega)) ?_
      refine gr_run (pc' := 65) 2 rfl ?_
      refine gr_getf rfl rfl (by repeat (first | exact up_s | assumption | refine up_n (by first | assumption | decide | omega) ?_)) (by first | assumption | rfl) rfl ?_
      refine gr_run (pc' := 69) 1 rfl ?_
      refine gr_iadd rfl ?_
      refine gr_putf rfl rfl rfl (by repeat (first | exact up_s | assumption | refine up_n (by first | assumption | decide | omega) ?_)) (by first | assumption | rfl) rfl rfl ?_
      refine gr_run (pc' := 74) 1 rfl ?_
      refine gr_getf rfl rfl (by repeat (first | exact up_s | assumption | refine up_n (by first | assumption | decide | omega) ?_)) (by first | assumption | rfl) rfl ?_
      exact gr_ret rfl rfl
    | succ m ih =>
      intro k b1 hk q1 q2 q3
      obtain ⟨b', r1, r2⟩ := ih (k + 1) (upd b1 (11 * v + 1 + k) (f k)) (by omega) (fun q hq => by rw [← q1 q hq]; exact if_neg (by omega)) (by rw [← q2]; exact if_neg (by omega)) (fun i hi => by
        unfold upd
        by_cases e : i = k
        · subst e; rw [if_pos rfl]
        · rw [if_neg (by omega)]; exact q3 i (by omega))
      refine ⟨b', ?_, r2⟩
      refine gr_run (pc' := 32) 2 rfl ?_
      refine gr_icF (t := 63) rfl (by decide) (by omega) (by omega) (cN_ge (by omega)) ?_
      refine gr_run (pc' := 36) 1 rfl ?_
      refine gr_getf rfl rfl (by repeat (first | exact up_s | assumption | refine up_n (by first | assumption | decide | omega) ?_)) (by first | assumption | rfl) rfl ?_
      refine gr_run (pc' := 42) 2 rfl ?_
      refine gr_getf rfl rfl (by repeat (first | exact up_s | assumption | refine up_n (by first | assumption | decide | omega) ?_)) (by first | assumption | rfl) rfl ?_
      refine gr_imul rfl ?_
      refine gr_run (pc' := 47) 1 rfl ?_
      refine gr_iadd rfl ?_
      refine gr_run (pc' := 49) 1 rfl ?_
      refine gr_iadd rfl ?_
      refine gr_run (pc' := 51) 1 rfl ?_
      refine gr_getf rfl rfl (by repeat (first | exact up_s | assumption | refine up_n (by first | assumption | decide | omega) ?_)) (by first | assumption | rfl) rfl ?_
      refine gr_run (pc' := 55) 1 rfl ?_
      refine gr_iald rfl (by repeat (first | exact up_s | assumption | refine up_n (by first | assumption | decide | omega) ?_)) (by first | assumption | rfl) (ix_i rfl (by omega) (by decide)) ?_
      refine gr_iast rfl (by repeat (first | exact up_s | assumption | refine up_n (by first | assumption | decide | omega) ?_)) (by first | assumption | rfl) (ix_i (j := 11 * v + 1 + k) (by omega) (by omega) (by decide)) ?_
      rw [bx_uu]
      refine gr_iinc rfl rfl rfl rfl ?_
      refine gr_run (pc' := 29) 1 rfl ?_
      exact r1
  obtain ⟨b', r1, r2, r3, r4⟩ := loop 10 0 (upd g (11 * v) (iI (σ.2.1.1))) (by omega) (fun q hq => if_neg (by omega)) (if_pos rfl) (fun i hi => by omega)
  refine ⟨va_up (va_up A 48 (Ia 22 b')) 43 (mdl σ.1.1 σ.2.1.1 σ.2.2.1.1 σ.2.2.2.1.1 (v + 1)), ?_, ⟨?_, h1.o ((up_o (by decide)).trans (up_o (by decide))), ⟨f, up_n (by decide) (up_n (by decide) e1), e2⟩, h3.o ((up_o (by decide)).trans (up_o (by decide))), h4.o ((up_o (by decide)).trans (up_o (by decide))), ⟨b', up_n (by decide) up_s, fun j hj => ?_⟩, h6.o (fun k _ _ => (up_o (by omega)).trans (up_o (by omega)))⟩, (offE.rf.up (by omega)).up (by omega)⟩
  · refine rt_intro kX7_keep rfl rfl rfl ?_
    refine gr_run (pc' := 1) 1 rfl ?_
    refine gr_getf rfl rfl (by repeat (first | exact up_s | assumption | refine up_n (by first | assumption | decide | omega) ?_)) (by first | assumption | rfl) rfl ?_
    refine gr_run (pc' := 5) 1 rfl ?_
    refine gr_icT (t := 11) rfl (by decide) (by omega) (by omega) (cI_ne (by omega)) ?_
    refine gr_run (pc' := 12) 1 rfl ?_
    refine gr_getf rfl rfl (by repeat (first | exact up_s | assumption | refine up_n (by first | assumption | decide | omega) ?_)) (by first | assumption | rfl) rfl ?_
    refine gr_run (pc' := 18) 2 rfl ?_
    refine gr_getf rfl rfl (by repeat (first | exact up_s | assumption | refine up_n (by first | assumption | decide | omega) ?_)) (by first | assumption | rfl) rfl ?_
    refine gr_imul rfl ?_
    refine gr_run (pc' := 23) 1 rfl ?_
    refine gr_getf rfl rfl (by repeat (first | exact up_s | assumption | refine up_n (by first | assumption | decide | omega) ?_)) (by first | assumption | rfl) rfl ?_
    refine gr_iast rfl (by repeat (first | exact up_s | assumption | refine up_n (by first | assumption | decide | omega) ?_)) (by first | assumption | rfl) (ix_i (j := 11 * v) (by omega) (by omega) (by decide)) ?_
    refine gr_run (pc' := 29) 2 rfl ?_
    exact r1
  · show va_up _ 43 _ 43 = mdl σ.1.1 σ.2.1.1 σ.2.2.1.1 σ.2.2.2.1.1 (σ.2.2.2.2.1 + 1)
    rw [hv]
    exact up_s
  · simp only [keepS] at hj ⊢
    rw [hv] at hj ⊢
    by_cases e : j = v
    · rw [if_pos e, e]
      exact ⟨r3, fun i hi => by rw [r4 i (by omega)]; exact e2 i hi⟩
    · rw [if_neg e]
      have hj2 : j < v := by omega
      have hk2 := (hS.2.2.2.2.2 j (by omega)).1.1
      obtain ⟨w1, w2⟩ := g2 j (by omega)
      exact ⟨by rw [r2 _ (by omega)]; exact w1, fun i hi => by rw [r2 _ (by omega)]; exact w2 i hi⟩
theorem m_back0 (hR : RepM σ A) (hk : σ.2.2.2.2.1 = 0) : Rt mX7_back d [.ref 43] A (some (.int (iI (-2)))) A := by
  have h0 := hR.1
  refine rt_intro kX7_back rfl rfl rfl ?_
  refine gr_run (pc' := 1) 1 rfl ?_
  refine gr_getf rfl rfl (by repeat (first | exact up_s | assumption | refine up_n (by first | assumption | decide | omega) ?_)) (by first | assumption | rfl) rfl ?_
  refine gr_ifF (t := 10) rfl (by decide) (by omega) (cN_ne (by omega)) ?_
  refine gr_run (pc' := 9) 1 rfl ?_
  exact gr_ret rfl rfl
theorem m_back (hR : RepM σ A) (hS : okS σ) (hu : 1 ≤ σ.2.2.2.2.1) : ∃ A', Rt mX7_back d [.ref 43] A (some (.int (iI ((σ.2.2.2.2.1 - 1 : Nat) : Int)))) A' ∧ RepM (σ.1, σ.2.2.2.2.2 (σ.2.2.2.2.1 - 1), σ.2.2.1, (0, σ.2.2.2.1.2), popU σ.2.2.2.2) A' ∧ offE A A' 43 56 := by
  obtain ⟨h0, h1, ⟨f, e1, e2⟩, h3, h4, ⟨g, g1, g2⟩, h6⟩ := id hR
  have hu8 := hS.2.2.2.2.1
  have hk := hS.2.2.2.2.2 (σ.2.2.2.2.1 - 1) (by omega)
  have hk1 := hk.1.1
  obtain ⟨w1, w2⟩ := g2 (σ.2.2.2.2.1 - 1) (by omega)
  generalize hv : σ.2.2.2.2.1 - 1 = v at *
  have hvu : (σ.2.2.2.2.1 : Int) - 1 = (v : Int) := by omega
  have hlast : ∀ X : Nat → Int32, va_up (va_up (va_up A 43 (mdl σ.1.1 (σ.2.2.2.2.2 v).1 σ.2.2.1.1 σ.2.2.2.1.1 v)) 45 (Ia 10 X)) 43 (mdl σ.1.1 (σ.2.2.2.2.2 v).1 σ.2.2.1.1 0 v) = va_up (va_up A 43 (mdl σ.1.1 (σ.2.2.2.2.2 v).1 σ.2.2.1.1 0 v)) 45 (Ia 10 X) := by
    intro X
    funext k
    simp only [va_up]
    by_cases a1 : k = 43 <;> by_cases a2 : k = 45 <;> simp [a1, a2]
  have key : ∀ i : Nat, i ≤ 10 → Gr mX7_back d 38 [some (.ref 43), some (.int (iI (i : Int)))] [] (va_up (va_up A 43 (mdl σ.1.1 (σ.2.2.2.2.2 v).1 σ.2.2.1.1 σ.2.2.2.1.1 v)) 45 (Ia 10 (fun j => if j < i then g (11 * v + 1 + j) else f j))) (some (.int (iI (v : Int)))) (va_up (va_up A 43 (mdl σ.1.1 (σ.2.2.2.2.2 v).1 σ.2.2.1.1 0 v)) 45 (Ia 10 (fun j => if j < 10 then g (11 * v + 1 + j) else f j))) := by
    refine go_up ?_ ?_
    · refine gr_run (pc' := 41) 2 rfl ?_
      refine gr_icT (t := 72) rfl (by decide) (by omega) (by omega) (cI_ge (by omega)) ?_
      refine gr_run (pc' := 74) 2 rfl ?_
      refine gr_putf rfl rfl rfl (by repeat (first | exact up_s | assumption | refine up_n (by first | assumption | decide | omega) ?_)) (by first | assumption | rfl) rfl rfl ?_
      refine gr_h (hlast _) ?_
      refine gr_run (pc' := 78) 1 rfl ?_
      refine gr_getf rfl rfl (by repeat (first | exact up_s | assumption | refine up_n (by first | assumption | decide | omega) ?_)) (by first | assumption | rfl) rfl ?_
      exact gr_ret rfl rfl
    · intro i hi ih
      refine gr_run (pc' := 41) 2 rfl ?_
      refine gr_icF (t := 72) rfl (by decide) (by omega) (by omega) (cN_ge (by omega)) ?_
      refine gr_run (pc' := 45) 1 rfl ?_
      refine gr_getf rfl rfl (by repeat (first | exact up_s | assumption | refine up_n (by first | assumption | decide | omega) ?_)) (by first | assumption | rfl) rfl ?_
      refine gr_run (pc' := 50) 2 rfl ?_
      refine gr_getf rfl rfl (by repeat (first | exact up_s | assumption | refine up_n (by first | assumption | decide | omega) ?_)) (by first | assumption | rfl) rfl ?_
      refine gr_run (pc' := 56) 2 rfl ?_
      refine gr_getf rfl rfl (by repeat (first | exact up_s | assumption | refine up_n (by first | assumption | decide | omega) ?_)) (by first | assumption | rfl) rfl ?_
      refine gr_imul rfl ?_
      refine gr_run (pc' := 61) 1 rfl ?_
      refine gr_iadd rfl ?_
      refine gr_run (pc' := 63) 1 rfl ?_
      refine gr_iadd rfl ?_
      refine gr_iald rfl (by repeat (first | exact up_s | assumption | refine up_n (by first | assumption | decide | omega) ?_)) (by first | assumption | rfl) (ix_i (j := 11 * v + 1 + i) (by omega) (by omega) (by decide)) ?_
      refine gr_iast rfl (by repeat (first | exact up_s | assumption | refine up_n (by first | assumption | decide | omega) ?_)) (by first | assumption | rfl) (ix_i rfl (by omega) (by decide)) ?_
      rw [bx_uu, upd_lt (g := fun j => g (11 * v + 1 + j))]
      refine gr_iinc rfl rfl rfl rfl ?_
      refine gr_run (pc' := 38) 1 rfl ?_
      exact ih
  refine ⟨va_up (va_up A 43 (mdl σ.1.1 (σ.2.2.2.2.2 v).1 σ.2.2.1.1 0 v)) 45 (Ia 10 (fun j => if j < 10 then g (11 * v + 1 + j) else f j)), ?_, ⟨?_, h1.o ((up_o (by decide)).trans (up_o (by decide))), ⟨fun j => if j < 10 then g (11 * v + 1 + j) else f j, up_s, fun i hi => ?_⟩, h3.o ((up_o (by decide)).trans (up_o (by decide))), ?_, ⟨g, up_n (by decide) (up_n (by decide) g1), fun j hj => ?_⟩, h6.o (fun k _ _ => (up_o (by omega)).trans (up_o (by omega)))⟩, (offE.rf.up (by omega)).up (by omega)⟩
  · refine rt_intro kX7_back rfl rfl rfl ?_
    refine gr_run (pc' := 1) 1 rfl ?_
    refine gr_getf rfl rfl (by repeat (first | exact up_s | assumption | refine up_n (by first | assumption | decide | omega) ?_)) (by first | assumption | rfl) rfl ?_
    refine gr_ifT (t := 10) rfl (by decide) (by omega) (cI_ne (by omega)) ?_
    refine gr_run (pc' := 12) 2 rfl ?_
    refine gr_getf rfl rfl (by repeat (first | exact up_s | assumption | refine up_n (by first | assumption | decide | omega) ?_)) (by first | assumption | rfl) rfl ?_
    refine gr_run (pc' := 16) 1 rfl ?_
    refine gr_isub rfl ?_
    rw [hvu]
    refine gr_putf rfl rfl rfl (by repeat (first | exact up_s | assumption | refine up_n (by first | assumption | decide | omega) ?_)) (by first | assumption | rfl) rfl rfl ?_
    refine gr_run (pc' := 22) 2 rfl ?_
    refine gr_getf rfl rfl (by repeat (first | exact up_s | assumption | refine up_n (by first | assumption | decide | omega) ?_)) (by first | assumption | rfl) rfl ?_
    refine gr_run (pc' := 28) 2 rfl ?_
    refine gr_getf rfl rfl (by repeat (first | exact up_s | assumption | refine up_n (by first | assumption | decide | omega) ?_)) (by first | assumption | rfl) rfl ?_
    refine gr_imul rfl ?_
    refine gr_iald rfl (by repeat (first | exact up_s | assumption | refine up_n (by first | assumption | decide | omega) ?_)) (by first | assumption | rfl) (ix_i (j := 11 * v) (by omega) (by omega) (by decide)) ?_
    rw [w1]
    refine gr_putf rfl rfl rfl (by repeat (first | exact up_s | assumption | refine up_n (by first | assumption | decide | omega) ?_)) (by first | assumption | rfl) rfl rfl ?_
    refine gr_run (pc' := 38) 2 rfl ?_
    rw [bx_uu]
    refine gr_h ?_ (key 0 (by omega))
    exact (up_same (up_n (by decide) (by simpa using e1))).symm
  · show va_up (va_up A 43 (mdl σ.1.1 (σ.2.2.2.2.2 v).1 σ.2.2.1.1 0 v)) 45 _ 43 = mdl σ.1.1 (σ.2.2.2.2.2 v).1 σ.2.2.1.1 0 (σ.2.2.2.2.1 - 1)
    rw [hv]
    exact up_n (by decide) up_s
  · dsimp only at hi ⊢
    rw [if_pos (by have := hk1.2; exact Nat.lt_of_lt_of_le hi this)]
    exact w2 i hi
  · obtain ⟨b, b1, b2⟩ := h4
    exact ⟨b, up_n (by decide) (up_n (by decide) b1), fun j hj => by simp at hj⟩
  · simp only [popU] at hj ⊢
    exact g2 j (by omega)
def cntN (σ : SS) (z : Int) : Int := if z = 0 then (σ.2.1.1 : Int) else if z = 1 then (σ.2.2.1.1 : Int) else if z = 2 then (σ.2.2.2.1.1 : Int) else if z = 3 then (σ.2.2.2.2.1 : Int) else if z = 4 then (σ.1.1 : Int) else -1
theorem m_count {z : Int} (hR : RepM σ A) (hz : bd z) : Rt mX7_count d [.ref 43, .int (iI z)] A (some (.int (iI (cntN σ z)))) A := by
  have h0 := hR.1
  unfold cntN
  refine rt_intro kX7_count rfl rfl rfl ?_
  refine gr_run (pc' := 1) 1 rfl ?_
  by_cases c0 : z = 0
  · rw [if_pos c0]; subst c0
    refine gr_tabIn (t := 36) rfl (by omega) (by omega) (by omega) rfl (by decide) ?_
    refine gr_run (pc' := 37) 1 rfl ?_
    refine gr_getf rfl rfl (by repeat (first | exact up_s | assumption | refine up_n (by first | assumption | decide | omega) ?_)) (by first | assumption | rfl) rfl ?_
    exact gr_ret rfl rfl
  rw [if_neg c0]
  by_cases c1 : z = 1
  · rw [if_pos c1]; subst c1
    refine gr_tabIn (t := 41) rfl (by omega) (by omega) (by omega) rfl (by decide) ?_
    refine gr_run (pc' := 42) 1 rfl ?_
    refine gr_getf rfl rfl (by repeat (first | exact up_s | assumption | refine up_n (by first | assumption | decide | omega) ?_)) (by first | assumption | rfl) rfl ?_
    exact gr_ret rfl rfl
  rw [if_neg c1]
  by_cases c2 : z = 2
  · rw [if_pos c2]; subst c2
    refine gr_tabIn (t := 46) rfl (by omega) (by omega) (by omega) rfl (by decide) ?_
    refine gr_run (pc' := 47) 1 rfl ?_
    refine gr_getf rfl rfl (by repeat (first | exact up_s | assumption | refine up_n (by first | assumption | decide | omega) ?_)) (by first | assumption | rfl) rfl ?_
    exact gr_ret rfl rfl
  rw [if_neg c2]
  by_cases c3 : z = 3
  · rw [if_pos c3]; subst c3
    refine gr_tabIn (t := 51) rfl (by omega) (by omega) (by omega) rfl (by decide) ?_
    refine gr_run (pc' := 52) 1 rfl ?_
    refine gr_getf rfl rfl (by repeat (first | exact up_s | assumption | refine up_n (by first | assumption | decide | omega) ?_)) (by first | assumption | rfl) rfl ?_
    exact gr_ret rfl rfl
  rw [if_neg c3]
  by_cases c4 : z = 4
  · rw [if_pos c4]; subst c4
    refine gr_tabIn (t := 56) rfl (by omega) (by omega) (by omega) rfl (by decide) ?_
    refine gr_run (pc' := 57) 1 rfl ?_
    refine gr_getf rfl rfl (by repeat (first | exact up_s | assumption | refine up_n (by first | assumption | decide | omega) ?_)) (by first | assumption | rfl) rfl ?_
    exact gr_ret rfl rfl
  rw [if_neg c4]
  refine gr_tabOut (t := 61) rfl (by omega) (by omega) (by decide) ?_
  refine gr_run (pc' := 62) 1 rfl ?_
  exact gr_ret rfl rfl
theorem m_cycleOf {t : Nat} (hR : RepM σ A) (hS : okT σ.2.1) (ht : t < σ.2.1.1) : Rt mX7_cycleOf d [.ref 43, .int (iI t)] A (some (.int (iI ((cyB σ.2.1.1 σ.2.1.2 t : Nat) : Int)))) A := by
  obtain ⟨h0, -, ⟨f, e1, e2⟩, -⟩ := hR
  have hn := hS.1.1
  have h9 := hS.1.2
  have hpl := plc_lt (n := σ.2.1.1) (h := σ.2.1.2) (t := t) hn.1 ht
  have loop : ∀ m k, k + m = σ.2.1.1 → (∀ i j, i < j → j < k → plc σ.2.1.1 σ.2.1.2 t i ≠ plc σ.2.1.1 σ.2.1.2 t j) → Gr mX7_cycleOf d 4 [some (.ref 43), some (.int (iI t)), some (.int (iI ((orN (fun i => 2 ^ plc σ.2.1.1 σ.2.1.2 t i) k : Nat) : Int))), some (.int (iI ((plc σ.2.1.1 σ.2.1.2 t k : Nat) : Int)))] [] A (some (.int (iI ((cyB σ.2.1.1 σ.2.1.2 t : Nat) : Int)))) A := by
    intro m
    induction m with
    | zero =>
      intro k hk hd
      have hlt : orN (fun i => 2 ^ plc σ.2.1.1 σ.2.1.2 t i) k < 2 ^ 10 := orN_lt (fun i _ => pow2_lt (by have := hpl i; omega))
      have hrep : ∃ j, j < k ∧ plc σ.2.1.1 σ.2.1.2 t j = plc σ.2.1.1 σ.2.1.2 t k := by
        apply Classical.byContradiction
        intro hno
        have := inj_le (s := plc σ.2.1.1 σ.2.1.2 t) (n := k + 1) (m := σ.2.1.1) (fun i _ => hpl i) (fun i j h1 h2 he => by
          by_cases e : j = k
          · subst e; exact hno ⟨i, h1, he⟩
          · exact hd i j h1 (by omega) he)
        omega
      have hbit : (orN (fun i => 2 ^ plc σ.2.1.1 σ.2.1.2 t i) k).testBit (plc σ.2.1.1 σ.2.1.2 t k) = true := by
        rw [orN_bit]
        obtain ⟨j, j1, j2⟩ := hrep
        exact ⟨j, j1, by rw [j2]; exact bit_pow.mpr rfl⟩
      have hpk := hpl k
      refine gr_run (pc' := 6) 2 rfl ?_
      refine gr_ishrN rfl (by omega) (by omega) ?_
      refine gr_run (pc' := 8) 1 rfl ?_
      refine gr_iandN (b := 1) rfl ?_
      rw [shr_and1, if_pos hbit]
      refine gr_ifT (t := 35) rfl (by decide) (by omega) (cI_ne (by omega)) ?_
      refine gr_run (pc' := 36) 1 rfl ?_
      rw [cy_end (by omega) hrep]
      exact gr_ret rfl rfl
    | succ m ih =>
      intro k hk hd
      have hlt : orN (fun i => 2 ^ plc σ.2.1.1 σ.2.1.2 t i) k < 2 ^ 10 := orN_lt (fun i _ => pow2_lt (by have := hpl i; omega))
      have hpk := hpl k
      by_cases hbit : (orN (fun i => 2 ^ plc σ.2.1.1 σ.2.1.2 t i) k).testBit (plc σ.2.1.1 σ.2.1.2 t k) = true
      · have hrep : ∃ j, j < k ∧ plc σ.2.1.1 σ.2.1.2 t j = plc σ.2.1.1 σ.2.1.2 t k := by
          obtain ⟨j, j1, j2⟩ := orN_bit.mp hbit
          exact ⟨j, j1, (bit_pow.mp j2).symm⟩
        refine gr_run (pc' := 6) 2 rfl ?_
        refine gr_ishrN rfl (by omega) (by omega) ?_
        refine gr_run (pc' := 8) 1 rfl ?_
        refine gr_iandN (b := 1) rfl ?_
        rw [shr_and1, if_pos hbit]
        refine gr_ifT (t := 35) rfl (by decide) (by omega) (cI_ne (by omega)) ?_
        refine gr_run (pc' := 36) 1 rfl ?_
        rw [cy_end (by omega) hrep]
        exact gr_ret rfl rfl
      · have h9k := h9 _ hpk
        refine gr_run (pc' := 6) 2 rfl ?_
        refine gr_ishrN rfl (by omega) (by omega) ?_
        refine gr_run (pc' := 8) 1 rfl ?_
        refine gr_iandN (b := 1) rfl ?_
        rw [shr_and1, if_neg hbit]
        refine gr_ifF (t := 35) rfl (by decide) (by omega) (cN_ne (by omega)) ?_
        refine gr_run (pc' := 15) 3 rfl ?_
        refine gr_ishl1 rfl (by omega) ?_
        refine gr_iorN rfl ?_
        refine gr_run (pc' := 20) 3 rfl ?_
        refine gr_getf rfl rfl (by repeat (first | exact up_s | assumption | refine up_n (by first | assumption | decide | omega) ?_)) (by first | assumption | rfl) rfl ?_
        refine gr_run (pc' := 24) 1 rfl ?_
        refine gr_iald rfl (by repeat (first | exact up_s | assumption | refine up_n (by first | assumption | decide | omega) ?_)) (by first | assumption | rfl) (ix_i rfl (by omega) (by decide)) ?_
        rw [e2 _ hpk]
        refine gr_iadd rfl ?_
        refine gr_run (pc' := 27) 1 rfl ?_
        refine gr_getf rfl rfl (by repeat (first | exact up_s | assumption | refine up_n (by first | assumption | decide | omega) ?_)) (by first | assumption | rfl) rfl ?_
        refine gr_iremN rfl (by omega) (by omega) (by omega) (by omega) ?_
        rw [show (((plc σ.2.1.1 σ.2.1.2 t k : Nat) : Int) + (σ.2.1.2 (plc σ.2.1.1 σ.2.1.2 t k) : Int)) % (σ.2.1.1 : Int) = ((plc σ.2.1.1 σ.2.1.2 t (k + 1) : Nat) : Int) from rfl]
        refine gr_run (pc' := 4) 2 rfl ?_
        refine ih (k + 1) (by omega) (fun i j h1 h2 he => ?_)
        by_cases e : j = k
        · subst e
          exact hbit (orN_bit.mpr ⟨i, h1, by rw [he]; exact bit_pow.mpr rfl⟩)
        · exact hd i j h1 (by omega) he
  refine rt_intro kX7_cycleOf rfl rfl rfl ?_
  refine gr_run (pc' := 4) 4 rfl ?_
  exact loop σ.2.1.1 0 (by omega) (fun i j h1 h2 => by omega)
def cycN (p : Pn) (z : Int) : Int := if z = -1 then ((cyC p.1 p.2 : Nat) : Int) else if 0 ≤ z ∧ z < p.1 then ((cyB p.1 p.2 z.toNat : Nat) : Int) else -1
theorem m_cycle {z : Int} (hR : RepM σ A) (hS : okT σ.2.1) (hz : bd z) : Rt mX7_cycle (d + 1) [.ref 43, .int (iI z)] A (some (.int (iI (cycN σ.2.1 z)))) A := by
  obtain ⟨h0, -, ⟨f, e1, e2⟩, -⟩ := id hR
  have hn := hS.1.1
  have h9 := hS.1.2
  unfold cycN
  have key : ∀ i, i ≤ σ.2.1.1 → Gr mX7_cycle (d + 1) 34 [some (.ref 43), some (.int (iI (-1))), some (.int (iI ((sumN (fun i => if 0 < σ.2.1.2 i ∧ cyB σ.2.1.1 σ.2.1.2 i &&& (2 ^ i - 1) = 0 then 1 else 0) i : Nat) : Int))), some (.int (iI (i : Int)))] [] A (some (.int (iI ((cyC σ.2.1.1 σ.2.1.2 : Nat) : Int)))) A := by
    refine go_up ?_ ?_
    · refine gr_run (pc' := 36) 2 rfl ?_
      refine gr_getf rfl rfl (by repeat (first | exact up_s | assumption | refine up_n (by first | assumption | decide | omega) ?_)) (by first | assumption | rfl) rfl ?_
      refine gr_icT (t := 79) rfl (by decide) (by omega) (by omega) (cI_ge (by omega)) ?_
      refine gr_run (pc' := 80) 1 rfl ?_
      exact gr_ret rfl rfl
    · intro i hi ih
      have hc := cyB_lt (h := σ.2.1.2) hn hi
      have h9i := h9 i hi
      have hand : cyB σ.2.1.1 σ.2.1.2 i &&& (2 ^ i - 1) ≤ cyB σ.2.1.1 σ.2.1.2 i := Nat.and_le_left
      have hp0 := Nat.two_pow_pos i
      refine gr_run (pc' := 36) 2 rfl ?_
      refine gr_getf rfl rfl (by repeat (first | exact up_s | assumption | refine up_n (by first | assumption | decide | omega) ?_)) (by first | assumption | rfl) rfl ?_
      refine gr_icF (t := 79) rfl (by decide) (by omega) (by omega) (cN_ge (by omega)) ?_
      refine gr_run (pc' := 44) 2 rfl ?_
      refine gr_getf rfl rfl (by repeat (first | exact up_s | assumption | refine up_n (by first | assumption | decide | omega) ?_)) (by first | assumption | rfl) rfl ?_
      refine gr_run (pc' := 48) 1 rfl ?_
      refine gr_iald rfl (by repeat (first | exact up_s | assumption | refine up_n (by first | assumption | decide | omega) ?_)) (by first | assumption | rfl) (ix_i rfl (by omega) (by decide)) ?_
      rw [e2 i hi]
      by_cases h2 : 0 < σ.2.1.2 i
      · refine gr_ifF (t := 70) rfl (by decide) (by omega) (cN_le (by omega)) ?_
        refine gr_run (pc' := 54) 2 rfl ?_
        refine gr_callV (As := [_]) lk_7_111 rfl rfl (m_cycleOf hR hS hi) (by repeat (first | exact up_s | assumption | refine up_n (by first | assumption | decide | omega) ?_)) (by first | assumption | exact Nat.le_of_ble_eq_true rfl | exact Nat.le_of_ble_eq_true (by assumption)) rfl rfl rfl rfl rfl ?_
        refine gr_run (pc' := 59) 2 rfl ?_
        refine gr_ishl1 rfl (by omega) ?_
        refine gr_run (pc' := 61) 1 rfl ?_
        refine gr_isub rfl ?_
        rw [show ((2 ^ i : Nat) : Int) - 1 = ((2 ^ i - 1 : Nat) : Int) by omega]
        refine gr_iandN rfl ?_
        by_cases h1 : cyB σ.2.1.1 σ.2.1.2 i &&& (2 ^ i - 1) = 0
        · refine gr_ifF (t := 70) rfl (by decide) (by omega) (cN_ne (by omega)) ?_
          refine gr_run (pc' := 71) 2 rfl ?_
          refine gr_iadd rfl ?_
          refine gr_run (pc' := 73) 1 rfl ?_
          refine gr_iinc rfl rfl rfl rfl ?_
          refine gr_run (pc' := 34) 1 rfl ?_
          simp only [sumN, if_pos (And.intro h2 h1)] at ih
          exact ih
        · refine gr_ifT (t := 70) rfl (by decide) (by omega) (cI_ne (by omega)) ?_
          refine gr_run (pc' := 71) 1 rfl ?_
          refine gr_iadd rfl ?_
          refine gr_run (pc' := 73) 1 rfl ?_
          refine gr_iinc rfl rfl rfl rfl ?_
          refine gr_run (pc' := 34) 1 rfl ?_
          simp only [sumN, if_neg (fun q : 0 < σ.2.1.2 i ∧ cyB σ.2.1.1 σ.2.1.2 i &&& (2 ^ i - 1) = 0 => h1 q.2)] at ih
          exact ih
      · refine gr_ifT (t := 70) rfl (by decide) (by omega) (cI_le (by omega)) ?_
        refine gr_run (pc' := 71) 1 rfl ?_
        refine gr_iadd rfl ?_
        refine gr_run (pc' := 73) 1 rfl ?_
        refine gr_iinc rfl rfl rfl rfl ?_
        refine gr_run (pc' := 34) 1 rfl ?_
        simp only [sumN, if_neg (fun q : 0 < σ.2.1.2 i ∧ cyB σ.2.1.1 σ.2.1.2 i &&& (2 ^ i - 1) = 0 => h2 q.1)] at ih
        exact ih
  refine rt_intro kX7_cycle rfl rfl rfl ?_
  by_cases c0 : z = -1
  · rw [if_pos c0]; subst c0
    refine gr_run (pc' := 1) 1 rfl ?_
    refine gr_i2l rfl (by omega) ?_
    refine gr_run (pc' := 6) 2 rfl ?_
    refine gr_getf rfl rfl (by repeat (first | exact up_s | assumption | refine up_n (by first | assumption | decide | omega) ?_)) (by first | assumption | rfl) rfl ?_
    refine gr_run (pc' := 10) 1 rfl ?_
    refine gr_isub rfl ?_
    refine gr_i2l rfl (by omega) ?_
    refine gr_callS (As := [_, _, _]) lk_7_61 rfl rfl (r_isT (by decide) (by decide) (by omega) (by decide) (by omega)) rfl rfl rfl ?_
    refine gr_ifT (t := 20) rfl (by decide) (by omega) (cI_ne (by omega)) ?_
    refine gr_run (pc' := 21) 1 rfl ?_
    refine gr_ifT (t := 30) rfl (by decide) (by omega) (cI_lt (by omega)) ?_
    refine gr_run (pc' := 34) 4 rfl ?_
    exact key 0 (by omega)
  · rw [if_neg c0]
    by_cases c1 : 0 ≤ z ∧ z < σ.2.1.1
    · rw [if_pos c1]
      obtain ⟨k, rfl⟩ : ∃ k : Nat, z = (k : Int) := ⟨z.toNat, by omega⟩
      simp only [Int.toNat_natCast]
      refine gr_run (pc' := 1) 1 rfl ?_
      refine gr_i2l rfl (by omega) ?_
      refine gr_run (pc' := 6) 2 rfl ?_
      refine gr_getf rfl rfl (by repeat (first | exact up_s | assumption | refine up_n (by first | assumption | decide | omega) ?_)) (by first | assumption | rfl) rfl ?_
      refine gr_run (pc' := 10) 1 rfl ?_
      refine gr_isub rfl ?_
      refine gr_i2l rfl (by omega) ?_
      refine gr_callS (As := [_, _, _]) lk_7_61 rfl rfl (r_isT (by omega) (by decide) (by omega) (by show (-1 : Int) ≤ k; omega) (by omega)) rfl rfl rfl ?_
      refine gr_ifT (t := 20) rfl (by decide) (by omega) (cI_ne (by omega)) ?_
      refine gr_run (pc' := 21) 1 rfl ?_
      refine gr_ifF (t := 30) rfl (by decide) (by omega) (cN_lt (by omega)) ?_
      refine gr_run (pc' := 26) 2 rfl ?_
      refine gr_callV (As := [_]) lk_7_111 rfl rfl (m_cycleOf hR hS (by omega)) (by repeat (first | exact up_s | assumption | refine up_n (by first | assumption | decide | omega) ?_)) (by first | assumption | exact Nat.le_of_ble_eq_true rfl | exact Nat.le_of_ble_eq_true (by assumption)) rfl rfl rfl rfl rfl ?_
      exact gr_ret rfl rfl
    · rw [if_neg c1]
      refine gr_run (pc' := 1) 1 rfl ?_
      refine gr_i2l rfl (by omega) ?_
      refine gr_run (pc' := 6) 2 rfl ?_
      refine gr_getf rfl rfl (by repeat (first | exact up_s | assumption | refine up_n (by first | assumption | decide | omega) ?_)) (by first | assumption | rfl) rfl ?_
      refine gr_run (pc' := 10) 1 rfl ?_
      refine gr_isub rfl ?_
      refine gr_i2l rfl (by omega) ?_
      refine gr_callS (As := [_, _, _]) lk_7_61 rfl rfl (r_isF (by omega) (by decide) (by omega) (by show z < -1 ∨ (σ.2.1.1 : Int) - 1 < z; omega)) rfl rfl rfl ?_
      refine gr_ifF (t := 20) rfl (by decide) (by omega) (cN_ne (by omega)) ?_
      refine gr_run (pc' := 19) 1 rfl ?_
      exact gr_ret rfl rfl
theorem r_behind {a x : Nat} (ha : a < 512) (hx : x ≤ 9) : Rt mX7_behind d [.int (iI a), .int (iI x)] A (some (.int (iI (bhN a x)))) A := by
  refine rt_intro kX7_behind rfl rfl rfl ?_
  refine gr_run (pc' := 2) 2 rfl ?_
  refine gr_ishrN (k0 := 1) rfl (by omega) (by omega) ?_
  refine gr_run (pc' := 6) 3 rfl ?_
  refine gr_iandN (b := 1) rfl ?_
  rw [and1]
  unfold bhN
  by_cases he : a % 2 = 0
  · rw [if_pos he]
    by_cases h0 : x = 0
    · rw [if_pos h0]
      refine gr_ifF (t := 21) rfl (by decide) (by omega) (cN_ne (by omega)) ?_
      refine gr_run (pc' := 11) 1 rfl ?_
      refine gr_ifF (t := 18) rfl (by decide) (by omega) (cN_ne (by omega)) ?_
      refine gr_run (pc' := 20) 2 rfl ?_
      exact gr_ret rfl rfl
    · rw [if_neg h0]
      refine gr_ifF (t := 21) rfl (by decide) (by omega) (cN_ne (by omega)) ?_
      refine gr_run (pc' := 11) 1 rfl ?_
      refine gr_ifT (t := 18) rfl (by decide) (by omega) (cI_ne (by omega)) ?_
      refine gr_run (pc' := 20) 1 rfl ?_
      exact gr_ret rfl rfl
  · rw [if_neg he]
    by_cases h0 : x = 0
    · rw [if_pos (Or.inl h0)]
      refine gr_ifT (t := 21) rfl (by decide) (by omega) (cI_ne (by omega)) ?_
      refine gr_run (pc' := 22) 1 rfl ?_
      refine gr_ifT (t := 36) rfl (by decide) (by omega) (cI_eq (by omega)) ?_
      refine gr_run (pc' := 48) 2 rfl ?_
      exact gr_ret rfl rfl
    · refine gr_ifT (t := 21) rfl (by decide) (by omega) (cI_ne (by omega)) ?_
      refine gr_run (pc' := 22) 1 rfl ?_
      refine gr_ifF (t := 36) rfl (by decide) (by omega) (cN_eq (by omega)) ?_
      refine gr_run (pc' := 28) 3 rfl ?_
      refine gr_isub rfl ?_
      rw [show (x : Int) - 1 = ((x - 1 : Nat) : Int) by omega]
      refine gr_ishrN rfl (by omega) (by omega) ?_
      refine gr_run (pc' := 31) 1 rfl ?_
      refine gr_iandN (b := 1) rfl ?_
      rw [shr_and1, Nat.testBit_div_two_pow, show x - 1 + 1 = x by omega]
      by_cases hb : a.testBit x = true
      · rw [if_pos hb, if_pos (Or.inr hb)]
        refine gr_run (pc' := 33) 1 rfl ?_
        refine gr_icF (t := 41) rfl (by decide) (by omega) (by omega) (cN_ne (by omega)) ?_
        refine gr_run (pc' := 48) 2 rfl ?_
        exact gr_ret rfl rfl
      · rw [if_neg hb, if_neg (fun q => q.elim h0 hb)]
        refine gr_run (pc' := 33) 1 rfl ?_
        refine gr_icT (t := 41) rfl (by decide) (by omega) (by omega) (cI_ne (by omega)) ?_
        refine gr_run (pc' := 45) 4 rfl ?_
        refine gr_isub rfl ?_
        rw [show (x : Int) - 1 = ((x - 1 : Nat) : Int) by omega]
        refine gr_ishl1 rfl (by omega) ?_
        refine gr_iorN rfl ?_
        rw [show thr a x = a / 2 ^ 1 ||| 2 ^ (x - 1) by simp [thr, h0]]
        exact gr_ret rfl rfl
theorem m_bars {y z : Int} (hR : RepM σ A) (hS : okT σ.2.1) (hy : bd y) (hz : bd z) : Rt mX7_bars (d + 1) [.ref 43, .int (iI y), .int (iI z)] A (some (.int (iI (barN σ.2.1 y z)))) A := by
  obtain ⟨h0, -, ⟨f, e1, e2⟩, -⟩ := id hR
  have hn := hS.1.1
  have h9 := hS.1.2
  unfold barN
  refine rt_intro kX7_bars rfl rfl rfl ?_
  by_cases c1 : 0 ≤ y ∧ y < σ.2.1.1
  · obtain ⟨k, rfl⟩ : ∃ k : Nat, y = (k : Int) := ⟨y.toNat, by omega⟩
    simp only [Int.toNat_natCast]
    have h9k := h9 k (by omega)
    refine gr_run (pc' := 1) 1 rfl ?_
    refine gr_i2l rfl (by omega) ?_
    refine gr_run (pc' := 4) 2 rfl ?_
    refine gr_getf rfl rfl (by repeat (first | exact up_s | assumption | refine up_n (by first | assumption | decide | omega) ?_)) (by first | assumption | rfl) rfl ?_
    refine gr_run (pc' := 8) 1 rfl ?_
    refine gr_isub rfl ?_
    refine gr_i2l rfl (by omega) ?_
    refine gr_callS (As := [_, _, _]) lk_7_61 rfl rfl (r_isT (by omega) (by decide) (by omega) (by show (0 : Int) ≤ k; omega) (by omega)) rfl rfl rfl ?_
    by_cases c2 : 1 ≤ z ∧ z ≤ 9
    · refine gr_ifF (t := 38) rfl (by decide) (by omega) (cN_eq (by omega)) ?_
      refine gr_run (pc' := 17) 1 rfl ?_
      refine gr_i2l rfl (by omega) ?_
      refine gr_run (pc' := 22) 2 rfl ?_
      refine gr_callS (As := [_, _, _]) lk_7_61 rfl rfl (r_isT (by omega) (by decide) (by decide) (by show (1 : Int) ≤ z; omega) (by show z ≤ 9; omega)) rfl rfl rfl ?_
      refine gr_ifF (t := 38) rfl (by decide) (by omega) (cN_eq (by omega)) ?_
      refine gr_run (pc' := 29) 1 rfl ?_
      refine gr_getf rfl rfl (by repeat (first | exact up_s | assumption | refine up_n (by first | assumption | decide | omega) ?_)) (by first | assumption | rfl) rfl ?_
      refine gr_run (pc' := 33) 1 rfl ?_
      refine gr_iald rfl (by repeat (first | exact up_s | assumption | refine up_n (by first | assumption | decide | omega) ?_)) (by first | assumption | rfl) (ix_i rfl (by omega) (by decide)) ?_
      rw [e2 k (by omega)]
      by_cases c3 : (σ.2.1.2 k : Int) = z
      · rw [if_pos (Or.inr (Or.inr c3))]
        refine gr_run (pc' := 35) 1 rfl ?_
        refine gr_icF (t := 42) rfl (by decide) (by omega) (by omega) (cN_ne (by omega)) ?_
        refine gr_run (pc' := 57) 2 rfl ?_
        exact gr_ret rfl rfl
      · rw [if_neg (fun q => q.elim (fun a => a c1) (fun q => q.elim (fun a => a c2) c3))]
        refine gr_run (pc' := 35) 1 rfl ?_
        refine gr_icT (t := 42) rfl (by decide) (by omega) (by omega) (cI_ne (by omega)) ?_
        refine gr_run (pc' := 43) 1 rfl ?_
        refine gr_getf rfl rfl (by repeat (first | exact up_s | assumption | refine up_n (by first | assumption | decide | omega) ?_)) (by first | assumption | rfl) rfl ?_
        refine gr_run (pc' := 47) 1 rfl ?_
        refine gr_iald rfl (by repeat (first | exact up_s | assumption | refine up_n (by first | assumption | decide | omega) ?_)) (by first | assumption | rfl) (ix_i rfl (by omega) (by decide)) ?_
        rw [e2 k (by omega)]
        by_cases c4 : σ.2.1.2 k = 0
        · rw [if_pos c4]
          refine gr_ifF (t := 56) rfl (by decide) (by omega) (cN_ne (by omega)) ?_
          refine gr_run (pc' := 57) 2 rfl ?_
          exact gr_ret rfl rfl
        · rw [if_neg c4]
          refine gr_ifT (t := 56) rfl (by decide) (by omega) (cI_ne (by omega)) ?_
          refine gr_run (pc' := 57) 1 rfl ?_
          exact gr_ret rfl rfl
    · rw [if_pos (Or.inr (Or.inl c2))]
      refine gr_ifF (t := 38) rfl (by decide) (by omega) (cN_eq (by omega)) ?_
      refine gr_run (pc' := 17) 1 rfl ?_
      refine gr_i2l rfl (by omega) ?_
      refine gr_run (pc' := 22) 2 rfl ?_
      refine gr_callS (As := [_, _, _]) lk_7_61 rfl rfl (r_isF (by omega) (by decide) (by decide) (by show z < 1 ∨ 9 < z; omega)) rfl rfl rfl ?_
      refine gr_ifT (t := 38) rfl (by decide) (by omega) (cI_eq (by omega)) ?_
      refine gr_run (pc' := 57) 2 rfl ?_
      exact gr_ret rfl rfl
  · rw [if_pos (Or.inl c1)]
    refine gr_run (pc' := 1) 1 rfl ?_
    refine gr_i2l rfl (by omega) ?_
    refine gr_run (pc' := 4) 2 rfl ?_
    refine gr_getf rfl rfl (by repeat (first | exact up_s | assumption | refine up_n (by first | assumption | decide | omega) ?_)) (by first | assumption | rfl) rfl ?_
    refine gr_run (pc' := 8) 1 rfl ?_
    refine gr_isub rfl ?_
    refine gr_i2l rfl (by omega) ?_
    refine gr_callS (As := [_, _, _]) lk_7_61 rfl rfl (r_isF (by omega) (by decide) (by omega) (by show y < 0 ∨ (σ.2.1.1 : Int) - 1 < y; omega)) rfl rfl rfl ?_
    refine gr_ifT (t := 38) rfl (by decide) (by omega) (cI_eq (by omega)) ?_
    refine gr_run (pc' := 57) 2 rfl ?_
    exact gr_ret rfl rfl
theorem barN_bd (p : Pn) (y z : Int) : -2 ≤ barN p y z ∧ barN p y z ≤ 0 := by
  unfold barN
  split
  · omega
  · split <;> omega
theorem barN_ok {p : Pn} {y z : Int} (h : ¬ barN p y z < 0) : (0 ≤ y ∧ y < p.1) ∧ (1 ≤ z ∧ z ≤ 9) ∧ (p.2 y.toNat : Int) ≠ z ∧ p.2 y.toNat ≠ 0 := by
  unfold barN at h
  split at h
  · omega
  · rename_i h1
    split at h
    · omega
    · rename_i h2
      refine ⟨?_, ?_, fun e => h1 (Or.inr (Or.inr e)), h2⟩
      · exact Classical.byContradiction (fun q => h1 (Or.inl q))
      · exact Classical.byContradiction (fun q => h1 (Or.inr (Or.inl q)))
def togN (p : Pn) (y z : Int) : Int := if barN p y z < 0 then barN p y z else if bhN (airN p.1 p.2 y) z.toNat = -4 then 1 else 0
theorem m_together {y z : Int} (hR : RepM σ A) (hS : okT σ.2.1) (hy : bd y) (hz : bd z) : Rt mX7_together (d + 2) [.ref 43, .int (iI y), .int (iI z)] A (some (.int (iI (togN σ.2.1 y z)))) A := by
  obtain ⟨h0, -, ⟨f, e1, e2⟩, -⟩ := id hR
  have hn := hS.1.1
  have hb := barN_bd σ.2.1 y z
  unfold togN
  refine rt_intro kX7_together rfl rfl rfl ?_
  refine gr_run (pc' := 3) 3 rfl ?_
  refine gr_callV (As := [_, _]) lk_7_178 rfl rfl (m_bars hR hS hy hz) (by repeat (first | exact up_s | assumption | refine up_n (by first | assumption | decide | omega) ?_)) (by first | assumption | exact Nat.le_of_ble_eq_true rfl | exact Nat.le_of_ble_eq_true (by assumption)) rfl rfl rfl rfl rfl ?_
  by_cases c : barN σ.2.1 y z < 0
  · rw [if_pos c]
    refine gr_run (pc' := 8) 2 rfl ?_
    refine gr_ifF (t := 15) rfl (by decide) (by omega) (cN_ge (by omega)) ?_
    refine gr_run (pc' := 41) 2 rfl ?_
    exact gr_ret rfl rfl
  · rw [if_neg c]
    obtain ⟨o1, o2, o3, o4⟩ := barN_ok c
    obtain ⟨k, rfl⟩ : ∃ k : Nat, z = (k : Int) := ⟨z.toNat, by omega⟩
    simp only [Int.toNat_natCast]
    have ha := airN_lt hS.1 y
    have hbh := bhN_lt (a := airN σ.2.1.1 σ.2.1.2 y) (x := k) ha (by omega)
    refine gr_run (pc' := 8) 2 rfl ?_
    refine gr_ifT (t := 15) rfl (by decide) (by omega) (cI_ge (by omega)) ?_
    refine gr_run (pc' := 16) 1 rfl ?_
    refine gr_getf rfl rfl (by repeat (first | exact up_s | assumption | refine up_n (by first | assumption | decide | omega) ?_)) (by first | assumption | rfl) rfl ?_
    refine gr_run (pc' := 20) 1 rfl ?_
    refine gr_getf rfl rfl (by repeat (first | exact up_s | assumption | refine up_n (by first | assumption | decide | omega) ?_)) (by first | assumption | rfl) rfl ?_
    refine gr_run (pc' := 24) 1 rfl ?_
    refine gr_callS (As := [_, _, _]) lk_7_90 rfl rfl (r_X7_airOf e1 rfl hS.1 e2 (by omega)) rfl rfl rfl ?_
    refine gr_run (pc' := 28) 1 rfl ?_
    refine gr_callS (As := [_, _]) lk_7_164 rfl rfl (r_behind ha (by omega)) rfl rfl rfl ?_
    by_cases c2 : bhN (airN σ.2.1.1 σ.2.1.2 y) k = -4
    · rw [if_pos c2]
      refine gr_run (pc' := 33) 1 rfl ?_
      refine gr_icF (t := 40) rfl (by decide) (by omega) (by omega) (cN_ne (by omega)) ?_
      refine gr_run (pc' := 41) 2 rfl ?_
      exact gr_ret rfl rfl
    · rw [if_neg c2]
      refine gr_run (pc' := 33) 1 rfl ?_
      refine gr_icT (t := 40) rfl (by decide) (by omega) (by omega) (cI_ne (by omega)) ?_
      refine gr_run (pc' := 41) 1 rfl ?_
      exact gr_ret rfl rfl
theorem m_handsB {n a b : Int} (hR : RepM σ A) (hn : bd n) (ha : bd a) (hb : bd b) (hc : ¬ ((1 ≤ n ∧ n ≤ 5) ∧ (0 ≤ a ∧ a < n) ∧ (0 ≤ b ∧ b < n))) : Rt mX7_hands (d + 1) [.ref 43, .int (iI n), .int (iI a), .int (iI b)] A (some (.int (iI (-1)))) A := by
  refine rt_intro kX7_hands rfl rfl rfl ?_
  by_cases c1 : 1 ≤ n ∧ n ≤ 5
  · refine gr_run (pc' := 1) 1 rfl ?_
    refine gr_i2l rfl (by omega) ?_
    refine gr_run (pc' := 6) 2 rfl ?_
    refine gr_callS (As := [_, _, _]) lk_7_61 rfl rfl (r_isT (by omega) (by decide) (by decide) c1.1 c1.2) rfl rfl rfl ?_
    by_cases c2 : 0 ≤ a ∧ a < n
    · refine gr_ifF (t := 38) rfl (by decide) (by omega) (cN_eq (by omega)) ?_
      refine gr_run (pc' := 13) 1 rfl ?_
      refine gr_i2l rfl (by omega) ?_
      refine gr_run (pc' := 17) 3 rfl ?_
      refine gr_isub rfl ?_
      refine gr_i2l rfl (by omega) ?_
      refine gr_callS (As := [_, _, _]) lk_7_61 rfl rfl (r_isT (by omega) (by decide) (by omega) c2.1 (by omega)) rfl rfl rfl ?_
      refine gr_ifF (t := 38) rfl (by decide) (by omega) (cN_eq (by omega)) ?_
      refine gr_run (pc' := 26) 1 rfl ?_
      refine gr_i2l rfl (by omega) ?_
      refine gr_run (pc' := 30) 3 rfl ?_
      refine gr_isub rfl ?_
      refine gr_i2l rfl (by omega) ?_
      refine gr_callS (As := [_, _, _]) lk_7_61 rfl rfl (r_isF (by omega) (by decide) (by omega) (by show b < 0 ∨ n - 1 < b; omega)) rfl rfl rfl ?_
      refine gr_ifF (t := 40) rfl (by decide) (by omega) (cN_ne (by omega)) ?_
      refine gr_run (pc' := 39) 1 rfl ?_
      exact gr_ret rfl rfl
    · refine gr_ifF (t := 38) rfl (by decide) (by omega) (cN_eq (by omega)) ?_
      refine gr_run (pc' := 13) 1 rfl ?_
      refine gr_i2l rfl (by omega) ?_
      refine gr_run (pc' := 17) 3 rfl ?_
      refine gr_isub rfl ?_
      refine gr_i2l rfl (by omega) ?_
      refine gr_callS (As := [_, _, _]) lk_7_61 rfl rfl (r_isF (by omega) (by decide) (by omega) (by show a < 0 ∨ n - 1 < a; omega)) rfl rfl rfl ?_
      refine gr_ifT (t := 38) rfl (by decide) (by omega) (cI_eq (by omega)) ?_
      refine gr_run (pc' := 39) 1 rfl ?_
      exact gr_ret rfl rfl
  · refine gr_run (pc' := 1) 1 rfl ?_
    refine gr_i2l rfl (by omega) ?_
    refine gr_run (pc' := 6) 2 rfl ?_
    refine gr_callS (As := [_, _, _]) lk_7_61 rfl rfl (r_isF (by omega) (by decide) (by decide) (by show n < 1 ∨ 5 < n; omega)) rfl rfl rfl ?_
    refine gr_ifT (t := 38) rfl (by decide) (by omega) (cI_eq (by omega)) ?_
    refine gr_run (pc' := 39) 1 rfl ?_
    exact gr_ret rfl rfl
theorem m_hands {n a b : Nat} (hR : RepM σ A) (hS : okT σ.2.1) (hn : 1 ≤ n ∧ n ≤ 5) (ha : a < n) (hb : b < n) : Rt mX7_hands (d + 1) [.ref 43, .int (iI n), .int (iI a), .int (iI b)] A (some (.int (iI ((hdN σ.2.1.1 σ.2.1.2 n a b : Nat) : Int)))) A := by
  obtain ⟨h0, -, ⟨f, e1, e2⟩, -⟩ := id hR
  have hP := hS.1.1
  have h9 := hS.1.2
  have hmul : ∀ k, k < σ.2.1.1 → a + n * k + n ≤ σ.2.1.1 * n + a := fun k hk => by
    have : n * (k + 1) ≤ n * σ.2.1.1 := Nat.mul_le_mul_left n hk
    rw [Nat.mul_add, Nat.mul_comm n σ.2.1.1] at this
    omega
  have hPn : σ.2.1.1 * n ≤ 50 := Nat.mul_le_mul hP.2 hn.2
  have key : ∀ k, k ≤ σ.2.1.1 → ∀ x6 : Option Value, Gr mX7_hands (d + 1) 46 [some (.ref 43), some (.int (iI n)), some (.int (iI a)), some (.int (iI b)), some (.int (iI ((sumN (fun k => if 0 < σ.2.1.2 ((a + n * k) % σ.2.1.1) ∧ (a + n * k + σ.2.1.2 ((a + n * k) % σ.2.1.1)) % n = b then 1 else 0) k : Nat) : Int))), some (.int (iI ((a + n * k : Nat) : Int))), x6] [] A (some (.int (iI ((hdN σ.2.1.1 σ.2.1.2 n a b : Nat) : Int)))) A := by
    refine go_up ?_ ?_
    · intro x6
      refine gr_run (pc' := 49) 2 rfl ?_
      refine gr_getf rfl rfl (by repeat (first | exact up_s | assumption | refine up_n (by first | assumption | decide | omega) ?_)) (by first | assumption | rfl) rfl ?_
      refine gr_run (pc' := 53) 1 rfl ?_
      refine gr_imul rfl ?_
      rw [show (σ.2.1.1 : Int) * (n : Int) = ((σ.2.1.1 * n : Nat) : Int) from rfl, Nat.mul_comm n σ.2.1.1]
      refine gr_icT (t := 106) rfl (by decide) (by omega) (by omega) (cI_ge (by omega)) ?_
      refine gr_run (pc' := 108) 1 rfl ?_
      exact gr_ret rfl rfl
    · intro k hk ih x6
      have hm := hmul k hk
      have hmod : (a + n * k) % σ.2.1.1 < σ.2.1.1 := Nat.mod_lt _ (by omega)
      have h9k := h9 _ hmod
      have hnext : ((a + n * k : Nat) : Int) + (n : Int) = ((a + n * (k + 1) : Nat) : Int) := by rw [Nat.mul_add]; omega
      generalize htt : a + n * k = t at *
      refine gr_run (pc' := 49) 2 rfl ?_
      refine gr_getf rfl rfl (by repeat (first | exact up_s | assumption | refine up_n (by first | assumption | decide | omega) ?_)) (by first | assumption | rfl) rfl ?_
      refine gr_run (pc' := 53) 1 rfl ?_
      refine gr_imul rfl ?_
      rw [show (σ.2.1.1 : Int) * (n : Int) = ((σ.2.1.1 * n : Nat) : Int) from rfl]
      refine gr_icF (t := 106) rfl (by decide) (by omega) (by omega) (cN_ge (by omega)) ?_
      refine gr_run (pc' := 58) 1 rfl ?_
      refine gr_getf rfl rfl (by repeat (first | exact up_s | assumption | refine up_n (by first | assumption | decide | omega) ?_)) (by first | assumption | rfl) rfl ?_
      refine gr_run (pc' := 64) 2 rfl ?_
      refine gr_getf rfl rfl (by repeat (first | exact up_s | assumption | refine up_n (by first | assumption | decide | omega) ?_)) (by first | assumption | rfl) rfl ?_
      refine gr_iremN rfl (by omega) (by omega) (by omega) (by omega) ?_
      rw [show (t : Int) % (σ.2.1.1 : Int) = ((t % σ.2.1.1 : Nat) : Int) from rfl]
      refine gr_iald rfl (by repeat (first | exact up_s | assumption | refine up_n (by first | assumption | decide | omega) ?_)) (by first | assumption | rfl) (ix_i rfl (by omega) (by decide)) ?_
      rw [e2 _ hmod]
      by_cases c1 : 0 < σ.2.1.2 (t % σ.2.1.1)
      · refine gr_run (pc' := 75) 3 rfl ?_
        refine gr_ifF (t := 93) rfl (by decide) (by omega) (cN_le (by omega)) ?_
        refine gr_run (pc' := 82) 2 rfl ?_
        refine gr_iadd rfl ?_
        refine gr_run (pc' := 84) 1 rfl ?_
        refine gr_iremN rfl (by omega) (by omega) (by omega) (by omega) ?_
        rw [show ((t : Int) + (σ.2.1.2 (t % σ.2.1.1) : Int)) % (n : Int) = (((t + σ.2.1.2 (t % σ.2.1.1)) % n : Nat) : Int) from rfl]
        have hmn : (t + σ.2.1.2 (t % σ.2.1.1)) % n < n := Nat.mod_lt _ (by omega)
        generalize hww : (t + σ.2.1.2 (t % σ.2.1.1)) % n = w at *
        by_cases c2 : w = b
        · refine gr_run (pc' := 86) 1 rfl ?_
          refine gr_icF (t := 93) rfl (by decide) (by omega) (by omega) (cN_ne (by omega)) ?_
          refine gr_run (pc' := 94) 2 rfl ?_
          refine gr_iadd rfl ?_
          refine gr_run (pc' := 100) 3 rfl ?_
          refine gr_iadd rfl ?_
          rw [hnext]
          refine gr_run (pc' := 46) 2 rfl ?_
          have := ih (some (.int (iI ((σ.2.1.2 (t % σ.2.1.1) : Nat) : Int))))
          simp only [sumN, htt] at this
          rw [if_pos ⟨c1, by rw [hww]; exact c2⟩] at this
          exact this
        · refine gr_run (pc' := 86) 1 rfl ?_
          refine gr_icT (t := 93) rfl (by decide) (by omega) (by omega) (cI_ne (by omega)) ?_
          refine gr_run (pc' := 94) 1 rfl ?_
          refine gr_iadd rfl ?_
          refine gr_run (pc' := 100) 3 rfl ?_
          refine gr_iadd rfl ?_
          rw [hnext]
          refine gr_run (pc' := 46) 2 rfl ?_
          have := ih (some (.int (iI ((σ.2.1.2 (t % σ.2.1.1) : Nat) : Int))))
          simp only [sumN, htt] at this
          rw [if_neg (fun q => c2 (by rw [← hww]; exact q.2))] at this
          exact this
      · refine gr_run (pc' := 75) 3 rfl ?_
        refine gr_ifT (t := 93) rfl (by decide) (by omega) (cI_le (by omega)) ?_
        refine gr_run (pc' := 94) 1 rfl ?_
        refine gr_iadd rfl ?_
        refine gr_run (pc' := 100) 3 rfl ?_
        refine gr_iadd rfl ?_
        rw [hnext]
        refine gr_run (pc' := 46) 2 rfl ?_
        have := ih (some (.int (iI ((σ.2.1.2 (t % σ.2.1.1) : Nat) : Int))))
        simp only [sumN, htt] at this
        rw [if_neg (fun q => c1 q.1)] at this
        exact this
  refine rt_intro kX7_hands rfl rfl rfl ?_
  refine gr_run (pc' := 1) 1 rfl ?_
  refine gr_i2l rfl (by omega) ?_
  refine gr_run (pc' := 6) 2 rfl ?_
  refine gr_callS (As := [_, _, _]) lk_7_61 rfl rfl (r_isT (by omega) (by decide) (by decide) (by show (1 : Int) ≤ n; omega) (by show (n : Int) ≤ 5; omega)) rfl rfl rfl ?_
  refine gr_ifF (t := 38) rfl (by decide) (by omega) (cN_eq (by omega)) ?_
  refine gr_run (pc' := 13) 1 rfl ?_
  refine gr_i2l rfl (by omega) ?_
  refine gr_run (pc' := 17) 3 rfl ?_
  refine gr_isub rfl ?_
  refine gr_i2l rfl (by omega) ?_
  refine gr_callS (As := [_, _, _]) lk_7_61 rfl rfl (r_isT (by omega) (by decide) (by omega) (by show (0 : Int) ≤ a; omega) (by omega)) rfl rfl rfl ?_
  refine gr_ifF (t := 38) rfl (by decide) (by omega) (cN_eq (by omega)) ?_
  refine gr_run (pc' := 26) 1 rfl ?_
  refine gr_i2l rfl (by omega) ?_
  refine gr_run (pc' := 30) 3 rfl ?_
  refine gr_isub rfl ?_
  refine gr_i2l rfl (by omega) ?_
  refine gr_callS (As := [_, _, _]) lk_7_61 rfl rfl (r_isT (by omega) (by decide) (by omega) (by show (0 : Int) ≤ b; omega) (by omega)) rfl rfl rfl ?_
  refine gr_ifT (t := 40) rfl (by decide) (by omega) (cI_ne (by omega)) ?_
  refine gr_run (pc' := 46) 4 rfl ?_
  exact key 0 (by omega) none
end ME
