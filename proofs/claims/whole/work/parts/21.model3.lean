/-! counting -/
theorem sumN_add (f g : Nat → Nat) : ∀ n, sumN (fun i => f i + g i) n = sumN f n + sumN g n
  | 0 => rfl
  | n + 1 => by simp only [sumN]; rw [sumN_add f g n]; omega
theorem sumN_0 : ∀ n, sumN (fun _ => 0) n = 0
  | 0 => rfl
  | n + 1 => by simp only [sumN]; rw [sumN_0 n]
theorem sumN_1 : ∀ n, sumN (fun _ => 1) n = n
  | 0 => rfl
  | n + 1 => by simp only [sumN]; rw [sumN_1 n]
theorem sumN_swap (f : Nat → Nat → Nat) : ∀ n m, sumN (fun i => sumN (fun j => f i j) m) n = sumN (fun j => sumN (fun i => f i j) n) m
  | 0, m => by simp only [sumN]; rw [sumN_0]
  | n + 1, m => by
    simp only [sumN]
    rw [sumN_swap f n m, sumN_add]
theorem sumN_ind {s : Nat} : ∀ {m : Nat}, sumN (fun j => if s = j then 1 else 0) m = if s < m then 1 else 0
  | 0 => by simp [sumN]
  | m + 1 => by
    simp only [sumN]
    rw [sumN_ind (m := m)]
    by_cases h1 : s < m
    · rw [if_pos h1, if_neg (by omega), if_pos (by omega)]
    · by_cases h2 : s = m
      · rw [if_neg h1, if_pos h2, if_pos (by omega)]
      · rw [if_neg h1, if_neg h2, if_neg (by omega)]
theorem sumN_inj {s : Nat → Nat} {q : Nat} : ∀ {n : Nat}, (∀ i j, i < j → j < n → s i ≠ s j) → sumN (fun i => if s i = q then 1 else 0) n ≤ 1
  | 0, _ => by simp [sumN]
  | n + 1, h => by
    simp only [sumN]
    have ih := sumN_inj (s := s) (q := q) (n := n) (fun i j h1 h2 => h i j h1 (by omega))
    by_cases e : s n = q
    · rw [if_pos e]
      have : sumN (fun i => if s i = q then 1 else 0) n = 0 := by
        rw [sumN_congr (g := fun _ => 0) (fun i hi => if_neg (fun e2 => h i n hi (by omega) (e2.trans e.symm)))]
        exact sumN_0 n
      omega
    · rw [if_neg e]; omega
theorem sumN_lt {c : Nat → Nat} {q : Nat} : ∀ {m : Nat}, (∀ i, i < m → c i ≤ 1) → q < m → c q = 0 → sumN c m < m
  | 0, _, h, _ => by omega
  | m + 1, h, hq, h0 => by
    simp only [sumN]
    have hm := h m (by omega)
    by_cases e : q = m
    · subst e
      have := sumN_le (h := c) (m := 1) (n := q) (fun i hi => h i (by omega))
      omega
    · have := sumN_lt (c := c) (q := q) (m := m) (fun i hi => h i (by omega)) (by omega) h0
      omega
/-- as many unlike ones as there are: all -/
theorem inj_surj {s : Nat → Nat} {n : Nat} (hs : ∀ i, i < n → s i < n) (hi : ∀ i j, i < j → j < n → s i ≠ s j) : ∀ q, q < n → ∃ i, i < n ∧ s i = q := by
  intro q hq
  apply Classical.byContradiction
  intro hno
  have h0 : sumN (fun i => if s i = q then 1 else 0) n = 0 := by
    rw [sumN_congr (g := fun _ => 0) (fun i hi => if_neg (fun e => hno ⟨i, hi, e⟩))]
    exact sumN_0 n
  have h1 := sumN_swap (fun i j => if s i = j then 1 else 0) n n
  rw [sumN_congr (g := fun _ => 1) (fun i hi => by rw [sumN_ind, if_pos (hs i hi)]), sumN_1] at h1
  have h2 := sumN_lt (c := fun j => sumN (fun i => if s i = j then 1 else 0) n) (q := q) (m := n) (fun j _ => sumN_inj hi) hq h0
  omega
theorem inj_le {s : Nat → Nat} {n m : Nat} (hs : ∀ i, i < n → s i < m) (hi : ∀ i j, i < j → j < n → s i ≠ s j) : n ≤ m := by
  have h1 := sumN_swap (fun i j => if s i = j then 1 else 0) n m
  rw [sumN_congr (g := fun _ => 1) (fun i hi => by rw [sumN_ind, if_pos (hs i hi)]), sumN_1] at h1
  have h2 := sumN_le (h := fun j => sumN (fun i => if s i = j then 1 else 0) n) (m := 1) (n := m) (fun j _ => sumN_inj hi)
  omega
/-! the changed patterns -/
def tuH (n : Nat) (h : Nat → Nat) (k : Nat) : Nat → Nat := fun i => h ((i + k) % n)
def ivF (n : Nat) (h : Nat → Nat) (q : Nat) : Nat → Nat
  | 0 => 0
  | m + 1 => if n - 1 - lnd n h m = q then m else ivF n h q m
def bwH (n : Nat) (h : Nat → Nat) : Nat → Nat := fun q => h (ivF n h q n)
def raH (h : Nat → Nat) (z : Int) : Nat → Nat := fun i => ((h i : Int) + z).toNat
def chH (h : Nat → Nat) (i j : Nat) : Nat → Nat := updN (updN h i (h j + (j - i))) j (h i - (j - i))
theorem ivF_eq {n : Nat} {h : Nat → Nat} (hn : 1 ≤ n) (hi : ∀ i j, i < j → j < n → lnd n h i ≠ lnd n h j) {i : Nat} (hin : i < n) : ∀ {m : Nat}, i < m → m ≤ n → ivF n h (n - 1 - lnd n h i) m = i
  | 0, h1, _ => by omega
  | m + 1, h1, h2 => by
    simp only [ivF]
    have l1 := lnd_lt (h := h) (i := i) hn
    have l2 := lnd_lt (h := h) (i := m) hn
    by_cases e : i = m
    · subst e; rw [if_pos rfl]
    · rw [if_neg (fun q => hi i m (by omega) (by omega) (by omega))]
      exact ivF_eq hn hi hin (by omega) (by omega)
theorem bw_sur {n : Nat} {h : Nat → Nat} (hn : 1 ≤ n) (hi : ∀ i j, i < j → j < n → lnd n h i ≠ lnd n h j) {q : Nat} (hq : q < n) : ∃ i, i < n ∧ q = n - 1 - lnd n h i ∧ bwH n h q = h i := by
  obtain ⟨i, h1, h2⟩ := inj_surj (s := lnd n h) (fun i _ => lnd_lt hn) hi (n - 1 - q) (by omega)
  refine ⟨i, h1, by omega, ?_⟩
  unfold bwH
  rw [show q = n - 1 - lnd n h i by omega, ivF_eq hn hi h1 h1 (Nat.le_refl _)]
section MD
variable {d : Nat} {A : AH} {σ : SS}
/-- the draft laid by a loop, the rest as it was -/
theorem RepM.draft {dr : Nat → Int32} (h : RepM σ A) : RepM σ (va_up A 49 (Ia 10 dr)) := by
  obtain ⟨h0, h1, h2, h3, h4, h5, ⟨-, g2, g3, g4, g5, g6, g7, g8⟩⟩ := h
  have z : ∀ k, k ≠ 49 → va_up A 49 (Ia 10 dr) k = A k := fun k hk => up_o hk
  refine ⟨(z 43 (by decide)).trans h0, h1.o (z _ (by decide)), h2.o (z _ (by decide)), h3.o (z _ (by decide)), h4.o (z _ (by decide)), h5.o (z _ (by decide)), ⟨dr, up_s⟩, ?_, ?_, ?_, ?_, ?_, ?_, ?_⟩
  · obtain ⟨f, hf⟩ := g2; exact ⟨f, (z _ (by decide)).trans hf⟩
  · obtain ⟨f, hf⟩ := g3; exact ⟨f, (z _ (by decide)).trans hf⟩
  · obtain ⟨f, hf⟩ := g4; exact ⟨f, (z _ (by decide)).trans hf⟩
  · obtain ⟨f, hf⟩ := g5; exact ⟨f, (z _ (by decide)).trans hf⟩
  · obtain ⟨f, hf⟩ := g6; exact ⟨f, (z _ (by decide)).trans hf⟩
  · obtain ⟨f, hf⟩ := g7; exact ⟨f, (z _ (by decide)).trans hf⟩
  · obtain ⟨f, hf⟩ := g8; exact ⟨f, (z _ (by decide)).trans hf⟩
theorem m_turnB {z : Int} (hR : RepM σ A) (hS : okS σ) (hz : bd z) (hn : z < 0 ∨ (σ.2.1.1 : Int) ≤ z) : Rt mX7_turn (d + 1) [.ref 43, .int (iI z)] A (some (.int (iI (-1)))) A := by
  have h0 := hR.1
  have hn10 := hS.2.1.1.1
  refine rt_intro kX7_turn rfl rfl rfl ?_
  refine gr_run (pc' := 1) 1 rfl ?_
  refine gr_i2l rfl (by omega) ?_
  refine gr_run (pc' := 4) 2 rfl ?_
  refine gr_getf rfl rfl (by repeat (first | exact up_s | assumption | refine up_n (by first | assumption | decide | omega) ?_)) (by first | assumption | rfl) rfl ?_
  refine gr_run (pc' := 8) 1 rfl ?_
  refine gr_isub rfl ?_
  refine gr_i2l rfl (by omega) ?_
  refine gr_callS (As := [_, _, _]) lk_7_61 rfl rfl (r_isF (by omega) (by decide) (by omega) (by show z < 0 ∨ (σ.2.1.1 : Int) - 1 < z; omega)) rfl rfl rfl ?_
  refine gr_ifF (t := 18) rfl (by decide) (by omega) (cN_ne (by omega)) ?_
  refine gr_run (pc' := 17) 1 rfl ?_
  exact gr_ret rfl rfl
theorem m_turn {k : Nat} (hR : RepM σ A) (hS : okS σ) (hk : k < σ.2.1.1) : ∃ A', Rt mX7_turn (d + 1) [.ref 43, .int (iI k)] A (some (.int (iI (tuH σ.2.1.1 σ.2.1.2 k 0)))) A' ∧ RepM (σ.1, (σ.2.1.1, tuH σ.2.1.1 σ.2.1.2 k), σ.2.2.1, pushU σ.2.2.2.1 σ.2.1, σ.2.2.2.2) A' ∧ offE A A' 43 56 := by
  have hn10 := hS.2.1.1.1
  have h0 := hR.1
  obtain ⟨A1, r1, r2, r3, r4⟩ := m_remember (d := d) hR hS
  obtain ⟨h1, -, ⟨f, e1, e2⟩, -, -, -, ⟨⟨dr, g1⟩, -⟩⟩ := id r2
  dsimp only at h1 e2
  have hR2 : RepM (σ.1, σ.2.1, σ.2.2.1, pushU σ.2.2.2.1 σ.2.1, σ.2.2.2.2) (va_up A1 49 (Ia 10 (fun j => if j < σ.2.1.1 then iI (tuH σ.2.1.1 σ.2.1.2 k j) else dr j))) := r2.draft
  obtain ⟨A2, q1, q2, q3⟩ := m_takeDraft (d := d) (h := tuH σ.2.1.1 σ.2.1.2 k) hR2 up_s hn10.2 (fun i hi => if_pos hi)
  have key : ∀ i, i ≤ σ.2.1.1 → Gr mX7_turn (d + 1) 24 [some (.ref 43), some (.int (iI k)), some (.int (iI (i : Int)))] [] (va_up A1 49 (Ia 10 (fun j => if j < i then iI (tuH σ.2.1.1 σ.2.1.2 k j) else dr j))) (some (.int (iI (tuH σ.2.1.1 σ.2.1.2 k 0)))) A2 := by
    refine go_up ?_ ?_
    · have h2 := q2.1
      obtain ⟨-, -, ⟨f3, e3, e4⟩, -⟩ := q2
      dsimp only at h2 e4
      refine gr_run (pc' := 26) 2 rfl ?_
      refine gr_getf rfl rfl (by repeat (first | exact up_s | assumption | refine up_n (by first | assumption | decide | omega) ?_)) (by first | assumption | rfl) rfl ?_
      refine gr_icT (t := 57) rfl (by decide) (by omega) (by omega) (cI_ge (by omega)) ?_
      refine gr_run (pc' := 59) 2 rfl ?_
      refine gr_getf rfl rfl (by repeat (first | exact up_s | assumption | refine up_n (by first | assumption | decide | omega) ?_)) (by first | assumption | rfl) rfl ?_
      refine gr_callV (As := [_]) lk_7_97 rfl rfl (q1) (by repeat (first | exact up_s | assumption | refine up_n (by first | assumption | decide | omega) ?_)) (by first | assumption | exact Nat.le_of_ble_eq_true rfl | exact Nat.le_of_ble_eq_true (by assumption)) rfl rfl rfl rfl rfl ?_
      refine gr_run (pc' := 66) 1 rfl ?_
      refine gr_getf rfl rfl (by repeat (first | exact up_s | assumption | refine up_n (by first | assumption | decide | omega) ?_)) (by first | assumption | rfl) rfl ?_
      refine gr_run (pc' := 70) 1 rfl ?_
      refine gr_iald rfl (by repeat (first | exact up_s | assumption | refine up_n (by first | assumption | decide | omega) ?_)) (by first | assumption | rfl) (ix_i (j := 0) rfl (by omega) (by decide)) ?_
      rw [e4 0 (by show 0 < σ.2.1.1; omega)]
      exact gr_ret rfl rfl
    · intro i hi ih
      have hmod : (i + k) % σ.2.1.1 < σ.2.1.1 := Nat.mod_lt _ (by omega)
      refine gr_run (pc' := 26) 2 rfl ?_
      refine gr_getf rfl rfl (by repeat (first | exact up_s | assumption | refine up_n (by first | assumption | decide | omega) ?_)) (by first | assumption | rfl) rfl ?_
      refine gr_icF (t := 57) rfl (by decide) (by omega) (by omega) (cN_ge (by omega)) ?_
      refine gr_run (pc' := 33) 1 rfl ?_
      refine gr_getf rfl rfl (by repeat (first | exact up_s | assumption | refine up_n (by first | assumption | decide | omega) ?_)) (by first | assumption | rfl) rfl ?_
      refine gr_run (pc' := 38) 2 rfl ?_
      refine gr_getf rfl rfl (by repeat (first | exact up_s | assumption | refine up_n (by first | assumption | decide | omega) ?_)) (by first | assumption | rfl) rfl ?_
      refine gr_run (pc' := 43) 2 rfl ?_
      refine gr_iadd rfl ?_
      refine gr_run (pc' := 45) 1 rfl ?_
      refine gr_getf rfl rfl (by repeat (first | exact up_s | assumption | refine up_n (by first | assumption | decide | omega) ?_)) (by first | assumption | rfl) rfl ?_
      refine gr_iremN rfl (by omega) (by omega) (by omega) (by omega) ?_
      rw [show ((i : Int) + (k : Int)) % (σ.2.1.1 : Int) = (((i + k) % σ.2.1.1 : Nat) : Int) from rfl]
      refine gr_iald rfl (by repeat (first | exact up_s | assumption | refine up_n (by first | assumption | decide | omega) ?_)) (by first | assumption | rfl) (ix_i rfl (by omega) (by decide)) ?_
      rw [e2 _ hmod, show σ.2.1.2 ((i + k) % σ.2.1.1) = tuH σ.2.1.1 σ.2.1.2 k i from rfl]
      refine gr_iast rfl (by repeat (first | exact up_s | assumption | refine up_n (by first | assumption | decide | omega) ?_)) (by first | assumption | rfl) (ix_i rfl (by omega) (by decide)) ?_
      rw [bx_uu, upd_lt (g := fun j => iI (tuH σ.2.1.1 σ.2.1.2 k j))]
      refine gr_iinc rfl rfl rfl rfl ?_
      refine gr_run (pc' := 24) 1 rfl ?_
      exact ih
  refine ⟨A2, ?_, q2, (r3.up (by omega)).tr q3⟩
  refine rt_intro kX7_turn rfl rfl rfl ?_
  refine gr_run (pc' := 1) 1 rfl ?_
  refine gr_i2l rfl (by omega) ?_
  refine gr_run (pc' := 4) 2 rfl ?_
  refine gr_getf rfl rfl (by repeat (first | exact up_s | assumption | refine up_n (by first | assumption | decide | omega) ?_)) (by first | assumption | rfl) rfl ?_
  refine gr_run (pc' := 8) 1 rfl ?_
  refine gr_isub rfl ?_
  refine gr_i2l rfl (by omega) ?_
  refine gr_callS (As := [_, _, _]) lk_7_61 rfl rfl (r_isT (by omega) (by decide) (by omega) (by show (0 : Int) ≤ k; omega) (by omega)) rfl rfl rfl ?_
  refine gr_ifT (t := 18) rfl (by decide) (by omega) (cI_ne (by omega)) ?_
  refine gr_run (pc' := 19) 1 rfl ?_
  refine gr_callV (As := []) lk_7_94 rfl rfl (r1) (by repeat (first | exact up_s | assumption | refine up_n (by first | assumption | decide | omega) ?_)) (by first | assumption | exact Nat.le_of_ble_eq_true rfl | exact Nat.le_of_ble_eq_true (by assumption)) rfl rfl rfl rfl rfl ?_
  refine gr_run (pc' := 24) 2 rfl ?_
  refine gr_h ?_ (key 0 (by omega))
  exact (up_same (by simpa using g1)).symm
theorem m_backwards (hR : RepM σ A) (hS : okS σ) : ∃ A', Rt mX7_backwards (d + 1) [.ref 43] A (some (.int (iI (bwH σ.2.1.1 σ.2.1.2 0)))) A' ∧ RepM (σ.1, (σ.2.1.1, bwH σ.2.1.1 σ.2.1.2), σ.2.2.1, pushU σ.2.2.2.1 σ.2.1, σ.2.2.2.2) A' ∧ offE A A' 43 56 := by
  have hn10 := hS.2.1.1.1
  have h9 := hS.2.1.1.2
  have h0 := hR.1
  obtain ⟨A1, r1, r2, r3, r4⟩ := m_remember (d := d) hR hS
  obtain ⟨h1, -, ⟨f, e1, e2⟩, -, -, -, ⟨⟨dr, g1⟩, -⟩⟩ := id r2
  dsimp only at h1 e2
  have loop : ∀ (m i : Nat) (dr : Nat → Int32), i + m = σ.2.1.1 → (∀ j, j < i → dr (σ.2.1.1 - 1 - lnd σ.2.1.1 σ.2.1.2 j) = iI (σ.2.1.2 j)) → ∃ A2 : AH, Gr mX7_backwards (d + 1) 6 [some (.ref 43), some (.int (iI (i : Int)))] [] (va_up A1 49 (Ia 10 dr)) (some (.int (iI (bwH σ.2.1.1 σ.2.1.2 0)))) A2 ∧ RepM (σ.1, (σ.2.1.1, bwH σ.2.1.1 σ.2.1.2), σ.2.2.1, pushU σ.2.2.2.1 σ.2.1, σ.2.2.2.2) A2 ∧ offE A A2 43 56 := by
    intro m
    induction m with
    | zero =>
      intro i dr hi hd
      have hR2 : RepM (σ.1, σ.2.1, σ.2.2.1, pushU σ.2.2.2.1 σ.2.1, σ.2.2.2.2) (va_up A1 49 (Ia 10 dr)) := r2.draft
      obtain ⟨A2, q1, q2, q3⟩ := m_takeDraft (d := d) (h := bwH σ.2.1.1 σ.2.1.2) hR2 up_s hn10.2 (fun q hq => by
        obtain ⟨j, j1, j2, j3⟩ := bw_sur (h := σ.2.1.2) hn10.1 hS.2.1.2 hq
        rw [j3, j2]
        exact hd j (by omega))
      refine ⟨A2, ?_, q2, (r3.up (by omega)).tr q3⟩
      have h2 := q2.1
      obtain ⟨-, -, ⟨f3, e3, e4⟩, -⟩ := q2
      dsimp only at h2 e4
      refine gr_run (pc' := 8) 2 rfl ?_
      refine gr_getf rfl rfl (by repeat (first | exact up_s | assumption | refine up_n (by first | assumption | decide | omega) ?_)) (by first | assumption | rfl) rfl ?_
      refine gr_icT (t := 51) rfl (by decide) (by omega) (by omega) (cI_ge (by omega)) ?_
      refine gr_run (pc' := 53) 2 rfl ?_
      refine gr_getf rfl rfl (by repeat (first | exact up_s | assumption | refine up_n (by first | assumption | decide | omega) ?_)) (by first | assumption | rfl) rfl ?_
      refine gr_callV (As := [_]) lk_7_97 rfl rfl (q1) (by repeat (first | exact up_s | assumption | refine up_n (by first | assumption | decide | omega) ?_)) (by first | assumption | exact Nat.le_of_ble_eq_true rfl | exact Nat.le_of_ble_eq_true (by assumption)) rfl rfl rfl rfl rfl ?_
      refine gr_run (pc' := 60) 1 rfl ?_
      refine gr_getf rfl rfl (by repeat (first | exact up_s | assumption | refine up_n (by first | assumption | decide | omega) ?_)) (by first | assumption | rfl) rfl ?_
      refine gr_run (pc' := 64) 1 rfl ?_
      refine gr_iald rfl (by repeat (first | exact up_s | assumption | refine up_n (by first | assumption | decide | omega) ?_)) (by first | assumption | rfl) (ix_i (j := 0) rfl (by omega) (by decide)) ?_
      rw [e4 0 (by show 0 < σ.2.1.1; omega)]
      exact gr_ret rfl rfl
    | succ m ih =>
      intro i dr hi hd
      have hll := lnd_lt (h := σ.2.1.2) (i := i) hn10.1
      have h9i := h9 i (by omega)
      obtain ⟨A2, q1, q2⟩ := ih (i + 1) (upd dr (σ.2.1.1 - 1 - lnd σ.2.1.1 σ.2.1.2 i) (iI (σ.2.1.2 i))) (by omega) (fun j hj => by
        unfold upd
        by_cases e : j = i
        · subst e; rw [if_pos rfl]
        · have l1 := lnd_lt (h := σ.2.1.2) (i := j) hn10.1
          have l2 := hS.2.1.2 j i (by omega) (by omega)
          rw [if_neg (by omega)]
          exact hd j (by omega))
      refine ⟨A2, ?_, q2⟩
      refine gr_run (pc' := 8) 2 rfl ?_
      refine gr_getf rfl rfl (by repeat (first | exact up_s | assumption | refine up_n (by first | assumption | decide | omega) ?_)) (by first | assumption | rfl) rfl ?_
      refine gr_icF (t := 51) rfl (by decide) (by omega) (by omega) (cN_ge (by omega)) ?_
      refine gr_run (pc' := 15) 1 rfl ?_
      refine gr_getf rfl rfl (by repeat (first | exact up_s | assumption | refine up_n (by first | assumption | decide | omega) ?_)) (by first | assumption | rfl) rfl ?_
      refine gr_run (pc' := 19) 1 rfl ?_
      refine gr_getf rfl rfl (by repeat (first | exact up_s | assumption | refine up_n (by first | assumption | decide | omega) ?_)) (by first | assumption | rfl) rfl ?_
      refine gr_run (pc' := 23) 1 rfl ?_
      refine gr_isub rfl ?_
      refine gr_run (pc' := 26) 2 rfl ?_
      refine gr_getf rfl rfl (by repeat (first | exact up_s | assumption | refine up_n (by first | assumption | decide | omega) ?_)) (by first | assumption | rfl) rfl ?_
      refine gr_run (pc' := 30) 1 rfl ?_
      refine gr_iald rfl (by repeat (first | exact up_s | assumption | refine up_n (by first | assumption | decide | omega) ?_)) (by first | assumption | rfl) (ix_i rfl (by omega) (by decide)) ?_
      rw [e2 i (by show i < σ.2.1.1; omega)]
      refine gr_iadd rfl ?_
      refine gr_run (pc' := 33) 1 rfl ?_
      refine gr_getf rfl rfl (by repeat (first | exact up_s | assumption | refine up_n (by first | assumption | decide | omega) ?_)) (by first | assumption | rfl) rfl ?_
      refine gr_iremN rfl (by omega) (by omega) (by omega) (by omega) ?_
      rw [show ((i : Int) + (σ.2.1.2 i : Int)) % (σ.2.1.1 : Int) = ((lnd σ.2.1.1 σ.2.1.2 i : Nat) : Int) from rfl]
      refine gr_isub rfl ?_
      refine gr_run (pc' := 39) 1 rfl ?_
      refine gr_getf rfl rfl (by repeat (first | exact up_s | assumption | refine up_n (by first | assumption | decide | omega) ?_)) (by first | assumption | rfl) rfl ?_
      refine gr_run (pc' := 43) 1 rfl ?_
      refine gr_iald rfl (by repeat (first | exact up_s | assumption | refine up_n (by first | assumption | decide | omega) ?_)) (by first | assumption | rfl) (ix_i rfl (by omega) (by decide)) ?_
      rw [e2 i (by show i < σ.2.1.1; omega)]
      refine gr_iast (j := σ.2.1.1 - 1 - lnd σ.2.1.1 σ.2.1.2 i) rfl up_s rfl (ix_i (by omega) (by omega) (by decide)) ?_
      rw [bx_uu]
      refine gr_iinc rfl rfl rfl rfl ?_
      refine gr_run (pc' := 6) 1 rfl ?_
      exact q1
  obtain ⟨A2, q1, q2⟩ := loop σ.2.1.1 0 dr (by omega) (fun j hj => by omega)
  refine ⟨A2, ?_, q2⟩
  refine rt_intro kX7_backwards rfl rfl rfl ?_
  refine gr_run (pc' := 1) 1 rfl ?_
  refine gr_callV (As := []) lk_7_94 rfl rfl (r1) (by repeat (first | exact up_s | assumption | refine up_n (by first | assumption | decide | omega) ?_)) (by first | assumption | exact Nat.le_of_ble_eq_true rfl | exact Nat.le_of_ble_eq_true (by assumption)) rfl rfl rfl rfl rfl ?_
  refine gr_run (pc' := 6) 2 rfl ?_
  exact gr_h (up_same g1).symm q1
theorem m_raiseB {z : Int} (hR : RepM σ A) (hz : bd z) (hn : z < -9 ∨ 9 < z) : Rt mX7_raise (d + 1) [.ref 43, .int (iI z)] A (some (.int (iI (-1)))) A := by
  refine rt_intro kX7_raise rfl rfl rfl ?_
  refine gr_run (pc' := 1) 1 rfl ?_
  refine gr_i2l rfl (by omega) ?_
  refine gr_run (pc' := 8) 2 rfl ?_
  refine gr_callS (As := [_, _, _]) lk_7_61 rfl rfl (r_isF (by omega) (by decide) (by decide) hn) rfl rfl rfl ?_
  refine gr_ifF (t := 16) rfl (by decide) (by omega) (cN_ne (by omega)) ?_
  refine gr_run (pc' := 15) 1 rfl ?_
  exact gr_ret rfl rfl
theorem m_raiseN {z : Int} {j : Nat} (hR : RepM σ A) (hS : okS σ) (hz : -9 ≤ z ∧ z ≤ 9) (hj : j < σ.2.1.1) (hb : (σ.2.1.2 j : Int) + z < 0 ∨ 9 < (σ.2.1.2 j : Int) + z) : Rt mX7_raise (d + 1) [.ref 43, .int (iI z)] A (some (.int (iI (-2)))) A := by
  have hn10 := hS.2.1.1.1
  have h9 := hS.2.1.1.2
  obtain ⟨h0, -, ⟨f, e1, e2⟩, -⟩ := hR
  have key : ∀ i, i ≤ j → Gr mX7_raise (d + 1) 18 [some (.ref 43), some (.int (iI z)), some (.int (iI (i : Int)))] [] A (some (.int (iI (-2)))) A := by
    refine go_up ?_ ?_
    · have h9j := h9 j hj
      refine gr_run (pc' := 20) 2 rfl ?_
      refine gr_getf rfl rfl (by repeat (first | exact up_s | assumption | refine up_n (by first | assumption | decide | omega) ?_)) (by first | assumption | rfl) rfl ?_
      refine gr_icF (t := 54) rfl (by decide) (by omega) (by omega) (cN_ge (by omega)) ?_
      refine gr_run (pc' := 27) 1 rfl ?_
      refine gr_getf rfl rfl (by repeat (first | exact up_s | assumption | refine up_n (by first | assumption | decide | omega) ?_)) (by first | assumption | rfl) rfl ?_
      refine gr_run (pc' := 31) 1 rfl ?_
      refine gr_iald rfl (by repeat (first | exact up_s | assumption | refine up_n (by first | assumption | decide | omega) ?_)) (by first | assumption | rfl) (ix_i rfl (by omega) (by decide)) ?_
      rw [e2 j hj]
      refine gr_run (pc' := 33) 1 rfl ?_
      refine gr_iadd rfl ?_
      refine gr_i2l rfl (by omega) ?_
      refine gr_run (pc' := 39) 2 rfl ?_
      refine gr_callS (As := [_, _, _]) lk_7_61 rfl rfl (r_isF (by omega) (by decide) (by decide) hb) rfl rfl rfl ?_
      refine gr_ifF (t := 48) rfl (by decide) (by omega) (cN_ne (by omega)) ?_
      refine gr_run (pc' := 47) 1 rfl ?_
      exact gr_ret rfl rfl
    · intro i hi ih
      have h9i := h9 i (by omega)
      refine gr_run (pc' := 20) 2 rfl ?_
      refine gr_getf rfl rfl (by repeat (first | exact up_s | assumption | refine up_n (by first | assumption | decide | omega) ?_)) (by first | assumption | rfl) rfl ?_
      refine gr_icF (t := 54) rfl (by decide) (by omega) (by omega) (cN_ge (by omega)) ?_
      refine gr_run (pc' := 27) 1 rfl ?_
      refine gr_getf rfl rfl (by repeat (first | exact up_s | assumption | refine up_n (by first | assumption | decide | omega) ?_)) (by first | assumption | rfl) rfl ?_
      refine gr_run (pc' := 31) 1 rfl ?_
      refine gr_iald rfl (by repeat (first | exact up_s | assumption | refine up_n (by first | assumption | decide | omega) ?_)) (by first | assumption | rfl) (ix_i rfl (by omega) (by decide)) ?_
      rw [e2 i (by omega)]
      refine gr_run (pc' := 33) 1 rfl ?_
      refine gr_iadd rfl ?_
      refine gr_i2l rfl (by omega) ?_
      refine gr_run (pc' := 39) 2 rfl ?_
      by_cases hc : (σ.2.1.2 i : Int) + z < 0 ∨ 9 < (σ.2.1.2 i : Int) + z
      · refine gr_callS (As := [_, _, _]) lk_7_61 rfl rfl (r_isF (by omega) (by decide) (by decide) hc) rfl rfl rfl ?_
        refine gr_ifF (t := 48) rfl (by decide) (by omega) (cN_ne (by omega)) ?_
        refine gr_run (pc' := 47) 1 rfl ?_
        exact gr_ret rfl rfl
      · refine gr_callS (As := [_, _, _]) lk_7_61 rfl rfl (r_isT (by omega) (by decide) (by decide) (by show (0 : Int) ≤ (σ.2.1.2 i : Int) + z; omega) (by show (σ.2.1.2 i : Int) + z ≤ 9; omega)) rfl rfl rfl ?_
        refine gr_ifT (t := 48) rfl (by decide) (by omega) (cI_ne (by omega)) ?_
        refine gr_iinc rfl rfl rfl rfl ?_
        refine gr_run (pc' := 18) 1 rfl ?_
        exact ih
  refine rt_intro kX7_raise rfl rfl rfl ?_
  refine gr_run (pc' := 1) 1 rfl ?_
  refine gr_i2l rfl (by omega) ?_
  refine gr_run (pc' := 8) 2 rfl ?_
  refine gr_callS (As := [_, _, _]) lk_7_61 rfl rfl (r_isT (by omega) (by decide) (by decide) hz.1 hz.2) rfl rfl rfl ?_
  refine gr_ifT (t := 16) rfl (by decide) (by omega) (cI_ne (by omega)) ?_
  refine gr_run (pc' := 18) 2 rfl ?_
  exact key 0 (by omega)
theorem m_raise {z : Int} (hR : RepM σ A) (hS : okS σ) (hz : -9 ≤ z ∧ z ≤ 9) (hall : ∀ j, j < σ.2.1.1 → 0 ≤ (σ.2.1.2 j : Int) + z ∧ (σ.2.1.2 j : Int) + z ≤ 9) (hT : okT (σ.2.1.1, raH σ.2.1.2 z)) : ∃ A', Rt mX7_raise (d + 2) [.ref 43, .int (iI z)] A (some (.int (iI ((sumN (raH σ.2.1.2 z) σ.2.1.1 / σ.2.1.1 : Nat) : Int)))) A' ∧ RepM (σ.1, (σ.2.1.1, raH σ.2.1.2 z), σ.2.2.1, pushU σ.2.2.2.1 σ.2.1, σ.2.2.2.2) A' ∧ offE A A' 43 56 := by
  have hn10 := hS.2.1.1.1
  have h9 := hS.2.1.1.2
  obtain ⟨h0, -, ⟨f0, a1, a2⟩, -⟩ := id hR
  obtain ⟨A1, r1, r2, r3, r4⟩ := m_remember (d := d + 1) hR hS
  obtain ⟨h1, h11, ⟨f, e1, e2⟩, h3, h4, h5, h6⟩ := id r2
  dsimp only at h1 e2
  have hfin : RepM (σ.1, (σ.2.1.1, raH σ.2.1.2 z), σ.2.2.1, pushU σ.2.2.2.1 σ.2.1, σ.2.2.2.2) (va_up A1 45 (Ia 10 (fun j => if j < σ.2.1.1 then iI (raH σ.2.1.2 z j) else f j))) := ⟨(up_o (by decide)).trans h1, h11.o (up_o (by decide)), ⟨fun j => if j < σ.2.1.1 then iI (raH σ.2.1.2 z j) else f j, up_s, fun i hi => if_pos hi⟩, h3.o (up_o (by decide)), h4.o (up_o (by decide)), h5.o (up_o (by decide)), h6.o (fun k _ _ => up_o (by omega))⟩
  have second : ∀ i, i ≤ σ.2.1.1 → Gr mX7_raise (d + 2) 60 [some (.ref 43), some (.int (iI z)), some (.int (iI (i : Int)))] [] (va_up A1 45 (Ia 10 (fun j => if j < i then iI (raH σ.2.1.2 z j) else f j))) (some (.int (iI ((sumN (raH σ.2.1.2 z) σ.2.1.1 / σ.2.1.1 : Nat) : Int)))) (va_up A1 45 (Ia 10 (fun j => if j < σ.2.1.1 then iI (raH σ.2.1.2 z j) else f j))) := by
    refine go_up ?_ ?_
    · refine gr_run (pc' := 62) 2 rfl ?_
      refine gr_getf rfl rfl (by repeat (first | exact up_s | assumption | refine up_n (by first | assumption | decide | omega) ?_)) (by first | assumption | rfl) rfl ?_
      refine gr_icT (t := 84) rfl (by decide) (by omega) (by omega) (cI_ge (by omega)) ?_
      refine gr_run (pc' := 86) 2 rfl ?_
      have hb := m_balls (d := d) hfin hT hS.2.2.1 (z := 0) (by omega)
      rw [if_pos rfl] at hb
      refine gr_callV (As := [_]) lk_7_105 rfl rfl (hb) (by repeat (first | exact up_s | assumption | refine up_n (by first | assumption | decide | omega) ?_)) (by first | assumption | exact Nat.le_of_ble_eq_true rfl | exact Nat.le_of_ble_eq_true (by assumption)) rfl rfl rfl rfl rfl ?_
      exact gr_ret rfl rfl
    · intro i hi ih
      have ha := hall i hi
      refine gr_run (pc' := 62) 2 rfl ?_
      refine gr_getf rfl rfl (by repeat (first | exact up_s | assumption | refine up_n (by first | assumption | decide | omega) ?_)) (by first | assumption | rfl) rfl ?_
      refine gr_icF (t := 84) rfl (by decide) (by omega) (by omega) (cN_ge (by omega)) ?_
      refine gr_run (pc' := 69) 1 rfl ?_
      refine gr_getf rfl rfl (by repeat (first | exact up_s | assumption | refine up_n (by first | assumption | decide | omega) ?_)) (by first | assumption | rfl) rfl ?_
      refine gr_run (pc' := 74) 2 rfl ?_
      refine gr_iald rfl (by repeat (first | exact up_s | assumption | refine up_n (by first | assumption | decide | omega) ?_)) (by first | assumption | rfl) (ix_i rfl (by omega) (by decide)) ?_
      refine gr_run (pc' := 76) 1 rfl ?_
      rw [if_neg (show ¬ i < i by omega), e2 i hi]
      refine gr_iadd rfl ?_
      rw [show (σ.2.1.2 i : Int) + z = ((raH σ.2.1.2 z i : Nat) : Int) by unfold raH; omega]
      refine gr_iast rfl (by repeat (first | exact up_s | assumption | refine up_n (by first | assumption | decide | omega) ?_)) (by first | assumption | rfl) (ix_i rfl (by omega) (by decide)) ?_
      rw [bx_uu, upd_lt (g := fun j => iI (raH σ.2.1.2 z j))]
      refine gr_iinc rfl rfl rfl rfl ?_
      refine gr_run (pc' := 60) 1 rfl ?_
      exact ih
  have first : ∀ i, i ≤ σ.2.1.1 → Gr mX7_raise (d + 2) 18 [some (.ref 43), some (.int (iI z)), some (.int (iI (i : Int)))] [] A (some (.int (iI ((sumN (raH σ.2.1.2 z) σ.2.1.1 / σ.2.1.1 : Nat) : Int)))) (va_up A1 45 (Ia 10 (fun j => if j < σ.2.1.1 then iI (raH σ.2.1.2 z j) else f j))) := by
    refine go_up ?_ ?_
    · refine gr_run (pc' := 20) 2 rfl ?_
      refine gr_getf rfl rfl (by repeat (first | exact up_s | assumption | refine up_n (by first | assumption | decide | omega) ?_)) (by first | assumption | rfl) rfl ?_
      refine gr_icT (t := 54) rfl (by decide) (by omega) (by omega) (cI_ge (by omega)) ?_
      refine gr_run (pc' := 55) 1 rfl ?_
      refine gr_callV (As := []) lk_7_94 rfl rfl (r1) (by repeat (first | exact up_s | assumption | refine up_n (by first | assumption | decide | omega) ?_)) (by first | assumption | exact Nat.le_of_ble_eq_true rfl | exact Nat.le_of_ble_eq_true (by assumption)) rfl rfl rfl rfl rfl ?_
      refine gr_run (pc' := 60) 2 rfl ?_
      refine gr_h ?_ (second 0 (by omega))
      exact (up_same (by simpa using e1)).symm
    · intro i hi ih
      have ha := hall i hi
      refine gr_run (pc' := 20) 2 rfl ?_
      refine gr_getf rfl rfl (by repeat (first | exact up_s | assumption | refine up_n (by first | assumption | decide | omega) ?_)) (by first | assumption | rfl) rfl ?_
      refine gr_icF (t := 54) rfl (by decide) (by omega) (by omega) (cN_ge (by omega)) ?_
      refine gr_run (pc' := 27) 1 rfl ?_
      refine gr_getf rfl rfl (by repeat (first | exact up_s | assumption | refine up_n (by first | assumption | decide | omega) ?_)) (by first | assumption | rfl) rfl ?_
      refine gr_run (pc' := 31) 1 rfl ?_
      refine gr_iald rfl (by repeat (first | exact up_s | assumption | refine up_n (by first | assumption | decide | omega) ?_)) (by first | assumption | rfl) (ix_i rfl (by omega) (by decide)) ?_
      rw [a2 i hi]
      refine gr_run (pc' := 33) 1 rfl ?_
      refine gr_iadd rfl ?_
      refine gr_i2l rfl (by omega) ?_
      refine gr_run (pc' := 39) 2 rfl ?_
      refine gr_callS (As := [_, _, _]) lk_7_61 rfl rfl (r_isT (by omega) (by decide) (by decide) (by show (0 : Int) ≤ (σ.2.1.2 i : Int) + z; omega) (by show (σ.2.1.2 i : Int) + z ≤ 9; omega)) rfl rfl rfl ?_
      refine gr_ifT (t := 48) rfl (by decide) (by omega) (cI_ne (by omega)) ?_
      refine gr_iinc rfl rfl rfl rfl ?_
      refine gr_run (pc' := 18) 1 rfl ?_
      exact ih
  refine ⟨_, ?_, hfin, r3.up (by omega)⟩
  refine rt_intro kX7_raise rfl rfl rfl ?_
  refine gr_run (pc' := 1) 1 rfl ?_
  refine gr_i2l rfl (by omega) ?_
  refine gr_run (pc' := 8) 2 rfl ?_
  refine gr_callS (As := [_, _, _]) lk_7_61 rfl rfl (r_isT (by omega) (by decide) (by decide) hz.1 hz.2) rfl rfl rfl ?_
  refine gr_ifT (t := 16) rfl (by decide) (by omega) (cI_ne (by omega)) ?_
  refine gr_run (pc' := 18) 2 rfl ?_
  exact first 0 (by omega)
theorem m_changeB {y z : Int} (hR : RepM σ A) (hS : okS σ) (hy : bd y) (hz : bd z) (hn : ¬ (0 ≤ y ∧ y < z ∧ z < σ.2.1.1)) : Rt mX7_change (d + 1) [.ref 43, .int (iI y), .int (iI z)] A (some (.int (iI (-1)))) A := by
  have h0 := hR.1
  have hn10 := hS.2.1.1.1
  refine rt_intro kX7_change rfl rfl rfl ?_
  by_cases h1 : 0 ≤ y ∧ y < σ.2.1.1
  · refine gr_run (pc' := 1) 1 rfl ?_
    refine gr_i2l rfl (by omega) ?_
    refine gr_run (pc' := 4) 2 rfl ?_
    refine gr_getf rfl rfl (by repeat (first | exact up_s | assumption | refine up_n (by first | assumption | decide | omega) ?_)) (by first | assumption | rfl) rfl ?_
    refine gr_run (pc' := 8) 1 rfl ?_
    refine gr_isub rfl ?_
    refine gr_i2l rfl (by omega) ?_
    refine gr_callS (As := [_, _, _]) lk_7_61 rfl rfl (r_isT (by omega) (by decide) (by omega) (by show (0 : Int) ≤ y; omega) (by omega)) rfl rfl rfl ?_
    refine gr_ifF (t := 35) rfl (by decide) (by omega) (cN_eq (by omega)) ?_
    refine gr_run (pc' := 17) 1 rfl ?_
    refine gr_i2l rfl (by omega) ?_
    refine gr_run (pc' := 20) 2 rfl ?_
    refine gr_iadd rfl ?_
    refine gr_i2l rfl (by omega) ?_
    refine gr_run (pc' := 23) 1 rfl ?_
    refine gr_getf rfl rfl (by repeat (first | exact up_s | assumption | refine up_n (by first | assumption | decide | omega) ?_)) (by first | assumption | rfl) rfl ?_
    refine gr_run (pc' := 27) 1 rfl ?_
    refine gr_isub rfl ?_
    refine gr_i2l rfl (by omega) ?_
    refine gr_callS (As := [_, _, _]) lk_7_61 rfl rfl (r_isF (by omega) (by omega) (by omega) (by omega)) rfl rfl rfl ?_
    refine gr_ifF (t := 37) rfl (by decide) (by omega) (cN_ne (by omega)) ?_
    refine gr_run (pc' := 36) 1 rfl ?_
    exact gr_ret rfl rfl
  · refine gr_run (pc' := 1) 1 rfl ?_
    refine gr_i2l rfl (by omega) ?_
    refine gr_run (pc' := 4) 2 rfl ?_
    refine gr_getf rfl rfl (by repeat (first | exact up_s | assumption | refine up_n (by first | assumption | decide | omega) ?_)) (by first | assumption | rfl) rfl ?_
    refine gr_run (pc' := 8) 1 rfl ?_
    refine gr_isub rfl ?_
    refine gr_i2l rfl (by omega) ?_
    refine gr_callS (As := [_, _, _]) lk_7_61 rfl rfl (r_isF (by omega) (by decide) (by omega) (by show y < 0 ∨ (σ.2.1.1 : Int) - 1 < y; omega)) rfl rfl rfl ?_
    refine gr_ifT (t := 35) rfl (by decide) (by omega) (cI_eq (by omega)) ?_
    refine gr_run (pc' := 36) 1 rfl ?_
    exact gr_ret rfl rfl
theorem m_changeN {i j : Nat} (hR : RepM σ A) (hS : okS σ) (hij : i < j) (hj : j < σ.2.1.1) (hn : 9 < σ.2.1.2 j + (j - i) ∨ σ.2.1.2 i < j - i) : Rt mX7_change (d + 1) [.ref 43, .int (iI i), .int (iI j)] A (some (.int (iI (-2)))) A := by
  obtain ⟨h0, -, ⟨f, e1, e2⟩, -⟩ := hR
  have hn10 := hS.2.1.1.1
  have h9i := hS.2.1.1.2 i (by omega)
  have h9j := hS.2.1.1.2 j (by omega)
  refine rt_intro kX7_change rfl rfl rfl ?_
  refine gr_run (pc' := 1) 1 rfl ?_
  refine gr_i2l rfl (by omega) ?_
  refine gr_run (pc' := 4) 2 rfl ?_
  refine gr_getf rfl rfl (by repeat (first | exact up_s | assumption | refine up_n (by first | assumption | decide | omega) ?_)) (by first | assumption | rfl) rfl ?_
  refine gr_run (pc' := 8) 1 rfl ?_
  refine gr_isub rfl ?_
  refine gr_i2l rfl (by omega) ?_
  refine gr_callS (As := [_, _, _]) lk_7_61 rfl rfl (r_isT (by omega) (by decide) (by omega) (by show (0 : Int) ≤ i; omega) (by omega)) rfl rfl rfl ?_
  refine gr_ifF (t := 35) rfl (by decide) (by omega) (cN_eq (by omega)) ?_
  refine gr_run (pc' := 17) 1 rfl ?_
  refine gr_i2l rfl (by omega) ?_
  refine gr_run (pc' := 20) 2 rfl ?_
  refine gr_iadd rfl ?_
  refine gr_i2l rfl (by omega) ?_
  refine gr_run (pc' := 23) 1 rfl ?_
  refine gr_getf rfl rfl (by repeat (first | exact up_s | assumption | refine up_n (by first | assumption | decide | omega) ?_)) (by first | assumption | rfl) rfl ?_
  refine gr_run (pc' := 27) 1 rfl ?_
  refine gr_isub rfl ?_
  refine gr_i2l rfl (by omega) ?_
  refine gr_callS (As := [_, _, _]) lk_7_61 rfl rfl (r_isT (by omega) (by omega) (by omega) (by omega) (by omega)) rfl rfl rfl ?_
  refine gr_ifT (t := 37) rfl (by decide) (by omega) (cI_ne (by omega)) ?_
  refine gr_run (pc' := 38) 1 rfl ?_
  refine gr_getf rfl rfl (by repeat (first | exact up_s | assumption | refine up_n (by first | assumption | decide | omega) ?_)) (by first | assumption | rfl) rfl ?_
  refine gr_run (pc' := 42) 1 rfl ?_
  refine gr_iald rfl (by repeat (first | exact up_s | assumption | refine up_n (by first | assumption | decide | omega) ?_)) (by first | assumption | rfl) (ix_i rfl (by omega) (by decide)) ?_
  rw [e2 j (by omega)]
  refine gr_run (pc' := 44) 1 rfl ?_
  refine gr_iadd rfl ?_
  refine gr_run (pc' := 46) 1 rfl ?_
  refine gr_isub rfl ?_
  refine gr_run (pc' := 49) 2 rfl ?_
  refine gr_getf rfl rfl (by repeat (first | exact up_s | assumption | refine up_n (by first | assumption | decide | omega) ?_)) (by first | assumption | rfl) rfl ?_
  refine gr_run (pc' := 53) 1 rfl ?_
  refine gr_iald rfl (by repeat (first | exact up_s | assumption | refine up_n (by first | assumption | decide | omega) ?_)) (by first | assumption | rfl) (ix_i rfl (by omega) (by decide)) ?_
  rw [e2 i (by omega)]
  by_cases hc : 9 < σ.2.1.2 j + (j - i)
  · refine gr_run (pc' := 56) 2 rfl ?_
    refine gr_isub rfl ?_
    refine gr_isub rfl ?_
    refine gr_run (pc' := 63) 3 rfl ?_
    refine gr_icT (t := 71) rfl (by decide) (by omega) (by omega) (cI_gt (by omega)) ?_
    refine gr_run (pc' := 73) 1 rfl ?_
    exact gr_ret rfl rfl
  · refine gr_run (pc' := 56) 2 rfl ?_
    refine gr_isub rfl ?_
    refine gr_isub rfl ?_
    refine gr_run (pc' := 63) 3 rfl ?_
    refine gr_icF (t := 71) rfl (by decide) (by omega) (by omega) (cN_gt (by omega)) ?_
    refine gr_run (pc' := 68) 1 rfl ?_
    refine gr_ifF (t := 74) rfl (by decide) (by omega) (cN_ge (by omega)) ?_
    refine gr_run (pc' := 73) 1 rfl ?_
    exact gr_ret rfl rfl
theorem m_change {i j : Nat} (hR : RepM σ A) (hS : okS σ) (hij : i < j) (hj : j < σ.2.1.1) (h1 : σ.2.1.2 j + (j - i) ≤ 9) (h2 : j - i ≤ σ.2.1.2 i) : ∃ A', Rt mX7_change (d + 1) [.ref 43, .int (iI i), .int (iI j)] A (some (.int (iI ((σ.2.1.2 j + (j - i) : Nat) : Int)))) A' ∧ RepM (σ.1, (σ.2.1.1, chH σ.2.1.2 i j), σ.2.2.1, pushU σ.2.2.2.1 σ.2.1, σ.2.2.2.2) A' ∧ offE A A' 43 56 := by
  obtain ⟨h0, -, ⟨f, e1, e2⟩, -⟩ := id hR
  have hn10 := hS.2.1.1.1
  have h9i := hS.2.1.1.2 i (by omega)
  obtain ⟨A1, r1, r2, r3, r4⟩ := m_remember (d := d) hR hS
  obtain ⟨k0, k1, ⟨g, g1, g2⟩, k3, k4, k5, k6⟩ := id r2
  dsimp only at k0 g2
  refine ⟨va_up A1 45 (Ia 10 (upd (upd g i (iI ((σ.2.1.2 j + (j - i) : Nat) : Int))) j (iI ((σ.2.1.2 i - (j - i) : Nat) : Int)))), ?_, ⟨(up_o (by decide)).trans k0, k1.o (up_o (by decide)), ⟨upd (upd g i (iI ((σ.2.1.2 j + (j - i) : Nat) : Int))) j (iI ((σ.2.1.2 i - (j - i) : Nat) : Int)), up_s, fun q hq => ?_⟩, k3.o (up_o (by decide)), k4.o (up_o (by decide)), k5.o (up_o (by decide)), k6.o (fun k _ _ => up_o (by omega))⟩, r3.up (by omega)⟩
  · refine rt_intro kX7_change rfl rfl rfl ?_
    refine gr_run (pc' := 1) 1 rfl ?_
    refine gr_i2l rfl (by omega) ?_
    refine gr_run (pc' := 4) 2 rfl ?_
    refine gr_getf rfl rfl (by repeat (first | exact up_s | assumption | refine up_n (by first | assumption | decide | omega) ?_)) (by first | assumption | rfl) rfl ?_
    refine gr_run (pc' := 8) 1 rfl ?_
    refine gr_isub rfl ?_
    refine gr_i2l rfl (by omega) ?_
    refine gr_callS (As := [_, _, _]) lk_7_61 rfl rfl (r_isT (by omega) (by decide) (by omega) (by show (0 : Int) ≤ i; omega) (by omega)) rfl rfl rfl ?_
    refine gr_ifF (t := 35) rfl (by decide) (by omega) (cN_eq (by omega)) ?_
    refine gr_run (pc' := 17) 1 rfl ?_
    refine gr_i2l rfl (by omega) ?_
    refine gr_run (pc' := 20) 2 rfl ?_
    refine gr_iadd rfl ?_
    refine gr_i2l rfl (by omega) ?_
    refine gr_run (pc' := 23) 1 rfl ?_
    refine gr_getf rfl rfl (by repeat (first | exact up_s | assumption | refine up_n (by first | assumption | decide | omega) ?_)) (by first | assumption | rfl) rfl ?_
    refine gr_run (pc' := 27) 1 rfl ?_
    refine gr_isub rfl ?_
    refine gr_i2l rfl (by omega) ?_
    refine gr_callS (As := [_, _, _]) lk_7_61 rfl rfl (r_isT (by omega) (by omega) (by omega) (by omega) (by omega)) rfl rfl rfl ?_
    refine gr_ifT (t := 37) rfl (by decide) (by omega) (cI_ne (by omega)) ?_
    refine gr_run (pc' := 38) 1 rfl ?_
    refine gr_getf rfl rfl (by repeat (first | exact up_s | assumption | refine up_n (by first | assumption | decide | omega) ?_)) (by first | assumption | rfl) rfl ?_
    refine gr_run (pc' := 42) 1 rfl ?_
    refine gr_iald rfl (by repeat (first | exact up_s | assumption | refine up_n (by first | assumption | decide | omega) ?_)) (by first | assumption | rfl) (ix_i rfl (by omega) (by decide)) ?_
    rw [e2 j (by omega)]
    refine gr_run (pc' := 44) 1 rfl ?_
    refine gr_iadd rfl ?_
    refine gr_run (pc' := 46) 1 rfl ?_
    refine gr_isub rfl ?_
    rw [show (σ.2.1.2 j : Int) + (j : Int) - (i : Int) = ((σ.2.1.2 j + (j - i) : Nat) : Int) by omega]
    refine gr_run (pc' := 49) 2 rfl ?_
    refine gr_getf rfl rfl (by repeat (first | exact up_s | assumption | refine up_n (by first | assumption | decide | omega) ?_)) (by first | assumption | rfl) rfl ?_
    refine gr_run (pc' := 53) 1 rfl ?_
    refine gr_iald rfl (by repeat (first | exact up_s | assumption | refine up_n (by first | assumption | decide | omega) ?_)) (by first | assumption | rfl) (ix_i rfl (by omega) (by decide)) ?_
    rw [e2 i (by omega)]
    refine gr_run (pc' := 56) 2 rfl ?_
    refine gr_isub rfl ?_
    refine gr_isub rfl ?_
    rw [show (σ.2.1.2 i : Int) - ((j : Int) - (i : Int)) = ((σ.2.1.2 i - (j - i) : Nat) : Int) by omega]
    refine gr_run (pc' := 63) 3 rfl ?_
    refine gr_icF (t := 71) rfl (by decide) (by omega) (by omega) (cN_gt (by omega)) ?_
    refine gr_run (pc' := 68) 1 rfl ?_
    refine gr_ifT (t := 74) rfl (by decide) (by omega) (cI_ge (by omega)) ?_
    refine gr_run (pc' := 75) 1 rfl ?_
    refine gr_callV (As := []) lk_7_94 rfl rfl (r1) (by repeat (first | exact up_s | assumption | refine up_n (by first | assumption | decide | omega) ?_)) (by first | assumption | exact Nat.le_of_ble_eq_true rfl | exact Nat.le_of_ble_eq_true (by assumption)) rfl rfl rfl rfl rfl ?_
    refine gr_run (pc' := 79) 1 rfl ?_
    refine gr_getf rfl rfl (by repeat (first | exact up_s | assumption | refine up_n (by first | assumption | decide | omega) ?_)) (by first | assumption | rfl) rfl ?_
    refine gr_run (pc' := 84) 2 rfl ?_
    refine gr_iast rfl (by repeat (first | exact up_s | assumption | refine up_n (by first | assumption | decide | omega) ?_)) (by first | assumption | rfl) (ix_i rfl (by omega) (by decide)) ?_
    refine gr_run (pc' := 86) 1 rfl ?_
    refine gr_getf rfl rfl (by repeat (first | exact up_s | assumption | refine up_n (by first | assumption | decide | omega) ?_)) (by first | assumption | rfl) rfl ?_
    refine gr_run (pc' := 92) 2 rfl ?_
    refine gr_iast rfl (by repeat (first | exact up_s | assumption | refine up_n (by first | assumption | decide | omega) ?_)) (by first | assumption | rfl) (ix_i rfl (by omega) (by decide)) ?_
    rw [bx_uu]
    refine gr_run (pc' := 94) 1 rfl ?_
    exact gr_ret rfl rfl
  · show upd (upd g i _) j _ q = iI (((chH σ.2.1.2 i j q : Nat)) : Int)
    unfold chH upd updN
    by_cases a : q = j
    · rw [if_pos a, if_pos a]
    · rw [if_neg a, if_neg a]
      by_cases b : q = i
      · rw [if_pos b, if_pos b]
      · rw [if_neg b, if_neg b]; exact g2 q hq
theorem m_undo0 (hR : RepM σ A) (hu : σ.2.2.2.1.1 = 0) : Rt mX7_undo d [.ref 43] A (some (.int (iI (-2)))) A := by
  have h0 := hR.1
  refine rt_intro kX7_undo rfl rfl rfl ?_
  refine gr_run (pc' := 1) 1 rfl ?_
  refine gr_getf rfl rfl (by repeat (first | exact up_s | assumption | refine up_n (by first | assumption | decide | omega) ?_)) (by first | assumption | rfl) rfl ?_
  refine gr_ifF (t := 10) rfl (by decide) (by omega) (cN_ne (by omega)) ?_
  refine gr_run (pc' := 9) 1 rfl ?_
  exact gr_ret rfl rfl
theorem m_undo (hR : RepM σ A) (hS : okS σ) (hu : 1 ≤ σ.2.2.2.1.1) : ∃ A', Rt mX7_undo d [.ref 43] A (some (.int (iI ((σ.2.2.2.1.1 - 1 : Nat) : Int)))) A' ∧ RepM (σ.1, σ.2.2.2.1.2 (σ.2.2.2.1.1 - 1), σ.2.2.1, popU σ.2.2.2.1, σ.2.2.2.2) A' ∧ offE A A' 43 56 := by
  obtain ⟨h0, h1, ⟨f, e1, e2⟩, h3, ⟨g, g1, g2⟩, h5, h6⟩ := id hR
  have hu8 := hS.2.2.2.1.1
  have hk := hS.2.2.2.1.2 (σ.2.2.2.1.1 - 1) (by omega)
  have hk1 := hk.1.1
  obtain ⟨w1, w2⟩ := g2 (σ.2.2.2.1.1 - 1) (by omega)
  generalize hv : σ.2.2.2.1.1 - 1 = v at *
  have hvu : (σ.2.2.2.1.1 : Int) - 1 = (v : Int) := by omega
  have key : ∀ i : Nat, i ≤ 10 → Gr mX7_undo d 38 [some (.ref 43), some (.int (iI (i : Int)))] [] (va_up (va_up A 43 (mdl σ.1.1 (σ.2.2.2.1.2 v).1 σ.2.2.1.1 v σ.2.2.2.2.1)) 45 (Ia 10 (fun j => if j < i then g (11 * v + 1 + j) else f j))) (some (.int (iI (v : Int)))) (va_up (va_up A 43 (mdl σ.1.1 (σ.2.2.2.1.2 v).1 σ.2.2.1.1 v σ.2.2.2.2.1)) 45 (Ia 10 (fun j => if j < 10 then g (11 * v + 1 + j) else f j))) := by
    refine go_up ?_ ?_
    · refine gr_run (pc' := 41) 2 rfl ?_
      refine gr_icT (t := 72) rfl (by decide) (by omega) (by omega) (cI_ge (by omega)) ?_
      refine gr_run (pc' := 73) 1 rfl ?_
      refine gr_getf rfl rfl (by repeat (first | exact up_s | assumption | refine up_n (by first | assumption | decide | omega) ?_)) (by first | assumption | rfl) rfl ?_
      exact gr_ret rfl rfl
    · intro i hi ih
      refine gr_run (pc' := 41) 2 rfl ?_
      refine gr_icF (t := 72) rfl (by decide) (by omega) (by omega) (cN_ge (by omega)) ?_
      refine gr_run (pc' := 45) 1 rfl ?_
      refine gr_getf rfl rfl (by repeat (first | exact up_s | assumption | refine up_n (by first | assumption | decide | omega) ?_)) (by first | assumption | rfl) rfl ?_
      refine gr_run (pc' := 50) 2 rfl ?_
      refine gr_getf rfl rfl (by repeat (first | exact up_s | assumption | refine up_n (by first | assumption | decide | omega) ?_)) (by first | assumption | rfl) rfl ?_
      refine gr_run (pc' := 56) 2 rfl ?_
      refine gr_getf rfl rfl (by repeat (first | exact up_s | assumption | refine up_n (by first | assumption | decide | omega) ?_)) (by first | assumption | rfl) rfl ?_
      refine gr_imul rfl ?_
      refine gr_run (pc' := 61) 1 rfl ?_
      refine gr_iadd rfl ?_
      refine gr_run (pc' := 63) 1 rfl ?_
      refine gr_iadd rfl ?_
      refine gr_iald rfl (by repeat (first | exact up_s | assumption | refine up_n (by first | assumption | decide | omega) ?_)) (by first | assumption | rfl) (ix_i (j := 11 * v + 1 + i) (by omega) (by omega) (by decide)) ?_
      refine gr_iast rfl (by repeat (first | exact up_s | assumption | refine up_n (by first | assumption | decide | omega) ?_)) (by first | assumption | rfl) (ix_i rfl (by omega) (by decide)) ?_
      rw [bx_uu, upd_lt (g := fun j => g (11 * v + 1 + j))]
      refine gr_iinc rfl rfl rfl rfl ?_
      refine gr_run (pc' := 38) 1 rfl ?_
      exact ih
  refine ⟨va_up (va_up A 43 (mdl σ.1.1 (σ.2.2.2.1.2 v).1 σ.2.2.1.1 v σ.2.2.2.2.1)) 45 (Ia 10 (fun j => if j < 10 then g (11 * v + 1 + j) else f j)), ?_, ⟨?_, h1.o ((up_o (by decide)).trans (up_o (by decide))), ⟨fun j => if j < 10 then g (11 * v + 1 + j) else f j, up_s, fun i hi => ?_⟩, h3.o ((up_o (by decide)).trans (up_o (by decide))), ⟨g, up_n (by decide) (up_n (by decide) g1), fun j hj => ?_⟩, h5.o ((up_o (by decide)).trans (up_o (by decide))), h6.o (fun k _ _ => (up_o (by omega)).trans (up_o (by omega)))⟩, (offE.rf.up (by omega)).up (by omega)⟩
  · refine rt_intro kX7_undo rfl rfl rfl ?_
    refine gr_run (pc' := 1) 1 rfl ?_
    refine gr_getf rfl rfl (by repeat (first | exact up_s | assumption | refine up_n (by first | assumption | decide | omega) ?_)) (by first | assumption | rfl) rfl ?_
    refine gr_ifT (t := 10) rfl (by decide) (by omega) (cI_ne (by omega)) ?_
    refine gr_run (pc' := 12) 2 rfl ?_
    refine gr_getf rfl rfl (by repeat (first | exact up_s | assumption | refine up_n (by first | assumption | decide | omega) ?_)) (by first | assumption | rfl) rfl ?_
    refine gr_run (pc' := 16) 1 rfl ?_
    refine gr_isub rfl ?_
    rw [hvu]
    refine gr_putf rfl rfl rfl (by repeat (first | exact up_s | assumption | refine up_n (by first | assumption | decide | omega) ?_)) (by first | assumption | rfl) rfl rfl ?_
    refine gr_run (pc' := 22) 2 rfl ?_
    refine gr_getf rfl rfl (by repeat (first | exact up_s | assumption | refine up_n (by first | assumption | decide | omega) ?_)) (by first | assumption | rfl) rfl ?_
    refine gr_run (pc' := 28) 2 rfl ?_
    refine gr_getf rfl rfl (by repeat (first | exact up_s | assumption | refine up_n (by first | assumption | decide | omega) ?_)) (by first | assumption | rfl) rfl ?_
    refine gr_imul rfl ?_
    refine gr_iald rfl (by repeat (first | exact up_s | assumption | refine up_n (by first | assumption | decide | omega) ?_)) (by first | assumption | rfl) (ix_i (j := 11 * v) (by omega) (by omega) (by decide)) ?_
    rw [w1]
    refine gr_putf rfl rfl rfl (by repeat (first | exact up_s | assumption | refine up_n (by first | assumption | decide | omega) ?_)) (by first | assumption | rfl) rfl rfl ?_
    refine gr_run (pc' := 38) 2 rfl ?_
    rw [bx_uu]
    refine gr_h ?_ (key 0 (by omega))
    exact (up_same (up_n (by decide) (by simpa using e1))).symm
  · show va_up (va_up A 43 (mdl σ.1.1 (σ.2.2.2.1.2 v).1 σ.2.2.1.1 v σ.2.2.2.2.1)) 45 _ 43 = mdl σ.1.1 (σ.2.2.2.1.2 v).1 σ.2.2.1.1 (σ.2.2.2.1.1 - 1) σ.2.2.2.2.1
    rw [hv]
    exact up_n (by decide) up_s
  · dsimp only at hi ⊢
    rw [if_pos (by have := hk1.2; exact Nat.lt_of_lt_of_le hi this)]
    exact w2 i hi
  · simp only [popU] at hj ⊢
    exact g2 j (by omega)
end MD
