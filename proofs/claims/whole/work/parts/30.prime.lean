/-! sums over all rows of throws -/
noncomputable def ind (P : Prop) : Nat := @ite Nat P (Classical.propDecidable _) 1 0
theorem ind_T {P : Prop} (h : P) : ind P = 1 := if_pos h
theorem ind_F {P : Prop} (h : ¬ P) : ind P = 0 := if_neg h
theorem ind_le (P : Prop) : ind P ≤ 1 := by unfold ind; split <;> omega
theorem ind_iff {P Q : Prop} (h : P ↔ Q) : ind P = ind Q := by rw [propext h]
def SqU (m : Nat) (f : (Nat → Nat) → Nat) : Nat → Nat → (Nat → Nat) → Nat
  | 0, _, h => f h
  | k + 1, pl, h => sumN (fun x => SqU m f k (pl + 1) (updN h pl x)) (m + 1)
def loc (p : Nat) (f : (Nat → Nat) → Nat) : Prop := ∀ h h' : Nat → Nat, (∀ i, i < p → h i = h' i) → f h = f h'
theorem updN_o {h : Nat → Nat} {k v i : Nat} (e : i ≠ k) : updN h k v i = h i := if_neg e
theorem updN_s {h : Nat → Nat} {k v : Nat} : updN h k v k = v := if_pos rfl
theorem SqU_congr {m : Nat} {f g : (Nat → Nat) → Nat} : ∀ {k pl : Nat} {h : Nat → Nat}, (∀ s, (∀ i, i < pl → s i = h i) → (∀ i, pl ≤ i → i < pl + k → s i ≤ m) → f s = g s) → SqU m f k pl h = SqU m g k pl h
  | 0, pl, h, H => H h (fun _ _ => rfl) (fun i h1 h2 => by omega)
  | k + 1, pl, h, H => by
    simp only [SqU]
    apply sumN_congr
    intro x hx
    apply SqU_congr
    intro s h1 h2
    refine H s (fun i hi => ?_) (fun i h3 h4 => ?_)
    · rw [h1 i (by omega), updN_o (by omega)]
    · by_cases e : i = pl
      · subst e; rw [h1 i (by omega), updN_s]; omega
      · exact h2 i (by omega) (by omega)
theorem sumN_le2 {f g : Nat → Nat} : ∀ {n : Nat}, (∀ i, i < n → f i ≤ g i) → sumN f n ≤ sumN g n
  | 0, _ => Nat.le_refl _
  | n + 1, h => Nat.add_le_add (sumN_le2 (fun i hi => h i (by omega))) (h n (by omega))
theorem SqU_le {m : Nat} {f g : (Nat → Nat) → Nat} (H : ∀ s, f s ≤ g s) : ∀ {k pl : Nat} {h : Nat → Nat}, SqU m f k pl h ≤ SqU m g k pl h
  | 0, _, h => H h
  | k + 1, pl, h => by
    simp only [SqU]
    exact sumN_le2 (fun x _ => SqU_le H)
theorem SqU_0 {m : Nat} : ∀ {k pl : Nat} {h : Nat → Nat}, SqU m (fun _ => 0) k pl h = 0
  | 0, _, h => rfl
  | k + 1, pl, h => by
    simp only [SqU]
    rw [sumN_congr (g := fun _ => 0) (fun x _ => SqU_0)]
    exact sumN_0 _
theorem SqU_sum {m n : Nat} {f : Nat → (Nat → Nat) → Nat} : ∀ {k pl : Nat} {h : Nat → Nat}, SqU m (fun s => sumN (fun j => f j s) n) k pl h = sumN (fun j => SqU m (f j) k pl h) n
  | 0, _, h => rfl
  | k + 1, pl, h => by
    simp only [SqU]
    rw [sumN_congr (g := fun x => sumN (fun j => SqU m (f j) k (pl + 1) (updN h pl x)) n) (fun x _ => SqU_sum)]
    exact sumN_swap _ _ _
def cns (x : Nat) (s : Nat → Nat) : Nat → Nat := fun i => if i = 0 then x else s (i - 1)
theorem SqU_cns {m p : Nat} {f : (Nat → Nat) → Nat} (hl : loc p f) : ∀ {k pl : Nat} {g g' : Nat → Nat}, pl + 1 + k = p → (∀ i, i < pl → g' i = g (i + 1)) → SqU m f k (pl + 1) g = SqU m (fun s => f (cns (g 0) s)) k pl g'
  | 0, pl, g, g', hp, hg => by
    simp only [SqU]
    refine hl _ _ (fun i hi => ?_)
    unfold cns
    by_cases e : i = 0
    · rw [if_pos e, e]
    · rw [if_neg e, hg (i - 1) (by omega), Nat.sub_add_cancel (by omega)]
  | k + 1, pl, g, g', hp, hg => by
    simp only [SqU]
    apply sumN_congr
    intro x _
    rw [SqU_cns hl (g' := updN g' pl x) (by omega), show updN g (pl + 1) x 0 = g 0 from updN_o (by omega)]
    intro i hi
    by_cases e : i = pl
    · subst e; rw [updN_s, updN_s]
    · rw [updN_o e, updN_o (by omega)]; exact hg i (by omega)
theorem SqU_snoc {m : Nat} {f : (Nat → Nat) → Nat} : ∀ {k pl : Nat} {g : Nat → Nat}, SqU m f (k + 1) pl g = sumN (fun x => SqU m (fun s => f (updN s (pl + k) x)) k pl g) (m + 1)
  | 0, pl, g => rfl
  | k + 1, pl, g => by
    rw [show SqU m f (k + 1 + 1) pl g = sumN (fun y => SqU m f (k + 1) (pl + 1) (updN g pl y)) (m + 1) from rfl]
    rw [sumN_congr (g := fun y => sumN (fun x => SqU m (fun s => f (updN s (pl + 1 + k) x)) k (pl + 1) (updN g pl y)) (m + 1)) (fun y _ => SqU_snoc)]
    rw [sumN_swap]
    apply sumN_congr
    intro x _
    rw [show pl + 1 + k = pl + (k + 1) by omega]
    rfl
theorem SqU_rot {m p : Nat} {f : (Nat → Nat) → Nat} {h : Nat → Nat} (hp : 1 ≤ p) (hl : loc p f) : SqU m (fun s => f (tuH p s 1)) p 0 h = SqU m f p 0 h := by
  obtain ⟨k, rfl⟩ : ∃ k, p = k + 1 := ⟨p - 1, by omega⟩
  have hl2 : loc (k + 1) (fun s => f (tuH (k + 1) s 1)) := fun s s' e => hl _ _ (fun i _ => e _ (Nat.mod_lt _ (by omega)))
  rw [SqU_snoc (f := f)]
  simp only [SqU]
  apply sumN_congr
  intro x _
  rw [SqU_cns hl2 (g' := h) (by omega) (fun i hi => by omega), show updN h 0 x 0 = x from updN_s]
  apply SqU_congr
  intro s _ _
  refine hl _ _ (fun i hi => ?_)
  unfold tuH cns
  by_cases e : i = k
  · subst e
    rw [if_pos (by rw [Nat.mod_self]), Nat.zero_add, updN_s]
  · rw [Nat.mod_eq_of_lt (by omega), if_neg (by omega), Nat.add_sub_cancel, updN_o (by omega)]
theorem tuH_loc {p : Nat} (hp : 1 ≤ p) {f : (Nat → Nat) → Nat} (hl : loc p f) (j : Nat) : loc p (fun s => f (tuH p s j)) := fun s s' e => hl _ _ (fun i _ => e _ (Nat.mod_lt _ (by omega)))
theorem SqU_tu {m p : Nat} {f : (Nat → Nat) → Nat} {h : Nat → Nat} (hp : 1 ≤ p) (hl : loc p f) : ∀ j, SqU m (fun s => f (tuH p s j)) p 0 h = SqU m f p 0 h
  | 0 => by
    apply SqU_congr
    intro s _ _
    exact hl _ _ (fun i hi => by unfold tuH; rw [Nat.add_zero, Nat.mod_eq_of_lt hi])
  | j + 1 => by
    rw [← SqU_tu hp hl j, ← SqU_rot hp (tuH_loc hp hl j)]
    apply SqU_congr
    intro s _ _
    refine hl _ _ (fun i hi => ?_)
    unfold tuH
    rw [Nat.mod_add_mod, Nat.add_assoc]
/-! the least of the turned ones -/
theorem min_ex {v : Nat → Nat} : ∀ {p : Nat}, 1 ≤ p → ∃ k, k < p ∧ ∀ j, j < p → v k ≤ v j
  | 0, h => by omega
  | 1, _ => ⟨0, by omega, fun j hj => by rw [show j = 0 by omega]; exact Nat.le_refl _⟩
  | p + 2, _ => by
    obtain ⟨k, h1, h2⟩ := min_ex (v := v) (p := p + 1) (by omega)
    by_cases c : v k ≤ v (p + 1)
    · refine ⟨k, by omega, fun j hj => ?_⟩
      by_cases e : j = p + 1
      · rw [e]; exact c
      · exact h2 j (by omega)
    · refine ⟨p + 1, by omega, fun j hj => ?_⟩
      by_cases e : j = p + 1
      · rw [e]; exact Nat.le_refl _
      · have := h2 j (by omega); omega
theorem min_one {v : Nat → Nat} {p : Nat} (hp : 1 ≤ p) (hi : ∀ i j, i < j → j < p → v i ≠ v j) : sumN (fun k => ind (∀ j, j < p → v k ≤ v j)) p = 1 := by
  obtain ⟨k, h1, h2⟩ := min_ex (v := v) hp
  have e : sumN (fun j => if k = j then 1 else 0) p = 1 := by rw [sumN_ind, if_pos h1]
  rw [← e]
  apply sumN_congr
  intro i hi2
  by_cases c : k = i
  · rw [if_pos c, ← c]; exact ind_T h2
  · rw [if_neg c]
    refine ind_F (fun q => ?_)
    have a1 := q k h1
    have a2 := h2 i hi2
    rcases Nat.lt_or_ge k i with c2 | c2
    · exact hi k i c2 hi2 (by omega)
    · exact hi i k (by omega) h1 (by omega)
def sv (s : Nat → Nat) : Nat → Nat → Nat
  | 0, _ => 0
  | m + 1, i => s i * 10 ^ m + sv s m (i + 1)
theorem sv_lt {s : Nat → Nat} : ∀ {m i : Nat}, (∀ j, i ≤ j → j < i + m → s j ≤ 9) → sv s m i < 10 ^ m
  | 0, _, _ => by simp [sv]
  | m + 1, i, h => by
    have h1 := h i (by omega) (by omega)
    have h2 := sv_lt (s := s) (m := m) (i := i + 1) (fun j a b => h j (by omega) (by omega))
    have h3 : s i * 10 ^ m ≤ 9 * 10 ^ m := Nat.mul_le_mul_right _ h1
    simp only [sv]
    rw [Nat.pow_succ]
    omega
theorem dig_lt {a b u v N : Nat} (h : a < b) (hu : u < N) : a * N + u < b * N + v := by
  have : (a + 1) * N ≤ b * N := Nat.mul_le_mul_right _ h
  rw [Nat.add_mul] at this
  omega
theorem sv_inj {s s' : Nat → Nat} : ∀ {m i : Nat}, (∀ j, i ≤ j → j < i + m → s j ≤ 9) → (∀ j, i ≤ j → j < i + m → s' j ≤ 9) → sv s m i = sv s' m i → ∀ j, i ≤ j → j < i + m → s j = s' j
  | 0, i, _, _, _, j, a, b => by omega
  | m + 1, i, h, h', e, j, a, b => by
    simp only [sv] at e
    have q1 := sv_lt (s := s) (m := m) (i := i + 1) (fun j a b => h j (by omega) (by omega))
    have q2 := sv_lt (s := s') (m := m) (i := i + 1) (fun j a b => h' j (by omega) (by omega))
    have e0 : s i = s' i := by
      rcases Nat.lt_trichotomy (s i) (s' i) with c | c | c
      · have := dig_lt (v := sv s' m (i + 1)) c q1; omega
      · exact c
      · have := dig_lt (v := sv s m (i + 1)) c q2; omega
    by_cases ej : j = i
    · rw [ej]; exact e0
    · rw [e0] at e
      exact sv_inj (m := m) (i := i + 1) (fun j a b => h j (by omega) (by omega)) (fun j a b => h' j (by omega) (by omega)) (by omega) j (by omega) (by omega)
theorem hg_nat {p : Nat} {h : Nat → Nat} {i k : Nat} : hg p h ((i : Int) + k) = tuH p h k i := by
  unfold hg tuH
  rw [show ((i : Int) + (k : Int)) % (p : Int) = (((i + k) % p : Nat) : Int) from rfl]
  rfl
theorem lex_sv {p : Nat} {h : Nat → Nat} {k : Nat} (hh : okH p h) : ∀ {m i : Nat}, i + m = p → (lexM p h k m i < 0 ↔ sv (tuH p h k) m i < sv h m i)
  | 0, i, _ => by simp [lexM, sv]
  | m + 1, i, hi => by
    have h9 : ∀ j, tuH p h k j ≤ 9 := fun j => hh.2 _ (Nat.mod_lt _ (by have := hh.1; omega))
    have q1 := sv_lt (s := h) (m := m) (i := i + 1) (fun j a b => hh.2 j (by omega))
    have q2 := sv_lt (s := tuH p h k) (m := m) (i := i + 1) (fun j a b => h9 j)
    simp only [lexM, sv]
    rw [hg_nat]
    have ih := lex_sv (k := k) hh (m := m) (i := i + 1) (by omega)
    rcases Nat.lt_trichotomy (tuH p h k i) (h i) with c | c | c
    · rw [if_neg (by omega)]
      have := dig_lt (v := sv h m (i + 1)) c q2
      omega
    · rw [if_pos (by omega), c, ih]
      omega
    · rw [if_neg (by omega)]
      have := dig_lt (v := sv (tuH p h k) m (i + 1)) c q1
      omega
theorem ft_sv {p : Nat} {h : Nat → Nat} (hh : okH p h) : ∀ {m k : Nat}, (ftF p h m k = 1 ↔ ∀ j, k ≤ j → j < k + m → sv h p 0 ≤ sv (tuH p h j) p 0)
  | 0, k => by simp only [ftF, true_iff]; intro j a b; omega
  | m + 1, k => by
    have e := lex_sv (k := k) hh (m := p) (i := 0) (by omega)
    have ih := ft_sv hh (m := m) (k := k + 1)
    simp only [ftF]
    by_cases c : lexM p h k p 0 < 0
    · rw [if_pos c]
      constructor
      · intro q; omega
      · intro q
        have a := q k (by omega) (by omega)
        have b := e.mp c
        omega
    · rw [if_neg c, ih]
      constructor
      · intro q j a b
        by_cases ej : j = k
        · rw [ej]; exact Nat.le_of_not_lt (fun z => c (e.mpr z))
        · exact q j (by omega) (by omega)
      · intro q j a b
        exact q j (by omega) (by omega)
