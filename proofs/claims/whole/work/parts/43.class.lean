/-! the class: what stands for a state -/
theorem pNC {a : Nat} (h : a < 57) : Nat.blt a NC = true := Nat.ble_eq_true_of_le h
def pnA (A : AH) (a b : Nat) (p : Pn) : Prop := A a = Ob 2 [.ref b, .int (iI p.1)] ∧ patA A b p
theorem pnA.o {A A' : AH} {a b : Nat} {p : Pn} (h : pnA A a b p) (e1 : A' a = A a) (e2 : A' b = A b) : pnA A' a b p := ⟨e1.trans h.1, h.2.o e2⟩
def shA (A : AH) (q w p0 sz : Nat) (U : Sk) : Prop := ∃ st : Nat, A q = Ob 3 [.ref w, .int (iI st), .int (iI U.1)] ∧ A w = Ra sz (fun j => some (p0 + 2 * j)) ∧ st < sz ∧ U.1 ≤ sz ∧ (∀ j, j < sz → ∃ (x : Int32) (f : Nat → Int32), A (p0 + 2 * j) = Ob 2 [.ref (p0 + 2 * j + 1), .int x] ∧ A (p0 + 2 * j + 1) = Ia 10 f) ∧ ∀ j, j < U.1 → pnA A (p0 + 2 * ((st + j) % sz)) (p0 + 2 * ((st + j) % sz) + 1) (U.2 j)
theorem shA.o {A A' : AH} {q w p0 sz : Nat} {U : Sk} (h : shA A q w p0 sz U) (hw : w = q + 1) (hp : p0 = q + 2) (e : ∀ k, q ≤ k → k ≤ q + 1 + 2 * sz → A' k = A k) : shA A' q w p0 sz U := by
  obtain ⟨st, h1, h2, h3, h4, h5, h6⟩ := h
  refine ⟨st, (e q (by omega) (by omega)).trans h1, (e w (by omega) (by omega)).trans h2, h3, h4, fun j hj => ?_, fun j hj => ?_⟩
  · obtain ⟨x, f, a, b⟩ := h5 j hj
    exact ⟨x, f, (e _ (by omega) (by omega)).trans a, (e _ (by omega) (by omega)).trans b⟩
  · have hm := Nat.mod_lt (st + j) (show 0 < sz by omega)
    exact (h6 j hj).o (e _ (by omega) (by omega)) (e _ (by omega) (by omega))
theorem shA.z {A : AH} {q w p0 sz : Nat} {U : Sk} (h : shA A q w p0 sz U) (hw : w = q + 1) (hp : p0 = q + 2) : ∃ st : Nat, A q = Ob 3 [.ref w, .int (iI st), .int (iI U.1)] ∧ shA (va_up A q (Ob 3 [.ref w, .int (iI st), .int (iI 0)])) q w p0 sz (0, U.2) := by
  obtain ⟨st, h1, h2, h3, h4, h5, h6⟩ := h
  refine ⟨st, h1, st, up_s, up_n (by omega) h2, h3, Nat.zero_le _, fun j hj => ?_, fun j hj => absurd hj (Nat.not_lt_zero j)⟩
  obtain ⟨x, f, a, b⟩ := h5 j hj
  exact ⟨x, f, up_n (by omega) a, up_n (by omega) b⟩
def pushS (sz : Nat) (U : Sk) (p : Pn) : Sk := if U.1 < sz then (U.1 + 1, fun j => if j = U.1 then p else U.2 j) else (sz, fun j => if j = sz - 1 then p else U.2 (j + 1))
section SH
variable {d : Nat} {A : AH}
theorem shA_add {q w p0 sz : Nat} {U : Sk} {p : Pn} {s t : Nat} (h : shA A q w p0 sz U) (hsz : sz = 8 ∨ sz = 2) (hw : w = q + 1) (hp : p0 = q + 2) (hlt : q + 2 + 2 * sz ≤ 57) (hs : pnA A s t p) (hp10 : p.1 ≤ 10) (hst : s < q ∧ t < q) : ∃ A', Rt mX3_add (d + 1) [.ref q, .ref s] A none A' ∧ shA A' q w p0 sz (pushS sz U p) ∧ offE A A' q (q + 1 + 2 * sz) := by
  obtain ⟨st, h1, h2, h3, h4, h5, h6⟩ := h
  obtain ⟨hs1, g, hs2, hs3⟩ := hs
  have hm := Nat.mod_lt (st + U.1) (show 0 < sz by omega)
  obtain ⟨j, hj⟩ : ∃ j, j = (st + U.1) % sz := ⟨_, rfl⟩
  rw [← hj] at hm
  obtain ⟨x, f, c1, c2⟩ := h5 j hm
  have r := r_X3_add (d := d) h1 h2 (pNC (by omega)) (pNC (by omega)) (by omega) h3 h4 hj c1 c2 (pNC (by omega)) (pNC (by omega)) hs1 hs2 (pNC (by omega)) (pNC (by omega)) hp10 (by omega) (by omega)
  refine ⟨_, r, ?_, ((offE.rf.up (by omega)).up (by omega)).up (by omega)⟩
  have k0 : ∀ y : Nat, y < U.1 → (U.1 < sz ∨ 1 ≤ y) → (st + y) % sz ≠ j := by
    intro y hy hy2
    rcases hsz with rfl | rfl <;> omega
  have new : pnA (va_up (va_up (va_up A (p0 + 2 * j) (Ob 2 [.ref (p0 + 2 * j + 1), .int (iI p.1)])) (p0 + 2 * j + 1) (Ia 10 (fun i => if i < p.1 then g i else f i))) q (Ob 3 [.ref w, .int (iI ((if U.1 < sz then st else (st + 1) % sz : Nat) : Int)), .int (iI ((if U.1 < sz then U.1 + 1 else U.1 : Nat) : Int))])) (p0 + 2 * j) (p0 + 2 * j + 1) p :=
    ⟨up_n (by omega) (up_n (by omega) up_s), _, up_n (by omega) up_s, fun i hi => by simp only [if_pos hi]; exact hs3 i hi⟩
  have old : ∀ (y : Nat) (b : va_E), y < sz → y ≠ j → A (p0 + 2 * y) = b → (va_up (va_up (va_up A (p0 + 2 * j) (Ob 2 [.ref (p0 + 2 * j + 1), .int (iI p.1)])) (p0 + 2 * j + 1) (Ia 10 (fun i => if i < p.1 then g i else f i))) q (Ob 3 [.ref w, .int (iI ((if U.1 < sz then st else (st + 1) % sz : Nat) : Int)), .int (iI ((if U.1 < sz then U.1 + 1 else U.1 : Nat) : Int))])) (p0 + 2 * y) = b :=
    fun y b h1 h2 h3 => up_n (by omega) (up_n (by omega) (up_n (by omega) h3))
  have old2 : ∀ (y : Nat) (b : va_E), y < sz → y ≠ j → A (p0 + 2 * y + 1) = b → (va_up (va_up (va_up A (p0 + 2 * j) (Ob 2 [.ref (p0 + 2 * j + 1), .int (iI p.1)])) (p0 + 2 * j + 1) (Ia 10 (fun i => if i < p.1 then g i else f i))) q (Ob 3 [.ref w, .int (iI ((if U.1 < sz then st else (st + 1) % sz : Nat) : Int)), .int (iI ((if U.1 < sz then U.1 + 1 else U.1 : Nat) : Int))])) (p0 + 2 * y + 1) = b :=
    fun y b h1 h2 h3 => up_n (by omega) (up_n (by omega) (up_n (by omega) h3))
  have cells : ∀ y, y < sz → ∃ (x : Int32) (f' : Nat → Int32), (va_up (va_up (va_up A (p0 + 2 * j) (Ob 2 [.ref (p0 + 2 * j + 1), .int (iI p.1)])) (p0 + 2 * j + 1) (Ia 10 (fun i => if i < p.1 then g i else f i))) q (Ob 3 [.ref w, .int (iI ((if U.1 < sz then st else (st + 1) % sz : Nat) : Int)), .int (iI ((if U.1 < sz then U.1 + 1 else U.1 : Nat) : Int))])) (p0 + 2 * y) = Ob 2 [.ref (p0 + 2 * y + 1), .int x] ∧ (va_up (va_up (va_up A (p0 + 2 * j) (Ob 2 [.ref (p0 + 2 * j + 1), .int (iI p.1)])) (p0 + 2 * j + 1) (Ia 10 (fun i => if i < p.1 then g i else f i))) q (Ob 3 [.ref w, .int (iI ((if U.1 < sz then st else (st + 1) % sz : Nat) : Int)), .int (iI ((if U.1 < sz then U.1 + 1 else U.1 : Nat) : Int))])) (p0 + 2 * y + 1) = Ia 10 f' := by
    intro y hy
    by_cases e : y = j
    · subst e; obtain ⟨n1, f', n2, -⟩ := new; exact ⟨_, f', n1, n2⟩
    · obtain ⟨x', f', a, b⟩ := h5 y hy
      exact ⟨x', f', old y _ hy e a, old2 y _ hy e b⟩
  by_cases hu : U.1 < sz
  · have e : pushS sz U p = (U.1 + 1, fun j => if j = U.1 then p else U.2 j) := if_pos hu
    rw [e]
    refine ⟨st, ?_, up_n (by omega) (up_n (by omega) (up_n (by omega) h2)), h3, by show U.1 + 1 ≤ sz; omega, cells, fun y hy => ?_⟩
    · rw [if_pos hu, if_pos hu]; exact up_s
    · have hy' : y < U.1 + 1 := hy
      by_cases ey : y = U.1
      · subst ey
        rw [← hj]
        show pnA _ _ _ (if U.1 = U.1 then p else U.2 U.1)
        rw [if_pos rfl]
        exact new
      · have hmy := Nat.mod_lt (st + y) (show 0 < sz by omega)
        have hk := k0 y (by omega) (Or.inl hu)
        obtain ⟨a, f', b, c⟩ := h6 y (by omega)
        show pnA _ _ _ (if y = U.1 then p else U.2 y)
        rw [if_neg ey]
        exact ⟨old _ _ hmy hk a, f', old2 _ _ hmy hk b, c⟩
  · have e : pushS sz U p = (sz, fun j => if j = sz - 1 then p else U.2 (j + 1)) := if_neg hu
    have hus : U.1 = sz := by omega
    rw [e]
    refine ⟨(st + 1) % sz, ?_, up_n (by omega) (up_n (by omega) (up_n (by omega) h2)), Nat.mod_lt _ (by omega), Nat.le_refl _, cells, fun y hy => ?_⟩
    · rw [if_neg hu, if_neg hu, hus]; exact up_s
    · have hy' : y < sz := hy
      have em : ((st + 1) % sz + y) % sz = (st + (y + 1)) % sz := by rcases hsz with rfl | rfl <;> omega
      rw [em]
      by_cases ey : y = sz - 1
      · have ej : (st + (y + 1)) % sz = j := by rw [hj, hus, ey, show sz - 1 + 1 = sz by omega]
        rw [ej]
        show pnA _ _ _ (if y = sz - 1 then p else U.2 (y + 1))
        rw [if_pos ey]
        exact new
      · have hmy := Nat.mod_lt (st + (y + 1)) (show 0 < sz by omega)
        have hk := k0 (y + 1) (by omega) (Or.inr (by omega))
        obtain ⟨a, f', b, c⟩ := h6 (y + 1) (by omega)
        show pnA _ _ _ (if y = sz - 1 then p else U.2 (y + 1))
        rw [if_neg ey]
        exact ⟨old _ _ hmy hk a, f', old2 _ _ hmy hk b, c⟩
theorem shA_take {q w p0 sz : Nat} {U : Sk} {s t : Nat} {x : Int32} {f : Nat → Int32} (h : shA A q w p0 sz U) (hsz : sz = 8 ∨ sz = 2) (hw : w = q + 1) (hp : p0 = q + 2) (hlt : q + 2 + 2 * sz ≤ 57) (hu : 1 ≤ U.1) (hs : A s = Ob 2 [.ref t, .int x]) (ht : A t = Ia 10 f) (hp10 : (U.2 (U.1 - 1)).1 ≤ 10) (hst : s < q ∧ t < q) (hne : s ≠ t) : ∃ A', Rt mX3_takeLast (d + 1) [.ref q, .ref s] A none A' ∧ shA A' q w p0 sz (popU U) ∧ pnA A' s t (U.2 (U.1 - 1)) ∧ ∀ k, k ≠ q → k ≠ s → k ≠ t → A' k = A k := by
  obtain ⟨st, h1, h2, h3, h4, h5, h6⟩ := h
  have hm := Nat.mod_lt (st + (U.1 - 1)) (show 0 < sz by omega)
  obtain ⟨j, hj⟩ : ∃ j, j = (st + (U.1 - 1)) % sz := ⟨_, rfl⟩
  obtain ⟨c1, g, c2, c3⟩ := h6 (U.1 - 1) (by omega)
  rw [← hj] at hm c1 c2
  have r := r_X3_takeLast (d := d) h1 h2 (pNC (by omega)) (pNC (by omega)) (by omega) h3 h4 hu hj c1 c2 (pNC (by omega)) (pNC (by omega)) hs ht (pNC (by omega)) (pNC (by omega)) hp10 (by omega) (by omega)
  refine ⟨_, r, ⟨st, up_n (by omega) (up_n (by omega) up_s), up_n (by omega) (up_n (by omega) (up_n (by omega) h2)), h3, by show U.1 - 1 ≤ sz; omega, fun y hy => ?_, fun y hy => ?_⟩, ⟨up_n (by omega) up_s, _, up_s, fun i hi => by simp only [if_pos hi]; exact c3 i hi⟩, fun k k1 k2 k3 => (up_o k3).trans ((up_o k2).trans (up_o k1))⟩
  · obtain ⟨x', f', a, b⟩ := h5 y hy
    exact ⟨x', f', up_n (by omega) (up_n (by omega) (up_n (by omega) a)), up_n (by omega) (up_n (by omega) (up_n (by omega) b))⟩
  · have hy' : y < U.1 - 1 := hy
    have hmy := Nat.mod_lt (st + y) (show 0 < sz by omega)
    obtain ⟨a, f', b, c⟩ := h6 y (by omega)
    exact ⟨up_n (by omega) (up_n (by omega) (up_n (by omega) a)), f', up_n (by omega) (up_n (by omega) (up_n (by omega) b)), c⟩
end SH
def trA7 (A : AH) : Prop := ∃ (x : Int32) (f : Nat → Int32), A 7 = Ob 2 [.ref 8, .int x] ∧ A 8 = Ia 10 f
def psA (A : AH) : Prop := ∃ (x : Int32) (a0 q0 r0 : Nat → Int32), A 35 = Ob 1 [.ref 36, .ref 37, .int x, .ref 38] ∧ A 36 = Ia 512 a0 ∧ A 37 = Ia 512 q0 ∧ A 38 = Ia 512 r0
def RepX (σ : SS) (A : AH) : Prop := A 0 = Ob 6 [.ref 1, .ref 3, .ref 5, .ref 7, .ref 9, .ref 27, .ref 33, .ref 35, .ref 39] ∧ (A 1 = Ob 5 [.ref 2, .int (iI σ.1.1)] ∧ txtA A 2 σ.1) ∧ pnA A 3 4 σ.2.1 ∧ pnA A 5 6 σ.2.2.1 ∧ trA7 A ∧ shA A 9 10 11 8 σ.2.2.2.1 ∧ shA A 27 28 29 2 σ.2.2.2.2 ∧ cenOK A 33 34 ∧ psA A ∧ Sw0 A
theorem cenOK.o {A A' : AH} (h : cenOK A 33 34) (e1 : A' 33 = A 33) (e2 : A' 34 = A 34) : cenOK A' 33 34 := by
  obtain ⟨L, T, f, a, b, c⟩ := h
  exact ⟨L, T, f, e1.trans a, e2.trans b, c⟩
theorem psA.o {A A' : AH} (h : psA A) (e : ∀ k, 35 ≤ k → k ≤ 38 → A' k = A k) : psA A' := by
  obtain ⟨x, a0, q0, r0, a, b, c, z⟩ := h
  exact ⟨x, a0, q0, r0, (e _ (by omega) (by omega)).trans a, (e _ (by omega) (by omega)).trans b, (e _ (by omega) (by omega)).trans c, (e _ (by omega) (by omega)).trans z⟩
theorem Sw0.o {A A' : AH} (h : Sw0 A) (e : ∀ k, 39 ≤ k → k ≤ 42 → A' k = A k) : Sw0 A' := by
  obtain ⟨x, qf, df, g, a, b, c, z, y⟩ := h
  exact ⟨x, qf, df, g, (e _ (by omega) (by omega)).trans a, (e _ (by omega) (by omega)).trans b, (e _ (by omega) (by omega)).trans c, (e _ (by omega) (by omega)).trans z, y⟩
theorem trA7.o {A A' : AH} (h : trA7 A) (e1 : A' 7 = A 7) (e2 : A' 8 = A 8) : trA7 A' := by
  obtain ⟨x, f, a, b⟩ := h
  exact ⟨x, f, e1.trans a, e2.trans b⟩
theorem RepX.o {σ : SS} {A A' : AH} (h : RepX σ A) (e : ∀ k, 0 ≤ k → k ≤ 42 → A' k = A k) : RepX σ A' :=
  ⟨(e _ (by omega) (by omega)).trans h.1, ⟨(e _ (by omega) (by omega)).trans h.2.1.1, h.2.1.2.o (e _ (by omega) (by omega))⟩, h.2.2.1.o (e _ (by omega) (by omega)) (e _ (by omega) (by omega)), h.2.2.2.1.o (e _ (by omega) (by omega)) (e _ (by omega) (by omega)), h.2.2.2.2.1.o (e _ (by omega) (by omega)) (e _ (by omega) (by omega)), h.2.2.2.2.2.1.o rfl rfl (fun k h1 h2 => e k (by omega) (by omega)), h.2.2.2.2.2.2.1.o rfl rfl (fun k h1 h2 => e k (by omega) (by omega)), h.2.2.2.2.2.2.2.1.o (e _ (by omega) (by omega)) (e _ (by omega) (by omega)), h.2.2.2.2.2.2.2.2.1.o (fun k h1 h2 => e k (by omega) (by omega)), h.2.2.2.2.2.2.2.2.2.o (fun k h1 h2 => e k (by omega) (by omega))⟩
/-- the rest, where cells 33 on are as they were -/
theorem RepX.set {σ σ' : SS} {A A' : AH} (h : RepX σ A) (e0 : A' 0 = A 0) (t : A' 1 = Ob 5 [.ref 2, .int (iI σ'.1.1)] ∧ txtA A' 2 σ'.1) (p : pnA A' 3 4 σ'.2.1) (q : pnA A' 5 6 σ'.2.2.1) (r : trA7 A') (u : shA A' 9 10 11 8 σ'.2.2.2.1) (k : shA A' 27 28 29 2 σ'.2.2.2.2) (e : ∀ k, 33 ≤ k → k ≤ 42 → A' k = A k) : RepX σ' A' :=
  ⟨e0.trans h.1, t, p, q, r, u, k, h.2.2.2.2.2.2.2.1.o (e _ (by omega) (by omega)) (e _ (by omega) (by omega)), h.2.2.2.2.2.2.2.2.1.o (fun k h1 h2 => e k (by omega) (by omega)), h.2.2.2.2.2.2.2.2.2.o (fun k h1 h2 => e k (by omega) (by omega))⟩
theorem RepX.trial {σ : SS} {A : AH} (h : RepX σ A) (x : Int32) (f : Nat → Int32) : RepX σ (va_up (va_up A 7 (Ob 2 [.ref 8, .int x])) 8 (Ia 10 f)) :=
  h.set ((up_o (by omega)).trans (up_o (by omega))) ⟨(up_n (by omega) (up_n (by omega) h.2.1.1)), h.2.1.2.o ((up_o (by omega)).trans (up_o (by omega)))⟩ (h.2.2.1.o ((up_o (by omega)).trans (up_o (by omega))) ((up_o (by omega)).trans (up_o (by omega)))) (h.2.2.2.1.o ((up_o (by omega)).trans (up_o (by omega))) ((up_o (by omega)).trans (up_o (by omega)))) ⟨x, f, up_n (by omega) up_s, up_s⟩ (h.2.2.2.2.2.1.o rfl rfl (by intro k _ _; repeat (first | rfl | refine (up_o (by omega)).trans ?_))) (h.2.2.2.2.2.2.1.o rfl rfl (by intro k _ _; repeat (first | rfl | refine (up_o (by omega)).trans ?_))) (by intro k _ _; repeat (first | rfl | refine (up_o (by omega)).trans ?_))
theorem RepX.cen {σ : SS} {A : AH} {p m : Nat} {g : Nat → Int32} (h : RepX σ A) (hp : p ≤ 8) (hm : m ≤ 9) (hg : tabOKf p m g) : RepX σ (va_up (va_up A 33 (Ob 0 [.ref 34, .int (iI p), .int (iI m)])) 34 (Ia 1792 g)) :=
  ⟨up_n (by omega) (up_n (by omega) h.1), ⟨(up_n (by omega) (up_n (by omega) h.2.1.1)), h.2.1.2.o ((up_o (by omega)).trans (up_o (by omega)))⟩, h.2.2.1.o ((up_o (by omega)).trans (up_o (by omega))) ((up_o (by omega)).trans (up_o (by omega))), h.2.2.2.1.o ((up_o (by omega)).trans (up_o (by omega))) ((up_o (by omega)).trans (up_o (by omega))), h.2.2.2.2.1.o ((up_o (by omega)).trans (up_o (by omega))) ((up_o (by omega)).trans (up_o (by omega))), h.2.2.2.2.2.1.o rfl rfl (by intro k _ _; repeat (first | rfl | refine (up_o (by omega)).trans ?_)), h.2.2.2.2.2.2.1.o rfl rfl (by intro k _ _; repeat (first | rfl | refine (up_o (by omega)).trans ?_)), ⟨p, m, g, up_n (by omega) up_s, up_s, hp, hm, Or.inr hg⟩, h.2.2.2.2.2.2.2.2.1.o (by intro k _ _; repeat (first | rfl | refine (up_o (by omega)).trans ?_)), h.2.2.2.2.2.2.2.2.2.o (by intro k _ _; repeat (first | rfl | refine (up_o (by omega)).trans ?_))⟩
theorem RepM.of {σ : SS} {A A' : AH} (h : RepM σ A) (e : offE A A' 0 42) : RepM σ A' := by
  have e' : ∀ k, 43 ≤ k → A' k = A k := fun k hk => e k (by omega)
  exact ⟨(e' _ (by omega)).trans h.1, h.2.1.o (e' _ (by omega)), h.2.2.1.o (e' _ (by omega)), h.2.2.2.1.o (e' _ (by omega)), h.2.2.2.2.1.o (e' _ (by omega)), h.2.2.2.2.2.1.o (e' _ (by omega)), h.2.2.2.2.2.2.o (fun k h1 h2 => e' _ (by omega))⟩
theorem RepX.of {σ : SS} {A A' : AH} (h : RepX σ A) (e : offE A A' 43 56) : RepX σ A' := h.o (fun k _ h2 => e k (by omega))
theorem offE.w {A A' : AH} {lo hi lo' hi' : Nat} (h : offE A A' lo hi) (h1 : lo' ≤ lo) (h2 : hi ≤ hi') : offE A A' lo' hi' := fun k hk => h k (by omega)
section XA
variable {d : Nat} {A : AH} {σ : SS}
theorem x_chosen0 (hX : RepX σ A) : Rt mX6_chosen d [.ref 0, .int (iI 0)] A (some (.ref 3)) A := by
  have h0 := hX.1
  refine rt_intro kX6_chosen rfl rfl trivial ?_
  refine gr_run (pc' := 1) 1 rfl ?_
  refine gr_ifF (t := 11) rfl (by decide) (by omega) (cN_ne (by omega)) ?_
  refine gr_run (pc' := 5) 1 rfl ?_
  refine gr_getf rfl rfl (by repeat (first | exact up_s | assumption | refine up_n (by first | assumption | decide | omega) ?_)) (by first | assumption | rfl) rfl ?_
  refine gr_run (pc' := 15) 1 rfl ?_
  exact gr_ret rfl rfl
theorem x_chosen1 (hX : RepX σ A) : Rt mX6_chosen d [.ref 0, .int (iI 1)] A (some (.ref 5)) A := by
  have h0 := hX.1
  refine rt_intro kX6_chosen rfl rfl trivial ?_
  refine gr_run (pc' := 1) 1 rfl ?_
  refine gr_ifT (t := 11) rfl (by decide) (by omega) (cI_ne (by omega)) ?_
  refine gr_run (pc' := 12) 1 rfl ?_
  refine gr_getf rfl rfl (by repeat (first | exact up_s | assumption | refine up_n (by first | assumption | decide | omega) ?_)) (by first | assumption | rfl) rfl ?_
  exact gr_ret rfl rfl
theorem x_wipe (hX : RepX σ A) : ∃ A', Rt mX6_wipe (d + 1) [.ref 0] A (some (.int (iI σ.1.1))) A' ∧ RepX ((0, σ.1.2), σ.2) A' ∧ offE A A' 0 42 := by
  have h0 := hX.1
  have h1 := hX.2.1.1
  refine ⟨va_up A 1 (Ob 5 [.ref 2, .int (iI 0)]), ?_, ?_, offE.rf.up (by omega)⟩
  · refine rt_intro kX6_wipe rfl rfl rfl ?_
    refine gr_run (pc' := 1) 1 rfl ?_
    refine gr_getf rfl rfl (by repeat (first | exact up_s | assumption | refine up_n (by first | assumption | decide | omega) ?_)) (by first | assumption | rfl) rfl ?_
    refine gr_callV (As := []) lk_6_62 rfl rfl (r_X5_length h1 rfl) (by repeat (first | exact up_s | assumption | refine up_n (by first | assumption | decide | omega) ?_)) (by first | assumption | exact Nat.le_of_ble_eq_true rfl | exact Nat.le_of_ble_eq_true (by assumption)) rfl rfl rfl rfl rfl ?_
    refine gr_run (pc' := 9) 2 rfl ?_
    refine gr_getf rfl rfl (by repeat (first | exact up_s | assumption | refine up_n (by first | assumption | decide | omega) ?_)) (by first | assumption | rfl) rfl ?_
    refine gr_callV (As := []) lk_6_69 rfl rfl (r_X5_clear h1 rfl) (by repeat (first | exact up_s | assumption | refine up_n (by first | assumption | decide | omega) ?_)) (by first | assumption | exact Nat.le_of_ble_eq_true rfl | exact Nat.le_of_ble_eq_true (by assumption)) rfl rfl rfl rfl rfl ?_
    refine gr_run (pc' := 16) 1 rfl ?_
    exact gr_ret rfl rfl
  · refine hX.set (up_o (by omega)) ⟨up_s, ?_⟩ (hX.2.2.1.o (up_o (by omega)) (up_o (by omega))) (hX.2.2.2.1.o (up_o (by omega)) (up_o (by omega))) (hX.2.2.2.2.1.o (up_o (by omega)) (up_o (by omega))) (hX.2.2.2.2.2.1.o rfl rfl (by intro k _ _; repeat (first | rfl | refine (up_o (by omega)).trans ?_))) (hX.2.2.2.2.2.2.1.o rfl rfl (by intro k _ _; repeat (first | rfl | refine (up_o (by omega)).trans ?_))) (by intro k _ _; repeat (first | rfl | refine (up_o (by omega)).trans ?_))
    obtain ⟨f, a, b⟩ := hX.2.1.2
    exact ⟨f, up_n (by omega) a, fun i hi => absurd hi (Nat.not_lt_zero i)⟩
theorem x_fault (hX : RepX σ A) (ho : okX σ.1) : Rt mX6_fault (d + 1) [.ref 0] A (some (.int (iI (flt σ.1.1 σ.1.2)))) A := by
  have h0 := hX.1
  obtain ⟨h1, f, h2, h3⟩ := hX.2.1
  refine rt_intro kX6_fault rfl rfl rfl ?_
  refine gr_run (pc' := 1) 1 rfl ?_
  refine gr_getf rfl rfl (by repeat (first | exact up_s | assumption | refine up_n (by first | assumption | decide | omega) ?_)) (by first | assumption | rfl) rfl ?_
  refine gr_callV (As := []) lk_6_72 rfl rfl (r_X5_firstFault h1 h2 rfl rfl ho.1 h3 ho.2) (by repeat (first | exact up_s | assumption | refine up_n (by first | assumption | decide | omega) ?_)) (by first | assumption | exact Nat.le_of_ble_eq_true rfl | exact Nat.le_of_ble_eq_true (by assumption)) rfl rfl rfl rfl rfl ?_
  exact gr_ret rfl rfl
theorem txt_row {t : Pn} {g : Nat → Int32} (h : flt t.1 t.2 = -4) : ∀ i, i < t.1 → (if i < t.1 then iI ((t.2 i : Int) - 48) else g i) = iI (txH t i) := by
  intro i hi
  have := (flt_none h).2 i hi
  rw [if_pos hi]
  unfold txH
  rw [show ((t.2 i - 48 : Nat) : Int) = (t.2 i : Int) - 48 by omega]
theorem x_clash (hX : RepX σ A) (ho : okX σ.1) : ∃ A', Rt mX6_clash (d + 4) [.ref 0] A (some (.int (iI (clR σ.1)))) A' ∧ RepX σ A' ∧ offE A A' 0 42 := by
  have h0 := hX.1
  obtain ⟨h1, f, h2, h3⟩ := hX.2.1
  obtain ⟨x, g, h7, h8⟩ := hX.2.2.2.2.1
  have hbd := flt_bd ho
  unfold clR
  by_cases hf : flt σ.1.1 σ.1.2 = -4
  · rw [if_pos hf]
    have hn := (flt_none hf).1
    refine ⟨_, ?_, hX.trial (iI σ.1.1) (fun i => if i < σ.1.1 then iI ((σ.1.2 i : Int) - 48) else g i), (offE.rf.up (by omega)).up (by omega)⟩
    refine rt_intro kX6_clash rfl rfl rfl ?_
    refine gr_run (pc' := 1) 1 rfl ?_
    refine gr_getf rfl rfl (by repeat (first | exact up_s | assumption | refine up_n (by first | assumption | decide | omega) ?_)) (by first | assumption | rfl) rfl ?_
    refine gr_callV (As := []) lk_6_72 rfl rfl (r_X5_firstFault h1 h2 rfl rfl ho.1 h3 ho.2) (by repeat (first | exact up_s | assumption | refine up_n (by first | assumption | decide | omega) ?_)) (by first | assumption | exact Nat.le_of_ble_eq_true rfl | exact Nat.le_of_ble_eq_true (by assumption)) rfl rfl rfl rfl rfl ?_
    rw [hf]
    refine gr_run (pc' := 9) 1 rfl ?_
    refine gr_icT (t := 15) rfl (by decide) (by omega) (by omega) (cI_eq (by omega)) ?_
    refine gr_run (pc' := 16) 1 rfl ?_
    refine gr_getf rfl rfl (by repeat (first | exact up_s | assumption | refine up_n (by first | assumption | decide | omega) ?_)) (by first | assumption | rfl) rfl ?_
    refine gr_run (pc' := 20) 1 rfl ?_
    refine gr_getf rfl rfl (by repeat (first | exact up_s | assumption | refine up_n (by first | assumption | decide | omega) ?_)) (by first | assumption | rfl) rfl ?_
    refine gr_callV (As := [_]) lk_6_75 rfl rfl (r_X5_copyInto h1 h2 rfl rfl hn h3 h7 h8 rfl rfl (by decide)) (by repeat (first | exact up_s | assumption | refine up_n (by first | assumption | decide | omega) ?_)) (by first | assumption | exact Nat.le_of_ble_eq_true rfl | exact Nat.le_of_ble_eq_true (by assumption)) rfl rfl rfl rfl rfl ?_
    refine gr_run (pc' := 27) 1 rfl ?_
    refine gr_getf rfl rfl (by repeat (first | exact up_s | assumption | refine up_n (by first | assumption | decide | omega) ?_)) (by first | assumption | rfl) rfl ?_
    refine gr_callV (As := []) lk_6_79 rfl rfl (r_X2_firstClash (up_n (by decide) up_s) up_s rfl rfl (txH_ok hf) (txt_row hf)) (by repeat (first | exact up_s | assumption | refine up_n (by first | assumption | decide | omega) ?_)) (by first | assumption | exact Nat.le_of_ble_eq_true rfl | exact Nat.le_of_ble_eq_true (by assumption)) rfl rfl rfl rfl rfl ?_
    exact gr_ret rfl rfl
  · rw [if_neg hf]
    refine ⟨A, ?_, hX, offE.rf⟩
    refine rt_intro kX6_clash rfl rfl rfl ?_
    refine gr_run (pc' := 1) 1 rfl ?_
    refine gr_getf rfl rfl (by repeat (first | exact up_s | assumption | refine up_n (by first | assumption | decide | omega) ?_)) (by first | assumption | rfl) rfl ?_
    refine gr_callV (As := []) lk_6_72 rfl rfl (r_X5_firstFault h1 h2 rfl rfl ho.1 h3 ho.2) (by repeat (first | exact up_s | assumption | refine up_n (by first | assumption | decide | omega) ?_)) (by first | assumption | exact Nat.le_of_ble_eq_true rfl | exact Nat.le_of_ble_eq_true (by assumption)) rfl rfl rfl rfl rfl ?_
    refine gr_run (pc' := 9) 1 rfl ?_
    refine gr_icF (t := 15) rfl (by decide) (by omega) (by omega) (cN_eq (by omega)) ?_
    refine gr_run (pc' := 14) 1 rfl ?_
    exact gr_ret rfl rfl
theorem x_layB {z : Int} (hz : bd z) (hn : z ≠ 0 ∧ z ≠ 1) : Rt mX6_lay (d + 1) [.ref 0, .int (iI z)] A (some (.int (iI (-1)))) A := by
  refine rt_intro kX6_lay rfl rfl rfl ?_
  refine gr_run (pc' := 1) 1 rfl ?_
  refine gr_callS (As := [_]) lk_6_82 rfl rfl (r_isWhichF hz hn) rfl rfl rfl ?_
  refine gr_ifF (t := 9) rfl (by decide) (by omega) (cN_ne (by omega)) ?_
  refine gr_run (pc' := 8) 1 rfl ?_
  exact gr_ret rfl rfl
theorem x_layN {z : Int} (hX : RepX σ A) (ho : okX σ.1) (hz : z = 0 ∨ z = 1) (hl : ¬ layOK σ.1) : ∃ A', Rt mX6_lay (d + 4) [.ref 0, .int (iI z)] A (some (.int (iI (-2)))) A' ∧ RepX σ A' ∧ offE A A' 0 42 := by
  have h0 := hX.1
  obtain ⟨h1, f, h2, h3⟩ := hX.2.1
  obtain ⟨x, g, h7, h8⟩ := hX.2.2.2.2.1
  have hbd := flt_bd ho
  by_cases hf : flt σ.1.1 σ.1.2 = -4
  · have hn := (flt_none hf).1
    have hc : clF σ.1.1 (txH σ.1) σ.1.1 0 ≠ -4 := fun q => hl ⟨hf, q⟩
    have hcb := clF_bd (n := σ.1.1) (h := txH σ.1) (m := σ.1.1) (i := 0)
    refine ⟨_, ?_, hX.trial (iI σ.1.1) (fun i => if i < σ.1.1 then iI ((σ.1.2 i : Int) - 48) else g i), (offE.rf.up (by omega)).up (by omega)⟩
    refine rt_intro kX6_lay rfl rfl rfl ?_
    refine gr_run (pc' := 1) 1 rfl ?_
    refine gr_callS (As := [_]) lk_6_82 rfl rfl (r_isWhichT hz) rfl rfl rfl ?_
    refine gr_ifT (t := 9) rfl (by decide) (by omega) (cI_ne (by omega)) ?_
    refine gr_run (pc' := 10) 1 rfl ?_
    refine gr_getf rfl rfl (by repeat (first | exact up_s | assumption | refine up_n (by first | assumption | decide | omega) ?_)) (by first | assumption | rfl) rfl ?_
    refine gr_callV (As := []) lk_6_72 rfl rfl (r_X5_firstFault h1 h2 rfl rfl ho.1 h3 ho.2) (by repeat (first | exact up_s | assumption | refine up_n (by first | assumption | decide | omega) ?_)) (by first | assumption | exact Nat.le_of_ble_eq_true rfl | exact Nat.le_of_ble_eq_true (by assumption)) rfl rfl rfl rfl rfl ?_
    rw [hf]
    refine gr_run (pc' := 18) 1 rfl ?_
    refine gr_icT (t := 24) rfl (by decide) (by omega) (by omega) (cI_eq (by omega)) ?_
    refine gr_run (pc' := 25) 1 rfl ?_
    refine gr_getf rfl rfl (by repeat (first | exact up_s | assumption | refine up_n (by first | assumption | decide | omega) ?_)) (by first | assumption | rfl) rfl ?_
    refine gr_run (pc' := 29) 1 rfl ?_
    refine gr_getf rfl rfl (by repeat (first | exact up_s | assumption | refine up_n (by first | assumption | decide | omega) ?_)) (by first | assumption | rfl) rfl ?_
    refine gr_callV (As := [_]) lk_6_75 rfl rfl (r_X5_copyInto h1 h2 rfl rfl hn h3 h7 h8 rfl rfl (by decide)) (by repeat (first | exact up_s | assumption | refine up_n (by first | assumption | decide | omega) ?_)) (by first | assumption | exact Nat.le_of_ble_eq_true rfl | exact Nat.le_of_ble_eq_true (by assumption)) rfl rfl rfl rfl rfl ?_
    refine gr_run (pc' := 36) 1 rfl ?_
    refine gr_getf rfl rfl (by repeat (first | exact up_s | assumption | refine up_n (by first | assumption | decide | omega) ?_)) (by first | assumption | rfl) rfl ?_
    refine gr_callV (As := []) lk_6_79 rfl rfl (r_X2_firstClash (up_n (by decide) up_s) up_s rfl rfl (txH_ok hf) (txt_row hf)) (by repeat (first | exact up_s | assumption | refine up_n (by first | assumption | decide | omega) ?_)) (by first | assumption | exact Nat.le_of_ble_eq_true rfl | exact Nat.le_of_ble_eq_true (by assumption)) rfl rfl rfl rfl rfl ?_
    refine gr_run (pc' := 44) 1 rfl ?_
    refine gr_icF (t := 50) rfl (by decide) (by omega) (by omega) (cN_eq (by omega)) ?_
    refine gr_run (pc' := 49) 1 rfl ?_
    exact gr_ret rfl rfl
  · refine ⟨A, ?_, hX, offE.rf⟩
    refine rt_intro kX6_lay rfl rfl rfl ?_
    refine gr_run (pc' := 1) 1 rfl ?_
    refine gr_callS (As := [_]) lk_6_82 rfl rfl (r_isWhichT hz) rfl rfl rfl ?_
    refine gr_ifT (t := 9) rfl (by decide) (by omega) (cI_ne (by omega)) ?_
    refine gr_run (pc' := 10) 1 rfl ?_
    refine gr_getf rfl rfl (by repeat (first | exact up_s | assumption | refine up_n (by first | assumption | decide | omega) ?_)) (by first | assumption | rfl) rfl ?_
    refine gr_callV (As := []) lk_6_72 rfl rfl (r_X5_firstFault h1 h2 rfl rfl ho.1 h3 ho.2) (by repeat (first | exact up_s | assumption | refine up_n (by first | assumption | decide | omega) ?_)) (by first | assumption | exact Nat.le_of_ble_eq_true rfl | exact Nat.le_of_ble_eq_true (by assumption)) rfl rfl rfl rfl rfl ?_
    refine gr_run (pc' := 18) 1 rfl ?_
    refine gr_icF (t := 24) rfl (by decide) (by omega) (by omega) (cN_eq (by omega)) ?_
    refine gr_run (pc' := 23) 1 rfl ?_
    exact gr_ret rfl rfl
theorem x_lay0 (hX : RepX σ A) (ho : okX σ.1) (hl : layOK σ.1) : ∃ A', Rt mX6_lay (d + 4) [.ref 0, .int (iI 0)] A (some (.int (iI σ.1.1))) A' ∧ RepX (σ.1, (σ.1.1, txH σ.1), σ.2.2.1, (0, σ.2.2.2.1.2), σ.2.2.2.2) A' ∧ offE A A' 0 42 := by
  have h0 := hX.1
  obtain ⟨h1, f, h2, h3⟩ := hX.2.1
  obtain ⟨x, g, h7, h8⟩ := hX.2.2.2.2.1
  obtain ⟨p1, pf, p2, p3⟩ := hX.2.2.1
  have hn := (flt_none hl.1).1
  have hX1 := hX.trial (iI σ.1.1) (fun i => if i < σ.1.1 then iI ((σ.1.2 i : Int) - 48) else g i)
  obtain ⟨st, s1, s2⟩ := hX1.2.2.2.2.2.1.z rfl rfl
  have s0 : A 9 = Ob 3 [.ref 10, .int (iI st), .int (iI σ.2.2.2.1.1)] := by
    rw [← s1]; exact ((up_o (by omega)).trans (up_o (by omega))).symm
  refine ⟨va_up (va_up (va_up (va_up (va_up A 7 (Ob 2 [.ref 8, .int (iI σ.1.1)])) 8 (Ia 10 (fun i => if i < σ.1.1 then iI ((σ.1.2 i : Int) - 48) else g i))) 3 (Ob 2 [.ref 4, .int (iI σ.1.1)])) 4 (Ia 10 (fun i => if i < σ.1.1 then (if i < σ.1.1 then iI ((σ.1.2 i : Int) - 48) else g i) else pf i))) 9 (Ob 3 [.ref 10, .int (iI st), .int (iI 0)]), ?_, ?_, ((((offE.rf.up (by omega)).up (by omega)).up (by omega)).up (by omega)).up (by omega)⟩
  · refine rt_intro kX6_lay rfl rfl rfl ?_
    refine gr_run (pc' := 1) 1 rfl ?_
    refine gr_callS (As := [_]) lk_6_82 rfl rfl (r_isWhichT (by omega)) rfl rfl rfl ?_
    refine gr_ifT (t := 9) rfl (by decide) (by omega) (cI_ne (by omega)) ?_
    refine gr_run (pc' := 10) 1 rfl ?_
    refine gr_getf rfl rfl (by repeat (first | exact up_s | assumption | refine up_n (by first | assumption | decide | omega) ?_)) (by first | assumption | rfl) rfl ?_
    refine gr_callV (As := []) lk_6_72 rfl rfl (r_X5_firstFault h1 h2 rfl rfl ho.1 h3 ho.2) (by repeat (first | exact up_s | assumption | refine up_n (by first | assumption | decide | omega) ?_)) (by first | assumption | exact Nat.le_of_ble_eq_true rfl | exact Nat.le_of_ble_eq_true (by assumption)) rfl rfl rfl rfl rfl ?_
    rw [hl.1]
    refine gr_run (pc' := 18) 1 rfl ?_
    refine gr_icT (t := 24) rfl (by decide) (by omega) (by omega) (cI_eq (by omega)) ?_
    refine gr_run (pc' := 25) 1 rfl ?_
    refine gr_getf rfl rfl (by repeat (first | exact up_s | assumption | refine up_n (by first | assumption | decide | omega) ?_)) (by first | assumption | rfl) rfl ?_
    refine gr_run (pc' := 29) 1 rfl ?_
    refine gr_getf rfl rfl (by repeat (first | exact up_s | assumption | refine up_n (by first | assumption | decide | omega) ?_)) (by first | assumption | rfl) rfl ?_
    refine gr_callV (As := [_]) lk_6_75 rfl rfl (r_X5_copyInto h1 h2 rfl rfl hn h3 h7 h8 rfl rfl (by decide)) (by repeat (first | exact up_s | assumption | refine up_n (by first | assumption | decide | omega) ?_)) (by first | assumption | exact Nat.le_of_ble_eq_true rfl | exact Nat.le_of_ble_eq_true (by assumption)) rfl rfl rfl rfl rfl ?_
    refine gr_run (pc' := 36) 1 rfl ?_
    refine gr_getf rfl rfl (by repeat (first | exact up_s | assumption | refine up_n (by first | assumption | decide | omega) ?_)) (by first | assumption | rfl) rfl ?_
    refine gr_callV (As := []) lk_6_79 rfl rfl (r_X2_firstClash (up_n (by decide) up_s) up_s rfl rfl (txH_ok hl.1) (txt_row hl.1)) (by repeat (first | exact up_s | assumption | refine up_n (by first | assumption | decide | omega) ?_)) (by first | assumption | exact Nat.le_of_ble_eq_true rfl | exact Nat.le_of_ble_eq_true (by assumption)) rfl rfl rfl rfl rfl ?_
    rw [hl.2]
    refine gr_run (pc' := 44) 1 rfl ?_
    refine gr_icT (t := 50) rfl (by decide) (by omega) (by omega) (cI_eq (by omega)) ?_
    refine gr_run (pc' := 52) 2 rfl ?_
    refine gr_callV (As := [_]) lk_6_86 rfl rfl (x_chosen0 hX1) (by repeat (first | exact up_s | assumption | refine up_n (by first | assumption | decide | omega) ?_)) (by first | assumption | exact Nat.le_of_ble_eq_true rfl | exact Nat.le_of_ble_eq_true (by assumption)) rfl rfl rfl rfl rfl ?_
    refine gr_run (pc' := 56) 1 rfl ?_
    refine gr_getf rfl rfl (by repeat (first | exact up_s | assumption | refine up_n (by first | assumption | decide | omega) ?_)) (by first | assumption | rfl) rfl ?_
    refine gr_callV (As := [_]) lk_6_90 rfl rfl (r_X2_copy (up_n (by decide) (up_n (by decide) p1)) (up_n (by decide) (up_n (by decide) p2)) (up_n (by decide) up_s) up_s rfl rfl rfl rfl hn.2 (by decide) (by decide)) (by repeat (first | exact up_s | assumption | refine up_n (by first | assumption | decide | omega) ?_)) (by first | assumption | exact Nat.le_of_ble_eq_true rfl | exact Nat.le_of_ble_eq_true (by assumption)) rfl rfl rfl rfl rfl ?_
    refine gr_run (pc' := 63) 1 rfl ?_
    refine gr_ifF (t := 73) rfl (by decide) (by omega) (cN_ne (by omega)) ?_
    refine gr_run (pc' := 67) 1 rfl ?_
    refine gr_getf rfl rfl (by repeat (first | exact up_s | assumption | refine up_n (by first | assumption | decide | omega) ?_)) (by first | assumption | rfl) rfl ?_
    refine gr_callV (As := []) lk_6_93 rfl rfl (r_X3_clear (up_n (by decide) (up_n (by decide) s1)) rfl) (by repeat (first | exact up_s | assumption | refine up_n (by first | assumption | decide | omega) ?_)) (by first | assumption | exact Nat.le_of_ble_eq_true rfl | exact Nat.le_of_ble_eq_true (by assumption)) rfl rfl rfl rfl rfl ?_
    refine gr_run (pc' := 74) 1 rfl ?_
    refine gr_getf rfl rfl (by repeat (first | exact up_s | assumption | refine up_n (by first | assumption | decide | omega) ?_)) (by first | assumption | rfl) rfl ?_
    refine gr_callV (As := []) lk_6_94 rfl rfl (r_X2_length (up_n (by decide) (up_n (by decide) (up_n (by decide) (up_n (by decide) up_s)))) rfl) (by repeat (first | exact up_s | assumption | refine up_n (by first | assumption | decide | omega) ?_)) (by first | assumption | exact Nat.le_of_ble_eq_true rfl | exact Nat.le_of_ble_eq_true (by assumption)) rfl rfl rfl rfl rfl ?_
    exact gr_ret rfl rfl
  · refine hX1.set ((up_o (by omega)).trans ((up_o (by omega)).trans (up_o (by omega)))) ⟨up_n (by omega) (up_n (by omega) (up_n (by omega) hX1.2.1.1)), hX1.2.1.2.o ((up_o (by omega)).trans ((up_o (by omega)).trans (up_o (by omega))))⟩ ⟨up_n (by omega) (up_n (by omega) up_s), _, up_n (by omega) up_s, fun i hi => by have hi' : i < σ.1.1 := hi; simp only [if_pos hi']; have := txt_row (g := g) hl.1 i hi'; rw [if_pos hi'] at this; exact this⟩ (hX1.2.2.2.1.o ((up_o (by omega)).trans ((up_o (by omega)).trans (up_o (by omega)))) ((up_o (by omega)).trans ((up_o (by omega)).trans (up_o (by omega))))) (hX1.2.2.2.2.1.o ((up_o (by omega)).trans ((up_o (by omega)).trans (up_o (by omega)))) ((up_o (by omega)).trans ((up_o (by omega)).trans (up_o (by omega))))) ?_ (hX1.2.2.2.2.2.2.1.o rfl rfl (by intro k _ _; repeat (first | rfl | refine (up_o (by omega)).trans ?_))) (by intro k _ _; repeat (first | rfl | refine (up_o (by omega)).trans ?_))
    refine s2.o rfl rfl (fun k k1 k2 => ?_)
    by_cases e : k = 9
    · subst e; exact up_s.trans up_s.symm
    · exact (up_o e).trans (((up_o (by omega)).trans (up_o (by omega))).trans (up_o e).symm)
theorem x_lay1 (hX : RepX σ A) (ho : okX σ.1) (hl : layOK σ.1) : ∃ A', Rt mX6_lay (d + 4) [.ref 0, .int (iI 1)] A (some (.int (iI σ.1.1))) A' ∧ RepX (σ.1, σ.2.1, (σ.1.1, txH σ.1), σ.2.2.2) A' ∧ offE A A' 0 42 := by
  have h0 := hX.1
  obtain ⟨h1, f, h2, h3⟩ := hX.2.1
  obtain ⟨x, g, h7, h8⟩ := hX.2.2.2.2.1
  obtain ⟨p1, pf, p2, p3⟩ := hX.2.2.2.1
  have hn := (flt_none hl.1).1
  have hX1 := hX.trial (iI σ.1.1) (fun i => if i < σ.1.1 then iI ((σ.1.2 i : Int) - 48) else g i)
  refine ⟨va_up (va_up (va_up (va_up A 7 (Ob 2 [.ref 8, .int (iI σ.1.1)])) 8 (Ia 10 (fun i => if i < σ.1.1 then iI ((σ.1.2 i : Int) - 48) else g i))) 5 (Ob 2 [.ref 6, .int (iI σ.1.1)])) 6 (Ia 10 (fun i => if i < σ.1.1 then (if i < σ.1.1 then iI ((σ.1.2 i : Int) - 48) else g i) else pf i)), ?_, ?_, (((offE.rf.up (by omega)).up (by omega)).up (by omega)).up (by omega)⟩
  · refine rt_intro kX6_lay rfl rfl rfl ?_
    refine gr_run (pc' := 1) 1 rfl ?_
    refine gr_callS (As := [_]) lk_6_82 rfl rfl (r_isWhichT (by omega)) rfl rfl rfl ?_
    refine gr_ifT (t := 9) rfl (by decide) (by omega) (cI_ne (by omega)) ?_
    refine gr_run (pc' := 10) 1 rfl ?_
    refine gr_getf rfl rfl (by repeat (first | exact up_s | assumption | refine up_n (by first | assumption | decide | omega) ?_)) (by first | assumption | rfl) rfl ?_
    refine gr_callV (As := []) lk_6_72 rfl rfl (r_X5_firstFault h1 h2 rfl rfl ho.1 h3 ho.2) (by repeat (first | exact up_s | assumption | refine up_n (by first | assumption | decide | omega) ?_)) (by first | assumption | exact Nat.le_of_ble_eq_true rfl | exact Nat.le_of_ble_eq_true (by assumption)) rfl rfl rfl rfl rfl ?_
    rw [hl.1]
    refine gr_run (pc' := 18) 1 rfl ?_
    refine gr_icT (t := 24) rfl (by decide) (by omega) (by omega) (cI_eq (by omega)) ?_
    refine gr_run (pc' := 25) 1 rfl ?_
    refine gr_getf rfl rfl (by repeat (first | exact up_s | assumption | refine up_n (by first | assumption | decide | omega) ?_)) (by first | assumption | rfl) rfl ?_
    refine gr_run (pc' := 29) 1 rfl ?_
    refine gr_getf rfl rfl (by repeat (first | exact up_s | assumption | refine up_n (by first | assumption | decide | omega) ?_)) (by first | assumption | rfl) rfl ?_
    refine gr_callV (As := [_]) lk_6_75 rfl rfl (r_X5_copyInto h1 h2 rfl rfl hn h3 h7 h8 rfl rfl (by decide)) (by repeat (first | exact up_s | assumption | refine up_n (by first | assumption | decide | omega) ?_)) (by first | assumption | exact Nat.le_of_ble_eq_true rfl | exact Nat.le_of_ble_eq_true (by assumption)) rfl rfl rfl rfl rfl ?_
    refine gr_run (pc' := 36) 1 rfl ?_
    refine gr_getf rfl rfl (by repeat (first | exact up_s | assumption | refine up_n (by first | assumption | decide | omega) ?_)) (by first | assumption | rfl) rfl ?_
    refine gr_callV (As := []) lk_6_79 rfl rfl (r_X2_firstClash (up_n (by decide) up_s) up_s rfl rfl (txH_ok hl.1) (txt_row hl.1)) (by repeat (first | exact up_s | assumption | refine up_n (by first | assumption | decide | omega) ?_)) (by first | assumption | exact Nat.le_of_ble_eq_true rfl | exact Nat.le_of_ble_eq_true (by assumption)) rfl rfl rfl rfl rfl ?_
    rw [hl.2]
    refine gr_run (pc' := 44) 1 rfl ?_
    refine gr_icT (t := 50) rfl (by decide) (by omega) (by omega) (cI_eq (by omega)) ?_
    refine gr_run (pc' := 52) 2 rfl ?_
    refine gr_callV (As := [_]) lk_6_86 rfl rfl (x_chosen1 hX1) (by repeat (first | exact up_s | assumption | refine up_n (by first | assumption | decide | omega) ?_)) (by first | assumption | exact Nat.le_of_ble_eq_true rfl | exact Nat.le_of_ble_eq_true (by assumption)) rfl rfl rfl rfl rfl ?_
    refine gr_run (pc' := 56) 1 rfl ?_
    refine gr_getf rfl rfl (by repeat (first | exact up_s | assumption | refine up_n (by first | assumption | decide | omega) ?_)) (by first | assumption | rfl) rfl ?_
    refine gr_callV (As := [_]) lk_6_90 rfl rfl (r_X2_copy (up_n (by decide) (up_n (by decide) p1)) (up_n (by decide) (up_n (by decide) p2)) (up_n (by decide) up_s) up_s rfl rfl rfl rfl hn.2 (by decide) (by decide)) (by repeat (first | exact up_s | assumption | refine up_n (by first | assumption | decide | omega) ?_)) (by first | assumption | exact Nat.le_of_ble_eq_true rfl | exact Nat.le_of_ble_eq_true (by assumption)) rfl rfl rfl rfl rfl ?_
    refine gr_run (pc' := 63) 1 rfl ?_
    refine gr_ifT (t := 73) rfl (by decide) (by omega) (cI_ne (by omega)) ?_
    refine gr_run (pc' := 74) 1 rfl ?_
    refine gr_getf rfl rfl (by repeat (first | exact up_s | assumption | refine up_n (by first | assumption | decide | omega) ?_)) (by first | assumption | rfl) rfl ?_
    refine gr_callV (As := []) lk_6_94 rfl rfl (r_X2_length (up_n (by decide) (up_n (by decide) (up_n (by decide) up_s))) rfl) (by repeat (first | exact up_s | assumption | refine up_n (by first | assumption | decide | omega) ?_)) (by first | assumption | exact Nat.le_of_ble_eq_true rfl | exact Nat.le_of_ble_eq_true (by assumption)) rfl rfl rfl rfl rfl ?_
    exact gr_ret rfl rfl
  · exact hX1.set ((up_o (by omega)).trans (up_o (by omega))) ⟨up_n (by omega) (up_n (by omega) hX1.2.1.1), hX1.2.1.2.o ((up_o (by omega)).trans (up_o (by omega)))⟩ (hX1.2.2.1.o ((up_o (by omega)).trans (up_o (by omega))) ((up_o (by omega)).trans (up_o (by omega)))) ⟨up_n (by omega) up_s, _, up_s, fun i hi => by have hi' : i < σ.1.1 := hi; simp only [if_pos hi']; have := txt_row (g := g) hl.1 i hi'; rw [if_pos hi'] at this; exact this⟩ (hX1.2.2.2.2.1.o ((up_o (by omega)).trans (up_o (by omega))) ((up_o (by omega)).trans (up_o (by omega)))) (hX1.2.2.2.2.2.1.o rfl rfl (by intro k _ _; repeat (first | rfl | refine (up_o (by omega)).trans ?_))) (hX1.2.2.2.2.2.2.1.o rfl rfl (by intro k _ _; repeat (first | rfl | refine (up_o (by omega)).trans ?_))) (by intro k _ _; repeat (first | rfl | refine (up_o (by omega)).trans ?_))
end XA
