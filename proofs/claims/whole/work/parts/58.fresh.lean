/-! the fresh heap -/
theorem T1_o {A : AH} {j : Nat} (h : j < 3) (h0 : j ≠ 0) : T1 A j = T0 A j := (up_o h0).trans ((up_o (by omega)).trans ((up_o (by omega)).trans (up_o (by omega))))
theorem T2_o {A : AH} {j : Nat} (h : j < 5) (h0 : j ≠ 0) : T2 A j = T1 A j := (up_o h0).trans ((up_o (by omega)).trans ((up_o (by omega)).trans (up_o (by omega))))
theorem T3_o {A : AH} {j : Nat} (h : j < 7) (h0 : j ≠ 0) : T3 A j = T2 A j := (up_o h0).trans ((up_o (by omega)).trans ((up_o (by omega)).trans (up_o (by omega))))
theorem T4_o {A : AH} {j : Nat} (h : j < 9) (h0 : j ≠ 0) : T4 A j = T3 A j := by
  refine (up_o h0).trans ?_
  unfold shB
  rw [if_neg (by omega), if_neg (by omega), if_neg (by omega)]
  exact up_o (by omega)
theorem T5_o {A : AH} {j : Nat} (h : j < 27) (h0 : j ≠ 0) : T5 A j = T4 A j := by
  refine (up_o h0).trans ?_
  unfold shB
  rw [if_neg (by omega), if_neg (by omega), if_neg (by omega)]
  exact up_o (by omega)
theorem T6_o {A : AH} {j : Nat} (h : j < 33) (h0 : j ≠ 0) : T6 A j = T5 A j := (up_o h0).trans ((up_o (by omega)).trans ((up_o (by omega)).trans (up_o (by omega))))
theorem T7_o {A : AH} {j : Nat} (h : j < 35) (h0 : j ≠ 0) : T7 A j = T6 A j := (up_o h0).trans ((up_o (by omega)).trans ((up_o (by omega)).trans ((up_o (by omega)).trans ((up_o (by omega)).trans (up_o (by omega))))))
theorem T8_o {A : AH} {j : Nat} (h : j < 39) (h0 : j ≠ 0) : T8 A j = T7 A j := (up_o h0).trans ((up_o (by omega)).trans ((up_o (by omega)).trans ((up_o (by omega)).trans ((up_o (by omega)).trans (up_o (by omega))))))
theorem T8_0' {A : AH} {j : Nat} (h : 0 < j) (h2 : j < 3) : T8 A j = T0 A j := (T8_o (by omega) (by omega)).trans ((T7_o (by omega) (by omega)).trans ((T6_o (by omega) (by omega)).trans ((T5_o (by omega) (by omega)).trans ((T4_o (by omega) (by omega)).trans ((T3_o (by omega) (by omega)).trans ((T2_o (by omega) (by omega)).trans (T1_o (by omega) (by omega))))))))
theorem T8_1' {A : AH} {j : Nat} (h : 3 ≤ j) (h2 : j < 5) : T8 A j = T1 A j := (T8_o (by omega) (by omega)).trans ((T7_o (by omega) (by omega)).trans ((T6_o (by omega) (by omega)).trans ((T5_o (by omega) (by omega)).trans ((T4_o (by omega) (by omega)).trans ((T3_o (by omega) (by omega)).trans (T2_o (by omega) (by omega)))))))
theorem T8_2' {A : AH} {j : Nat} (h : 5 ≤ j) (h2 : j < 7) : T8 A j = T2 A j := (T8_o (by omega) (by omega)).trans ((T7_o (by omega) (by omega)).trans ((T6_o (by omega) (by omega)).trans ((T5_o (by omega) (by omega)).trans ((T4_o (by omega) (by omega)).trans (T3_o (by omega) (by omega))))))
theorem T8_3' {A : AH} {j : Nat} (h : 7 ≤ j) (h2 : j < 9) : T8 A j = T3 A j := (T8_o (by omega) (by omega)).trans ((T7_o (by omega) (by omega)).trans ((T6_o (by omega) (by omega)).trans ((T5_o (by omega) (by omega)).trans (T4_o (by omega) (by omega)))))
theorem T8_4' {A : AH} {j : Nat} (h : 9 ≤ j) (h2 : j < 27) : T8 A j = T4 A j := (T8_o (by omega) (by omega)).trans ((T7_o (by omega) (by omega)).trans ((T6_o (by omega) (by omega)).trans (T5_o (by omega) (by omega))))
theorem T8_5' {A : AH} {j : Nat} (h : 27 ≤ j) (h2 : j < 33) : T8 A j = T5 A j := (T8_o (by omega) (by omega)).trans ((T7_o (by omega) (by omega)).trans (T6_o (by omega) (by omega)))
theorem T8_6' {A : AH} {j : Nat} (h : 33 ≤ j) (h2 : j < 35) : T8 A j = T6 A j := (T8_o (by omega) (by omega)).trans (T7_o (by omega) (by omega))
theorem T8_7' {A : AH} {j : Nat} (h : 35 ≤ j) (h2 : j < 39) : T8 A j = T7 A j := T8_o (by omega) (by omega)
theorem sh_9 {A : AH} {h k sz : Nat} (hh : h < k) : shB A h k sz sz h = Ob 3 [.ref k, .int (iI 0), .int (iI 0)] := by
  unfold shB
  rw [if_neg (by omega), if_neg (by omega), if_pos rfl]
theorem sh_10 {A : AH} {h k sz : Nat} : shB A h k sz sz k = Ra sz (fun x => if x < sz then some (k + 1 + 2 * x) else none) := by
  unfold shB
  rw [if_neg (by omega), if_pos rfl]
theorem sh_p {A : AH} {h k sz j : Nat} (hj : j < sz) : shB A h k sz sz (k + 1 + 2 * j) = Ob 2 [.ref (k + 1 + 2 * j + 1), .int (iI 3)] := by
  unfold shB
  rw [if_pos (by omega), if_pos (by omega)]
theorem sh_q {A : AH} {h k sz j : Nat} (hj : j < sz) : shB A h k sz sz (k + 1 + 2 * j + 1) = Ia 10 f531 := by
  unfold shB
  rw [if_pos (by omega), if_neg (by omega)]
def AE (A : AH) : AH := va_up (T8 (va_up A 0 (Ob 6 (dfF 6)))) 43 (Ob 7 (dfF 7))
def AF (A : AH) : AH := va_up (va_up (U12 (AE A)) 45 (Ia 10 f531)) 46 (Ia 10 g531)
def AG (A : AH) : AH := va_up (va_up (AF A) 10 (Ra 8 (fun j => some (11 + 2 * j)))) 28 (Ra 2 (fun j => some (29 + 2 * j)))
theorem AF_o {A : AH} {j : Nat} (h : j < 43) : AF A j = T8 (va_up A 0 (Ob 6 (dfF 6))) j := (up_o (by omega)).trans ((up_o (by omega)).trans ((U12_o' h).trans (up_o (by omega))))
theorem AG_o {A : AH} {j : Nat} (h : j < 43) (h1 : j ≠ 10) (h2 : j ≠ 28) : AG A j = T8 (va_up A 0 (Ob 6 (dfF 6))) j := (up_o h2).trans ((up_o h1).trans (AF_o h))
theorem AG_m {A : AH} {j : Nat} (h : 43 ≤ j) (h1 : j ≠ 45) (h2 : j ≠ 46) : AG A j = U12 (AE A) j := (up_o (by omega)).trans ((up_o (by omega)).trans ((up_o h2).trans (up_o h1)))
def h531 (i : Nat) : Nat := if i = 0 then 5 else if i = 1 then 3 else if i = 2 then 1 else 0
abbrev σ0 : SS := ((0, fun _ => 0), (3, h531), (3, h531), (0, fun _ => (0, fun _ => 0)), (0, fun _ => (0, fun _ => 0)))
theorem f_531 : ∀ i, i < 3 → f531 i = iI (h531 i) := by
  intro i hi
  have : i = 0 ∨ i = 1 ∨ i = 2 := by omega
  rcases this with rfl | rfl | rfl <;> rfl
theorem g_531 : ∀ i, i < 3 → g531 i = iI (h531 i) := by
  intro i hi
  have : i = 0 ∨ i = 1 ∨ i = 2 := by omega
  rcases this with rfl | rfl | rfl <;> rfl
theorem okT_531 : okT (3, h531) := by
  refine okT_of ⟨⟨by omega, by omega⟩, fun i hi => ?_⟩ (fun u w hu hw e => ?_)
  · unfold h531; split <;> (try split) <;> (try split) <;> omega
  · have h1 : u = 0 ∨ u = 1 ∨ u = 2 := by omega
    have h2 : w = 0 ∨ w = 1 ∨ w = 2 := by omega
    rcases h1 with rfl | rfl | rfl <;> rcases h2 with rfl | rfl | rfl <;> first | rfl | (exact absurd e (by decide))
theorem okS_0 : okS σ0 := ⟨⟨by show 0 ≤ 40; omega, fun i hi => absurd hi (Nat.not_lt_zero i)⟩, okT_531, okT_531, ⟨Nat.zero_le _, fun j hj => absurd hj (Nat.not_lt_zero j)⟩, ⟨Nat.zero_le _, fun j hj => absurd hj (Nat.not_lt_zero j)⟩⟩
theorem sh_A {A : AH} {q w p0 sz : Nat} {U : Nat → Pn} (h1 : A q = Ob 3 [.ref w, .int (iI 0), .int (iI 0)]) (h2 : A w = Ra sz (fun j => some (p0 + 2 * j))) (hs : 0 < sz) (h3 : ∀ j, j < sz → A (p0 + 2 * j) = Ob 2 [.ref (p0 + 2 * j + 1), .int (iI 3)] ∧ A (p0 + 2 * j + 1) = Ia 10 f531) : shA A q w p0 sz (0, U) :=
  ⟨0, h1, h2, hs, Nat.zero_le _, fun j hj => ⟨_, _, (h3 j hj).1, (h3 j hj).2⟩, fun j hj => absurd hj (Nat.not_lt_zero j)⟩
theorem RepX_0 {A : AH} : RepX σ0 (AG A) := by
  refine ⟨(AG_o (by omega) (by omega) (by omega)).trans T8_0, ⟨(AG_o (by omega) (by omega) (by omega)).trans ((T8_0' (by omega) (by omega)).trans (up_n (by omega) up_s)), _, (AG_o (by omega) (by omega) (by omega)).trans ((T8_0' (by omega) (by omega)).trans (up_n (by omega) (up_n (by omega) up_s))), fun i hi => absurd hi (Nat.not_lt_zero i)⟩, ⟨(AG_o (by omega) (by omega) (by omega)).trans ((T8_1' (by omega) (by omega)).trans (up_n (by omega) up_s)), f531, (AG_o (by omega) (by omega) (by omega)).trans ((T8_1' (by omega) (by omega)).trans (up_n (by omega) (up_n (by omega) up_s))), f_531⟩, ⟨(AG_o (by omega) (by omega) (by omega)).trans ((T8_2' (by omega) (by omega)).trans (up_n (by omega) up_s)), f531, (AG_o (by omega) (by omega) (by omega)).trans ((T8_2' (by omega) (by omega)).trans (up_n (by omega) (up_n (by omega) up_s))), f_531⟩, ⟨_, _, (AG_o (by omega) (by omega) (by omega)).trans ((T8_3' (by omega) (by omega)).trans (up_n (by omega) up_s)), (AG_o (by omega) (by omega) (by omega)).trans ((T8_3' (by omega) (by omega)).trans (up_n (by omega) (up_n (by omega) up_s)))⟩, ?_, ?_, ?_, ?_, ?_⟩
  · refine sh_A ((AG_o (by omega) (by omega) (by omega)).trans ((T8_4' (by omega) (by omega)).trans (up_n (by omega) (sh_9 (by omega))))) (up_n (by omega) up_s) (by omega) (fun j hj => ⟨?_, ?_⟩)
    · exact (AG_o (by omega) (by omega) (by omega)).trans ((T8_4' (by omega) (by omega)).trans (up_n (by omega) (sh_p (k := 10) hj)))
    · exact (AG_o (by omega) (by omega) (by omega)).trans ((T8_4' (by omega) (by omega)).trans (up_n (by omega) (sh_q (k := 10) hj)))
  · refine sh_A ((AG_o (by omega) (by omega) (by omega)).trans ((T8_5' (by omega) (by omega)).trans (up_n (by omega) (sh_9 (by omega))))) up_s (by omega) (fun j hj => ⟨?_, ?_⟩)
    · exact (AG_o (by omega) (by omega) (by omega)).trans ((T8_5' (by omega) (by omega)).trans (up_n (by omega) (sh_p (k := 28) hj)))
    · exact (AG_o (by omega) (by omega) (by omega)).trans ((T8_5' (by omega) (by omega)).trans (up_n (by omega) (sh_q (k := 28) hj)))
  · exact ⟨0, 0, _, (AG_o (by omega) (by omega) (by omega)).trans ((T8_6' (by omega) (by omega)).trans (up_n (by omega) up_s)), (AG_o (by omega) (by omega) (by omega)).trans ((T8_6' (by omega) (by omega)).trans (up_n (by omega) (up_n (by omega) up_s))), by omega, by omega, Or.inl rfl⟩
  · exact ⟨_, _, _, _, (AG_o (by omega) (by omega) (by omega)).trans ((T8_7' (by omega) (by omega)).trans (up_n (by omega) up_s)), (AG_o (by omega) (by omega) (by omega)).trans ((T8_7' (by omega) (by omega)).trans (up_n (by omega) (up_n (by omega) (up_n (by omega) (up_n (by omega) up_s))))), (AG_o (by omega) (by omega) (by omega)).trans ((T8_7' (by omega) (by omega)).trans (up_n (by omega) (up_n (by omega) (up_n (by omega) up_s)))), (AG_o (by omega) (by omega) (by omega)).trans ((T8_7' (by omega) (by omega)).trans (up_n (by omega) (up_n (by omega) up_s)))⟩
  · exact ⟨_, _, _, _, (AG_o (by omega) (by omega) (by omega)).trans (up_n (by omega) up_s), (AG_o (by omega) (by omega) (by omega)).trans (up_n (by omega) (up_n (by omega) (up_n (by omega) (up_n (by omega) up_s)))), (AG_o (by omega) (by omega) (by omega)).trans (up_n (by omega) (up_n (by omega) (up_n (by omega) up_s))), (AG_o (by omega) (by omega) (by omega)).trans (up_n (by omega) (up_n (by omega) up_s)), fun k hk => rfl⟩
theorem RepM_0 {A : AH} : RepM σ0 (AG A) := by
  refine ⟨(AG_m (by omega) (by omega) (by omega)).trans U12_43, ⟨_, (AG_m (by omega) (by omega) (by omega)).trans UF_44, fun i hi => absurd hi (Nat.not_lt_zero i)⟩, ⟨f531, up_n (by omega) (up_n (by omega) (up_n (by omega) up_s)), f_531⟩, ⟨g531, up_n (by omega) (up_n (by omega) up_s), g_531⟩, ⟨_, (AG_m (by omega) (by omega) (by omega)).trans UF_47, fun j hj => absurd hj (Nat.not_lt_zero j)⟩, ⟨_, (AG_m (by omega) (by omega) (by omega)).trans UF_48, fun j hj => absurd hj (Nat.not_lt_zero j)⟩, ⟨_, (AG_m (by omega) (by omega) (by omega)).trans UF_49⟩, ⟨_, (AG_m (by omega) (by omega) (by omega)).trans UF_50⟩, ⟨_, (AG_m (by omega) (by omega) (by omega)).trans UF_51⟩, ⟨_, (AG_m (by omega) (by omega) (by omega)).trans UF_52⟩, ⟨_, (AG_m (by omega) (by omega) (by omega)).trans UF_53⟩, ⟨_, (AG_m (by omega) (by omega) (by omega)).trans UF_54⟩, ⟨_, (AG_m (by omega) (by omega) (by omega)).trans UF_55⟩, ⟨_, (AG_m (by omega) (by omega) (by omega)).trans UF_56⟩⟩
/-- a row of references, whatever is told of places that it hasn't got -/
theorem arrV_cg {c : ClassId} {n : Nat} {f g : Nat → Value} (h : ∀ j, j < n → f j = g j) : arrV c n f = arrV c n g := by
  have e : (fun j : Fin n => f j.val) = fun j : Fin n => g j.val := funext fun j => h j.val j.isLt
  unfold arrV
  rw [e]
theorem fr_rc {X : CT} {G : GC} {kk cl sl : Nat} {M : MI} {d pc : Nat} {L : LV} {S : List Value} {A : AH} {a n : Nat} {f f' : Nat → Option Nat} (hA : A a = Ra n f) (ha : a < kk) (he : ∀ i, i < n → f i = f' i) (k : Gf X G kk cl sl M d pc L S (va_up A a (Ra n f'))) : Gf X G kk cl sl M d pc L S A := by
  intro hC H locs ls hlv hP hD hS
  have h0 : (gWk kk G A)[a]? = some (gA G a, trE G (A a)) := gWk_at ha
  refine k hC H locs ls hlv ?_ ?_ hS
  · intro j q hj
    by_cases e : j = a
    · subst e
      rw [gWk_at ha, up_s] at hj
      cases hj
      have h1 := hP j _ h0
      rw [hA] at h1
      have h2 : H[gA G j]? = some (vp_cell (gT G 3) (n, .inr (.inr (.inr (.inr (trR G f)))))) := h1
      show H[gA G j]? = some (vp_cell (gT G 3) (n, .inr (.inr (.inr (.inr (trR G f'))))))
      rw [h2, vp_cell_q, vp_cell_q]
      refine congrArg some (arrV_cg (fun i hi => ?_))
      unfold trR
      rw [he i hi]
    · have hl := gWk_lt hj
      rw [gWk_at hl, up_o e] at hj
      exact hP j q (by rw [gWk_at hl]; exact hj)
  · rw [← gWk_set G A _ ha]
    exact hD.set h0
