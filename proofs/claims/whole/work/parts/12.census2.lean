/-! Census: prepare, pick, placeOf -/
theorem cmpZ_lt {a b : Int} (h : a < b) : cmpZ a b = -1 := by unfold cmpZ; rw [if_neg (by omega), if_neg (by omega)]
theorem cmpZ_gt {a b : Int} (h : b < a) : cmpZ a b = 1 := by unfold cmpZ; rw [if_pos h]
theorem cmpZ_eq {a b : Int} (h : a = b) : cmpZ a b = 0 := by unfold cmpZ; rw [if_neg (by omega), if_pos h]
theorem cmpZ_ge {a b : Int} (h : b ≤ a) : 0 ≤ cmpZ a b ∧ cmpZ a b ≤ 1 := by
  unfold cmpZ
  split
  · omega
  · rw [if_pos (by omega)]; omega
theorem cmpZ_le {a b : Int} (h : a ≤ b) : -1 ≤ cmpZ a b ∧ cmpZ a b ≤ 0 := by
  unfold cmpZ
  rw [if_neg (by omega)]
  split <;> omega
theorem cmpZ_ne {a b : Int} (h : a ≠ b) : cmpZ a b ≠ 0 ∧ -1 ≤ cmpZ a b ∧ cmpZ a b ≤ 1 := by
  unfold cmpZ
  split
  · omega
  · first | omega | (rw [if_neg h]; omega)
def tabD (p m t : Nat) (f : Nat → Int32) : Nat → Int32 := fun i => if i < 2 ^ p * 7 then (if t ≤ i / 7 then iI ((FF p m (i / 7) (i % 7) : Nat) : Int) else iI 0) else f i
theorem tabD_ok {p m : Nat} {f : Nat → Int32} : tabOKf p m (tabD p m 0 f) := by
  intro t l ht hl
  unfold tabD
  rw [if_pos (by omega), if_pos (Nat.zero_le _), show (t * 7 + l) / 7 = t by omega, show (t * 7 + l) % 7 = l by omega]
theorem tabD_row0 {p m t : Nat} {f : Nat → Int32} (ht : t + 1 < 2 ^ p) : rowF (tabD p m (t + 1) f) t (fun _ => 0) = tabD p m (t + 1) f := by
  funext i
  unfold rowF
  split
  · unfold tabD
    rw [if_pos (by omega), if_neg (by omega)]
    rfl
  · rfl
theorem tabD_step {p m t : Nat} {f : Nat → Int32} (hp : 1 ≤ p ∧ p ≤ 8) (ht : t + 1 < 2 ^ p) : rowF (tabD p m (t + 1) f) t (fun l => sumN (fun x => tm p t (FF p m) x l) (m + 1)) = tabD p m t f := by
  have h256 := pow8 hp.2
  funext i
  unfold rowF
  split
  · rename_i hi
    unfold tabD
    rw [if_pos (by omega), if_pos (by omega), show i / 7 = t by omega, show i % 7 = i - t * 7 by omega]
    have hbt : bc t < p := bc_full ⟨p, by omega⟩ ⟨t, by omega⟩ (by show t < 2 ^ p; omega) (by show t ≠ 2 ^ p - 1; omega)
    rw [FF_rec hp (by omega) hbt]
    rfl
  · rename_i hi
    unfold tabD
    by_cases h1 : i < 2 ^ p * 7
    · rw [if_pos h1, if_pos h1]
      by_cases h2 : t + 1 ≤ i / 7
      · rw [if_pos h2, if_pos (by omega)]
      · rw [if_neg h2, if_neg (by omega)]
    · rw [if_neg h1, if_neg h1]
theorem FF_full {p m l : Nat} (hp : p ≤ 8) : FF p m (2 ^ p - 1) l = if l = 0 then 1 else 0 := by
  unfold FF
  rw [bc_all ⟨p, by omega⟩]
  simp [flN]
theorem tabD_top {p m : Nat} {f : Nat → Int32} (hp : 1 ≤ p ∧ p ≤ 8) : upd (fun j => if j < 2 ^ p * 7 then iI 0 else f j) ((2 ^ p - 1) * 7) (iI 1) = tabD p m (2 ^ p - 1) f := by
  have h0 := Nat.two_pow_pos p
  funext i
  unfold upd tabD
  by_cases h1 : i = (2 ^ p - 1) * 7
  · rw [if_pos h1, if_pos (by omega), if_pos (by omega), show i / 7 = 2 ^ p - 1 by omega, show i % 7 = 0 by omega, FF_full hp.2]
    rfl
  · rw [if_neg h1]
    dsimp only
    by_cases h2 : i < 2 ^ p * 7
    · rw [if_pos h2, if_pos h2]
      by_cases h3 : 2 ^ p - 1 ≤ i / 7
      · rw [if_pos h3, show i / 7 = 2 ^ p - 1 by omega, FF_full hp.2, if_neg (by omega)]
        rfl
      · rw [if_neg h3]
    · rw [if_neg h2, if_neg h2]
section CF
variable {d : Nat} {A : AH} {q c p m : Nat} {f : Nat → Int32}
theorem r_X0_prepareS (hq : A q = Ob 0 [.ref c, .int (iI p), .int (iI m)]) (pq : Nat.blt q NC = true) (hp : p ≤ 8) (hm : m ≤ 9) : Rt mX0_prepare d [.ref q, .int (iI p), .int (iI m)] A none A := by
  refine rt_intro kX0_prepare rfl rfl trivial ?_
  refine gr_run (pc' := 2) 2 rfl ?_
  refine gr_getf rfl rfl (by repeat (first | exact up_s | assumption | refine up_n (by first | assumption | decide | omega) ?_)) (by first | assumption | rfl) rfl ?_
  refine gr_icF (t := 17) rfl (by decide) (by omega) (by omega) (cN_ne (by omega)) ?_
  refine gr_run (pc' := 10) 2 rfl ?_
  refine gr_getf rfl rfl (by repeat (first | exact up_s | assumption | refine up_n (by first | assumption | decide | omega) ?_)) (by first | assumption | rfl) rfl ?_
  refine gr_icF (t := 17) rfl (by decide) (by omega) (by omega) (cN_ne (by omega)) ?_
  exact gr_ret rfl rfl
theorem r_X0_prepareN {L T : Nat} (hq : A q = Ob 0 [.ref c, .int (iI L), .int (iI T)]) (hc : A c = Ia 1792 f) (pq : Nat.blt q NC = true) (pc : Nat.blt c NC = true) (hp : 1 ≤ p ∧ p ≤ 8) (hm : m ≤ 9) (hL : L ≤ 8) (hT : T ≤ 9) (hn : ¬ (L = p ∧ T = m)) : Rt mX0_prepare (d + 2) [.ref q, .int (iI p), .int (iI m)] A none (va_up (va_up A q (Ob 0 [.ref c, .int (iI p), .int (iI m)])) c (Ia 1792 (tabD p m 0 f))) := by
  have h256 := pow8 hp.2
  have h0 := Nat.two_pow_pos p
  have h2 : 2 ≤ 2 ^ p := Nat.pow_le_pow_right (n := 2) (by decide) hp.1
  have hqc : q ≠ c := by intro e; rw [← e, hq] at hc; cases hc
  have down : ∀ t : Nat, t < 2 ^ p → Gr mX0_prepare (d + 2) 88 [some (.ref q), some (.int (iI (p : Int))), some (.int (iI (m : Int))), some (.int (iI (((2 ^ p : Nat) : Int) - 1))), some (.int (iI ((t : Int) - 1)))] [] (va_up (va_up A q (Ob 0 [.ref c, .int (iI p), .int (iI m)])) c (Ia 1792 (tabD p m t f))) none (va_up (va_up A q (Ob 0 [.ref c, .int (iI p), .int (iI m)])) c (Ia 1792 (tabD p m 0 f))) := by
    intro t
    induction t with
    | zero =>
      intro _
      refine gr_run (pc' := 90) 1 rfl ?_
      refine gr_ifT (t := 105) rfl (by decide) (by omega) (cI_lt (by omega)) ?_
      exact gr_ret rfl rfl
    | succ t ih =>
      intro ht
      rw [show ((t + 1 : Nat) : Int) - 1 = (t : Int) by omega]
      refine gr_run (pc' := 90) 1 rfl ?_
      refine gr_ifF (t := 105) rfl (by decide) (by omega) (cN_lt (by omega)) ?_
      refine gr_run (pc' := 96) 2 rfl ?_
      refine gr_callV (As := [_]) lk_0_31 rfl rfl (r_X0_fillRow (t := t) (f := tabD p m (t + 1) f) (R := FF p m) (up_n hqc up_s) (by rw [tabD_row0 ht]; exact up_s) pq pc hp hm (by omega) (fun t' l h1 h2 h3 => by unfold tabD; rw [if_pos (by omega), if_pos (by omega), show (t' * 7 + l) / 7 = t' by omega, show (t' * 7 + l) % 7 = l by omega])) (by repeat (first | exact up_s | assumption | refine up_n (by first | assumption | decide | omega) ?_)) (by first | assumption | exact Nat.le_of_ble_eq_true rfl | exact Nat.le_of_ble_eq_true (by assumption)) rfl rfl rfl rfl rfl ?_
      rw [bx_uu, tabD_step hp ht]
      refine gr_iinc rfl rfl rfl rfl ?_
      refine gr_run (pc' := 88) 1 rfl ?_
      exact ih (by omega)
  have zero : ∀ i : Nat, i ≤ 2 ^ p * 7 → Gr mX0_prepare (d + 2) 48 [some (.ref q), some (.int (iI (p : Int))), some (.int (iI (m : Int))), some (.int (iI (((2 ^ p : Nat) : Int) - 1))), some (.int (iI (i : Int)))] [] (va_up (va_up A q (Ob 0 [.ref c, .int (iI p), .int (iI m)])) c (Ia 1792 (fun j => if j < i then iI 0 else f j))) none (va_up (va_up A q (Ob 0 [.ref c, .int (iI p), .int (iI m)])) c (Ia 1792 (tabD p m 0 f))) := by
    refine go_up ?_ ?_
    · refine gr_run (pc' := 52) 3 rfl ?_
      refine gr_iadd rfl ?_
      refine gr_run (pc' := 55) 1 rfl ?_
      refine gr_imul rfl ?_
      refine gr_icT (t := 73) rfl (by decide) (by omega) (by omega) (cI_ge (by omega)) ?_
      refine gr_run (pc' := 74) 1 rfl ?_
      refine gr_getf rfl rfl (by repeat (first | exact up_s | assumption | refine up_n (by first | assumption | decide | omega) ?_)) (by first | assumption | rfl) rfl ?_
      refine gr_run (pc' := 80) 2 rfl ?_
      refine gr_imul rfl ?_
      refine gr_run (pc' := 82) 1 rfl ?_
      refine gr_iast rfl (by repeat (first | exact up_s | assumption | refine up_n (by first | assumption | decide | omega) ?_)) (by first | assumption | rfl) (ix_i (j := (2 ^ p - 1) * 7) (by omega) (by omega) (by decide)) ?_
      rw [bx_uu, tabD_top (m := m) hp]
      refine gr_run (pc' := 85) 2 rfl ?_
      refine gr_isub rfl ?_
      refine gr_run (pc' := 88) 1 rfl ?_
      have := down (2 ^ p - 1) (by omega)
      rw [show (((2 ^ p - 1 : Nat)) : Int) - 1 = ((2 ^ p : Nat) : Int) - 1 - 1 by omega] at this
      exact this
    · intro i hi ih
      refine gr_run (pc' := 52) 3 rfl ?_
      refine gr_iadd rfl ?_
      refine gr_run (pc' := 55) 1 rfl ?_
      refine gr_imul rfl ?_
      refine gr_icF (t := 73) rfl (by decide) (by omega) (by omega) (cN_ge (by omega)) ?_
      refine gr_run (pc' := 60) 1 rfl ?_
      refine gr_getf rfl rfl (by repeat (first | exact up_s | assumption | refine up_n (by first | assumption | decide | omega) ?_)) (by first | assumption | rfl) rfl ?_
      refine gr_run (pc' := 66) 2 rfl ?_
      refine gr_iast rfl (by repeat (first | exact up_s | assumption | refine up_n (by first | assumption | decide | omega) ?_)) (by first | assumption | rfl) (ix_i rfl (by omega) (by decide)) ?_
      rw [bx_uu, upd_lt (g := fun _ => iI 0)]
      refine gr_iinc rfl rfl rfl rfl ?_
      refine gr_run (pc' := 48) 1 rfl ?_
      exact ih
  have main : Gr mX0_prepare (d + 2) 17 [some (.ref q), some (.int (iI (p : Int))), some (.int (iI (m : Int))), none, none] [] A none (va_up (va_up A q (Ob 0 [.ref c, .int (iI p), .int (iI m)])) c (Ia 1792 (tabD p m 0 f))) := by
    refine gr_run (pc' := 22) 4 rfl ?_
    refine gr_mmin lk_0_22 rfl rfl ?_
    rw [if_neg (by rw [iI_lt (by omega) (by omega)]; omega)]
    refine gr_mmax lk_0_28 rfl rfl ?_
    rw [max1 hp.1 (by omega)]
    refine gr_putf rfl rfl rfl (by repeat (first | exact up_s | assumption | refine up_n (by first | assumption | decide | omega) ?_)) (by first | assumption | rfl) rfl rfl ?_
    refine gr_run (pc' := 33) 2 rfl ?_
    refine gr_putf rfl rfl rfl (by repeat (first | exact up_s | assumption | refine up_n (by first | assumption | decide | omega) ?_)) (by first | assumption | rfl) rfl rfl ?_
    rw [bx_uu]
    refine gr_run (pc' := 38) 2 rfl ?_
    refine gr_getf rfl rfl (by repeat (first | exact up_s | assumption | refine up_n (by first | assumption | decide | omega) ?_)) (by first | assumption | rfl) rfl ?_
    refine gr_ishl1 rfl (by omega) ?_
    refine gr_run (pc' := 43) 1 rfl ?_
    refine gr_isub rfl ?_
    refine gr_run (pc' := 48) 3 rfl ?_
    refine gr_h ?_ (zero 0 (by omega))
    exact (up_same (up_n hqc.symm (by simpa using hc))).symm
  refine rt_intro kX0_prepare rfl rfl trivial ?_
  by_cases hl : L = p
  · refine gr_run (pc' := 2) 2 rfl ?_
    refine gr_getf rfl rfl (by repeat (first | exact up_s | assumption | refine up_n (by first | assumption | decide | omega) ?_)) (by first | assumption | rfl) rfl ?_
    refine gr_icF (t := 17) rfl (by decide) (by omega) (by omega) (cN_ne (by omega)) ?_
    refine gr_run (pc' := 10) 2 rfl ?_
    refine gr_getf rfl rfl (by repeat (first | exact up_s | assumption | refine up_n (by first | assumption | decide | omega) ?_)) (by first | assumption | rfl) rfl ?_
    refine gr_icT (t := 17) rfl (by decide) (by omega) (by omega) (cI_ne (by omega)) ?_
    exact main
  · refine gr_run (pc' := 2) 2 rfl ?_
    refine gr_getf rfl rfl (by repeat (first | exact up_s | assumption | refine up_n (by first | assumption | decide | omega) ?_)) (by first | assumption | rfl) rfl ?_
    refine gr_icT (t := 17) rfl (by decide) (by omega) (by omega) (cI_ne (by omega)) ?_
    exact main
/-- the census as it stands between calls -/
def cenOK (A : AH) (q c : Nat) : Prop := ∃ (L T : Nat) (f : Nat → Int32), A q = Ob 0 [.ref c, .int (iI L), .int (iI T)] ∧ A c = Ia 1792 f ∧ L ≤ 8 ∧ T ≤ 9 ∧ (L = 0 ∨ tabOKf L T f)
theorem r_X0_prepare (h : cenOK A q c) (pq : Nat.blt q NC = true) (pc : Nat.blt c NC = true) (hp : 1 ≤ p ∧ p ≤ 8) (hm : m ≤ 9) : ∃ g : Nat → Int32, Rt mX0_prepare (d + 2) [.ref q, .int (iI p), .int (iI m)] A none (va_up (va_up A q (Ob 0 [.ref c, .int (iI p), .int (iI m)])) c (Ia 1792 g)) ∧ tabOKf p m g := by
  obtain ⟨L, T, f, hq, hc, hL, hT, ho⟩ := h
  have hqc : q ≠ c := by intro e; rw [← e, hq] at hc; cases hc
  by_cases hn : L = p ∧ T = m
  · obtain ⟨rfl, rfl⟩ := hn
    refine ⟨f, ?_, ho.resolve_left (by omega)⟩
    rw [up_same hq, up_same hc]
    exact r_X0_prepareS hq pq hL hT
  · exact ⟨_, r_X0_prepareN hq hc pq pc hp hm hL hT hn, tabD_ok⟩
end CF
theorem sumN_shift (f : Nat → Nat) : ∀ n, sumN f (n + 1) = f 0 + sumN (fun i => f (i + 1)) n
  | 0 => by simp [sumN]
  | n + 1 => by
    have := sumN_shift f n
    simp only [sumN] at this ⊢
    omega
def pkS (p m t l : Nat) : Nat → Nat → Nat → Nat × Nat
  | 0, x, v => (x, v)
  | k + 1, x, v => if fb p m t l x ≤ v ∧ x < m then pkS p m t l k (x + 1) (v - fb p m t l x) else (x, v)
def pkV (p m b v : Nat) : Nat → Nat × Nat × Nat
  | 0 => (0, b, v)
  | j + 1 => ((pkV p m b v j).1 ||| 2 ^ ((j + (pkS p m (pkV p m b v j).1 (pkV p m b v j).2.1 m 0 (pkV p m b v j).2.2).1) % p), (pkV p m b v j).2.1 - (j + (pkS p m (pkV p m b v j).1 (pkV p m b v j).2.1 m 0 (pkV p m b v j).2.2).1) / p, (pkS p m (pkV p m b v j).1 (pkV p m b v j).2.1 m 0 (pkV p m b v j).2.2).2)
def pkH (p m b v j : Nat) : Nat := (pkS p m (pkV p m b v j).1 (pkV p m b v j).2.1 m 0 (pkV p m b v j).2.2).1
theorem pkS_ok {p m t l : Nat} : ∀ {k x v : Nat}, x + k = m → v < sumN (fun i => fb p m t l (x + i)) (k + 1) → (pkS p m t l k x v).1 ≤ m ∧ (pkS p m t l k x v).2 < fb p m t l (pkS p m t l k x v).1
  | 0, x, v, hx, hv => by
    simp only [sumN, Nat.add_zero, Nat.zero_add] at hv
    simp only [pkS]
    exact ⟨by omega, hv⟩
  | k + 1, x, v, hx, hv => by
    simp only [pkS]
    split
    · rename_i hc
      refine pkS_ok (by omega) ?_
      rw [sumN_shift] at hv
      rw [sumN_congr (g := fun i => fb p m t l (x + (i + 1))) (fun i _ => by rw [show x + 1 + i = x + (i + 1) by omega])]
      simp only [Nat.add_zero] at hv
      omega
    · rename_i hc
      exact ⟨by show x ≤ m; omega, by show v < fb p m t l x; omega⟩
theorem pkV_ok {p m b v : Nat} (hp : 1 ≤ p ∧ p ≤ 8) (hb : b ≤ 6) (hv : v < FF p m 0 b) : ∀ j, j ≤ p → (pkV p m b v j).1 < 2 ^ p ∧ bc (pkV p m b v j).1 = j ∧ (pkV p m b v j).2.1 ≤ 6 ∧ (pkV p m b v j).2.2 < FF p m (pkV p m b v j).1 (pkV p m b v j).2.1
  | 0, _ => ⟨Nat.two_pow_pos p, (by decide : bc 0 = 0), hb, hv⟩
  | j + 1, hj => by
    obtain ⟨h1, h2, h3, h4⟩ := pkV_ok hp hb hv j (by omega)
    rw [FF_rec hp h1 (by omega)] at h4
    have h5 := pkS_ok (p := p) (m := m) (t := (pkV p m b v j).1) (l := (pkV p m b v j).2.1) (k := m) (x := 0) (v := (pkV p m b v j).2.2) (by omega) (by simpa using h4)
    simp only [pkV]
    generalize (pkS p m (pkV p m b v j).1 (pkV p m b v j).2.1 m 0 (pkV p m b v j).2.2) = o at *
    have h6 := h5.2
    unfold fb at h6
    rw [h2] at h6
    by_cases hc1 : (pkV p m b v j).1.testBit ((j + o.1) % p) = true
    · rw [if_pos hc1] at h6; omega
    rw [if_neg hc1] at h6
    by_cases hc2 : (pkV p m b v j).2.1 < (j + o.1) / p
    · rw [if_pos hc2] at h6; omega
    rw [if_neg hc2] at h6
    have hmod : (j + o.1) % p < p := Nat.mod_lt _ (by omega)
    exact ⟨or_lt hmod h1, by rw [bc_or' hp.2 h1 hmod (by simpa using hc1), h2], Nat.le_trans (Nat.sub_le _ _) h3, h6⟩
theorem pkH_ok {p m b v : Nat} (hp : 1 ≤ p ∧ p ≤ 8) (hb : b ≤ 6) (hv : v < FF p m 0 b) {j : Nat} (hj : j < p) : pkH p m b v j ≤ m ∧ (pkV p m b v j).1.testBit ((j + pkH p m b v j) % p) = false ∧ (j + pkH p m b v j) / p ≤ (pkV p m b v j).2.1 := by
  obtain ⟨h1, h2, h3, h4⟩ := pkV_ok hp hb hv j (by omega)
  rw [FF_rec hp h1 (by omega)] at h4
  have h5 := pkS_ok (p := p) (m := m) (t := (pkV p m b v j).1) (l := (pkV p m b v j).2.1) (k := m) (x := 0) (v := (pkV p m b v j).2.2) (by omega) (by simpa using h4)
  unfold pkH
  generalize (pkS p m (pkV p m b v j).1 (pkV p m b v j).2.1 m 0 (pkV p m b v j).2.2) = o at *
  have h6 := h5.2
  unfold fb at h6
  rw [h2] at h6
  by_cases hc1 : (pkV p m b v j).1.testBit ((j + o.1) % p) = true
  · rw [if_pos hc1] at h6; omega
  rw [if_neg hc1] at h6
  by_cases hc2 : (pkV p m b v j).2.1 < (j + o.1) / p
  · rw [if_pos hc2] at h6; omega
  exact ⟨h5.1, by simpa using hc1, Nat.le_of_not_lt hc2⟩
section CG
variable {d : Nat} {A : AH} {q c p m : Nat} {f : Nat → Int32}
theorem r_X0_pick {a e b v : Nat} {x : Int32} {g : Nat → Int32} (hq : A q = Ob 0 [.ref c, .int (iI p), .int (iI m)]) (hc : A c = Ia 1792 f) (pq : Nat.blt q NC = true) (pc : Nat.blt c NC = true) (hp : 1 ≤ p ∧ p ≤ 8) (hm : m ≤ 9) (hf : tabOKf p m f) (hb : b ≤ 6) (hv : v < FF p m 0 b)
    (ha : A a = Ob 2 [.ref e, .int x]) (he : A e = Ia 10 g) (pa : Nat.blt a NC = true) (pe : Nat.blt e NC = true) (hce : c ≠ e) :
    Rt mX0_pick (d + 2) [.ref q, .int (iI b), .long (lI v), .ref a] A none (va_up (va_up A a (Ob 2 [.ref e, .int (iI p)])) e (Ia 10 (fun i => if i < p then iI ((pkH p m b v i : Nat) : Int) else g i))) := by
  have hqa : q ≠ a := by intro z; rw [← z, hq] at ha; cases ha
  have hqe : q ≠ e := by intro z; rw [← z, hq] at he; cases he
  have hca : c ≠ a := by intro z; rw [← z, hc] at ha; cases ha
  have hae : a ≠ e := by intro z; rw [← z, ha] at he; cases he
  have h256 := pow8 hp.2
  have hFF := FF_le hp.2 hm 0 b
  have hA1 : ∀ u : Nat → Int32, (va_up (va_up A a (Ob 2 [.ref e, .int (iI p)])) e (Ia 10 u)) q = Ob 0 [.ref c, .int (iI p), .int (iI m)] := fun u => up_n hqe (up_n hqa hq)
  have hA2 : ∀ u : Nat → Int32, (va_up (va_up A a (Ob 2 [.ref e, .int (iI p)])) e (Ia 10 u)) c = Ia 1792 f := fun u => up_n hce (up_n hca hc)
  -- the search of one throw
  have search : ∀ (t l : Nat) (u : Nat → Int32) (j : Nat) (r : Option Value) (A' : AH), t < 2 ^ p → l ≤ 6 → ∀ k y w, y + k = m → w ≤ 100000000 →
      (∀ z : Int32, Gr mX0_pick (d + 2) 89 [some (.ref q), some (.int (iI b)), some (.long (lI v)), none, some (.ref a), some (.int (iI t)), some (.int (iI l)), some (.long (lI (((pkS p m t l k y w).2 : Nat) : Int))), none, some (.int (iI j)), some (.int (iI (((pkS p m t l k y w).1 : Nat) : Int))), some (.int z)] [] (va_up (va_up A a (Ob 2 [.ref e, .int (iI p)])) e (Ia 10 u)) r A') →
      Gr mX0_pick (d + 2) 45 [some (.ref q), some (.int (iI b)), some (.long (lI v)), none, some (.ref a), some (.int (iI t)), some (.int (iI l)), some (.long (lI (w : Int))), none, some (.int (iI j)), some (.int (iI (y : Int))), some (.int (iI ((fb p m t l y : Nat) : Int)))] [] (va_up (va_up A a (Ob 2 [.ref e, .int (iI p)])) e (Ia 10 u)) r A' := by
    intro t l u j r A' ht hl k
    induction k with
    | zero =>
      intro y w hy hw K
      have hfb := fb_le hp.2 hm t l y
      simp only [pkS] at K
      refine gr_run (pc' := 49) 2 rfl ?_
      refine gr_i2l rfl (by omega) ?_
      refine gr_lcmp rfl (by omega) (by omega) ?_
      by_cases hlt : w < fb p m t l y
      · rw [show cmpZ (w : Int) ((fb p m t l y : Nat) : Int) = -1 from cmpZ_lt (by omega)]
        refine gr_ifT (t := 89) rfl (by decide) (by omega) (cI_lt (by omega)) ?_
        exact K _
      · have h0 : 0 ≤ cmpZ (w : Int) ((fb p m t l y : Nat) : Int) ∧ cmpZ (w : Int) ((fb p m t l y : Nat) : Int) ≤ 1 := cmpZ_ge (by omega)
        have h1 := hA1 u
        refine gr_ifF (t := 89) rfl (by decide) (by omega) (cN_lt (by omega)) ?_
        refine gr_run (pc' := 57) 2 rfl ?_
        refine gr_getf rfl rfl (by repeat (first | exact up_s | assumption | refine up_n (by first | assumption | decide | omega) ?_)) (by first | assumption | rfl) rfl ?_
        refine gr_icT (t := 89) rfl (by decide) (by omega) (by omega) (cI_ge (by omega)) ?_
        exact K _
    | succ k ih =>
      intro y w hy hw K
      have hfb := fb_le hp.2 hm t l y
      simp only [pkS] at K
      refine gr_run (pc' := 49) 2 rfl ?_
      refine gr_i2l rfl (by omega) ?_
      refine gr_lcmp rfl (by omega) (by omega) ?_
      by_cases hlt : w < fb p m t l y
      · rw [if_neg (by omega)] at K
        rw [show cmpZ (w : Int) ((fb p m t l y : Nat) : Int) = -1 from cmpZ_lt (by omega)]
        refine gr_ifT (t := 89) rfl (by decide) (by omega) (cI_lt (by omega)) ?_
        exact K _
      · rw [if_pos (by omega)] at K
        have h0 : 0 ≤ cmpZ (w : Int) ((fb p m t l y : Nat) : Int) ∧ cmpZ (w : Int) ((fb p m t l y : Nat) : Int) ≤ 1 := cmpZ_ge (by omega)
        have h1 := hA1 u
        refine gr_ifF (t := 89) rfl (by decide) (by omega) (cN_lt (by omega)) ?_
        refine gr_run (pc' := 57) 2 rfl ?_
        refine gr_getf rfl rfl (by repeat (first | exact up_s | assumption | refine up_n (by first | assumption | decide | omega) ?_)) (by first | assumption | rfl) rfl ?_
        refine gr_icF (t := 89) rfl (by decide) (by omega) (by omega) (cN_ge (by omega)) ?_
        refine gr_run (pc' := 67) 2 rfl ?_
        refine gr_i2l rfl (by omega) ?_
        refine gr_lsub rfl ?_
        refine gr_run (pc' := 71) 1 rfl ?_
        refine gr_iinc rfl rfl rfl rfl ?_
        refine gr_run (pc' := 81) 4 rfl ?_
        rw [show (y : Int) + 1 = ((y + 1 : Nat) : Int) from rfl, show (w : Int) - ((fb p m t l y : Nat) : Int) = ((w - fb p m t l y : Nat) : Int) by omega]
        refine gr_callV (As := [_, _, _]) lk_0_52 rfl rfl (r_X0_fillingsBy (hA1 u) (hA2 u) pq pc hp ht hl (by omega) hf) (by repeat (first | exact up_s | assumption | refine up_n (by first | assumption | decide | omega) ?_)) (by first | assumption | exact Nat.le_of_ble_eq_true rfl | exact Nat.le_of_ble_eq_true (by assumption)) rfl rfl rfl rfl rfl ?_
        refine gr_run (pc' := 45) 2 rfl ?_
        exact ih (y + 1) (w - fb p m t l y) (by omega) (by omega) K
  have key : ∀ j, j ≤ p → ∀ x10 x11 : Option Value, Gr mX0_pick (d + 2) 21 [some (.ref q), some (.int (iI b)), some (.long (lI v)), none, some (.ref a), some (.int (iI (((pkV p m b v j).1 : Nat) : Int))), some (.int (iI (((pkV p m b v j).2.1 : Nat) : Int))), some (.long (lI (((pkV p m b v j).2.2 : Nat) : Int))), none, some (.int (iI (j : Int))), x10, x11] [] (va_up (va_up A a (Ob 2 [.ref e, .int (iI p)])) e (Ia 10 (fun i => if i < j then iI ((pkH p m b v i : Nat) : Int) else g i))) none (va_up (va_up A a (Ob 2 [.ref e, .int (iI p)])) e (Ia 10 (fun i => if i < p then iI ((pkH p m b v i : Nat) : Int) else g i))) := by
    refine go_up ?_ ?_
    · intro x10 x11
      have h1 := hA1 (fun i => if i < p then iI ((pkH p m b v i : Nat) : Int) else g i)
      refine gr_run (pc' := 24) 2 rfl ?_
      refine gr_getf rfl rfl (by repeat (first | exact up_s | assumption | refine up_n (by first | assumption | decide | omega) ?_)) (by first | assumption | rfl) rfl ?_
      refine gr_icT (t := 132) rfl (by decide) (by omega) (by omega) (cI_ge (by omega)) ?_
      exact gr_ret rfl rfl
    · intro j hj ih x10 x11
      obtain ⟨k1, k2, k3, k4⟩ := pkV_ok hp hb hv j (by omega)
      obtain ⟨n1, n2, n3⟩ := pkH_ok hp hb hv hj
      have hF2 := FF_le hp.2 hm (pkV p m b v j).1 (pkV p m b v j).2.1
      have h1 := hA1 (fun i => if i < j then iI ((pkH p m b v i : Nat) : Int) else g i)
      refine gr_run (pc' := 24) 2 rfl ?_
      refine gr_getf rfl rfl (by repeat (first | exact up_s | assumption | refine up_n (by first | assumption | decide | omega) ?_)) (by first | assumption | rfl) rfl ?_
      refine gr_icF (t := 132) rfl (by decide) (by omega) (by omega) (cN_ge (by omega)) ?_
      refine gr_run (pc' := 40) 6 rfl ?_
      refine gr_callV (As := [_, _, _]) lk_0_52 rfl rfl (r_X0_fillingsBy (x := 0) (hA1 _) (hA2 _) pq pc hp k1 k3 (by omega) hf) (by repeat (first | exact up_s | assumption | refine up_n (by first | assumption | decide | omega) ?_)) (by first | assumption | exact Nat.le_of_ble_eq_true rfl | exact Nat.le_of_ble_eq_true (by assumption)) rfl rfl rfl rfl rfl ?_
      refine gr_run (pc' := 45) 1 rfl ?_
      refine search _ _ _ j _ _ k1 k3 m 0 _ (by omega) (by omega) (fun z => ?_)
      have e1 : (pkS p m (pkV p m b v j).1 (pkV p m b v j).2.1 m 0 (pkV p m b v j).2.2).1 = pkH p m b v j := rfl
      have ih2 := ih (some (.int (iI ((pkH p m b v j : Nat) : Int)))) (some (.int z))
      simp only [pkV] at ih2
      rw [e1] at ih2 ⊢
      refine gr_run (pc' := 95) 3 rfl ?_
      refine gr_callV (As := [_, _]) lk_0_56 rfl rfl (r_X2_put (up_n hae up_s) up_s pa pe (by omega) hj) (by repeat (first | exact up_s | assumption | refine up_n (by first | assumption | decide | omega) ?_)) (by first | assumption | exact Nat.le_of_ble_eq_true rfl | exact Nat.le_of_ble_eq_true (by assumption)) rfl rfl rfl rfl rfl ?_
      rw [bx_uu, upd_lt (g := fun i => iI ((pkH p m b v i : Nat) : Int))]
      refine gr_run (pc' := 105) 4 rfl ?_
      refine gr_iadd rfl ?_
      rw [show (j : Int) + ((pkH p m b v j : Nat) : Int) = ((j + pkH p m b v j : Nat) : Int) from rfl]
      refine gr_callV (As := [_]) lk_0_41 rfl rfl (r_X0_placeBit (hA1 _) pq hp (by omega)) (by repeat (first | exact up_s | assumption | refine up_n (by first | assumption | decide | omega) ?_)) (by first | assumption | exact Nat.le_of_ble_eq_true rfl | exact Nat.le_of_ble_eq_true (by assumption)) rfl rfl rfl rfl rfl ?_
      refine gr_iorN rfl ?_
      refine gr_run (pc' := 119) 5 rfl ?_
      refine gr_iadd rfl ?_
      rw [show (j : Int) + ((pkH p m b v j : Nat) : Int) = ((j + pkH p m b v j : Nat) : Int) from rfl]
      refine gr_callV (As := [_]) lk_0_44 rfl rfl (r_X0_roundsOf (hA1 _) pq hp (by omega)) (by repeat (first | exact up_s | assumption | refine up_n (by first | assumption | decide | omega) ?_)) (by first | assumption | exact Nat.le_of_ble_eq_true rfl | exact Nat.le_of_ble_eq_true (by assumption)) rfl rfl rfl rfl rfl ?_
      refine gr_isub rfl ?_
      rw [show (((pkV p m b v j).2.1 : Nat) : Int) - (((j + pkH p m b v j) / p : Nat) : Int) = (((pkV p m b v j).2.1 - (j + pkH p m b v j) / p : Nat) : Int) by omega]
      refine gr_run (pc' := 126) 1 rfl ?_
      refine gr_iinc rfl rfl rfl rfl ?_
      refine gr_run (pc' := 21) 1 rfl ?_
      exact ih2
  refine rt_intro kX0_pick rfl rfl trivial ?_
  refine gr_run (pc' := 3) 2 rfl ?_
  refine gr_getf rfl rfl (by repeat (first | exact up_s | assumption | refine up_n (by first | assumption | decide | omega) ?_)) (by first | assumption | rfl) rfl ?_
  refine gr_callV (As := [_]) lk_0_47 rfl rfl (r_X2_resize ha pa ⟨hp.1, by omega⟩) (by repeat (first | exact up_s | assumption | refine up_n (by first | assumption | decide | omega) ?_)) (by first | assumption | exact Nat.le_of_ble_eq_true rfl | exact Nat.le_of_ble_eq_true (by assumption)) rfl rfl rfl rfl rfl ?_
  refine gr_run (pc' := 21) 8 rfl ?_
  refine gr_h ?_ (key 0 (by omega) none none)
  exact (up_same (up_n hae.symm (by simpa using he))).symm
end CG
