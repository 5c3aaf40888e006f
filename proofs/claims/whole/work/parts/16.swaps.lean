/-! a search in breadth, whatever the ways -/
def RN (nb : Nat → Nat → Prop) (s : Nat) : Nat → Nat → Prop
  | 0, a => a = s
  | k + 1, b => ∃ a, RN nb s k a ∧ nb a b
def isD (nb : Nat → Nat → Prop) (s k a : Nat) : Prop := RN nb s k a ∧ ∀ j, j < k → ¬ RN nb s j a
theorem isD_inj {nb : Nat → Nat → Prop} {s k k' a : Nat} (h : isD nb s k a) (h' : isD nb s k' a) : k = k' := by
  rcases Nat.lt_trichotomy k k' with q | q | q
  · exact absurd h.1 (h'.2 k q)
  · exact q
  · exact absurd h'.1 (h.2 k' q)
def BF (nb : Nat → Nat → Prop) (s : Nat) (Q D : Nat → Nat) (n k : Nat) : Prop :=
  (1 ≤ n ∧ k ≤ n ∧ Q 0 = s ∧ D 0 = 0) ∧ (∀ i j, i < j → j < n → Q i ≠ Q j) ∧ (∀ i, i < n → isD nb s (D i) (Q i)) ∧ (∀ i j, i ≤ j → j < n → D i ≤ D j) ∧ (∀ i, i < n → k < n → D i ≤ D k + 1) ∧ ∀ i, i < k → ∀ b, nb (Q i) b → ∃ j, j < n ∧ Q j = b
theorem BF_level {nb : Nat → Nat → Prop} {s : Nat} {Q D : Nat → Nat} {n k : Nat} (h : BF nb s Q D n k) : ∀ j b, (k < n → j ≤ D k) → RN nb s j b → ∃ i, i < n ∧ Q i = b
  | 0, b, _, hb => ⟨0, by have := h.1.1; omega, by rw [h.1.2.2.1]; exact hb.symm⟩
  | j + 1, b, hj, ⟨a, ha, hab⟩ => by
    obtain ⟨i, hi, hqi⟩ := BF_level h j a (fun q => by have := hj q; omega) ha
    have hik : i < k := by
      apply Classical.byContradiction
      intro hn
      have hkn : k < n := by omega
      have h1 := h.2.2.2.1 k i (by omega) hi
      have h2 := hj hkn
      have h3 := (h.2.2.1 i hi).2 j (by omega)
      rw [hqi] at h3
      exact h3 ha
    rw [← hqi] at hab
    exact h.2.2.2.2.2 i hik b hab
theorem BF_add {nb : Nat → Nat → Prop} {s : Nat} {Q D : Nat → Nat} {n k b : Nat} (h : BF nb s Q D n k) (hk : k < n) (hb : nb (Q k) b) (hn : ∀ i, i < n → Q i ≠ b) : BF nb s (updN Q n b) (updN D n (D k + 1)) (n + 1) k := by
  have hq : ∀ i, i < n → updN Q n b i = Q i := fun i hi => if_neg (by omega)
  have hd : ∀ i, i < n → updN D n (D k + 1) i = D i := fun i hi => if_neg (by omega)
  have hqn : updN Q n b n = b := if_pos rfl
  have hdn : updN D n (D k + 1) n = D k + 1 := if_pos rfl
  have hdist : isD nb s (D k + 1) b := by
    refine ⟨⟨Q k, (h.2.2.1 k hk).1, hb⟩, fun j hj hr => ?_⟩
    obtain ⟨i, hi, hqi⟩ := BF_level h j b (fun _ => by omega) hr
    exact hn i hi hqi
  refine ⟨⟨by omega, by omega, by rw [hq 0 (by have := h.1.1; omega)]; exact h.1.2.2.1, by rw [hd 0 (by have := h.1.1; omega)]; exact h.1.2.2.2⟩, fun i j hij hj => ?_, fun i hi => ?_, fun i j hij hj => ?_, fun i hi _ => ?_, fun i hi c hc => ?_⟩
  · by_cases e : j = n
    · subst e
      rw [hq i hij, hqn]
      exact hn i hij
    · rw [hq i (by omega), hq j (by omega)]
      exact h.2.1 i j hij (by omega)
  · by_cases e : i = n
    · subst e
      rw [hqn, hdn]
      exact hdist
    · rw [hq i (by omega), hd i (by omega)]
      exact h.2.2.1 i (by omega)
  · by_cases e : j = n
    · subst e
      rw [hdn]
      by_cases e2 : i = j
      · subst e2; rw [hdn]; exact Nat.le_refl _
      · rw [hd i (by omega)]
        exact h.2.2.2.2.1 i (by omega) hk
    · rw [hd i (by omega), hd j (by omega)]
      exact h.2.2.2.1 i j hij (by omega)
  · rw [hd k hk]
    by_cases e : i = n
    · subst e; rw [hdn]; exact Nat.le_refl _
    · rw [hd i (by omega)]
      exact h.2.2.2.2.1 i (by omega) hk
  · rw [hq i (by omega)] at hc
    obtain ⟨j, hj, hqj⟩ := h.2.2.2.2.2 i hi c hc
    exact ⟨j, by omega, by rw [hq j hj]; exact hqj⟩
theorem BF_next {nb : Nat → Nat → Prop} {s : Nat} {Q D : Nat → Nat} {n k : Nat} (h : BF nb s Q D n k) (hk : k < n) (hn : ∀ b, nb (Q k) b → ∃ j, j < n ∧ Q j = b) : BF nb s Q D n (k + 1) := by
  refine ⟨⟨h.1.1, by omega, h.1.2.2.1, h.1.2.2.2⟩, h.2.1, h.2.2.1, h.2.2.2.1, fun i hi hk1 => ?_, fun i hi b hb => ?_⟩
  · have h1 := h.2.2.2.2.1 i hi hk
    have h2 := h.2.2.2.1 k (k + 1) (by omega) hk1
    omega
  · by_cases e : i = k
    · subst e; exact hn b hb
    · exact h.2.2.2.2.2 i (by omega) b hb
theorem BF_0 {nb : Nat → Nat → Prop} {s : Nat} {Q D : Nat → Nat} (hq : Q 0 = s) (hd : D 0 = 0) : BF nb s Q D 1 0 := by
  refine ⟨⟨by omega, by omega, hq, hd⟩, fun i j h1 h2 => by omega, fun i hi => ?_, fun i j h1 h2 => ?_, fun i hi _ => ?_, fun i hi => by omega⟩
  · have : i = 0 := by omega
    subst this
    rw [hd, hq]
    exact ⟨rfl, fun j hj => by omega⟩
  · have : i = 0 := by omega
    have : j = 0 := by omega
    subst i j; exact Nat.le_refl _
  · have : i = 0 := by omega
    subst this; omega
/-- its end, where all is seen -/
theorem BF_end {nb : Nat → Nat → Prop} {s : Nat} {Q D : Nat → Nat} {n : Nat} (h : BF nb s Q D n n) {j b : Nat} (hr : RN nb s j b) : ∃ i, i < n ∧ Q i = b := BF_level h j b (fun q => by omega) hr
theorem BF_congr {nb : Nat → Nat → Prop} {s : Nat} {Q D Q' D' : Nat → Nat} {n k : Nat} (h : BF nb s Q D n k) (hq : ∀ i, i < n → Q' i = Q i) (hd : ∀ i, i < n → D' i = D i) : BF nb s Q' D' n k := by
  refine ⟨⟨h.1.1, h.1.2.1, by rw [hq 0 (by have := h.1.1; omega)]; exact h.1.2.2.1, by rw [hd 0 (by have := h.1.1; omega)]; exact h.1.2.2.2⟩, fun i j h1 h2 => ?_, fun i hi => ?_, fun i j h1 h2 => ?_, fun i hi hk => ?_, fun i hi b hb => ?_⟩
  · rw [hq i (by omega), hq j h2]; exact h.2.1 i j h1 h2
  · rw [hq i hi, hd i hi]; exact h.2.2.1 i hi
  · rw [hd i (by omega), hd j h2]; exact h.2.2.2.1 i j h1 h2
  · rw [hd i hi, hd k hk]; exact h.2.2.2.2.1 i hi hk
  · rw [hq i (by have := h.1.2.1; omega)] at hb
    obtain ⟨j, hj, hj2⟩ := h.2.2.2.2.2 i hi b hb
    exact ⟨j, hj, by rw [hq j hj]; exact hj2⟩
/-! BallsInAir$Swaps: at 39, its rows at 40 (queue), 41 (depths), 42 (seen) -/
def dg (c i : Nat) : Nat := c / 10 ^ i % 10
def chZ (c i j : Nat) : Int := (c : Int) + ((dg c j : Int) + ((j : Int) - i) - dg c i) * ((10 ^ i : Nat) : Int) + ((dg c i : Int) - ((j : Int) - i) - dg c j) * ((10 ^ j : Nat) : Int)
def nbX (n c c' : Nat) : Prop := ∃ i j : Nat, i < j ∧ j < n ∧ dg c j + (j - i) ≤ 9 ∧ j - i ≤ dg c i ∧ (c' : Int) = chZ c i j
def SPb (g : Nat → Int64) (Q : Nat → Nat) (n : Nat) : Prop := ∀ k, k < 1563 → ∀ i, i < 64 → ((g k).toBitVec.getLsbD i = true ↔ ∃ j, j < n ∧ Q j = 64 * k + i)
def SwA (A : AH) (Q D : Nat → Nat) (n : Nat) : Prop := ∃ (qf df : Nat → Int32) (g : Nat → Int64), A 39 = Ob 4 [.ref 40, .ref 41, .ref 42, .int (iI n)] ∧ A 40 = Ia 120 qf ∧ A 41 = Ia 120 df ∧ A 42 = La 1563 g ∧ (∀ i, i < n → qf i = iI (Q i)) ∧ (∀ i, i < n → df i = iI (D i)) ∧ SPb g Q n
/-- only these cells differ -/
def offE (A A' : AH) (lo hi : Nat) : Prop := ∀ k, (k < lo ∨ hi < k) → A' k = A k
theorem offE.rf {A : AH} {lo hi : Nat} : offE A A lo hi := fun _ _ => rfl
theorem offE.tr {A A1 A2 : AH} {lo hi : Nat} (h : offE A A1 lo hi) (h2 : offE A1 A2 lo hi) : offE A A2 lo hi := fun k hk => (h2 k hk).trans (h k hk)
theorem offE.up {A A1 : AH} {lo hi k : Nat} {c : va_E} (h : offE A A1 lo hi) (hk : lo ≤ k ∧ k ≤ hi) : offE A (va_up A1 k c) lo hi := fun q hq => (va_up_ne _ _ (by omega)).trans (h q hq)
def bitL (i : Nat) : Int64 := Int64.ofBitVec (BitVec.twoPow 64 i)
theorem bitL_eq : ∀ i : Fin 64, lI 1 <<< ((iI ((i.val : Nat) : Int)).toInt64 &&& 63) = bitL i.val := by decide +kernel
theorem bitL_and {w : Int64} {i : Nat} : (w &&& bitL i = 0) ↔ w.toBitVec.getLsbD i = false ∨ 64 ≤ i := by
  rw [← Int64.toBitVec_inj, Int64.toBitVec_and]
  show w.toBitVec &&& BitVec.twoPow 64 i = 0#64 ↔ _
  rw [BitVec.and_twoPow]
  by_cases h : w.toBitVec.getLsbD i = true
  · rw [if_pos h]
    have hi : i < 64 := BitVec.lt_of_getLsbD h
    constructor
    · intro e
      have := congrArg (fun v => v.getLsbD i) e
      simp [BitVec.getLsbD_twoPow, hi] at this
    · rintro (e | e)
      · rw [h] at e; cases e
      · omega
  · simp only [h]
    simp
theorem bitL_or {w : Int64} {i k : Nat} (hk : k < 64) : (w ||| bitL i).toBitVec.getLsbD k = true ↔ w.toBitVec.getLsbD k = true ∨ k = i := by
  rw [Int64.toBitVec_or]
  show (w.toBitVec ||| BitVec.twoPow 64 i).getLsbD k = true ↔ _
  rw [BitVec.getLsbD_or, BitVec.getLsbD_twoPow]
  simp only [Bool.or_eq_true, Bool.and_eq_true, decide_eq_true_eq]
  constructor
  · rintro (h | ⟨_, h⟩)
    · exact Or.inl h
    · exact Or.inr h.symm
  · rintro (h | h)
    · exact Or.inl h
    · exact Or.inr ⟨by omega, h.symm⟩
theorem pv_eq {i : Nat} (h : i < 5) : pvF i = .int (iI ((10 ^ i : Nat) : Int)) := by
  match i, h with
  | 0, _ => rfl
  | 1, _ => rfl
  | 2, _ => rfl
  | 3, _ => rfl
  | 4, _ => rfl
  | n + 5, h => omega
section SW
variable {d : Nat} {A : AH} {Q D : Nat → Nat} {n : Nat}
theorem r_X4_enqueue {c dp : Nat} (hs : SwA A Q D n) (hc : c < 100000) (hn : n ≤ 120) (hcap : (∀ i, i < n → Q i ≠ c) → n < 120) :
    ∃ A' : AH, Rt mX4_enqueue d [.ref 39, .int (iI c), .int (iI dp)] A none A' ∧ offE A A' 39 42 ∧ (((∃ i, i < n ∧ Q i = c) ∧ A' = A) ∨ ((∀ i, i < n → Q i ≠ c) ∧ SwA A' (updN Q n c) (updN D n dp) (n + 1))) := by
  obtain ⟨qf, df, g, h1, h2, h3, h4, h5, h6, h7⟩ := hs
  have hdiv : c / 2 ^ 6 < 1563 := by omega
  have hmod : c &&& 63 = c % 64 := Nat.and_two_pow_sub_one_eq_mod c 6
  have hsp := h7 (c / 2 ^ 6) hdiv (c % 64) (by omega)
  rw [show 64 * (c / 2 ^ 6) + c % 64 = c by omega] at hsp
  by_cases hcap120 : n < 120
  · by_cases hin : ∃ i, i < n ∧ Q i = c
    · refine ⟨A, ?_, offE.rf, Or.inl ⟨hin, rfl⟩⟩
      refine rt_intro kX4_enqueue rfl rfl trivial ?_
      refine gr_run (pc' := 1) 1 rfl ?_
      refine gr_ifF (t := 19) rfl (by decide) (by omega) (cN_lt (by omega)) ?_
      refine gr_run (pc' := 7) 2 rfl ?_
      refine gr_icF (t := 19) rfl (by decide) (by omega) (by omega) (cN_ge (by omega)) ?_
      refine gr_run (pc' := 11) 1 rfl ?_
      refine gr_getf rfl rfl (by repeat (first | exact up_s | assumption | refine up_n (by first | assumption | decide | omega) ?_)) (by first | assumption | rfl) rfl ?_
      refine gr_run (pc' := 16) 1 rfl ?_
      refine gr_icT (t := 20) rfl (by decide) (by omega) (by omega) (cI_lt (by omega)) ?_
      refine gr_run (pc' := 24) 3 rfl ?_
      refine gr_iandN (b := 63) rfl ?_
      rw [hmod]
      refine gr_lshl rfl ?_
      rw [show (((1 : Fin 2).val : Nat) : Int) = 1 from rfl, show lI 1 <<< ((iI ((c % 64 : Nat) : Int)).toInt64 &&& 63) = bitL (c % 64) from bitL_eq ⟨c % 64, by omega⟩]
      refine gr_run (pc' := 28) 2 rfl ?_
      refine gr_getf rfl rfl (by repeat (first | exact up_s | assumption | refine up_n (by first | assumption | decide | omega) ?_)) (by first | assumption | rfl) rfl ?_
      refine gr_run (pc' := 34) 2 rfl ?_
      refine gr_ishrN (k0 := 6) rfl (by omega) (by omega) ?_
      refine gr_lald rfl (by repeat (first | exact up_s | assumption | refine up_n (by first | assumption | decide | omega) ?_)) (by first | assumption | rfl) (ix_i rfl (by omega) (by decide)) ?_
      refine gr_run (pc' := 37) 1 rfl ?_
      refine gr_land rfl ?_
      refine gr_tl (lI_of _) ?_
      have hb := bdl_of (g (c / 2 ^ 6) &&& bitL (c % 64))
      have hne : (g (c / 2 ^ 6) &&& bitL (c % 64)).toInt ≠ 0 := by
        intro e
        have e2 : g (c / 2 ^ 6) &&& bitL (c % 64) = 0 := Int64.toInt_inj.mp e
        rcases bitL_and.mp e2 with q | q
        · rw [hsp.mpr hin] at q; cases q
        · omega
      refine gr_run (pc' := 39) 1 rfl ?_
      refine gr_lcmp rfl (by omega) (by omega) ?_
      rw [show (((0 : Fin 2).val : Nat) : Int) = 0 from rfl]
      have hz := cmpZ_ne hne
      refine gr_ifT (t := 86) rfl (by decide) (by omega) (cI_ne (by omega)) ?_
      exact gr_ret rfl rfl
    · have hout : ∀ i, i < n → Q i ≠ c := fun i hi e => hin ⟨i, hi, e⟩
      refine ⟨va_up (va_up (va_up (va_up A 42 (La 1563 (vp_updL g (c / 2 ^ 6) (g (c / 2 ^ 6) ||| bitL (c % 64))))) 40 (Ia 120 (upd qf n (iI c)))) 41 (Ia 120 (upd df n (iI dp)))) 39 (Ob 4 [.ref 40, .ref 41, .ref 42, .int (iI ((n + 1 : Nat) : Int))]), ?_, (((offE.rf.up (by omega)).up (by omega)).up (by omega)).up (by omega), Or.inr ⟨hout, upd qf n (iI c), upd df n (iI dp), vp_updL g (c / 2 ^ 6) (g (c / 2 ^ 6) ||| bitL (c % 64)), up_s, up_n (by decide) (up_n (by decide) up_s), up_n (by decide) up_s, up_n (by decide) (up_n (by decide) (up_n (by decide) up_s)), fun i hi => ?_, fun i hi => ?_, fun k hk i hi => ?_⟩⟩
      · refine rt_intro kX4_enqueue rfl rfl trivial ?_
        refine gr_run (pc' := 1) 1 rfl ?_
        refine gr_ifF (t := 19) rfl (by decide) (by omega) (cN_lt (by omega)) ?_
        refine gr_run (pc' := 7) 2 rfl ?_
        refine gr_icF (t := 19) rfl (by decide) (by omega) (by omega) (cN_ge (by omega)) ?_
        refine gr_run (pc' := 11) 1 rfl ?_
        refine gr_getf rfl rfl (by repeat (first | exact up_s | assumption | refine up_n (by first | assumption | decide | omega) ?_)) (by first | assumption | rfl) rfl ?_
        refine gr_run (pc' := 16) 1 rfl ?_
        refine gr_icT (t := 20) rfl (by decide) (by omega) (by omega) (cI_lt (by omega)) ?_
        refine gr_run (pc' := 24) 3 rfl ?_
        refine gr_iandN (b := 63) rfl ?_
        rw [hmod]
        refine gr_lshl rfl ?_
        rw [show (((1 : Fin 2).val : Nat) : Int) = 1 from rfl, show lI 1 <<< ((iI ((c % 64 : Nat) : Int)).toInt64 &&& 63) = bitL (c % 64) from bitL_eq ⟨c % 64, by omega⟩]
        refine gr_run (pc' := 28) 2 rfl ?_
        refine gr_getf rfl rfl (by repeat (first | exact up_s | assumption | refine up_n (by first | assumption | decide | omega) ?_)) (by first | assumption | rfl) rfl ?_
        refine gr_run (pc' := 34) 2 rfl ?_
        refine gr_ishrN (k0 := 6) rfl (by omega) (by omega) ?_
        refine gr_lald rfl (by repeat (first | exact up_s | assumption | refine up_n (by first | assumption | decide | omega) ?_)) (by first | assumption | rfl) (ix_i rfl (by omega) (by decide)) ?_
        refine gr_run (pc' := 37) 1 rfl ?_
        refine gr_land rfl ?_
        refine gr_tl (lI_of _) ?_
        have hb := bdl_of (g (c / 2 ^ 6) &&& bitL (c % 64))
        have hz : (g (c / 2 ^ 6) &&& bitL (c % 64)) = 0 := bitL_and.mpr (Or.inl (by
          cases hg : (g (c / 2 ^ 6)).toBitVec.getLsbD (c % 64) with
          | false => rfl
          | true => exact absurd (hsp.mp hg) hin))
        rw [hz, show (0 : Int64).toInt = 0 from rfl]
        refine gr_run (pc' := 39) 1 rfl ?_
        refine gr_lcmp rfl (by omega) (by omega) ?_
        rw [cmpZ_eq (a := 0) (b := (((0 : Fin 2).val : Nat) : Int)) rfl]
        refine gr_ifF (t := 86) rfl (by decide) (by omega) (cN_ne (by omega)) ?_
        refine gr_run (pc' := 44) 1 rfl ?_
        refine gr_getf rfl rfl (by repeat (first | exact up_s | assumption | refine up_n (by first | assumption | decide | omega) ?_)) (by first | assumption | rfl) rfl ?_
        refine gr_run (pc' := 50) 2 rfl ?_
        refine gr_ishrN (k0 := 6) rfl (by omega) (by omega) ?_
        refine gr_run (pc' := 52) 1 rfl ?_
        refine gr_lald rfl (by repeat (first | exact up_s | assumption | refine up_n (by first | assumption | decide | omega) ?_)) (by first | assumption | rfl) (ix_i rfl (by omega) (by decide)) ?_
        refine gr_run (pc' := 54) 1 rfl ?_
        refine gr_lor rfl ?_
        refine gr_last rfl (by repeat (first | exact up_s | assumption | refine up_n (by first | assumption | decide | omega) ?_)) (by first | assumption | rfl) (ix_i rfl (by omega) (by decide)) ?_
        refine gr_run (pc' := 57) 1 rfl ?_
        refine gr_getf rfl rfl (by repeat (first | exact up_s | assumption | refine up_n (by first | assumption | decide | omega) ?_)) (by first | assumption | rfl) rfl ?_
        refine gr_run (pc' := 61) 1 rfl ?_
        refine gr_getf rfl rfl (by repeat (first | exact up_s | assumption | refine up_n (by first | assumption | decide | omega) ?_)) (by first | assumption | rfl) rfl ?_
        refine gr_run (pc' := 65) 1 rfl ?_
        refine gr_iast rfl (by repeat (first | exact up_s | assumption | refine up_n (by first | assumption | decide | omega) ?_)) (by first | assumption | rfl) (ix_i rfl (by omega) (by decide)) ?_
        refine gr_run (pc' := 67) 1 rfl ?_
        refine gr_getf rfl rfl (by repeat (first | exact up_s | assumption | refine up_n (by first | assumption | decide | omega) ?_)) (by first | assumption | rfl) rfl ?_
        refine gr_run (pc' := 71) 1 rfl ?_
        refine gr_getf rfl rfl (by repeat (first | exact up_s | assumption | refine up_n (by first | assumption | decide | omega) ?_)) (by first | assumption | rfl) rfl ?_
        refine gr_run (pc' := 75) 1 rfl ?_
        refine gr_iast rfl (by repeat (first | exact up_s | assumption | refine up_n (by first | assumption | decide | omega) ?_)) (by first | assumption | rfl) (ix_i rfl (by omega) (by decide)) ?_
        refine gr_run (pc' := 78) 2 rfl ?_
        refine gr_getf rfl rfl (by repeat (first | exact up_s | assumption | refine up_n (by first | assumption | decide | omega) ?_)) (by first | assumption | rfl) rfl ?_
        refine gr_run (pc' := 82) 1 rfl ?_
        refine gr_iadd rfl ?_
        refine gr_putf rfl rfl rfl (by repeat (first | exact up_s | assumption | refine up_n (by first | assumption | decide | omega) ?_)) (by first | assumption | rfl) rfl rfl ?_
        exact gr_ret rfl rfl
      · unfold upd updN
        by_cases e : i = n
        · rw [if_pos e, if_pos e]
        · rw [if_neg e, if_neg e]; exact h5 i (by omega)
      · unfold upd updN
        by_cases e : i = n
        · rw [if_pos e, if_pos e]
        · rw [if_neg e, if_neg e]; exact h6 i (by omega)
      · unfold vp_updL
        by_cases e : k = c / 2 ^ 6
        · rw [if_pos e, bitL_or hi, ← e, h7 k hk i hi]
          constructor
          · rintro (⟨j, hj, hq⟩ | hq)
            · exact ⟨j, by omega, by rw [show updN Q n c j = Q j from if_neg (by omega)]; exact hq⟩
            · exact ⟨n, by omega, by rw [show updN Q n c n = c from if_pos rfl]; omega⟩
          · rintro ⟨j, hj, hq⟩
            by_cases ej : j = n
            · subst ej
              rw [show updN Q j c j = c from if_pos rfl] at hq
              exact Or.inr (by omega)
            · rw [show updN Q n c j = Q j from if_neg ej] at hq
              exact Or.inl ⟨j, by omega, hq⟩
        · rw [if_neg e, h7 k hk i hi]
          constructor
          · rintro ⟨j, hj, hq⟩
            exact ⟨j, by omega, by rw [show updN Q n c j = Q j from if_neg (by omega)]; exact hq⟩
          · rintro ⟨j, hj, hq⟩
            by_cases ej : j = n
            · subst ej
              rw [show updN Q j c j = c from if_pos rfl] at hq
              omega
            · rw [show updN Q n c j = Q j from if_neg ej] at hq
              exact ⟨j, by omega, hq⟩
  · have hin : ∃ i, i < n ∧ Q i = c := by
      apply Classical.byContradiction
      intro hno
      exact hcap120 (hcap (fun i hi e => hno ⟨i, hi, e⟩))
    refine ⟨A, ?_, offE.rf, Or.inl ⟨hin, rfl⟩⟩
    refine rt_intro kX4_enqueue rfl rfl trivial ?_
    refine gr_run (pc' := 1) 1 rfl ?_
    refine gr_ifF (t := 19) rfl (by decide) (by omega) (cN_lt (by omega)) ?_
    refine gr_run (pc' := 7) 2 rfl ?_
    refine gr_icF (t := 19) rfl (by decide) (by omega) (by omega) (cN_ge (by omega)) ?_
    refine gr_run (pc' := 11) 1 rfl ?_
    refine gr_getf rfl rfl (by repeat (first | exact up_s | assumption | refine up_n (by first | assumption | decide | omega) ?_)) (by first | assumption | rfl) rfl ?_
    refine gr_run (pc' := 16) 1 rfl ?_
    refine gr_icF (t := 20) rfl (by decide) (by omega) (by omega) (cN_lt (by omega)) ?_
    exact gr_ret rfl rfl
end SW
