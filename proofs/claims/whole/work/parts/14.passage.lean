/-! BallsInAir$Passage: at 35, its rows at 36 (away), 37 (queue), 38 (reached) -/
abbrev PS : Type := (Nat → Int) × (Nat → Nat) × Nat
abbrev hPs (A : AH) (q0 : Nat → Int32) (σ : PS) : AH := va_up (va_up (va_up A 35 (Ob 1 [.ref 36, .ref 37, .int (iI (σ.2.2 : Int)), .ref 38])) 36 (Ia 512 (fun i => iI (σ.1 i)))) 37 (Ia 512 (fun i => if i < σ.2.2 then iI ((σ.2.1 i : Nat) : Int) else q0 i))
def enq (σ : PS) (a : Nat) (j : Int) : PS := if σ.1 a = -1 ∧ σ.2.2 < 512 then (fun i => if i = a then j else σ.1 i, fun i => if i = σ.2.2 then a else σ.2.1 i, σ.2.2 + 1) else σ
def enS (σ : PS) (rest low : Nat) (j : Int) : PS := if rest.testBit 8 then σ else enq σ (rest * 2 ^ 1 ||| low) j
def enB (air : Nat) (j : Int) : Nat → PS → PS
  | 0, σ => σ
  | b + 1, σ => enB air j b (if air.testBit b then enS σ (air - 2 ^ b) 1 j else σ)
def enA (σ : PS) (air : Nat) : PS := enB air (σ.1 air + 1) 9 (enS σ air 0 (σ.1 air + 1))
def meF (fr : Nat) : Nat → Nat → PS → PS
  | 0, _, σ => σ
  | f + 1, k, σ => if k < σ.2.2 ∧ σ.1 fr = -1 then meF fr f (k + 1) (enA σ (σ.2.1 k)) else σ
def okP (σ : PS) (B : Int) : Prop := (∀ i, i < 512 → -1 ≤ σ.1 i ∧ σ.1 i ≤ B) ∧ σ.2.2 ≤ 512 ∧ ∀ i, i < σ.2.2 → σ.2.1 i < 512
theorem okP_enq {σ : PS} {B j : Int} {a : Nat} (h : okP σ B) (hj : 0 ≤ j ∧ j ≤ B) (ha : a < 512) : okP (enq σ a j) B := by
  unfold enq
  split
  · rename_i hc
    refine ⟨fun i hi => ?_, by have := hc.2; simp only; omega, fun i hi => ?_⟩
    · simp only
      by_cases e : i = a
      · rw [if_pos e]; omega
      · rw [if_neg e]; exact h.1 i hi
    · simp only at hi ⊢
      by_cases e : i = σ.2.2
      · rw [if_pos e]; exact ha
      · rw [if_neg e]; exact h.2.2 i (by omega)
  · exact h
theorem enS_lt {rest low : Nat} (hr : rest < 512) (hl : low ≤ 1) (hb : ¬ rest.testBit 8 = true) : rest * 2 ^ 1 ||| low < 512 := by
  have h256 : rest < 256 := by
    apply Classical.byContradiction
    intro h
    apply hb
    rw [Nat.testBit_eq_decide_div_mod_eq]
    simp
    omega
  exact Nat.or_lt_two_pow (n := 9) (by omega) (by omega)
theorem okP_enS {σ : PS} {B j : Int} {rest low : Nat} (h : okP σ B) (hj : 0 ≤ j ∧ j ≤ B) (hr : rest < 512) (hl : low ≤ 1) : okP (enS σ rest low j) B := by
  unfold enS
  split
  · exact h
  · rename_i hb
    exact okP_enq h hj (enS_lt hr hl hb)
theorem okP_enB {air : Nat} {B j : Int} (hj : 0 ≤ j ∧ j ≤ B) (ha : air < 512) : ∀ {b : Nat} {σ : PS}, okP σ B → okP (enB air j b σ) B
  | 0, σ, h => h
  | b + 1, σ, h => by
    simp only [enB]
    refine okP_enB hj ha ?_
    split
    · exact okP_enS h hj (Nat.lt_of_le_of_lt (Nat.sub_le _ _) ha) (by omega)
    · exact h
theorem okP_mono {σ : PS} {B B' : Int} (h : okP σ B) (hB : B ≤ B') : okP σ B' := ⟨fun i hi => ⟨(h.1 i hi).1, by have := (h.1 i hi).2; omega⟩, h.2⟩
theorem okP_enA {σ : PS} {B : Int} {air : Nat} (h : okP σ B) (hB : 0 ≤ B) (ha : air < 512) : okP (enA σ air) (B + 1) := by
  have h1 := okP_mono h (show B ≤ B + 1 by omega)
  have h2 := h.1 air ha
  unfold enA
  exact okP_enB (by omega) ha (okP_enS h1 (by omega) ha (by omega))
theorem and_not : ∀ a : Fin 512, ∀ b : Fin 9, a.val.testBit b.val = true → iI ((a.val : Nat) : Int) &&& (iI ((2 ^ b.val : Nat) : Int) ^^^ iI (-1)) = iI ((a.val - 2 ^ b.val : Nat) : Int) := by decide +kernel
theorem hPs_enq {A : AH} {q0 : Nat → Int32} {σ : PS} {a : Nat} {j : Int} (hc : σ.1 a = -1 ∧ σ.2.2 < 512) :
    va_up (va_up (va_up (hPs A q0 σ) 36 (Ia 512 (upd (fun i => iI (σ.1 i)) a (iI j)))) 37 (Ia 512 (upd (fun i => if i < σ.2.2 then iI ((σ.2.1 i : Nat) : Int) else q0 i) σ.2.2 (iI (a : Int))))) 35 (Ob 1 [.ref 36, .ref 37, .int (iI ((σ.2.2 + 1 : Nat) : Int)), .ref 38]) = hPs A q0 (enq σ a j) := by
  have e : enq σ a j = (fun i => if i = a then j else σ.1 i, fun i => if i = σ.2.2 then a else σ.2.1 i, σ.2.2 + 1) := if_pos hc
  rw [e]
  have f1 : upd (fun i => iI (σ.1 i)) a (iI j) = fun i => iI (if i = a then j else σ.1 i) := by
    funext i; unfold upd; split <;> rfl
  have f2 : upd (fun i => if i < σ.2.2 then iI ((σ.2.1 i : Nat) : Int) else q0 i) σ.2.2 (iI (a : Int)) = fun i => if i < σ.2.2 + 1 then iI (((if i = σ.2.2 then a else σ.2.1 i : Nat)) : Int) else q0 i := by
    funext i
    unfold upd
    by_cases h1 : i = σ.2.2
    · rw [if_pos h1, if_pos (by omega), if_pos h1]
    · rw [if_neg h1, if_neg h1]
      dsimp only
      by_cases h2 : i < σ.2.2
      · rw [if_pos h2, if_pos (by omega)]
      · rw [if_neg h2, if_neg (by omega)]
  rw [f1, f2]
  funext k
  simp only [va_up]
  by_cases h5 : k = 35
  · simp [h5]
  · by_cases h6 : k = 36
    · simp [h6]
    · by_cases h7 : k = 37
      · simp [h7]
      · simp [h5, h6, h7]
section PP
variable {d : Nat} {A : AH} {q0 : Nat → Int32} {σ : PS} {B : Int}
theorem r_X1_enqueue {a : Nat} {j : Int} (hσ : okP σ B) (hB : B ≤ 1000) (ha : a < 512) (hj : 0 ≤ j ∧ j ≤ B) : Rt mX1_enqueue (d + 1) [.ref 35, .int (iI a), .int (iI j)] (hPs A q0 σ) none (hPs A q0 (enq σ a j)) := by
  have h1 := hσ.1 a ha
  have h2 := hσ.2.1
  refine rt_intro kX1_enqueue rfl rfl trivial ?_
  refine gr_run (pc' := 1) 1 rfl ?_
  refine gr_callN (As := [_]) lk_1_25 rfl rfl (by decide +kernel) (r_isAirT (by omega)) rfl rfl rfl ?_
  by_cases hc : σ.1 a = -1
  · by_cases hn : σ.2.2 < 512
    · refine gr_ifF (t := 54) rfl (by decide) (by omega) (cN_eq (by omega)) ?_
      refine gr_run (pc' := 8) 1 rfl ?_
      refine gr_getf rfl rfl (by repeat (first | exact up_s | assumption | refine up_n (by first | assumption | decide | omega) ?_)) (by first | assumption | rfl) rfl ?_
      refine gr_run (pc' := 12) 1 rfl ?_
      refine gr_iald rfl (by repeat (first | exact up_s | assumption | refine up_n (by first | assumption | decide | omega) ?_)) (by first | assumption | rfl) (ix_i rfl (by omega) (by decide)) ?_
      refine gr_run (pc' := 14) 1 rfl ?_
      refine gr_icF (t := 54) rfl (by decide) (by omega) (by omega) (cN_ne (by omega)) ?_
      refine gr_run (pc' := 18) 1 rfl ?_
      refine gr_getf rfl rfl (by repeat (first | exact up_s | assumption | refine up_n (by first | assumption | decide | omega) ?_)) (by first | assumption | rfl) rfl ?_
      refine gr_run (pc' := 24) 1 rfl ?_
      refine gr_icF (t := 54) rfl (by decide) (by omega) (by omega) (cN_ge (by omega)) ?_
      refine gr_run (pc' := 28) 1 rfl ?_
      refine gr_getf rfl rfl (by repeat (first | exact up_s | assumption | refine up_n (by first | assumption | decide | omega) ?_)) (by first | assumption | rfl) rfl ?_
      refine gr_run (pc' := 33) 2 rfl ?_
      refine gr_iast rfl (by repeat (first | exact up_s | assumption | refine up_n (by first | assumption | decide | omega) ?_)) (by first | assumption | rfl) (ix_i rfl (by omega) (by decide)) ?_
      refine gr_run (pc' := 35) 1 rfl ?_
      refine gr_getf rfl rfl (by repeat (first | exact up_s | assumption | refine up_n (by first | assumption | decide | omega) ?_)) (by first | assumption | rfl) rfl ?_
      refine gr_run (pc' := 39) 1 rfl ?_
      refine gr_getf rfl rfl (by repeat (first | exact up_s | assumption | refine up_n (by first | assumption | decide | omega) ?_)) (by first | assumption | rfl) rfl ?_
      refine gr_run (pc' := 43) 1 rfl ?_
      refine gr_iast rfl (by repeat (first | exact up_s | assumption | refine up_n (by first | assumption | decide | omega) ?_)) (by first | assumption | rfl) (ix_i rfl (by omega) (by decide)) ?_
      refine gr_run (pc' := 46) 2 rfl ?_
      refine gr_getf rfl rfl (by repeat (first | exact up_s | assumption | refine up_n (by first | assumption | decide | omega) ?_)) (by first | assumption | rfl) rfl ?_
      refine gr_run (pc' := 50) 1 rfl ?_
      refine gr_iadd rfl ?_
      refine gr_putf rfl rfl rfl (by repeat (first | exact up_s | assumption | refine up_n (by first | assumption | decide | omega) ?_)) (by first | assumption | rfl) rfl rfl ?_
      rw [← hPs_enq ⟨hc, hn⟩]
      exact gr_ret rfl rfl
    · rw [show enq σ a j = σ from if_neg (fun z => hn z.2)]
      refine gr_ifF (t := 54) rfl (by decide) (by omega) (cN_eq (by omega)) ?_
      refine gr_run (pc' := 8) 1 rfl ?_
      refine gr_getf rfl rfl (by repeat (first | exact up_s | assumption | refine up_n (by first | assumption | decide | omega) ?_)) (by first | assumption | rfl) rfl ?_
      refine gr_run (pc' := 12) 1 rfl ?_
      refine gr_iald rfl (by repeat (first | exact up_s | assumption | refine up_n (by first | assumption | decide | omega) ?_)) (by first | assumption | rfl) (ix_i rfl (by omega) (by decide)) ?_
      refine gr_run (pc' := 14) 1 rfl ?_
      refine gr_icF (t := 54) rfl (by decide) (by omega) (by omega) (cN_ne (by omega)) ?_
      refine gr_run (pc' := 18) 1 rfl ?_
      refine gr_getf rfl rfl (by repeat (first | exact up_s | assumption | refine up_n (by first | assumption | decide | omega) ?_)) (by first | assumption | rfl) rfl ?_
      refine gr_run (pc' := 24) 1 rfl ?_
      refine gr_icT (t := 54) rfl (by decide) (by omega) (by omega) (cI_ge (by omega)) ?_
      exact gr_ret rfl rfl
  · rw [show enq σ a j = σ from if_neg (fun z => hc z.1)]
    refine gr_ifF (t := 54) rfl (by decide) (by omega) (cN_eq (by omega)) ?_
    refine gr_run (pc' := 8) 1 rfl ?_
    refine gr_getf rfl rfl (by repeat (first | exact up_s | assumption | refine up_n (by first | assumption | decide | omega) ?_)) (by first | assumption | rfl) rfl ?_
    refine gr_run (pc' := 12) 1 rfl ?_
    refine gr_iald rfl (by repeat (first | exact up_s | assumption | refine up_n (by first | assumption | decide | omega) ?_)) (by first | assumption | rfl) (ix_i rfl (by omega) (by decide)) ?_
    refine gr_run (pc' := 14) 1 rfl ?_
    refine gr_icT (t := 54) rfl (by decide) (by omega) (by omega) (cI_ne (by omega)) ?_
    exact gr_ret rfl rfl
theorem r_X1_enqueueShifted {rest low : Nat} {j : Int} (hσ : okP σ B) (hB : B ≤ 1000) (hr : rest < 512) (hl : low ≤ 1) (hj : 0 ≤ j ∧ j ≤ B) : Rt mX1_enqueueShifted (d + 2) [.ref 35, .int (iI rest), .int (iI low), .int (iI j)] (hPs A q0 σ) none (hPs A q0 (enS σ rest low j)) := by
  refine rt_intro kX1_enqueueShifted rfl rfl trivial ?_
  refine gr_run (pc' := 4) 2 rfl ?_
  rw [show (256 : Int) = ((2 ^ 8 : Nat) : Int) from rfl]
  refine gr_iandN rfl ?_
  rw [and_pow]
  by_cases hb : rest.testBit 8 = true
  · rw [if_pos hb, show enS σ rest low j = σ from if_pos hb]
    refine gr_ifT (t := 18) rfl (by decide) (by omega) (cI_ne (by omega)) ?_
    exact gr_ret rfl rfl
  · rw [if_neg hb, show enS σ rest low j = enq σ (rest * 2 ^ 1 ||| low) j from if_neg hb]
    refine gr_ifF (t := 18) rfl (by decide) (by omega) (cN_ne (by omega)) ?_
    refine gr_run (pc' := 11) 3 rfl ?_
    refine gr_ishlN (k0 := 1) rfl (by omega) (by omega) ?_
    refine gr_run (pc' := 13) 1 rfl ?_
    refine gr_iorN rfl ?_
    refine gr_run (pc' := 15) 1 rfl ?_
    refine gr_callV (As := [_, _]) lk_1_41 rfl rfl (r_X1_enqueue hσ hB (enS_lt hr hl hb) hj) (by repeat (first | exact up_s | assumption | refine up_n (by first | assumption | decide | omega) ?_)) (by first | assumption | exact Nat.le_of_ble_eq_true rfl | exact Nat.le_of_ble_eq_true (by assumption)) rfl rfl rfl rfl rfl ?_
    exact gr_ret rfl rfl
theorem r_X1_enqueueAirs {air : Nat} (hσ : okP σ B) (hB : 0 ≤ B ∧ B < 1000) (ha : air < 512) : Rt mX1_enqueueAirsBefore (d + 3) [.ref 35, .int (iI air)] (hPs A q0 σ) none (hPs A q0 (enA σ air)) := by
  have h1 := hσ.1 air ha
  have key : ∀ (b : Nat) (τ : PS), b ≤ 9 → okP τ (B + 1) → Gr mX1_enqueueAirsBefore (d + 3) 20 [some (.ref 35), some (.int (iI (air : Int))), some (.int (iI (σ.1 air + 1))), some (.int (iI ((2 ^ b / 2 : Nat) : Int)))] [] (hPs A q0 τ) none (hPs A q0 (enB air (σ.1 air + 1) b τ)) := by
    intro b
    induction b with
    | zero =>
      intro τ _ _
      rw [show (2 ^ 0 / 2 : Nat) = 0 from rfl]
      refine gr_run (pc' := 21) 1 rfl ?_
      refine gr_ifT (t := 48) rfl (by decide) (by omega) (cI_le (by omega)) ?_
      exact gr_ret rfl rfl
    | succ b ih =>
      intro τ hb hτ
      have hp := Nat.two_pow_pos b
      have hp2 := pow2_le30 (k := b) (by omega)
      rw [show (2 ^ (b + 1) / 2 : Nat) = 2 ^ b by rw [Nat.pow_succ]; omega]
      refine gr_run (pc' := 21) 1 rfl ?_
      refine gr_ifF (t := 48) rfl (by decide) (by omega) (cN_le (by omega)) ?_
      refine gr_run (pc' := 26) 2 rfl ?_
      refine gr_iandN rfl ?_
      rw [and_pow]
      by_cases hbit : air.testBit b = true
      · rw [if_pos hbit]
        refine gr_ifF (t := 41) rfl (by decide) (by omega) (cN_eq (by omega)) ?_
        refine gr_run (pc' := 34) 4 rfl ?_
        refine gr_ixor rfl ?_
        refine gr_iand rfl ?_
        rw [and_not ⟨air, ha⟩ ⟨b, by omega⟩ hbit]
        refine gr_run (pc' := 38) 2 rfl ?_
        refine gr_callV (As := [_, _, _]) lk_1_48 rfl rfl (r_X1_enqueueShifted (low := 1) (rest := air - 2 ^ b) hτ (by omega) (by omega) (by omega) (by omega)) (by repeat (first | exact up_s | assumption | refine up_n (by first | assumption | decide | omega) ?_)) (by first | assumption | exact Nat.le_of_ble_eq_true rfl | exact Nat.le_of_ble_eq_true (by assumption)) rfl rfl rfl rfl rfl ?_
        refine gr_run (pc' := 43) 2 rfl ?_
        refine gr_ishrN (k0 := 1) rfl (by omega) (by omega) ?_
        rw [show (2 ^ b / 2 ^ 1 : Nat) = 2 ^ b / 2 from rfl]
        refine gr_run (pc' := 20) 2 rfl ?_
        have := ih (enS τ (air - 2 ^ b) 1 (σ.1 air + 1)) (by omega) (okP_enS hτ (by omega) (by omega) (by omega))
        simp only [enB, if_pos hbit]
        exact this
      · rw [if_neg hbit]
        refine gr_ifT (t := 41) rfl (by decide) (by omega) (cI_eq (by omega)) ?_
        refine gr_run (pc' := 43) 2 rfl ?_
        refine gr_ishrN (k0 := 1) rfl (by omega) (by omega) ?_
        rw [show (2 ^ b / 2 ^ 1 : Nat) = 2 ^ b / 2 from rfl]
        refine gr_run (pc' := 20) 2 rfl ?_
        have := ih τ (by omega) hτ
        simp only [enB, if_neg hbit]
        exact this
  refine rt_intro kX1_enqueueAirsBefore rfl rfl trivial ?_
  refine gr_run (pc' := 1) 1 rfl ?_
  refine gr_getf rfl rfl (by repeat (first | exact up_s | assumption | refine up_n (by first | assumption | decide | omega) ?_)) (by first | assumption | rfl) rfl ?_
  refine gr_run (pc' := 5) 1 rfl ?_
  refine gr_iald rfl (by repeat (first | exact up_s | assumption | refine up_n (by first | assumption | decide | omega) ?_)) (by first | assumption | rfl) (ix_i rfl (by omega) (by decide)) ?_
  refine gr_run (pc' := 7) 1 rfl ?_
  refine gr_iadd rfl ?_
  refine gr_run (pc' := 13) 5 rfl ?_
  refine gr_callV (As := [_, _, _]) lk_1_48 rfl rfl (r_X1_enqueueShifted (low := 0) (rest := air) (okP_mono hσ (show B ≤ B + 1 by omega)) (by omega) ha (by omega) (by omega)) (by repeat (first | exact up_s | assumption | refine up_n (by first | assumption | decide | omega) ?_)) (by first | assumption | exact Nat.le_of_ble_eq_true rfl | exact Nat.le_of_ble_eq_true (by assumption)) rfl rfl rfl rfl rfl ?_
  refine gr_run (pc' := 20) 2 rfl ?_
  exact key 9 _ (by omega) (okP_enS (okP_mono hσ (show B ≤ B + 1 by omega)) (by omega) ha (by omega))
/-- nothing seen yet, but the end -/
def me0 (a0 : Nat → Int32) (tt : Nat) : PS := enq (fun i => if i < 512 then -1 else (a0 i).toInt, fun _ => 0, 0) tt 0
theorem okP_00 {a0 : Nat → Int32} : okP (fun i => if i < 512 then -1 else (a0 i).toInt, fun _ => 0, 0) 0 := ⟨fun i hi => by simp only [if_pos hi]; omega, by simp, fun i hi => by simp at hi⟩
theorem okP_me0 {a0 : Nat → Int32} {tt : Nat} (ht : tt < 512) : okP (me0 a0 tt) 0 := okP_enq okP_00 (by omega) ht
theorem r_X1_measure {x : Int32} {a0 : Nat → Int32} {fr tt : Nat} (hq : A 35 = Ob 1 [.ref 36, .ref 37, .int x, .ref 38]) (hw : A 36 = Ia 512 a0) (hu : A 37 = Ia 512 q0) (hf : fr < 512) (ht : tt < 512) : Rt mX1_measure (d + 4) [.ref 35, .int (iI fr), .int (iI tt)] A none (hPs A q0 (meF fr 512 0 (me0 a0 tt))) := by
  have loop : ∀ (f k : Nat) (τ : PS), k + f = 512 → okP τ (k : Int) → Gr mX1_measure (d + 4) 35 [some (.ref 35), some (.int (iI fr)), some (.int (iI tt)), some (.int (iI (k : Int)))] [] (hPs A q0 τ) none (hPs A q0 (meF fr f k τ)) := by
    intro f
    induction f with
    | zero =>
      intro k τ hk hτ
      have h2 := hτ.2.1
      simp only [meF]
      by_cases hn : k < τ.2.2
      · refine gr_run (pc' := 37) 2 rfl ?_
        refine gr_getf rfl rfl (by repeat (first | exact up_s | assumption | refine up_n (by first | assumption | decide | omega) ?_)) (by first | assumption | rfl) rfl ?_
        refine gr_icF (t := 76) rfl (by decide) (by omega) (by omega) (cN_ge (by omega)) ?_
        refine gr_run (pc' := 47) 2 rfl ?_
        refine gr_icT (t := 76) rfl (by decide) (by omega) (by omega) (cI_ge (by omega)) ?_
        exact gr_ret rfl rfl
      · refine gr_run (pc' := 37) 2 rfl ?_
        refine gr_getf rfl rfl (by repeat (first | exact up_s | assumption | refine up_n (by first | assumption | decide | omega) ?_)) (by first | assumption | rfl) rfl ?_
        refine gr_icT (t := 76) rfl (by decide) (by omega) (by omega) (cI_ge (by omega)) ?_
        exact gr_ret rfl rfl
    | succ f ih =>
      intro k τ hk hτ
      have h1 := hτ.1 fr hf
      have h2 := hτ.2.1
      simp only [meF]
      by_cases hn : k < τ.2.2
      · by_cases hs : τ.1 fr = -1
        · rw [if_pos ⟨hn, hs⟩]
          have hq := hτ.2.2 k hn
          refine gr_run (pc' := 37) 2 rfl ?_
          refine gr_getf rfl rfl (by repeat (first | exact up_s | assumption | refine up_n (by first | assumption | decide | omega) ?_)) (by first | assumption | rfl) rfl ?_
          refine gr_icF (t := 76) rfl (by decide) (by omega) (by omega) (cN_ge (by omega)) ?_
          refine gr_run (pc' := 47) 2 rfl ?_
          refine gr_icF (t := 76) rfl (by decide) (by omega) (by omega) (cN_ge (by omega)) ?_
          refine gr_run (pc' := 51) 1 rfl ?_
          refine gr_getf rfl rfl (by repeat (first | exact up_s | assumption | refine up_n (by first | assumption | decide | omega) ?_)) (by first | assumption | rfl) rfl ?_
          refine gr_run (pc' := 55) 1 rfl ?_
          refine gr_iald rfl (by repeat (first | exact up_s | assumption | refine up_n (by first | assumption | decide | omega) ?_)) (by first | assumption | rfl) (ix_i rfl (by omega) (by decide)) ?_
          refine gr_run (pc' := 57) 1 rfl ?_
          refine gr_icF (t := 76) rfl (by decide) (by omega) (by omega) (cN_ne (by omega)) ?_
          refine gr_run (pc' := 62) 2 rfl ?_
          refine gr_getf rfl rfl (by repeat (first | exact up_s | assumption | refine up_n (by first | assumption | decide | omega) ?_)) (by first | assumption | rfl) rfl ?_
          refine gr_run (pc' := 66) 1 rfl ?_
          refine gr_iald rfl (by repeat (first | exact up_s | assumption | refine up_n (by first | assumption | decide | omega) ?_)) (by first | assumption | rfl) (ix_i rfl (by omega) (by decide)) ?_
          rw [if_pos hn]
          refine gr_callV (As := [_]) lk_1_44 rfl rfl (r_X1_enqueueAirs hτ (by omega) hq) (by repeat (first | exact up_s | assumption | refine up_n (by first | assumption | decide | omega) ?_)) (by first | assumption | exact Nat.le_of_ble_eq_true rfl | exact Nat.le_of_ble_eq_true (by assumption)) rfl rfl rfl rfl rfl ?_
          refine gr_iinc rfl rfl rfl rfl ?_
          refine gr_run (pc' := 35) 1 rfl ?_
          exact ih (k + 1) _ (by omega) (by have := okP_enA hτ (by omega) hq; exact this)
        · rw [if_neg (fun z => hs z.2)]
          refine gr_run (pc' := 37) 2 rfl ?_
          refine gr_getf rfl rfl (by repeat (first | exact up_s | assumption | refine up_n (by first | assumption | decide | omega) ?_)) (by first | assumption | rfl) rfl ?_
          refine gr_icF (t := 76) rfl (by decide) (by omega) (by omega) (cN_ge (by omega)) ?_
          refine gr_run (pc' := 47) 2 rfl ?_
          refine gr_icF (t := 76) rfl (by decide) (by omega) (by omega) (cN_ge (by omega)) ?_
          refine gr_run (pc' := 51) 1 rfl ?_
          refine gr_getf rfl rfl (by repeat (first | exact up_s | assumption | refine up_n (by first | assumption | decide | omega) ?_)) (by first | assumption | rfl) rfl ?_
          refine gr_run (pc' := 55) 1 rfl ?_
          refine gr_iald rfl (by repeat (first | exact up_s | assumption | refine up_n (by first | assumption | decide | omega) ?_)) (by first | assumption | rfl) (ix_i rfl (by omega) (by decide)) ?_
          refine gr_run (pc' := 57) 1 rfl ?_
          refine gr_icT (t := 76) rfl (by decide) (by omega) (by omega) (cI_ne (by omega)) ?_
          exact gr_ret rfl rfl
      · rw [if_neg (fun z => hn z.1)]
        refine gr_run (pc' := 37) 2 rfl ?_
        refine gr_getf rfl rfl (by repeat (first | exact up_s | assumption | refine up_n (by first | assumption | decide | omega) ?_)) (by first | assumption | rfl) rfl ?_
        refine gr_icT (t := 76) rfl (by decide) (by omega) (by omega) (cI_ge (by omega)) ?_
        exact gr_ret rfl rfl
  have zero : ∀ i : Nat, i ≤ 512 → Gr mX1_measure (d + 4) 2 [some (.ref 35), some (.int (iI fr)), some (.int (iI tt)), some (.int (iI (i : Int)))] [] (va_up A 36 (Ia 512 (fun j => if j < i then iI (-1) else a0 j))) none (hPs A q0 (meF fr 512 0 (me0 a0 tt))) := by
    refine go_up ?_ ?_
    · refine gr_run (pc' := 6) 2 rfl ?_
      refine gr_icT (t := 22) rfl (by decide) (by omega) (by omega) (cI_ge (by omega)) ?_
      refine gr_run (pc' := 24) 2 rfl ?_
      refine gr_putf rfl rfl rfl (by repeat (first | exact up_s | assumption | refine up_n (by first | assumption | decide | omega) ?_)) (by first | assumption | rfl) rfl rfl ?_
      refine gr_run (pc' := 30) 3 rfl ?_
      have e : va_up (va_up A 36 (Ia 512 (fun j => if j < 512 then iI (-1) else a0 j))) 35 (Ob 1 [.ref 36, .ref 37, .int (iI 0), .ref 38]) = hPs A q0 (fun i => if i < 512 then -1 else (a0 i).toInt, fun _ => 0, 0) := by
        funext k
        simp only [va_up]
        by_cases h5 : k = 35
        · simp [h5]
        · by_cases h6 : k = 36
          · simp [h6]
            funext i
            split
            · rfl
            · exact iI_of _
          · by_cases h7 : k = 37
            · simp [h7, hu]
            · simp [h5, h6, h7]
      refine gr_h e ?_
      refine gr_callV (As := [_, _]) lk_1_41 rfl rfl (r_X1_enqueue okP_00 (by omega) ht (by omega)) (by repeat (first | exact up_s | assumption | refine up_n (by first | assumption | decide | omega) ?_)) (by first | assumption | exact Nat.le_of_ble_eq_true rfl | exact Nat.le_of_ble_eq_true (by assumption)) rfl rfl rfl rfl rfl ?_
      refine gr_run (pc' := 35) 2 rfl ?_
      exact loop 512 0 _ (by omega) (okP_me0 ht)
    · intro i hi ih
      refine gr_run (pc' := 6) 2 rfl ?_
      refine gr_icF (t := 22) rfl (by decide) (by omega) (by omega) (cN_ge (by omega)) ?_
      refine gr_run (pc' := 10) 1 rfl ?_
      refine gr_getf rfl rfl (by repeat (first | exact up_s | assumption | refine up_n (by first | assumption | decide | omega) ?_)) (by first | assumption | rfl) rfl ?_
      refine gr_run (pc' := 15) 2 rfl ?_
      refine gr_iast rfl (by repeat (first | exact up_s | assumption | refine up_n (by first | assumption | decide | omega) ?_)) (by first | assumption | rfl) (ix_i rfl (by omega) (by decide)) ?_
      rw [bx_uu, upd_lt (g := fun _ => iI (-1))]
      refine gr_iinc rfl rfl rfl rfl ?_
      refine gr_run (pc' := 2) 1 rfl ?_
      exact ih
  refine rt_intro kX1_measure rfl rfl trivial ?_
  refine gr_run (pc' := 2) 2 rfl ?_
  refine gr_h ?_ (zero 0 (by omega))
  exact (up_same (by simpa using hw)).symm
end PP
