/-! Passage: firstThrow, answer, reaching -/
def ftS (aw : Nat → Int) (air : Nat) : Nat → Nat
  | 0 => 0
  | m + 1 => if air.testBit (9 - m) = false ∧ aw (thr air (9 - m)) = aw air - 1 then 9 - m else ftS aw air m
def ftA (aw : Nat → Int) (air : Nat) : Nat := if air % 2 = 0 then 0 else ftS aw air 9
theorem ftS_le {aw : Nat → Int} {air : Nat} : ∀ {m : Nat}, ftS aw air m ≤ 9
  | 0 => by simp [ftS]
  | m + 1 => by
    simp only [ftS]
    split
    · omega
    · exact ftS_le
theorem ftA_le {aw : Nat → Int} {air : Nat} : ftA aw air ≤ 9 := by
  unfold ftA
  split
  · omega
  · exact ftS_le
def anW (aw : Nat → Int) (fr : Nat) : Nat → Nat
  | 0 => fr
  | k + 1 => thr (anW aw fr k) (ftA aw (anW aw fr k))
theorem anW_lt {aw : Nat → Int} {fr : Nat} (hf : fr < 512) : ∀ k, anW aw fr k < 512
  | 0 => hf
  | k + 1 => thr_lt (anW_lt hf k) ftA_le
def anF (aw : Nat → Int) (fr : Nat) (i : Int) : Int := if aw fr = -1 then -4 else if i < 0 then aw fr else if aw fr ≤ i then -4 else ((ftA aw (anW aw fr i.toNat) : Nat) : Int)
theorem and1 (a : Nat) : a &&& 1 = a % 2 := Nat.and_one_is_mod a
/-- one throw of a way -/
def stp1 (a b : Nat) : Prop := (a % 2 = 0 ∧ b = thr a 0) ∨ (a % 2 = 1 ∧ ∃ x : Nat, 1 ≤ x ∧ x ≤ 9 ∧ a.testBit x = false ∧ b = thr a x)
def RS (s : Nat) : Nat → Nat → Prop
  | 0, a => a = s
  | n + 1, b => ∃ a, a < 512 ∧ RS s n a ∧ stp1 a b
noncomputable def tmF (P : Nat → Prop) : Nat → Nat → Int
  | 0, _ => -4
  | m + 1, n => @ite Int (P n) (Classical.propDecidable _) (n : Int) (tmF P m (n + 1))
theorem tmF_t {P : Nat → Prop} {m n : Nat} (h : P n) : tmF P (m + 1) n = n := by
  simp only [tmF]
  exact @if_pos _ (Classical.propDecidable _) h _ _ _
theorem tmF_f {P : Nat → Prop} {m n : Nat} (h : ¬ P n) : tmF P (m + 1) n = tmF P m (n + 1) := by
  simp only [tmF]
  exact @if_neg _ (Classical.propDecidable _) h _ _ _
theorem tmF_congr {P Q : Nat → Prop} : ∀ {m n : Nat}, (∀ i, n ≤ i → i < n + m → (P i ↔ Q i)) → tmF P m n = tmF Q m n
  | 0, n, _ => rfl
  | m + 1, n, h => by
    by_cases hp : P n
    · rw [tmF_t hp, tmF_t ((h n (by omega) (by omega)).mp hp)]
    · rw [tmF_f hp, tmF_f (fun q => hp ((h n (by omega) (by omega)).mpr q))]
      exact tmF_congr (fun i h1 h2 => h i (by omega) (by omega))
section PQ
variable {d : Nat} {A : AH} {aw : Nat → Int} {v : Nat} {x : Int32}
theorem r_X1_firstThrow {air : Nat} (hq : A 35 = Ob 1 [.ref 36, .ref 37, .int x, .ref 38]) (hw : A 36 = Ia 512 (fun i => iI (aw i))) (hb : ∀ i, i < 512 → -1 ≤ aw i ∧ aw i ≤ 1000) (ha : air < 512) : Rt mX1_firstThrow (d + 1) [.ref 35, .int (iI air)] A (some (.int (iI ((ftA aw air : Nat) : Int)))) A := by
  have h0 := hb air ha
  have key : ∀ m, m ≤ 9 → Gr mX1_firstThrow (d + 1) 10 [some (.ref 35), some (.int (iI air)), some (.int (iI ((10 - m : Nat) : Int)))] [] A (some (.int (iI ((ftS aw air m : Nat) : Int)))) A := by
    intro m
    induction m with
    | zero =>
      intro _
      refine gr_run (pc' := 13) 2 rfl ?_
      refine gr_icT (t := 53) rfl (by decide) (by omega) (by omega) (cI_gt (by omega)) ?_
      refine gr_run (pc' := 54) 1 rfl ?_
      exact gr_ret rfl rfl
    | succ m ih =>
      intro hm
      rw [show 10 - (m + 1) = 9 - m by omega]
      have hnext : Gr mX1_firstThrow (d + 1) 47 [some (.ref 35), some (.int (iI air)), some (.int (iI ((9 - m : Nat) : Int)))] [] A (some (.int (iI ((ftS aw air m : Nat) : Int)))) A := by
        refine gr_iinc rfl rfl rfl rfl ?_
        refine gr_run (pc' := 10) 1 rfl ?_
        rw [show ((9 - m : Nat) : Int) + 1 = ((10 - m : Nat) : Int) by omega]
        exact ih (by omega)
      have ht := thr_lt ha (show 9 - m ≤ 9 by omega)
      have h1 := hb _ ht
      simp only [ftS]
      refine gr_run (pc' := 13) 2 rfl ?_
      refine gr_icF (t := 53) rfl (by decide) (by omega) (by omega) (cN_gt (by omega)) ?_
      refine gr_run (pc' := 18) 2 rfl ?_
      by_cases hbit : air.testBit (9 - m) = true
      · rw [if_neg (fun z => by rw [z.1] at hbit; cases hbit)]
        refine gr_callN (As := [_, _]) lk_1_52 rfl rfl (by decide +kernel) (r_isTakenT ha (by omega) hbit) rfl rfl rfl ?_
        refine gr_ifT (t := 47) rfl (by decide) (by omega) (cI_ne (by omega)) ?_
        exact hnext
      · refine gr_callN (As := [_, _]) lk_1_52 rfl rfl (by decide +kernel) (r_isTakenF ha (by omega) (by simpa using hbit)) rfl rfl rfl ?_
        refine gr_ifF (t := 47) rfl (by decide) (by omega) (cN_ne (by omega)) ?_
        refine gr_run (pc' := 25) 1 rfl ?_
        refine gr_getf rfl rfl (by repeat (first | exact up_s | assumption | refine up_n (by first | assumption | decide | omega) ?_)) (by first | assumption | rfl) rfl ?_
        refine gr_run (pc' := 30) 2 rfl ?_
        refine gr_callN (As := [_, _]) lk_1_37 rfl rfl (by decide +kernel) (r_thrown ha (by omega)) rfl rfl rfl ?_
        by_cases hd : aw (thr air (9 - m)) = aw air - 1
        · rw [if_pos ⟨by simpa using hbit, hd⟩]
          refine gr_iald rfl (by repeat (first | exact up_s | assumption | refine up_n (by first | assumption | decide | omega) ?_)) (by first | assumption | rfl) (ix_i rfl (by omega) (by decide)) ?_
          refine gr_run (pc' := 35) 1 rfl ?_
          refine gr_getf rfl rfl (by repeat (first | exact up_s | assumption | refine up_n (by first | assumption | decide | omega) ?_)) (by first | assumption | rfl) rfl ?_
          refine gr_run (pc' := 39) 1 rfl ?_
          refine gr_iald rfl (by repeat (first | exact up_s | assumption | refine up_n (by first | assumption | decide | omega) ?_)) (by first | assumption | rfl) (ix_i rfl (by omega) (by decide)) ?_
          refine gr_run (pc' := 41) 1 rfl ?_
          refine gr_isub rfl ?_
          refine gr_icF (t := 47) rfl (by decide) (by omega) (by omega) (cN_ne (by omega)) ?_
          refine gr_run (pc' := 46) 1 rfl ?_
          exact gr_ret rfl rfl
        · rw [if_neg (fun z => hd z.2)]
          refine gr_iald rfl (by repeat (first | exact up_s | assumption | refine up_n (by first | assumption | decide | omega) ?_)) (by first | assumption | rfl) (ix_i rfl (by omega) (by decide)) ?_
          refine gr_run (pc' := 35) 1 rfl ?_
          refine gr_getf rfl rfl (by repeat (first | exact up_s | assumption | refine up_n (by first | assumption | decide | omega) ?_)) (by first | assumption | rfl) rfl ?_
          refine gr_run (pc' := 39) 1 rfl ?_
          refine gr_iald rfl (by repeat (first | exact up_s | assumption | refine up_n (by first | assumption | decide | omega) ?_)) (by first | assumption | rfl) (ix_i rfl (by omega) (by decide)) ?_
          refine gr_run (pc' := 41) 1 rfl ?_
          refine gr_isub rfl ?_
          refine gr_icT (t := 47) rfl (by decide) (by omega) (by omega) (cI_ne (by omega)) ?_
          exact hnext
  refine rt_intro kX1_firstThrow rfl rfl rfl ?_
  refine gr_run (pc' := 2) 2 rfl ?_
  refine gr_iandN (b := 1) rfl ?_
  rw [and1]
  unfold ftA
  by_cases he : air % 2 = 0
  · rw [if_pos he]
    refine gr_ifF (t := 8) rfl (by decide) (by omega) (cN_ne (by omega)) ?_
    refine gr_run (pc' := 7) 1 rfl ?_
    exact gr_ret rfl rfl
  · rw [if_neg he]
    refine gr_ifT (t := 8) rfl (by decide) (by omega) (cI_ne (by omega)) ?_
    refine gr_run (pc' := 10) 2 rfl ?_
    exact key 9 (by omega)
theorem r_X1_answer {a0 q0 : Nat → Int32} {fr tt : Nat} {i : Int} (hq : A 35 = Ob 1 [.ref 36, .ref 37, .int x, .ref 38]) (hw : A 36 = Ia 512 a0) (hu : A 37 = Ia 512 q0) (hf : fr < 512) (ht : tt < 512) (hi : -1 ≤ i ∧ bd i) (hok : okP (meF fr 512 0 (me0 a0 tt)) 600) :
    Rt mX1_answer (d + 5) [.ref 35, .int (iI fr), .int (iI tt), .int (iI i)] A (some (.int (iI (anF (meF fr 512 0 (me0 a0 tt)).1 fr i)))) (hPs A q0 (meF fr 512 0 (me0 a0 tt))) := by
  have hb : ∀ i, i < 512 → -1 ≤ (meF fr 512 0 (me0 a0 tt)).1 i ∧ (meF fr 512 0 (me0 a0 tt)).1 i ≤ 1000 := fun i hi => by have := hok.1 i hi; omega
  refine rt_intro kX1_answer rfl rfl rfl ?_
  refine gr_run (pc' := 1) 1 rfl ?_
  refine gr_callN (As := [_]) lk_1_25 rfl rfl (by decide +kernel) (r_isAirT (by omega)) rfl rfl rfl ?_
  refine gr_ifF (t := 14) rfl (by decide) (by omega) (cN_eq (by omega)) ?_
  refine gr_run (pc' := 8) 1 rfl ?_
  refine gr_callN (As := [_]) lk_1_25 rfl rfl (by decide +kernel) (r_isAirT (by omega)) rfl rfl rfl ?_
  refine gr_ifT (t := 17) rfl (by decide) (by omega) (cI_ne (by omega)) ?_
  refine gr_run (pc' := 20) 3 rfl ?_
  refine gr_callV (As := [_, _]) lk_1_29 rfl rfl (r_X1_measure hq hw hu hf ht) (by repeat (first | exact up_s | assumption | refine up_n (by first | assumption | decide | omega) ?_)) (by first | assumption | exact Nat.le_of_ble_eq_true rfl | exact Nat.le_of_ble_eq_true (by assumption)) rfl rfl rfl rfl rfl ?_
  generalize hσ : meF fr 512 0 (me0 a0 tt) = σ at *
  have h0 := hb fr hf
  unfold anF
  by_cases hs : σ.1 fr = -1
  · rw [if_pos hs]
    refine gr_run (pc' := 24) 1 rfl ?_
    refine gr_getf rfl rfl (by repeat (first | exact up_s | assumption | refine up_n (by first | assumption | decide | omega) ?_)) (by first | assumption | rfl) rfl ?_
    refine gr_run (pc' := 28) 1 rfl ?_
    refine gr_iald rfl (by repeat (first | exact up_s | assumption | refine up_n (by first | assumption | decide | omega) ?_)) (by first | assumption | rfl) (ix_i rfl (by omega) (by decide)) ?_
    refine gr_run (pc' := 34) 3 rfl ?_
    refine gr_icF (t := 40) rfl (by decide) (by omega) (by omega) (cN_ne (by omega)) ?_
    refine gr_run (pc' := 39) 1 rfl ?_
    exact gr_ret rfl rfl
  · rw [if_neg hs]
    by_cases hi0 : i < 0
    · rw [if_pos hi0]
      refine gr_run (pc' := 24) 1 rfl ?_
      refine gr_getf rfl rfl (by repeat (first | exact up_s | assumption | refine up_n (by first | assumption | decide | omega) ?_)) (by first | assumption | rfl) rfl ?_
      refine gr_run (pc' := 28) 1 rfl ?_
      refine gr_iald rfl (by repeat (first | exact up_s | assumption | refine up_n (by first | assumption | decide | omega) ?_)) (by first | assumption | rfl) (ix_i rfl (by omega) (by decide)) ?_
      refine gr_run (pc' := 34) 3 rfl ?_
      refine gr_icT (t := 40) rfl (by decide) (by omega) (by omega) (cI_ne (by omega)) ?_
      refine gr_run (pc' := 41) 1 rfl ?_
      refine gr_ifF (t := 47) rfl (by decide) (by omega) (cN_ge (by omega)) ?_
      refine gr_run (pc' := 46) 1 rfl ?_
      exact gr_ret rfl rfl
    · rw [if_neg hi0]
      by_cases hle : σ.1 fr ≤ i
      · rw [if_pos hle]
        refine gr_run (pc' := 24) 1 rfl ?_
        refine gr_getf rfl rfl (by repeat (first | exact up_s | assumption | refine up_n (by first | assumption | decide | omega) ?_)) (by first | assumption | rfl) rfl ?_
        refine gr_run (pc' := 28) 1 rfl ?_
        refine gr_iald rfl (by repeat (first | exact up_s | assumption | refine up_n (by first | assumption | decide | omega) ?_)) (by first | assumption | rfl) (ix_i rfl (by omega) (by decide)) ?_
        refine gr_run (pc' := 34) 3 rfl ?_
        refine gr_icT (t := 40) rfl (by decide) (by omega) (by omega) (cI_ne (by omega)) ?_
        refine gr_run (pc' := 41) 1 rfl ?_
        refine gr_ifT (t := 47) rfl (by decide) (by omega) (cI_ge (by omega)) ?_
        refine gr_run (pc' := 50) 2 rfl ?_
        refine gr_icF (t := 56) rfl (by decide) (by omega) (by omega) (cN_lt (by omega)) ?_
        refine gr_run (pc' := 55) 1 rfl ?_
        exact gr_ret rfl rfl
      · rw [if_neg hle]
        obtain ⟨k, hk⟩ : ∃ k : Nat, i = (k : Int) := ⟨i.toNat, by omega⟩
        subst hk
        have walk : ∀ j, j ≤ k → Gr mX1_answer (d + 5) 62 [some (.ref 35), some (.int (iI fr)), some (.int (iI tt)), some (.int (iI (k : Int))), some (.int (iI (σ.1 fr))), some (.int (iI ((anW σ.1 fr j : Nat) : Int))), some (.int (iI (j : Int)))] [] (hPs A q0 σ) (some (.int (iI ((ftA σ.1 (anW σ.1 fr k) : Nat) : Int)))) (hPs A q0 σ) := by
          refine go_up ?_ ?_
          · refine gr_run (pc' := 65) 2 rfl ?_
            refine gr_icT (t := 87) rfl (by decide) (by omega) (by omega) (cI_ge (by omega)) ?_
            refine gr_run (pc' := 90) 2 rfl ?_
            refine gr_callV (As := [_]) lk_1_33 rfl rfl (r_X1_firstThrow (x := iI (σ.2.2 : Int)) (up_n (by decide) (up_n (by decide) up_s)) (up_n (by decide) up_s) hb (anW_lt hf k)) (by repeat (first | exact up_s | assumption | refine up_n (by first | assumption | decide | omega) ?_)) (by first | assumption | exact Nat.le_of_ble_eq_true rfl | exact Nat.le_of_ble_eq_true (by assumption)) rfl rfl rfl rfl rfl ?_
            exact gr_ret rfl rfl
          · intro j hj ih
            refine gr_run (pc' := 65) 2 rfl ?_
            refine gr_icF (t := 87) rfl (by decide) (by omega) (by omega) (cN_ge (by omega)) ?_
            refine gr_run (pc' := 73) 3 rfl ?_
            refine gr_callV (As := [_]) lk_1_33 rfl rfl (r_X1_firstThrow (x := iI (σ.2.2 : Int)) (up_n (by decide) (up_n (by decide) up_s)) (up_n (by decide) up_s) hb (anW_lt hf j)) (by repeat (first | exact up_s | assumption | refine up_n (by first | assumption | decide | omega) ?_)) (by first | assumption | exact Nat.le_of_ble_eq_true rfl | exact Nat.le_of_ble_eq_true (by assumption)) rfl rfl rfl rfl rfl ?_
            refine gr_callN (As := [_, _]) lk_1_37 rfl rfl (by decide +kernel) (r_thrown (anW_lt hf j) ftA_le) rfl rfl rfl ?_
            refine gr_run (pc' := 81) 1 rfl ?_
            refine gr_iinc rfl rfl rfl rfl ?_
            refine gr_run (pc' := 62) 1 rfl ?_
            exact ih
        refine gr_run (pc' := 24) 1 rfl ?_
        refine gr_getf rfl rfl (by repeat (first | exact up_s | assumption | refine up_n (by first | assumption | decide | omega) ?_)) (by first | assumption | rfl) rfl ?_
        refine gr_run (pc' := 28) 1 rfl ?_
        refine gr_iald rfl (by repeat (first | exact up_s | assumption | refine up_n (by first | assumption | decide | omega) ?_)) (by first | assumption | rfl) (ix_i rfl (by omega) (by decide)) ?_
        refine gr_run (pc' := 34) 3 rfl ?_
        refine gr_icT (t := 40) rfl (by decide) (by omega) (by omega) (cI_ne (by omega)) ?_
        refine gr_run (pc' := 41) 1 rfl ?_
        refine gr_ifT (t := 47) rfl (by decide) (by omega) (cI_ge (by omega)) ?_
        refine gr_run (pc' := 50) 2 rfl ?_
        refine gr_icT (t := 56) rfl (by decide) (by omega) (by omega) (cI_lt (by omega)) ?_
        refine gr_run (pc' := 62) 4 rfl ?_
        exact walk 0 (by omega)
theorem r_X1_reachOnFrom {r0 : Nat → Int32} {re : Nat → Nat} {air n : Nat} (hq : A 35 = Ob 1 [.ref 36, .ref 37, .int x, .ref 38]) (ha : air < 512) (hn : n ≤ 9) (hre : ∀ i, i < 512 → re i < 1024) :
    ∃ re' : Nat → Nat, Rt mX1_reachOnFrom (d + 1) [.ref 35, .int (iI air), .int (iI ((2 ^ n : Nat) : Int))] (va_up A 38 (Ia 512 (fun i => if i < 512 then iI ((re i : Nat) : Int) else r0 i))) none (va_up A 38 (Ia 512 (fun i => if i < 512 then iI ((re' i : Nat) : Int) else r0 i))) ∧ (∀ i, i < 512 → re' i < 1024) ∧ ∀ b, b < 512 → ∀ j, (re' b).testBit j = true ↔ (re b).testBit j = true ∨ (j = n ∧ stp1 air b) := by
  have hp := pow2_lt (show n < 10 by omega)
  have upd_or : ∀ (re : Nat → Nat) (b : Nat), b < 512 → upd (fun i => if i < 512 then iI ((re i : Nat) : Int) else r0 i) b (iI ((re b ||| 2 ^ n : Nat) : Int)) = fun i => if i < 512 then iI ((updN re b (re b ||| 2 ^ n) i : Nat) : Int) else r0 i := by
    intro re b hb
    funext i
    unfold upd updN
    by_cases e : i = b
    · rw [if_pos e, if_pos (by omega), if_pos e]
    · rw [if_neg e, if_neg e]
  have lt_or : ∀ (re : Nat → Nat) (b : Nat), b < 512 → (∀ i, i < 512 → re i < 1024) → ∀ i, i < 512 → updN re b (re b ||| 2 ^ n) i < 1024 := by
    intro re b hb hr i hi
    unfold updN
    split
    · exact Nat.or_lt_two_pow (n := 10) (hr b hb) hp
    · exact hr i hi
  have bit_or : ∀ (re : Nat → Nat) (b : Nat) (i j : Nat), (updN re b (re b ||| 2 ^ n) i).testBit j = true ↔ (re i).testBit j = true ∨ (j = n ∧ i = b) := by
    intro re b i j
    unfold updN
    by_cases e : i = b
    · rw [if_pos e, Nat.testBit_or, Bool.or_eq_true, bit_pow]
      subst e
      simp
    · rw [if_neg e]
      simp [e]
  by_cases he : air % 2 = 0
  · have ht := thr_lt ha (show 0 ≤ 9 by omega)
    refine ⟨updN re (thr air 0) (re (thr air 0) ||| 2 ^ n), ?_, lt_or re _ ht hre, fun b hb j => ?_⟩
    · refine rt_intro kX1_reachOnFrom rfl rfl trivial ?_
      refine gr_run (pc' := 2) 2 rfl ?_
      refine gr_iandN (b := 1) rfl ?_
      rw [and1]
      refine gr_ifF (t := 21) rfl (by decide) (by omega) (cN_ne (by omega)) ?_
      refine gr_run (pc' := 7) 1 rfl ?_
      refine gr_getf rfl rfl (by repeat (first | exact up_s | assumption | refine up_n (by first | assumption | decide | omega) ?_)) (by first | assumption | rfl) rfl ?_
      refine gr_run (pc' := 12) 2 rfl ?_
      refine gr_callN (As := [_, _]) lk_1_37 rfl rfl (by decide +kernel) (r_thrown (x := 0) ha (by omega)) rfl rfl rfl ?_
      refine gr_run (pc' := 16) 1 rfl ?_
      refine gr_iald rfl (by repeat (first | exact up_s | assumption | refine up_n (by first | assumption | decide | omega) ?_)) (by first | assumption | rfl) (ix_i rfl (by omega) (by decide)) ?_
      rw [if_pos ht]
      refine gr_run (pc' := 18) 1 rfl ?_
      refine gr_iorN rfl ?_
      refine gr_iast rfl (by repeat (first | exact up_s | assumption | refine up_n (by first | assumption | decide | omega) ?_)) (by first | assumption | rfl) (ix_i rfl (by omega) (by decide)) ?_
      rw [bx_uu, upd_or re _ ht]
      exact gr_ret rfl rfl
    · rw [bit_or]
      unfold stp1
      constructor
      · rintro (h | ⟨h, h2⟩)
        · exact Or.inl h
        · exact Or.inr ⟨h, Or.inl ⟨he, h2⟩⟩
      · rintro (h | ⟨h, ⟨h2, h3⟩ | ⟨h2, h3⟩⟩)
        · exact Or.inl h
        · exact Or.inr ⟨h, h3⟩
        · omega
  · have ho : air % 2 = 1 := by omega
    have loop : ∀ m (re : Nat → Nat), m ≤ 9 → (∀ i, i < 512 → re i < 1024) → ∃ re' : Nat → Nat, Gr mX1_reachOnFrom (d + 1) 23 [some (.ref 35), some (.int (iI air)), some (.int (iI ((2 ^ n : Nat) : Int))), some (.int (iI ((10 - m : Nat) : Int)))] [] (va_up A 38 (Ia 512 (fun i => if i < 512 then iI ((re i : Nat) : Int) else r0 i))) none (va_up A 38 (Ia 512 (fun i => if i < 512 then iI ((re' i : Nat) : Int) else r0 i))) ∧ (∀ i, i < 512 → re' i < 1024) ∧ ∀ b, b < 512 → ∀ j, (re' b).testBit j = true ↔ (re b).testBit j = true ∨ (j = n ∧ ∃ y : Nat, 10 - m ≤ y ∧ y ≤ 9 ∧ air.testBit y = false ∧ b = thr air y) := by
      intro m
      induction m with
      | zero =>
        intro re _ hr
        refine ⟨re, ?_, hr, fun b _ j => ⟨Or.inl, ?_⟩⟩
        · refine gr_run (pc' := 26) 2 rfl ?_
          refine gr_icT (t := 57) rfl (by decide) (by omega) (by omega) (cI_gt (by omega)) ?_
          exact gr_ret rfl rfl
        · rintro (h | ⟨_, y, h1, h2, _⟩)
          · exact h
          · omega
      | succ m ih =>
        intro re hm hr
        rw [show 10 - (m + 1) = 9 - m by omega]
        have ht := thr_lt ha (show 9 - m ≤ 9 by omega)
        by_cases hbit : air.testBit (9 - m) = true
        · obtain ⟨re', g1, g2, g3⟩ := ih re (by omega) hr
          refine ⟨re', ?_, g2, fun b hb j => ?_⟩
          · refine gr_run (pc' := 26) 2 rfl ?_
            refine gr_icF (t := 57) rfl (by decide) (by omega) (by omega) (cN_gt (by omega)) ?_
            refine gr_run (pc' := 31) 2 rfl ?_
            refine gr_callN (As := [_, _]) lk_1_52 rfl rfl (by decide +kernel) (r_isTakenT ha (by omega) hbit) rfl rfl rfl ?_
            refine gr_ifT (t := 51) rfl (by decide) (by omega) (cI_ne (by omega)) ?_
            refine gr_iinc rfl rfl rfl rfl ?_
            refine gr_run (pc' := 23) 1 rfl ?_
            rw [show ((9 - m : Nat) : Int) + 1 = ((10 - m : Nat) : Int) by omega]
            exact g1
          · rw [g3 b hb j]
            constructor
            · rintro (h | ⟨h, y, h1, h2, h3⟩)
              · exact Or.inl h
              · exact Or.inr ⟨h, y, by omega, h2, h3⟩
            · rintro (h | ⟨h, y, h1, h2, h3, h4⟩)
              · exact Or.inl h
              · by_cases e : y = 9 - m
                · subst e; rw [h3] at hbit; cases hbit
                · exact Or.inr ⟨h, y, by omega, h2, h3, h4⟩
        · obtain ⟨re', g1, g2, g3⟩ := ih (updN re (thr air (9 - m)) (re (thr air (9 - m)) ||| 2 ^ n)) (by omega) (lt_or re _ ht hr)
          refine ⟨re', ?_, g2, fun b hb j => ?_⟩
          · refine gr_run (pc' := 26) 2 rfl ?_
            refine gr_icF (t := 57) rfl (by decide) (by omega) (by omega) (cN_gt (by omega)) ?_
            refine gr_run (pc' := 31) 2 rfl ?_
            refine gr_callN (As := [_, _]) lk_1_52 rfl rfl (by decide +kernel) (r_isTakenF ha (by omega) (by simpa using hbit)) rfl rfl rfl ?_
            refine gr_ifF (t := 51) rfl (by decide) (by omega) (cN_ne (by omega)) ?_
            refine gr_run (pc' := 38) 1 rfl ?_
            refine gr_getf rfl rfl (by repeat (first | exact up_s | assumption | refine up_n (by first | assumption | decide | omega) ?_)) (by first | assumption | rfl) rfl ?_
            refine gr_run (pc' := 43) 2 rfl ?_
            refine gr_callN (As := [_, _]) lk_1_37 rfl rfl (by decide +kernel) (r_thrown ha (by omega)) rfl rfl rfl ?_
            refine gr_run (pc' := 47) 1 rfl ?_
            refine gr_iald rfl (by repeat (first | exact up_s | assumption | refine up_n (by first | assumption | decide | omega) ?_)) (by first | assumption | rfl) (ix_i rfl (by omega) (by decide)) ?_
            rw [if_pos ht]
            refine gr_run (pc' := 49) 1 rfl ?_
            refine gr_iorN rfl ?_
            refine gr_iast rfl (by repeat (first | exact up_s | assumption | refine up_n (by first | assumption | decide | omega) ?_)) (by first | assumption | rfl) (ix_i rfl (by omega) (by decide)) ?_
            rw [bx_uu, upd_or re _ ht]
            refine gr_iinc rfl rfl rfl rfl ?_
            refine gr_run (pc' := 23) 1 rfl ?_
            rw [show ((9 - m : Nat) : Int) + 1 = ((10 - m : Nat) : Int) by omega]
            exact g1
          · rw [g3 b hb j, bit_or]
            constructor
            · rintro ((h | ⟨h, h2⟩) | ⟨h, y, h1, h2, h3⟩)
              · exact Or.inl h
              · exact Or.inr ⟨h, 9 - m, by omega, by omega, by simpa using hbit, h2⟩
              · exact Or.inr ⟨h, y, by omega, h2, h3⟩
            · rintro (h | ⟨h, y, h1, h2, h3, h4⟩)
              · exact Or.inl (Or.inl h)
              · by_cases e : y = 9 - m
                · subst e; exact Or.inl (Or.inr ⟨h, h4⟩)
                · exact Or.inr ⟨h, y, by omega, h2, h3, h4⟩
    obtain ⟨re', g1, g2, g3⟩ := loop 9 re (by omega) hre
    refine ⟨re', ?_, g2, fun b hb j => ?_⟩
    · refine rt_intro kX1_reachOnFrom rfl rfl trivial ?_
      refine gr_run (pc' := 2) 2 rfl ?_
      refine gr_iandN (b := 1) rfl ?_
      rw [and1]
      refine gr_ifT (t := 21) rfl (by decide) (by omega) (cI_ne (by omega)) ?_
      refine gr_run (pc' := 23) 2 rfl ?_
      exact g1
    · rw [g3 b hb j]
      unfold stp1
      constructor
      · rintro (h | ⟨h, y, h1, h2, h3⟩)
        · exact Or.inl h
        · exact Or.inr ⟨h, Or.inr ⟨ho, y, h1, h2, h3⟩⟩
      · rintro (h | ⟨h, ⟨h2, h3⟩ | ⟨h2, y, h3⟩⟩)
        · exact Or.inl h
        · omega
        · exact Or.inr ⟨h, y, h3⟩
theorem r_X1_reachBy {r0 : Nat → Int32} {re : Nat → Nat} {n : Nat} (hq : A 35 = Ob 1 [.ref 36, .ref 37, .int x, .ref 38]) (hn : 1 ≤ n ∧ n ≤ 9) (hre : ∀ i, i < 512 → re i < 1024) :
    ∃ re' : Nat → Nat, Rt mX1_reachBy (d + 2) [.ref 35, .int (iI n)] (va_up A 38 (Ia 512 (fun i => if i < 512 then iI ((re i : Nat) : Int) else r0 i))) none (va_up A 38 (Ia 512 (fun i => if i < 512 then iI ((re' i : Nat) : Int) else r0 i))) ∧ (∀ i, i < 512 → re' i < 1024) ∧ ∀ b, b < 512 → ∀ j, (re' b).testBit j = true ↔ (re b).testBit j = true ∨ (j = n ∧ ∃ a, a < 512 ∧ (re a).testBit (n - 1) = true ∧ stp1 a b) := by
  have loop : ∀ (m k : Nat) (re2 : Nat → Nat), k + m = 512 → (∀ i, i < 512 → re2 i < 1024) → (∀ b, b < 512 → (re2 b).testBit (n - 1) = (re b).testBit (n - 1)) → ∃ re' : Nat → Nat, Gr mX1_reachBy (d + 2) 2 [some (.ref 35), some (.int (iI n)), some (.int (iI (k : Int)))] [] (va_up A 38 (Ia 512 (fun i => if i < 512 then iI ((re2 i : Nat) : Int) else r0 i))) none (va_up A 38 (Ia 512 (fun i => if i < 512 then iI ((re' i : Nat) : Int) else r0 i))) ∧ (∀ i, i < 512 → re' i < 1024) ∧ ∀ b, b < 512 → ∀ j, (re' b).testBit j = true ↔ (re2 b).testBit j = true ∨ (j = n ∧ ∃ a, k ≤ a ∧ a < 512 ∧ (re a).testBit (n - 1) = true ∧ stp1 a b) := by
    intro m
    induction m with
    | zero =>
      intro k re2 hk hr _
      refine ⟨re2, ?_, hr, fun b _ j => ⟨Or.inl, ?_⟩⟩
      · refine gr_run (pc' := 6) 2 rfl ?_
        refine gr_icT (t := 38) rfl (by decide) (by omega) (by omega) (cI_ge (by omega)) ?_
        exact gr_ret rfl rfl
      · rintro (h | ⟨_, a, h1, h2, _⟩)
        · exact h
        · omega
    | succ m ih =>
      intro k re2 hk hr hsame
      have hkl : k < 512 := by omega
      have hrk := hr k hkl
      by_cases hbit : (re2 k).testBit (n - 1) = true
      · obtain ⟨re3, g1, g2, g3⟩ := r_X1_reachOnFrom (d := d) (r0 := r0) (re := re2) (air := k) (n := n) hq hkl hn.2 hr
        obtain ⟨re', e1, e2, e3⟩ := ih (k + 1) re3 (by omega) g2 (fun b hb => by
          rw [← hsame b hb, Bool.eq_iff_iff, g3 b hb (n - 1)]
          constructor
          · rintro (h | ⟨h, _⟩)
            · exact h
            · omega
          · exact Or.inl)
        refine ⟨re', ?_, e2, fun b hb j => ?_⟩
        · refine gr_run (pc' := 6) 2 rfl ?_
          refine gr_icF (t := 38) rfl (by decide) (by omega) (by omega) (cN_ge (by omega)) ?_
          refine gr_run (pc' := 10) 1 rfl ?_
          refine gr_getf rfl rfl (by repeat (first | exact up_s | assumption | refine up_n (by first | assumption | decide | omega) ?_)) (by first | assumption | rfl) rfl ?_
          refine gr_run (pc' := 14) 1 rfl ?_
          refine gr_iald rfl (by repeat (first | exact up_s | assumption | refine up_n (by first | assumption | decide | omega) ?_)) (by first | assumption | rfl) (ix_i rfl (by omega) (by decide)) ?_
          rw [if_pos hkl]
          refine gr_run (pc' := 17) 2 rfl ?_
          refine gr_isub rfl ?_
          rw [show (n : Int) - 1 = ((n - 1 : Nat) : Int) by omega]
          refine gr_ishrN rfl (by omega) (by omega) ?_
          refine gr_run (pc' := 20) 1 rfl ?_
          refine gr_iandN (b := 1) rfl ?_
          rw [shr_and1, if_pos hbit]
          refine gr_ifF (t := 32) rfl (by decide) (by omega) (cN_eq (by omega)) ?_
          refine gr_run (pc' := 28) 4 rfl ?_
          refine gr_ishl1 rfl (by omega) ?_
          refine gr_callV (As := [_, _]) lk_1_64 rfl rfl (g1) (by repeat (first | exact up_s | assumption | refine up_n (by first | assumption | decide | omega) ?_)) (by first | assumption | exact Nat.le_of_ble_eq_true rfl | exact Nat.le_of_ble_eq_true (by assumption)) rfl rfl rfl rfl rfl ?_
          refine gr_iinc rfl rfl rfl rfl ?_
          refine gr_run (pc' := 2) 1 rfl ?_
          exact e1
        · rw [e3 b hb j, g3 b hb j]
          constructor
          · rintro ((h | ⟨h, h2⟩) | ⟨h, a, h1, h2, h3⟩)
            · exact Or.inl h
            · exact Or.inr ⟨h, k, Nat.le_refl _, hkl, by rw [← hsame k hkl]; exact hbit, h2⟩
            · exact Or.inr ⟨h, a, by omega, h2, h3⟩
          · rintro (h | ⟨h, a, h1, h2, h3, h4⟩)
            · exact Or.inl (Or.inl h)
            · by_cases e : a = k
              · subst e; exact Or.inl (Or.inr ⟨h, h4⟩)
              · exact Or.inr ⟨h, a, by omega, h2, h3, h4⟩
      · obtain ⟨re', e1, e2, e3⟩ := ih (k + 1) re2 (by omega) hr hsame
        refine ⟨re', ?_, e2, fun b hb j => ?_⟩
        · refine gr_run (pc' := 6) 2 rfl ?_
          refine gr_icF (t := 38) rfl (by decide) (by omega) (by omega) (cN_ge (by omega)) ?_
          refine gr_run (pc' := 10) 1 rfl ?_
          refine gr_getf rfl rfl (by repeat (first | exact up_s | assumption | refine up_n (by first | assumption | decide | omega) ?_)) (by first | assumption | rfl) rfl ?_
          refine gr_run (pc' := 14) 1 rfl ?_
          refine gr_iald rfl (by repeat (first | exact up_s | assumption | refine up_n (by first | assumption | decide | omega) ?_)) (by first | assumption | rfl) (ix_i rfl (by omega) (by decide)) ?_
          rw [if_pos hkl]
          refine gr_run (pc' := 17) 2 rfl ?_
          refine gr_isub rfl ?_
          rw [show (n : Int) - 1 = ((n - 1 : Nat) : Int) by omega]
          refine gr_ishrN rfl (by omega) (by omega) ?_
          refine gr_run (pc' := 20) 1 rfl ?_
          refine gr_iandN (b := 1) rfl ?_
          rw [shr_and1, if_neg hbit]
          refine gr_ifT (t := 32) rfl (by decide) (by omega) (cI_eq (by omega)) ?_
          refine gr_iinc rfl rfl rfl rfl ?_
          refine gr_run (pc' := 2) 1 rfl ?_
          exact e1
        · rw [e3 b hb j]
          constructor
          · rintro (h | ⟨h, a, h1, h2, h3⟩)
            · exact Or.inl h
            · exact Or.inr ⟨h, a, by omega, h2, h3⟩
          · rintro (h | ⟨h, a, h1, h2, h3, h4⟩)
            · exact Or.inl h
            · by_cases e : a = k
              · subst e; rw [← hsame a hkl] at h3; exact absurd h3 hbit
              · exact Or.inr ⟨h, a, by omega, h2, h3, h4⟩
  obtain ⟨re', e1, e2, e3⟩ := loop 512 0 re (by omega) hre (fun _ _ => rfl)
  refine ⟨re', ?_, e2, fun b hb j => ?_⟩
  · refine rt_intro kX1_reachBy rfl rfl trivial ?_
    refine gr_run (pc' := 2) 2 rfl ?_
    exact e1
  · rw [e3 b hb j]
    constructor
    · rintro (h | ⟨h, a, h1, h2, h3⟩)
      · exact Or.inl h
      · exact Or.inr ⟨h, a, h2, h3⟩
    · rintro (h | ⟨h, a, h2, h3⟩)
      · exact Or.inl h
      · exact Or.inr ⟨h, a, Nat.zero_le _, h2, h3⟩
theorem r_X1_throwsToMeet {r0 : Nat → Int32} {s n a b : Nat} {h : Nat → Nat} {f : Nat → Int32} {z : Int} (hq : A 35 = Ob 1 [.ref 36, .ref 37, .int x, .ref 38]) (hv : A 38 = Ia 512 r0) (hs : s < 512) (ha : A a = Ob 2 [.ref b, .int (iI n)]) (hb : A b = Ia 10 f) (pa : Nat.blt a NC = true) (pb : Nat.blt b NC = true) (ha3 : a ≠ 38) (hb3 : b ≠ 38) (hh : okH n h) (hf : ∀ i, i < n → f i = iI (h i)) (hz : 0 ≤ z ∧ z ≤ 1000) :
    ∃ r1 : Nat → Int32, Rt mX1_throwsToMeet (d + 3) [.ref 35, .int (iI s), .ref a, .int (iI z)] A (some (.int (iI (tmF (fun k => RS s k (airN n h (z + (k : Int)))) 9 1)))) (va_up A 38 (Ia 512 r1)) := by
  have loop : ∀ (m k : Nat) (re : Nat → Nat), k + m = 10 → 1 ≤ k → (∀ i, i < 512 → re i < 1024) → (∀ b, b < 512 → ∀ j, (re b).testBit j = true ↔ j < k ∧ RS s j b) → ∀ x5 : Option Value, ∃ r1 : Nat → Int32, Gr mX1_throwsToMeet (d + 3) 45 [some (.ref 35), some (.int (iI s)), some (.ref a), some (.int (iI z)), some (.int (iI (k : Int))), x5] [] (va_up A 38 (Ia 512 (fun i => if i < 512 then iI ((re i : Nat) : Int) else r0 i))) (some (.int (iI (tmF (fun k => RS s k (airN n h (z + (k : Int)))) m k)))) (va_up A 38 (Ia 512 r1)) := by
    intro m
    induction m with
    | zero =>
      intro k re hk h1 hr hrs x5
      refine ⟨fun i => if i < 512 then iI ((re i : Nat) : Int) else r0 i, ?_⟩
      refine gr_run (pc' := 49) 2 rfl ?_
      refine gr_icT (t := 100) rfl (by decide) (by omega) (by omega) (cI_gt (by omega)) ?_
      refine gr_run (pc' := 102) 1 rfl ?_
      exact gr_ret rfl rfl
    | succ m ih =>
      intro k re hk h1 hr hrs x5
      obtain ⟨re', g1, g2, g3⟩ := r_X1_reachBy (d := d) (r0 := r0) (re := re) (n := k) hq (by omega) hr
      have hrs' : ∀ b, b < 512 → ∀ j, (re' b).testBit j = true ↔ j < k + 1 ∧ RS s j b := by
        intro b hb j
        rw [g3 b hb j, hrs b hb j]
        constructor
        · rintro (⟨h1, h2⟩ | ⟨h1, a, h2, h3, h4⟩)
          · exact ⟨by omega, h2⟩
          · subst h1
            refine ⟨by omega, ?_⟩
            obtain ⟨q, hq⟩ : ∃ q, j = q + 1 := ⟨j - 1, by omega⟩
            subst hq
            rw [show q + 1 - 1 = q by omega, hrs a h2 q] at h3
            exact ⟨a, h2, h3.2, h4⟩
        · rintro ⟨h1, h2⟩
          by_cases e : j = k
          · subst e
            obtain ⟨q, hq⟩ : ∃ q, j = q + 1 := ⟨j - 1, by omega⟩
            subst hq
            obtain ⟨a, h3, h4, h5⟩ := h2
            exact Or.inr ⟨rfl, a, h3, by rw [show q + 1 - 1 = q by omega, hrs a h3 q]; exact ⟨by omega, h4⟩, h5⟩
          · exact Or.inl ⟨by omega, h2⟩
      have hair := airN_lt hh (z + (k : Int))
      have hlt := g2 _ hair
      by_cases hm : RS s k (airN n h (z + (k : Int)))
      · refine ⟨fun i => if i < 512 then iI ((re' i : Nat) : Int) else r0 i, ?_⟩
        rw [tmF_t (P := fun k => RS s k (airN n h (z + (k : Int)))) (n := k) hm]
        refine gr_run (pc' := 49) 2 rfl ?_
        refine gr_icF (t := 100) rfl (by decide) (by omega) (by omega) (cN_gt (by omega)) ?_
        refine gr_run (pc' := 55) 2 rfl ?_
        refine gr_callV (As := [_]) lk_1_56 rfl rfl (g1) (by repeat (first | exact up_s | assumption | refine up_n (by first | assumption | decide | omega) ?_)) (by first | assumption | exact Nat.le_of_ble_eq_true rfl | exact Nat.le_of_ble_eq_true (by assumption)) rfl rfl rfl rfl rfl ?_
        refine gr_run (pc' := 62) 3 rfl ?_
        refine gr_iadd rfl ?_
        refine gr_callV (As := [_]) lk_1_59 rfl rfl (r_X2_airAhead (up_n ha3 ha) (up_n hb3 hb) pa pb hh hf (by omega)) (by repeat (first | exact up_s | assumption | refine up_n (by first | assumption | decide | omega) ?_)) (by first | assumption | exact Nat.le_of_ble_eq_true rfl | exact Nat.le_of_ble_eq_true (by assumption)) rfl rfl rfl rfl rfl ?_
        refine gr_run (pc' := 70) 2 rfl ?_
        refine gr_callN (As := [_]) lk_1_25 rfl rfl (by decide +kernel) (r_isAirT (by omega)) rfl rfl rfl ?_
        refine gr_ifF (t := 94) rfl (by decide) (by omega) (cN_eq (by omega)) ?_
        refine gr_run (pc' := 77) 1 rfl ?_
        refine gr_getf rfl rfl (by repeat (first | exact up_s | assumption | refine up_n (by first | assumption | decide | omega) ?_)) (by first | assumption | rfl) rfl ?_
        refine gr_run (pc' := 82) 1 rfl ?_
        refine gr_iald rfl (by repeat (first | exact up_s | assumption | refine up_n (by first | assumption | decide | omega) ?_)) (by first | assumption | rfl) (ix_i rfl (by omega) (by decide)) ?_
        rw [if_pos hair]
        refine gr_run (pc' := 85) 1 rfl ?_
        refine gr_ishrN rfl (by omega) (by omega) ?_
        refine gr_run (pc' := 87) 1 rfl ?_
        refine gr_iandN (b := 1) rfl ?_
        rw [shr_and1, if_pos ((hrs' _ hair k).mpr ⟨by omega, hm⟩)]
        refine gr_ifF (t := 94) rfl (by decide) (by omega) (cN_eq (by omega)) ?_
        refine gr_run (pc' := 93) 1 rfl ?_
        exact gr_ret rfl rfl
      · obtain ⟨r1, e1⟩ := ih (k + 1) re' (by omega) (by omega) g2 hrs' (some (.int (iI ((airN n h (z + (k : Int)) : Nat) : Int))))
        refine ⟨r1, ?_⟩
        rw [tmF_f (P := fun k => RS s k (airN n h (z + (k : Int)))) (n := k) hm]
        refine gr_run (pc' := 49) 2 rfl ?_
        refine gr_icF (t := 100) rfl (by decide) (by omega) (by omega) (cN_gt (by omega)) ?_
        refine gr_run (pc' := 55) 2 rfl ?_
        refine gr_callV (As := [_]) lk_1_56 rfl rfl (g1) (by repeat (first | exact up_s | assumption | refine up_n (by first | assumption | decide | omega) ?_)) (by first | assumption | exact Nat.le_of_ble_eq_true rfl | exact Nat.le_of_ble_eq_true (by assumption)) rfl rfl rfl rfl rfl ?_
        refine gr_run (pc' := 62) 3 rfl ?_
        refine gr_iadd rfl ?_
        refine gr_callV (As := [_]) lk_1_59 rfl rfl (r_X2_airAhead (up_n ha3 ha) (up_n hb3 hb) pa pb hh hf (by omega)) (by repeat (first | exact up_s | assumption | refine up_n (by first | assumption | decide | omega) ?_)) (by first | assumption | exact Nat.le_of_ble_eq_true rfl | exact Nat.le_of_ble_eq_true (by assumption)) rfl rfl rfl rfl rfl ?_
        refine gr_run (pc' := 70) 2 rfl ?_
        refine gr_callN (As := [_]) lk_1_25 rfl rfl (by decide +kernel) (r_isAirT (by omega)) rfl rfl rfl ?_
        refine gr_ifF (t := 94) rfl (by decide) (by omega) (cN_eq (by omega)) ?_
        refine gr_run (pc' := 77) 1 rfl ?_
        refine gr_getf rfl rfl (by repeat (first | exact up_s | assumption | refine up_n (by first | assumption | decide | omega) ?_)) (by first | assumption | rfl) rfl ?_
        refine gr_run (pc' := 82) 1 rfl ?_
        refine gr_iald rfl (by repeat (first | exact up_s | assumption | refine up_n (by first | assumption | decide | omega) ?_)) (by first | assumption | rfl) (ix_i rfl (by omega) (by decide)) ?_
        rw [if_pos hair]
        refine gr_run (pc' := 85) 1 rfl ?_
        refine gr_ishrN rfl (by omega) (by omega) ?_
        refine gr_run (pc' := 87) 1 rfl ?_
        refine gr_iandN (b := 1) rfl ?_
        rw [shr_and1, if_neg (fun q => hm ((hrs' _ hair k).mp q).2)]
        refine gr_ifT (t := 94) rfl (by decide) (by omega) (cI_eq (by omega)) ?_
        refine gr_iinc rfl rfl rfl rfl ?_
        refine gr_run (pc' := 45) 1 rfl ?_
        exact e1
  have zero : ∀ (r : Option Value) (A' : AH), (Gr mX1_throwsToMeet (d + 3) 35 [some (.ref 35), some (.int (iI s)), some (.ref a), some (.int (iI z)), some (.int (iI 512)), none] [] (va_up A 38 (Ia 512 (fun j => if j < 512 then iI 0 else r0 j))) r A') → ∀ i : Nat, i ≤ 512 → Gr mX1_throwsToMeet (d + 3) 13 [some (.ref 35), some (.int (iI s)), some (.ref a), some (.int (iI z)), some (.int (iI (i : Int))), none] [] (va_up A 38 (Ia 512 (fun j => if j < i then iI 0 else r0 j))) r A' := by
    intro r A' K
    refine go_up ?_ ?_
    · refine gr_run (pc' := 18) 2 rfl ?_
      refine gr_icT (t := 35) rfl (by decide) (by omega) (by omega) (cI_ge (by omega)) ?_
      exact K
    · intro i hi ih
      refine gr_run (pc' := 18) 2 rfl ?_
      refine gr_icF (t := 35) rfl (by decide) (by omega) (by omega) (cN_ge (by omega)) ?_
      refine gr_run (pc' := 22) 1 rfl ?_
      refine gr_getf rfl rfl (by repeat (first | exact up_s | assumption | refine up_n (by first | assumption | decide | omega) ?_)) (by first | assumption | rfl) rfl ?_
      refine gr_run (pc' := 28) 2 rfl ?_
      refine gr_iast rfl (by repeat (first | exact up_s | assumption | refine up_n (by first | assumption | decide | omega) ?_)) (by first | assumption | rfl) (ix_i rfl (by omega) (by decide)) ?_
      rw [bx_uu, upd_lt (g := fun _ => iI 0)]
      refine gr_iinc rfl rfl rfl rfl ?_
      refine gr_run (pc' := 13) 1 rfl ?_
      exact ih
  obtain ⟨r1, e1⟩ := loop 9 1 (fun i => if i = s then 1 else 0) (by omega) (by omega) (fun i _ => by split <;> omega) (fun b hb j => by
    by_cases e : b = s
    · rw [if_pos e]
      rw [show (1 : Nat) = 2 ^ 0 from rfl, bit_pow]
      constructor
      · intro h; subst h; exact ⟨by omega, e⟩
      · rintro ⟨h, _⟩; omega
    · rw [if_neg e]
      simp only [Nat.zero_testBit, Bool.false_eq_true, false_iff]
      rintro ⟨h1, h2⟩
      have : j = 0 := by omega
      subst this
      exact e h2) none
  refine ⟨r1, ?_⟩
  refine rt_intro kX1_throwsToMeet rfl rfl rfl ?_
  refine gr_run (pc' := 1) 1 rfl ?_
  refine gr_callN (As := [_]) lk_1_25 rfl rfl (by decide +kernel) (r_isAirT (by omega)) rfl rfl rfl ?_
  refine gr_ifT (t := 10) rfl (by decide) (by omega) (cI_ne (by omega)) ?_
  refine gr_run (pc' := 13) 2 rfl ?_
  refine gr_h ?_ (zero _ _ ?_ 0 (by omega))
  · exact (up_same (by simpa using hv)).symm
  · refine gr_run (pc' := 36) 1 rfl ?_
    refine gr_getf rfl rfl (by repeat (first | exact up_s | assumption | refine up_n (by first | assumption | decide | omega) ?_)) (by first | assumption | rfl) rfl ?_
    refine gr_run (pc' := 41) 2 rfl ?_
    refine gr_iast rfl (by repeat (first | exact up_s | assumption | refine up_n (by first | assumption | decide | omega) ?_)) (by first | assumption | rfl) (ix_i rfl (by omega) (by decide)) ?_
    rw [bx_uu]
    refine gr_run (pc' := 45) 2 rfl ?_
    have e : (upd (fun j => if j < 512 then iI 0 else r0 j) s (iI 1)) = fun i => if i < 512 then iI (((if i = s then 1 else 0 : Nat)) : Int) else r0 i := by
      funext i
      unfold upd
      by_cases e : i = s
      · rw [if_pos e, if_pos (by omega), if_pos e]; rfl
      · rw [if_neg e, if_neg e]; rfl
    rw [e]
    exact e1
end PQ
