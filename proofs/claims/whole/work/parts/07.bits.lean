/-! bits of numbers from 0 on -/
theorem iI_bv (a : Nat) : (iI (a : Int)).toBitVec = BitVec.ofNat 32 a := by
  show (Int32.ofInt (a : Int)).toBitVec = _
  rw [Int32.toBitVec_ofInt, BitVec.ofInt_natCast]
theorem iI_and (a b : Nat) : iI (a : Int) &&& iI (b : Int) = iI ((a &&& b : Nat) : Int) := by
  rw [← Int32.toBitVec_inj, Int32.toBitVec_and, iI_bv, iI_bv, iI_bv, BitVec.ofNat_and]
theorem iI_or (a b : Nat) : iI (a : Int) ||| iI (b : Int) = iI ((a ||| b : Nat) : Int) := by
  rw [← Int32.toBitVec_inj, Int32.toBitVec_or, iI_bv, iI_bv, iI_bv, BitVec.ofNat_or]
theorem sh_k : ∀ k : Fin 32, ((iI ((k.val : Nat) : Int) &&& 31).toBitVec.smod 32).toNat = k.val := by decide
theorem iI_shl (a : Nat) {k : Nat} (hk : k < 32) (h : a * 2 ^ k < 4294967296) : iI (a : Int) <<< (iI (k : Int) &&& 31) = iI ((a * 2 ^ k : Nat) : Int) := by
  rw [iI_nI, iI_nI]
  exact pk_shlN _ k (sh_k ⟨k, hk⟩) (by omega)
theorem iI_shr {a : Nat} (ha : a < 2147483648) {k : Nat} (hk : k < 32) : iI (a : Int) >>> (iI (k : Int) &&& 31) = iI ((a / 2 ^ k : Nat) : Int) := by
  rw [iI_nI, iI_nI]
  exact pk_shrN (by omega) _ k (sh_k ⟨k, hk⟩)
theorem pow2_lt {k m : Nat} (h : k < m) : (2 : Nat) ^ k < 2 ^ m := Nat.pow_lt_pow_right (by decide) h
theorem pow2_le30 {k : Nat} (h : k ≤ 30) : (2 : Nat) ^ k ≤ 1073741824 := Nat.pow_le_pow_right (by decide) h
section RB
variable {M : MI} {d pc : Nat} {L : LV} {S : List Value} {A A' : AH} {r : Option Value}
theorem gr_iandN {a b : Nat} (hl : lk (mT M) pc = some (.iand, 1)) (k : Gr M d (pc + 1) L (.int (iI ((a &&& b : Nat) : Int)) :: S) A r A') : Gr M d pc L (.int (iI (b : Int)) :: .int (iI (a : Int)) :: S) A r A' := gr_iand hl (gr_ti (iI_and a b) k)
theorem gr_iorN {a b : Nat} (hl : lk (mT M) pc = some (.ior, 1)) (k : Gr M d (pc + 1) L (.int (iI ((a ||| b : Nat) : Int)) :: S) A r A') : Gr M d pc L (.int (iI (b : Int)) :: .int (iI (a : Int)) :: S) A r A' := gr_ior hl (gr_ti (iI_or a b) k)
theorem gr_ishl1 {k0 : Nat} (hl : lk (mT M) pc = some (.ishl, 1)) (hk : k0 < 31) (k : Gr M d (pc + 1) L (.int (iI ((2 ^ k0 : Nat) : Int)) :: S) A r A') : Gr M d pc L (.int (iI (k0 : Int)) :: .int (iI 1) :: S) A r A' :=
  gr_ishl hl (gr_ti (by have h := iI_shl 1 (k := k0) (by omega) (by have := pow2_le30 (k := k0) (by omega); omega); rw [Nat.one_mul] at h; exact h) k)
theorem gr_ishlN {a k0 : Nat} (hl : lk (mT M) pc = some (.ishl, 1)) (hk : k0 < 32) (h : a * 2 ^ k0 < 4294967296) (k : Gr M d (pc + 1) L (.int (iI ((a * 2 ^ k0 : Nat) : Int)) :: S) A r A') : Gr M d pc L (.int (iI (k0 : Int)) :: .int (iI (a : Int)) :: S) A r A' := gr_ishl hl (gr_ti (iI_shl a hk h) k)
theorem gr_ishrN {a k0 : Nat} (hl : lk (mT M) pc = some (.ishr, 1)) (ha : a < 2147483648) (hk : k0 < 32) (k : Gr M d (pc + 1) L (.int (iI ((a / 2 ^ k0 : Nat) : Int)) :: S) A r A') : Gr M d pc L (.int (iI (k0 : Int)) :: .int (iI (a : Int)) :: S) A r A' := gr_ishr hl (gr_ti (iI_shr ha hk) k)
/-- a loop that counts up -/
theorem go_up {P : Nat → Prop} {n : Nat} (hn : P n) (hs : ∀ k, k < n → P (k + 1) → P k) : ∀ k, k ≤ n → P k := by
  intro k hk
  obtain ⟨j, rfl⟩ : ∃ j, n = k + j := ⟨n - k, by omega⟩
  clear hk
  induction j generalizing k with
  | zero => exact hn
  | succ j ih =>
    refine hs k (by omega) (ih (k + 1) ?_ ?_)
    · rw [show k + 1 + j = k + (j + 1) by omega]; exact hn
    · intro q hq; exact hs q (by omega)
end RB
/-! sums and joins over a row -/
def sumN (h : Nat → Nat) : Nat → Nat
  | 0 => 0
  | k + 1 => sumN h k + h k
def orN (f : Nat → Nat) : Nat → Nat
  | 0 => 0
  | k + 1 => orN f k ||| f k
theorem sumN_le {h : Nat → Nat} {m : Nat} : ∀ {n : Nat}, (∀ i, i < n → h i ≤ m) → sumN h n ≤ n * m
  | 0, _ => by simp [sumN]
  | n + 1, hh => by
    have h1 := sumN_le (n := n) (fun i hi => hh i (by omega))
    have h2 := hh n (by omega)
    simp only [sumN]
    rw [Nat.add_mul, Nat.one_mul]
    omega
theorem sumN_congr {f g : Nat → Nat} : ∀ {n : Nat}, (∀ i, i < n → f i = g i) → sumN f n = sumN g n
  | 0, _ => rfl
  | n + 1, h => by simp only [sumN]; rw [sumN_congr (fun i hi => h i (by omega)), h n (by omega)]
theorem orN_congr {f g : Nat → Nat} : ∀ {n : Nat}, (∀ i, i < n → f i = g i) → orN f n = orN g n
  | 0, _ => rfl
  | n + 1, h => by simp only [orN]; rw [orN_congr (fun i hi => h i (by omega)), h n (by omega)]
theorem orN_bit {f : Nat → Nat} {b : Nat} : ∀ {n : Nat}, (orN f n).testBit b = true ↔ ∃ i, i < n ∧ (f i).testBit b = true
  | 0 => by simp [orN]
  | n + 1 => by
    simp only [orN, Nat.testBit_or, Bool.or_eq_true, orN_bit (n := n)]
    constructor
    · rintro (⟨i, hi, h⟩ | h)
      · exact ⟨i, by omega, h⟩
      · exact ⟨n, by omega, h⟩
    · rintro ⟨i, hi, h⟩
      by_cases hin : i = n
      · subst hin; exact Or.inr h
      · exact Or.inl ⟨i, by omega, h⟩
theorem orN_lt {f : Nat → Nat} {m : Nat} : ∀ {n : Nat}, (∀ i, i < n → f i < 2 ^ m) → orN f n < 2 ^ m
  | 0, _ => Nat.two_pow_pos m
  | n + 1, h => by
    simp only [orN]
    exact Nat.or_lt_two_pow (orN_lt (fun i hi => h i (by omega))) (h n (by omega))
theorem bit_pow {b k : Nat} : (2 ^ k).testBit b = true ↔ b = k := by
  rw [Nat.testBit_two_pow]
  simp [eq_comm]
theorem and_pow (a k : Nat) : a &&& 2 ^ k = if a.testBit k then 2 ^ k else 0 := by
  apply Nat.eq_of_testBit_eq
  intro i
  rw [Nat.testBit_and, Nat.testBit_two_pow]
  by_cases h : a.testBit k
  · rw [if_pos h, Nat.testBit_two_pow]
    by_cases hi : k = i
    · subst hi; simp [h]
    · simp [hi]
  · rw [if_neg h, Nat.zero_testBit]
    by_cases hi : k = i
    · subst hi; simpa using h
    · simp [hi]
theorem and_pow0 {a k : Nat} : a &&& 2 ^ k = 0 ↔ a.testBit k = false := by
  rw [and_pow]
  have := Nat.two_pow_pos k
  by_cases h : a.testBit k <;> simp [h]
theorem shr_and1 (a k : Nat) : (a / 2 ^ k) &&& 1 = if a.testBit k then 1 else 0 := by
  have h := and_pow (a / 2 ^ k) 0
  simp only [Nat.pow_zero] at h
  rw [h, Nat.testBit_div_two_pow, Nat.zero_add]
/-! a row of throws -/
def hg (n : Nat) (h : Nat → Nat) (z : Int) : Nat := h (z % (n : Int)).toNat
theorem hg_lt {n : Nat} {h : Nat → Nat} {i : Nat} (hi : i < n) : hg n h (i : Int) = h i := by
  unfold hg
  have : (i : Int) % (n : Int) = i := Int.emod_eq_of_lt (by omega) (by omega)
  rw [this]; rfl
def lnd (n : Nat) (h : Nat → Nat) (i : Nat) : Nat := (i + h i) % n
def air1 (x ago : Nat) : Nat := if ago ≤ x then 2 ^ (x - ago) else 0
def airN (n : Nat) (h : Nat → Nat) (z : Int) : Nat := orN (fun k => air1 (hg n h (z - ((k : Int) + 1))) (k + 1)) 9
def thr (a x : Nat) : Nat := if x = 0 then a / 2 else a / 2 ||| 2 ^ (x - 1)
theorem air1_lt {x ago : Nat} (hx : x ≤ 9) (ha : 1 ≤ ago) : air1 x ago < 2 ^ 9 := by
  unfold air1
  split
  · exact pow2_lt (by omega)
  · exact Nat.two_pow_pos 9
/-- no throw is above 9 -/
def okH (n : Nat) (h : Nat → Nat) : Prop := (1 ≤ n ∧ n ≤ 10) ∧ ∀ i, i < n → h i ≤ 9
theorem hg_le {n : Nat} {h : Nat → Nat} (hh : okH n h) (z : Int) : hg n h z ≤ 9 := by
  have := emod_nn z hh.1.1
  exact hh.2 _ (by omega)
theorem airN_lt {n : Nat} {h : Nat → Nat} (hh : okH n h) (z : Int) : airN n h z < 512 := orN_lt (m := 9) (fun _ _ => air1_lt (hg_le hh _) (by omega))
theorem air1_bit {x ago b : Nat} : (air1 x ago).testBit b = true ↔ x = ago + b := by
  unfold air1
  split
  · rw [bit_pow]; omega
  · simp; omega
theorem airN_bit {n : Nat} {h : Nat → Nat} {z : Int} {b : Nat} : (airN n h z).testBit b = true ↔ ∃ ago : Nat, 1 ≤ ago ∧ ago ≤ 9 ∧ hg n h (z - ago) = ago + b := by
  unfold airN
  rw [orN_bit]
  constructor
  · rintro ⟨i, hi, h1⟩
    refine ⟨i + 1, by omega, by omega, ?_⟩
    rw [air1_bit] at h1
    simpa using h1
  · rintro ⟨a, h1, h2, h3⟩
    refine ⟨a - 1, by omega, ?_⟩
    rw [air1_bit]
    have e : ((a - 1 : Nat) : Int) + 1 = (a : Int) := by omega
    rw [e, show a - 1 + 1 = a by omega]
    exact h3
theorem thr_bit {a x b : Nat} : (thr a x).testBit b = true ↔ a.testBit (b + 1) = true ∨ x = b + 1 := by
  unfold thr
  have h2 : (a / 2).testBit b = a.testBit (b + 1) := by
    have := Nat.testBit_div_two_pow (n := 1) a b
    simpa using this
  split
  · rw [h2]
    constructor
    · exact Or.inl
    · rintro (h | h)
      · exact h
      · omega
  · rw [Nat.testBit_or, Bool.or_eq_true, h2, bit_pow]
    constructor
    · rintro (h | h)
      · exact Or.inl h
      · exact Or.inr (by omega)
    · rintro (h | h)
      · exact Or.inl h
      · exact Or.inr (by omega)
theorem thr_lt {a x : Nat} (ha : a < 512) (hx : x ≤ 9) : thr a x < 512 := by
  unfold thr
  split
  · omega
  · exact Nat.or_lt_two_pow (n := 9) (by omega) (pow2_lt (by omega))
theorem thr_air {n : Nat} {h : Nat → Nat} (hh : okH n h) (z : Int) : thr (airN n h z) (hg n h z) = airN n h (z + 1) := by
  apply Nat.eq_of_testBit_eq
  intro b
  rw [Bool.eq_iff_iff, thr_bit, airN_bit, airN_bit]
  constructor
  · rintro (⟨a, h1, h2, h3⟩ | h1)
    · by_cases h9 : a = 9
      · have := hg_le hh (z - (a : Int)); omega
      · exact ⟨a + 1, by omega, by omega, by rw [show z + 1 - ((a + 1 : Nat) : Int) = z - a by omega, h3]; omega⟩
    · exact ⟨1, by omega, by omega, by rw [show z + 1 - ((1 : Nat) : Int) = z by omega, h1]; omega⟩
  · rintro ⟨a, h1, h2, h3⟩
    by_cases ha : a = 1
    · subst ha
      rw [show z + 1 - ((1 : Nat) : Int) = z by omega] at h3
      exact Or.inr (by omega)
    · refine Or.inl ⟨a - 1, by omega, by omega, ?_⟩
      rw [show z - ((a - 1 : Nat) : Int) = z + 1 - a by omega, h3]
      omega
