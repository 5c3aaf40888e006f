/-! BallsInAir$Census -/
/-- how many bits of a mask of eight are set -/
def bc (t : Nat) : Nat := sumN (fun i => if t.testBit i then 1 else 0) 8
theorem bc_le (t : Nat) : bc t ≤ 8 := sumN_01 (fun i => by split <;> omega) 8
theorem bc_or : ∀ t : Fin 256, ∀ j : Fin 8, t.val.testBit j.val = false → bc (t.val ||| 2 ^ j.val) = bc t.val + 1 := by decide +kernel
theorem bc_full : ∀ p : Fin 9, ∀ t : Fin 256, t.val < 2 ^ p.val → t.val ≠ 2 ^ p.val - 1 → bc t.val < p.val := by decide +kernel
theorem bc_all : ∀ p : Fin 9, bc (2 ^ p.val - 1) = p.val := by decide +kernel
theorem bc_lt : ∀ p : Fin 9, ∀ t : Fin 256, t.val < 2 ^ p.val → bc t.val ≤ p.val := by decide +kernel
theorem bc_bits : ∀ t : Fin 256, (let x := iI ((t.val : Nat) : Int)
  let x1 := x - ((x.toUInt32 >>> ((iI 1).toUInt32 &&& Int32.toUInt32 31)).toInt32 &&& iI 1431655765)
  let x2 := (x1 &&& iI 858993459) + ((x1.toUInt32 >>> ((iI 2).toUInt32 &&& Int32.toUInt32 31)).toInt32 &&& iI 858993459)
  let x3 := (x2 + (x2.toUInt32 >>> ((iI 4).toUInt32 &&& Int32.toUInt32 31)).toInt32) &&& iI 252645135
  let x4 := x3 + (x3.toUInt32 >>> ((iI 8).toUInt32 &&& Int32.toUInt32 31)).toInt32
  let x5 := x4 + (x4.toUInt32 >>> ((iI 16).toUInt32 &&& Int32.toUInt32 31)).toInt32
  x5 &&& iI 63) = iI ((bc t.val : Nat) : Int) := by decide +kernel
section BC
variable {M : MI} {d pc : Nat} {L : LV} {S : List Value} {A A' : AH} {r : Option Value}
theorem gr_iaddx {x y : Int32} (hl : lk (mT M) pc = some (.iadd, 1)) (k : Gr M d (pc + 1) L (.int (x + y) :: S) A r A') : Gr M d pc L (.int y :: .int x :: S) A r A' := by
  have h := iI_of x
  have h2 := iI_of y
  rw [h, h2]
  refine gr_iadd hl ?_
  rw [← iI_add, ← h, ← h2]
  exact k
theorem gr_isubx {x y : Int32} (hl : lk (mT M) pc = some (.isub, 1)) (k : Gr M d (pc + 1) L (.int (x - y) :: S) A r A') : Gr M d pc L (.int y :: .int x :: S) A r A' := by
  have h := iI_of x
  have h2 := iI_of y
  rw [h, h2]
  refine gr_isub hl ?_
  rw [← iI_sub, ← h, ← h2]
  exact k
end BC
theorem r_bitCount {d : Nat} {A : AH} {t : Nat} (ht : t < 256) : Rt mJ6_bitCount_0f7a4 d [.int (iI t)] A (some (.int (iI ((bc t : Nat) : Int)))) A := by
  have h := bc_bits ⟨t, ht⟩
  simp only at h
  rw [← h]
  refine rt_intro kJ6_bitCount_0f7a4 rfl rfl rfl ?_
  refine gr_run (pc' := 3) 3 rfl ?_
  refine gr_iushr rfl ?_
  refine gr_run (pc' := 7) 1 rfl ?_
  refine gr_iand rfl ?_
  refine gr_isubx rfl ?_
  refine gr_run (pc' := 14) 3 rfl ?_
  refine gr_iand rfl ?_
  refine gr_run (pc' := 17) 2 rfl ?_
  refine gr_iushr rfl ?_
  refine gr_run (pc' := 21) 1 rfl ?_
  refine gr_iand rfl ?_
  refine gr_iaddx rfl ?_
  refine gr_run (pc' := 27) 4 rfl ?_
  refine gr_iushr rfl ?_
  refine gr_iaddx rfl ?_
  refine gr_run (pc' := 32) 1 rfl ?_
  refine gr_iand rfl ?_
  refine gr_run (pc' := 38) 4 rfl ?_
  refine gr_iushr rfl ?_
  refine gr_iaddx rfl ?_
  refine gr_run (pc' := 45) 4 rfl ?_
  refine gr_iushr rfl ?_
  refine gr_iaddx rfl ?_
  refine gr_run (pc' := 51) 3 rfl ?_
  refine gr_iand rfl ?_
  exact gr_ret rfl rfl
/-- the place at which a throw comes down, as a bit; how often round -/
def pb (p x : Nat) : Nat := 2 ^ (x % p)
/-- in how many ways a row can be filled up: k throws still to come, the places taken t, rounds l left, no throw above m -/
def flN (p m : Nat) : Nat → Nat → Nat → Nat
  | 0, _, l => if l = 0 then 1 else 0
  | k + 1, t, l => sumN (fun x => if t.testBit ((bc t + x) % p) then 0 else if l < (bc t + x) / p then 0 else flN p m k (t ||| 2 ^ ((bc t + x) % p)) (l - (bc t + x) / p)) (m + 1)
def FF (p m t l : Nat) : Nat := flN p m (p - bc t) t l
def fb (p m t l x : Nat) : Nat := if t.testBit ((bc t + x) % p) then 0 else if l < (bc t + x) / p then 0 else FF p m (t ||| 2 ^ ((bc t + x) % p)) (l - (bc t + x) / p)
theorem or_lt {p t j : Nat} (hj : j < p) (ht : t < 2 ^ p) : t ||| 2 ^ j < 2 ^ p := Nat.or_lt_two_pow ht (pow2_lt hj)
theorem pow8 {p : Nat} (hp : p ≤ 8) : (2 : Nat) ^ p ≤ 256 := Nat.pow_le_pow_right (by decide) hp
theorem bc_or' {p t j : Nat} (hp : p ≤ 8) (ht : t < 2 ^ p) (hj : j < p) (hb : t.testBit j = false) : bc (t ||| 2 ^ j) = bc t + 1 := bc_or ⟨t, by have := pow8 hp; omega⟩ ⟨j, by omega⟩ hb
theorem FF_rec {p m t l : Nat} (hp : 1 ≤ p ∧ p ≤ 8) (ht : t < 2 ^ p) (hb : bc t < p) : FF p m t l = sumN (fun x => fb p m t l x) (m + 1) := by
  unfold FF
  obtain ⟨k, hk⟩ : ∃ k, p - bc t = k + 1 := ⟨p - bc t - 1, by omega⟩
  rw [hk]
  simp only [flN]
  apply sumN_congr
  intro x _
  unfold fb FF
  by_cases h1 : t.testBit ((bc t + x) % p) = true
  · rw [if_pos h1, if_pos h1]
  · rw [if_neg h1, if_neg h1]
    rw [bc_or' hp.2 ht (Nat.mod_lt _ (by omega)) (by simpa using h1)]
    rw [show p - (bc t + 1) = k by omega]
theorem flN_le {p m : Nat} (hm : m ≤ 9) : ∀ k t l, flN p m k t l ≤ 10 ^ k
  | 0, t, l => by simp only [flN]; split <;> simp
  | k + 1, t, l => by
    simp only [flN]
    refine Nat.le_trans (sumN_le (m := 10 ^ k) (fun x _ => ?_)) ?_
    · split
      · exact Nat.zero_le _
      · split
        · exact Nat.zero_le _
        · exact flN_le hm k _ _
    · rw [Nat.pow_succ, Nat.mul_comm]
      exact Nat.mul_le_mul_left _ (by omega)
theorem FF_le {p m : Nat} (hp : p ≤ 8) (hm : m ≤ 9) (t l : Nat) : FF p m t l ≤ 100000000 := Nat.le_trans (flN_le hm _ _ _) (Nat.le_trans (Nat.pow_le_pow_right (by decide) (show p - bc t ≤ 8 by omega)) (by decide))
theorem fb_le {p m : Nat} (hp : p ≤ 8) (hm : m ≤ 9) (t l x : Nat) : fb p m t l x ≤ 100000000 := by
  unfold fb
  split
  · omega
  · split
    · omega
    · exact FF_le hp hm _ _
/-- the table stands -/
def tabOKf (p m : Nat) (f : Nat → Int32) : Prop := ∀ t l, t < 2 ^ p → l < 7 → f (t * 7 + l) = iI ((FF p m t l : Nat) : Int)
section CE
variable {d : Nat} {A : AH} {q c p m : Nat} {f : Nat → Int32}
theorem r_X0_placeBit {x : Nat} {y : Int32} (hq : A q = Ob 0 [.ref c, .int (iI p), .int y]) (pq : Nat.blt q NC = true) (hp : 1 ≤ p ∧ p ≤ 8) (hx : x ≤ 100) : Rt mX0_placeBit d [.ref q, .int (iI x)] A (some (.int (iI ((2 ^ (x % p) : Nat) : Int)))) A := by
  have hxp : x % p < p := Nat.mod_lt _ (by omega)
  refine rt_intro kX0_placeBit rfl rfl rfl ?_
  refine gr_run (pc' := 1) 1 rfl ?_
  refine gr_getf rfl rfl (by repeat (first | exact up_s | assumption | refine up_n (by first | assumption | decide | omega) ?_)) (by first | assumption | rfl) rfl ?_
  refine gr_run (pc' := 5) 1 rfl ?_
  refine gr_icT (t := 12) rfl (by decide) (by omega) (by omega) (cI_ge (by omega)) ?_
  refine gr_run (pc' := 15) 3 rfl ?_
  refine gr_getf rfl rfl (by repeat (first | exact up_s | assumption | refine up_n (by first | assumption | decide | omega) ?_)) (by first | assumption | rfl) rfl ?_
  refine gr_iremN rfl (by omega) (by omega) (by omega) (by omega) ?_
  rw [show (x : Int) % (p : Int) = ((x % p : Nat) : Int) from rfl]
  refine gr_ishl1 rfl (by omega) ?_
  exact gr_ret rfl rfl
theorem r_X0_roundsOf {x : Nat} {y : Int32} (hq : A q = Ob 0 [.ref c, .int (iI p), .int y]) (pq : Nat.blt q NC = true) (hp : 1 ≤ p ∧ p ≤ 8) (hx : x ≤ 100) : Rt mX0_roundsOf d [.ref q, .int (iI x)] A (some (.int (iI ((x / p : Nat) : Int)))) A := by
  refine rt_intro kX0_roundsOf rfl rfl rfl ?_
  refine gr_run (pc' := 1) 1 rfl ?_
  refine gr_getf rfl rfl (by repeat (first | exact up_s | assumption | refine up_n (by first | assumption | decide | omega) ?_)) (by first | assumption | rfl) rfl ?_
  refine gr_run (pc' := 5) 1 rfl ?_
  refine gr_icT (t := 12) rfl (by decide) (by omega) (by omega) (cI_ge (by omega)) ?_
  refine gr_run (pc' := 14) 2 rfl ?_
  refine gr_getf rfl rfl (by repeat (first | exact up_s | assumption | refine up_n (by first | assumption | decide | omega) ?_)) (by first | assumption | rfl) rfl ?_
  refine gr_idivN rfl (by omega) (by omega) (by omega) (by omega) ?_
  exact gr_ret rfl rfl
theorem or_pow_le {p t x : Nat} (hp : 1 ≤ p ∧ p ≤ 8) (ht : t < 2 ^ p) : t ||| 2 ^ (x % p) < 2 ^ p := or_lt (Nat.mod_lt _ (by omega)) ht
theorem r_X0_fillingsBy {t l x : Nat} {y : Int32} (hq : A q = Ob 0 [.ref c, .int (iI p), .int y]) (hc : A c = Ia 1792 f) (pq : Nat.blt q NC = true) (pc : Nat.blt c NC = true) (hp : 1 ≤ p ∧ p ≤ 8) (ht : t < 2 ^ p) (hl : l ≤ 6) (hx : x ≤ 10) (hf : tabOKf p m f) : Rt mX0_fillingsBy (d + 1) [.ref q, .int (iI t), .int (iI l), .int (iI x)] A (some (.int (iI ((fb p m t l x : Nat) : Int)))) A := by
  have h256 := pow8 hp.2
  have hbc := bc_le t
  have hxp : (bc t + x) % p < p := Nat.mod_lt _ (by omega)
  have hor := or_pow_le (x := bc t + x) hp ht
  have hdv : (bc t + x) / p ≤ bc t + x := Nat.div_le_self _ _
  unfold fb
  refine rt_intro kX0_fillingsBy rfl rfl rfl ?_
  refine gr_run (pc' := 1) 1 rfl ?_
  refine gr_callS (As := [_]) lk_0_35 rfl rfl (r_bitCount (by omega)) rfl rfl rfl ?_
  refine gr_run (pc' := 5) 1 rfl ?_
  refine gr_iadd rfl ?_
  refine gr_run (pc' := 11) 3 rfl ?_
  rw [show (bc t : Int) + (x : Int) = ((bc t + x : Nat) : Int) from rfl]
  refine gr_callV (As := [_]) lk_0_41 rfl rfl (r_X0_placeBit hq pq hp (by omega)) (by repeat (first | exact up_s | assumption | refine up_n (by first | assumption | decide | omega) ?_)) (by first | assumption | exact Nat.le_of_ble_eq_true rfl | exact Nat.le_of_ble_eq_true (by assumption)) rfl rfl rfl rfl rfl ?_
  refine gr_run (pc' := 20) 4 rfl ?_
  refine gr_callV (As := [_]) lk_0_44 rfl rfl (r_X0_roundsOf hq pq hp (by omega)) (by repeat (first | exact up_s | assumption | refine up_n (by first | assumption | decide | omega) ?_)) (by first | assumption | exact Nat.le_of_ble_eq_true rfl | exact Nat.le_of_ble_eq_true (by assumption)) rfl rfl rfl rfl rfl ?_
  generalize (bc t + x) / p = rd at *
  generalize (bc t + x) % p = jj at *
  refine gr_isub rfl ?_
  refine gr_run (pc' := 29) 3 rfl ?_
  refine gr_iandN rfl ?_
  rw [and_pow]
  by_cases h1 : t.testBit jj = true
  · rw [if_pos h1, if_pos h1]
    have hpp := Nat.two_pow_pos jj
    have hpl := pow2_le30 (k := jj) (by omega)
    refine gr_ifT (t := 38) rfl (by decide) (by omega) (cI_ne (by omega)) ?_
    refine gr_run (pc' := 39) 1 rfl ?_
    exact gr_ret rfl rfl
  · rw [if_neg h1, if_neg h1]
    by_cases h2 : l < rd
    · rw [if_pos h2]
      refine gr_ifF (t := 38) rfl (by decide) (by omega) (cN_ne (by omega)) ?_
      refine gr_run (pc' := 35) 1 rfl ?_
      refine gr_ifF (t := 40) rfl (by decide) (by omega) (cN_ge (by omega)) ?_
      refine gr_run (pc' := 39) 1 rfl ?_
      exact gr_ret rfl rfl
    · rw [if_neg h2]
      obtain ⟨l2, hl2⟩ : ∃ l2 : Nat, l2 = l - rd := ⟨_, rfl⟩
      rw [← hl2, show (l : Int) - (rd : Int) = (l2 : Int) by omega]
      refine gr_ifF (t := 38) rfl (by decide) (by omega) (cN_ne (by omega)) ?_
      refine gr_run (pc' := 35) 1 rfl ?_
      refine gr_ifT (t := 40) rfl (by decide) (by omega) (cI_ge (by omega)) ?_
      refine gr_run (pc' := 43) 2 rfl ?_
      refine gr_iorN rfl ?_
      refine gr_run (pc' := 46) 1 rfl ?_
      refine gr_imul rfl ?_
      refine gr_run (pc' := 49) 1 rfl ?_
      refine gr_iadd rfl ?_
      refine gr_run (pc' := 55) 3 rfl ?_
      refine gr_getf rfl rfl (by repeat (first | exact up_s | assumption | refine up_n (by first | assumption | decide | omega) ?_)) (by first | assumption | rfl) rfl ?_
      refine gr_alen rfl (by repeat (first | exact up_s | assumption | refine up_n (by first | assumption | decide | omega) ?_)) (by first | assumption | rfl) rfl ?_
      refine gr_icF (t := 72) rfl (by decide) (by omega) (by omega) (cN_ge (by omega)) ?_
      refine gr_run (pc' := 63) 1 rfl ?_
      refine gr_getf rfl rfl (by repeat (first | exact up_s | assumption | refine up_n (by first | assumption | decide | omega) ?_)) (by first | assumption | rfl) rfl ?_
      refine gr_run (pc' := 68) 1 rfl ?_
      refine gr_iald rfl (by repeat (first | exact up_s | assumption | refine up_n (by first | assumption | decide | omega) ?_)) (by first | assumption | rfl) (ix_i (j := (t ||| 2 ^ jj) * 7 + l2) rfl (by omega) (by decide)) ?_
      refine gr_run (pc' := 73) 1 rfl ?_
      rw [hf _ _ hor (by omega)]
      exact gr_ret rfl rfl
theorem r_X0_total {b : Nat} {x y : Int32} (hq : A q = Ob 0 [.ref c, .int x, .int y]) (hc : A c = Ia 1792 f) (pq : Nat.blt q NC = true) (pc : Nat.blt c NC = true) (hb : b ≤ 6) (hf : tabOKf p m f) : Rt mX0_total d [.ref q, .int (iI b)] A (some (.int (iI ((FF p m 0 b : Nat) : Int)))) A := by
  refine rt_intro kX0_total rfl rfl rfl ?_
  refine gr_run (pc' := 1) 1 rfl ?_
  refine gr_ifF (t := 19) rfl (by decide) (by omega) (cN_lt (by omega)) ?_
  refine gr_run (pc' := 7) 2 rfl ?_
  refine gr_icF (t := 19) rfl (by decide) (by omega) (by omega) (cN_ge (by omega)) ?_
  refine gr_run (pc' := 11) 1 rfl ?_
  refine gr_getf rfl rfl (by repeat (first | exact up_s | assumption | refine up_n (by first | assumption | decide | omega) ?_)) (by first | assumption | rfl) rfl ?_
  refine gr_run (pc' := 15) 1 rfl ?_
  refine gr_iald rfl (by repeat (first | exact up_s | assumption | refine up_n (by first | assumption | decide | omega) ?_)) (by first | assumption | rfl) (ix_i rfl (by omega) (by decide)) ?_
  refine gr_run (pc' := 20) 1 rfl ?_
  have h := hf 0 b (Nat.two_pow_pos p) (by omega)
  rw [Nat.zero_mul, Nat.zero_add] at h
  rw [h]
  exact gr_ret rfl rfl
/-- a row of the table laid anew -/
def rowF (f : Nat → Int32) (t : Nat) (acc : Nat → Nat) : Nat → Int32 := fun i => if t * 7 ≤ i ∧ i < t * 7 + 7 then iI ((acc (i - t * 7) : Nat) : Int) else f i
def updN (f : Nat → Nat) (k v : Nat) : Nat → Nat := fun j => if j = k then v else f j
theorem rowF_upd {f : Nat → Int32} {t l v : Nat} {acc : Nat → Nat} (hl : l < 7) : upd (rowF f t acc) (t * 7 + l) (iI (v : Int)) = rowF f t (updN acc l v) := by
  funext i
  unfold upd rowF updN
  by_cases h : i = t * 7 + l
  · subst h
    rw [if_pos rfl, if_pos (by omega), if_pos (by omega)]
  · rw [if_neg h]
    by_cases h2 : t * 7 ≤ i ∧ i < t * 7 + 7
    · rw [if_pos h2, if_pos h2, if_neg (by omega)]
    · rw [if_neg h2, if_neg h2]
theorem rowF_at {f : Nat → Int32} {t l : Nat} {acc : Nat → Nat} (hl : l < 7) : rowF f t acc (t * 7 + l) = iI ((acc l : Nat) : Int) := by
  unfold rowF
  rw [if_pos (by omega), show t * 7 + l - t * 7 = l by omega]
theorem rowF_off {f : Nat → Int32} {t t' l : Nat} {acc : Nat → Nat} (ht : t' ≠ t) (hl : l < 7) : rowF f t acc (t' * 7 + l) = f (t' * 7 + l) := by
  unfold rowF
  rw [if_neg (by omega)]
theorem rowF_congr {f : Nat → Int32} {t : Nat} {a b : Nat → Nat} (h : ∀ l, l < 7 → a l = b l) : rowF f t a = rowF f t b := by
  funext i
  unfold rowF
  split
  · rw [h _ (by omega)]
  · rfl
/-- what one throw adds -/
def tm (p t : Nat) (R : Nat → Nat → Nat) (x l : Nat) : Nat := if t.testBit ((bc t + x) % p) then 0 else if l < (bc t + x) / p then 0 else R (t ||| 2 ^ ((bc t + x) % p)) (l - (bc t + x) / p)
theorem or_ne {t j : Nat} (h : t.testBit j = false) : t ||| 2 ^ j ≠ t := by
  intro e
  have h1 : (t ||| 2 ^ j).testBit j = true := by simp [Nat.testBit_or, Nat.testBit_two_pow]
  rw [e, h] at h1
  cases h1
theorem r_X0_fillRow {t : Nat} {R : Nat → Nat → Nat} (hq : A q = Ob 0 [.ref c, .int (iI p), .int (iI m)]) (hc : A c = Ia 1792 (rowF f t (fun _ => 0))) (pq : Nat.blt q NC = true) (pc : Nat.blt c NC = true) (hp : 1 ≤ p ∧ p ≤ 8) (hm : m ≤ 9) (ht : t < 2 ^ p) (hR : ∀ t' l, t < t' → t' < 2 ^ p → l < 7 → f (t' * 7 + l) = iI ((R t' l : Nat) : Int)) : Rt mX0_fillRow (d + 1) [.ref q, .int (iI t)] A none (va_up A c (Ia 1792 (rowF f t (fun l => sumN (fun x => tm p t R x l) (m + 1))))) := by
  have h256 := pow8 hp.2
  have hbc := bc_le t
  have hqc : q ≠ c := by intro e; rw [← e, hq] at hc; cases hc
  -- the inner loop, from one place on
  have inner : ∀ (x bt : Nat) (acc : Nat → Nat), x ≤ m → t.testBit ((bc t + x) % p) = false → bt = 2 ^ ((bc t + x) % p) →
      (∀ x6 : Option Value, Gr mX0_fillRow (d + 1) 90 [some (.ref q), some (.int (iI t)), some (.int (iI ((bc t : Nat) : Int))), some (.int (iI (x : Int))), some (.int (iI (bt : Int))), some (.int (iI ((((bc t + x) / p : Nat)) : Int))), x6] [] (va_up A c (Ia 1792 (rowF f t (fun l => acc l + tm p t R x l)))) none (va_up A c (Ia 1792 (rowF f t (fun l => sumN (fun x => tm p t R x l) (m + 1)))))) →
      Gr mX0_fillRow (d + 1) 44 [some (.ref q), some (.int (iI t)), some (.int (iI ((bc t : Nat) : Int))), some (.int (iI (x : Int))), some (.int (iI (bt : Int))), some (.int (iI ((((bc t + x) / p : Nat)) : Int))), some (.int (iI ((((bc t + x) / p : Nat)) : Int)))] [] (va_up A c (Ia 1792 (rowF f t acc))) none (va_up A c (Ia 1792 (rowF f t (fun l => sumN (fun x => tm p t R x l) (m + 1))))) := by
    intro x bt acc hx htb hbt K
    have hxp : (bc t + x) % p < p := Nat.mod_lt _ (by omega)
    have hor := or_pow_le (x := bc t + x) hp ht
    have hne := or_ne htb
    have hgt : t < t ||| 2 ^ ((bc t + x) % p) := Nat.lt_of_le_of_ne Nat.left_le_or (fun e => hne e.symm)
    obtain ⟨rd, hrd⟩ : ∃ rd : Nat, rd = (bc t + x) / p := ⟨_, rfl⟩
    rw [← hrd] at K ⊢
    have htm : ∀ l, tm p t R x l = if l < rd then 0 else R (t ||| bt) (l - rd) := by
      intro l
      unfold tm
      rw [if_neg (by simp [htb]), ← hrd, ← hbt]
    have hrd18 : rd ≤ 18 := by rw [hrd]; exact Nat.le_trans (Nat.div_le_self _ _) (by omega)
    have go : ∀ k lf, lf + k = 7 → rd ≤ lf → Gr mX0_fillRow (d + 1) 44 [some (.ref q), some (.int (iI t)), some (.int (iI ((bc t : Nat) : Int))), some (.int (iI (x : Int))), some (.int (iI (bt : Int))), some (.int (iI (rd : Int))), some (.int (iI (lf : Int)))] [] (va_up A c (Ia 1792 (rowF f t (fun l => acc l + if l < lf then tm p t R x l else 0)))) none (va_up A c (Ia 1792 (rowF f t (fun l => sumN (fun x => tm p t R x l) (m + 1))))) := by
      intro k
      induction k with
      | zero =>
        intro lf hlf hrl
        refine gr_run (pc' := 48) 2 rfl ?_
        refine gr_icT (t := 90) rfl (by decide) (by omega) (by omega) (cI_ge (by omega)) ?_
        have := K (some (.int (iI (lf : Int))))
        rw [rowF_congr (b := fun l => acc l + tm p t R x l) (fun l hl => by rw [if_pos (show l < lf by omega)])]
        exact this
      | succ k ih =>
        intro lf hlf hrl
        have hbt2 : bt = 2 ^ ((bc t + x) % p) := hbt
        refine gr_run (pc' := 48) 2 rfl ?_
        refine gr_icF (t := 90) rfl (by decide) (by omega) (by omega) (cN_ge (by omega)) ?_
        refine gr_run (pc' := 52) 1 rfl ?_
        refine gr_getf rfl rfl (by repeat (first | exact up_s | assumption | refine up_n (by first | assumption | decide | omega) ?_)) (by first | assumption | rfl) rfl ?_
        refine gr_run (pc' := 58) 2 rfl ?_
        refine gr_imul rfl ?_
        refine gr_run (pc' := 61) 1 rfl ?_
        refine gr_iadd rfl ?_
        refine gr_run (pc' := 63) 1 rfl ?_
        refine gr_iald (j := t * 7 + lf) rfl up_s pc (ix_i rfl (by omega) (by decide)) ?_
        rw [rowF_at (by omega)]
        refine gr_run (pc' := 65) 1 rfl ?_
        refine gr_getf rfl rfl (by repeat (first | exact up_s | assumption | refine up_n (by first | assumption | decide | omega) ?_)) (by first | assumption | rfl) rfl ?_
        refine gr_run (pc' := 71) 2 rfl ?_
        refine gr_iorN rfl ?_
        refine gr_run (pc' := 74) 1 rfl ?_
        refine gr_imul rfl ?_
        refine gr_run (pc' := 77) 1 rfl ?_
        refine gr_iadd rfl ?_
        refine gr_run (pc' := 80) 1 rfl ?_
        refine gr_isub rfl ?_
        refine gr_iald (j := (t ||| bt) * 7 + (lf - rd)) rfl up_s pc (ix_i (by omega) (by rw [hbt]; omega) (by decide)) ?_
        rw [rowF_off (by rw [hbt]; exact hne) (by omega), hR _ _ (by rw [hbt]; exact hgt) (by rw [hbt]; exact hor) (by omega)]
        refine gr_iadd rfl ?_
        refine gr_iast (j := t * 7 + lf) rfl up_s pc (ix_i rfl (by omega) (by decide)) ?_
        rw [bx_uu, show ((acc lf + (if lf < lf then tm p t R x lf else 0) : Nat) : Int) + ((R (t ||| bt) (lf - rd) : Nat) : Int) = ((acc lf + tm p t R x lf : Nat) : Int) by rw [htm, if_neg (by omega), if_neg (by omega)]; omega, rowF_upd (by omega)]
        rw [rowF_congr (b := fun l => acc l + if l < lf + 1 then tm p t R x l else 0) (fun l hl => by
          unfold updN
          by_cases e : l = lf
          · rw [if_pos e, if_pos (by omega), e]
          · rw [if_neg e]
            dsimp only
            by_cases e2 : l < lf
            · rw [if_pos e2, if_pos (by omega)]
            · rw [if_neg e2, if_neg (by omega)])]
        refine gr_iinc rfl rfl rfl rfl ?_
        refine gr_run (pc' := 44) 1 rfl ?_
        exact ih (lf + 1) (by omega) (by omega)
    by_cases h7 : rd ≤ 7
    · have := go (7 - rd) rd (by omega) (Nat.le_refl _)
      rw [rowF_congr (b := acc) (fun l hl => by
        by_cases e : l < rd
        · rw [if_pos e, htm, if_pos e, Nat.add_zero]
        · rw [if_neg e, Nat.add_zero])] at this
      exact this
    · refine gr_run (pc' := 48) 2 rfl ?_
      refine gr_icT (t := 90) rfl (by decide) (by omega) (by omega) (cI_ge (by omega)) ?_
      have := K (some (.int (iI (rd : Int))))
      rw [rowF_congr (b := acc) (fun l hl => by rw [htm, if_pos (by omega), Nat.add_zero])] at this
      exact this
  have key : ∀ k x, x + k = m + 1 → ∀ x4 x5 x6 : Option Value, Gr mX0_fillRow (d + 1) 7 [some (.ref q), some (.int (iI t)), some (.int (iI ((bc t : Nat) : Int))), some (.int (iI (x : Int))), x4, x5, x6] [] (va_up A c (Ia 1792 (rowF f t (fun l => sumN (fun x => tm p t R x l) x)))) none (va_up A c (Ia 1792 (rowF f t (fun l => sumN (fun x => tm p t R x l) (m + 1))))) := by
    intro k
    induction k with
    | zero =>
      intro x hx x4 x5 x6
      have hx : x = m + 1 := by omega
      subst hx
      refine gr_run (pc' := 9) 2 rfl ?_
      refine gr_getf rfl rfl (by repeat (first | exact up_s | assumption | refine up_n (by first | assumption | decide | omega) ?_)) (by first | assumption | rfl) rfl ?_
      refine gr_icT (t := 96) rfl (by decide) (by omega) (by omega) (cI_gt (by omega)) ?_
      exact gr_ret rfl rfl
    | succ k ih =>
      intro x hx x4 x5 x6
      have hxp : (bc t + x) % p < p := Nat.mod_lt _ (by omega)
      refine gr_run (pc' := 9) 2 rfl ?_
      refine gr_getf rfl rfl (by repeat (first | exact up_s | assumption | refine up_n (by first | assumption | decide | omega) ?_)) (by first | assumption | rfl) rfl ?_
      refine gr_icF (t := 96) rfl (by decide) (by omega) (by omega) (cN_gt (by omega)) ?_
      refine gr_run (pc' := 18) 3 rfl ?_
      refine gr_iadd rfl ?_
      rw [show ((bc t : Nat) : Int) + (x : Int) = ((bc t + x : Nat) : Int) from rfl]
      refine gr_callV (As := [_]) lk_0_41 rfl rfl (r_X0_placeBit (up_n hqc hq) pq hp (by omega)) (by repeat (first | exact up_s | assumption | refine up_n (by first | assumption | decide | omega) ?_)) (by first | assumption | exact Nat.le_of_ble_eq_true rfl | exact Nat.le_of_ble_eq_true (by assumption)) rfl rfl rfl rfl rfl ?_
      refine gr_run (pc' := 27) 3 rfl ?_
      refine gr_iandN rfl ?_
      rw [and_pow]
      by_cases htb : t.testBit ((bc t + x) % p) = true
      · rw [if_pos htb]
        have hpp := Nat.two_pow_pos ((bc t + x) % p)
        have hpl := pow2_le30 (k := (bc t + x) % p) (by omega)
        refine gr_ifT (t := 90) rfl (by decide) (by omega) (cI_ne (by omega)) ?_
        refine gr_iinc rfl rfl rfl rfl ?_
        refine gr_run (pc' := 7) 1 rfl ?_
        have := ih (x + 1) (by omega) (some (.int (iI ((2 ^ ((bc t + x) % p) : Nat) : Int)))) x5 x6
        rw [rowF_congr (b := fun l => sumN (fun x => tm p t R x l) x) (fun l hl => by
          simp only [sumN]
          rw [show tm p t R x l = 0 by unfold tm; rw [if_pos htb], Nat.add_zero])] at this
        exact this
      · rw [if_neg htb]
        refine gr_ifF (t := 90) rfl (by decide) (by omega) (cN_ne (by omega)) ?_
        refine gr_run (pc' := 34) 3 rfl ?_
        refine gr_iadd rfl ?_
        rw [show ((bc t : Nat) : Int) + (x : Int) = ((bc t + x : Nat) : Int) from rfl]
        refine gr_callV (As := [_]) lk_0_44 rfl rfl (r_X0_roundsOf (up_n hqc hq) pq hp (by omega)) (by repeat (first | exact up_s | assumption | refine up_n (by first | assumption | decide | omega) ?_)) (by first | assumption | exact Nat.le_of_ble_eq_true rfl | exact Nat.le_of_ble_eq_true (by assumption)) rfl rfl rfl rfl rfl ?_
        refine gr_run (pc' := 44) 3 rfl ?_
        refine inner x _ _ (by omega) (by simpa using htb) rfl (fun x6 => ?_)
        refine gr_iinc rfl rfl rfl rfl ?_
        refine gr_run (pc' := 7) 1 rfl ?_
        exact ih (x + 1) (by omega) _ _ _
  have h0 : A = va_up A c (Ia 1792 (rowF f t (fun l => sumN (fun x => tm p t R x l) 0))) := (up_same hc).symm
  refine rt_intro kX0_fillRow rfl rfl trivial ?_
  refine gr_run (pc' := 1) 1 rfl ?_
  refine gr_callS (As := [_]) lk_0_35 rfl rfl (r_bitCount (by omega)) rfl rfl rfl ?_
  refine gr_run (pc' := 7) 3 rfl ?_
  exact gr_h h0 (key (m + 1) 0 (by omega) none none none)
end CE
