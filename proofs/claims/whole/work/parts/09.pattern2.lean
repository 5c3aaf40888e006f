/-! the statics of BallsInAir, and the rest of BallsInAir$Pattern -/
section ST
variable {d : Nat} {A : AH}
theorem r_thrown {a x : Nat} (ha : a < 512) (hx : x ≤ 9) : Rt mX6_thrown d [.int (iI a), .int (iI x)] A (some (.int (iI ((thr a x : Nat) : Int)))) A := by
  refine rt_intro kX6_thrown rfl rfl rfl ?_
  by_cases h0 : x = 0
  · refine gr_run (pc' := 2) 2 rfl ?_
    refine gr_icF (t := 11) rfl (by decide) (by omega) (by omega) (cN_ge (by omega)) ?_
    refine gr_run (pc' := 7) 2 rfl ?_
    refine gr_ishrN (k0 := 1) rfl (by omega) (by omega) ?_
    refine gr_run (pc' := 20) 1 rfl ?_
    rw [show thr a x = a / 2 ^ 1 by simp [thr, h0]]
    exact gr_ret rfl rfl
  · refine gr_run (pc' := 2) 2 rfl ?_
    refine gr_icT (t := 11) rfl (by decide) (by omega) (by omega) (cI_ge (by omega)) ?_
    refine gr_run (pc' := 13) 2 rfl ?_
    refine gr_ishrN (k0 := 1) rfl (by omega) (by omega) ?_
    refine gr_run (pc' := 17) 3 rfl ?_
    refine gr_isub rfl ?_
    rw [show (x : Int) - 1 = ((x - 1 : Nat) : Int) by omega]
    refine gr_ishl1 rfl (by omega) ?_
    refine gr_iorN rfl ?_
    rw [show thr a x = a / 2 ^ 1 ||| 2 ^ (x - 1) by simp [thr, h0]]
    exact gr_ret rfl rfl
theorem r_isTakenT {a x : Nat} (ha : a < 512) (hx : x ≤ 9) (h : a.testBit x = true) : Rt mX6_isTaken d [.int (iI a), .int (iI x)] A (some (.int (iI 1))) A := by
  refine rt_intro kX6_isTaken rfl rfl rfl ?_
  refine gr_run (pc' := 2) 2 rfl ?_
  refine gr_ishrN rfl (by omega) (by omega) ?_
  refine gr_run (pc' := 4) 1 rfl ?_
  refine gr_iandN (b := 1) rfl ?_
  rw [shr_and1, if_pos h]
  refine gr_ifF (t := 12) rfl (by decide) (by omega) (cN_eq (by omega)) ?_
  refine gr_run (pc' := 13) 2 rfl ?_
  exact gr_ret rfl rfl
theorem r_isTakenF {a x : Nat} (ha : a < 512) (hx : x ≤ 9) (h : a.testBit x = false) : Rt mX6_isTaken d [.int (iI a), .int (iI x)] A (some (.int (iI 0))) A := by
  refine rt_intro kX6_isTaken rfl rfl rfl ?_
  refine gr_run (pc' := 2) 2 rfl ?_
  refine gr_ishrN rfl (by omega) (by omega) ?_
  refine gr_run (pc' := 4) 1 rfl ?_
  refine gr_iandN (b := 1) rfl ?_
  rw [shr_and1, if_neg (by simp [h])]
  refine gr_ifT (t := 12) rfl (by decide) (by omega) (cI_eq (by omega)) ?_
  refine gr_run (pc' := 13) 1 rfl ?_
  exact gr_ret rfl rfl
theorem r_isAirT {z : Int} (h : 0 ≤ z ∧ z < 512) : Rt mX6_isAir d [.int (iI z)] A (some (.int (iI 1))) A := by
  refine rt_intro kX6_isAir rfl rfl rfl ?_
  refine gr_run (pc' := 1) 1 rfl ?_
  refine gr_ifF (t := 15) rfl (by decide) (by omega) (cN_lt (by omega)) ?_
  refine gr_run (pc' := 8) 2 rfl ?_
  refine gr_icF (t := 15) rfl (by decide) (by omega) (by omega) (cN_ge (by omega)) ?_
  refine gr_run (pc' := 16) 2 rfl ?_
  exact gr_ret rfl rfl
theorem r_isAirF {z : Int} (hz : bd z) (h : z < 0 ∨ 512 ≤ z) : Rt mX6_isAir d [.int (iI z)] A (some (.int (iI 0))) A := by
  refine rt_intro kX6_isAir rfl rfl rfl ?_
  by_cases h0 : z < 0
  · refine gr_run (pc' := 1) 1 rfl ?_
    refine gr_ifT (t := 15) rfl (by decide) (by omega) (cI_lt (by omega)) ?_
    refine gr_run (pc' := 16) 1 rfl ?_
    exact gr_ret rfl rfl
  · refine gr_run (pc' := 1) 1 rfl ?_
    refine gr_ifF (t := 15) rfl (by decide) (by omega) (cN_lt (by omega)) ?_
    refine gr_run (pc' := 8) 2 rfl ?_
    refine gr_icT (t := 15) rfl (by decide) (by omega) (by omega) (cI_ge (by omega)) ?_
    refine gr_run (pc' := 16) 1 rfl ?_
    exact gr_ret rfl rfl
theorem r_isHeightT {z : Int} (h : 0 ≤ z ∧ z ≤ 9) : Rt mX6_isHeight d [.int (iI z)] A (some (.int (iI 1))) A := by
  refine rt_intro kX6_isHeight rfl rfl rfl ?_
  refine gr_run (pc' := 1) 1 rfl ?_
  refine gr_ifF (t := 14) rfl (by decide) (by omega) (cN_lt (by omega)) ?_
  refine gr_run (pc' := 7) 2 rfl ?_
  refine gr_icF (t := 14) rfl (by decide) (by omega) (by omega) (cN_gt (by omega)) ?_
  refine gr_run (pc' := 15) 2 rfl ?_
  exact gr_ret rfl rfl
theorem r_isHeightF {z : Int} (hz : bd z) (h : z < 0 ∨ 9 < z) : Rt mX6_isHeight d [.int (iI z)] A (some (.int (iI 0))) A := by
  refine rt_intro kX6_isHeight rfl rfl rfl ?_
  by_cases h0 : z < 0
  · refine gr_run (pc' := 1) 1 rfl ?_
    refine gr_ifT (t := 14) rfl (by decide) (by omega) (cI_lt (by omega)) ?_
    refine gr_run (pc' := 15) 1 rfl ?_
    exact gr_ret rfl rfl
  · refine gr_run (pc' := 1) 1 rfl ?_
    refine gr_ifF (t := 14) rfl (by decide) (by omega) (cN_lt (by omega)) ?_
    refine gr_run (pc' := 7) 2 rfl ?_
    refine gr_icT (t := 14) rfl (by decide) (by omega) (by omega) (cI_gt (by omega)) ?_
    refine gr_run (pc' := 15) 1 rfl ?_
    exact gr_ret rfl rfl
theorem r_isWhichT {z : Int} (h : z = 0 ∨ z = 1) : Rt mX6_isWhich d [.int (iI z)] A (some (.int (iI 1))) A := by
  refine rt_intro kX6_isWhich rfl rfl rfl ?_
  by_cases h0 : z = 0
  · refine gr_run (pc' := 1) 1 rfl ?_
    refine gr_ifT (t := 9) rfl (by decide) (by omega) (cI_eq (by omega)) ?_
    refine gr_run (pc' := 14) 2 rfl ?_
    exact gr_ret rfl rfl
  · refine gr_run (pc' := 1) 1 rfl ?_
    refine gr_ifF (t := 9) rfl (by decide) (by omega) (cN_eq (by omega)) ?_
    refine gr_run (pc' := 6) 2 rfl ?_
    refine gr_icF (t := 13) rfl (by decide) (by omega) (by omega) (cN_ne (by omega)) ?_
    refine gr_run (pc' := 14) 2 rfl ?_
    exact gr_ret rfl rfl
theorem r_isWhichF {z : Int} (hz : bd z) (h : z ≠ 0 ∧ z ≠ 1) : Rt mX6_isWhich d [.int (iI z)] A (some (.int (iI 0))) A := by
  refine rt_intro kX6_isWhich rfl rfl rfl ?_
  refine gr_run (pc' := 1) 1 rfl ?_
  refine gr_ifF (t := 9) rfl (by decide) (by omega) (cN_eq (by omega)) ?_
  refine gr_run (pc' := 6) 2 rfl ?_
  refine gr_icT (t := 13) rfl (by decide) (by omega) (by omega) (cI_ne (by omega)) ?_
  refine gr_run (pc' := 14) 1 rfl ?_
  exact gr_ret rfl rfl
theorem r_isBeatT {z : Int} (h : 0 ≤ z ∧ z ≤ 100000) : Rt mX6_isBeat d [.int (iI z)] A (some (.int (iI 1))) A := by
  refine rt_intro kX6_isBeat rfl rfl rfl ?_
  refine gr_run (pc' := 1) 1 rfl ?_
  refine gr_ifF (t := 14) rfl (by decide) (by omega) (cN_lt (by omega)) ?_
  refine gr_run (pc' := 7) 2 rfl ?_
  refine gr_icF (t := 14) rfl (by decide) (by omega) (by omega) (cN_gt (by omega)) ?_
  refine gr_run (pc' := 15) 2 rfl ?_
  exact gr_ret rfl rfl
theorem r_isBeatF {z : Int} (hz : bd z) (h : z < 0 ∨ 100000 < z) : Rt mX6_isBeat d [.int (iI z)] A (some (.int (iI 0))) A := by
  refine rt_intro kX6_isBeat rfl rfl rfl ?_
  by_cases h0 : z < 0
  · refine gr_run (pc' := 1) 1 rfl ?_
    refine gr_ifT (t := 14) rfl (by decide) (by omega) (cI_lt (by omega)) ?_
    refine gr_run (pc' := 15) 1 rfl ?_
    exact gr_ret rfl rfl
  · refine gr_run (pc' := 1) 1 rfl ?_
    refine gr_ifF (t := 14) rfl (by decide) (by omega) (cN_lt (by omega)) ?_
    refine gr_run (pc' := 7) 2 rfl ?_
    refine gr_icT (t := 14) rfl (by decide) (by omega) (by omega) (cI_gt (by omega)) ?_
    refine gr_run (pc' := 15) 1 rfl ?_
    exact gr_ret rfl rfl
theorem r_isListedT {p b m : Int} (hp : 1 ≤ p ∧ p ≤ 8) (hb : 1 ≤ b ∧ b ≤ 6) (hm : 1 ≤ m ∧ m ≤ 9) : Rt mX6_isListed d [.int (iI p), .int (iI b), .int (iI m)] A (some (.int (iI 1))) A := by
  refine rt_intro kX6_isListed rfl rfl rfl ?_
  refine gr_run (pc' := 2) 2 rfl ?_
  refine gr_icF (t := 37) rfl (by decide) (by omega) (by omega) (cN_lt (by omega)) ?_
  refine gr_run (pc' := 8) 2 rfl ?_
  refine gr_icF (t := 37) rfl (by decide) (by omega) (by omega) (cN_gt (by omega)) ?_
  refine gr_run (pc' := 13) 2 rfl ?_
  refine gr_icF (t := 37) rfl (by decide) (by omega) (by omega) (cN_lt (by omega)) ?_
  refine gr_run (pc' := 19) 2 rfl ?_
  refine gr_icF (t := 37) rfl (by decide) (by omega) (by omega) (cN_gt (by omega)) ?_
  refine gr_run (pc' := 24) 2 rfl ?_
  refine gr_icF (t := 37) rfl (by decide) (by omega) (by omega) (cN_lt (by omega)) ?_
  refine gr_run (pc' := 30) 2 rfl ?_
  refine gr_icF (t := 37) rfl (by decide) (by omega) (by omega) (cN_gt (by omega)) ?_
  refine gr_run (pc' := 38) 2 rfl ?_
  exact gr_ret rfl rfl
theorem r_isListedF {p b m : Int} (hp : bd p) (hb : bd b) (hm : bd m) (h : ¬ ((1 ≤ p ∧ p ≤ 8) ∧ (1 ≤ b ∧ b ≤ 6) ∧ (1 ≤ m ∧ m ≤ 9))) : Rt mX6_isListed d [.int (iI p), .int (iI b), .int (iI m)] A (some (.int (iI 0))) A := by
  refine rt_intro kX6_isListed rfl rfl rfl ?_
  by_cases h1 : p < 1
  · refine gr_run (pc' := 2) 2 rfl ?_
    refine gr_icT (t := 37) rfl (by decide) (by omega) (by omega) (cI_lt (by omega)) ?_
    refine gr_run (pc' := 38) 1 rfl ?_
    exact gr_ret rfl rfl
  by_cases h2 : 8 < p
  · refine gr_run (pc' := 2) 2 rfl ?_
    refine gr_icF (t := 37) rfl (by decide) (by omega) (by omega) (cN_lt (by omega)) ?_
    refine gr_run (pc' := 8) 2 rfl ?_
    refine gr_icT (t := 37) rfl (by decide) (by omega) (by omega) (cI_gt (by omega)) ?_
    refine gr_run (pc' := 38) 1 rfl ?_
    exact gr_ret rfl rfl
  by_cases h3 : b < 1
  · refine gr_run (pc' := 2) 2 rfl ?_
    refine gr_icF (t := 37) rfl (by decide) (by omega) (by omega) (cN_lt (by omega)) ?_
    refine gr_run (pc' := 8) 2 rfl ?_
    refine gr_icF (t := 37) rfl (by decide) (by omega) (by omega) (cN_gt (by omega)) ?_
    refine gr_run (pc' := 13) 2 rfl ?_
    refine gr_icT (t := 37) rfl (by decide) (by omega) (by omega) (cI_lt (by omega)) ?_
    refine gr_run (pc' := 38) 1 rfl ?_
    exact gr_ret rfl rfl
  by_cases h4 : 6 < b
  · refine gr_run (pc' := 2) 2 rfl ?_
    refine gr_icF (t := 37) rfl (by decide) (by omega) (by omega) (cN_lt (by omega)) ?_
    refine gr_run (pc' := 8) 2 rfl ?_
    refine gr_icF (t := 37) rfl (by decide) (by omega) (by omega) (cN_gt (by omega)) ?_
    refine gr_run (pc' := 13) 2 rfl ?_
    refine gr_icF (t := 37) rfl (by decide) (by omega) (by omega) (cN_lt (by omega)) ?_
    refine gr_run (pc' := 19) 2 rfl ?_
    refine gr_icT (t := 37) rfl (by decide) (by omega) (by omega) (cI_gt (by omega)) ?_
    refine gr_run (pc' := 38) 1 rfl ?_
    exact gr_ret rfl rfl
  by_cases h5 : m < 1
  · refine gr_run (pc' := 2) 2 rfl ?_
    refine gr_icF (t := 37) rfl (by decide) (by omega) (by omega) (cN_lt (by omega)) ?_
    refine gr_run (pc' := 8) 2 rfl ?_
    refine gr_icF (t := 37) rfl (by decide) (by omega) (by omega) (cN_gt (by omega)) ?_
    refine gr_run (pc' := 13) 2 rfl ?_
    refine gr_icF (t := 37) rfl (by decide) (by omega) (by omega) (cN_lt (by omega)) ?_
    refine gr_run (pc' := 19) 2 rfl ?_
    refine gr_icF (t := 37) rfl (by decide) (by omega) (by omega) (cN_gt (by omega)) ?_
    refine gr_run (pc' := 24) 2 rfl ?_
    refine gr_icT (t := 37) rfl (by decide) (by omega) (by omega) (cI_lt (by omega)) ?_
    refine gr_run (pc' := 38) 1 rfl ?_
    exact gr_ret rfl rfl
  · refine gr_run (pc' := 2) 2 rfl ?_
    refine gr_icF (t := 37) rfl (by decide) (by omega) (by omega) (cN_lt (by omega)) ?_
    refine gr_run (pc' := 8) 2 rfl ?_
    refine gr_icF (t := 37) rfl (by decide) (by omega) (by omega) (cN_gt (by omega)) ?_
    refine gr_run (pc' := 13) 2 rfl ?_
    refine gr_icF (t := 37) rfl (by decide) (by omega) (by omega) (cN_lt (by omega)) ?_
    refine gr_run (pc' := 19) 2 rfl ?_
    refine gr_icF (t := 37) rfl (by decide) (by omega) (by omega) (cN_gt (by omega)) ?_
    refine gr_run (pc' := 24) 2 rfl ?_
    refine gr_icF (t := 37) rfl (by decide) (by omega) (by omega) (cN_lt (by omega)) ?_
    refine gr_run (pc' := 30) 2 rfl ?_
    refine gr_icT (t := 37) rfl (by decide) (by omega) (by omega) (cI_gt (by omega)) ?_
    refine gr_run (pc' := 38) 1 rfl ?_
    exact gr_ret rfl rfl
theorem r_ground {k : Nat} (hk : k ≤ 9) : Rt mX6_ground d [.int (iI k)] A (some (.int (iI ((2 ^ k - 1 : Nat) : Int)))) A := by
  have := Nat.two_pow_pos k
  refine rt_intro kX6_ground rfl rfl rfl ?_
  refine gr_run (pc' := 2) 2 rfl ?_
  refine gr_ishl1 rfl (by omega) ?_
  refine gr_run (pc' := 4) 1 rfl ?_
  refine gr_isub rfl ?_
  rw [show ((2 ^ k - 1 : Nat) : Int) = ((2 ^ k : Nat) : Int) - 1 by omega]
  exact gr_ret rfl rfl
def dwN (z : Int) : Int := (7919 * z + 1) * (7919 * z + 1) % 65521 * 65521 + (6151 * z + 2) * (6151 * z + 2) % 65521
theorem sq_bd {y : Int} (h : 0 ≤ y ∧ y ≤ 100000000) : 0 ≤ y * y ∧ y * y ≤ 10000000000000000 := ⟨Int.mul_nonneg h.1 h.1, Int.mul_le_mul h.2 h.2 h.1 (by omega)⟩
theorem r_drawnNumber {z : Int} (hz : 0 ≤ z ∧ z ≤ 9999) : Rt mX6_drawnNumber d [.int (iI z)] A (some (.long (lI (dwN z)))) A := by
  have h1 := sq_bd (y := 7919 * z + 1) (by omega)
  have h2 := sq_bd (y := 6151 * z + 2) (by omega)
  unfold dwN
  generalize hx : 7919 * z + 1 = x at *
  generalize hy : 6151 * z + 2 = y at *
  generalize hxx : x * x = xx at *
  generalize hyy : y * y = yy at *
  refine rt_intro kX6_drawnNumber rfl rfl trivial ?_
  refine gr_run (pc' := 4) 2 rfl ?_
  refine gr_i2l rfl (by omega) ?_
  refine gr_lmul rfl ?_
  refine gr_run (pc' := 7) 1 rfl ?_
  refine gr_ladd rfl ?_
  rw [show (7919 : Int) * z + ((1 : Fin 2).val : Int) = x by rw [← hx]; rfl]
  refine gr_run (pc' := 13) 3 rfl ?_
  refine gr_i2l rfl (by omega) ?_
  refine gr_lmul rfl ?_
  refine gr_run (pc' := 18) 1 rfl ?_
  refine gr_ladd rfl ?_
  rw [hy]
  refine gr_run (pc' := 22) 3 rfl ?_
  refine gr_lmul rfl ?_
  rw [hxx]
  refine gr_run (pc' := 26) 1 rfl ?_
  refine gr_lremN rfl (by omega) (by omega) (by omega) (by omega) ?_
  refine gr_run (pc' := 30) 1 rfl ?_
  refine gr_lmul rfl ?_
  refine gr_run (pc' := 33) 2 rfl ?_
  refine gr_lmul rfl ?_
  rw [hyy]
  refine gr_run (pc' := 37) 1 rfl ?_
  refine gr_lremN rfl (by omega) (by omega) (by omega) (by omega) ?_
  refine gr_ladd rfl ?_
  exact gr_ret rfl rfl
end ST
def mkN (n : Nat) (h : Nat → Nat) (i : Nat) : Nat := orN (fun j => 2 ^ lnd n h j) i
def clF (n : Nat) (h : Nat → Nat) : Nat → Nat → Int
  | 0, _ => -4
  | m + 1, i => if (mkN n h i).testBit (lnd n h i) then i else clF n h m (i + 1)
def plc (n : Nat) (h : Nat → Nat) (t : Nat) : Nat → Nat
  | 0 => t
  | i + 1 => lnd n h (plc n h t i)
def cyB (n : Nat) (h : Nat → Nat) (t : Nat) : Nat := orN (fun i => 2 ^ plc n h t i) n
def cyC (n : Nat) (h : Nat → Nat) : Nat := sumN (fun i => if 0 < h i ∧ cyB n h i &&& (2 ^ i - 1) = 0 then 1 else 0) n
def cyS (n : Nat) (h : Nat → Nat) (t : Nat) : Nat := sumN (fun i => if (cyB n h t).testBit i then h i else 0) n
def tbF (n : Nat) (h : Nat → Nat) (z : Int) : Nat → Int
  | 0 => z
  | m + 1 => if (hg n h (z - (9 - (m : Int))) : Int) = 9 - (m : Int) then z - (9 - (m : Int)) else tbF n h z m
def tbN (n : Nat) (h : Nat → Nat) (z : Int) : Int := tbF n h z 9
theorem tbF_bd {n : Nat} {h : Nat → Nat} {z : Int} : ∀ {m : Nat}, m ≤ 9 → z - 9 ≤ tbF n h z m ∧ tbF n h z m ≤ z
  | 0, _ => by simp only [tbF]; omega
  | m + 1, hm => by
    simp only [tbF]
    have := tbF_bd (n := n) (h := h) (z := z) (m := m) (by omega)
    split <;> omega
theorem tbN_bd (n : Nat) (h : Nat → Nat) (z : Int) : z - 9 ≤ tbN n h z ∧ tbN n h z ≤ z := tbF_bd (by omega)
theorem lnd_lt {n : Nat} {h : Nat → Nat} {i : Nat} (hn : 1 ≤ n) : lnd n h i < n := Nat.mod_lt _ (by omega)
theorem lnd_int {n : Nat} {h : Nat → Nat} {i : Nat} (hi : i < n) : ((i : Int) + hg n h (i : Int)) % (n : Int) = ((lnd n h i : Nat) : Int) := by
  rw [hg_lt hi, lnd]
  rfl
theorem plc_lt {n : Nat} {h : Nat → Nat} {t : Nat} (hn : 1 ≤ n) (ht : t < n) : ∀ i, plc n h t i < n
  | 0 => ht
  | _ + 1 => lnd_lt hn
theorem cyB_lt {n : Nat} {h : Nat → Nat} {t : Nat} (hn : 1 ≤ n ∧ n ≤ 10) (ht : t < n) : cyB n h t < 1024 := orN_lt (m := 10) (fun i _ => pow2_lt (by have := plc_lt (h := h) hn.1 ht i; omega))
section PB
variable {d : Nat} {A : AH} {a b n : Nat} {f : Nat → Int32} {h : Nat → Nat}
theorem r_X2_firstClash (ha : A a = Ob 2 [.ref b, .int (iI n)]) (hb : A b = Ia 10 f) (pa : Nat.blt a NC = true) (pb : Nat.blt b NC = true) (hh : okH n h) (hf : ∀ i, i < n → f i = iI (h i)) : Rt mX2_firstClash (d + 3) [.ref a] A (some (.int (iI (clF n h n 0)))) A := by
  have hn := hh.1
  have key : ∀ m i, i + m = n → ∀ x3 : Option Value, Gr mX2_firstClash (d + 3) 4 [some (.ref a), some (.int (iI ((mkN n h i : Nat) : Int))), some (.int (iI (i : Int))), x3] [] A (some (.int (iI (clF n h m i)))) A := by
    intro m
    induction m with
    | zero =>
      intro i hi x3
      refine gr_run (pc' := 6) 2 rfl ?_
      refine gr_getf rfl rfl (by repeat (first | exact up_s | assumption | refine up_n (by first | assumption | decide | omega) ?_)) (by first | assumption | rfl) rfl ?_
      refine gr_icT (t := 38) rfl (by decide) (by omega) (by omega) (cI_ge (by omega)) ?_
      refine gr_run (pc' := 40) 1 rfl ?_
      exact gr_ret rfl rfl
    | succ m ih =>
      intro i hi x3
      have hll := lnd_lt (h := h) (i := i) hn.1
      refine gr_run (pc' := 6) 2 rfl ?_
      refine gr_getf rfl rfl (by repeat (first | exact up_s | assumption | refine up_n (by first | assumption | decide | omega) ?_)) (by first | assumption | rfl) rfl ?_
      refine gr_icF (t := 38) rfl (by decide) (by omega) (by omega) (cN_ge (by omega)) ?_
      refine gr_run (pc' := 15) 3 rfl ?_
      refine gr_callV (As := [_]) lk_2_39 rfl rfl (r_X2_landing ha hb pa pb hh hf (by omega)) (by repeat (first | exact up_s | assumption | refine up_n (by first | assumption | decide | omega) ?_)) (by first | assumption | exact Nat.le_of_ble_eq_true rfl | exact Nat.le_of_ble_eq_true (by assumption)) rfl rfl rfl rfl rfl ?_
      rw [lnd_int (by omega)]
      refine gr_ishl1 rfl (by omega) ?_
      refine gr_run (pc' := 22) 3 rfl ?_
      refine gr_iandN rfl ?_
      rw [and_pow]
      by_cases ht : (mkN n h i).testBit (lnd n h i) = true
      · rw [if_pos ht]
        have hp := Nat.two_pow_pos (lnd n h i)
        have hp2 := pow2_le30 (k := lnd n h i) (by omega)
        refine gr_ifF (t := 28) rfl (by decide) (by omega) (cN_eq (by omega)) ?_
        refine gr_run (pc' := 27) 1 rfl ?_
        simp only [clF, if_pos ht]
        exact gr_ret rfl rfl
      · rw [if_neg ht]
        refine gr_ifT (t := 28) rfl (by decide) (by omega) (cI_eq (by omega)) ?_
        refine gr_run (pc' := 30) 2 rfl ?_
        refine gr_iorN rfl ?_
        refine gr_run (pc' := 32) 1 rfl ?_
        refine gr_iinc rfl rfl rfl rfl ?_
        refine gr_run (pc' := 4) 1 rfl ?_
        simp only [clF, if_neg ht]
        exact ih (i + 1) (by omega) _
  refine rt_intro kX2_firstClash rfl rfl rfl ?_
  refine gr_run (pc' := 4) 4 rfl ?_
  exact key n 0 (by omega) none
theorem r_X2_hasUnlikeT (ha : A a = Ob 2 [.ref b, .int (iI n)]) (hb : A b = Ia 10 f) (pa : Nat.blt a NC = true) (pb : Nat.blt b NC = true) (hh : okH n h) (hf : ∀ i, i < n → f i = iI (h i)) (hu : ∀ i j, i < j → j < n → airN n h (i : Int) ≠ airN n h (j : Int)) : Rt mX2_hasUnlikeAirs (d + 3) [.ref a] A (some (.int (iI 1))) A := by
  have hn := hh.1
  have hlt := airN_lt hh
  have hstep : ∀ i : Nat, i < n → thr (airN n h (i : Int)) (h i) = airN n h ((i + 1 : Nat) : Int) := fun i hi => by have := thr_air hh (i : Int); rw [hg_lt hi] at this; exact this
  have key : ∀ i, i ≤ n → ∀ x3 x4 : Option Value, Gr mX2_hasUnlikeAirs (d + 3) 8 [some (.ref a), some (.int (iI ((airN n h (i : Int) : Nat) : Int))), some (.int (iI (i : Int))), x3, x4] [] A (some (.int (iI 1))) A := by
    refine go_up ?_ ?_
    · intro x3 x4
      refine gr_run (pc' := 10) 2 rfl ?_
      refine gr_getf rfl rfl (by repeat (first | exact up_s | assumption | refine up_n (by first | assumption | decide | omega) ?_)) (by first | assumption | rfl) rfl ?_
      refine gr_icT (t := 76) rfl (by decide) (by omega) (by omega) (cI_ge (by omega)) ?_
      refine gr_run (pc' := 77) 1 rfl ?_
      exact gr_ret rfl rfl
    · intro i hi ih x3 x4
      refine gr_run (pc' := 10) 2 rfl ?_
      refine gr_getf rfl rfl (by repeat (first | exact up_s | assumption | refine up_n (by first | assumption | decide | omega) ?_)) (by first | assumption | rfl) rfl ?_
      refine gr_icF (t := 76) rfl (by decide) (by omega) (by omega) (cN_ge (by omega)) ?_
      refine gr_run (pc' := 20) 4 rfl ?_
      refine gr_iadd rfl ?_
      refine gr_run (pc' := 23) 1 rfl ?_
      have inner : ∀ j, j ≤ n - 1 - i → Gr mX2_hasUnlikeAirs (d + 3) 23 [some (.ref a), some (.int (iI ((airN n h (i : Int) : Nat) : Int))), some (.int (iI (i : Int))), some (.int (iI ((airN n h ((i + j : Nat) : Int) : Nat) : Int))), some (.int (iI ((i : Int) + 1 + j)))] [] A (some (.int (iI 1))) A := by
        refine go_up ?_ ?_
        · refine gr_run (pc' := 26) 2 rfl ?_
          refine gr_getf rfl rfl (by repeat (first | exact up_s | assumption | refine up_n (by first | assumption | decide | omega) ?_)) (by first | assumption | rfl) rfl ?_
          refine gr_icT (t := 59) rfl (by decide) (by omega) (by omega) (cI_ge (by omega)) ?_
          refine gr_run (pc' := 61) 2 rfl ?_
          refine gr_getf rfl rfl (by repeat (first | exact up_s | assumption | refine up_n (by first | assumption | decide | omega) ?_)) (by first | assumption | rfl) rfl ?_
          refine gr_run (pc' := 65) 1 rfl ?_
          refine gr_iald rfl (by repeat (first | exact up_s | assumption | refine up_n (by first | assumption | decide | omega) ?_)) (by first | assumption | rfl) (ix_i rfl (by omega) (by decide)) ?_
          rw [hf i hi]
          have := hlt (i : Int)
          have := hh.2 i hi
          refine gr_callN (As := [_, _]) lk_2_45 rfl rfl (by decide +kernel) (r_thrown (by omega) (by omega)) rfl rfl rfl ?_
          rw [hstep i hi]
          refine gr_run (pc' := 70) 1 rfl ?_
          refine gr_iinc rfl rfl rfl rfl ?_
          refine gr_run (pc' := 8) 1 rfl ?_
          exact ih _ _
        · intro j hj ihj
          refine gr_run (pc' := 26) 2 rfl ?_
          refine gr_getf rfl rfl (by repeat (first | exact up_s | assumption | refine up_n (by first | assumption | decide | omega) ?_)) (by first | assumption | rfl) rfl ?_
          refine gr_icF (t := 59) rfl (by decide) (by omega) (by omega) (cN_ge (by omega)) ?_
          refine gr_run (pc' := 34) 2 rfl ?_
          refine gr_getf rfl rfl (by repeat (first | exact up_s | assumption | refine up_n (by first | assumption | decide | omega) ?_)) (by first | assumption | rfl) rfl ?_
          refine gr_run (pc' := 40) 2 rfl ?_
          refine gr_isub rfl ?_
          refine gr_iald rfl (by repeat (first | exact up_s | assumption | refine up_n (by first | assumption | decide | omega) ?_)) (by first | assumption | rfl) (ix_i (j := i + j) (by omega) (by omega) (by decide)) ?_
          rw [hf (i + j) (by omega)]
          have := hlt ((i + j : Nat) : Int)
          have := hh.2 (i + j) (by omega)
          refine gr_callN (As := [_, _]) lk_2_45 rfl rfl (by decide +kernel) (r_thrown (by omega) (by omega)) rfl rfl rfl ?_
          rw [hstep (i + j) (by omega)]
          have h1 := hu i (i + j + 1) (by omega) (by omega)
          have := hlt ((i + j + 1 : Nat) : Int)
          have := hlt (i : Int)
          refine gr_run (pc' := 48) 3 rfl ?_
          refine gr_icT (t := 53) rfl (by decide) (by omega) (by omega) (cI_ne (by omega)) ?_
          refine gr_iinc rfl rfl rfl rfl ?_
          refine gr_run (pc' := 23) 1 rfl ?_
          rw [show (i : Int) + 1 + (j : Int) + 1 = (i : Int) + 1 + ((j + 1 : Nat) : Int) by omega]
          exact ihj
      have := inner 0 (by omega)
      simpa using this
  refine rt_intro kX2_hasUnlikeAirs rfl rfl rfl ?_
  refine gr_run (pc' := 2) 2 rfl ?_
  refine gr_callV (As := [_]) lk_2_42 rfl rfl (r_X2_airAhead ha hb pa pb hh hf (by omega)) (by repeat (first | exact up_s | assumption | refine up_n (by first | assumption | decide | omega) ?_)) (by first | assumption | exact Nat.le_of_ble_eq_true rfl | exact Nat.le_of_ble_eq_true (by assumption)) rfl rfl rfl rfl rfl ?_
  refine gr_run (pc' := 8) 3 rfl ?_
  exact key 0 (by omega) none none
theorem r_X2_hasUnlikeF {i0 j0 : Nat} (ha : A a = Ob 2 [.ref b, .int (iI n)]) (hb : A b = Ia 10 f) (pa : Nat.blt a NC = true) (pb : Nat.blt b NC = true) (hh : okH n h) (hf : ∀ i, i < n → f i = iI (h i)) (hij : i0 < j0 ∧ j0 < n) (he : airN n h (i0 : Int) = airN n h (j0 : Int)) : Rt mX2_hasUnlikeAirs (d + 3) [.ref a] A (some (.int (iI 0))) A := by
  have hn := hh.1
  have hlt := airN_lt hh
  have hstep : ∀ i : Nat, i < n → thr (airN n h (i : Int)) (h i) = airN n h ((i + 1 : Nat) : Int) := fun i hi => by have := thr_air hh (i : Int); rw [hg_lt hi] at this; exact this
  -- the inner loop comes to its end or finds a pair
  have inner : ∀ (i : Nat), i < n → ∀ (K : ∀ x4 : Option Value, ∀ x3 : Option Value, (∀ j, i < j → j < n → airN n h (i : Int) ≠ airN n h (j : Int)) → Gr mX2_hasUnlikeAirs (d + 3) 59 [some (.ref a), some (.int (iI ((airN n h (i : Int) : Nat) : Int))), some (.int (iI (i : Int))), x3, x4] [] A (some (.int (iI 0))) A), ∀ m j, i + 1 + j + m = n → (∀ q, q < j → airN n h (i : Int) ≠ airN n h ((i + 1 + q : Nat) : Int)) →
      Gr mX2_hasUnlikeAirs (d + 3) 23 [some (.ref a), some (.int (iI ((airN n h (i : Int) : Nat) : Int))), some (.int (iI (i : Int))), some (.int (iI ((airN n h ((i + j : Nat) : Int) : Nat) : Int))), some (.int (iI ((i : Int) + 1 + j)))] [] A (some (.int (iI 0))) A := by
    intro i hi K m
    induction m with
    | zero =>
      intro j hj hq
      refine gr_run (pc' := 26) 2 rfl ?_
      refine gr_getf rfl rfl (by repeat (first | exact up_s | assumption | refine up_n (by first | assumption | decide | omega) ?_)) (by first | assumption | rfl) rfl ?_
      refine gr_icT (t := 59) rfl (by decide) (by omega) (by omega) (cI_ge (by omega)) ?_
      refine K _ _ (fun q h1 h2 => ?_)
      have := hq (q - i - 1) (by omega)
      rw [show i + 1 + (q - i - 1) = q by omega] at this
      exact this
    | succ m ihm =>
      intro j hj hq
      refine gr_run (pc' := 26) 2 rfl ?_
      refine gr_getf rfl rfl (by repeat (first | exact up_s | assumption | refine up_n (by first | assumption | decide | omega) ?_)) (by first | assumption | rfl) rfl ?_
      refine gr_icF (t := 59) rfl (by decide) (by omega) (by omega) (cN_ge (by omega)) ?_
      refine gr_run (pc' := 34) 2 rfl ?_
      refine gr_getf rfl rfl (by repeat (first | exact up_s | assumption | refine up_n (by first | assumption | decide | omega) ?_)) (by first | assumption | rfl) rfl ?_
      refine gr_run (pc' := 40) 2 rfl ?_
      refine gr_isub rfl ?_
      refine gr_iald rfl (by repeat (first | exact up_s | assumption | refine up_n (by first | assumption | decide | omega) ?_)) (by first | assumption | rfl) (ix_i (j := i + j) (by omega) (by omega) (by decide)) ?_
      rw [hf (i + j) (by omega)]
      have := hlt ((i + j : Nat) : Int)
      have := hh.2 (i + j) (by omega)
      refine gr_callN (As := [_, _]) lk_2_45 rfl rfl (by decide +kernel) (r_thrown (by omega) (by omega)) rfl rfl rfl ?_
      rw [hstep (i + j) (by omega)]
      have := hlt ((i + j + 1 : Nat) : Int)
      have := hlt (i : Int)
      by_cases h1 : airN n h ((i + j + 1 : Nat) : Int) = airN n h (i : Int)
      · refine gr_run (pc' := 48) 3 rfl ?_
        refine gr_icF (t := 53) rfl (by decide) (by omega) (by omega) (cN_ne (by omega)) ?_
        refine gr_run (pc' := 52) 1 rfl ?_
        exact gr_ret rfl rfl
      · refine gr_run (pc' := 48) 3 rfl ?_
        refine gr_icT (t := 53) rfl (by decide) (by omega) (by omega) (cI_ne (by omega)) ?_
        refine gr_iinc rfl rfl rfl rfl ?_
        refine gr_run (pc' := 23) 1 rfl ?_
        rw [show (i : Int) + 1 + (j : Int) + 1 = (i : Int) + 1 + ((j + 1 : Nat) : Int) by omega]
        refine ihm (j + 1) (by omega) (fun q hq1 => ?_)
        by_cases hqj : q = j
        · subst hqj
          rw [show i + 1 + q = i + q + 1 by omega]
          exact fun e => h1 e.symm
        · exact hq q (by omega)
  have key : ∀ i, i ≤ i0 → ∀ x3 x4 : Option Value, Gr mX2_hasUnlikeAirs (d + 3) 8 [some (.ref a), some (.int (iI ((airN n h (i : Int) : Nat) : Int))), some (.int (iI (i : Int))), x3, x4] [] A (some (.int (iI 0))) A := by
    refine go_up ?_ ?_
    · intro x3 x4
      refine gr_run (pc' := 10) 2 rfl ?_
      refine gr_getf rfl rfl (by repeat (first | exact up_s | assumption | refine up_n (by first | assumption | decide | omega) ?_)) (by first | assumption | rfl) rfl ?_
      refine gr_icF (t := 76) rfl (by decide) (by omega) (by omega) (cN_ge (by omega)) ?_
      refine gr_run (pc' := 20) 4 rfl ?_
      refine gr_iadd rfl ?_
      refine gr_run (pc' := 23) 1 rfl ?_
      have := inner i0 (by omega) (fun _ _ hno => absurd he (hno j0 hij.1 hij.2)) (n - (i0 + 1)) 0 (by omega) (fun q hq => by omega)
      simpa using this
    · intro i hi ih x3 x4
      refine gr_run (pc' := 10) 2 rfl ?_
      refine gr_getf rfl rfl (by repeat (first | exact up_s | assumption | refine up_n (by first | assumption | decide | omega) ?_)) (by first | assumption | rfl) rfl ?_
      refine gr_icF (t := 76) rfl (by decide) (by omega) (by omega) (cN_ge (by omega)) ?_
      refine gr_run (pc' := 20) 4 rfl ?_
      refine gr_iadd rfl ?_
      refine gr_run (pc' := 23) 1 rfl ?_
      have := inner i (by omega) (fun x4 x3 _ => ?_) (n - (i + 1)) 0 (by omega) (fun q hq => by omega)
      · simpa using this
      · refine gr_run (pc' := 61) 2 rfl ?_
        refine gr_getf rfl rfl (by repeat (first | exact up_s | assumption | refine up_n (by first | assumption | decide | omega) ?_)) (by first | assumption | rfl) rfl ?_
        refine gr_run (pc' := 65) 1 rfl ?_
        refine gr_iald rfl (by repeat (first | exact up_s | assumption | refine up_n (by first | assumption | decide | omega) ?_)) (by first | assumption | rfl) (ix_i rfl (by omega) (by decide)) ?_
        rw [hf i (by omega)]
        have := hlt (i : Int)
        have := hh.2 i (by omega)
        refine gr_callN (As := [_, _]) lk_2_45 rfl rfl (by decide +kernel) (r_thrown (by omega) (by omega)) rfl rfl rfl ?_
        rw [hstep i (by omega)]
        refine gr_run (pc' := 70) 1 rfl ?_
        refine gr_iinc rfl rfl rfl rfl ?_
        refine gr_run (pc' := 8) 1 rfl ?_
        exact ih _ _
  refine rt_intro kX2_hasUnlikeAirs rfl rfl rfl ?_
  refine gr_run (pc' := 2) 2 rfl ?_
  refine gr_callV (As := [_]) lk_2_42 rfl rfl (r_X2_airAhead ha hb pa pb hh hf (by omega)) (by repeat (first | exact up_s | assumption | refine up_n (by first | assumption | decide | omega) ?_)) (by first | assumption | exact Nat.le_of_ble_eq_true rfl | exact Nat.le_of_ble_eq_true (by assumption)) rfl rfl rfl rfl rfl ?_
  refine gr_run (pc' := 8) 3 rfl ?_
  exact key 0 (by omega) none none
theorem r_X2_cycleBits {t : Nat} (ha : A a = Ob 2 [.ref b, .int (iI n)]) (hb : A b = Ia 10 f) (pa : Nat.blt a NC = true) (pb : Nat.blt b NC = true) (hh : okH n h) (hf : ∀ i, i < n → f i = iI (h i)) (ht : t < n) : Rt mX2_cycleBits (d + 3) [.ref a, .int (iI t)] A (some (.int (iI ((cyB n h t : Nat) : Int)))) A := by
  have hn := hh.1
  have key : ∀ i, i ≤ n → Gr mX2_cycleBits (d + 3) 7 [some (.ref a), some (.int (iI (t : Int))), some (.int (iI ((orN (fun i => 2 ^ plc n h t i) i : Nat) : Int))), some (.int (iI ((plc n h t i : Nat) : Int))), some (.int (iI (i : Int)))] [] A (some (.int (iI ((cyB n h t : Nat) : Int)))) A := by
    refine go_up ?_ ?_
    · refine gr_run (pc' := 10) 2 rfl ?_
      refine gr_getf rfl rfl (by repeat (first | exact up_s | assumption | refine up_n (by first | assumption | decide | omega) ?_)) (by first | assumption | rfl) rfl ?_
      refine gr_icT (t := 34) rfl (by decide) (by omega) (by omega) (cI_ge (by omega)) ?_
      refine gr_run (pc' := 35) 1 rfl ?_
      exact gr_ret rfl rfl
    · intro i hi ih
      have hp := plc_lt (h := h) hn.1 ht i
      refine gr_run (pc' := 10) 2 rfl ?_
      refine gr_getf rfl rfl (by repeat (first | exact up_s | assumption | refine up_n (by first | assumption | decide | omega) ?_)) (by first | assumption | rfl) rfl ?_
      refine gr_icF (t := 34) rfl (by decide) (by omega) (by omega) (cN_ge (by omega)) ?_
      refine gr_run (pc' := 19) 3 rfl ?_
      refine gr_ishl1 rfl (by omega) ?_
      refine gr_iorN rfl ?_
      refine gr_run (pc' := 24) 3 rfl ?_
      refine gr_callV (As := [_]) lk_2_39 rfl rfl (r_X2_landing ha hb pa pb hh hf (by omega)) (by repeat (first | exact up_s | assumption | refine up_n (by first | assumption | decide | omega) ?_)) (by first | assumption | exact Nat.le_of_ble_eq_true rfl | exact Nat.le_of_ble_eq_true (by assumption)) rfl rfl rfl rfl rfl ?_
      rw [lnd_int hp]
      refine gr_run (pc' := 28) 1 rfl ?_
      refine gr_iinc rfl rfl rfl rfl ?_
      refine gr_run (pc' := 7) 1 rfl ?_
      exact ih
  refine rt_intro kX2_cycleBits rfl rfl rfl ?_
  refine gr_run (pc' := 7) 6 rfl ?_
  exact key 0 (by omega)
theorem r_X2_cycleCount (ha : A a = Ob 2 [.ref b, .int (iI n)]) (hb : A b = Ia 10 f) (pa : Nat.blt a NC = true) (pb : Nat.blt b NC = true) (hh : okH n h) (hf : ∀ i, i < n → f i = iI (h i)) : Rt mX2_cycleCount (d + 4) [.ref a] A (some (.int (iI ((cyC n h : Nat) : Int)))) A := by
  have hn := hh.1
  have key : ∀ i, i ≤ n → ∀ x3 : Option Value, Gr mX2_cycleCount (d + 4) 4 [some (.ref a), some (.int (iI ((sumN (fun i => if 0 < h i ∧ cyB n h i &&& (2 ^ i - 1) = 0 then 1 else 0) i : Nat) : Int))), some (.int (iI (i : Int))), x3] [] A (some (.int (iI ((cyC n h : Nat) : Int)))) A := by
    refine go_up ?_ ?_
    · intro x3
      refine gr_run (pc' := 6) 2 rfl ?_
      refine gr_getf rfl rfl (by repeat (first | exact up_s | assumption | refine up_n (by first | assumption | decide | omega) ?_)) (by first | assumption | rfl) rfl ?_
      refine gr_icT (t := 54) rfl (by decide) (by omega) (by omega) (cI_ge (by omega)) ?_
      refine gr_run (pc' := 55) 1 rfl ?_
      exact gr_ret rfl rfl
    · intro i hi ih x3
      have hc := cyB_lt (h := h) hn hi
      have h9 := hh.2 i hi
      have hand : cyB n h i &&& (2 ^ i - 1) ≤ cyB n h i := Nat.and_le_left
      have hp0 := Nat.two_pow_pos i
      refine gr_run (pc' := 6) 2 rfl ?_
      refine gr_getf rfl rfl (by repeat (first | exact up_s | assumption | refine up_n (by first | assumption | decide | omega) ?_)) (by first | assumption | rfl) rfl ?_
      refine gr_icF (t := 54) rfl (by decide) (by omega) (by omega) (cN_ge (by omega)) ?_
      refine gr_run (pc' := 14) 2 rfl ?_
      refine gr_callV (As := [_]) lk_2_48 rfl rfl (r_X2_cycleBits ha hb pa pb hh hf hi) (by repeat (first | exact up_s | assumption | refine up_n (by first | assumption | decide | omega) ?_)) (by first | assumption | exact Nat.le_of_ble_eq_true rfl | exact Nat.le_of_ble_eq_true (by assumption)) rfl rfl rfl rfl rfl ?_
      refine gr_run (pc' := 19) 2 rfl ?_
      refine gr_ishl1 rfl (by omega) ?_
      refine gr_run (pc' := 21) 1 rfl ?_
      refine gr_isub rfl ?_
      rw [show ((2 ^ i : Nat) : Int) - 1 = ((2 ^ i - 1 : Nat) : Int) by omega]
      refine gr_iandN rfl ?_
      by_cases h1 : cyB n h i &&& (2 ^ i - 1) = 0
      · refine gr_ifF (t := 30) rfl (by decide) (by omega) (cN_ne (by omega)) ?_
        refine gr_run (pc' := 33) 4 rfl ?_
        refine gr_getf rfl rfl (by repeat (first | exact up_s | assumption | refine up_n (by first | assumption | decide | omega) ?_)) (by first | assumption | rfl) rfl ?_
        refine gr_run (pc' := 37) 1 rfl ?_
        refine gr_iald rfl (by repeat (first | exact up_s | assumption | refine up_n (by first | assumption | decide | omega) ?_)) (by first | assumption | rfl) (ix_i rfl (by omega) (by decide)) ?_
        rw [hf i hi]
        by_cases h2 : 0 < h i
        · refine gr_ifF (t := 48) rfl (by decide) (by omega) (cN_le (by omega)) ?_
          refine gr_run (pc' := 42) 1 rfl ?_
          refine gr_ifF (t := 48) rfl (by decide) (by omega) (cN_eq (by omega)) ?_
          refine gr_iinc rfl rfl rfl rfl ?_
          refine gr_iinc rfl rfl rfl rfl ?_
          refine gr_run (pc' := 4) 1 rfl ?_
          have := ih (some (.int (iI 1)))
          simp only [sumN, if_pos (And.intro h2 h1)] at this
          exact this
        · refine gr_ifT (t := 48) rfl (by decide) (by omega) (cI_le (by omega)) ?_
          refine gr_iinc rfl rfl rfl rfl ?_
          refine gr_run (pc' := 4) 1 rfl ?_
          have := ih (some (.int (iI 1)))
          simp only [sumN, if_neg (fun q : 0 < h i ∧ cyB n h i &&& (2 ^ i - 1) = 0 => h2 q.1)] at this
          exact this
      · refine gr_ifT (t := 30) rfl (by decide) (by omega) (cI_ne (by omega)) ?_
        refine gr_run (pc' := 33) 3 rfl ?_
        refine gr_getf rfl rfl (by repeat (first | exact up_s | assumption | refine up_n (by first | assumption | decide | omega) ?_)) (by first | assumption | rfl) rfl ?_
        refine gr_run (pc' := 37) 1 rfl ?_
        refine gr_iald rfl (by repeat (first | exact up_s | assumption | refine up_n (by first | assumption | decide | omega) ?_)) (by first | assumption | rfl) (ix_i rfl (by omega) (by decide)) ?_
        rw [hf i hi]
        have e : (if 0 < h i ∧ cyB n h i &&& (2 ^ i - 1) = 0 then (1 : Nat) else 0) = 0 := if_neg (fun q => h1 q.2)
        by_cases h2 : 0 < h i
        · refine gr_ifF (t := 48) rfl (by decide) (by omega) (cN_le (by omega)) ?_
          refine gr_run (pc' := 42) 1 rfl ?_
          refine gr_ifT (t := 48) rfl (by decide) (by omega) (cI_eq (by omega)) ?_
          refine gr_iinc rfl rfl rfl rfl ?_
          refine gr_run (pc' := 4) 1 rfl ?_
          have := ih (some (.int (iI 0)))
          simp only [sumN, e] at this
          exact this
        · refine gr_ifT (t := 48) rfl (by decide) (by omega) (cI_le (by omega)) ?_
          refine gr_iinc rfl rfl rfl rfl ?_
          refine gr_run (pc' := 4) 1 rfl ?_
          have := ih (some (.int (iI 0)))
          simp only [sumN, e] at this
          exact this
  refine rt_intro kX2_cycleCount rfl rfl rfl ?_
  refine gr_run (pc' := 4) 4 rfl ?_
  exact key 0 (by omega) none
end PB
