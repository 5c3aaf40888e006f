/-! what is left to be thrown, and the rounds -/
def wt (t : Nat) : Nat := sumN (fun j => if t.testBit j then j else 0) 8
def tri (k : Nat) : Nat := sumN (fun i => i) k
theorem wt_or : ∀ t : Fin 256, ∀ j : Fin 8, t.val.testBit j.val = false → wt (t.val ||| 2 ^ j.val) = wt t.val + j.val := by decide +kernel
theorem wt_all : ∀ p : Fin 9, wt (2 ^ p.val - 1) = tri p.val := by decide +kernel
theorem wt_or' {p t j : Nat} (hp : p ≤ 8) (ht : t < 2 ^ p) (hj : j < p) (hb : t.testBit j = false) : wt (t ||| 2 ^ j) = wt t + j := wt_or ⟨t, by have := pow8 hp; omega⟩ ⟨j, by omega⟩ hb
theorem full_of {p t : Nat} (hp : p ≤ 8) (ht : t < 2 ^ p) (hb : bc t = p) : t = 2 ^ p - 1 := by
  have h8 := pow8 hp
  by_cases e : t = 2 ^ p - 1
  · exact e
  · have := bc_full ⟨p, by omega⟩ ⟨t, by omega⟩ ht e
    simp only at this; omega
theorem tri_s (k : Nat) : tri (k + 1) = tri k + k := rfl
theorem sumN_pos {f : Nat → Nat} : ∀ {n : Nat}, 0 < sumN f n → ∃ i, i < n ∧ 0 < f i
  | 0, h => by simp [sumN] at h
  | n + 1, h => by
    by_cases e : 0 < f n
    · exact ⟨n, by omega, e⟩
    · simp only [sumN] at h
      obtain ⟨i, h1, h2⟩ := sumN_pos (f := f) (n := n) (by omega)
      exact ⟨i, by omega, h2⟩
theorem fl_pos {p m : Nat} (hp : 1 ≤ p ∧ p ≤ 8) : ∀ {k t r : Nat}, t < 2 ^ p → bc t + k = p → 0 < flN p m k t r → wt t ≤ p * r + tri (bc t)
  | 0, t, r, ht, hk, h => by
    have e := full_of hp.2 ht (by omega)
    rw [show bc t = p by omega, e, wt_all ⟨p, by omega⟩]
    exact Nat.le_add_left _ _
  | k + 1, t, r, ht, hk, h => by
    simp only [flN] at h
    obtain ⟨x, h1, h2⟩ := sumN_pos h
    by_cases c1 : t.testBit ((bc t + x) % p) = true
    · rw [if_pos c1] at h2; omega
    rw [if_neg c1] at h2
    by_cases c2 : r < (bc t + x) / p
    · rw [if_pos c2] at h2; omega
    rw [if_neg c2] at h2
    have hj : (bc t + x) % p < p := Nat.mod_lt _ (by omega)
    have c1' : t.testBit ((bc t + x) % p) = false := by simpa using c1
    have b1 := bc_or' hp.2 ht hj c1'
    have w1 := wt_or' hp.2 ht hj c1'
    have ih := fl_pos hp (or_lt hj ht) (by omega) h2
    have dm := Nat.div_add_mod (bc t + x) p
    rw [b1, tri_s, w1, Nat.mul_sub] at ih
    have := Nat.mul_le_mul_left p (Nat.le_of_not_lt c2)
    generalize p * ((bc t + x) / p) = u at *
    generalize p * r = v at *
    omega
theorem gl_pos {p m : Nat} (hp : 1 ≤ p ∧ p ≤ 8) : ∀ {k t l : Nat}, t < 2 ^ p → bc t + k = p → 0 < glN p m k t l → tri (bc t) ≤ l + wt t
  | 0, t, l, ht, hk, h => by
    have e := full_of hp.2 ht (by omega)
    rw [show bc t = p by omega, e, wt_all ⟨p, by omega⟩]
    exact Nat.le_add_left _ _
  | k + 1, t, l, ht, hk, h => by
    simp only [glN] at h
    obtain ⟨x, h1, h2⟩ := sumN_pos h
    by_cases c1 : t.testBit ((bc t + x) % p) = true
    · rw [if_pos c1] at h2; omega
    rw [if_neg c1] at h2
    by_cases c2 : l < x
    · rw [if_pos c2] at h2; omega
    rw [if_neg c2] at h2
    have hj : (bc t + x) % p < p := Nat.mod_lt _ (by omega)
    have c1' : t.testBit ((bc t + x) % p) = false := by simpa using c1
    have b1 := bc_or' hp.2 ht hj c1'
    have w1 := wt_or' hp.2 ht hj c1'
    have ih := gl_pos hp (or_lt hj ht) (by omega) h2
    have dm := Nat.div_add_mod (bc t + x) p
    rw [b1, tri_s, w1] at ih
    generalize p * ((bc t + x) / p) = u at *
    omega
theorem gl_fl {p m : Nat} (hp : 1 ≤ p ∧ p ≤ 8) : ∀ {k t l r : Nat}, t < 2 ^ p → bc t + k = p → l + wt t = p * r + tri (bc t) → glN p m k t l = flN p m k t r
  | 0, t, l, r, ht, hk, h => by
    have e := full_of hp.2 ht (by omega)
    rw [show bc t = p by omega, e, wt_all ⟨p, by omega⟩] at h
    have h2 : l = p * r := by simp only at h; omega
    simp only [glN, flN]
    by_cases c : r = 0
    · rw [if_pos c, if_pos (by rw [h2, c]; rfl)]
    · rw [if_neg c, if_neg]
      intro q
      have : 0 < p * r := Nat.mul_pos (by omega) (by omega)
      omega
  | k + 1, t, l, r, ht, hk, h => by
    simp only [glN, flN]
    apply sumN_congr
    intro x _
    by_cases c1 : t.testBit ((bc t + x) % p) = true
    · rw [if_pos c1, if_pos c1]
    rw [if_neg c1, if_neg c1]
    have hj : (bc t + x) % p < p := Nat.mod_lt _ (by omega)
    have c1' : t.testBit ((bc t + x) % p) = false := by simpa using c1
    have b1 := bc_or' hp.2 ht hj c1'
    have w1 := wt_or' hp.2 ht hj c1'
    have dm := Nat.div_add_mod (bc t + x) p
    by_cases c2 : l < x
    · rw [if_pos c2]
      by_cases c3 : r < (bc t + x) / p
      · rw [if_pos c3]
      · rw [if_neg c3]
        by_cases e : 0 < flN p m k (t ||| 2 ^ ((bc t + x) % p)) (r - (bc t + x) / p)
        · have q := fl_pos hp (or_lt hj ht) (by omega) e
          rw [b1, tri_s, w1, Nat.mul_sub] at q
          have := Nat.mul_le_mul_left p (Nat.le_of_not_lt c3)
          generalize p * ((bc t + x) / p) = u at *
          generalize p * r = v at *
          omega
        · omega
    · rw [if_neg c2]
      by_cases c3 : r < (bc t + x) / p
      · rw [if_pos c3]
        by_cases e : 0 < glN p m k (t ||| 2 ^ ((bc t + x) % p)) (l - x)
        · have q := gl_pos hp (or_lt hj ht) (by omega) e
          rw [b1, tri_s, w1] at q
          have z1 : p * (r + 1) ≤ p * ((bc t + x) / p) := Nat.mul_le_mul_left p c3
          rw [Nat.mul_add] at z1
          generalize p * ((bc t + x) / p) = u at *
          generalize p * r = v at *
          omega
        · omega
      · rw [if_neg c3]
        refine gl_fl hp (or_lt hj ht) (by omega) ?_
        rw [b1, tri_s, w1, Nat.mul_sub]
        have := Nat.mul_le_mul_left p (Nat.le_of_not_lt c3)
        generalize p * ((bc t + x) / p) = u at *
        generalize p * r = v at *
        omega
theorem gb_fb {p m t l r x : Nat} (hp : 1 ≤ p ∧ p ≤ 8) (ht : t < 2 ^ p) (hb : bc t < p) (h : l + wt t = p * r + tri (bc t)) : gb p m t l x = fb p m t r x := by
  unfold gb fb
  by_cases c1 : t.testBit ((bc t + x) % p) = true
  · rw [if_pos c1, if_pos c1]
  rw [if_neg c1, if_neg c1]
  have hj : (bc t + x) % p < p := Nat.mod_lt _ (by omega)
  have c1' : t.testBit ((bc t + x) % p) = false := by simpa using c1
  have b1 := bc_or' hp.2 ht hj c1'
  have w1 := wt_or' hp.2 ht hj c1'
  have dm := Nat.div_add_mod (bc t + x) p
  unfold GG FF
  by_cases c2 : l < x
  · rw [if_pos c2]
    by_cases c3 : r < (bc t + x) / p
    · rw [if_pos c3]
    · rw [if_neg c3]
      by_cases e : 0 < flN p m (p - bc (t ||| 2 ^ ((bc t + x) % p))) (t ||| 2 ^ ((bc t + x) % p)) (r - (bc t + x) / p)
      · have q := fl_pos hp (or_lt hj ht) (by omega) e
        rw [b1, tri_s, w1, Nat.mul_sub] at q
        have := Nat.mul_le_mul_left p (Nat.le_of_not_lt c3)
        generalize p * ((bc t + x) / p) = u at *
        generalize p * r = v at *
        omega
      · omega
  · rw [if_neg c2]
    by_cases c3 : r < (bc t + x) / p
    · rw [if_pos c3]
      by_cases e : 0 < glN p m (p - bc (t ||| 2 ^ ((bc t + x) % p))) (t ||| 2 ^ ((bc t + x) % p)) (l - x)
      · have q := gl_pos hp (or_lt hj ht) (by omega) e
        rw [b1, tri_s, w1] at q
        have z1 : p * (r + 1) ≤ p * ((bc t + x) / p) := Nat.mul_le_mul_left p c3
        rw [Nat.mul_add] at z1
        generalize p * ((bc t + x) / p) = u at *
        generalize p * r = v at *
        omega
      · omega
    · rw [if_neg c3]
      refine gl_fl hp (or_lt hj ht) (by omega) ?_
      rw [b1, tri_s, w1, Nat.mul_sub]
      have := Nat.mul_le_mul_left p (Nat.le_of_not_lt c3)
      generalize p * ((bc t + x) / p) = u at *
      generalize p * r = v at *
      omega
theorem GG_FF {p m b : Nat} (hp : 1 ≤ p ∧ p ≤ 8) : GG p m 0 (p * b) = FF p m 0 b := by
  unfold GG FF
  have e0 : bc 0 = 0 := by decide
  rw [e0]
  refine gl_fl hp (Nat.two_pow_pos p) (by omega) ?_
  rw [e0, show wt 0 = 0 by decide]
  rfl
/-! a true pattern's places and rounds -/
theorem mk_s {n : Nat} {h : Nat → Nat} {j : Nat} : mkN n h (j + 1) = mkN n h j ||| 2 ^ lnd n h j := rfl
theorem mk_free {n : Nat} {h : Nat → Nat} (hi : ∀ i j, i < j → j < n → lnd n h i ≠ lnd n h j) {j : Nat} (hj : j < n) : (mkN n h j).testBit (lnd n h j) = false := by
  cases e : (mkN n h j).testBit (lnd n h j) with
  | false => rfl
  | true =>
    obtain ⟨i, h1, h2⟩ := mkN_bit.mp e
    exact absurd h2 (hi i j h1 hj)
theorem mk_bc {n : Nat} {h : Nat → Nat} (hn : 1 ≤ n ∧ n ≤ 8) (hi : ∀ i j, i < j → j < n → lnd n h i ≠ lnd n h j) : ∀ j, j ≤ n → bc (mkN n h j) = j ∧ wt (mkN n h j) + n * rdN n h j = tri j + sumN h j
  | 0, _ => ⟨(by decide : bc 0 = 0), (by show wt 0 + n * 0 = 0; rw [show wt 0 = 0 by decide]; rfl)⟩
  | j + 1, hj => by
    obtain ⟨h1, h2⟩ := mk_bc hn hi j (by omega)
    have hf := mk_free hi (j := j) (by omega)
    have hl : lnd n h j < n := lnd_lt hn.1
    have hm := mkN_lt (h := h) hn.1 j
    refine ⟨by rw [mk_s, bc_or' hn.2 hm hl hf, h1], ?_⟩
    rw [mk_s, wt_or' hn.2 hm hl hf, tri_s]
    have dm := Nat.div_add_mod (j + h j) n
    show _ + n * (rdN n h j + (j + h j) / n) = _ + (sumN h j + h j)
    rw [Nat.mul_add]
    have e : lnd n h j = (j + h j) % n := rfl
    rw [e]
    generalize n * ((j + h j) / n) = u at *
    generalize n * rdN n h j = v at *
    omega
theorem rd_sum {n : Nat} {h : Nat → Nat} (hn : 1 ≤ n ∧ n ≤ 8) (hi : ∀ i j, i < j → j < n → lnd n h i ≠ lnd n h j) : sumN h n = n * rdN n h n ∧ sumN h n / n = rdN n h n := by
  obtain ⟨h1, h2⟩ := mk_bc hn hi n (Nat.le_refl _)
  have e := full_of hn.2 (mkN_lt (h := h) hn.1 n) h1
  have w := wt_all ⟨n, by omega⟩
  simp only at w
  rw [e, w] at h2
  have h3 : sumN h n = n * rdN n h n := by omega
  exact ⟨h3, by rw [h3]; exact Nat.mul_div_cancel_left _ (by omega)⟩
theorem sumN_mono {f : Nat → Nat} : ∀ {n m : Nat}, n ≤ m → sumN f n ≤ sumN f m := by
  intro n m h
  induction m with
  | zero => rw [show n = 0 by omega]; exact Nat.le_refl _
  | succ m ih =>
    by_cases e : n = m + 1
    · rw [e]; exact Nat.le_refl _
    · exact Nat.le_trans (ih (by omega)) (Nat.le_add_right _ _)
theorem rd_le {n : Nat} {h : Nat → Nat} (hn : 1 ≤ n ∧ n ≤ 8) (hi : ∀ i j, i < j → j < n → lnd n h i ≠ lnd n h j) {j : Nat} (hj : j ≤ n) : rdN n h j ≤ sumN h n / n := by
  rw [(rd_sum hn hi).2]
  exact sumN_mono hj
theorem mk_rel {n : Nat} {h : Nat → Nat} (hn : 1 ≤ n ∧ n ≤ 8) (hi : ∀ i j, i < j → j < n → lnd n h i ≠ lnd n h j) {j : Nat} (hj : j ≤ n) : sumN h n - sumN h j + wt (mkN n h j) = n * (sumN h n / n - rdN n h j) + tri (bc (mkN n h j)) := by
  obtain ⟨h1, h2⟩ := mk_bc hn hi j hj
  obtain ⟨h3, h4⟩ := rd_sum hn hi
  have h5 : sumN h j ≤ sumN h n := sumN_mono hj
  have h6 : rdN n h j ≤ rdN n h n := sumN_mono hj
  have h7 := Nat.mul_le_mul_left n h6
  rw [h4, h1, Nat.mul_sub, ← h3]
  rw [← h3] at h7
  generalize n * rdN n h j = v at *
  omega
theorem rk_lt {n m : Nat} {h : Nat → Nat} (hn : 1 ≤ n ∧ n ≤ 8) (hm : ∀ i, i < n → h i ≤ m) (hi : ∀ i j, i < j → j < n → lnd n h i ≠ lnd n h j) : rkA n m h (sumN h n / n) n < FF n m 0 (sumN h n / n) := by
  have hb := (rd_sum hn hi).2
  generalize sumN h n / n = b at *
  have key : ∀ j, j ≤ n → rkA n m h b j + FF n m (mkN n h j) (b - rdN n h j) ≤ FF n m 0 b := by
    intro j
    induction j with
    | zero => intro _; show 0 + FF n m 0 (b - 0) ≤ _; rw [Nat.zero_add]; exact Nat.le_refl _
    | succ j ih =>
      intro hj
      have ih := ih (by omega)
      obtain ⟨h1, h2⟩ := mk_bc hn hi j (by omega)
      have hf := mk_free hi (j := j) (by omega)
      have hmt := mkN_lt (h := h) hn.1 j
      rw [FF_rec hn hmt (by omega)] at ih
      have h9 := hm j (by omega)
      have e1 : fb n m (mkN n h j) (b - rdN n h j) (h j) = FF n m (mkN n h (j + 1)) (b - rdN n h (j + 1)) := by
        unfold fb
        rw [h1]
        have e : lnd n h j = (j + h j) % n := rfl
        rw [e] at hf
        have hr : rdN n h (j + 1) ≤ b := by rw [hb]; exact sumN_mono hj
        have er : rdN n h (j + 1) = rdN n h j + (j + h j) / n := rfl
        rw [if_neg (by rw [hf]; simp), if_neg (by omega), mk_s, e, er, Nat.sub_sub]
      have e2 : sumN (fun x => fb n m (mkN n h j) (b - rdN n h j) x) (h j + 1) ≤ sumN (fun x => fb n m (mkN n h j) (b - rdN n h j) x) (m + 1) := sumN_mono (by omega)
      simp only [sumN] at e2
      rw [e1] at e2
      show rkA n m h b j + sumN (fun x => fb n m (mkN n h j) (b - rdN n h j) x) (h j) + _ ≤ _
      simp only [sumN] at ih
      omega
  have h1 := key n (Nat.le_refl _)
  have h2 : FF n m (mkN n h n) (b - rdN n h n) = 1 := by
    rw [full_of hn.2 (mkN_lt (h := h) hn.1 n) (mk_bc hn hi n (Nat.le_refl _)).1, FF_full hn.2, if_pos (by omega)]
  omega
