/-! the model: primes -/
theorem mk_bcp {n : Nat} {h : Nat → Nat} (hn : 1 ≤ n ∧ n ≤ 8) : ∀ j, j ≤ n → (∀ i k, i < k → k < j → lnd n h i ≠ lnd n h k) → bc (mkN n h j) = j
  | 0, _, _ => (by decide : bc 0 = 0)
  | j + 1, hj, hi => by
    have h1 := mk_bcp hn j (by omega) (fun i k a b => hi i k a (by omega))
    have hl : lnd n h j < n := lnd_lt hn.1
    have hf : (mkN n h j).testBit (lnd n h j) = false := by
      cases e : (mkN n h j).testBit (lnd n h j) with
      | false => rfl
      | true =>
        obtain ⟨i, h1, h2⟩ := mkN_bit.mp e
        exact absurd h2 (hi i j h1 (by omega))
    rw [mk_s, bc_or' hn.2 (mkN_lt (h := h) hn.1 j) hl hf, h1]
theorem pv_cnt {p b m : Nat} (hp : 1 ≤ p ∧ p ≤ 8) : ∀ {k pl : Nat} {h : Nat → Nat}, pl + k = p → pv p b h pl → SqU m (fun s => ind (vl p b s)) k pl h = FF p m (mkN p h pl) (b - rdN p h pl)
  | 0, pl, h, hpl, hv => by
    have e : pl = p := by omega
    subst e
    have h1 := mk_bcp hp pl (by omega) hv.1
    rw [full_of hp.2 (mkN_lt (h := h) hp.1 pl) h1, FF_full hp.2]
    have h2 := hv.2
    simp only [SqU]
    by_cases c : rdN pl h pl = b
    · rw [if_pos (by omega)]; exact ind_T ⟨hv.1, c⟩
    · rw [if_neg (by omega)]; exact ind_F (fun q => c q.2)
  | k + 1, pl, h, hpl, hv => by
    have h1 := mk_bcp hp pl (by omega) hv.1
    rw [FF_rec hp (mkN_lt (h := h) hp.1 pl) (by omega)]
    simp only [SqU]
    apply sumN_congr
    intro x _
    unfold fb
    rw [h1]
    by_cases c : pv p b (updN h pl x) (pl + 1)
    · rw [pv_cnt hp (by omega) c, mk_upd, rd_upd]
      have q := (pv_upd hv).mp c
      rw [if_neg (by rw [q.1]; simp), if_neg (by omega), Nat.sub_sub]
    · rw [pv_no (by omega) c]
      by_cases c1 : (mkN p h pl).testBit ((pl + x) % p) = true
      · rw [if_pos c1]
      · rw [if_neg c1]
        by_cases c2 : b - rdN p h pl < (pl + x) / p
        · rw [if_pos c2]
        · exact absurd ((pv_upd hv).mpr ⟨by simpa using c1, by omega⟩) c
theorem pv_fb {p b m k pl x : Nat} {h : Nat → Nat} (hp : 1 ≤ p ∧ p ≤ 8) (hpl : pl + 1 + k = p) (hv : pv p b h pl) : SqU m (fun s => ind (vl p b s)) k (pl + 1) (updN h pl x) = fb p m (mkN p h pl) (b - rdN p h pl) x := by
  have h1 := mk_bcp hp pl (by omega) hv.1
  unfold fb
  rw [h1]
  by_cases c : pv p b (updN h pl x) (pl + 1)
  · rw [pv_cnt hp (by omega) c, mk_upd, rd_upd]
    have q := (pv_upd hv).mp c
    rw [if_neg (by rw [q.1]; simp), if_neg (by omega), Nat.sub_sub]
  · rw [pv_no (by omega) c]
    by_cases c1 : (mkN p h pl).testBit ((pl + x) % p) = true
    · rw [if_pos c1]
    · rw [if_neg c1]
      by_cases c2 : b - rdN p h pl < (pl + x) / p
      · rw [if_pos c2]
      · exact absurd ((pv_upd hv).mpr ⟨by simpa using c1, by omega⟩) c
theorem fb_pv {p b m pl x : Nat} {h : Nat → Nat} (hp : 1 ≤ p ∧ p ≤ 8) (hpl : pl < p) (hv : pv p b h pl) (hf : 0 < fb p m (mkN p h pl) (b - rdN p h pl) x) : pv p b (updN h pl x) (pl + 1) ∧ 0 < FF p m (mkN p (updN h pl x) (pl + 1)) (b - rdN p (updN h pl x) (pl + 1)) := by
  have h1 := mk_bcp hp pl (by omega) hv.1
  unfold fb at hf
  rw [h1] at hf
  by_cases c1 : (mkN p h pl).testBit ((pl + x) % p) = true
  · rw [if_pos c1] at hf; omega
  rw [if_neg c1] at hf
  by_cases c2 : b - rdN p h pl < (pl + x) / p
  · rw [if_pos c2] at hf; omega
  rw [if_neg c2] at hf
  refine ⟨(pv_upd hv).mpr ⟨by simpa using c1, by omega⟩, ?_⟩
  rw [mk_upd, rd_upd, ← Nat.sub_sub]
  exact hf
noncomputable def prF (p m : Nat) : Nat → Nat → Nat → Nat → (Nat → Nat) → Nat
  | 0, _, _, _, h => unN p h
  | k + 1, pl, t, l, h => sumN (fun x => if 0 < fb p m t l x then prF p m k (pl + 1) (t ||| 2 ^ ((pl + x) % p)) (l - (pl + x) / p) (updN h pl x) else 0) (m + 1)
theorem VU_le {p b : Nat} (s : Nat → Nat) : VU p b s ≤ ind (vl p b s) := by
  unfold VU
  have := Nat.mul_le_mul_left (ind (vl p b s)) (unN_le p s)
  omega
theorem VUF_le {p b : Nat} (s : Nat → Nat) : VUF p b s ≤ ind (vl p b s) := by
  unfold VUF
  have h1 := VU_le (p := p) (b := b) s
  rcases ftF_01 (n := p) (h := s) (m := p - 1) (k := 1) with q | q
  · rw [q, show (0 : Int).toNat = 0 from rfl]; omega
  · rw [q, show (1 : Int).toNat = 1 from rfl]; omega
theorem pr_sum {p b m : Nat} (hp : 1 ≤ p ∧ p ≤ 8) : ∀ {k pl : Nat} {h : Nat → Nat}, pl + k = p → pv p b h pl → (k = 0 → b - rdN p h pl = 0) → prF p m k pl (mkN p h pl) (b - rdN p h pl) h = SqU m (VU p b) k pl h
  | 0, pl, h, hpl, hv, h0 => by
    have e : pl = p := by omega
    subst e
    have := h0 rfl
    have h2 := hv.2
    simp only [prF, SqU]
    unfold VU
    rw [ind_T (show vl pl b h from ⟨hv.1, by omega⟩), Nat.one_mul]
  | k + 1, pl, h, hpl, hv, h0 => by
    simp only [prF, SqU]
    apply sumN_congr
    intro x _
    by_cases c : 0 < fb p m (mkN p h pl) (b - rdN p h pl) x
    · rw [if_pos c]
      obtain ⟨q1, q2⟩ := fb_pv hp (by omega) hv c
      rw [← pr_sum hp (k := k) (pl := pl + 1) (by omega) q1 (fun e => by
        subst e
        have e1 : pl + 1 = p := by omega
        have h1 := mk_bcp hp (pl + 1) (by omega) q1.1
        rw [full_of hp.2 (mkN_lt (h := updN h pl x) hp.1 (pl + 1)) (by omega), FF_full hp.2] at q2
        by_cases z : b - rdN p (updN h pl x) (pl + 1) = 0
        · exact z
        · rw [if_neg z] at q2; omega)]
      rw [mk_upd, rd_upd, Nat.sub_sub]
    · rw [if_neg c]
      have a := SqU_le (m := m) (fun s => VU_le (p := p) (b := b) s) (k := k) (pl := pl + 1) (h := updN h pl x)
      rw [pv_fb hp (by omega) hv] at a
      omega
theorem ft_low {p : Nat} {s : Nat → Nat} {j : Nat} (hs : okH p s) (hj : 1 ≤ j ∧ j < p) (hlt : s j < s 0) : ftF p s (p - 1) 1 = 0 := by
  rcases ftF_01 (n := p) (h := s) (m := p - 1) (k := 1) with q | q
  · exact q
  · have a := (ft_sv hs).mp q j (by omega) (by omega)
    obtain ⟨k, hk⟩ : ∃ k, p = k + 1 := ⟨p - 1, by omega⟩
    rw [hk] at a
    simp only [sv] at a
    rw [← hk] at a
    have e : tuH p s j 0 = s j := by unfold tuH; rw [Nat.zero_add, Nat.mod_eq_of_lt hj.2]
    rw [e] at a
    have q2 := sv_lt (s := tuH p s j) (m := k) (i := 0 + 1) (fun i _ _ => hs.2 _ (Nat.mod_lt _ (by omega)))
    have := dig_lt (v := sv s k (0 + 1)) hlt q2
    omega
theorem pf_sum {p b m : Nat} (hp : 1 ≤ p ∧ p ≤ 8) (hm : m ≤ 9) : ∀ {k pl : Nat} {h : Nat → Nat}, pl + k = p → pv p b h pl → (∀ i, i < pl → h i ≤ m) → (k = 0 → b - rdN p h pl = 0) → pfF p m k pl (mkN p h pl) (b - rdN p h pl) h = SqU m (VUF p b) k pl h
  | 0, pl, h, hpl, hv, h9, h0 => by
    have e : pl = p := by omega
    subst e
    have := h0 rfl
    have h2 := hv.2
    simp only [SqU]
    unfold VUF VU
    rw [ind_T (show vl pl b h from ⟨hv.1, by omega⟩), Nat.one_mul]
    by_cases u : unl pl h
    · rw [unN_T u, Nat.one_mul]
      rcases ftF_01 (n := pl) (h := h) (m := pl - 1) (k := 1) with q | q
      · rw [pfF_1 (fun z => by rw [q] at z; omega), q]; rfl
      · rw [pfF_0 ⟨q, u⟩, q]; rfl
    · rw [unN_F u, Nat.zero_mul, pfF_1 (fun z => u z.2)]
  | k + 1, pl, h, hpl, hv, h9, h0 => by
    simp only [pfF, SqU]
    apply sumN_congr
    intro x hx
    by_cases c : 0 < fb p m (mkN p h pl) (b - rdN p h pl) x
    · by_cases c0 : pl = 0 ∨ h 0 ≤ x
      · rw [if_pos ⟨c0, c⟩]
        obtain ⟨q1, q2⟩ := fb_pv hp (by omega) hv c
        rw [← pf_sum hp hm (k := k) (pl := pl + 1) (by omega) q1 (fun i hi => by
          by_cases e : i = pl
          · subst e; rw [updN_s]; omega
          · rw [updN_o e]; exact h9 i (by omega)) (fun e => by
          subst e
          have e1 : pl + 1 = p := by omega
          have h1 := mk_bcp hp (pl + 1) (by omega) q1.1
          rw [full_of hp.2 (mkN_lt (h := updN h pl x) hp.1 (pl + 1)) (by omega), FF_full hp.2] at q2
          by_cases z : b - rdN p (updN h pl x) (pl + 1) = 0
          · exact z
          · rw [if_neg z] at q2; omega)]
        rw [mk_upd, rd_upd, Nat.sub_sub]
      · rw [if_neg (fun q => c0 q.1)]
        rw [← SqU_0 (m := m) (k := k) (pl := pl + 1) (h := updN h pl x)]
        apply SqU_congr
        intro s h1 h2
        have hs : okH p s := ⟨⟨hp.1, by omega⟩, fun i hi => by
          by_cases e : i < pl
          · rw [h1 i (by omega), updN_o (by omega)]; exact Nat.le_trans (h9 i e) hm
          · by_cases e2 : i = pl
            · rw [h1 i (by omega), e2, updN_s]; omega
            · exact Nat.le_trans (h2 i (by omega) (by omega)) hm⟩
        unfold VUF
        rw [ft_low hs (j := pl) (by omega) (by rw [h1 pl (by omega), h1 0 (by omega), updN_s, updN_o (by omega)]; omega)]
        rfl
    · rw [if_neg (fun q => c q.2)]
      have a := SqU_le (m := m) (fun s => VUF_le (p := p) (b := b) s) (k := k) (pl := pl + 1) (h := updN h pl x)
      rw [pv_fb hp (by omega) hv] at a
      omega
theorem pv_0 {p b : Nat} {h : Nat → Nat} : pv p b h 0 := ⟨fun i j a c => by omega, Nat.zero_le _⟩
theorem pr_pf {p b m : Nat} {h h' : Nat → Nat} (hp : 1 ≤ p ∧ p ≤ 8) (hm : m ≤ 9) : prF p m p 0 0 b h = p * pfF p m p 0 0 b h' := by
  have a := pr_sum (b := b) (m := m) hp (k := p) (pl := 0) (h := h) (by omega) pv_0 (fun e => by omega)
  have c := pf_sum (b := b) hp hm (k := p) (pl := 0) (h := h') (by omega) pv_0 (fun i hi => by omega) (fun e => by omega)
  rw [show mkN p h 0 = 0 from rfl, show rdN p h 0 = 0 from rfl, Nat.sub_zero] at a
  rw [show mkN p h' 0 = 0 from rfl, show rdN p h' 0 = 0 from rfl, Nat.sub_zero] at c
  have i1 : ∀ {k pl : Nat} {f : (Nat → Nat) → Nat} {g g' : Nat → Nat}, loc p f → pl + k = p → (∀ i, i < pl → g i = g' i) → SqU m f k pl g = SqU m f k pl g' := by
    intro k
    induction k with
    | zero => intro pl f g g' hl hpl e; exact hl _ _ (fun i hi => e i (by omega))
    | succ k ih =>
      intro pl f g g' hl hpl e
      simp only [SqU]
      apply sumN_congr
      intro x _
      refine ih hl (by omega) (fun i hi => ?_)
      by_cases z : i = pl
      · subst z; rw [updN_s, updN_s]
      · rw [updN_o z, updN_o z]; exact e i (by omega)
  rw [a, c, pr_main hp hm, i1 (g := h) (g' := h') (VUF_loc hp.1) (by omega) (fun i hi => by omega)]
theorem SqU_bd {m : Nat} {f : (Nat → Nat) → Nat} (H : ∀ s, f s ≤ 1) (hm : m ≤ 9) : ∀ {k pl : Nat} {h : Nat → Nat}, SqU m f k pl h ≤ 10 ^ k
  | 0, _, h => H h
  | k + 1, pl, h => by
    simp only [SqU]
    refine Nat.le_trans (sumN_le (m := 10 ^ k) (fun x _ => SqU_bd H hm)) ?_
    rw [Nat.pow_succ, Nat.mul_comm]
    exact Nat.mul_le_mul_left _ (by omega)
