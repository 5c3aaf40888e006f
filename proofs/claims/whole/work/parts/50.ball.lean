/-! which ball: the class's way back and the model's way forward -/
theorem hg_inj {p : Pn} (h : okT p) {a b : Int} (e : a + (hg p.1 p.2 a : Int) = b + (hg p.1 p.2 b : Int)) : a = b := by
  have hn := h.1.1
  have a1 := emod_nn a hn.1
  have b1 := emod_nn b hn.1
  obtain ⟨i, hi⟩ : ∃ i : Nat, a % (p.1 : Int) = (i : Int) := ⟨(a % (p.1 : Int)).toNat, by omega⟩
  obtain ⟨j, hj⟩ : ∃ j : Nat, b % (p.1 : Int) = (j : Int) := ⟨(b % (p.1 : Int)).toNat, by omega⟩
  have ea : hg p.1 p.2 a = p.2 i := by unfold hg; rw [hi, Int.toNat_natCast]
  have eb : hg p.1 p.2 b = p.2 j := by unfold hg; rw [hj, Int.toNat_natCast]
  have hij : i = j := by
    refine dstT h (by omega) (by omega) ?_
    unfold lnd
    have k1 : ((i + p.2 i : Nat) : Int) % (p.1 : Int) = ((j + p.2 j : Nat) : Int) % (p.1 : Int) := by
      rw [Int.natCast_add, Int.natCast_add, ← hi, ← hj, Int.emod_add_emod, Int.emod_add_emod, ← ea, ← eb, e]
    exact Int.ofNat.inj k1
  rw [ea, eb, hij] at e
  omega
theorem hg_sur {p : Pn} (h : okT p) (z : Int) : ∃ s : Int, s + (hg p.1 p.2 s : Int) = z := by
  have hn := h.1.1
  have a1 := emod_nn z hn.1
  obtain ⟨k, hk⟩ : ∃ k : Nat, z % (p.1 : Int) = (k : Int) := ⟨(z % (p.1 : Int)).toNat, by omega⟩
  obtain ⟨i, hi, hl⟩ := inj_surj (s := lnd p.1 p.2) (fun i _ => lnd_lt hn.1) h.2 k (by omega)
  have hd := Nat.div_add_mod (i + p.2 i) p.1
  unfold lnd at hl
  rw [hl] at hd
  have hz := Int.mul_ediv_add_emod z (p.1 : Int)
  rw [hk] at hz
  refine ⟨z - (p.2 i : Int), ?_⟩
  have e : z - (p.2 i : Int) = (i : Int) + (p.1 : Int) * (z / (p.1 : Int) - (((i + p.2 i) / p.1 : Nat) : Int)) := by
    rw [Int.mul_sub, ← Int.natCast_mul]
    omega
  rw [e, hg_mod, hg_lt hi, ← e]
  omega
theorem tbF_spec {n : Nat} {h : Nat → Nat} {z : Int} : ∀ {m : Nat}, m ≤ 9 → (∃ ago : Int, 10 - (m : Int) ≤ ago ∧ ago ≤ 9 ∧ (hg n h (z - ago) : Int) = ago ∧ tbF n h z m = z - ago) ∨ (tbF n h z m = z ∧ ∀ ago : Int, 10 - (m : Int) ≤ ago → ago ≤ 9 → (hg n h (z - ago) : Int) ≠ ago)
  | 0, _ => Or.inr ⟨rfl, fun ago h1 h2 => by omega⟩
  | m + 1, hm => by
    simp only [tbF]
    by_cases c : (hg n h (z - (9 - (m : Int))) : Int) = 9 - (m : Int)
    · rw [if_pos c]
      exact Or.inl ⟨9 - (m : Int), by omega, by omega, c, rfl⟩
    · rw [if_neg c]
      rcases tbF_spec (n := n) (h := h) (z := z) (m := m) (by omega) with ⟨ago, h1, h2, h3, h4⟩ | ⟨h1, h2⟩
      · exact Or.inl ⟨ago, by omega, h2, h3, h4⟩
      · refine Or.inr ⟨h1, fun ago a1 a2 => ?_⟩
        by_cases e : ago = 9 - (m : Int)
        · rw [e]; exact c
        · exact h2 ago (by omega) a2
theorem tb_of {p : Pn} (h : okT p) {s z : Int} (e : s + (hg p.1 p.2 s : Int) = z) (h0 : hg p.1 p.2 s ≠ 0) : tbN p.1 p.2 z = s := by
  have h9 := hg_le h.1 s
  rcases tbF_spec (n := p.1) (h := p.2) (z := z) (m := 9) (by omega) with ⟨ago, h1, h2, h3, h4⟩ | ⟨h1, h2⟩
  · have := hg_inj h (a := z - ago) (b := s) (by omega)
    unfold tbN
    rw [h4, this]
  · exact absurd (show (hg p.1 p.2 (z - (hg p.1 p.2 s : Int)) : Int) = (hg p.1 p.2 s : Int) by rw [show z - (hg p.1 p.2 s : Int) = s by omega]) (h2 _ (by omega) (by omega))
theorem tb_self {p : Pn} (h : okT p) {z : Int} (h0 : hg p.1 p.2 z = 0) : tbN p.1 p.2 z = z := by
  rcases tbF_spec (n := p.1) (h := p.2) (z := z) (m := 9) (by omega) with ⟨ago, h1, h2, h3, h4⟩ | ⟨h1, h2⟩
  · have := hg_inj h (a := z - ago) (b := z) (by omega)
    omega
  · exact h1
theorem tb_lt {p : Pn} (h : okT p) {z : Int} (h0 : hg p.1 p.2 z ≠ 0) : tbN p.1 p.2 z < z ∧ hg p.1 p.2 (tbN p.1 p.2 z) ≠ 0 ∧ tbN p.1 p.2 z + (hg p.1 p.2 (tbN p.1 p.2 z) : Int) = z := by
  obtain ⟨s, hs⟩ := hg_sur h z
  have hne : hg p.1 p.2 s ≠ 0 := by
    intro e
    rw [e] at hs
    have : s = z := by omega
    rw [this] at e
    exact h0 e
  rw [tb_of h hs hne]
  exact ⟨by omega, hne, hs⟩
/-- the first throw of the ball -/
def rtF (n : Nat) (h : Nat → Nat) (k : Nat) (f : Int) : Int := bt1 n h k f (tbN n h f)
theorem rtF_neg {n : Nat} {h : Nat → Nat} {k : Nat} {f : Int} (hb : tbN n h f < 0) : rtF n h k f = f := by
  unfold rtF
  cases k with
  | zero => rfl
  | succ k => simp only [bt1]; rw [if_pos hb]
theorem rtF_s {n : Nat} {h : Nat → Nat} {k : Nat} {f : Int} (hb : 0 ≤ tbN n h f) : rtF n h (k + 1) f = rtF n h k (tbN n h f) := by
  unfold rtF
  simp only [bt1]; rw [if_neg (by omega)]
theorem rtF_stab {p : Pn} (h : okT p) : ∀ (N : Nat) (f : Int), 0 ≤ f → f ≤ N → hg p.1 p.2 f ≠ 0 → ∀ k m : Nat, f ≤ k → f ≤ m → rtF p.1 p.2 k f = rtF p.1 p.2 m f := by
  intro N
  induction N with
  | zero =>
    intro f f0 fN hf k m hk hm
    have := (tb_lt h hf).1
    rw [rtF_neg (by omega), rtF_neg (by omega)]
  | succ N ih =>
    intro f f0 fN hf k m hk hm
    obtain ⟨t1, t2, t3⟩ := tb_lt h hf
    by_cases c : tbN p.1 p.2 f < 0
    · rw [rtF_neg c, rtF_neg c]
    · obtain ⟨k', rfl⟩ : ∃ k', k = k' + 1 := ⟨k - 1, by omega⟩
      obtain ⟨m', rfl⟩ : ∃ m', m = m' + 1 := ⟨m - 1, by omega⟩
      rw [rtF_s (by omega), rtF_s (by omega)]
      exact ih _ (by omega) (by omega) t2 k' m' (by omega) (by omega)
theorem rt_F {p : Pn} (h : okT p) {s : Int} (h0 : 0 ≤ s) (hs : hg p.1 p.2 s ≠ 0) {k : Nat} (hk : s + (hg p.1 p.2 s : Int) ≤ k) : rtF p.1 p.2 k (s + (hg p.1 p.2 s : Int)) = rtF p.1 p.2 k s ∧ hg p.1 p.2 (s + (hg p.1 p.2 s : Int)) ≠ 0 := by
  have ht := tb_of h (s := s) rfl hs
  constructor
  · obtain ⟨k', rfl⟩ : ∃ k', k = k' + 1 := ⟨k - 1, by omega⟩
    rw [rtF_s (by omega), ht]
    exact rtF_stab h k' s h0 (by omega) hs k' (k' + 1) (by omega) (by omega)
  · intro e
    have := hg_inj h (a := s) (b := s + (hg p.1 p.2 s : Int)) (by rw [e]; omega)
    omega
/-- so many throws on -/
def fwd (n : Nat) (h : Nat → Nat) (t : Int) : Nat → Int
  | 0 => t
  | i + 1 => fwd n h t i + (hg n h (fwd n h t i) : Int)
theorem hg_add_mod {n : Nat} {h : Nat → Nat} (hn : 1 ≤ n) (z : Int) : hg n h z = h (z % (n : Int)).toNat := rfl
theorem fwd_plc {p : Pn} (h : okT p) (t : Nat) : ∀ i, fwd p.1 p.2 t i % (p.1 : Int) = ((plc p.1 p.2 (t % p.1) i : Nat) : Int) ∧ fwd p.1 p.2 t i = (t : Int) + ((sumN (fun j => p.2 (plc p.1 p.2 (t % p.1) j)) i : Nat) : Int)
  | 0 => ⟨rfl, by simp [fwd, sumN]⟩
  | i + 1 => by
    obtain ⟨h1, h2⟩ := fwd_plc h t i
    have e : hg p.1 p.2 (fwd p.1 p.2 t i) = p.2 (plc p.1 p.2 (t % p.1) i) := by unfold hg; rw [h1, Int.toNat_natCast]
    constructor
    · show (fwd p.1 p.2 t i + (hg p.1 p.2 (fwd p.1 p.2 t i) : Int)) % (p.1 : Int) = ((lnd p.1 p.2 (plc p.1 p.2 (t % p.1) i) : Nat) : Int)
      rw [e, ← Int.emod_add_emod, h1]
      rfl
    · show fwd p.1 p.2 t i + (hg p.1 p.2 (fwd p.1 p.2 t i) : Int) = _
      rw [e]
      simp only [sumN]
      rw [h2]
      omega
theorem rt_fwd {p : Pn} (h : okT p) {t : Nat} (ht : hg p.1 p.2 t ≠ 0) {k : Nat} : ∀ i, fwd p.1 p.2 t i ≤ k → rtF p.1 p.2 k (fwd p.1 p.2 t i) = rtF p.1 p.2 k t ∧ hg p.1 p.2 (fwd p.1 p.2 t i) ≠ 0 ∧ (t : Int) ≤ fwd p.1 p.2 t i
  | 0, _ => ⟨rfl, ht, Int.le_refl _⟩
  | i + 1, hk => by
    have hk' : fwd p.1 p.2 t i + (hg p.1 p.2 (fwd p.1 p.2 t i) : Int) ≤ k := hk
    obtain ⟨h1, h2, h3⟩ := rt_fwd h ht (k := k) i (by omega)
    obtain ⟨r1, r2⟩ := rt_F h (s := fwd p.1 p.2 t i) (by omega) h2 hk'
    exact ⟨r1.trans h1, r2, by show (t : Int) ≤ fwd p.1 p.2 t i + (hg p.1 p.2 (fwd p.1 p.2 t i) : Int); omega⟩
theorem leastN {P : Nat → Prop} (h : ∃ n, P n) : ∃ n, P n ∧ ∀ m, m < n → ¬ P m := by
  obtain ⟨n, hn⟩ := h
  induction n using Nat.strongRecOn with
  | _ n ih =>
    by_cases c : ∃ m, m < n ∧ P m
    · obtain ⟨m, h1, h2⟩ := c
      exact ih m h1 h2
    · exact ⟨n, hn, fun m hm hp => c ⟨m, hm, hp⟩⟩
theorem plc_can {p : Pn} (h : okT p) {t : Nat} (ht : t < p.1) : ∀ {i j : Nat}, i ≤ j → plc p.1 p.2 t i = plc p.1 p.2 t j → plc p.1 p.2 t (j - i) = t
  | 0, j, _, e => by rw [Nat.sub_zero]; exact e.symm
  | i + 1, j, hij, e => by
    obtain ⟨j', rfl⟩ : ∃ j', j = j' + 1 := ⟨j - 1, by omega⟩
    have := dstT h (plc_lt h.1.1.1 ht i) (plc_lt h.1.1.1 ht j') e
    rw [show j' + 1 - (i + 1) = j' - i by omega]
    exact plc_can h ht (by omega) this
theorem cyc_len {p : Pn} (h : okT p) {t : Nat} (ht : t < p.1) : ∃ L, 1 ≤ L ∧ L ≤ p.1 ∧ plc p.1 p.2 t L = t ∧ ∀ i j, i < j → j < L → plc p.1 p.2 t i ≠ plc p.1 p.2 t j := by
  have hex : ∃ L, 1 ≤ L ∧ L ≤ p.1 ∧ plc p.1 p.2 t L = t := by
    apply Classical.byContradiction
    intro hno
    have := inj_le (s := plc p.1 p.2 t) (n := p.1 + 1) (m := p.1) (fun i _ => plc_lt h.1.1.1 ht i) (fun i j hij hj e => hno ⟨j - i, by omega, by omega, plc_can h ht (by omega) e⟩)
    omega
  obtain ⟨L, ⟨h1, h2, h3⟩, h4⟩ := leastN hex
  exact ⟨L, h1, h2, h3, fun i j hij hj e => h4 (j - i) (by omega) ⟨by omega, by omega, plc_can h ht (by omega) e⟩⟩
theorem sumN_one {L : Nat} {f : Nat → Nat} {x : Nat} (hd : ∀ i j, i < j → j < L → f i ≠ f j) : sumN (fun j => if f j = x then 1 else 0) L = ind (∃ j, j < L ∧ f j = x) := by
  have h1 := sumN_inj (s := f) (q := x) (n := L) hd
  by_cases c : ∃ j, j < L ∧ f j = x
  · rw [ind_T c]
    obtain ⟨j, hj, e⟩ := c
    have h2 : sumN (fun i => if j = i then 1 else 0) L ≤ sumN (fun j => if f j = x then 1 else 0) L := by
      clear h1 hd
      induction L with
      | zero => exact Nat.le_refl _
      | succ L ih =>
        simp only [sumN]
        by_cases cl : j < L
        · have := ih cl
          rw [if_neg (by omega)]
          omega
        · have hjl : j = L := by omega
          subst hjl
          rw [if_pos rfl, if_pos e, sumN_ind, if_neg (by omega)]
          omega
    rw [sumN_ind, if_pos hj] at h2
    omega
  · rw [ind_F c]
    rw [sumN_congr (g := fun _ => 0) (fun j hj => if_neg (fun e => c ⟨j, hj, e⟩)), sumN_0]
theorem cyS_sum {p : Pn} (h : okT p) {t : Nat} (ht : t < p.1) {L : Nat} (hL : 1 ≤ L ∧ L ≤ p.1) (hc : plc p.1 p.2 t L = t) (hd : ∀ i j, i < j → j < L → plc p.1 p.2 t i ≠ plc p.1 p.2 t j) : cyS p.1 p.2 t = sumN (fun j => p.2 (plc p.1 p.2 t j)) L := by
  have hB := cy_end (n := p.1) (h := p.2) (t := t) (k := L) hL.2 ⟨0, by omega, hc.symm⟩
  have hbit : ∀ x, ((cyB p.1 p.2 t).testBit x = true) ↔ ∃ j, j < L ∧ plc p.1 p.2 t j = x := by
    intro x
    rw [← hB, orN_bit]
    constructor
    · rintro ⟨j, j1, j2⟩; exact ⟨j, j1, (bit_pow.mp j2).symm⟩
    · rintro ⟨j, j1, j2⟩; exact ⟨j, j1, bit_pow.mpr j2.symm⟩
  have e1 : cyS p.1 p.2 t = sumN (fun x => sumN (fun j => if plc p.1 p.2 t j = x then p.2 x else 0) L) p.1 := by
    unfold cyS
    refine sumN_congr (fun x hx => ?_)
    have e2 : sumN (fun j => if plc p.1 p.2 t j = x then p.2 x else 0) L = p.2 x * sumN (fun j => if plc p.1 p.2 t j = x then 1 else 0) L := by
      rw [← sumN_mul]
      exact sumN_congr (fun j _ => by split <;> simp)
    rw [e2, sumN_one hd]
    by_cases c : (cyB p.1 p.2 t).testBit x = true
    · rw [if_pos c, ind_T ((hbit x).mp c), Nat.mul_one]
    · rw [if_neg c, ind_F (fun q => c ((hbit x).mpr q)), Nat.mul_zero]
  rw [e1, sumN_swap]
  refine sumN_congr (fun j _ => ?_)
  have hlt := plc_lt (h := p.2) h.1.1.1 ht j
  generalize plc p.1 p.2 t j = y at *
  have e3 : sumN (fun x => if y = x then p.2 x else 0) p.1 = p.2 y * sumN (fun x => if y = x then 1 else 0) p.1 := by
    rw [← sumN_mul]
    refine sumN_congr (fun x _ => ?_)
    by_cases c : y = x
    · rw [if_pos c, if_pos c, c, Nat.mul_one]
    · rw [if_neg c, if_neg c, Nat.mul_zero]
  rw [e3, sumN_ind, if_pos hlt, Nat.mul_one]
/-- a whole round of its cycle later it is the same ball, at the same place -/
theorem rt_cyc {p : Pn} (h : okT p) {t : Nat} (ht : hg p.1 p.2 t ≠ 0) {k : Nat} (hk : t + cyS p.1 p.2 (t % p.1) ≤ k) : rtF p.1 p.2 k ((t + cyS p.1 p.2 (t % p.1) : Nat) : Int) = rtF p.1 p.2 k t ∧ (t + cyS p.1 p.2 (t % p.1)) % p.1 = t % p.1 ∧ 1 ≤ cyS p.1 p.2 (t % p.1) := by
  have htn : t % p.1 < p.1 := Nat.mod_lt _ (by have := h.1.1.1; omega)
  obtain ⟨L, h1, h2, h3, h4⟩ := cyc_len h htn
  have hs := cyS_sum h htn ⟨h1, h2⟩ h3 h4
  obtain ⟨f1, f2⟩ := fwd_plc h t L
  rw [← hs] at f2
  rw [h3] at f1
  have f3 : fwd p.1 p.2 t L = ((t + cyS p.1 p.2 (t % p.1) : Nat) : Int) := by rw [f2]; omega
  obtain ⟨r1, r2, r3⟩ := rt_fwd h ht (k := k) L (by omega)
  rw [f3] at r1 f1
  refine ⟨r1, Int.ofNat.inj f1, ?_⟩
  rw [hs]
  have e0 : p.2 (plc p.1 p.2 (t % p.1) 0) ≠ 0 := by
    show p.2 (t % p.1) ≠ 0
    exact ht
  obtain ⟨L', rfl⟩ : ∃ L', L = L' + 1 := ⟨L - 1, by omega⟩
  rw [sumN_shift]
  omega
theorem rt_mod {p : Pn} (h : okT p) {C : Nat} : ∀ (q r : Nat), hg p.1 p.2 r ≠ 0 → cyS p.1 p.2 (r % p.1) = C → ∀ k : Nat, r + C * q ≤ k → rtF p.1 p.2 k ((r + C * q : Nat) : Int) = rtF p.1 p.2 k r ∧ (r + C * q) % p.1 = r % p.1
  | 0, r, _, _, k, _ => by rw [Nat.mul_zero, Nat.add_zero]; exact ⟨rfl, rfl⟩
  | q + 1, r, hr, hC, k, hk => by
    rw [Nat.mul_succ, ← Nat.add_assoc] at hk ⊢
    obtain ⟨i1, i2⟩ := rt_mod h q r hr hC k (by omega)
    have hh : hg p.1 p.2 ((r + C * q : Nat) : Int) ≠ 0 := by
      rw [hg_n, i2]; exact hr
    have hC2 : cyS p.1 p.2 ((r + C * q) % p.1) = C := by rw [i2]; exact hC
    have := rt_cyc h hh (k := k) (by rw [hC2]; exact hk)
    rw [hC2] at this
    exact ⟨this.1.trans i1, this.2.1.trans i2⟩
theorem cyS_dvd {p : Pn} (h : okT p) {t : Nat} (ht : hg p.1 p.2 t ≠ 0) : p.1 ∣ cyS p.1 p.2 (t % p.1) := by
  have := (rt_cyc h ht (k := t + cyS p.1 p.2 (t % p.1)) (Nat.le_refl _)).2.1
  have h3 := Nat.div_add_mod (t + cyS p.1 p.2 (t % p.1)) p.1
  have h4 := Nat.div_add_mod t p.1
  rw [this] at h3
  refine ⟨(t + cyS p.1 p.2 (t % p.1)) / p.1 - t / p.1, ?_⟩
  rw [Nat.mul_sub]
  omega

-- the model's beats
def RR (p : Pn) (f : Int) : Int := rtF p.1 p.2 f.toNat f
def WW (p : Pn) (t u : Nat) : Nat := if 0 ≤ tbN p.1 p.2 u ∧ tbN p.1 p.2 u < t ∧ tbN p.1 p.2 u < u then cnF p.1 p.2 (RR p (tbN p.1 p.2 u)).toNat + 1 else 0
theorem tb_eq {p : Pn} (h : okT p) {t u : Nat} (htu : t < u) : tbN p.1 p.2 u = t ↔ t + p.2 (t % p.1) = u := by
  have e : hg p.1 p.2 (t : Int) = p.2 (t % p.1) := rfl
  constructor
  · intro q
    have hu : hg p.1 p.2 (u : Int) ≠ 0 := fun z => by have := tb_self h z; omega
    have := (tb_lt h hu).2.2
    rw [q, e] at this
    omega
  · intro q
    exact tb_of h (s := (t : Int)) (by rw [e]; omega) (by rw [e]; omega)
theorem WW_s {p : Pn} (h : okT p) {t u : Nat} (htu : t < u) : WW p (t + 1) u = if t + p.2 (t % p.1) = u then cnF p.1 p.2 (RR p t).toNat + 1 else WW p t u := by
  have h1 := tb_eq h htu
  unfold WW
  by_cases c : t + p.2 (t % p.1) = u
  · have h2 := h1.mpr c
    rw [if_pos c, if_pos ⟨by omega, by omega, by omega⟩, h2]
  · have h2 : tbN p.1 p.2 u ≠ t := fun q => c (h1.mp q)
    rw [if_neg c]
    by_cases c2 : 0 ≤ tbN p.1 p.2 u ∧ tbN p.1 p.2 u < t ∧ tbN p.1 p.2 u < u
    · rw [if_pos c2, if_pos ⟨c2.1, by omega, c2.2.2⟩]
    · rw [if_neg c2, if_neg (fun q => c2 ⟨q.1, by omega, q.2.2⟩)]
theorem WW_far {p : Pn} {t u : Nat} (h : t + 9 ≤ u) : WW p t u = 0 := by
  have := tbN_bd p.1 p.2 (u : Int)
  exact if_neg (fun q => by omega)
theorem RR_s {p : Pn} (h : okT p) {t : Nat} (ht : p.2 (t % p.1) ≠ 0) (hb : 0 ≤ tbN p.1 p.2 t) : RR p t = RR p (tbN p.1 p.2 t) := by
  have ht' : hg p.1 p.2 (t : Int) ≠ 0 := ht
  obtain ⟨t1, t2, t3⟩ := tb_lt h ht'
  unfold RR
  rw [Int.toNat_natCast]
  obtain ⟨k, rfl⟩ : ∃ k, t = k + 1 := ⟨t - 1, by omega⟩
  rw [rtF_s hb]
  exact rtF_stab h k _ hb (by omega) t2 k _ (by omega) (by omega)
theorem RR_n {p : Pn} {t : Nat} (hb : tbN p.1 p.2 t < 0) : RR p t = t := rtF_neg hb
theorem cnF_s (n : Nat) (h : Nat → Nat) (t : Nat) : cnF n h (t + 1) = cnF n h t + (if tbN n h (t : Int) < 0 then 1 else 0) := rfl
theorem ba_inv {p : Pn} (h : okT p) : ∀ t, (baS p.1 p.2 t).1 = cnF p.1 p.2 t ∧ ∀ u, t ≤ u → u ≤ t + 9 → (baS p.1 p.2 t).2 (u % 10) = WW p t u
  | 0 => by
    refine ⟨rfl, fun u _ _ => ?_⟩
    show 0 = WW p 0 u
    exact (if_neg (fun q => by omega)).symm
  | t + 1 => by
    obtain ⟨i1, i2⟩ := ba_inv h t
    have e : hg p.1 p.2 (t : Int) = p.2 (t % p.1) := rfl
    have h9 := hg_le h.1 (t : Int)
    rw [e] at h9
    have row : ∀ (c : Nat → Nat) (V u : Nat), (∀ u, t ≤ u → u ≤ t + 9 → c (u % 10) = WW p t u) → p.2 (t % p.1) ≠ 0 → V = cnF p.1 p.2 (RR p t).toNat + 1 → t + 1 ≤ u → u ≤ t + 1 + 9 → updN (updN c (t % 10) 0) ((t + p.2 (t % p.1)) % 10) V (u % 10) = WW p (t + 1) u := by
      intro c V u hc hne hV u1 u2
      rw [WW_s h (by omega)]
      unfold updN
      by_cases c1 : t + p.2 (t % p.1) = u
      · rw [if_pos (by rw [c1]), if_pos c1, hV]
      · rw [if_neg (by omega), if_neg c1]
        by_cases c2 : u = t + 10
        · rw [if_pos (by omega), WW_far (by omega)]
        · rw [if_neg (by omega)]
          exact hc u (by omega) (by omega)
    simp only [baS]
    by_cases c : p.2 (t % p.1) = 0
    · rw [if_pos c]
      have hs := tb_self h (z := (t : Int)) (by rw [e]; exact c)
      refine ⟨?_, fun u u1 u2 => ?_⟩
      · rw [cnF_s, if_neg (by omega)]; exact i1
      · show updN (baS p.1 p.2 t).2 (t % 10) 0 (u % 10) = WW p (t + 1) u
        rw [WW_s h (by omega), if_neg (by omega)]
        unfold updN
        by_cases c2 : u = t + 10
        · rw [if_pos (by omega), WW_far (by omega)]
        · rw [if_neg (by omega)]
          exact i2 u (by omega) (by omega)
    · rw [if_neg c]
      have hlt := tb_lt h (z := (t : Int)) (by rw [e]; exact c)
      have hw := i2 t (Nat.le_refl _) (by omega)
      by_cases cb : tbN p.1 p.2 (t : Int) < 0
      · have hw0 : (baS p.1 p.2 t).2 (t % 10) = 0 := by rw [hw]; exact if_neg (fun q => by omega)
        rw [if_pos hw0]
        refine ⟨?_, fun u u1 u2 => row _ _ u i2 c ?_ u1 u2⟩
        · rw [cnF_s, if_pos cb]
          show (baS p.1 p.2 t).1 + 1 = _
          rw [i1]
        · rw [RR_n cb, Int.toNat_natCast, i1]
      · have hw1 : (baS p.1 p.2 t).2 (t % 10) = cnF p.1 p.2 (RR p (tbN p.1 p.2 (t : Int))).toNat + 1 := by rw [hw]; exact if_pos ⟨by omega, hlt.1, hlt.1⟩
        rw [if_neg (by omega)]
        refine ⟨?_, fun u u1 u2 => row _ _ u i2 c ?_ u1 u2⟩
        · rw [cnF_s, if_neg cb]; exact i1
        · rw [RR_s h c (by omega), hw1]
theorem ba_RR {p : Pn} (h : okT p) (t : Nat) : baN p.1 p.2 t = if p.2 (t % p.1) = 0 then -4 else ((cnF p.1 p.2 (RR p t).toNat : Nat) : Int) := by
  unfold baN
  by_cases c : p.2 (t % p.1) = 0
  · rw [if_pos c, if_pos c]
  · rw [if_neg c, if_neg c]
    obtain ⟨i1, i2⟩ := ba_inv h t
    have e : hg p.1 p.2 (t : Int) = p.2 (t % p.1) := rfl
    have hlt := tb_lt h (z := (t : Int)) (by rw [e]; exact c)
    have hw := i2 t (Nat.le_refl _) (by omega)
    by_cases cb : tbN p.1 p.2 (t : Int) < 0
    · have hw0 : (baS p.1 p.2 t).2 (t % 10) = 0 := by rw [hw]; exact if_neg (fun q => by omega)
      rw [if_pos hw0, i1, RR_n cb, Int.toNat_natCast]
    · have hw1 : (baS p.1 p.2 t).2 (t % 10) = cnF p.1 p.2 (RR p (tbN p.1 p.2 (t : Int))).toNat + 1 := by rw [hw]; exact if_pos ⟨by omega, hlt.1, hlt.1⟩
      rw [if_neg (by omega), hw1, RR_s h c (by omega)]
      omega
theorem bt_RR {p : Pn} (h : okT p) {t : Nat} (c : p.2 (t % p.1) ≠ 0) : btN p.1 p.2 t = ((cnF p.1 p.2 (RR p t).toNat : Nat) : Int) := by
  have ht : hg p.1 p.2 (t : Int) ≠ 0 := c
  have hC1 := (rt_cyc h ht (k := t + cyS p.1 p.2 (t % p.1)) (Nat.le_refl _)).2.2
  have hC90 := cyS_le h.1 (t % p.1)
  have hdv := cyS_dvd h ht
  have e0 : (((t : Int) % (p.1 : Int)).toNat) = t % p.1 := rfl
  unfold btN
  simp only
  rw [e0]
  generalize hC : cyS p.1 p.2 (t % p.1) = C at *
  have em : max 1 C = C := by omega
  rw [em]
  have e1 : (t : Int) % (C : Int) = ((t % C : Nat) : Int) := rfl
  rw [e1]
  have hm : t % C % p.1 = t % p.1 := Nat.mod_mod_of_dvd t hdv
  have hlt : t % C < C := Nat.mod_lt _ (by omega)
  have hr : hg p.1 p.2 ((t % C : Nat) : Int) ≠ 0 := by rw [hg_n, hm]; exact c
  have hd := Nat.mod_add_div t C
  have r1 := (rt_mod h (C := C) (t / C) (t % C) hr (by rw [hm]; exact hC) t (by omega)).1
  rw [hd] at r1
  have r2 := rtF_stab h 90 ((t % C : Nat) : Int) (by omega) (by omega) hr 90 t (by omega) (by have := Nat.mod_le t C; omega)
  have e2 : bt1 p.1 p.2 90 ((t % C : Nat) : Int) (tbN p.1 p.2 ((t % C : Nat) : Int)) = RR p t := by
    show rtF p.1 p.2 90 _ = rtF p.1 p.2 ((t : Int)).toNat t
    rw [Int.toNat_natCast, r2, r1]
  rw [e2]
theorem bt_ba {p : Pn} (h : okT p) (t : Nat) : (if p.2 (t % p.1) = 0 then -4 else btN p.1 p.2 t) = baN p.1 p.2 t := by
  rw [ba_RR h]
  by_cases c : p.2 (t % p.1) = 0
  · rw [if_pos c, if_pos c]
  · rw [if_neg c, if_neg c, bt_RR h c]
