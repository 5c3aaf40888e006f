/-! turned rows -/
theorem hg_tu {p : Nat} {h : Nat → Nat} {k : Nat} {z : Int} (hp : 1 ≤ p) : hg p (tuH p h k) z = hg p h (z + k) := by
  unfold hg tuH
  have h1 := emod_nn z hp
  obtain ⟨q, hq⟩ : ∃ q : Nat, z % (p : Int) = q := ⟨(z % (p : Int)).toNat, by omega⟩
  rw [← Int.emod_add_emod z p k, hq]
  rfl
theorem air_tu {p : Nat} {h : Nat → Nat} {k : Nat} {z : Int} (hp : 1 ≤ p) : airN p (tuH p h k) z = airN p h (z + k) := by
  unfold airN
  apply orN_congr
  intro i _
  rw [hg_tu hp, show z - ((i : Int) + 1) + (k : Int) = z + k - ((i : Int) + 1) by omega]
theorem hg_loc {p : Nat} {h h' : Nat → Nat} (hp : 1 ≤ p) (e : ∀ i, i < p → h i = h' i) (z : Int) : hg p h z = hg p h' z := by
  have h1 := emod_nn z hp
  exact e _ (by omega)
theorem air_loc {p : Nat} {h h' : Nat → Nat} (hp : 1 ≤ p) (e : ∀ i, i < p → h i = h' i) (z : Int) : airN p h z = airN p h' z := by
  unfold airN
  apply orN_congr
  intro i _
  rw [hg_loc hp e]
theorem hg_mod {p : Nat} {h : Nat → Nat} {z y : Int} : hg p h (z + p * y) = hg p h z := by
  unfold hg
  rw [Int.add_mul_emod_self_left]
theorem air_mod {p : Nat} {h : Nat → Nat} (z : Nat) : airN p h (z : Int) = airN p h ((z % p : Nat) : Int) := by
  unfold airN
  apply orN_congr
  intro i _
  have dm := Nat.div_add_mod z p
  have e : (z : Int) - ((i : Int) + 1) = (((z % p : Nat) : Int) - ((i : Int) + 1)) + (p : Int) * ((z / p : Nat) : Int) := by
    have : (z : Int) = (p : Int) * ((z / p : Nat) : Int) + ((z % p : Nat) : Int) := by
      conv => lhs; rw [← dm]
      rfl
    omega
  rw [e, hg_mod]
theorem mod_inj {p i j k : Nat} (hi : i < p) (hj : j < p) (e : (i + k) % p = (j + k) % p) : i = j := by
  have a := Nat.sub_mod_eq_zero_of_mod_eq e
  have b := Nat.sub_mod_eq_zero_of_mod_eq e.symm
  rw [Nat.add_sub_add_right, Nat.mod_eq_of_lt (by omega)] at a b
  omega
theorem tu_tu {p : Nat} {h : Nat → Nat} {k j : Nat} : tuH p (tuH p h k) j = tuH p h ((k + j) % p) := by
  funext i
  unfold tuH
  rw [Nat.mod_add_mod, Nat.add_mod_mod, Nat.add_assoc, Nat.add_comm j k]
theorem tu_0 {p : Nat} {h : Nat → Nat} {i : Nat} (hi : i < p) : tuH p h 0 i = h i := by
  unfold tuH; rw [Nat.add_zero, Nat.mod_eq_of_lt hi]
theorem tu_back {p : Nat} {h : Nat → Nat} {k : Nat} (hp : 1 ≤ p) : ∀ i, i < p → tuH p (tuH p h k) (p * k - k) i = h i := by
  intro i hi
  have : k ≤ p * k := Nat.le_mul_of_pos_left k hp
  rw [tu_tu, show (k + (p * k - k)) % p = 0 by rw [show k + (p * k - k) = p * k by omega]; exact Nat.mul_mod_right p k]
  exact tu_0 hi
theorem unl_loc {p : Nat} {h h' : Nat → Nat} (hp : 1 ≤ p) (e : ∀ i, i < p → h i = h' i) (u : unl p h) : unl p h' := by
  intro i j h1 h2 q
  rw [← air_loc hp e, ← air_loc hp e] at q
  exact u i j h1 h2 q
theorem unl_tu {p : Nat} {h : Nat → Nat} {k : Nat} (hp : 1 ≤ p) (u : unl p h) : unl p (tuH p h k) := by
  intro i j h1 h2 q
  rw [air_tu hp, air_tu hp, show (i : Int) + (k : Int) = ((i + k : Nat) : Int) from rfl, show (j : Int) + (k : Int) = ((j + k : Nat) : Int) from rfl, air_mod (i + k), air_mod (j + k)] at q
  have a1 : (i + k) % p < p := Nat.mod_lt _ (by omega)
  have a2 : (j + k) % p < p := Nat.mod_lt _ (by omega)
  rcases Nat.lt_trichotomy ((i + k) % p) ((j + k) % p) with c | c | c
  · exact u _ _ c a2 q
  · have := mod_inj (by omega) h2 c; omega
  · exact u _ _ c a1 q.symm
theorem unN_tu {p : Nat} {h : Nat → Nat} {k : Nat} (hp : 1 ≤ p) : unN p (tuH p h k) = unN p h := by
  by_cases u : unl p h
  · rw [unN_T u, unN_T (unl_tu hp u)]
  · rw [unN_F u, unN_F (fun q => u (unl_loc hp (tu_back hp) (unl_tu (k := p * k - k) hp q)))]
theorem unN_loc {p : Nat} (hp : 1 ≤ p) : loc p (unN p) := by
  intro h h' e
  by_cases u : unl p h
  · rw [unN_T u, unN_T (unl_loc hp e u)]
  · rw [unN_F u, unN_F (fun q => u (unl_loc hp (fun i hi => (e i hi).symm) q))]
/-! true rows of so many balls -/
def dst (p : Nat) (s : Nat → Nat) : Prop := ∀ i j, i < j → j < p → lnd p s i ≠ lnd p s j
def vl (p b : Nat) (s : Nat → Nat) : Prop := dst p s ∧ rdN p s p = b
theorem dst_ne {p : Nat} {s : Nat → Nat} (d : dst p s) {u w : Nat} (hu : u < p) (hw : w < p) (e : lnd p s u = lnd p s w) : u = w := by
  rcases Nat.lt_trichotomy u w with c | c | c
  · exact absurd e (d u w c hw)
  · exact c
  · exact absurd e.symm (d w u c hu)
theorem dst_tu {p : Nat} {s : Nat → Nat} {k : Nat} (hp : 1 ≤ p) (d : dst p s) : dst p (tuH p s k) := by
  intro i j h1 h2 q
  have key : ∀ i, (lnd p (tuH p s k) i + k) % p = lnd p s ((i + k) % p) := by
    intro i
    unfold lnd tuH
    rw [Nat.mod_add_mod, Nat.mod_add_mod, Nat.add_right_comm]
  have e : lnd p s ((i + k) % p) = lnd p s ((j + k) % p) := by rw [← key, ← key, q]
  have := mod_inj (by omega) h2 (dst_ne d (Nat.mod_lt _ (by omega)) (Nat.mod_lt _ (by omega)) e)
  omega
theorem lnd_loc {p : Nat} {h h' : Nat → Nat} {i : Nat} (e : h i = h' i) : lnd p h i = lnd p h' i := by unfold lnd; rw [e]
theorem dst_loc {p : Nat} {h h' : Nat → Nat} (e : ∀ i, i < p → h i = h' i) (d : dst p h) : dst p h' := by
  intro i j h1 h2 q
  rw [← lnd_loc (e i (by omega)), ← lnd_loc (e j h2)] at q
  exact d i j h1 h2 q
theorem rd_loc {p j : Nat} {h h' : Nat → Nat} (e : ∀ i, i < j → h i = h' i) : rdN p h j = rdN p h' j := sumN_congr (fun i hi => by rw [e i hi])
theorem vl_loc {p b : Nat} {h h' : Nat → Nat} (e : ∀ i, i < p → h i = h' i) (d : vl p b h) : vl p b h' := ⟨dst_loc e d.1, by rw [← d.2]; exact (rd_loc e).symm⟩
theorem sum_tu1 {p : Nat} {s : Nat → Nat} (hp : 1 ≤ p) : sumN (tuH p s 1) p = sumN s p := by
  obtain ⟨k, rfl⟩ : ∃ k, p = k + 1 := ⟨p - 1, by omega⟩
  rw [sumN_shift s]
  show sumN (tuH (k + 1) s 1) k + tuH (k + 1) s 1 k = _
  rw [sumN_congr (g := fun i => s (i + 1)) (fun i hi => by unfold tuH; rw [Nat.mod_eq_of_lt (by omega)])]
  unfold tuH
  rw [Nat.mod_self, Nat.add_comm]
theorem sum_tu {p : Nat} {s : Nat → Nat} (hp : 1 ≤ p) : ∀ k, sumN (tuH p s k) p = sumN s p
  | 0 => sumN_congr (fun i hi => tu_0 hi)
  | k + 1 => by
    refine Eq.trans ?_ ((sum_tu1 (s := tuH p s k) hp).trans (sum_tu hp k))
    rw [tu_tu]
    apply sumN_congr
    intro i _
    unfold tuH
    rw [Nat.add_mod_mod]
theorem vl_tu {p b : Nat} {s : Nat → Nat} {k : Nat} (hp : 1 ≤ p ∧ p ≤ 8) (d : vl p b s) : vl p b (tuH p s k) := by
  refine ⟨dst_tu hp.1 d.1, ?_⟩
  rw [← (rd_sum hp (dst_tu (k := k) hp.1 d.1)).2, sum_tu hp.1, (rd_sum hp d.1).2]
  exact d.2
theorem iv_tu {p b : Nat} {s : Nat → Nat} {k : Nat} (hp : 1 ≤ p ∧ p ≤ 8) : ind (vl p b (tuH p s k)) = ind (vl p b s) :=
  ind_iff ⟨fun q => vl_loc (tu_back hp.1) (vl_tu (k := p * k - k) hp q), fun q => vl_tu hp q⟩
theorem lex_loc {p : Nat} {h h' : Nat → Nat} {k : Nat} (hp : 1 ≤ p) (e : ∀ i, i < p → h i = h' i) : ∀ {m i : Nat}, i + m = p → lexM p h k m i = lexM p h' k m i
  | 0, _, _ => rfl
  | m + 1, i, hi => by
    simp only [lexM]
    rw [hg_loc hp e, e i (by omega), lex_loc hp e (m := m) (i := i + 1) (by omega)]
theorem ft_loc {p : Nat} {h h' : Nat → Nat} (hp : 1 ≤ p) (e : ∀ i, i < p → h i = h' i) : ∀ {m k : Nat}, ftF p h m k = ftF p h' m k
  | 0, _ => rfl
  | m + 1, k => by
    simp only [ftF]
    rw [lex_loc hp e (by omega), ft_loc hp e]
noncomputable def VU (p b : Nat) (s : Nat → Nat) : Nat := ind (vl p b s) * unN p s
noncomputable def VUF (p b : Nat) (s : Nat → Nat) : Nat := VU p b s * (ftF p s (p - 1) 1).toNat
theorem VUF_loc {p b : Nat} (hp : 1 ≤ p) : loc p (VUF p b) := by
  intro h h' e
  unfold VUF VU
  rw [ft_loc hp e, unN_loc hp h h' e, ind_iff (P := vl p b h) (Q := vl p b h') ⟨vl_loc e, vl_loc (fun i hi => (e i hi).symm)⟩]
theorem ft_ind {p : Nat} {s : Nat → Nat} {k : Nat} (hk : k < p) (hs : okH p s) : (ftF p (tuH p s k) (p - 1) 1).toNat = ind (∀ j, j < p → sv (tuH p s k) p 0 ≤ sv (tuH p s j) p 0) := by
  have ho : okH p (tuH p s k) := ⟨hs.1, fun i _ => hs.2 _ (Nat.mod_lt _ (by omega))⟩
  have e := ft_sv ho (m := p - 1) (k := 1)
  by_cases c : ∀ j, j < p → sv (tuH p s k) p 0 ≤ sv (tuH p s j) p 0
  · rw [ind_T c, e.mpr (fun j a b => by rw [tu_tu]; exact c _ (Nat.mod_lt _ (by omega)))]
    rfl
  · rw [ind_F c]
    rcases ftF_01 (n := p) (h := tuH p s k) (m := p - 1) (k := 1) with q | q
    · rw [q]; rfl
    · refine absurd (fun j hj => ?_) c
      have q := e.mp q
      by_cases ej : j = k
      · rw [ej]; exact Nat.le_refl _
      · by_cases lt : k < j
        · have := q (j - k) (by omega) (by omega)
          rw [tu_tu, show (k + (j - k)) % p = j by rw [show k + (j - k) = j by omega]; exact Nat.mod_eq_of_lt hj] at this
          exact this
        · have := q (j + p - k) (by omega) (by omega)
          rw [tu_tu, show (k + (j + p - k)) % p = j by rw [show k + (j + p - k) = j + p by omega, Nat.add_mod_right]; exact Nat.mod_eq_of_lt hj] at this
          exact this
theorem ft_one {p : Nat} {s : Nat → Nat} (hs : okH p s) (u : unl p s) : sumN (fun k => (ftF p (tuH p s k) (p - 1) 1).toNat) p = 1 := by
  have hp := hs.1.1
  rw [sumN_congr (g := fun k => ind (∀ j, j < p → sv (tuH p s k) p 0 ≤ sv (tuH p s j) p 0)) (fun k hk => ft_ind hk hs)]
  refine min_one (v := fun k => sv (tuH p s k) p 0) hp (fun i j h1 h2 e => ?_)
  have h9 : ∀ k j, tuH p s k j ≤ 9 := fun k j => hs.2 _ (Nat.mod_lt _ (by omega))
  have e2 := sv_inj (m := p) (i := 0) (fun q _ _ => h9 i q) (fun q _ _ => h9 j q) e
  refine u i j h1 h2 ?_
  have a1 := air_tu (p := p) (h := s) (k := i) (z := 0) hp
  have a2 := air_tu (p := p) (h := s) (k := j) (z := 0) hp
  rw [Int.zero_add] at a1 a2
  rw [← a1, ← a2]
  exact air_loc hp (fun q hq => e2 q (by omega) (by omega)) 0
theorem sumN_c (c : Nat) : ∀ n, sumN (fun _ => c) n = n * c
  | 0 => by simp [sumN]
  | n + 1 => by simp only [sumN]; rw [sumN_c c n, Nat.add_mul, Nat.one_mul]
theorem sumN_mul (c : Nat) (f : Nat → Nat) : ∀ n, sumN (fun i => c * f i) n = c * sumN f n
  | 0 => by simp [sumN]
  | n + 1 => by simp only [sumN]; rw [sumN_mul c f n, Nat.mul_add]
theorem pr_main {p b m : Nat} {h : Nat → Nat} (hp : 1 ≤ p ∧ p ≤ 8) (hm : m ≤ 9) : SqU m (VU p b) p 0 h = p * SqU m (VUF p b) p 0 h := by
  rw [← sumN_c, ← sumN_congr (fun k _ => SqU_tu (m := m) (f := VUF p b) (h := h) hp.1 (VUF_loc hp.1) k), ← SqU_sum]
  apply SqU_congr
  intro s _ h9
  have hs : okH p s := ⟨⟨hp.1, by omega⟩, fun i hi => Nat.le_trans (h9 i (by omega) (by omega)) hm⟩
  have e : ∀ k, VUF p b (tuH p s k) = VU p b s * (ftF p (tuH p s k) (p - 1) 1).toNat := by
    intro k
    unfold VUF VU
    rw [iv_tu hp, unN_tu hp.1]
  rw [sumN_congr (fun k _ => e k), sumN_mul]
  by_cases u : unl p s
  · rw [ft_one hs u, Nat.mul_one]
  · unfold VU; rw [unN_F u, Nat.mul_zero, Nat.zero_mul]
/-! the rows that go on from some throws -/
def pv (p b : Nat) (h : Nat → Nat) (pl : Nat) : Prop := (∀ i j, i < j → j < pl → lnd p h i ≠ lnd p h j) ∧ rdN p h pl ≤ b
theorem mk_upd {p pl x : Nat} {h : Nat → Nat} : mkN p (updN h pl x) (pl + 1) = mkN p h pl ||| 2 ^ ((pl + x) % p) := by
  rw [mk_s]
  unfold mkN
  rw [orN_congr (g := fun j => 2 ^ lnd p h j) (fun i hi => by rw [lnd_loc (updN_o (by omega))])]
  unfold lnd
  rw [updN_s]
theorem rd_upd {p pl x : Nat} {h : Nat → Nat} : rdN p (updN h pl x) (pl + 1) = rdN p h pl + (pl + x) / p := by
  show rdN p (updN h pl x) pl + (pl + updN h pl x pl) / p = _
  rw [updN_s, rd_loc (fun i hi => updN_o (by omega))]
theorem pv_no {p b pl k m : Nat} {h : Nat → Nat} (hpl : pl + k = p) (hn : ¬ pv p b h pl) : SqU m (fun s => ind (vl p b s)) k pl h = 0 := by
  rw [← SqU_0 (m := m) (k := k) (pl := pl) (h := h)]
  apply SqU_congr
  intro s h1 _
  refine ind_F (fun q => hn ⟨fun i j a c e => ?_, ?_⟩)
  · rw [← lnd_loc (h1 i (by omega)), ← lnd_loc (h1 j c)] at e
    exact q.1 i j a (by omega) e
  · rw [← rd_loc h1, ← q.2]
    exact sumN_mono (by omega)
theorem pv_upd {p b pl x : Nat} {h : Nat → Nat} (hv : pv p b h pl) : pv p b (updN h pl x) (pl + 1) ↔ ((mkN p h pl).testBit ((pl + x) % p) = false ∧ (pl + x) / p ≤ b - rdN p h pl) := by
  have hl : lnd p (updN h pl x) pl = (pl + x) % p := by unfold lnd; rw [updN_s]
  have ho : ∀ i, i < pl → lnd p (updN h pl x) i = lnd p h i := fun i hi => lnd_loc (updN_o (by omega))
  have hr := hv.2
  constructor
  · intro q
    refine ⟨?_, ?_⟩
    · cases e : (mkN p h pl).testBit ((pl + x) % p) with
      | false => rfl
      | true =>
        obtain ⟨j, h1, h2⟩ := mkN_bit.mp e
        exact absurd (by rw [ho j h1, hl]; exact h2) (q.1 j pl h1 (by omega))
    · have := q.2
      rw [rd_upd] at this
      omega
  · rintro ⟨q1, q2⟩
    refine ⟨fun i j h1 h2 e => ?_, by rw [rd_upd]; omega⟩
    by_cases ej : j = pl
    · subst ej
      rw [ho i h1, hl] at e
      have : (mkN p h j).testBit ((j + x) % p) = true := mkN_bit.mpr ⟨i, h1, e⟩
      rw [q1] at this; cases this
    · rw [ho i (by omega), ho j (by omega)] at e
      exact hv.1 i j h1 (by omega) e
