/-! patterns as numbers, from either end; how many can be reached by changes -/
def nmF (h : Nat → Nat) : Nat → Nat
  | 0 => 0
  | k + 1 => 10 * nmF h k + h k
def dm (n v k : Nat) : Nat := dg v (n - 1 - k)
theorem nmF_lt {h : Nat → Nat} : ∀ {n : Nat}, (∀ i, i < n → h i ≤ 9) → nmF h n < 10 ^ n
  | 0, _ => by simp [nmF]
  | n + 1, H => by
    have h1 := nmF_lt (n := n) (fun i hi => H i (by omega))
    have h2 := H n (by omega)
    simp only [nmF, Nat.pow_succ]
    generalize 10 ^ n = w at *
    omega
theorem nmF_congr {h h' : Nat → Nat} : ∀ {n : Nat}, (∀ i, i < n → h i = h' i) → nmF h n = nmF h' n
  | 0, _ => rfl
  | n + 1, H => by simp only [nmF]; rw [nmF_congr (n := n) (fun i hi => H i (by omega)), H n (by omega)]
theorem dg_0 (c : Nat) : dg c 0 = c % 10 := by unfold dg; rw [Nat.pow_zero, Nat.div_one]
theorem dg_s (c k : Nat) : dg c (k + 1) = dg (c / 10) k := by unfold dg; rw [Nat.div_div_eq_div_mul, Nat.pow_succ, Nat.mul_comm]
theorem dg_le (c k : Nat) : dg c k ≤ 9 := by
  have : c / 10 ^ k % 10 < 10 := Nat.mod_lt _ (by decide)
  unfold dg; omega
theorem dg_nm {h : Nat → Nat} : ∀ {n k : Nat}, k < n → (∀ i, i < n → h i ≤ 9) → dg (nmF h n) k = h (n - 1 - k)
  | 0, k, hk, _ => by omega
  | n + 1, 0, _, H => by
    have h2 := H n (by omega)
    rw [dg_0]
    show (10 * nmF h n + h n) % 10 = h (n + 1 - 1 - 0)
    rw [show n + 1 - 1 - 0 = n by omega]
    omega
  | n + 1, k + 1, hk, H => by
    have h2 := H n (by omega)
    rw [dg_s]
    show dg ((10 * nmF h n + h n) / 10) k = h (n + 1 - 1 - (k + 1))
    rw [show (10 * nmF h n + h n) / 10 = nmF h n by omega, dg_nm (n := n) (k := k) (by omega) (fun i hi => H i (by omega)), show n + 1 - 1 - (k + 1) = n - 1 - k by omega]
theorem dm_nm {h : Nat → Nat} {n k : Nat} (hk : k < n) (H : ∀ i, i < n → h i ≤ 9) : dm n (nmF h n) k = h k := by
  unfold dm
  rw [dg_nm (by omega) H, show n - 1 - (n - 1 - k) = k by omega]
theorem dg_ext : ∀ {n a b : Nat}, a < 10 ^ n → b < 10 ^ n → (∀ k, k < n → dg a k = dg b k) → a = b
  | 0, a, b, ha, hb, _ => by simp at ha hb; omega
  | n + 1, a, b, ha, hb, H => by
    have h0 := H 0 (by omega)
    rw [dg_0, dg_0] at h0
    rw [Nat.pow_succ] at ha hb
    have h1 : a / 10 = b / 10 := dg_ext (n := n) (by omega) (by omega) (fun k hk => by rw [← dg_s, ← dg_s]; exact H (k + 1) (by omega))
    omega
theorem nm_dm {n v : Nat} (hv : v < 10 ^ n) : nmF (dm n v) n = v := by
  refine dg_ext (nmF_lt (fun i _ => dg_le _ _)) hv (fun k hk => ?_)
  rw [dg_nm (h := dm n v) hk (fun i _ => dg_le _ _)]
  unfold dm
  rw [show n - 1 - (n - 1 - k) = k by omega]
theorem cd_s {n : Nat} {h : Nat → Nat} : cdX (n + 1) h = h 0 + 10 * cdX n (fun i => h (i + 1)) := by
  unfold cdX
  rw [sumN_shift, ← sumN_mul, Nat.pow_zero, Nat.mul_one]
  refine congrArg (fun x => h 0 + x) (sumN_congr (fun i _ => ?_))
  rw [Nat.pow_succ]
  show h (i + 1) * (10 ^ i * 10) = 10 * (h (i + 1) * 10 ^ i)
  rw [← Nat.mul_assoc, Nat.mul_comm]
theorem dg_cd : ∀ {n k : Nat} {h : Nat → Nat}, k < n → (∀ i, i < n → h i ≤ 9) → dg (cdX n h) k = h k
  | 0, k, _, hk, _ => by omega
  | n + 1, 0, h, _, H => by
    have h2 := H 0 (by omega)
    rw [dg_0, cd_s]
    omega
  | n + 1, k + 1, h, hk, H => by
    have h2 := H 0 (by omega)
    rw [dg_s, cd_s, show (h 0 + 10 * cdX n (fun i => h (i + 1))) / 10 = cdX n (fun i => h (i + 1)) by omega]
    exact dg_cd (h := fun i => h (i + 1)) (by omega) (fun i hi => H (i + 1) (by omega))
theorem cd_dg {n c : Nat} (hc : c < 10 ^ n) : cdX n (dg c) = c := dg_ext (cdX_lt (fun i _ => dg_le _ _)) hc (fun k hk => dg_cd hk (fun i _ => dg_le _ _))
theorem cd_upd {h : Nat → Nat} {i x : Nat} : ∀ {n : Nat}, i < n → ((cdX n (updN h i x) : Nat) : Int) = ((cdX n h : Nat) : Int) + ((x : Int) - h i) * ((10 ^ i : Nat) : Int)
  | 0, hi => by omega
  | n + 1, hi => by
    have e1 : ∀ f : Nat → Nat, cdX (n + 1) f = cdX n f + f n * 10 ^ n := fun _ => rfl
    rw [e1, e1]
    by_cases c : i = n
    · subst c
      have e2 : cdX i (updN h i x) = cdX i h := sumN_congr (fun k hk => by rw [show updN h i x k = h k from if_neg (by omega)])
      rw [e2, show updN h i x i = x from if_pos rfl, Int.sub_mul]
      push_cast
      omega
    · rw [show updN h i x n = h n from if_neg (by omega)]
      have ih := cd_upd (h := h) (i := i) (x := x) (n := n) (by omega)
      push_cast at ih ⊢
      rw [ih]
      omega
theorem ch_le {h : Nat → Nat} {i j : Nat} (h1 : h j + (j - i) ≤ 9) (h2 : h i ≤ 9) {k : Nat} (hk : h k ≤ 9) : chH h i j k ≤ 9 := by
  unfold chH updN
  split
  · omega
  · split <;> omega
theorem ch_cd {n c i j : Nat} (hc : c < 10 ^ n) (hij : i < j) (hj : j < n) (h2 : j - i ≤ dg c i) : chZ c i j = ((cdX n (chH (dg c) i j) : Nat) : Int) := by
  unfold chH
  rw [cd_upd hj, cd_upd (by omega), cd_dg hc, show updN (dg c) i (dg c j + (j - i)) j = dg c j from if_neg (by omega)]
  unfold chZ
  rw [show ((dg c j + (j - i) : Nat) : Int) = (dg c j : Int) + ((j : Int) - i) by omega, show ((dg c i - (j - i) : Nat) : Int) = (dg c i : Int) - ((j : Int) - i) by omega]
def nbM (n v v' : Nat) : Prop := ∃ i j : Nat, i < j ∧ j < n ∧ dm n v j + (j - i) ≤ 9 ∧ j - i ≤ dm n v i ∧ v' = nmF (chH (dm n v) i j) n
theorem ch_loc {n : Nat} {h h' : Nat → Nat} {i j : Nat} (hi : i < n) (hj : j < n) (e : ∀ k, k < n → h k = h' k) : ∀ k, k < n → chH h i j k = chH h' i j k := by
  intro k hk
  unfold chH updN
  rw [e i hi, e j hj, e k hk]
theorem fi_dm {n c : Nat} : ∀ k, k < n → dm n (nmF (dg c) n) k = dg c k := fun k hk => dm_nm hk (fun i _ => dg_le _ _)
theorem fi_inj {n c c' : Nat} (hc : c < 10 ^ n) (hc' : c' < 10 ^ n) (e : nmF (dg c) n = nmF (dg c') n) : c = c' := dg_ext hc hc' (fun k hk => by rw [← fi_dm (n := n) k hk, e, fi_dm k hk])
theorem RN_XM {n s : Nat} (hs : s < 10 ^ n) : ∀ k c, RN (nbX n) s k c → c < 10 ^ n ∧ RN (nbM n) (nmF (dg s) n) k (nmF (dg c) n)
  | 0, c, h => by have h' : c = s := h; subst h'; exact ⟨hs, rfl⟩
  | k + 1, c, ⟨a, ha, i, j, hij, hj, h1, h2, h3⟩ => by
    obtain ⟨ha1, ha2⟩ := RN_XM hs k a ha
    rw [ch_cd ha1 hij hj h2] at h3
    have h3' : c = cdX n (chH (dg a) i j) := by omega
    have hle : ∀ k, k < n → chH (dg a) i j k ≤ 9 := fun k _ => ch_le h1 (dg_le _ _) (dg_le _ _)
    subst h3'
    refine ⟨cdX_lt hle, _, ha2, i, j, hij, hj, by rw [fi_dm j hj]; exact h1, by rw [fi_dm i (by omega)]; exact h2, ?_⟩
    rw [nmF_congr (h := dg (cdX n (chH (dg a) i j))) (h' := chH (dg a) i j) (fun k hk => dg_cd hk hle)]
    exact nmF_congr (fun k hk => (ch_loc (by omega) hj fi_dm k hk).symm)
theorem RN_MX {n s : Nat} (hs : s < 10 ^ n) : ∀ k v, RN (nbM n) (nmF (dg s) n) k v → ∃ c, c < 10 ^ n ∧ v = nmF (dg c) n ∧ RN (nbX n) s k c
  | 0, v, h => ⟨s, hs, h, rfl⟩
  | k + 1, v, ⟨a, ha, i, j, hij, hj, h1, h2, h3⟩ => by
    obtain ⟨c, hc, rfl, hr⟩ := RN_MX hs k a ha
    rw [fi_dm j hj] at h1
    rw [fi_dm i (by omega)] at h2
    have hle : ∀ k, k < n → chH (dg c) i j k ≤ 9 := fun k _ => ch_le h1 (dg_le _ _) (dg_le _ _)
    refine ⟨cdX n (chH (dg c) i j), cdX_lt hle, ?_, c, hr, i, j, hij, hj, h1, h2, (ch_cd hc hij hj h2).symm⟩
    rw [h3, nmF_congr (h := dg (cdX n (chH (dg c) i j))) (h' := chH (dg c) i j) (fun k hk => dg_cd hk hle)]
    exact nmF_congr (ch_loc (by omega) hj fi_dm)
theorem RN_iff {n : Nat} {h h2 : Nat → Nat} (H : ∀ i, i < n → h i ≤ 9) (H2 : ∀ i, i < n → h2 i ≤ 9) (k : Nat) : RN (nbX n) (cdX n h) k (cdX n h2) ↔ RN (nbM n) (nmF h n) k (nmF h2 n) := by
  have e : ∀ {f : Nat → Nat}, (∀ i, i < n → f i ≤ 9) → nmF (dg (cdX n f)) n = nmF f n := fun F => nmF_congr (fun k hk => dg_cd hk F)
  rw [← e H, ← e H2]
  constructor
  · exact fun q => (RN_XM (cdX_lt H) k _ q).2
  · intro q
    obtain ⟨c, hc, h1, h2⟩ := RN_MX (cdX_lt H) k _ q
    rw [fi_inj (cdX_lt H2) hc h1]
    exact h2
theorem nbM_lt {n v v' : Nat} (h : nbM n v v') : v' < 10 ^ n := by
  obtain ⟨i, j, hij, hj, h1, h2, rfl⟩ := h
  exact nmF_lt (fun k _ => ch_le h1 (dg_le _ _) (dg_le _ _))
theorem RNM_lt {n s : Nat} (hs : s < 10 ^ n) : ∀ k v, RN (nbM n) s k v → v < 10 ^ n
  | 0, v, h => by have h' : v = s := h; subst h'; exact hs
  | k + 1, v, ⟨a, _, h⟩ => nbM_lt h
-- at most 120 arrangements
def swp (i j a : Nat) : Nat := if a = j then i else if a = i then j else a
def prm (n : Nat) (s c : Nat) (π : Nat → Nat) : Prop := (∀ x, x < n → π x < n) ∧ (∀ x y, x < n → y < n → π x = π y → x = y) ∧ ∀ x, x < n → x + dg c x = π x + dg s (π x)
theorem RN_prm {n s : Nat} (hs : s < 10 ^ n) : ∀ k c, RN (nbX n) s k c → ∃ π, prm n s c π
  | 0, c, h => by have h' : c = s := h; subst h'; exact ⟨fun x => x, fun x hx => hx, fun x y _ _ e => e, fun x _ => rfl⟩
  | k + 1, c, ⟨a, ha, i, j, hij, hj, h1, h2, h3⟩ => by
    obtain ⟨π, p1, p2, p3⟩ := RN_prm hs k a ha
    have ha1 := (RN_XM hs k a ha).1
    rw [ch_cd ha1 hij hj h2] at h3
    have h3' : c = cdX n (chH (dg a) i j) := by omega
    have hle : ∀ k, k < n → chH (dg a) i j k ≤ 9 := fun k _ => ch_le h1 (dg_le _ _) (dg_le _ _)
    subst h3'
    have hsw : ∀ x, x < n → swp i j x < n := fun x hx => by unfold swp; split <;> (try split) <;> omega
    refine ⟨fun x => π (swp i j x), fun x hx => p1 _ (hsw x hx), fun x y hx hy e => ?_, fun x hx => ?_⟩
    · have := p2 _ _ (hsw x hx) (hsw y hy) e
      revert this
      unfold swp
      repeat' split
      all_goals omega
    · rw [dg_cd hx hle]
      show _ = π (swp i j x) + dg s (π (swp i j x))
      rw [← p3 _ (hsw x hx)]
      unfold chH updN swp
      by_cases c1 : x = j
      · rw [if_pos c1, if_pos c1]; omega
      · rw [if_neg c1, if_neg c1]
        by_cases c2 : x = i
        · rw [if_pos c2, if_pos c2]; omega
        · rw [if_neg c2, if_neg c2]
abbrev NE5 (a b c d e : Nat) : Prop := (a ≠ b ∧ a ≠ c ∧ a ≠ d ∧ a ≠ e) ∧ (b ≠ c ∧ b ≠ d ∧ b ≠ e) ∧ (c ≠ d ∧ c ≠ e) ∧ d ≠ e
def P5 : List Nat := (List.range 3125).filter (fun c => decide (NE5 (c % 5) (c / 5 % 5) (c / 25 % 5) (c / 125 % 5) (c / 625 % 5)))
theorem P5_len : P5.length = 120 := by decide +kernel
def pc5 (n : Nat) (π : Nat → Nat) (x : Nat) : Nat := if x < n then π x else x
def cd5 (n : Nat) (π : Nat → Nat) : Nat := pc5 n π 0 + 5 * pc5 n π 1 + 25 * pc5 n π 2 + 125 * pc5 n π 3 + 625 * pc5 n π 4
theorem cd5_mem {n s c : Nat} {π : Nat → Nat} (hn : n ≤ 5) (h : prm n s c π) : ∃ t, t < 120 ∧ P5[t]? = some (cd5 n π) := by
  have hl : ∀ x, x < 5 → pc5 n π x < 5 := fun x hx => by
    unfold pc5
    split
    · have := h.1 x (by assumption); omega
    · exact hx
  have hi : ∀ x y, x < 5 → y < 5 → x ≠ y → pc5 n π x ≠ pc5 n π y := by
    intro x y hx hy hne e
    unfold pc5 at e
    by_cases c1 : x < n <;> by_cases c2 : y < n
    · rw [if_pos c1, if_pos c2] at e; exact hne (h.2.1 x y c1 c2 e)
    · rw [if_pos c1, if_neg c2] at e; have := h.1 x c1; omega
    · rw [if_neg c1, if_pos c2] at e; have := h.1 y c2; omega
    · rw [if_neg c1, if_neg c2] at e; exact hne e
  have hm : cd5 n π ∈ P5 := by
    unfold P5 cd5
    have l0 := hl 0 (by omega)
    have l1 := hl 1 (by omega)
    have l2 := hl 2 (by omega)
    have l3 := hl 3 (by omega)
    have l4 := hl 4 (by omega)
    have i01 := hi 0 1 (by omega) (by omega) (by omega)
    have i02 := hi 0 2 (by omega) (by omega) (by omega)
    have i03 := hi 0 3 (by omega) (by omega) (by omega)
    have i04 := hi 0 4 (by omega) (by omega) (by omega)
    have i12 := hi 1 2 (by omega) (by omega) (by omega)
    have i13 := hi 1 3 (by omega) (by omega) (by omega)
    have i14 := hi 1 4 (by omega) (by omega) (by omega)
    have i23 := hi 2 3 (by omega) (by omega) (by omega)
    have i24 := hi 2 4 (by omega) (by omega) (by omega)
    have i34 := hi 3 4 (by omega) (by omega) (by omega)
    generalize pc5 n π 0 = a0 at *
    generalize pc5 n π 1 = a1 at *
    generalize pc5 n π 2 = a2 at *
    generalize pc5 n π 3 = a3 at *
    generalize pc5 n π 4 = a4 at *
    refine List.mem_filter.mpr ⟨List.mem_range.mpr (by omega), ?_⟩
    rw [decide_eq_true_eq, show (a0 + 5 * a1 + 25 * a2 + 125 * a3 + 625 * a4) % 5 = a0 by omega, show (a0 + 5 * a1 + 25 * a2 + 125 * a3 + 625 * a4) / 5 % 5 = a1 by omega, show (a0 + 5 * a1 + 25 * a2 + 125 * a3 + 625 * a4) / 25 % 5 = a2 by omega, show (a0 + 5 * a1 + 25 * a2 + 125 * a3 + 625 * a4) / 125 % 5 = a3 by omega, show (a0 + 5 * a1 + 25 * a2 + 125 * a3 + 625 * a4) / 625 % 5 = a4 by omega]
    exact ⟨⟨i01, i02, i03, i04⟩, ⟨i12, i13, i14⟩, ⟨i23, i24⟩, i34⟩
  obtain ⟨t, ht⟩ := List.mem_iff_getElem?.mp hm
  exact ⟨t, by rw [← P5_len]; exact (List.getElem?_eq_some_iff.mp ht).1, ht⟩
theorem cd5_inj {n s c c' : Nat} {π π' : Nat → Nat} (hn : n ≤ 5) (hc : c < 10 ^ n) (hc' : c' < 10 ^ n) (h : prm n s c π) (h' : prm n s c' π') (e : cd5 n π = cd5 n π') : c = c' := by
  have hl : ∀ {c : Nat} {π : Nat → Nat}, prm n s c π → ∀ x, x < 5 → pc5 n π x < 5 := fun h x hx => by
    unfold pc5
    split
    · have := h.1 x (by assumption); omega
    · exact hx
  have key : ∀ x, x < 5 → pc5 n π x = pc5 n π' x := by
    have l0 := hl h 0 (by omega)
    have l1 := hl h 1 (by omega)
    have l2 := hl h 2 (by omega)
    have l3 := hl h 3 (by omega)
    have l4 := hl h 4 (by omega)
    have m0 := hl h' 0 (by omega)
    have m1 := hl h' 1 (by omega)
    have m2 := hl h' 2 (by omega)
    have m3 := hl h' 3 (by omega)
    have m4 := hl h' 4 (by omega)
    unfold cd5 at e
    intro x hx
    match x, hx with
    | 0, _ => omega
    | 1, _ => omega
    | 2, _ => omega
    | 3, _ => omega
    | 4, _ => omega
    | x + 5, hx => omega
  refine dg_ext hc hc' (fun k hk => ?_)
  have e1 := key k (by omega)
  unfold pc5 at e1
  rw [if_pos hk, if_pos hk] at e1
  have h1 := h.2.2 k hk
  have h2 := h'.2.2 k hk
  rw [e1] at h1
  omega
theorem cap_ok {n s : Nat} (hn : n ≤ 5) (hs : s < 10 ^ n) : capOK n s := by
  intro Q q hd hr
  have hex : ∀ i, ∃ t, i < q → t < 120 ∧ ∃ π, prm n s (Q i) π ∧ P5[t]? = some (cd5 n π) := by
    intro i
    by_cases hi : i < q
    · obtain ⟨k, hk⟩ := hr i hi
      obtain ⟨π, hπ⟩ := RN_prm hs k _ hk
      obtain ⟨t, t1, t2⟩ := cd5_mem hn hπ
      exact ⟨t, fun _ => ⟨t1, π, hπ, t2⟩⟩
    · exact ⟨0, fun h => absurd h hi⟩
  refine inj_le (s := fun i => Classical.choose (hex i)) (fun i hi => (Classical.choose_spec (hex i) hi).1) (fun i j hij hj e => ?_)
  obtain ⟨-, π, a1, a2⟩ := Classical.choose_spec (hex i) (by omega)
  obtain ⟨-, π', b1, b2⟩ := Classical.choose_spec (hex j) hj
  have e' : Classical.choose (hex i) = Classical.choose (hex j) := e
  rw [e', b2] at a2
  obtain ⟨k, hk⟩ := hr i (by omega)
  obtain ⟨k', hk'⟩ := hr j hj
  exact hd i j hij hj (cd5_inj hn (RN_XM hs _ _ hk).1 (RN_XM hs _ _ hk').1 a1 b1 (Option.some.inj a2).symm)
