/-! the class's search in breadth measures as far is measured -/
theorem or_sub9 : ∀ t : Fin 256, ∀ j : Fin 9, t.val.testBit j.val = false → (t.val ||| 2 ^ j.val) - 2 ^ j.val = t.val ∧ (t.val ||| 2 ^ j.val).testBit j.val = true := by decide +kernel
theorem sub_or9 : ∀ a : Fin 512, ∀ j : Fin 9, a.val.testBit j.val = true → (a.val - 2 ^ j.val) ||| 2 ^ j.val = a.val ∧ (a.val - 2 ^ j.val).testBit j.val = false := by decide +kernel
theorem bit8 : ∀ a : Fin 512, a.val.testBit 8 = false ↔ a.val < 256 := by decide +kernel
theorem two_or : ∀ a : Fin 256, a.val * 2 ^ 1 ||| 1 = 2 * a.val + 1 := by decide +kernel
theorem tb_odd {r x : Nat} : (2 * r + 1).testBit (x + 1) = r.testBit x := by
  rw [Nat.testBit_succ, show (2 * r + 1) / 2 = r by omega]
theorem nb_even {air : Nat} (h : air < 256) : nbR air (air * 2 ^ 1 ||| 0) := by
  rw [Nat.or_zero]
  refine ⟨by omega, Or.inl ⟨by omega, ?_⟩⟩
  unfold thr
  rw [if_pos rfl]; omega
theorem nb_odd {air b : Nat} (h : air < 512) (hb : b < 9) (ht : air.testBit b = true) (h8 : (air - 2 ^ b).testBit 8 = false) : nbR air ((air - 2 ^ b) * 2 ^ 1 ||| 1) := by
  have h1 := sub_or9 ⟨air, h⟩ ⟨b, hb⟩ ht
  have h2 := (bit8 ⟨air - 2 ^ b, Nat.lt_of_le_of_lt (Nat.sub_le _ _) h⟩).mp h8
  simp only at h1 h2
  generalize air - 2 ^ b = r at *
  have h3 : r * 2 ^ 1 ||| 1 = 2 * r + 1 := two_or ⟨r, h2⟩
  rw [h3]
  refine ⟨by omega, Or.inr ⟨by omega, b + 1, by omega, by omega, by rw [tb_odd]; exact h1.2, ?_⟩⟩
  unfold thr
  rw [if_neg (by omega), show (2 * r + 1) / 2 = r by omega, show b + 1 - 1 = b by omega, h1.1]
theorem nb_inv {air b : Nat} (h : nbR air b) : (b = air * 2 ^ 1 ||| 0 ∧ air < 256) ∨ ∃ c, c < 9 ∧ air.testBit c = true ∧ (air - 2 ^ c).testBit 8 = false ∧ b = (air - 2 ^ c) * 2 ^ 1 ||| 1 := by
  obtain ⟨hb, ⟨h1, h2⟩ | ⟨h1, x, h2, h3, h4, h5⟩⟩ := h
  · unfold thr at h2
    rw [if_pos rfl] at h2
    refine Or.inl ⟨?_, by omega⟩
    rw [Nat.or_zero]; omega
  · obtain ⟨r, hr⟩ : ∃ r, b = 2 * r + 1 := ⟨b / 2, by omega⟩
    obtain ⟨c, hc⟩ : ∃ c, x = c + 1 := ⟨x - 1, by omega⟩
    subst hr hc
    rw [tb_odd] at h4
    unfold thr at h5
    rw [if_neg (by omega), show (2 * r + 1) / 2 = r by omega, show c + 1 - 1 = c by omega] at h5
    have h6 := or_sub9 ⟨r, by omega⟩ ⟨c, by omega⟩ h4
    simp only at h6
    rw [← h5] at h6
    refine Or.inr ⟨c, by omega, h6.2, ?_, ?_⟩
    · rw [h6.1]; exact (bit8 ⟨r, by omega⟩).mpr (by simp only; omega)
    · rw [h6.1]; exact (two_or ⟨r, by omega⟩).symm
def PI (s : Nat) (σ : PS) (k : Nat) (D : Nat → Nat) : Prop := BF nbR s σ.2.1 D σ.2.2 k ∧ (∀ i, i < σ.2.2 → σ.2.1 i < 512 ∧ σ.1 (σ.2.1 i) = (D i : Int)) ∧ ∀ a, a < 512 → (∀ i, i < σ.2.2 → σ.2.1 i ≠ a) → σ.1 a = -1
def exP (σ : PS) (D : Nat → Nat) (σ' : PS) (D' : Nat → Nat) : Prop := σ.2.2 ≤ σ'.2.2 ∧ ∀ i, i < σ.2.2 → σ'.2.1 i = σ.2.1 i ∧ D' i = D i
theorem exP.rf {σ : PS} {D : Nat → Nat} : exP σ D σ D := ⟨Nat.le_refl _, fun _ _ => ⟨rfl, rfl⟩⟩
theorem exP.tr {σ σ1 σ2 : PS} {D D1 D2 : Nat → Nat} (h : exP σ D σ1 D1) (h2 : exP σ1 D1 σ2 D2) : exP σ D σ2 D2 := ⟨Nat.le_trans h.1 h2.1, fun i hi => by
  have a := h.2 i hi
  have b := h2.2 i (by have := h.1; omega)
  exact ⟨b.1.trans a.1, b.2.trans a.2⟩⟩
theorem PI_cap {s : Nat} {σ : PS} {k : Nat} {D : Nat → Nat} (h : PI s σ k D) : σ.2.2 ≤ 512 := inj_le (s := σ.2.1) (fun i hi => (h.2.1 i hi).1) h.1.2.1
theorem enq_PI {s : Nat} {σ : PS} {k a : Nat} {D : Nat → Nat} (h : PI s σ k D) (hk : k < σ.2.2) (ha : a < 512) (hn : nbR (σ.2.1 k) a) : ∃ D', PI s (enq σ a ((D k : Int) + 1)) k D' ∧ exP σ D (enq σ a ((D k : Int) + 1)) D' ∧ ∃ i, i < (enq σ a ((D k : Int) + 1)).2.2 ∧ (enq σ a ((D k : Int) + 1)).2.1 i = a := by
  by_cases hin : ∃ i, i < σ.2.2 ∧ σ.2.1 i = a
  · obtain ⟨i, hi, he⟩ := hin
    have h1 := (h.2.1 i hi).2
    rw [he] at h1
    have e : enq σ a ((D k : Int) + 1) = σ := if_neg (fun q => by have := q.1; omega)
    rw [e]
    exact ⟨D, h, exP.rf, i, hi, he⟩
  · have hout : ∀ i, i < σ.2.2 → σ.2.1 i ≠ a := fun i hi e => hin ⟨i, hi, e⟩
    have h1 := h.2.2 a ha hout
    have hB := BF_add h.1 hk hn hout
    have hcap : σ.2.2 + 1 ≤ 512 := inj_le (s := updN σ.2.1 σ.2.2 a) (fun i hi => by
      unfold updN
      split
      · exact ha
      · exact (h.2.1 i (by omega)).1) hB.2.1
    have e : enq σ a ((D k : Int) + 1) = (fun i => if i = a then ((D k : Int) + 1) else σ.1 i, fun i => if i = σ.2.2 then a else σ.2.1 i, σ.2.2 + 1) := if_pos ⟨h1, by omega⟩
    rw [e]
    refine ⟨updN D σ.2.2 (D k + 1), ⟨hB, fun i hi => ?_, fun b hb hq => ?_⟩, ⟨Nat.le_succ _, fun i hi => ⟨if_neg (by omega), if_neg (by omega)⟩⟩, σ.2.2, Nat.lt_succ_self _, if_pos rfl⟩
    · have hi' : i < σ.2.2 + 1 := hi
      by_cases ei : i = σ.2.2
      · subst ei
        refine ⟨by show (if σ.2.2 = σ.2.2 then a else _) < 512; rw [if_pos rfl]; exact ha, ?_⟩
        show (if (if σ.2.2 = σ.2.2 then a else σ.2.1 σ.2.2) = a then ((D k : Int) + 1) else _) = ((updN D σ.2.2 (D k + 1) σ.2.2 : Nat) : Int)
        rw [if_pos (if_pos rfl), show updN D σ.2.2 (D k + 1) σ.2.2 = D k + 1 from if_pos rfl]
        rfl
      · have h2 := h.2.1 i (by omega)
        refine ⟨by show (if i = σ.2.2 then a else σ.2.1 i) < 512; rw [if_neg ei]; exact h2.1, ?_⟩
        show (if (if i = σ.2.2 then a else σ.2.1 i) = a then ((D k : Int) + 1) else σ.1 (if i = σ.2.2 then a else σ.2.1 i)) = ((updN D σ.2.2 (D k + 1) i : Nat) : Int)
        rw [if_neg ei, if_neg (hout i (by omega)), show updN D σ.2.2 (D k + 1) i = D i from if_neg ei]
        exact h2.2
    · have hne : b ≠ a := by
        have h3 := hq σ.2.2 (Nat.lt_succ_self _)
        have h4 : (if σ.2.2 = σ.2.2 then a else σ.2.1 σ.2.2) ≠ b := h3
        rw [if_pos rfl] at h4
        exact fun e => h4 e.symm
      show (if b = a then _ else σ.1 b) = -1
      rw [if_neg hne]
      refine h.2.2 b hb (fun i hi => ?_)
      have h3 := hq i (Nat.lt_succ_of_lt hi)
      have h4 : (if i = σ.2.2 then a else σ.2.1 i) ≠ b := h3
      rw [if_neg (by omega)] at h4
      exact h4
theorem enB_PI {s k air : Nat} {dk : Nat} (ha : air < 512) : ∀ {b : Nat} {σ : PS} {D : Nat → Nat}, b ≤ 9 → PI s σ k D → k < σ.2.2 → σ.2.1 k = air → D k = dk → ∃ D', PI s (enB air ((dk : Int) + 1) b σ) k D' ∧ exP σ D (enB air ((dk : Int) + 1) b σ) D' ∧ ∀ c, c < b → air.testBit c = true → (air - 2 ^ c).testBit 8 = false → ∃ i, i < (enB air ((dk : Int) + 1) b σ).2.2 ∧ (enB air ((dk : Int) + 1) b σ).2.1 i = (air - 2 ^ c) * 2 ^ 1 ||| 1
  | 0, σ, D, _, h, _, _, _ => ⟨D, h, exP.rf, fun c hc => by omega⟩
  | b + 1, σ, D, hb, h, hk, hq, hd => by
    simp only [enB]
    have step : ∃ D1, PI s (if air.testBit b then enS σ (air - 2 ^ b) 1 ((dk : Int) + 1) else σ) k D1 ∧ exP σ D (if air.testBit b then enS σ (air - 2 ^ b) 1 ((dk : Int) + 1) else σ) D1 ∧ (air.testBit b = true → (air - 2 ^ b).testBit 8 = false → ∃ i, i < (if air.testBit b then enS σ (air - 2 ^ b) 1 ((dk : Int) + 1) else σ).2.2 ∧ (if air.testBit b then enS σ (air - 2 ^ b) 1 ((dk : Int) + 1) else σ).2.1 i = (air - 2 ^ b) * 2 ^ 1 ||| 1) := by
      by_cases c1 : air.testBit b = true
      · rw [if_pos c1]
        unfold enS
        by_cases c2 : (air - 2 ^ b).testBit 8 = true
        · rw [if_pos c2]
          exact ⟨D, h, exP.rf, fun _ q => by rw [c2] at q; cases q⟩
        · rw [if_neg c2]
          have c3 : (air - 2 ^ b).testBit 8 = false := by simpa using c2
          have hn := nb_odd ha (by omega) c1 c3
          obtain ⟨D1, r1, r2, r3⟩ := enq_PI h hk hn.1 (by rw [hq]; exact hn)
          rw [hd] at r1 r2 r3
          exact ⟨D1, r1, r2, fun _ _ => r3⟩
      · rw [if_neg c1]
        exact ⟨D, h, exP.rf, fun q => absurd q c1⟩
    obtain ⟨D1, r1, r2, r3⟩ := step
    generalize (if air.testBit b then enS σ (air - 2 ^ b) 1 ((dk : Int) + 1) else σ) = σ1 at *
    have e1 := r2.2 k hk
    obtain ⟨D', t1, t2, t3⟩ := enB_PI (b := b) ha (by omega) r1 (Nat.lt_of_lt_of_le hk r2.1) (e1.1.trans hq) (e1.2.trans hd)
    refine ⟨D', t1, r2.tr t2, fun c hc c1 c2 => ?_⟩
    by_cases ec : c = b
    · subst ec
      obtain ⟨i, hi, hqi⟩ := r3 c1 c2
      exact ⟨i, Nat.lt_of_lt_of_le hi t2.1, (t2.2 i hi).1.trans hqi⟩
    · exact t3 c (by omega) c1 c2
theorem enA_PI {s : Nat} {σ : PS} {k : Nat} {D : Nat → Nat} (h : PI s σ k D) (hk : k < σ.2.2) : ∃ D', PI s (enA σ (σ.2.1 k)) (k + 1) D' := by
  have ha := h.2.1 k hk
  unfold enA
  rw [ha.2]
  obtain ⟨air, hair⟩ : ∃ air, air = σ.2.1 k := ⟨_, rfl⟩
  rw [← hair] at ha ⊢
  have step : ∃ D1, PI s (enS σ air 0 ((D k : Int) + 1)) k D1 ∧ exP σ D (enS σ air 0 ((D k : Int) + 1)) D1 ∧ (air < 256 → ∃ i, i < (enS σ air 0 ((D k : Int) + 1)).2.2 ∧ (enS σ air 0 ((D k : Int) + 1)).2.1 i = air * 2 ^ 1 ||| 0) := by
    unfold enS
    by_cases c : air.testBit 8 = true
    · rw [if_pos c]
      refine ⟨D, h, exP.rf, fun q => ?_⟩
      have := (bit8 ⟨air, ha.1⟩).mpr q
      simp only at this
      rw [c] at this; cases this
    · rw [if_neg c]
      have c3 : air.testBit 8 = false := by simpa using c
      have hlt := (bit8 ⟨air, ha.1⟩).mp c3
      have hn := nb_even hlt
      obtain ⟨D1, r1, r2, r3⟩ := enq_PI h hk hn.1 (by rw [← hair]; exact hn)
      exact ⟨D1, r1, r2, fun _ => r3⟩
  obtain ⟨D1, r1, r2, r3⟩ := step
  generalize enS σ air 0 ((D k : Int) + 1) = σ1 at *
  have e1 := r2.2 k hk
  obtain ⟨D', t1, t2, t3⟩ := enB_PI (b := 9) (dk := D k) ha.1 (by omega) r1 (Nat.lt_of_lt_of_le hk r2.1) (e1.1.trans hair.symm) e1.2
  have e2 := (r2.tr t2).2 k hk
  refine ⟨D', BF_next t1.1 (Nat.lt_of_lt_of_le hk (r2.tr t2).1) (fun b hb => ?_), t1.2⟩
  rw [e2.1, ← hair] at hb
  rcases nb_inv hb with ⟨b1, b2⟩ | ⟨c, c1, c2, c3, c4⟩
  · obtain ⟨i, hi, hqi⟩ := r3 b2
    exact ⟨i, Nat.lt_of_lt_of_le hi t2.1, by rw [(t2.2 i hi).1, hqi, b1]⟩
  · obtain ⟨i, hi, hqi⟩ := t3 c c1 c2 c3
    exact ⟨i, hi, by rw [hqi, c4]⟩
theorem meF_PI {s fr : Nat} : ∀ {f k : Nat} {σ : PS} {D : Nat → Nat}, k + f = 512 → PI s σ k D → ∃ k' D', PI s (meF fr f k σ) k' D' ∧ (k' = (meF fr f k σ).2.2 ∨ (meF fr f k σ).1 fr ≠ -1)
  | 0, k, σ, D, hk, h => by
    refine ⟨k, D, h, Or.inl ?_⟩
    have h1 := PI_cap h
    have h2 := h.1.1.2.1
    show k = σ.2.2
    omega
  | f + 1, k, σ, D, hk, h => by
    simp only [meF]
    by_cases c : k < σ.2.2 ∧ σ.1 fr = -1
    · rw [if_pos c]
      obtain ⟨D', r⟩ := enA_PI h c.1
      exact meF_PI (by omega) r
    · rw [if_neg c]
      refine ⟨k, D, h, ?_⟩
      have h2 := h.1.1.2.1
      by_cases c1 : σ.1 fr = -1
      · exact Or.inl (by have : ¬ k < σ.2.2 := fun q => c ⟨q, c1⟩; omega)
      · exact Or.inr c1
theorem me0_PI {a0 : Nat → Int32} {tt : Nat} (ht : tt < 512) : PI tt (me0 a0 tt) 0 (fun _ => 0) := by
  have e : me0 a0 tt = (fun i => if i = tt then 0 else (if i < 512 then -1 else (a0 i).toInt), fun i => if i = 0 then tt else 0, 1) := if_pos ⟨if_pos ht, show (0 : Nat) < 512 by decide⟩
  rw [e]
  refine ⟨BF_0 rfl rfl, fun i hi => ?_, fun a ha hq => ?_⟩
  · have hi' : i < 1 := hi
    have : i = 0 := by omega
    subst this
    exact ⟨ht, if_pos rfl⟩
  · have h1 : tt ≠ a := hq 0 Nat.one_pos
    show (if a = tt then (0 : Int) else (if a < 512 then -1 else (a0 a).toInt)) = -1
    rw [if_neg (fun q => h1 q.symm), if_pos ha]
theorem ftS_congr {aw aw' : Nat → Int} {air : Nat} (h : ∀ x, 1 ≤ x → x ≤ 9 → (fcd aw air x ↔ fcd aw' air x)) : ∀ {m : Nat}, m ≤ 9 → ftS aw air m = ftS aw' air m
  | 0, _ => rfl
  | m + 1, hm => by
    have h1 := h (9 - m) (by omega) (by omega)
    unfold fcd at h1
    simp only [ftS]
    rw [ftS_congr h (by omega : m ≤ 9)]
    by_cases c : air.testBit (9 - m) = false ∧ aw (thr air (9 - m)) = aw air - 1
    · rw [if_pos c, if_pos (h1.mp c)]
    · rw [if_neg c, if_neg (fun q => c (h1.mpr q))]
theorem pass_ok {s fr : Nat} {σ : PS} {k : Nat} {D : Nat → Nat} (hs : s < 512) (hf : fr < 512) (h : PI s σ k D) (hk : k = σ.2.2 ∨ σ.1 fr ≠ -1) : okP σ 600 ∧ ∀ i : Int, -1 ≤ i → anF σ.1 fr i = wyF s fr i := by
  have hcap := PI_cap h
  have hidx : ∀ i, i < σ.2.2 → D i ≤ i := fun i hi => BF_idx h.1 (D i) i hi rfl
  have hval : ∀ a, a < 512 → σ.1 a = -1 ∨ ∃ i, i < σ.2.2 ∧ σ.2.1 i = a ∧ σ.1 a = (D i : Int) ∧ dsF s a = (D i : Int) := by
    intro a ha
    by_cases hin : ∃ i, i < σ.2.2 ∧ σ.2.1 i = a
    · obtain ⟨i, hi, he⟩ := hin
      refine Or.inr ⟨i, hi, he, by rw [← he]; exact (h.2.1 i hi).2, ?_⟩
      rw [← he]
      exact dsN_T (h.1.2.2.1 i hi)
    · exact Or.inl (h.2.2 a ha (fun i hi e => hin ⟨i, hi, e⟩))
  refine ⟨⟨fun a ha => ?_, hcap, fun i hi => (h.2.1 i hi).1⟩, fun i hi => ?_⟩
  · rcases hval a ha with q | ⟨i, hi, -, q, -⟩
    · omega
    · have := hidx i hi; omega
  rcases hval fr hf with q | ⟨i0, hi0, he0, q1, q2⟩
  · -- nowhere
    have hkq : k = σ.2.2 := hk.resolve_right (fun z => z q)
    have hB := h.1
    rw [hkq] at hB
    have hd : dsF s fr = -4 := dsN_F (fun ⟨j, hj⟩ => by
      obtain ⟨i, hi, he⟩ := BF_end hB hj.1
      have := (h.2.1 i hi).2
      rw [he] at this
      omega)
    have e1 : anF σ.1 fr i = -4 := if_pos q
    have e2 : wyF s fr i = -4 := if_pos hd
    rw [e1, e2]
  · obtain ⟨L, hL⟩ : ∃ L, L = D i0 := ⟨_, rfl⟩
    rw [← hL] at q1 q2
    -- what is nearer is measured
    have near : ∀ a j : Nat, a < 512 → dsF s a = (j : Int) → j < L → σ.1 a = (j : Int) := by
      intro a j ha hj hjl
      have hR := (dsN_k hj).1
      obtain ⟨i, hi, he⟩ := BF_level h.1 j a (fun hkn => by have := h.1.2.2.2.2.1 i0 hi0 hkn; omega) hR
      rcases hval a ha with z | ⟨i', hi', -, z1, z2⟩
      · have := (h.2.1 i hi).2
        rw [he] at this; omega
      · rw [hj] at z2; omega
    have back : ∀ a j : Nat, a < 512 → σ.1 a = (j : Int) → dsF s a = (j : Int) := by
      intro a j ha hj
      rcases hval a ha with z | ⟨i', hi', -, z1, z2⟩
      · omega
      · rw [z2, ← z1, hj]
    have ft : ∀ a j : Nat, a < 512 → σ.1 a = ((j + 1 : Nat) : Int) → j < L → ftA σ.1 a = ftA (dsF s) a := by
      intro a j ha hj hjl
      have hd := back a (j + 1) ha hj
      unfold ftA
      rw [ftS_congr (aw := σ.1) (aw' := dsF s) (fun x x1 x2 => ?_) (by omega : 9 ≤ 9)]
      unfold fcd
      rw [hj, hd]
      have hlt := thr_lt ha x2
      constructor
      · rintro ⟨z1, z2⟩
        refine ⟨z1, ?_⟩
        rw [back (thr a x) j hlt (by omega)]; omega
      · rintro ⟨z1, z2⟩
        refine ⟨z1, ?_⟩
        rw [near (thr a x) j hlt (by omega) hjl]; omega
    have way : ∀ y, y ≤ L → anW σ.1 fr y = anW (dsF s) fr y ∧ σ.1 (anW (dsF s) fr y) = ((L - y : Nat) : Int) := by
      intro y
      induction y with
      | zero => intro _; exact ⟨rfl, q1⟩
      | succ y ih =>
        intro hy
        obtain ⟨a1, a2⟩ := ih (by omega)
        have hlt := anW_lt (aw := dsF s) hf y
        have hft := ft (anW (dsF s) fr y) (L - y - 1) hlt (by rw [a2]; congr 1; omega) (by omega)
        have hds := an_ds q2 (y + 1) hy
        refine ⟨?_, ?_⟩
        · simp only [anW]; rw [a1, hft]
        · exact near _ _ (anW_lt hf (y + 1)) hds (by omega)
    have hd4 : ¬ dsF s fr = -4 := by omega
    have h1 : ¬ σ.1 fr = -1 := by omega
    have e1 : anF σ.1 fr i = if i < 0 then σ.1 fr else if σ.1 fr ≤ i then -4 else ((ftA σ.1 (anW σ.1 fr i.toNat) : Nat) : Int) := if_neg h1
    have e2 : wyF s fr i = @ite Int (i < 0) (Classical.propDecidable _) (dsF s fr) (@ite Int (dsF s fr ≤ i) (Classical.propDecidable _) (-4) ((ftA (dsF s) (anW (dsF s) fr i.toNat) : Nat) : Int)) := if_neg hd4
    rw [e1, e2]
    by_cases c1 : i < 0
    · rw [if_pos c1, if_pos c1, q1, q2]
    · rw [if_neg c1, if_neg c1]
      by_cases c2 : σ.1 fr ≤ i
      · rw [if_pos c2, if_pos (by omega)]
      · rw [if_neg c2, if_neg (by omega)]
        obtain ⟨y, hy⟩ : ∃ y : Nat, i = (y : Int) := ⟨i.toNat, by omega⟩
        subst hy
        simp only [Int.toNat_natCast]
        obtain ⟨a1, a2⟩ := way y (by omega)
        rw [a1, ft _ (L - y - 1) (anW_lt hf y) (by rw [a2]; congr 1; omega) (by omega)]
theorem pass_me {fr tt : Nat} {a0 : Nat → Int32} (hf : fr < 512) (ht : tt < 512) : okP (meF fr 512 0 (me0 a0 tt)) 600 ∧ ∀ i : Int, -1 ≤ i → anF (meF fr 512 0 (me0 a0 tt)).1 fr i = wyF tt fr i := by
  obtain ⟨k', D', h1, h2⟩ := meF_PI (fr := fr) (f := 512) (k := 0) (by omega) (me0_PI (a0 := a0) ht)
  exact pass_ok ht hf h1 h2
