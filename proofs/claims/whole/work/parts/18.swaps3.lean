/-! Swaps: forgetSeen, fewest -/
section SY
variable {d : Nat} {A : AH}
theorem r_X4_forgetSeen {Q D : Nat → Nat} {n : Nat} (hS : SwA A Q D n) (hn : n ≤ 120) (hq : ∀ i, i < n → Q i < 100000) : ∃ A' : AH, Rt mX4_forgetSeen d [.ref 39] A none A' ∧ offE A A' 39 42 ∧ Sw0 A' := by
  obtain ⟨qf, df, g, h1, h2, h3, h4, h5, h6, h7⟩ := hS
  have loop : ∀ (m k : Nat) (g1 : Nat → Int64), k + m = n → (∀ w, w < 1563 → g1 w = 0 ∨ (g1 w = g w ∧ ∀ j, j < k → Q j / 64 ≠ w)) → ∃ g2 : Nat → Int64, Gr mX4_forgetSeen d 2 [some (.ref 39), some (.int (iI (k : Int)))] [] (va_up A 42 (La 1563 g1)) none (va_up A 42 (La 1563 g2)) ∧ ∀ w, w < 1563 → g2 w = 0 := by
    intro m
    induction m with
    | zero =>
      intro k g1 hk hg
      have hkn : k = n := by omega
      subst hkn
      refine ⟨g1, ?_, fun w hw => ?_⟩
      · refine gr_run (pc' := 4) 2 rfl ?_
        refine gr_getf rfl rfl (by repeat (first | exact up_s | assumption | refine up_n (by first | assumption | decide | omega) ?_)) (by first | assumption | rfl) rfl ?_
        refine gr_icT (t := 31) rfl (by decide) (by omega) (by omega) (cI_ge (by omega)) ?_
        exact gr_ret rfl rfl
      · rcases hg w hw with z | ⟨z, hz⟩
        · exact z
        · rw [z, ← Int64.toBitVec_inj]
          apply BitVec.eq_of_getLsbD_eq
          intro i hi
          have h8 := h7 w hw i hi
          cases hb : (g w).toBitVec.getLsbD i with
          | false => exact (BitVec.getLsbD_zero).symm
          | true =>
            obtain ⟨j, hj, hqj⟩ := h8.mp hb
            exact absurd (by omega) (hz j hj)
    | succ m ih =>
      intro k g1 hk hg
      have hqk := hq k (by omega)
      obtain ⟨g2, e1, e2⟩ := ih (k + 1) (vp_updL g1 (Q k / 2 ^ 6) 0) (by omega) (fun w hw => by
        unfold vp_updL
        by_cases e : w = Q k / 2 ^ 6
        · exact Or.inl (if_pos e)
        · rw [if_neg e]
          rcases hg w hw with z | ⟨z, hz⟩
          · exact Or.inl z
          · refine Or.inr ⟨z, fun j hj => ?_⟩
            by_cases ej : j = k
            · subst ej; omega
            · exact hz j (by omega))
      refine ⟨g2, ?_, e2⟩
      refine gr_run (pc' := 4) 2 rfl ?_
      refine gr_getf rfl rfl (by repeat (first | exact up_s | assumption | refine up_n (by first | assumption | decide | omega) ?_)) (by first | assumption | rfl) rfl ?_
      refine gr_icF (t := 31) rfl (by decide) (by omega) (by omega) (cN_ge (by omega)) ?_
      refine gr_run (pc' := 11) 1 rfl ?_
      refine gr_getf rfl rfl (by repeat (first | exact up_s | assumption | refine up_n (by first | assumption | decide | omega) ?_)) (by first | assumption | rfl) rfl ?_
      refine gr_run (pc' := 15) 1 rfl ?_
      refine gr_getf rfl rfl (by repeat (first | exact up_s | assumption | refine up_n (by first | assumption | decide | omega) ?_)) (by first | assumption | rfl) rfl ?_
      refine gr_run (pc' := 19) 1 rfl ?_
      refine gr_iald rfl (by repeat (first | exact up_s | assumption | refine up_n (by first | assumption | decide | omega) ?_)) (by first | assumption | rfl) (ix_i rfl (by omega) (by decide)) ?_
      rw [h5 k (by omega)]
      refine gr_run (pc' := 22) 1 rfl ?_
      refine gr_ishrN (k0 := 6) rfl (by omega) (by omega) ?_
      refine gr_run (pc' := 24) 1 rfl ?_
      refine gr_last rfl (by repeat (first | exact up_s | assumption | refine up_n (by first | assumption | decide | omega) ?_)) (by first | assumption | rfl) (ix_i rfl (by omega) (by decide)) ?_
      rw [bx_uu, show lI (((0 : Fin 2).val : Nat) : Int) = 0 from rfl]
      refine gr_iinc rfl rfl rfl rfl ?_
      refine gr_run (pc' := 2) 1 rfl ?_
      exact e1
  obtain ⟨g2, e1, e2⟩ := loop n 0 g (by omega) (fun w _ => Or.inr ⟨rfl, fun j hj => by omega⟩)
  refine ⟨va_up A 42 (La 1563 g2), ?_, offE.rf.up (by omega), iI n, qf, df, g2, up_n (by decide) h1, up_n (by decide) h2, up_n (by decide) h3, up_s, e2⟩
  refine rt_intro kX4_forgetSeen rfl rfl trivial ?_
  refine gr_run (pc' := 2) 2 rfl ?_
  exact gr_h (up_same h4).symm e1
theorem Sw0.clear {A : AH} (h : Sw0 A) (Q D : Nat → Nat) : SwA (va_up A 39 (Ob 4 [.ref 40, .ref 41, .ref 42, .int (iI 0)])) Q D 0 := by
  obtain ⟨x, qf, df, g, h1, h2, h3, h4, h5⟩ := h
  refine ⟨qf, df, g, up_s, up_n (by decide) h2, up_n (by decide) h3, up_n (by decide) h4, fun i hi => by omega, fun i hi => by omega, fun k hk i hi => ?_⟩
  rw [h5 k hk]
  constructor
  · intro q; simp at q
  · rintro ⟨j, hj, _⟩; omega
theorem BF_idx {nb : Nat → Nat → Prop} {s : Nat} {Q D : Nat → Nat} {n k : Nat} (h : BF nb s Q D n k) : ∀ l i, i < n → D i = l → l ≤ i
  | 0, _, _, _ => Nat.zero_le _
  | l + 1, i, hi, hd => by
    have h1 := h.2.2.1 i hi
    rw [hd] at h1
    obtain ⟨a, ha, hab⟩ := h1.1
    have hda : isD nb s l a := ⟨ha, fun j hj hr => h1.2 (j + 1) (by omega) ⟨a, hr, hab⟩⟩
    obtain ⟨i', hi', hq⟩ := BF_level h l a (fun hk => by have := h.2.2.2.2.1 i hi hk; omega) ha
    have hd' : D i' = l := by
      have h2 := h.2.2.1 i' hi'
      rw [hq] at h2
      exact isD_inj h2 hda
    have h3 := BF_idx h l i' hi' hd'
    apply Classical.byContradiction
    intro hc
    have h4 := h.2.2.2.1 i i' (by omega) hi'
    omega
/-- how far, or none: -4 -/
def dOf (nb : Nat → Nat → Prop) (s t : Nat) (r : Int) : Prop := (∃ k : Nat, isD nb s k t ∧ r = k) ∨ ((∀ k, ¬ RN nb s k t) ∧ r = -4)
theorem dOf_inj {nb nb' : Nat → Nat → Prop} {s s' t t' : Nat} {r r' : Int} (h : dOf nb s t r) (h' : dOf nb' s' t' r') (he : ∀ k, RN nb s k t ↔ RN nb' s' k t') : r = r' := by
  rcases h with ⟨k, h1, h2⟩ | ⟨h1, h2⟩ <;> rcases h' with ⟨k', h1', h2'⟩ | ⟨h1', h2'⟩
  · have : isD nb s k' t := ⟨(he k').mpr h1'.1, fun j hj hr => h1'.2 j hj ((he j).mp hr)⟩
    rw [h2, h2', isD_inj h1 this]
  · exact absurd ((he k).mp h1.1) (h1' k)
  · exact absurd ((he k').mpr h1'.1) (h1 k')
  · rw [h2, h2']
theorem r_X4_fewest {a b n a2 b2 : Nat} {h h2 : Nat → Nat} {f f2 : Nat → Int32} (hS : Sw0 A) (hn5 : n ≤ 5) (hcap : capOK n (cdX n h))
    (ha : A a = Ob 2 [.ref b, .int (iI n)]) (hb : A b = Ia 10 f) (pa : Nat.blt a NC = true) (pb : Nat.blt b NC = true) (hh : okH n h) (hf : ∀ i, i < n → f i = iI (h i))
    (ha2 : A a2 = Ob 2 [.ref b2, .int (iI n)]) (hb2 : A b2 = Ia 10 f2) (pa2 : Nat.blt a2 NC = true) (pb2 : Nat.blt b2 NC = true) (hh2 : okH n h2) (hf2 : ∀ i, i < n → f2 i = iI (h2 i)) (al : a < 39) (bl : b < 39) (al2 : a2 < 39) (bl2 : b2 < 39) :
    ∃ (A' : AH) (r : Int), Rt mX4_fewest (d + 3) [.ref 39, .ref a, .ref a2] A (some (.int (iI r))) A' ∧ offE A A' 39 42 ∧ Sw0 A' ∧ dOf (nbX n) (cdX n h) (cdX n h2) r := by
  have hs : cdX n h < 100000 := Nat.lt_of_lt_of_le (cdX_lt hh.2) (Nat.pow_le_pow_right (n := 10) (by decide) hn5)
  have ht : cdX n h2 < 100000 := Nat.lt_of_lt_of_le (cdX_lt hh2.2) (Nat.pow_le_pow_right (n := 10) (by decide) hn5)
  generalize hss : cdX n h = s at *
  generalize htt : cdX n h2 = t at *
  have fin : ∀ (A1 : AH) (Q D : Nat → Nat) (q k : Nat) (r : Int) (x5 : Int32), offE A A1 39 42 → SwA A1 Q D q → BF (nbX n) s Q D q k → dOf (nbX n) s t r → bd r → ∃ (A' : AH), Gr mX4_fewest (d + 3) 102 [some (.ref 39), some (.ref a), some (.ref a2), some (.int (iI t)), some (.int (iI r)), some (.int x5)] [] A1 (some (.int (iI r))) A' ∧ offE A A' 39 42 ∧ Sw0 A' := by
    intro A1 Q D q k r x5 ho hS1 hB hr hbr
    have hq : q ≤ 120 := hcap Q q hB.2.1 (fun i hi => ⟨_, (hB.2.2.1 i hi).1⟩)
    obtain ⟨A2, r1, r2, r3⟩ := r_X4_forgetSeen (d := d + 2) hS1 hq (fun i hi => RN_lt hn5 hs _ _ (hB.2.2.1 i hi).1)
    refine ⟨A2, ?_, ho.tr r2, r3⟩
    obtain ⟨qf, df, g, e1, e2, e3, e4, -⟩ := hS1
    refine gr_run (pc' := 103) 1 rfl ?_
    refine gr_callV (As := []) lk_4_44 rfl rfl (r1) (by repeat (first | exact up_s | assumption | refine up_n (by first | assumption | decide | omega) ?_)) (by first | assumption | exact Nat.le_of_ble_eq_true rfl | exact Nat.le_of_ble_eq_true (by assumption)) rfl rfl rfl rfl rfl ?_
    refine gr_run (pc' := 108) 1 rfl ?_
    exact gr_ret rfl rfl
  have loop : ∀ (m k : Nat) (A1 : AH) (Q D : Nat → Nat) (q : Nat), k + m = 120 → offE A A1 39 42 → SwA A1 Q D q → BF (nbX n) s Q D q k → (∀ i, i < k → Q i ≠ t) → ∃ (A' : AH) (r : Int), Gr mX4_fewest (d + 3) 26 [some (.ref 39), some (.ref a), some (.ref a2), some (.int (iI t)), some (.int (iI (-4))), some (.int (iI (k : Int)))] [] A1 (some (.int (iI r))) A' ∧ offE A A' 39 42 ∧ Sw0 A' ∧ dOf (nbX n) s t r := by
    intro m
    induction m with
    | zero =>
      intro k A1 Q D q hk ho hS1 hB hno
      have hq : q ≤ 120 := hcap Q q hB.2.1 (fun i hi => ⟨_, (hB.2.2.1 i hi).1⟩)
      have hkq : k = q := by have := hB.1.2.1; omega
      have hr : dOf (nbX n) s t (-4) := Or.inr ⟨fun j hj => by
        rw [hkq] at hB
        obtain ⟨i, hi, hqi⟩ := BF_end hB hj
        exact hno i (by omega) hqi, rfl⟩
      obtain ⟨A', g1, g2, g3⟩ := fin A1 Q D q k (-4) (iI (k : Int)) ho hS1 hB hr (by omega)
      refine ⟨A', -4, ?_, g2, g3, hr⟩
      obtain ⟨qf, df, g, e1, e2, e3, e4, -⟩ := hS1
      refine gr_run (pc' := 29) 2 rfl ?_
      refine gr_getf rfl rfl (by repeat (first | exact up_s | assumption | refine up_n (by first | assumption | decide | omega) ?_)) (by first | assumption | rfl) rfl ?_
      refine gr_icT (t := 102) rfl (by decide) (by omega) (by omega) (cI_ge (by omega)) ?_
      exact g1
    | succ m ih =>
      intro k A1 Q D q hk ho hS1 hB hno
      have hq : q ≤ 120 := hcap Q q hB.2.1 (fun i hi => ⟨_, (hB.2.2.1 i hi).1⟩)
      by_cases hkq : k < q
      · have hqk : Q k < 100000 := RN_lt hn5 hs _ _ (hB.2.2.1 k hkq).1
        obtain ⟨qf, df, g, e1, e2, e3, e4, e5, e6, e7⟩ := id hS1
        by_cases hgoal : Q k = t
        · have hd1 := BF_idx hB (D k) k hkq rfl
          have hr : dOf (nbX n) s t (D k : Int) := Or.inl ⟨D k, by rw [← hgoal]; exact hB.2.2.1 k hkq, rfl⟩
          obtain ⟨A', g1, g2, g3⟩ := fin A1 Q D q k (D k : Int) (iI ((k : Int) + 1)) ho hS1 hB hr (by omega)
          refine ⟨A', (D k : Int), ?_, g2, g3, hr⟩
          refine gr_run (pc' := 29) 2 rfl ?_
          refine gr_getf rfl rfl (by repeat (first | exact up_s | assumption | refine up_n (by first | assumption | decide | omega) ?_)) (by first | assumption | rfl) rfl ?_
          refine gr_icF (t := 102) rfl (by decide) (by omega) (by omega) (cN_ge (by omega)) ?_
          refine gr_run (pc' := 39) 2 rfl ?_
          refine gr_icF (t := 102) rfl (by decide) (by omega) (by omega) (cN_ge (by omega)) ?_
          refine gr_run (pc' := 46) 2 rfl ?_
          refine gr_icF (t := 102) rfl (by decide) (by omega) (by omega) (cN_ne (by omega)) ?_
          refine gr_run (pc' := 50) 1 rfl ?_
          refine gr_getf rfl rfl (by repeat (first | exact up_s | assumption | refine up_n (by first | assumption | decide | omega) ?_)) (by first | assumption | rfl) rfl ?_
          refine gr_run (pc' := 55) 1 rfl ?_
          refine gr_iald rfl (by repeat (first | exact up_s | assumption | refine up_n (by first | assumption | decide | omega) ?_)) (by first | assumption | rfl) (ix_i rfl (by omega) (by decide)) ?_
          rw [e5 k hkq]
          refine gr_run (pc' := 57) 1 rfl ?_
          refine gr_icF (t := 72) rfl (by decide) (by omega) (by omega) (cN_ne (by omega)) ?_
          refine gr_run (pc' := 61) 1 rfl ?_
          refine gr_getf rfl rfl (by repeat (first | exact up_s | assumption | refine up_n (by first | assumption | decide | omega) ?_)) (by first | assumption | rfl) rfl ?_
          refine gr_run (pc' := 66) 1 rfl ?_
          refine gr_iald rfl (by repeat (first | exact up_s | assumption | refine up_n (by first | assumption | decide | omega) ?_)) (by first | assumption | rfl) (ix_i rfl (by omega) (by decide)) ?_
          rw [e6 k hkq]
          refine gr_run (pc' := 96) 2 rfl ?_
          refine gr_iinc rfl rfl rfl rfl ?_
          refine gr_run (pc' := 26) 1 rfl ?_
          by_cases hk2 : k + 1 < q
          · by_cases hk3 : k + 1 < 120
            · refine gr_run (pc' := 29) 2 rfl ?_
              refine gr_getf rfl rfl (by repeat (first | exact up_s | assumption | refine up_n (by first | assumption | decide | omega) ?_)) (by first | assumption | rfl) rfl ?_
              refine gr_icF (t := 102) rfl (by decide) (by omega) (by omega) (cN_ge (by omega)) ?_
              refine gr_run (pc' := 39) 2 rfl ?_
              refine gr_icF (t := 102) rfl (by decide) (by omega) (by omega) (cN_ge (by omega)) ?_
              refine gr_run (pc' := 46) 2 rfl ?_
              refine gr_icT (t := 102) rfl (by decide) (by omega) (by omega) (cI_ne (by omega)) ?_
              exact g1
            · refine gr_run (pc' := 29) 2 rfl ?_
              refine gr_getf rfl rfl (by repeat (first | exact up_s | assumption | refine up_n (by first | assumption | decide | omega) ?_)) (by first | assumption | rfl) rfl ?_
              refine gr_icF (t := 102) rfl (by decide) (by omega) (by omega) (cN_ge (by omega)) ?_
              refine gr_run (pc' := 39) 2 rfl ?_
              refine gr_icT (t := 102) rfl (by decide) (by omega) (by omega) (cI_ge (by omega)) ?_
              exact g1
          · refine gr_run (pc' := 29) 2 rfl ?_
            refine gr_getf rfl rfl (by repeat (first | exact up_s | assumption | refine up_n (by first | assumption | decide | omega) ?_)) (by first | assumption | rfl) rfl ?_
            refine gr_icT (t := 102) rfl (by decide) (by omega) (by omega) (cI_ge (by omega)) ?_
            exact g1
        · obtain ⟨A2, Q2, D2, q2, r1, r2⟩ := r_X4_enqueueChanged (d := d + 1) hn5 hs hcap hS1 hB hkq
          obtain ⟨A', r, g1, g2, g3, g4⟩ := ih (k + 1) A2 Q2 D2 q2 (by omega) (ho.tr r2.2.1) r2.1 r2.2.2.2.2 (fun i hi => by
            rw [(r2.2.2.2.1 i (by omega)).1]
            by_cases e : i = k
            · subst e; exact hgoal
            · exact hno i (by omega))
          refine ⟨A', r, ?_, g2, g3, g4⟩
          have hao := (ho a (by omega)).trans ha
          refine gr_run (pc' := 29) 2 rfl ?_
          refine gr_getf rfl rfl (by repeat (first | exact up_s | assumption | refine up_n (by first | assumption | decide | omega) ?_)) (by first | assumption | rfl) rfl ?_
          refine gr_icF (t := 102) rfl (by decide) (by omega) (by omega) (cN_ge (by omega)) ?_
          refine gr_run (pc' := 39) 2 rfl ?_
          refine gr_icF (t := 102) rfl (by decide) (by omega) (by omega) (cN_ge (by omega)) ?_
          refine gr_run (pc' := 46) 2 rfl ?_
          refine gr_icF (t := 102) rfl (by decide) (by omega) (by omega) (cN_ne (by omega)) ?_
          refine gr_run (pc' := 50) 1 rfl ?_
          refine gr_getf rfl rfl (by repeat (first | exact up_s | assumption | refine up_n (by first | assumption | decide | omega) ?_)) (by first | assumption | rfl) rfl ?_
          refine gr_run (pc' := 55) 1 rfl ?_
          refine gr_iald rfl (by repeat (first | exact up_s | assumption | refine up_n (by first | assumption | decide | omega) ?_)) (by first | assumption | rfl) (ix_i rfl (by omega) (by decide)) ?_
          rw [e5 k hkq]
          refine gr_run (pc' := 57) 1 rfl ?_
          refine gr_icT (t := 72) rfl (by decide) (by omega) (by omega) (cI_ne (by omega)) ?_
          refine gr_run (pc' := 74) 2 rfl ?_
          refine gr_getf rfl rfl (by repeat (first | exact up_s | assumption | refine up_n (by first | assumption | decide | omega) ?_)) (by first | assumption | rfl) rfl ?_
          refine gr_run (pc' := 79) 1 rfl ?_
          refine gr_iald rfl (by repeat (first | exact up_s | assumption | refine up_n (by first | assumption | decide | omega) ?_)) (by first | assumption | rfl) (ix_i rfl (by omega) (by decide)) ?_
          rw [e5 k hkq]
          refine gr_run (pc' := 81) 1 rfl ?_
          refine gr_callV (As := []) lk_4_34 rfl rfl (r_X2_length hao pa) (by repeat (first | exact up_s | assumption | refine up_n (by first | assumption | decide | omega) ?_)) (by first | assumption | exact Nat.le_of_ble_eq_true rfl | exact Nat.le_of_ble_eq_true (by assumption)) rfl rfl rfl rfl rfl ?_
          refine gr_run (pc' := 85) 1 rfl ?_
          refine gr_getf rfl rfl (by repeat (first | exact up_s | assumption | refine up_n (by first | assumption | decide | omega) ?_)) (by first | assumption | rfl) rfl ?_
          refine gr_run (pc' := 90) 1 rfl ?_
          refine gr_iald rfl (by repeat (first | exact up_s | assumption | refine up_n (by first | assumption | decide | omega) ?_)) (by first | assumption | rfl) (ix_i rfl (by omega) (by decide)) ?_
          rw [e6 k hkq]
          refine gr_run (pc' := 92) 1 rfl ?_
          refine gr_iadd rfl ?_
          rw [show ((D k : Nat) : Int) + 1 = ((D k + 1 : Nat) : Int) from rfl]
          refine gr_callV (As := [_, _, _]) lk_4_40 rfl rfl (r1) (by repeat (first | exact up_s | assumption | refine up_n (by first | assumption | decide | omega) ?_)) (by first | assumption | exact Nat.le_of_ble_eq_true rfl | exact Nat.le_of_ble_eq_true (by assumption)) rfl rfl rfl rfl rfl ?_
          refine gr_iinc rfl rfl rfl rfl ?_
          refine gr_run (pc' := 26) 1 rfl ?_
          exact g1
      · have hkq2 : k = q := by have := hB.1.2.1; omega
        have hr : dOf (nbX n) s t (-4) := Or.inr ⟨fun j hj => by
          rw [hkq2] at hB
          obtain ⟨i, hi, hqi⟩ := BF_end hB hj
          exact hno i (by omega) hqi, rfl⟩
        obtain ⟨A', g1, g2, g3⟩ := fin A1 Q D q k (-4) (iI (k : Int)) ho hS1 hB hr (by omega)
        refine ⟨A', -4, ?_, g2, g3, hr⟩
        obtain ⟨qf, df, g, e1, e2, e3, e4, -⟩ := hS1
        refine gr_run (pc' := 29) 2 rfl ?_
        refine gr_getf rfl rfl (by repeat (first | exact up_s | assumption | refine up_n (by first | assumption | decide | omega) ?_)) (by first | assumption | rfl) rfl ?_
        refine gr_icT (t := 102) rfl (by decide) (by omega) (by omega) (cI_ge (by omega)) ?_
        exact g1
  have hS00 := hS.clear (fun _ => 0) (fun _ => 0)
  obtain ⟨A2, r1, r2, r3⟩ := r_X4_enqueue (d := d + 2) (c := s) (dp := 0) hS00 hs (by omega) (fun _ => by omega)
  have hSA : SwA A2 (updN (fun _ => 0) 0 s) (updN (fun _ => 0) 0 0) 1 := by
    rcases r3 with ⟨⟨i, hi, _⟩, _⟩ | ⟨_, z⟩
    · omega
    · exact z
  have ho2 : offE A A2 39 42 := (offE.rf.up (by omega)).tr r2
  obtain ⟨A', r, g1, g2, g3, g4⟩ := loop 120 0 A2 _ _ 1 (by omega) ho2 hSA (BF_0 rfl rfl) (fun i hi => by omega)
  refine ⟨A', r, ?_, g2, g3, g4⟩
  obtain ⟨x, qf, df, g, e1, e2, e3, e4, e5⟩ := hS
  have hA39 : ∀ y : va_E, ∀ k, k < 39 → va_up A 39 y k = A k := fun y k hk => va_up_ne _ _ (by omega)
  refine rt_intro kX4_fewest rfl rfl rfl ?_
  refine gr_run (pc' := 1) 1 rfl ?_
  refine gr_callS (As := [_]) lk_4_26 rfl rfl (r_X4_codeOf ha2 hb2 pa2 pb2 hh2 hn5 hf2) rfl rfl rfl ?_
  rw [htt]
  refine gr_run (pc' := 11) 5 rfl ?_
  refine gr_putf rfl rfl rfl (by repeat (first | exact up_s | assumption | refine up_n (by first | assumption | decide | omega) ?_)) (by first | assumption | rfl) rfl rfl ?_
  refine gr_run (pc' := 16) 2 rfl ?_
  refine gr_callS (As := [_]) lk_4_26 rfl rfl (r_X4_codeOf ((hA39 _ a al).trans ha) ((hA39 _ b bl).trans hb) pa pb hh hn5 hf) rfl rfl rfl ?_
  rw [hss]
  refine gr_run (pc' := 20) 1 rfl ?_
  refine gr_callV (As := [_, _]) lk_4_30 rfl rfl (r1) (by repeat (first | exact up_s | assumption | refine up_n (by first | assumption | decide | omega) ?_)) (by first | assumption | exact Nat.le_of_ble_eq_true rfl | exact Nat.le_of_ble_eq_true (by assumption)) rfl rfl rfl rfl rfl ?_
  refine gr_run (pc' := 26) 2 rfl ?_
  exact g1
end SY
