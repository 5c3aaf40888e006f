/-! the law's loop, and its start -/
theorem and31 (x : Int32) : ∃ w : Nat, w < 32 ∧ x &&& iI 31 = iI (w : Int) := by
  refine ⟨(x &&& iI 31).toBitVec.toNat, ?_, ?_⟩
  · rw [Int32.toBitVec_and, BitVec.toNat_and]
    exact Nat.lt_of_le_of_lt Nat.and_le_right (by decide)
  · rw [← Int32.toBitVec_inj, iI_bv]
    simp
section LL
variable {X : CT} {G : GC} {cl sl : Nat}
theorem law_loop (hL : gL G ≤ 3072) (E : ∀ (L : LV) (A : AH), Gf X G NC cl sl (mLw tEn) 13 1061 L [.int (iI 1)] A) : ∀ (m i : Nat) (A : AH) (σ : SS), gL G < i + 6 * m → i ≤ 4000 → INV σ A → Gf X G NC cl sl (mLw []) 13 18 (Lw i) [] A := by
  intro m
  induction m with
  | zero =>
    intro i A σ hm hi hI
    refine gf_T ktHd ?_
    refine fr_run (pc' := 20) 2 rfl ?_
    refine fr_slen rfl ?_
    refine fr_run (pc' := 23) 1 rfl ?_
    refine fr_isub rfl ?_
    refine fr_icT (t := 1060) rfl (by decide) (by omega) (by omega) (cI_gt (by omega)) ?_
    refine gf_T ktEn ?_
    refine fr_run (pc' := 1061) 1 rfl ?_
    exact E _ _
  | succ m ih =>
    intro i A σ hm hi hI
    by_cases c : i + 6 ≤ gL G
    · have K : ∀ (A' : AH) (σ' : SS), INV σ' A' → Gf X G NC cl sl (mLw []) 13 1054 (Lw i) [] A' := fun A' σ' hI' => by
        refine gf_T ktEn ?_
        refine fr_iinc rfl rfl rfl rfl ?_
        refine fr_run (pc' := 18) 1 rfl ?_
        exact gf_T rfl (ih (i + 6) A' σ' (by omega) (by omega) hI')
      obtain ⟨w, hw, ew⟩ := and31 (gX G i)
      refine gf_T ktHd ?_
      refine fr_run (pc' := 20) 2 rfl ?_
      refine fr_slen rfl ?_
      refine fr_run (pc' := 23) 1 rfl ?_
      refine fr_isub rfl ?_
      refine fr_icF (t := 1060) rfl (by decide) (by omega) (by omega) (cN_gt (by omega)) ?_
      refine fr_run (pc' := 29) 2 rfl ?_
      refine fr_sld (j := i) rfl (ix_i rfl (by omega) (by omega)) ?_
      refine fr_run (pc' := 32) 1 rfl ?_
      refine fr_iand rfl ?_
      rw [ew]
      refine gf_T ktSw ?_
      match w, hw with
      | 0, _ => refine fr_tabIn (t := 176) rfl (by omega) (by omega) (by omega) rfl (by decide) ?_; exact gf_T rfl (op_0 hI c hL K)
      | 1, _ => refine fr_tabIn (t := 239) rfl (by omega) (by omega) (by omega) rfl (by decide) ?_; exact gf_T rfl (op_1 hI c hL K)
      | 2, _ => refine fr_tabIn (t := 252) rfl (by omega) (by omega) (by omega) rfl (by decide) ?_; exact gf_T rfl (op_2 hI c hL K)
      | 3, _ => refine fr_tabIn (t := 265) rfl (by omega) (by omega) (by omega) rfl (by decide) ?_; exact gf_T rfl (op_3 hI c hL K)
      | 4, _ => refine fr_tabIn (t := 278) rfl (by omega) (by omega) (by omega) rfl (by decide) ?_; exact gf_T rfl (op_4 hI c hL K)
      | 5, _ => refine fr_tabIn (t := 301) rfl (by omega) (by omega) (by omega) rfl (by decide) ?_; exact gf_T rfl (op_5 hI c hL K)
      | 6, _ => refine fr_tabIn (t := 334) rfl (by omega) (by omega) (by omega) rfl (by decide) ?_; exact gf_T rfl (op_6 hI c hL K)
      | 7, _ => refine fr_tabIn (t := 357) rfl (by omega) (by omega) (by omega) rfl (by decide) ?_; exact gf_T rfl (op_7 hI c hL K)
      | 8, _ => refine fr_tabIn (t := 380) rfl (by omega) (by omega) (by omega) rfl (by decide) ?_; exact gf_T rfl (op_8 hI c hL K)
      | 9, _ => refine fr_tabIn (t := 403) rfl (by omega) (by omega) (by omega) rfl (by decide) ?_; exact gf_T rfl (op_9 hI c hL K)
      | 10, _ => refine fr_tabIn (t := 416) rfl (by omega) (by omega) (by omega) rfl (by decide) ?_; exact gf_T rfl (op_10 hI c hL K)
      | 11, _ => refine fr_tabIn (t := 439) rfl (by omega) (by omega) (by omega) rfl (by decide) ?_; exact gf_T rfl (op_11 hI c hL K)
      | 12, _ => refine fr_tabIn (t := 472) rfl (by omega) (by omega) (by omega) rfl (by decide) ?_; exact gf_T rfl (op_12 hI c hL K)
      | 13, _ => refine fr_tabIn (t := 485) rfl (by omega) (by omega) (by omega) rfl (by decide) ?_; exact gf_T rfl (op_13 hI c hL K)
      | 14, _ => refine fr_tabIn (t := 508) rfl (by omega) (by omega) (by omega) rfl (by decide) ?_; exact gf_T rfl (op_14 hI c hL K)
      | 15, _ => refine fr_tabIn (t := 531) rfl (by omega) (by omega) (by omega) rfl (by decide) ?_; exact gf_T rfl (op_15 hI c hL K)
      | 16, _ => refine fr_tabIn (t := 574) rfl (by omega) (by omega) (by omega) rfl (by decide) ?_; exact gf_T rfl (op_16 hI c hL K)
      | 17, _ => refine fr_tabIn (t := 618) rfl (by omega) (by omega) (by omega) rfl (by decide) ?_; exact gf_T rfl (op_17 hI c hL K)
      | 18, _ => refine fr_tabIn (t := 701) rfl (by omega) (by omega) (by omega) rfl (by decide) ?_; exact gf_T rfl (op_18 hI c hL K)
      | 19, _ => refine fr_tabIn (t := 715) rfl (by omega) (by omega) (by omega) rfl (by decide) ?_; exact gf_T rfl (op_19 hI c hL K)
      | 20, _ => refine fr_tabIn (t := 728) rfl (by omega) (by omega) (by omega) rfl (by decide) ?_; exact gf_T rfl (op_20 hI c hL K)
      | 21, _ => refine fr_tabIn (t := 741) rfl (by omega) (by omega) (by omega) rfl (by decide) ?_; exact gf_T rfl (op_21 hI c hL K)
      | 22, _ => refine fr_tabIn (t := 784) rfl (by omega) (by omega) (by omega) rfl (by decide) ?_; exact gf_T rfl (op_22 hI c hL K)
      | 23, _ => refine fr_tabIn (t := 837) rfl (by omega) (by omega) (by omega) rfl (by decide) ?_; exact gf_T rfl (op_23 hI c hL K)
      | 24, _ => refine fr_tabIn (t := 860) rfl (by omega) (by omega) (by omega) rfl (by decide) ?_; exact gf_T rfl (op_24 hI c hL K)
      | 25, _ => refine fr_tabIn (t := 893) rfl (by omega) (by omega) (by omega) rfl (by decide) ?_; exact gf_T rfl (op_25 hI c hL K)
      | 26, _ => refine fr_tabIn (t := 926) rfl (by omega) (by omega) (by omega) rfl (by decide) ?_; exact gf_T rfl (op_26 hI c hL K)
      | 27, _ => refine fr_tabIn (t := 939) rfl (by omega) (by omega) (by omega) rfl (by decide) ?_; exact gf_T rfl (op_27 hI c hL K)
      | 28, _ => refine fr_tabIn (t := 972) rfl (by omega) (by omega) (by omega) rfl (by decide) ?_; exact gf_T rfl (op_28 hI c hL K)
      | 29, _ => refine fr_tabIn (t := 1005) rfl (by omega) (by omega) (by omega) rfl (by decide) ?_; exact gf_T rfl (op_29 hI c hL K)
      | 30, _ => refine fr_tabIn (t := 1018) rfl (by omega) (by omega) (by omega) rfl (by decide) ?_; exact gf_T rfl (op_30 hI c hL K)
      | 31, _ => refine fr_tabIn (t := 1031) rfl (by omega) (by omega) (by omega) rfl (by decide) ?_; exact gf_T rfl (op_31 hI c hL K)
      | n + 32, hw => exact absurd hw (by omega)
    · refine gf_T ktHd ?_
      refine fr_run (pc' := 20) 2 rfl ?_
      refine fr_slen rfl ?_
      refine fr_run (pc' := 23) 1 rfl ?_
      refine fr_isub rfl ?_
      refine fr_icT (t := 1060) rfl (by decide) (by omega) (by omega) (cI_gt (by omega)) ?_
      refine gf_T ktEn ?_
      refine fr_run (pc' := 1061) 1 rfl ?_
      exact E _ _
end LL
theorem sc1001 {k : Nat} {x y z : Option Value} (hx : ∀ v, x = some v → scV k v) (hy : ∀ v, y = some v → scV k v) (hz : ∀ v, z = some v → scV k v) : scL k [some (.ref 1001), x, y, z] := by
  refine ⟨Or.inr (by decide), ?_⟩
  cases x with
  | none =>
    cases y with
    | none =>
      cases z with
      | none => exact trivial
      | some v => exact ⟨hz v rfl, trivial⟩
    | some w =>
      cases z with
      | none => exact ⟨hy w rfl, trivial⟩
      | some v => exact ⟨hy w rfl, hz v rfl, trivial⟩
  | some u =>
    cases y with
    | none =>
      cases z with
      | none => exact ⟨hx u rfl, trivial⟩
      | some v => exact ⟨hx u rfl, hz v rfl, trivial⟩
    | some w =>
      cases z with
      | none => exact ⟨hx u rfl, hy w rfl, trivial⟩
      | some v => exact ⟨hx u rfl, hy w rfl, hz v rfl, trivial⟩
theorem INV_0 {A : AH} : INV σ0 (AG A) := ⟨RepX_0, RepM_0, okS_0⟩
theorem law_start {X : CT} {G : GC} {A : AH} (hAO : aoP (xs X)) (hRc : (xR X).cells = 600000) (hRs : (xR X).slots = 7302250) (hL : gL G ≤ 3072) (E : ∀ (a : Nat → Nat) (cl sl : Nat) (L : LV) (A : AH), exA G 0 a → cl ≤ 600000 → sl ≤ 7302250 → Gf X (gS G a) NC cl sl (mLw tEn) 13 1061 L [.int (iI 1)] A) : Gf X G 0 0 0 (mLw tSt) 13 0 [some (.ref 1001), none, none, none] [] A := by
  have hx : exA G 0 (gA G) := exA.rf
  have hsc : scA 0 A := fun j hj => absurd hj (Nat.not_lt_zero j)
  refine gf_0 ?_
  refine fr_new (ci := 6) rfl rfl wc_8_7 wi_6 wn_6 (by omega) (by omega) (by omega) (sc1001 (fun _ h => by cases h) (fun _ h => by cases h) (fun _ h => by cases h)) trivial hsc (fun a ha => ?_)
  have hx := hx.tr ha (by omega)
  refine gf_n ?_
  have hsc1 : scA 1 (va_up A 0 (Ob 6 (dfF 6))) := scA.push (k := 0) hsc df_sc
  refine fr_run (pc' := 4) 1 rfl ?_
  refine fr_callI (As := []) lkI_8_9 rfl rfl (c_X6 (d := 7) up_s hsc1) rfl rfl rfl hAO (by omega) (by omega) (sc1001 (fun _ h => by cases h) (fun _ h => by cases h) (fun _ h => by cases h)) ⟨scR (by omega), trivial⟩ (fun a ha => ?_)
  have hx := hx.tr ha (by omega)
  refine gf_n ?_
  refine fr_run (pc' := 8) 1 rfl ?_
  refine fr_new (ci := 7) rfl rfl wc_8_10 wi_7 wn_7 (by omega) (by omega) (by omega) (sc1001 (fun _ h => by cases h; exact scR (by omega)) (fun _ h => by cases h) (fun _ h => by cases h)) trivial (T8_sc hsc1) (fun a ha => ?_)
  have hx := hx.tr ha (by omega)
  refine gf_n ?_
  refine fr_h (A2 := AE A) rfl ?_
  have hsc2 : scA 44 (AE A) := scA.push (k := 43) (T8_sc hsc1) df_sc
  refine fr_run (pc' := 12) 1 rfl ?_
  refine fr_callI (As := []) lkI_8_12 rfl rfl (c_X7 (d := 11) up_s hsc2) rfl rfl rfl hAO (by omega) (by omega) (sc1001 (fun _ h => by cases h; exact scR (by omega)) (fun _ h => by cases h) (fun _ h => by cases h)) ⟨scR (by omega), trivial⟩ (fun a ha => ?_)
  have hx := hx.tr ha (by omega)
  refine gf_n ?_
  refine fr_run (pc' := 18) 3 rfl ?_
  refine fr_h (A2 := AF A) rfl ?_
  refine fr_rc (a := 10) (n := 8) (f' := fun j => some (11 + 2 * j)) ((AF_o (by omega)).trans ((T8_4' (by omega) (by omega)).trans (up_n (by omega) sh_10))) (by omega) (fun i hi => if_pos hi) ?_
  refine fr_rc (a := 28) (n := 2) (f' := fun j => some (29 + 2 * j)) (up_n (by omega) ((AF_o (by omega)).trans ((T8_5' (by omega) (by omega)).trans (up_n (by omega) sh_10)))) (by omega) (fun i hi => if_pos hi) ?_
  refine gf_T (T' := []) rfl ?_
  refine law_loop (G := gS G a) hL ?_ 3073 0 (AG A) σ0 (by show gL G < 0 + 6 * 3073; omega) (by omega) INV_0
  exact fun L A => E _ _ _ L A hx (by omega) (by omega)
