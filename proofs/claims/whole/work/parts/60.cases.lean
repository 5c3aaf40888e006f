/-! the law, case by case -/
def mLw (T : Tab) : MI := (yL_law, cL_law, 4, some .boolean, 8, 1, T)
theorem gf_T {X : CT} {G : GC} {kk cl sl : Nat} {T T' : Tab} {d pc : Nat} {L : LV} {S : List Value} {A : AH} (h : tabOK cL_law T' = true) (k : Gf X G kk cl sl (mLw T') d pc L S A) : Gf X G kk cl sl (mLw T) d pc L S A := by
  intro hC
  obtain ⟨⟨c1, c2, c3, c4, c5⟩, c6⟩ := hC
  exact k ⟨⟨c1, c2, c3, c4, h⟩, c6⟩
theorem iz (x : Int32) : ∃ z : Int, bd z ∧ x = iI z := ⟨x.toInt, bd_of x, iI_of x⟩
theorem lz (x : Int64) : ∃ z : Int, bdl z ∧ x = lI z := ⟨x.toInt, bdl_of x, lI_of x⟩
abbrev Lw (i : Nat) : LV := [some (.ref 1001), some (.ref 0), some (.ref 43), some (.int (iI (i : Int)))]
section LW
variable {X : CT} {G : GC} {cl sl i : Nat} {A : AH} {σ : SS}
def tO_0 : Tab := [(176, .aload_n 1, 1), (177, .aload_n 0, 1), (178, .iload_n 3, 1), (179, .iconst 1, 1), (180, .iadd, 1), (181, .iaload, 1), (182, .aload_n 0, 1), (183, .iload_n 3, 1), (184, .iconst 2, 1), (185, .iadd, 1), (186, .iaload, 1), (187, .i2l, 1), (188, .bipush 32, 2), (190, .lshl, 1), (191, .aload_n 0, 1), (192, .iload_n 3, 1), (193, .iconst 3, 1), (194, .iadd, 1), (195, .iaload, 1), (196, .i2l, 1), (197, .ldc2_w 13, 3), (200, .land, 1), (201, .lor, 1), (202, .invokevirtual 15, 3), (205, .aload_n 2, 1), (206, .aload_n 0, 1), (207, .iload_n 3, 1), (208, .iconst 1, 1), (209, .iadd, 1), (210, .iaload, 1), (211, .aload_n 0, 1), (212, .iload_n 3, 1), (213, .iconst 2, 1), (214, .iadd, 1), (215, .iaload, 1), (216, .i2l, 1), (217, .bipush 32, 2), (219, .lshl, 1), (220, .aload_n 0, 1), (221, .iload_n 3, 1), (222, .iconst 3, 1), (223, .iadd, 1), (224, .iaload, 1), (225, .i2l, 1), (226, .ldc2_w 13, 3), (229, .land, 1), (230, .lor, 1), (231, .invokevirtual 19, 3), (234, .if_icmp .eq 820, 3)]
set_option maxRecDepth 20000 in
theorem ktO_0 : tabOK cL_law tO_0 = true := by decide +kernel
theorem op_0 (h : INV σ A) (hi : i + 6 ≤ gL G) (hL : gL G ≤ 3072) (K : ∀ (A' : AH) (σ' : SS), INV σ' A' → Gf X G NC cl sl (mLw []) 13 1054 (Lw i) [] A') : Gf X G NC cl sl (mLw []) 13 176 (Lw i) [] A := by
  refine gf_T ktO_0 ?_
  have h0 := h.1.1
  obtain ⟨z1, bz1, e1⟩ := iz (gX G (i + 1))
  obtain ⟨x, A1, A2, σ', r1, r2, ⟨fs, e43⟩, hI⟩ := b_write (n := z1) (v := ((gX G (i + 2)).toInt64 <<< ((iI 32).toInt64 &&& 63)) ||| ((gX G (i + 3)).toInt64 &&& lI 4294967295)) h bz1
  obtain ⟨z, hz, rfl⟩ := iz x
  refine fr_run (pc' := 180) 4 rfl ?_
  refine fr_iadd rfl ?_
  refine fr_sld (j := i + 1) rfl (ix_i rfl (by omega) (by omega)) ?_
  rw [e1]
  refine fr_run (pc' := 185) 3 rfl ?_
  refine fr_iadd rfl ?_
  refine fr_sld (j := i + 2) rfl (ix_i rfl (by omega) (by omega)) ?_
  refine fr_i2lx rfl ?_
  refine fr_run (pc' := 190) 1 rfl ?_
  refine fr_lshl rfl ?_
  refine fr_run (pc' := 194) 3 rfl ?_
  refine fr_iadd rfl ?_
  refine fr_sld (j := i + 3) rfl (ix_i rfl (by omega) (by omega)) ?_
  refine fr_i2lx rfl ?_
  refine fr_run (pc' := 200) 1 rfl ?_
  refine fr_land rfl ?_
  refine fr_lor rfl ?_
  refine fr_callV (As := [_, _]) lk_8_15 rfl rfl r1 h0 (Nat.le_of_ble_eq_true rfl) rfl rfl rfl rfl rfl ?_
  refine fr_run (pc' := 209) 4 rfl ?_
  refine fr_iadd rfl ?_
  refine fr_sld (j := i + 1) rfl (ix_i rfl (by omega) (by omega)) ?_
  rw [e1]
  refine fr_run (pc' := 214) 3 rfl ?_
  refine fr_iadd rfl ?_
  refine fr_sld (j := i + 2) rfl (ix_i rfl (by omega) (by omega)) ?_
  refine fr_i2lx rfl ?_
  refine fr_run (pc' := 219) 1 rfl ?_
  refine fr_lshl rfl ?_
  refine fr_run (pc' := 223) 3 rfl ?_
  refine fr_iadd rfl ?_
  refine fr_sld (j := i + 3) rfl (ix_i rfl (by omega) (by omega)) ?_
  refine fr_i2lx rfl ?_
  refine fr_run (pc' := 229) 1 rfl ?_
  refine fr_land rfl ?_
  refine fr_lor rfl ?_
  refine fr_callV (As := [_, _]) lk_8_19 rfl rfl r2 e43 (Nat.le_of_ble_eq_true rfl) rfl rfl rfl rfl rfl ?_
  refine fr_icT (t := 1054) rfl (by decide) hz hz (cI_eq rfl) ?_
  exact gf_T rfl (K A2 σ' hI)
def tO_1 : Tab := [(239, .aload_n 1, 1), (240, .invokevirtual 20, 3), (243, .aload_n 2, 1), (244, .invokevirtual 24, 3), (247, .if_icmp .eq 807, 3)]
set_option maxRecDepth 20000 in
theorem ktO_1 : tabOK cL_law tO_1 = true := by decide +kernel
theorem op_1 (h : INV σ A) (hi : i + 6 ≤ gL G) (hL : gL G ≤ 3072) (K : ∀ (A' : AH) (σ' : SS), INV σ' A' → Gf X G NC cl sl (mLw []) 13 1054 (Lw i) [] A') : Gf X G NC cl sl (mLw []) 13 239 (Lw i) [] A := by
  refine gf_T ktO_1 ?_
  have h0 := h.1.1
  obtain ⟨x, A1, A2, σ', r1, r2, ⟨fs, e43⟩, hI⟩ := b_wipe h 
  obtain ⟨z, hz, rfl⟩ := iz x
  refine fr_run (pc' := 240) 1 rfl ?_
  refine fr_callV (As := []) lk_8_20 rfl rfl r1 h0 (Nat.le_of_ble_eq_true rfl) rfl rfl rfl rfl rfl ?_
  refine fr_run (pc' := 244) 1 rfl ?_
  refine fr_callV (As := []) lk_8_24 rfl rfl r2 e43 (Nat.le_of_ble_eq_true rfl) rfl rfl rfl rfl rfl ?_
  refine fr_icT (t := 1054) rfl (by decide) hz hz (cI_eq rfl) ?_
  exact gf_T rfl (K A2 σ' hI)
def tO_2 : Tab := [(252, .aload_n 1, 1), (253, .invokevirtual 25, 3), (256, .aload_n 2, 1), (257, .invokevirtual 28, 3), (260, .if_icmp .eq 794, 3)]
set_option maxRecDepth 20000 in
theorem ktO_2 : tabOK cL_law tO_2 = true := by decide +kernel
theorem op_2 (h : INV σ A) (hi : i + 6 ≤ gL G) (hL : gL G ≤ 3072) (K : ∀ (A' : AH) (σ' : SS), INV σ' A' → Gf X G NC cl sl (mLw []) 13 1054 (Lw i) [] A') : Gf X G NC cl sl (mLw []) 13 252 (Lw i) [] A := by
  refine gf_T ktO_2 ?_
  have h0 := h.1.1
  obtain ⟨x, A1, A2, σ', r1, r2, ⟨fs, e43⟩, hI⟩ := b_fault h 
  obtain ⟨z, hz, rfl⟩ := iz x
  refine fr_run (pc' := 253) 1 rfl ?_
  refine fr_callV (As := []) lk_8_25 rfl rfl r1 h0 (Nat.le_of_ble_eq_true rfl) rfl rfl rfl rfl rfl ?_
  refine fr_run (pc' := 257) 1 rfl ?_
  refine fr_callV (As := []) lk_8_28 rfl rfl r2 e43 (Nat.le_of_ble_eq_true rfl) rfl rfl rfl rfl rfl ?_
  refine fr_icT (t := 1054) rfl (by decide) hz hz (cI_eq rfl) ?_
  exact gf_T rfl (K A2 σ' hI)
def tO_3 : Tab := [(265, .aload_n 1, 1), (266, .invokevirtual 29, 3), (269, .aload_n 2, 1), (270, .invokevirtual 32, 3), (273, .if_icmp .eq 781, 3)]
set_option maxRecDepth 20000 in
theorem ktO_3 : tabOK cL_law tO_3 = true := by decide +kernel
theorem op_3 (h : INV σ A) (hi : i + 6 ≤ gL G) (hL : gL G ≤ 3072) (K : ∀ (A' : AH) (σ' : SS), INV σ' A' → Gf X G NC cl sl (mLw []) 13 1054 (Lw i) [] A') : Gf X G NC cl sl (mLw []) 13 265 (Lw i) [] A := by
  refine gf_T ktO_3 ?_
  have h0 := h.1.1
  obtain ⟨x, A1, A2, σ', r1, r2, ⟨fs, e43⟩, hI⟩ := b_clash h 
  obtain ⟨z, hz, rfl⟩ := iz x
  refine fr_run (pc' := 266) 1 rfl ?_
  refine fr_callV (As := []) lk_8_29 rfl rfl r1 h0 (Nat.le_of_ble_eq_true rfl) rfl rfl rfl rfl rfl ?_
  refine fr_run (pc' := 270) 1 rfl ?_
  refine fr_callV (As := []) lk_8_32 rfl rfl r2 e43 (Nat.le_of_ble_eq_true rfl) rfl rfl rfl rfl rfl ?_
  refine fr_icT (t := 1054) rfl (by decide) hz hz (cI_eq rfl) ?_
  exact gf_T rfl (K A2 σ' hI)
def tO_4 : Tab := [(278, .aload_n 1, 1), (279, .aload_n 0, 1), (280, .iload_n 3, 1), (281, .iconst 1, 1), (282, .iadd, 1), (283, .iaload, 1), (284, .invokevirtual 33, 3), (287, .aload_n 2, 1), (288, .aload_n 0, 1), (289, .iload_n 3, 1), (290, .iconst 1, 1), (291, .iadd, 1), (292, .iaload, 1), (293, .invokevirtual 37, 3), (296, .if_icmp .eq 758, 3)]
set_option maxRecDepth 20000 in
theorem ktO_4 : tabOK cL_law tO_4 = true := by decide +kernel
theorem op_4 (h : INV σ A) (hi : i + 6 ≤ gL G) (hL : gL G ≤ 3072) (K : ∀ (A' : AH) (σ' : SS), INV σ' A' → Gf X G NC cl sl (mLw []) 13 1054 (Lw i) [] A') : Gf X G NC cl sl (mLw []) 13 278 (Lw i) [] A := by
  refine gf_T ktO_4 ?_
  have h0 := h.1.1
  obtain ⟨z1, bz1, e1⟩ := iz (gX G (i + 1))
  obtain ⟨x, A1, A2, σ', r1, r2, ⟨fs, e43⟩, hI⟩ := b_lay h bz1
  obtain ⟨z, hz, rfl⟩ := iz x
  refine fr_run (pc' := 282) 4 rfl ?_
  refine fr_iadd rfl ?_
  refine fr_sld (j := i + 1) rfl (ix_i rfl (by omega) (by omega)) ?_
  rw [e1]
  refine fr_callV (As := [_]) lk_8_33 rfl rfl r1 h0 (Nat.le_of_ble_eq_true rfl) rfl rfl rfl rfl rfl ?_
  refine fr_run (pc' := 291) 4 rfl ?_
  refine fr_iadd rfl ?_
  refine fr_sld (j := i + 1) rfl (ix_i rfl (by omega) (by omega)) ?_
  rw [e1]
  refine fr_callV (As := [_]) lk_8_37 rfl rfl r2 e43 (Nat.le_of_ble_eq_true rfl) rfl rfl rfl rfl rfl ?_
  refine fr_icT (t := 1054) rfl (by decide) hz hz (cI_eq rfl) ?_
  exact gf_T rfl (K A2 σ' hI)
def tO_5 : Tab := [(301, .aload_n 1, 1), (302, .aload_n 0, 1), (303, .iload_n 3, 1), (304, .iconst 1, 1), (305, .iadd, 1), (306, .iaload, 1), (307, .aload_n 0, 1), (308, .iload_n 3, 1), (309, .iconst 2, 1), (310, .iadd, 1), (311, .iaload, 1), (312, .invokevirtual 38, 3), (315, .aload_n 2, 1), (316, .aload_n 0, 1), (317, .iload_n 3, 1), (318, .iconst 1, 1), (319, .iadd, 1), (320, .iaload, 1), (321, .aload_n 0, 1), (322, .iload_n 3, 1), (323, .iconst 2, 1), (324, .iadd, 1), (325, .iaload, 1), (326, .invokevirtual 42, 3), (329, .if_icmp .eq 725, 3)]
set_option maxRecDepth 20000 in
theorem ktO_5 : tabOK cL_law tO_5 = true := by decide +kernel
theorem op_5 (h : INV σ A) (hi : i + 6 ≤ gL G) (hL : gL G ≤ 3072) (K : ∀ (A' : AH) (σ' : SS), INV σ' A' → Gf X G NC cl sl (mLw []) 13 1054 (Lw i) [] A') : Gf X G NC cl sl (mLw []) 13 301 (Lw i) [] A := by
  refine gf_T ktO_5 ?_
  have h0 := h.1.1
  obtain ⟨z1, bz1, e1⟩ := iz (gX G (i + 1))
  obtain ⟨z2, bz2, e2⟩ := iz (gX G (i + 2))
  obtain ⟨x, A1, A2, σ', r1, r2, ⟨fs, e43⟩, hI⟩ := b_toss h bz1 bz2
  obtain ⟨z, hz, rfl⟩ := iz x
  refine fr_run (pc' := 305) 4 rfl ?_
  refine fr_iadd rfl ?_
  refine fr_sld (j := i + 1) rfl (ix_i rfl (by omega) (by omega)) ?_
  rw [e1]
  refine fr_run (pc' := 310) 3 rfl ?_
  refine fr_iadd rfl ?_
  refine fr_sld (j := i + 2) rfl (ix_i rfl (by omega) (by omega)) ?_
  rw [e2]
  refine fr_callV (As := [_, _]) lk_8_38 rfl rfl r1 h0 (Nat.le_of_ble_eq_true rfl) rfl rfl rfl rfl rfl ?_
  refine fr_run (pc' := 319) 4 rfl ?_
  refine fr_iadd rfl ?_
  refine fr_sld (j := i + 1) rfl (ix_i rfl (by omega) (by omega)) ?_
  rw [e1]
  refine fr_run (pc' := 324) 3 rfl ?_
  refine fr_iadd rfl ?_
  refine fr_sld (j := i + 2) rfl (ix_i rfl (by omega) (by omega)) ?_
  rw [e2]
  refine fr_callV (As := [_, _]) lk_8_42 rfl rfl r2 e43 (Nat.le_of_ble_eq_true rfl) rfl rfl rfl rfl rfl ?_
  refine fr_icT (t := 1054) rfl (by decide) hz hz (cI_eq rfl) ?_
  exact gf_T rfl (K A2 σ' hI)
def tO_6 : Tab := [(334, .aload_n 1, 1), (335, .aload_n 0, 1), (336, .iload_n 3, 1), (337, .iconst 1, 1), (338, .iadd, 1), (339, .iaload, 1), (340, .invokevirtual 43, 3), (343, .aload_n 2, 1), (344, .aload_n 0, 1), (345, .iload_n 3, 1), (346, .iconst 1, 1), (347, .iadd, 1), (348, .iaload, 1), (349, .invokevirtual 46, 3), (352, .if_icmp .eq 702, 3)]
set_option maxRecDepth 20000 in
theorem ktO_6 : tabOK cL_law tO_6 = true := by decide +kernel
theorem op_6 (h : INV σ A) (hi : i + 6 ≤ gL G) (hL : gL G ≤ 3072) (K : ∀ (A' : AH) (σ' : SS), INV σ' A' → Gf X G NC cl sl (mLw []) 13 1054 (Lw i) [] A') : Gf X G NC cl sl (mLw []) 13 334 (Lw i) [] A := by
  refine gf_T ktO_6 ?_
  have h0 := h.1.1
  obtain ⟨z1, bz1, e1⟩ := iz (gX G (i + 1))
  obtain ⟨x, A1, A2, σ', r1, r2, ⟨fs, e43⟩, hI⟩ := b_balls h bz1
  obtain ⟨z, hz, rfl⟩ := iz x
  refine fr_run (pc' := 338) 4 rfl ?_
  refine fr_iadd rfl ?_
  refine fr_sld (j := i + 1) rfl (ix_i rfl (by omega) (by omega)) ?_
  rw [e1]
  refine fr_callV (As := [_]) lk_8_43 rfl rfl r1 h0 (Nat.le_of_ble_eq_true rfl) rfl rfl rfl rfl rfl ?_
  refine fr_run (pc' := 347) 4 rfl ?_
  refine fr_iadd rfl ?_
  refine fr_sld (j := i + 1) rfl (ix_i rfl (by omega) (by omega)) ?_
  rw [e1]
  refine fr_callV (As := [_]) lk_8_46 rfl rfl r2 e43 (Nat.le_of_ble_eq_true rfl) rfl rfl rfl rfl rfl ?_
  refine fr_icT (t := 1054) rfl (by decide) hz hz (cI_eq rfl) ?_
  exact gf_T rfl (K A2 σ' hI)
def tO_7 : Tab := [(357, .aload_n 1, 1), (358, .aload_n 0, 1), (359, .iload_n 3, 1), (360, .iconst 1, 1), (361, .iadd, 1), (362, .iaload, 1), (363, .invokevirtual 47, 3), (366, .aload_n 2, 1), (367, .aload_n 0, 1), (368, .iload_n 3, 1), (369, .iconst 1, 1), (370, .iadd, 1), (371, .iaload, 1), (372, .invokevirtual 50, 3), (375, .if_icmp .eq 679, 3)]
set_option maxRecDepth 20000 in
theorem ktO_7 : tabOK cL_law tO_7 = true := by decide +kernel
theorem op_7 (h : INV σ A) (hi : i + 6 ≤ gL G) (hL : gL G ≤ 3072) (K : ∀ (A' : AH) (σ' : SS), INV σ' A' → Gf X G NC cl sl (mLw []) 13 1054 (Lw i) [] A') : Gf X G NC cl sl (mLw []) 13 357 (Lw i) [] A := by
  refine gf_T ktO_7 ?_
  have h0 := h.1.1
  obtain ⟨z1, bz1, e1⟩ := iz (gX G (i + 1))
  obtain ⟨x, A1, A2, σ', r1, r2, ⟨fs, e43⟩, hI⟩ := b_air h bz1
  obtain ⟨z, hz, rfl⟩ := iz x
  refine fr_run (pc' := 361) 4 rfl ?_
  refine fr_iadd rfl ?_
  refine fr_sld (j := i + 1) rfl (ix_i rfl (by omega) (by omega)) ?_
  rw [e1]
  refine fr_callV (As := [_]) lk_8_47 rfl rfl r1 h0 (Nat.le_of_ble_eq_true rfl) rfl rfl rfl rfl rfl ?_
  refine fr_run (pc' := 370) 4 rfl ?_
  refine fr_iadd rfl ?_
  refine fr_sld (j := i + 1) rfl (ix_i rfl (by omega) (by omega)) ?_
  rw [e1]
  refine fr_callV (As := [_]) lk_8_50 rfl rfl r2 e43 (Nat.le_of_ble_eq_true rfl) rfl rfl rfl rfl rfl ?_
  refine fr_icT (t := 1054) rfl (by decide) hz hz (cI_eq rfl) ?_
  exact gf_T rfl (K A2 σ' hI)
def tO_8 : Tab := [(380, .aload_n 1, 1), (381, .aload_n 0, 1), (382, .iload_n 3, 1), (383, .iconst 1, 1), (384, .iadd, 1), (385, .iaload, 1), (386, .invokevirtual 51, 3), (389, .aload_n 2, 1), (390, .aload_n 0, 1), (391, .iload_n 3, 1), (392, .iconst 1, 1), (393, .iadd, 1), (394, .iaload, 1), (395, .invokevirtual 54, 3), (398, .if_icmp .eq 656, 3)]
set_option maxRecDepth 20000 in
theorem ktO_8 : tabOK cL_law tO_8 = true := by decide +kernel
theorem op_8 (h : INV σ A) (hi : i + 6 ≤ gL G) (hL : gL G ≤ 3072) (K : ∀ (A' : AH) (σ' : SS), INV σ' A' → Gf X G NC cl sl (mLw []) 13 1054 (Lw i) [] A') : Gf X G NC cl sl (mLw []) 13 380 (Lw i) [] A := by
  refine gf_T ktO_8 ?_
  have h0 := h.1.1
  obtain ⟨z1, bz1, e1⟩ := iz (gX G (i + 1))
  obtain ⟨x, A1, A2, σ', r1, r2, ⟨fs, e43⟩, hI⟩ := b_turn h bz1
  obtain ⟨z, hz, rfl⟩ := iz x
  refine fr_run (pc' := 384) 4 rfl ?_
  refine fr_iadd rfl ?_
  refine fr_sld (j := i + 1) rfl (ix_i rfl (by omega) (by omega)) ?_
  rw [e1]
  refine fr_callV (As := [_]) lk_8_51 rfl rfl r1 h0 (Nat.le_of_ble_eq_true rfl) rfl rfl rfl rfl rfl ?_
  refine fr_run (pc' := 393) 4 rfl ?_
  refine fr_iadd rfl ?_
  refine fr_sld (j := i + 1) rfl (ix_i rfl (by omega) (by omega)) ?_
  rw [e1]
  refine fr_callV (As := [_]) lk_8_54 rfl rfl r2 e43 (Nat.le_of_ble_eq_true rfl) rfl rfl rfl rfl rfl ?_
  refine fr_icT (t := 1054) rfl (by decide) hz hz (cI_eq rfl) ?_
  exact gf_T rfl (K A2 σ' hI)
def tO_9 : Tab := [(403, .aload_n 1, 1), (404, .invokevirtual 55, 3), (407, .aload_n 2, 1), (408, .invokevirtual 58, 3), (411, .if_icmp .eq 643, 3)]
set_option maxRecDepth 20000 in
theorem ktO_9 : tabOK cL_law tO_9 = true := by decide +kernel
theorem op_9 (h : INV σ A) (hi : i + 6 ≤ gL G) (hL : gL G ≤ 3072) (K : ∀ (A' : AH) (σ' : SS), INV σ' A' → Gf X G NC cl sl (mLw []) 13 1054 (Lw i) [] A') : Gf X G NC cl sl (mLw []) 13 403 (Lw i) [] A := by
  refine gf_T ktO_9 ?_
  have h0 := h.1.1
  obtain ⟨x, A1, A2, σ', r1, r2, ⟨fs, e43⟩, hI⟩ := b_backwards h 
  obtain ⟨z, hz, rfl⟩ := iz x
  refine fr_run (pc' := 404) 1 rfl ?_
  refine fr_callV (As := []) lk_8_55 rfl rfl r1 h0 (Nat.le_of_ble_eq_true rfl) rfl rfl rfl rfl rfl ?_
  refine fr_run (pc' := 408) 1 rfl ?_
  refine fr_callV (As := []) lk_8_58 rfl rfl r2 e43 (Nat.le_of_ble_eq_true rfl) rfl rfl rfl rfl rfl ?_
  refine fr_icT (t := 1054) rfl (by decide) hz hz (cI_eq rfl) ?_
  exact gf_T rfl (K A2 σ' hI)
def tO_10 : Tab := [(416, .aload_n 1, 1), (417, .aload_n 0, 1), (418, .iload_n 3, 1), (419, .iconst 1, 1), (420, .iadd, 1), (421, .iaload, 1), (422, .invokevirtual 59, 3), (425, .aload_n 2, 1), (426, .aload_n 0, 1), (427, .iload_n 3, 1), (428, .iconst 1, 1), (429, .iadd, 1), (430, .iaload, 1), (431, .invokevirtual 62, 3), (434, .if_icmp .eq 620, 3)]
set_option maxRecDepth 20000 in
theorem ktO_10 : tabOK cL_law tO_10 = true := by decide +kernel
theorem op_10 (h : INV σ A) (hi : i + 6 ≤ gL G) (hL : gL G ≤ 3072) (K : ∀ (A' : AH) (σ' : SS), INV σ' A' → Gf X G NC cl sl (mLw []) 13 1054 (Lw i) [] A') : Gf X G NC cl sl (mLw []) 13 416 (Lw i) [] A := by
  refine gf_T ktO_10 ?_
  have h0 := h.1.1
  obtain ⟨z1, bz1, e1⟩ := iz (gX G (i + 1))
  obtain ⟨x, A1, A2, σ', r1, r2, ⟨fs, e43⟩, hI⟩ := b_raise h bz1
  obtain ⟨z, hz, rfl⟩ := iz x
  refine fr_run (pc' := 420) 4 rfl ?_
  refine fr_iadd rfl ?_
  refine fr_sld (j := i + 1) rfl (ix_i rfl (by omega) (by omega)) ?_
  rw [e1]
  refine fr_callV (As := [_]) lk_8_59 rfl rfl r1 h0 (Nat.le_of_ble_eq_true rfl) rfl rfl rfl rfl rfl ?_
  refine fr_run (pc' := 429) 4 rfl ?_
  refine fr_iadd rfl ?_
  refine fr_sld (j := i + 1) rfl (ix_i rfl (by omega) (by omega)) ?_
  rw [e1]
  refine fr_callV (As := [_]) lk_8_62 rfl rfl r2 e43 (Nat.le_of_ble_eq_true rfl) rfl rfl rfl rfl rfl ?_
  refine fr_icT (t := 1054) rfl (by decide) hz hz (cI_eq rfl) ?_
  exact gf_T rfl (K A2 σ' hI)
def tO_11 : Tab := [(439, .aload_n 1, 1), (440, .aload_n 0, 1), (441, .iload_n 3, 1), (442, .iconst 1, 1), (443, .iadd, 1), (444, .iaload, 1), (445, .aload_n 0, 1), (446, .iload_n 3, 1), (447, .iconst 2, 1), (448, .iadd, 1), (449, .iaload, 1), (450, .invokevirtual 63, 3), (453, .aload_n 2, 1), (454, .aload_n 0, 1), (455, .iload_n 3, 1), (456, .iconst 1, 1), (457, .iadd, 1), (458, .iaload, 1), (459, .aload_n 0, 1), (460, .iload_n 3, 1), (461, .iconst 2, 1), (462, .iadd, 1), (463, .iaload, 1), (464, .invokevirtual 66, 3), (467, .if_icmp .eq 587, 3)]
set_option maxRecDepth 20000 in
theorem ktO_11 : tabOK cL_law tO_11 = true := by decide +kernel
theorem op_11 (h : INV σ A) (hi : i + 6 ≤ gL G) (hL : gL G ≤ 3072) (K : ∀ (A' : AH) (σ' : SS), INV σ' A' → Gf X G NC cl sl (mLw []) 13 1054 (Lw i) [] A') : Gf X G NC cl sl (mLw []) 13 439 (Lw i) [] A := by
  refine gf_T ktO_11 ?_
  have h0 := h.1.1
  obtain ⟨z1, bz1, e1⟩ := iz (gX G (i + 1))
  obtain ⟨z2, bz2, e2⟩ := iz (gX G (i + 2))
  obtain ⟨x, A1, A2, σ', r1, r2, ⟨fs, e43⟩, hI⟩ := b_change h bz1 bz2
  obtain ⟨z, hz, rfl⟩ := iz x
  refine fr_run (pc' := 443) 4 rfl ?_
  refine fr_iadd rfl ?_
  refine fr_sld (j := i + 1) rfl (ix_i rfl (by omega) (by omega)) ?_
  rw [e1]
  refine fr_run (pc' := 448) 3 rfl ?_
  refine fr_iadd rfl ?_
  refine fr_sld (j := i + 2) rfl (ix_i rfl (by omega) (by omega)) ?_
  rw [e2]
  refine fr_callV (As := [_, _]) lk_8_63 rfl rfl r1 h0 (Nat.le_of_ble_eq_true rfl) rfl rfl rfl rfl rfl ?_
  refine fr_run (pc' := 457) 4 rfl ?_
  refine fr_iadd rfl ?_
  refine fr_sld (j := i + 1) rfl (ix_i rfl (by omega) (by omega)) ?_
  rw [e1]
  refine fr_run (pc' := 462) 3 rfl ?_
  refine fr_iadd rfl ?_
  refine fr_sld (j := i + 2) rfl (ix_i rfl (by omega) (by omega)) ?_
  rw [e2]
  refine fr_callV (As := [_, _]) lk_8_66 rfl rfl r2 e43 (Nat.le_of_ble_eq_true rfl) rfl rfl rfl rfl rfl ?_
  refine fr_icT (t := 1054) rfl (by decide) hz hz (cI_eq rfl) ?_
  exact gf_T rfl (K A2 σ' hI)
def tO_12 : Tab := [(472, .aload_n 1, 1), (473, .invokevirtual 67, 3), (476, .aload_n 2, 1), (477, .invokevirtual 70, 3), (480, .if_icmp .eq 574, 3)]
set_option maxRecDepth 20000 in
theorem ktO_12 : tabOK cL_law tO_12 = true := by decide +kernel
theorem op_12 (h : INV σ A) (hi : i + 6 ≤ gL G) (hL : gL G ≤ 3072) (K : ∀ (A' : AH) (σ' : SS), INV σ' A' → Gf X G NC cl sl (mLw []) 13 1054 (Lw i) [] A') : Gf X G NC cl sl (mLw []) 13 472 (Lw i) [] A := by
  refine gf_T ktO_12 ?_
  have h0 := h.1.1
  obtain ⟨x, A1, A2, σ', r1, r2, ⟨fs, e43⟩, hI⟩ := b_undo h 
  obtain ⟨z, hz, rfl⟩ := iz x
  refine fr_run (pc' := 473) 1 rfl ?_
  refine fr_callV (As := []) lk_8_67 rfl rfl r1 h0 (Nat.le_of_ble_eq_true rfl) rfl rfl rfl rfl rfl ?_
  refine fr_run (pc' := 477) 1 rfl ?_
  refine fr_callV (As := []) lk_8_70 rfl rfl r2 e43 (Nat.le_of_ble_eq_true rfl) rfl rfl rfl rfl rfl ?_
  refine fr_icT (t := 1054) rfl (by decide) hz hz (cI_eq rfl) ?_
  exact gf_T rfl (K A2 σ' hI)
def tO_13 : Tab := [(485, .aload_n 1, 1), (486, .aload_n 0, 1), (487, .iload_n 3, 1), (488, .iconst 1, 1), (489, .iadd, 1), (490, .iaload, 1), (491, .invokevirtual 71, 3), (494, .aload_n 2, 1), (495, .aload_n 0, 1), (496, .iload_n 3, 1), (497, .iconst 1, 1), (498, .iadd, 1), (499, .iaload, 1), (500, .invokevirtual 74, 3), (503, .if_icmp .eq 551, 3)]
set_option maxRecDepth 20000 in
theorem ktO_13 : tabOK cL_law tO_13 = true := by decide +kernel
theorem op_13 (h : INV σ A) (hi : i + 6 ≤ gL G) (hL : gL G ≤ 3072) (K : ∀ (A' : AH) (σ' : SS), INV σ' A' → Gf X G NC cl sl (mLw []) 13 1054 (Lw i) [] A') : Gf X G NC cl sl (mLw []) 13 485 (Lw i) [] A := by
  refine gf_T ktO_13 ?_
  have h0 := h.1.1
  obtain ⟨z1, bz1, e1⟩ := iz (gX G (i + 1))
  obtain ⟨x, A1, A2, σ', r1, r2, ⟨fs, e43⟩, hI⟩ := b_cycle h bz1
  obtain ⟨z, hz, rfl⟩ := iz x
  refine fr_run (pc' := 489) 4 rfl ?_
  refine fr_iadd rfl ?_
  refine fr_sld (j := i + 1) rfl (ix_i rfl (by omega) (by omega)) ?_
  rw [e1]
  refine fr_callV (As := [_]) lk_8_71 rfl rfl r1 h0 (Nat.le_of_ble_eq_true rfl) rfl rfl rfl rfl rfl ?_
  refine fr_run (pc' := 498) 4 rfl ?_
  refine fr_iadd rfl ?_
  refine fr_sld (j := i + 1) rfl (ix_i rfl (by omega) (by omega)) ?_
  rw [e1]
  refine fr_callV (As := [_]) lk_8_74 rfl rfl r2 e43 (Nat.le_of_ble_eq_true rfl) rfl rfl rfl rfl rfl ?_
  refine fr_icT (t := 1054) rfl (by decide) hz hz (cI_eq rfl) ?_
  exact gf_T rfl (K A2 σ' hI)
def tO_14 : Tab := [(508, .aload_n 1, 1), (509, .aload_n 0, 1), (510, .iload_n 3, 1), (511, .iconst 1, 1), (512, .iadd, 1), (513, .iaload, 1), (514, .invokevirtual 75, 3), (517, .aload_n 2, 1), (518, .aload_n 0, 1), (519, .iload_n 3, 1), (520, .iconst 1, 1), (521, .iadd, 1), (522, .iaload, 1), (523, .invokevirtual 78, 3), (526, .if_icmp .eq 528, 3)]
set_option maxRecDepth 20000 in
theorem ktO_14 : tabOK cL_law tO_14 = true := by decide +kernel
theorem op_14 (h : INV σ A) (hi : i + 6 ≤ gL G) (hL : gL G ≤ 3072) (K : ∀ (A' : AH) (σ' : SS), INV σ' A' → Gf X G NC cl sl (mLw []) 13 1054 (Lw i) [] A') : Gf X G NC cl sl (mLw []) 13 508 (Lw i) [] A := by
  refine gf_T ktO_14 ?_
  have h0 := h.1.1
  obtain ⟨z1, bz1, e1⟩ := iz (gX G (i + 1))
  obtain ⟨x, A1, A2, σ', r1, r2, ⟨fs, e43⟩, hI⟩ := b_ball h bz1
  obtain ⟨z, hz, rfl⟩ := iz x
  refine fr_run (pc' := 512) 4 rfl ?_
  refine fr_iadd rfl ?_
  refine fr_sld (j := i + 1) rfl (ix_i rfl (by omega) (by omega)) ?_
  rw [e1]
  refine fr_callV (As := [_]) lk_8_75 rfl rfl r1 h0 (Nat.le_of_ble_eq_true rfl) rfl rfl rfl rfl rfl ?_
  refine fr_run (pc' := 521) 4 rfl ?_
  refine fr_iadd rfl ?_
  refine fr_sld (j := i + 1) rfl (ix_i rfl (by omega) (by omega)) ?_
  rw [e1]
  refine fr_callV (As := [_]) lk_8_78 rfl rfl r2 e43 (Nat.le_of_ble_eq_true rfl) rfl rfl rfl rfl rfl ?_
  refine fr_icT (t := 1054) rfl (by decide) hz hz (cI_eq rfl) ?_
  exact gf_T rfl (K A2 σ' hI)
def tO_15 : Tab := [(531, .aload_n 1, 1), (532, .aload_n 0, 1), (533, .iload_n 3, 1), (534, .iconst 1, 1), (535, .iadd, 1), (536, .iaload, 1), (537, .aload_n 0, 1), (538, .iload_n 3, 1), (539, .iconst 2, 1), (540, .iadd, 1), (541, .iaload, 1), (542, .aload_n 0, 1), (543, .iload_n 3, 1), (544, .iconst 3, 1), (545, .iadd, 1), (546, .iaload, 1), (547, .invokevirtual 79, 3), (550, .aload_n 2, 1), (551, .aload_n 0, 1), (552, .iload_n 3, 1), (553, .iconst 1, 1), (554, .iadd, 1), (555, .iaload, 1), (556, .aload_n 0, 1), (557, .iload_n 3, 1), (558, .iconst 2, 1), (559, .iadd, 1), (560, .iaload, 1), (561, .aload_n 0, 1), (562, .iload_n 3, 1), (563, .iconst 3, 1), (564, .iadd, 1), (565, .iaload, 1), (566, .invokevirtual 83, 3), (569, .if_icmp .eq 485, 3)]
set_option maxRecDepth 20000 in
theorem ktO_15 : tabOK cL_law tO_15 = true := by decide +kernel
theorem op_15 (h : INV σ A) (hi : i + 6 ≤ gL G) (hL : gL G ≤ 3072) (K : ∀ (A' : AH) (σ' : SS), INV σ' A' → Gf X G NC cl sl (mLw []) 13 1054 (Lw i) [] A') : Gf X G NC cl sl (mLw []) 13 531 (Lw i) [] A := by
  refine gf_T ktO_15 ?_
  have h0 := h.1.1
  obtain ⟨z1, bz1, e1⟩ := iz (gX G (i + 1))
  obtain ⟨z2, bz2, e2⟩ := iz (gX G (i + 2))
  obtain ⟨z3, bz3, e3⟩ := iz (gX G (i + 3))
  obtain ⟨x, A1, A2, σ', r1, r2, ⟨fs, e43⟩, hI⟩ := b_hands h bz1 bz2 bz3
  obtain ⟨z, hz, rfl⟩ := iz x
  refine fr_run (pc' := 535) 4 rfl ?_
  refine fr_iadd rfl ?_
  refine fr_sld (j := i + 1) rfl (ix_i rfl (by omega) (by omega)) ?_
  rw [e1]
  refine fr_run (pc' := 540) 3 rfl ?_
  refine fr_iadd rfl ?_
  refine fr_sld (j := i + 2) rfl (ix_i rfl (by omega) (by omega)) ?_
  rw [e2]
  refine fr_run (pc' := 545) 3 rfl ?_
  refine fr_iadd rfl ?_
  refine fr_sld (j := i + 3) rfl (ix_i rfl (by omega) (by omega)) ?_
  rw [e3]
  refine fr_callV (As := [_, _, _]) lk_8_79 rfl rfl r1 h0 (Nat.le_of_ble_eq_true rfl) rfl rfl rfl rfl rfl ?_
  refine fr_run (pc' := 554) 4 rfl ?_
  refine fr_iadd rfl ?_
  refine fr_sld (j := i + 1) rfl (ix_i rfl (by omega) (by omega)) ?_
  rw [e1]
  refine fr_run (pc' := 559) 3 rfl ?_
  refine fr_iadd rfl ?_
  refine fr_sld (j := i + 2) rfl (ix_i rfl (by omega) (by omega)) ?_
  rw [e2]
  refine fr_run (pc' := 564) 3 rfl ?_
  refine fr_iadd rfl ?_
  refine fr_sld (j := i + 3) rfl (ix_i rfl (by omega) (by omega)) ?_
  rw [e3]
  refine fr_callV (As := [_, _, _]) lk_8_83 rfl rfl r2 e43 (Nat.le_of_ble_eq_true rfl) rfl rfl rfl rfl rfl ?_
  refine fr_icT (t := 1054) rfl (by decide) hz hz (cI_eq rfl) ?_
  exact gf_T rfl (K A2 σ' hI)
def tO_16 : Tab := [(574, .aload_n 1, 1), (575, .aload_n 0, 1), (576, .iload_n 3, 1), (577, .iconst 1, 1), (578, .iadd, 1), (579, .iaload, 1), (580, .aload_n 0, 1), (581, .iload_n 3, 1), (582, .iconst 2, 1), (583, .iadd, 1), (584, .iaload, 1), (585, .aload_n 0, 1), (586, .iload_n 3, 1), (587, .iconst 3, 1), (588, .iadd, 1), (589, .iaload, 1), (590, .invokevirtual 84, 3), (593, .aload_n 2, 1), (594, .aload_n 0, 1), (595, .iload_n 3, 1), (596, .iconst 1, 1), (597, .iadd, 1), (598, .iaload, 1), (599, .aload_n 0, 1), (600, .iload_n 3, 1), (601, .iconst 2, 1), (602, .iadd, 1), (603, .iaload, 1), (604, .aload_n 0, 1), (605, .iload_n 3, 1), (606, .iconst 3, 1), (607, .iadd, 1), (608, .iaload, 1), (609, .invokevirtual 88, 3), (612, .lcmp, 1), (613, .ifCond .eq 441, 3)]
set_option maxRecDepth 20000 in
theorem ktO_16 : tabOK cL_law tO_16 = true := by decide +kernel
theorem op_16 (h : INV σ A) (hi : i + 6 ≤ gL G) (hL : gL G ≤ 3072) (K : ∀ (A' : AH) (σ' : SS), INV σ' A' → Gf X G NC cl sl (mLw []) 13 1054 (Lw i) [] A') : Gf X G NC cl sl (mLw []) 13 574 (Lw i) [] A := by
  refine gf_T ktO_16 ?_
  have h0 := h.1.1
  obtain ⟨z1, bz1, e1⟩ := iz (gX G (i + 1))
  obtain ⟨z2, bz2, e2⟩ := iz (gX G (i + 2))
  obtain ⟨z3, bz3, e3⟩ := iz (gX G (i + 3))
  obtain ⟨x, A1, A2, σ', r1, r2, ⟨fs, e43⟩, hI⟩ := b_all h bz1 bz2 bz3
  obtain ⟨z, hz, rfl⟩ := lz x
  refine fr_run (pc' := 578) 4 rfl ?_
  refine fr_iadd rfl ?_
  refine fr_sld (j := i + 1) rfl (ix_i rfl (by omega) (by omega)) ?_
  rw [e1]
  refine fr_run (pc' := 583) 3 rfl ?_
  refine fr_iadd rfl ?_
  refine fr_sld (j := i + 2) rfl (ix_i rfl (by omega) (by omega)) ?_
  rw [e2]
  refine fr_run (pc' := 588) 3 rfl ?_
  refine fr_iadd rfl ?_
  refine fr_sld (j := i + 3) rfl (ix_i rfl (by omega) (by omega)) ?_
  rw [e3]
  refine fr_callV (As := [_, _, _]) lk_8_84 rfl rfl r1 h0 (Nat.le_of_ble_eq_true rfl) rfl rfl rfl rfl rfl ?_
  refine fr_run (pc' := 597) 4 rfl ?_
  refine fr_iadd rfl ?_
  refine fr_sld (j := i + 1) rfl (ix_i rfl (by omega) (by omega)) ?_
  rw [e1]
  refine fr_run (pc' := 602) 3 rfl ?_
  refine fr_iadd rfl ?_
  refine fr_sld (j := i + 2) rfl (ix_i rfl (by omega) (by omega)) ?_
  rw [e2]
  refine fr_run (pc' := 607) 3 rfl ?_
  refine fr_iadd rfl ?_
  refine fr_sld (j := i + 3) rfl (ix_i rfl (by omega) (by omega)) ?_
  rw [e3]
  refine fr_callV (As := [_, _, _]) lk_8_88 rfl rfl r2 e43 (Nat.le_of_ble_eq_true rfl) rfl rfl rfl rfl rfl ?_
  refine fr_lcmp rfl hz hz ?_
  rw [cmpZ_eq rfl]
  refine fr_ifT (t := 1054) rfl (by decide) (by omega) (cI_eq rfl) ?_
  exact gf_T rfl (K A2 σ' hI)
def tO_17 : Tab := [(618, .aload_n 1, 1), (619, .aload_n 0, 1), (620, .iload_n 3, 1), (621, .iconst 1, 1), (622, .iadd, 1), (623, .iaload, 1), (624, .aload_n 0, 1), (625, .iload_n 3, 1), (626, .iconst 2, 1), (627, .iadd, 1), (628, .iaload, 1), (629, .aload_n 0, 1), (630, .iload_n 3, 1), (631, .iconst 3, 1), (632, .iadd, 1), (633, .iaload, 1), (634, .aload_n 0, 1), (635, .iload_n 3, 1), (636, .iconst 4, 1), (637, .iadd, 1), (638, .iaload, 1), (639, .i2l, 1), (640, .bipush 32, 2), (642, .lshl, 1), (643, .aload_n 0, 1), (644, .iload_n 3, 1), (645, .iconst 5, 1), (646, .iadd, 1), (647, .iaload, 1), (648, .i2l, 1), (649, .ldc2_w 13, 3), (652, .land, 1), (653, .lor, 1), (654, .invokevirtual 89, 3), (657, .aload_n 2, 1), (658, .aload_n 0, 1), (659, .iload_n 3, 1), (660, .iconst 1, 1), (661, .iadd, 1), (662, .iaload, 1), (663, .aload_n 0, 1), (664, .iload_n 3, 1), (665, .iconst 2, 1), (666, .iadd, 1), (667, .iaload, 1), (668, .aload_n 0, 1), (669, .iload_n 3, 1), (670, .iconst 3, 1), (671, .iadd, 1), (672, .iaload, 1), (673, .aload_n 0, 1), (674, .iload_n 3, 1), (675, .iconst 4, 1), (676, .iadd, 1), (677, .iaload, 1), (678, .i2l, 1), (679, .bipush 32, 2), (681, .lshl, 1), (682, .aload_n 0, 1), (683, .iload_n 3, 1), (684, .iconst 5, 1), (685, .iadd, 1), (686, .iaload, 1), (687, .i2l, 1), (688, .ldc2_w 13, 3), (691, .land, 1), (692, .lor, 1), (693, .invokevirtual 93, 3), (696, .if_icmp .eq 358, 3)]
set_option maxRecDepth 20000 in
theorem ktO_17 : tabOK cL_law tO_17 = true := by decide +kernel
theorem op_17 (h : INV σ A) (hi : i + 6 ≤ gL G) (hL : gL G ≤ 3072) (K : ∀ (A' : AH) (σ' : SS), INV σ' A' → Gf X G NC cl sl (mLw []) 13 1054 (Lw i) [] A') : Gf X G NC cl sl (mLw []) 13 618 (Lw i) [] A := by
  refine gf_T ktO_17 ?_
  have h0 := h.1.1
  obtain ⟨z1, bz1, e1⟩ := iz (gX G (i + 1))
  obtain ⟨z2, bz2, e2⟩ := iz (gX G (i + 2))
  obtain ⟨z3, bz3, e3⟩ := iz (gX G (i + 3))
  obtain ⟨v, bv, ev⟩ := lz (((gX G (i + 4)).toInt64 <<< ((iI 32).toInt64 &&& 63)) ||| ((gX G (i + 5)).toInt64 &&& lI 4294967295))
  obtain ⟨x, A1, A2, σ', r1, r2, ⟨fs, e43⟩, hI⟩ := b_nth h bz1 bz2 bz3 bv
  obtain ⟨z, hz, rfl⟩ := iz x
  refine fr_run (pc' := 622) 4 rfl ?_
  refine fr_iadd rfl ?_
  refine fr_sld (j := i + 1) rfl (ix_i rfl (by omega) (by omega)) ?_
  rw [e1]
  refine fr_run (pc' := 627) 3 rfl ?_
  refine fr_iadd rfl ?_
  refine fr_sld (j := i + 2) rfl (ix_i rfl (by omega) (by omega)) ?_
  rw [e2]
  refine fr_run (pc' := 632) 3 rfl ?_
  refine fr_iadd rfl ?_
  refine fr_sld (j := i + 3) rfl (ix_i rfl (by omega) (by omega)) ?_
  rw [e3]
  refine fr_run (pc' := 637) 3 rfl ?_
  refine fr_iadd rfl ?_
  refine fr_sld (j := i + 4) rfl (ix_i rfl (by omega) (by omega)) ?_
  refine fr_i2lx rfl ?_
  refine fr_run (pc' := 642) 1 rfl ?_
  refine fr_lshl rfl ?_
  refine fr_run (pc' := 646) 3 rfl ?_
  refine fr_iadd rfl ?_
  refine fr_sld (j := i + 5) rfl (ix_i rfl (by omega) (by omega)) ?_
  refine fr_i2lx rfl ?_
  refine fr_run (pc' := 652) 1 rfl ?_
  refine fr_land rfl ?_
  refine fr_lor rfl ?_
  refine fr_tl ev ?_
  refine fr_callV (As := [_, _, _, _]) lk_8_89 rfl rfl r1 h0 (Nat.le_of_ble_eq_true rfl) rfl rfl rfl rfl rfl ?_
  refine fr_run (pc' := 661) 4 rfl ?_
  refine fr_iadd rfl ?_
  refine fr_sld (j := i + 1) rfl (ix_i rfl (by omega) (by omega)) ?_
  rw [e1]
  refine fr_run (pc' := 666) 3 rfl ?_
  refine fr_iadd rfl ?_
  refine fr_sld (j := i + 2) rfl (ix_i rfl (by omega) (by omega)) ?_
  rw [e2]
  refine fr_run (pc' := 671) 3 rfl ?_
  refine fr_iadd rfl ?_
  refine fr_sld (j := i + 3) rfl (ix_i rfl (by omega) (by omega)) ?_
  rw [e3]
  refine fr_run (pc' := 676) 3 rfl ?_
  refine fr_iadd rfl ?_
  refine fr_sld (j := i + 4) rfl (ix_i rfl (by omega) (by omega)) ?_
  refine fr_i2lx rfl ?_
  refine fr_run (pc' := 681) 1 rfl ?_
  refine fr_lshl rfl ?_
  refine fr_run (pc' := 685) 3 rfl ?_
  refine fr_iadd rfl ?_
  refine fr_sld (j := i + 5) rfl (ix_i rfl (by omega) (by omega)) ?_
  refine fr_i2lx rfl ?_
  refine fr_run (pc' := 691) 1 rfl ?_
  refine fr_land rfl ?_
  refine fr_lor rfl ?_
  refine fr_tl ev ?_
  refine fr_callV (As := [_, _, _, _]) lk_8_93 rfl rfl r2 e43 (Nat.le_of_ble_eq_true rfl) rfl rfl rfl rfl rfl ?_
  refine fr_icT (t := 1054) rfl (by decide) hz hz (cI_eq rfl) ?_
  exact gf_T rfl (K A2 σ' hI)
def tO_18 : Tab := [(701, .aload_n 1, 1), (702, .invokevirtual 94, 3), (705, .aload_n 2, 1), (706, .invokevirtual 98, 3), (709, .lcmp, 1), (710, .ifCond .eq 344, 3)]
set_option maxRecDepth 20000 in
theorem ktO_18 : tabOK cL_law tO_18 = true := by decide +kernel
theorem op_18 (h : INV σ A) (hi : i + 6 ≤ gL G) (hL : gL G ≤ 3072) (K : ∀ (A' : AH) (σ' : SS), INV σ' A' → Gf X G NC cl sl (mLw []) 13 1054 (Lw i) [] A') : Gf X G NC cl sl (mLw []) 13 701 (Lw i) [] A := by
  refine gf_T ktO_18 ?_
  have h0 := h.1.1
  obtain ⟨x, A1, A2, σ', r1, r2, ⟨fs, e43⟩, hI⟩ := b_rank h 
  obtain ⟨z, hz, rfl⟩ := lz x
  refine fr_run (pc' := 702) 1 rfl ?_
  refine fr_callV (As := []) lk_8_94 rfl rfl r1 h0 (Nat.le_of_ble_eq_true rfl) rfl rfl rfl rfl rfl ?_
  refine fr_run (pc' := 706) 1 rfl ?_
  refine fr_callV (As := []) lk_8_98 rfl rfl r2 e43 (Nat.le_of_ble_eq_true rfl) rfl rfl rfl rfl rfl ?_
  refine fr_lcmp rfl hz hz ?_
  rw [cmpZ_eq rfl]
  refine fr_ifT (t := 1054) rfl (by decide) (by omega) (cI_eq rfl) ?_
  exact gf_T rfl (K A2 σ' hI)
def tO_19 : Tab := [(715, .aload_n 1, 1), (716, .invokevirtual 99, 3), (719, .aload_n 2, 1), (720, .invokevirtual 102, 3), (723, .if_icmp .eq 331, 3)]
set_option maxRecDepth 20000 in
theorem ktO_19 : tabOK cL_law tO_19 = true := by decide +kernel
theorem op_19 (h : INV σ A) (hi : i + 6 ≤ gL G) (hL : gL G ≤ 3072) (K : ∀ (A' : AH) (σ' : SS), INV σ' A' → Gf X G NC cl sl (mLw []) 13 1054 (Lw i) [] A') : Gf X G NC cl sl (mLw []) 13 715 (Lw i) [] A := by
  refine gf_T ktO_19 ?_
  have h0 := h.1.1
  obtain ⟨x, A1, A2, σ', r1, r2, ⟨fs, e43⟩, hI⟩ := b_next h 
  obtain ⟨z, hz, rfl⟩ := iz x
  refine fr_run (pc' := 716) 1 rfl ?_
  refine fr_callV (As := []) lk_8_99 rfl rfl r1 h0 (Nat.le_of_ble_eq_true rfl) rfl rfl rfl rfl rfl ?_
  refine fr_run (pc' := 720) 1 rfl ?_
  refine fr_callV (As := []) lk_8_102 rfl rfl r2 e43 (Nat.le_of_ble_eq_true rfl) rfl rfl rfl rfl rfl ?_
  refine fr_icT (t := 1054) rfl (by decide) hz hz (cI_eq rfl) ?_
  exact gf_T rfl (K A2 σ' hI)
def tO_20 : Tab := [(728, .aload_n 1, 1), (729, .invokevirtual 103, 3), (732, .aload_n 2, 1), (733, .invokevirtual 106, 3), (736, .if_icmp .eq 318, 3)]
set_option maxRecDepth 20000 in
theorem ktO_20 : tabOK cL_law tO_20 = true := by decide +kernel
theorem op_20 (h : INV σ A) (hi : i + 6 ≤ gL G) (hL : gL G ≤ 3072) (K : ∀ (A' : AH) (σ' : SS), INV σ' A' → Gf X G NC cl sl (mLw []) 13 1054 (Lw i) [] A') : Gf X G NC cl sl (mLw []) 13 728 (Lw i) [] A := by
  refine gf_T ktO_20 ?_
  have h0 := h.1.1
  obtain ⟨x, A1, A2, σ', r1, r2, ⟨fs, e43⟩, hI⟩ := b_prime h 
  obtain ⟨z, hz, rfl⟩ := iz x
  refine fr_run (pc' := 729) 1 rfl ?_
  refine fr_callV (As := []) lk_8_103 rfl rfl r1 h0 (Nat.le_of_ble_eq_true rfl) rfl rfl rfl rfl rfl ?_
  refine fr_run (pc' := 733) 1 rfl ?_
  refine fr_callV (As := []) lk_8_106 rfl rfl r2 e43 (Nat.le_of_ble_eq_true rfl) rfl rfl rfl rfl rfl ?_
  refine fr_icT (t := 1054) rfl (by decide) hz hz (cI_eq rfl) ?_
  exact gf_T rfl (K A2 σ' hI)
def tO_21 : Tab := [(741, .aload_n 1, 1), (742, .aload_n 0, 1), (743, .iload_n 3, 1), (744, .iconst 1, 1), (745, .iadd, 1), (746, .iaload, 1), (747, .aload_n 0, 1), (748, .iload_n 3, 1), (749, .iconst 2, 1), (750, .iadd, 1), (751, .iaload, 1), (752, .aload_n 0, 1), (753, .iload_n 3, 1), (754, .iconst 3, 1), (755, .iadd, 1), (756, .iaload, 1), (757, .invokevirtual 107, 3), (760, .aload_n 2, 1), (761, .aload_n 0, 1), (762, .iload_n 3, 1), (763, .iconst 1, 1), (764, .iadd, 1), (765, .iaload, 1), (766, .aload_n 0, 1), (767, .iload_n 3, 1), (768, .iconst 2, 1), (769, .iadd, 1), (770, .iaload, 1), (771, .aload_n 0, 1), (772, .iload_n 3, 1), (773, .iconst 3, 1), (774, .iadd, 1), (775, .iaload, 1), (776, .invokevirtual 110, 3), (779, .if_icmp .eq 275, 3)]
set_option maxRecDepth 20000 in
theorem ktO_21 : tabOK cL_law tO_21 = true := by decide +kernel
theorem op_21 (h : INV σ A) (hi : i + 6 ≤ gL G) (hL : gL G ≤ 3072) (K : ∀ (A' : AH) (σ' : SS), INV σ' A' → Gf X G NC cl sl (mLw []) 13 1054 (Lw i) [] A') : Gf X G NC cl sl (mLw []) 13 741 (Lw i) [] A := by
  refine gf_T ktO_21 ?_
  have h0 := h.1.1
  obtain ⟨z1, bz1, e1⟩ := iz (gX G (i + 1))
  obtain ⟨z2, bz2, e2⟩ := iz (gX G (i + 2))
  obtain ⟨z3, bz3, e3⟩ := iz (gX G (i + 3))
  obtain ⟨x, A1, A2, σ', r1, r2, ⟨fs, e43⟩, hI⟩ := b_primes h bz1 bz2 bz3
  obtain ⟨z, hz, rfl⟩ := iz x
  refine fr_run (pc' := 745) 4 rfl ?_
  refine fr_iadd rfl ?_
  refine fr_sld (j := i + 1) rfl (ix_i rfl (by omega) (by omega)) ?_
  rw [e1]
  refine fr_run (pc' := 750) 3 rfl ?_
  refine fr_iadd rfl ?_
  refine fr_sld (j := i + 2) rfl (ix_i rfl (by omega) (by omega)) ?_
  rw [e2]
  refine fr_run (pc' := 755) 3 rfl ?_
  refine fr_iadd rfl ?_
  refine fr_sld (j := i + 3) rfl (ix_i rfl (by omega) (by omega)) ?_
  rw [e3]
  refine fr_callV (As := [_, _, _]) lk_8_107 rfl rfl r1 h0 (Nat.le_of_ble_eq_true rfl) rfl rfl rfl rfl rfl ?_
  refine fr_run (pc' := 764) 4 rfl ?_
  refine fr_iadd rfl ?_
  refine fr_sld (j := i + 1) rfl (ix_i rfl (by omega) (by omega)) ?_
  rw [e1]
  refine fr_run (pc' := 769) 3 rfl ?_
  refine fr_iadd rfl ?_
  refine fr_sld (j := i + 2) rfl (ix_i rfl (by omega) (by omega)) ?_
  rw [e2]
  refine fr_run (pc' := 774) 3 rfl ?_
  refine fr_iadd rfl ?_
  refine fr_sld (j := i + 3) rfl (ix_i rfl (by omega) (by omega)) ?_
  rw [e3]
  refine fr_callV (As := [_, _, _]) lk_8_110 rfl rfl r2 e43 (Nat.le_of_ble_eq_true rfl) rfl rfl rfl rfl rfl ?_
  refine fr_icT (t := 1054) rfl (by decide) hz hz (cI_eq rfl) ?_
  exact gf_T rfl (K A2 σ' hI)
def tO_22 : Tab := [(784, .aload_n 1, 1), (785, .aload_n 0, 1), (786, .iload_n 3, 1), (787, .iconst 1, 1), (788, .iadd, 1), (789, .iaload, 1), (790, .aload_n 0, 1), (791, .iload_n 3, 1), (792, .iconst 2, 1), (793, .iadd, 1), (794, .iaload, 1), (795, .aload_n 0, 1), (796, .iload_n 3, 1), (797, .iconst 3, 1), (798, .iadd, 1), (799, .iaload, 1), (800, .aload_n 0, 1), (801, .iload_n 3, 1), (802, .iconst 4, 1), (803, .iadd, 1), (804, .iaload, 1), (805, .invokevirtual 111, 3), (808, .aload_n 2, 1), (809, .aload_n 0, 1), (810, .iload_n 3, 1), (811, .iconst 1, 1), (812, .iadd, 1), (813, .iaload, 1), (814, .aload_n 0, 1), (815, .iload_n 3, 1), (816, .iconst 2, 1), (817, .iadd, 1), (818, .iaload, 1), (819, .aload_n 0, 1), (820, .iload_n 3, 1), (821, .iconst 3, 1), (822, .iadd, 1), (823, .iaload, 1), (824, .aload_n 0, 1), (825, .iload_n 3, 1), (826, .iconst 4, 1), (827, .iadd, 1), (828, .iaload, 1), (829, .invokevirtual 115, 3), (832, .if_icmp .eq 222, 3)]
set_option maxRecDepth 20000 in
theorem ktO_22 : tabOK cL_law tO_22 = true := by decide +kernel
theorem op_22 (h : INV σ A) (hi : i + 6 ≤ gL G) (hL : gL G ≤ 3072) (K : ∀ (A' : AH) (σ' : SS), INV σ' A' → Gf X G NC cl sl (mLw []) 13 1054 (Lw i) [] A') : Gf X G NC cl sl (mLw []) 13 784 (Lw i) [] A := by
  refine gf_T ktO_22 ?_
  have h0 := h.1.1
  obtain ⟨z1, bz1, e1⟩ := iz (gX G (i + 1))
  obtain ⟨z2, bz2, e2⟩ := iz (gX G (i + 2))
  obtain ⟨z3, bz3, e3⟩ := iz (gX G (i + 3))
  obtain ⟨z4, bz4, e4⟩ := iz (gX G (i + 4))
  obtain ⟨x, A1, A2, σ', r1, r2, ⟨fs, e43⟩, hI⟩ := b_draw h bz1 bz2 bz3 bz4
  obtain ⟨z, hz, rfl⟩ := iz x
  refine fr_run (pc' := 788) 4 rfl ?_
  refine fr_iadd rfl ?_
  refine fr_sld (j := i + 1) rfl (ix_i rfl (by omega) (by omega)) ?_
  rw [e1]
  refine fr_run (pc' := 793) 3 rfl ?_
  refine fr_iadd rfl ?_
  refine fr_sld (j := i + 2) rfl (ix_i rfl (by omega) (by omega)) ?_
  rw [e2]
  refine fr_run (pc' := 798) 3 rfl ?_
  refine fr_iadd rfl ?_
  refine fr_sld (j := i + 3) rfl (ix_i rfl (by omega) (by omega)) ?_
  rw [e3]
  refine fr_run (pc' := 803) 3 rfl ?_
  refine fr_iadd rfl ?_
  refine fr_sld (j := i + 4) rfl (ix_i rfl (by omega) (by omega)) ?_
  rw [e4]
  refine fr_callV (As := [_, _, _, _]) lk_8_111 rfl rfl r1 h0 (Nat.le_of_ble_eq_true rfl) rfl rfl rfl rfl rfl ?_
  refine fr_run (pc' := 812) 4 rfl ?_
  refine fr_iadd rfl ?_
  refine fr_sld (j := i + 1) rfl (ix_i rfl (by omega) (by omega)) ?_
  rw [e1]
  refine fr_run (pc' := 817) 3 rfl ?_
  refine fr_iadd rfl ?_
  refine fr_sld (j := i + 2) rfl (ix_i rfl (by omega) (by omega)) ?_
  rw [e2]
  refine fr_run (pc' := 822) 3 rfl ?_
  refine fr_iadd rfl ?_
  refine fr_sld (j := i + 3) rfl (ix_i rfl (by omega) (by omega)) ?_
  rw [e3]
  refine fr_run (pc' := 827) 3 rfl ?_
  refine fr_iadd rfl ?_
  refine fr_sld (j := i + 4) rfl (ix_i rfl (by omega) (by omega)) ?_
  rw [e4]
  refine fr_callV (As := [_, _, _, _]) lk_8_115 rfl rfl r2 e43 (Nat.le_of_ble_eq_true rfl) rfl rfl rfl rfl rfl ?_
  refine fr_icT (t := 1054) rfl (by decide) hz hz (cI_eq rfl) ?_
  exact gf_T rfl (K A2 σ' hI)
def tO_23 : Tab := [(837, .aload_n 1, 1), (838, .aload_n 0, 1), (839, .iload_n 3, 1), (840, .iconst 1, 1), (841, .iadd, 1), (842, .iaload, 1), (843, .invokevirtual 116, 3), (846, .aload_n 2, 1), (847, .aload_n 0, 1), (848, .iload_n 3, 1), (849, .iconst 1, 1), (850, .iadd, 1), (851, .iaload, 1), (852, .invokevirtual 119, 3), (855, .if_icmp .eq 199, 3)]
set_option maxRecDepth 20000 in
theorem ktO_23 : tabOK cL_law tO_23 = true := by decide +kernel
theorem op_23 (h : INV σ A) (hi : i + 6 ≤ gL G) (hL : gL G ≤ 3072) (K : ∀ (A' : AH) (σ' : SS), INV σ' A' → Gf X G NC cl sl (mLw []) 13 1054 (Lw i) [] A') : Gf X G NC cl sl (mLw []) 13 837 (Lw i) [] A := by
  refine gf_T ktO_23 ?_
  have h0 := h.1.1
  obtain ⟨z1, bz1, e1⟩ := iz (gX G (i + 1))
  obtain ⟨x, A1, A2, σ', r1, r2, ⟨fs, e43⟩, hI⟩ := b_in h bz1
  obtain ⟨z, hz, rfl⟩ := iz x
  refine fr_run (pc' := 841) 4 rfl ?_
  refine fr_iadd rfl ?_
  refine fr_sld (j := i + 1) rfl (ix_i rfl (by omega) (by omega)) ?_
  rw [e1]
  refine fr_callV (As := [_]) lk_8_116 rfl rfl r1 h0 (Nat.le_of_ble_eq_true rfl) rfl rfl rfl rfl rfl ?_
  refine fr_run (pc' := 850) 4 rfl ?_
  refine fr_iadd rfl ?_
  refine fr_sld (j := i + 1) rfl (ix_i rfl (by omega) (by omega)) ?_
  rw [e1]
  refine fr_callV (As := [_]) lk_8_119 rfl rfl r2 e43 (Nat.le_of_ble_eq_true rfl) rfl rfl rfl rfl rfl ?_
  refine fr_icT (t := 1054) rfl (by decide) hz hz (cI_eq rfl) ?_
  exact gf_T rfl (K A2 σ' hI)
def tO_24 : Tab := [(860, .aload_n 1, 1), (861, .aload_n 0, 1), (862, .iload_n 3, 1), (863, .iconst 1, 1), (864, .iadd, 1), (865, .iaload, 1), (866, .aload_n 0, 1), (867, .iload_n 3, 1), (868, .iconst 2, 1), (869, .iadd, 1), (870, .iaload, 1), (871, .invokevirtual 120, 3), (874, .aload_n 2, 1), (875, .aload_n 0, 1), (876, .iload_n 3, 1), (877, .iconst 1, 1), (878, .iadd, 1), (879, .iaload, 1), (880, .aload_n 0, 1), (881, .iload_n 3, 1), (882, .iconst 2, 1), (883, .iadd, 1), (884, .iaload, 1), (885, .invokevirtual 123, 3), (888, .if_icmp .eq 166, 3)]
set_option maxRecDepth 20000 in
theorem ktO_24 : tabOK cL_law tO_24 = true := by decide +kernel
theorem op_24 (h : INV σ A) (hi : i + 6 ≤ gL G) (hL : gL G ≤ 3072) (K : ∀ (A' : AH) (σ' : SS), INV σ' A' → Gf X G NC cl sl (mLw []) 13 1054 (Lw i) [] A') : Gf X G NC cl sl (mLw []) 13 860 (Lw i) [] A := by
  refine gf_T ktO_24 ?_
  have h0 := h.1.1
  obtain ⟨z1, bz1, e1⟩ := iz (gX G (i + 1))
  obtain ⟨z2, bz2, e2⟩ := iz (gX G (i + 2))
  obtain ⟨x, A1, A2, σ', r1, r2, ⟨fs, e43⟩, hI⟩ := b_out h bz1 bz2
  obtain ⟨z, hz, rfl⟩ := iz x
  refine fr_run (pc' := 864) 4 rfl ?_
  refine fr_iadd rfl ?_
  refine fr_sld (j := i + 1) rfl (ix_i rfl (by omega) (by omega)) ?_
  rw [e1]
  refine fr_run (pc' := 869) 3 rfl ?_
  refine fr_iadd rfl ?_
  refine fr_sld (j := i + 2) rfl (ix_i rfl (by omega) (by omega)) ?_
  rw [e2]
  refine fr_callV (As := [_, _]) lk_8_120 rfl rfl r1 h0 (Nat.le_of_ble_eq_true rfl) rfl rfl rfl rfl rfl ?_
  refine fr_run (pc' := 878) 4 rfl ?_
  refine fr_iadd rfl ?_
  refine fr_sld (j := i + 1) rfl (ix_i rfl (by omega) (by omega)) ?_
  rw [e1]
  refine fr_run (pc' := 883) 3 rfl ?_
  refine fr_iadd rfl ?_
  refine fr_sld (j := i + 2) rfl (ix_i rfl (by omega) (by omega)) ?_
  rw [e2]
  refine fr_callV (As := [_, _]) lk_8_123 rfl rfl r2 e43 (Nat.le_of_ble_eq_true rfl) rfl rfl rfl rfl rfl ?_
  refine fr_icT (t := 1054) rfl (by decide) hz hz (cI_eq rfl) ?_
  exact gf_T rfl (K A2 σ' hI)
def tO_25 : Tab := [(893, .aload_n 1, 1), (894, .aload_n 0, 1), (895, .iload_n 3, 1), (896, .iconst 1, 1), (897, .iadd, 1), (898, .iaload, 1), (899, .aload_n 0, 1), (900, .iload_n 3, 1), (901, .iconst 2, 1), (902, .iadd, 1), (903, .iaload, 1), (904, .invokevirtual 124, 3), (907, .aload_n 2, 1), (908, .aload_n 0, 1), (909, .iload_n 3, 1), (910, .iconst 1, 1), (911, .iadd, 1), (912, .iaload, 1), (913, .aload_n 0, 1), (914, .iload_n 3, 1), (915, .iconst 2, 1), (916, .iadd, 1), (917, .iaload, 1), (918, .invokevirtual 127, 3), (921, .if_icmp .eq 133, 3)]
set_option maxRecDepth 20000 in
theorem ktO_25 : tabOK cL_law tO_25 = true := by decide +kernel
theorem op_25 (h : INV σ A) (hi : i + 6 ≤ gL G) (hL : gL G ≤ 3072) (K : ∀ (A' : AH) (σ' : SS), INV σ' A' → Gf X G NC cl sl (mLw []) 13 1054 (Lw i) [] A') : Gf X G NC cl sl (mLw []) 13 893 (Lw i) [] A := by
  refine gf_T ktO_25 ?_
  have h0 := h.1.1
  obtain ⟨z1, bz1, e1⟩ := iz (gX G (i + 1))
  obtain ⟨z2, bz2, e2⟩ := iz (gX G (i + 2))
  obtain ⟨x, A1, A2, σ', r1, r2, ⟨fs, e43⟩, hI⟩ := b_across h bz1 bz2
  obtain ⟨z, hz, rfl⟩ := iz x
  refine fr_run (pc' := 897) 4 rfl ?_
  refine fr_iadd rfl ?_
  refine fr_sld (j := i + 1) rfl (ix_i rfl (by omega) (by omega)) ?_
  rw [e1]
  refine fr_run (pc' := 902) 3 rfl ?_
  refine fr_iadd rfl ?_
  refine fr_sld (j := i + 2) rfl (ix_i rfl (by omega) (by omega)) ?_
  rw [e2]
  refine fr_callV (As := [_, _]) lk_8_124 rfl rfl r1 h0 (Nat.le_of_ble_eq_true rfl) rfl rfl rfl rfl rfl ?_
  refine fr_run (pc' := 911) 4 rfl ?_
  refine fr_iadd rfl ?_
  refine fr_sld (j := i + 1) rfl (ix_i rfl (by omega) (by omega)) ?_
  rw [e1]
  refine fr_run (pc' := 916) 3 rfl ?_
  refine fr_iadd rfl ?_
  refine fr_sld (j := i + 2) rfl (ix_i rfl (by omega) (by omega)) ?_
  rw [e2]
  refine fr_callV (As := [_, _]) lk_8_127 rfl rfl r2 e43 (Nat.le_of_ble_eq_true rfl) rfl rfl rfl rfl rfl ?_
  refine fr_icT (t := 1054) rfl (by decide) hz hz (cI_eq rfl) ?_
  exact gf_T rfl (K A2 σ' hI)
def tO_26 : Tab := [(926, .aload_n 1, 1), (927, .invokevirtual 128, 3), (930, .aload_n 2, 1), (931, .invokevirtual 131, 3), (934, .if_icmp .eq 120, 3)]
set_option maxRecDepth 20000 in
theorem ktO_26 : tabOK cL_law tO_26 = true := by decide +kernel
theorem op_26 (h : INV σ A) (hi : i + 6 ≤ gL G) (hL : gL G ≤ 3072) (K : ∀ (A' : AH) (σ' : SS), INV σ' A' → Gf X G NC cl sl (mLw []) 13 1054 (Lw i) [] A') : Gf X G NC cl sl (mLw []) 13 926 (Lw i) [] A := by
  refine gf_T ktO_26 ?_
  have h0 := h.1.1
  obtain ⟨x, A1, A2, σ', r1, r2, ⟨fs, e43⟩, hI⟩ := b_steps h 
  obtain ⟨z, hz, rfl⟩ := iz x
  refine fr_run (pc' := 927) 1 rfl ?_
  refine fr_callV (As := []) lk_8_128 rfl rfl r1 h0 (Nat.le_of_ble_eq_true rfl) rfl rfl rfl rfl rfl ?_
  refine fr_run (pc' := 931) 1 rfl ?_
  refine fr_callV (As := []) lk_8_131 rfl rfl r2 e43 (Nat.le_of_ble_eq_true rfl) rfl rfl rfl rfl rfl ?_
  refine fr_icT (t := 1054) rfl (by decide) hz hz (cI_eq rfl) ?_
  exact gf_T rfl (K A2 σ' hI)
def tO_27 : Tab := [(939, .aload_n 1, 1), (940, .aload_n 0, 1), (941, .iload_n 3, 1), (942, .iconst 1, 1), (943, .iadd, 1), (944, .iaload, 1), (945, .aload_n 0, 1), (946, .iload_n 3, 1), (947, .iconst 2, 1), (948, .iadd, 1), (949, .iaload, 1), (950, .invokevirtual 132, 3), (953, .aload_n 2, 1), (954, .aload_n 0, 1), (955, .iload_n 3, 1), (956, .iconst 1, 1), (957, .iadd, 1), (958, .iaload, 1), (959, .aload_n 0, 1), (960, .iload_n 3, 1), (961, .iconst 2, 1), (962, .iadd, 1), (963, .iaload, 1), (964, .invokevirtual 135, 3), (967, .if_icmp .eq 87, 3)]
set_option maxRecDepth 20000 in
theorem ktO_27 : tabOK cL_law tO_27 = true := by decide +kernel
theorem op_27 (h : INV σ A) (hi : i + 6 ≤ gL G) (hL : gL G ≤ 3072) (K : ∀ (A' : AH) (σ' : SS), INV σ' A' → Gf X G NC cl sl (mLw []) 13 1054 (Lw i) [] A') : Gf X G NC cl sl (mLw []) 13 939 (Lw i) [] A := by
  refine gf_T ktO_27 ?_
  have h0 := h.1.1
  obtain ⟨z1, bz1, e1⟩ := iz (gX G (i + 1))
  obtain ⟨z2, bz2, e2⟩ := iz (gX G (i + 2))
  obtain ⟨x, A1, A2, σ', r1, r2, ⟨fs, e43⟩, hI⟩ := b_together h bz1 bz2
  obtain ⟨z, hz, rfl⟩ := iz x
  refine fr_run (pc' := 943) 4 rfl ?_
  refine fr_iadd rfl ?_
  refine fr_sld (j := i + 1) rfl (ix_i rfl (by omega) (by omega)) ?_
  rw [e1]
  refine fr_run (pc' := 948) 3 rfl ?_
  refine fr_iadd rfl ?_
  refine fr_sld (j := i + 2) rfl (ix_i rfl (by omega) (by omega)) ?_
  rw [e2]
  refine fr_callV (As := [_, _]) lk_8_132 rfl rfl r1 h0 (Nat.le_of_ble_eq_true rfl) rfl rfl rfl rfl rfl ?_
  refine fr_run (pc' := 957) 4 rfl ?_
  refine fr_iadd rfl ?_
  refine fr_sld (j := i + 1) rfl (ix_i rfl (by omega) (by omega)) ?_
  rw [e1]
  refine fr_run (pc' := 962) 3 rfl ?_
  refine fr_iadd rfl ?_
  refine fr_sld (j := i + 2) rfl (ix_i rfl (by omega) (by omega)) ?_
  rw [e2]
  refine fr_callV (As := [_, _]) lk_8_135 rfl rfl r2 e43 (Nat.le_of_ble_eq_true rfl) rfl rfl rfl rfl rfl ?_
  refine fr_icT (t := 1054) rfl (by decide) hz hz (cI_eq rfl) ?_
  exact gf_T rfl (K A2 σ' hI)
def tO_28 : Tab := [(972, .aload_n 1, 1), (973, .aload_n 0, 1), (974, .iload_n 3, 1), (975, .iconst 1, 1), (976, .iadd, 1), (977, .iaload, 1), (978, .aload_n 0, 1), (979, .iload_n 3, 1), (980, .iconst 2, 1), (981, .iadd, 1), (982, .iaload, 1), (983, .invokevirtual 136, 3), (986, .aload_n 2, 1), (987, .aload_n 0, 1), (988, .iload_n 3, 1), (989, .iconst 1, 1), (990, .iadd, 1), (991, .iaload, 1), (992, .aload_n 0, 1), (993, .iload_n 3, 1), (994, .iconst 2, 1), (995, .iadd, 1), (996, .iaload, 1), (997, .invokevirtual 139, 3), (1000, .if_icmp .eq 54, 3)]
set_option maxRecDepth 20000 in
theorem ktO_28 : tabOK cL_law tO_28 = true := by decide +kernel
theorem op_28 (h : INV σ A) (hi : i + 6 ≤ gL G) (hL : gL G ≤ 3072) (K : ∀ (A' : AH) (σ' : SS), INV σ' A' → Gf X G NC cl sl (mLw []) 13 1054 (Lw i) [] A') : Gf X G NC cl sl (mLw []) 13 972 (Lw i) [] A := by
  refine gf_T ktO_28 ?_
  have h0 := h.1.1
  obtain ⟨z1, bz1, e1⟩ := iz (gX G (i + 1))
  obtain ⟨z2, bz2, e2⟩ := iz (gX G (i + 2))
  obtain ⟨x, A1, A2, σ', r1, r2, ⟨fs, e43⟩, hI⟩ := b_mended h bz1 bz2
  obtain ⟨z, hz, rfl⟩ := iz x
  refine fr_run (pc' := 976) 4 rfl ?_
  refine fr_iadd rfl ?_
  refine fr_sld (j := i + 1) rfl (ix_i rfl (by omega) (by omega)) ?_
  rw [e1]
  refine fr_run (pc' := 981) 3 rfl ?_
  refine fr_iadd rfl ?_
  refine fr_sld (j := i + 2) rfl (ix_i rfl (by omega) (by omega)) ?_
  rw [e2]
  refine fr_callV (As := [_, _]) lk_8_136 rfl rfl r1 h0 (Nat.le_of_ble_eq_true rfl) rfl rfl rfl rfl rfl ?_
  refine fr_run (pc' := 990) 4 rfl ?_
  refine fr_iadd rfl ?_
  refine fr_sld (j := i + 1) rfl (ix_i rfl (by omega) (by omega)) ?_
  rw [e1]
  refine fr_run (pc' := 995) 3 rfl ?_
  refine fr_iadd rfl ?_
  refine fr_sld (j := i + 2) rfl (ix_i rfl (by omega) (by omega)) ?_
  rw [e2]
  refine fr_callV (As := [_, _]) lk_8_139 rfl rfl r2 e43 (Nat.le_of_ble_eq_true rfl) rfl rfl rfl rfl rfl ?_
  refine fr_icT (t := 1054) rfl (by decide) hz hz (cI_eq rfl) ?_
  exact gf_T rfl (K A2 σ' hI)
def tO_29 : Tab := [(1005, .aload_n 1, 1), (1006, .invokevirtual 140, 3), (1009, .aload_n 2, 1), (1010, .invokevirtual 143, 3), (1013, .if_icmp .eq 41, 3)]
set_option maxRecDepth 20000 in
theorem ktO_29 : tabOK cL_law tO_29 = true := by decide +kernel
theorem op_29 (h : INV σ A) (hi : i + 6 ≤ gL G) (hL : gL G ≤ 3072) (K : ∀ (A' : AH) (σ' : SS), INV σ' A' → Gf X G NC cl sl (mLw []) 13 1054 (Lw i) [] A') : Gf X G NC cl sl (mLw []) 13 1005 (Lw i) [] A := by
  refine gf_T ktO_29 ?_
  have h0 := h.1.1
  obtain ⟨x, A1, A2, σ', r1, r2, ⟨fs, e43⟩, hI⟩ := b_keep h 
  obtain ⟨z, hz, rfl⟩ := iz x
  refine fr_run (pc' := 1006) 1 rfl ?_
  refine fr_callV (As := []) lk_8_140 rfl rfl r1 h0 (Nat.le_of_ble_eq_true rfl) rfl rfl rfl rfl rfl ?_
  refine fr_run (pc' := 1010) 1 rfl ?_
  refine fr_callV (As := []) lk_8_143 rfl rfl r2 e43 (Nat.le_of_ble_eq_true rfl) rfl rfl rfl rfl rfl ?_
  refine fr_icT (t := 1054) rfl (by decide) hz hz (cI_eq rfl) ?_
  exact gf_T rfl (K A2 σ' hI)
def tO_30 : Tab := [(1018, .aload_n 1, 1), (1019, .invokevirtual 144, 3), (1022, .aload_n 2, 1), (1023, .invokevirtual 147, 3), (1026, .if_icmp .eq 28, 3)]
set_option maxRecDepth 20000 in
theorem ktO_30 : tabOK cL_law tO_30 = true := by decide +kernel
theorem op_30 (h : INV σ A) (hi : i + 6 ≤ gL G) (hL : gL G ≤ 3072) (K : ∀ (A' : AH) (σ' : SS), INV σ' A' → Gf X G NC cl sl (mLw []) 13 1054 (Lw i) [] A') : Gf X G NC cl sl (mLw []) 13 1018 (Lw i) [] A := by
  refine gf_T ktO_30 ?_
  have h0 := h.1.1
  obtain ⟨x, A1, A2, σ', r1, r2, ⟨fs, e43⟩, hI⟩ := b_back h 
  obtain ⟨z, hz, rfl⟩ := iz x
  refine fr_run (pc' := 1019) 1 rfl ?_
  refine fr_callV (As := []) lk_8_144 rfl rfl r1 h0 (Nat.le_of_ble_eq_true rfl) rfl rfl rfl rfl rfl ?_
  refine fr_run (pc' := 1023) 1 rfl ?_
  refine fr_callV (As := []) lk_8_147 rfl rfl r2 e43 (Nat.le_of_ble_eq_true rfl) rfl rfl rfl rfl rfl ?_
  refine fr_icT (t := 1054) rfl (by decide) hz hz (cI_eq rfl) ?_
  exact gf_T rfl (K A2 σ' hI)
def tO_31 : Tab := [(1031, .aload_n 1, 1), (1032, .aload_n 0, 1), (1033, .iload_n 3, 1), (1034, .iconst 1, 1), (1035, .iadd, 1), (1036, .iaload, 1), (1037, .invokevirtual 148, 3), (1040, .aload_n 2, 1), (1041, .aload_n 0, 1), (1042, .iload_n 3, 1), (1043, .iconst 1, 1), (1044, .iadd, 1), (1045, .iaload, 1), (1046, .invokevirtual 151, 3), (1049, .if_icmp .eq 5, 3)]
set_option maxRecDepth 20000 in
theorem ktO_31 : tabOK cL_law tO_31 = true := by decide +kernel
theorem op_31 (h : INV σ A) (hi : i + 6 ≤ gL G) (hL : gL G ≤ 3072) (K : ∀ (A' : AH) (σ' : SS), INV σ' A' → Gf X G NC cl sl (mLw []) 13 1054 (Lw i) [] A') : Gf X G NC cl sl (mLw []) 13 1031 (Lw i) [] A := by
  refine gf_T ktO_31 ?_
  have h0 := h.1.1
  obtain ⟨z1, bz1, e1⟩ := iz (gX G (i + 1))
  obtain ⟨x, A1, A2, σ', r1, r2, ⟨fs, e43⟩, hI⟩ := b_count h bz1
  obtain ⟨z, hz, rfl⟩ := iz x
  refine fr_run (pc' := 1035) 4 rfl ?_
  refine fr_iadd rfl ?_
  refine fr_sld (j := i + 1) rfl (ix_i rfl (by omega) (by omega)) ?_
  rw [e1]
  refine fr_callV (As := [_]) lk_8_148 rfl rfl r1 h0 (Nat.le_of_ble_eq_true rfl) rfl rfl rfl rfl rfl ?_
  refine fr_run (pc' := 1044) 4 rfl ?_
  refine fr_iadd rfl ?_
  refine fr_sld (j := i + 1) rfl (ix_i rfl (by omega) (by omega)) ?_
  rw [e1]
  refine fr_callV (As := [_]) lk_8_151 rfl rfl r2 e43 (Nat.le_of_ble_eq_true rfl) rfl rfl rfl rfl rfl ?_
  refine fr_icT (t := 1054) rfl (by decide) hz hz (cI_eq rfl) ?_
  exact gf_T rfl (K A2 σ' hI)
end LW
def tHd : Tab := [(18, .iload_n 3, 1), (19, .aload_n 0, 1), (20, .arraylength, 1), (21, .bipush 6, 2), (23, .isub, 1), (24, .if_icmp .gt 1036, 3), (27, .aload_n 0, 1), (28, .iload_n 3, 1), (29, .iaload, 1), (30, .bipush 31, 2), (32, .iand, 1)]
set_option maxRecDepth 20000 in
theorem ktHd : tabOK cL_law tHd = true := by decide +kernel
def tSw : Tab := [(33, .tableswitch 1021 0 31 #[143, 206, 219, 232, 245, 268, 301, 324, 347, 370, 383, 406, 439, 452, 475, 498, 541, 585, 668, 682, 695, 708, 751, 804, 827, 860, 893, 906, 939, 972, 985, 998], 143)]
set_option maxRecDepth 20000 in
theorem ktSw : tabOK cL_law tSw = true := by decide +kernel
def tSt : Tab := [(0, .new 7, 3), (3, .dup, 1), (4, .invokespecial 9, 3), (7, .astore_n 1, 1), (8, .new 10, 3), (11, .dup, 1), (12, .invokespecial 12, 3), (15, .astore_n 2, 1), (16, .iconst 0, 1), (17, .istore_n 3, 1)]
set_option maxRecDepth 20000 in
theorem ktSt : tabOK cL_law tSt = true := by decide +kernel
def tEn : Tab := [(1054, .iinc 3 6, 3), (1057, .goto (-1039), 3), (1060, .iconst 1, 1), (1061, .ireturn, 1)]
set_option maxRecDepth 20000 in
theorem ktEn : tabOK cL_law tEn = true := by decide +kernel
