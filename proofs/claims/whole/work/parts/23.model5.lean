/-! the bytes of a long -/
def byV (v : Int64) (k : Nat) : BitVec 32 := (v.toBitVec >>> (8 * k)).setWidth 32 &&& 255#32
def byN (v : Int64) (k : Nat) : Nat := (byV v k).toNat
theorem byN_lt (v : Int64) (k : Nat) : byN v k < 256 := by
  have h : byN v k ≤ (255#32).toNat := by unfold byN byV; rw [BitVec.toNat_and]; exact Nat.and_le_right
  have e : (255#32).toNat = 255 := by decide
  omega
theorem byV_iI (v : Int64) (k : Nat) : Int32.ofBitVec (byV v k) = iI (byN v k : Int) := by
  unfold iI byN
  apply Int32.toBitVec_inj.mp
  rw [Int32.toBitVec_ofBitVec]
  show _ = BitVec.ofInt 32 ((byV v k).toNat : Int)
  rw [BitVec.ofInt_natCast, BitVec.ofNat_toNat, BitVec.setWidth_eq]
theorem b255 : ∀ i : Fin 64, (255#64).getLsbD i.val = decide (i.val < 8) := by decide
theorem b255' : ∀ i : Fin 32, (255#32).getLsbD i.val = decide (i.val < 8) := by decide
theorem by_bv {x : BitVec 64} {s : Nat} (hs : s ≤ 56) : (x.sshiftRight s &&& 255#64).setWidth 32 = (x >>> s).setWidth 32 &&& 255#32 := by
  apply BitVec.eq_of_getLsbD_eq
  intro i hi
  rw [BitVec.getLsbD_setWidth, BitVec.getLsbD_and, BitVec.getLsbD_and, BitVec.getLsbD_setWidth, BitVec.getLsbD_ushiftRight, b255 ⟨i, by omega⟩, b255' ⟨i, hi⟩, BitVec.getLsbD_sshiftRight]
  by_cases h : i < 8
  · rw [if_pos (by omega)]; simp [hi, h]; omega
  · simp [h]
theorem by_m {v : Int64} : ∀ {k : Nat}, k < 8 → ((v >>> ((iI (8 * (k : Int))).toInt64 &&& 63)) &&& lI 255).toInt32 = iI (byN v k : Int) := by
  intro k hk
  rw [← byV_iI]
  apply Int32.toBitVec_inj.mp
  rw [Int32.toBitVec_ofBitVec]
  have key : ∀ (c : Int64) (s : Nat), s ≤ 56 → (c.toBitVec.smod 64).toNat = s → ((v >>> c) &&& lI 255).toInt32.toBitVec = (v.toBitVec >>> s).setWidth 32 &&& 255#32 := by
    intro c s hs hc
    rw [← by_bv hs, Int64.toBitVec_toInt32, Int64.toBitVec_and, Int64.toBitVec_shiftRight, BitVec.sshiftRight_eq', hc, show (lI 255).toBitVec = 255#64 by decide, BitVec.signExtend_eq_setWidth_of_le _ (by omega)]
  have : k = 0 ∨ k = 1 ∨ k = 2 ∨ k = 3 ∨ k = 4 ∨ k = 5 ∨ k = 6 ∨ k = 7 := by omega
  rcases this with e | e | e | e | e | e | e | e <;> subst e <;> exact key _ _ (by decide) (by decide)
theorem by_c {v : Int64} : ∀ {k : Nat}, k < 8 → ((v.toUInt64 >>> ((iI (8 * (k : Int))).toInt64.toUInt64 &&& Int64.toUInt64 63)).toInt64).toInt32 &&& iI 255 = iI (byN v k : Int) := by
  intro k hk
  rw [← byV_iI]
  apply Int32.toBitVec_inj.mp
  rw [Int32.toBitVec_ofBitVec]
  have key : ∀ (c : UInt64) (s : Nat), (c.toBitVec % 64).toNat = s → (((v.toUInt64 >>> c).toInt64).toInt32 &&& iI 255).toBitVec = (v.toBitVec >>> s).setWidth 32 &&& 255#32 := by
    intro c s hc
    rw [Int32.toBitVec_and, Int64.toBitVec_toInt32, show (iI 255).toBitVec = 255#32 by decide, BitVec.signExtend_eq_setWidth_of_le _ (by omega)]
    congr 2
    show (v.toUInt64 >>> c).toBitVec = _
    rw [UInt64.toBitVec_shiftRight, BitVec.ushiftRight_eq', hc]
    rfl
  have : k = 0 ∨ k = 1 ∨ k = 2 ∨ k = 3 ∨ k = 4 ∨ k = 5 ∨ k = 6 ∨ k = 7 := by omega
  rcases this with e | e | e | e | e | e | e | e <;> subst e <;> exact key _ _ (by decide)
/-- the text with so many of the long's bytes behind it -/
def wrF (v : Int64) : Nat → Pn → Pn
  | 0, t => t
  | m + 1, t => wrF v m (t.1 + 1, fun i => if i = t.1 then byN v m else t.2 i)
theorem wrF_1 {v : Int64} : ∀ {m : Nat} {t : Pn}, (wrF v m t).1 = t.1 + m
  | 0, _ => rfl
  | m + 1, t => by
    show (wrF v m _).1 = _
    rw [wrF_1]; simp only; omega
theorem wrF_ok {v : Int64} : ∀ {m : Nat} {t : Pn}, t.1 + m ≤ 40 → okX t → okX (wrF v m t)
  | 0, _, _, h => h
  | m + 1, t, h1, h2 => by
    refine wrF_ok (t := (t.1 + 1, fun i => if i = t.1 then byN v m else t.2 i)) (show t.1 + 1 + m ≤ 40 by omega) ⟨show t.1 + 1 ≤ 40 by omega, fun i (hi : i < t.1 + 1) => ?_⟩
    show (if i = t.1 then byN v m else t.2 i) < 256
    split
    · exact byN_lt v m
    · exact h2.2 i (by omega)
section MB
variable {d : Nat} {A : AH} {σ : SS}
def wrA (σ : SS) (n : Int) (v : Int64) : Int := if n < 1 ∨ 8 < n then -1 else if 40 < (σ.1.1 : Int) + n then -3 else (σ.1.1 : Int) + n
def wrS (σ : SS) (n : Int) (v : Int64) : SS := if wrA σ n v < 0 then σ else (wrF v n.toNat σ.1, σ.2)
theorem m_writeN {v : Int64} : ∀ {m : Nat} {σ : SS} {A : AH} {x : Int32}, RepM σ A → σ.1.1 + m ≤ 40 → m ≤ 8 →
    ∃ A', Gr mX7_write (d + 1) 33 [some (.ref 43), some (.int x), some (.long v), none, some (.int (iI ((m : Int) - 1)))] [] A (some (.int (iI ((wrF v m σ.1).1 : Int)))) A' ∧ RepM (wrF v m σ.1, σ.2) A' ∧ offE A A' 43 56
  | 0, σ, A, x, hR, hm, h8 => by
    have hR' := hR
    obtain ⟨h0, -⟩ := hR
    refine ⟨A, ?_, hR', offE.rf⟩
    refine gr_run (pc' := 35) 1 rfl ?_
    refine gr_ifT (t := 75) rfl (by decide) (by omega) (cI_lt (by omega)) ?_
    refine gr_run (pc' := 76) 1 rfl ?_
    refine gr_getf rfl rfl (by repeat (first | exact up_s | assumption | refine up_n (by first | assumption | decide | omega) ?_)) (by first | assumption | rfl) rfl ?_
    exact gr_ret rfl rfl
  | m + 1, σ, A, x, hR, hm, h8 => by
    obtain ⟨h0, ⟨f, e1, e2⟩, h2, h3, h4, h5, h6⟩ := hR
    have hR2 : RepM ((σ.1.1 + 1, fun i => if i = σ.1.1 then byN v m else σ.1.2 i), σ.2) (va_up (va_up A 44 (Ia 40 (upd f σ.1.1 (iI (byN v m : Int))))) 43 (mdl (σ.1.1 + 1) σ.2.1.1 σ.2.2.1.1 σ.2.2.2.1.1 σ.2.2.2.2.1)) := by
      refine ⟨up_s, ⟨_, up_n (by decide) up_s, ?_⟩, h2.o ((up_o (by decide)).trans (up_o (by decide))), h3.o ((up_o (by decide)).trans (up_o (by decide))), h4.o ((up_o (by decide)).trans (up_o (by decide))), h5.o ((up_o (by decide)).trans (up_o (by decide))), h6.o (fun k _ _ => (up_o (by omega)).trans (up_o (by omega)))⟩
      intro i hi
      simp only at hi ⊢
      by_cases e : i = σ.1.1
      · rw [if_pos e, e]; unfold upd; rw [if_pos rfl]
      · rw [if_neg e]; unfold upd; rw [if_neg e]; exact e2 i (by omega)
    obtain ⟨A', g, r, o⟩ := m_writeN (m := m) (x := x) hR2 (by simp only; omega) (by omega)
    refine ⟨A', ?_, r, (offE.rf.up (by omega)).up (by omega) |>.tr o⟩
    rw [show (((m + 1 : Nat) : Int) - 1) = (m : Int) by omega]
    refine gr_run (pc' := 35) 1 rfl ?_
    refine gr_ifF (t := 75) rfl (by decide) (by omega) (cN_lt (by omega)) ?_
    refine gr_run (pc' := 39) 1 rfl ?_
    refine gr_getf rfl rfl (by repeat (first | exact up_s | assumption | refine up_n (by first | assumption | decide | omega) ?_)) (by first | assumption | rfl) rfl ?_
    refine gr_run (pc' := 43) 1 rfl ?_
    refine gr_getf rfl rfl (by repeat (first | exact up_s | assumption | refine up_n (by first | assumption | decide | omega) ?_)) (by first | assumption | rfl) rfl ?_
    refine gr_run (pc' := 51) 3 rfl ?_
    refine gr_imul rfl ?_
    refine gr_lshr rfl ?_
    refine gr_run (pc' := 56) 1 rfl ?_
    refine gr_land rfl ?_
    refine gr_l2ix rfl ?_
    rw [by_m (by omega)]
    refine gr_iast rfl (by repeat (first | exact up_s | assumption | refine up_n (by first | assumption | decide | omega) ?_)) (by first | assumption | rfl) (ix_i rfl (by omega) (by decide)) ?_
    refine gr_run (pc' := 61) 2 rfl ?_
    refine gr_getf rfl rfl (by repeat (first | exact up_s | assumption | refine up_n (by first | assumption | decide | omega) ?_)) (by first | assumption | rfl) rfl ?_
    refine gr_run (pc' := 65) 1 rfl ?_
    refine gr_iadd rfl ?_
    refine gr_putf rfl rfl rfl (by repeat (first | exact up_s | assumption | refine up_n (by first | assumption | decide | omega) ?_)) (by first | assumption | rfl) rfl rfl ?_
    refine gr_iinc rfl rfl rfl rfl ?_
    refine gr_run (pc' := 33) 1 rfl ?_
    exact g
theorem m_write {n : Int} {v : Int64} (hn : bd n) (hR : RepM σ A) (ho : okS σ) : ∃ A', Rt mX7_write (d + 1) [.ref 43, .int (iI n), .long v] A (some (.int (iI (wrA σ n v)))) A' ∧ RepM (wrS σ n v) A' ∧ offE A A' 43 56 := by
  have hR' := hR
  have h40 := ho.1.1
  by_cases c1 : n < 1 ∨ 8 < n
  · have e1 : wrA σ n v = -1 := if_pos c1
    refine ⟨A, ?_, by rw [wrS, e1]; exact hR', offE.rf⟩
    rw [e1]
    refine rt_intro kX7_write rfl rfl rfl ?_
    refine gr_run (pc' := 1) 1 rfl ?_
    refine gr_i2l rfl (by omega) ?_
    refine gr_run (pc' := 6) 2 rfl ?_
    refine gr_callS (As := [_, _, _]) lk_7_61 rfl rfl (r_isF (by omega) (by omega) (by omega) (by omega)) rfl rfl rfl ?_
    refine gr_ifF (t := 14) rfl (by decide) (by omega) (cN_ne (by omega)) ?_
    refine gr_run (pc' := 13) 1 rfl ?_
    exact gr_ret rfl rfl
  · have e0 : wrA σ n v = _ := if_neg c1
    by_cases c2 : 40 < (σ.1.1 : Int) + n
    · have e1 : wrA σ n v = -3 := e0.trans (if_pos c2)
      refine ⟨A, ?_, by rw [wrS, e1]; exact hR', offE.rf⟩
      rw [e1]
      obtain ⟨h0, -⟩ := hR
      refine rt_intro kX7_write rfl rfl rfl ?_
      refine gr_run (pc' := 1) 1 rfl ?_
      refine gr_i2l rfl (by omega) ?_
      refine gr_run (pc' := 6) 2 rfl ?_
      refine gr_callS (As := [_, _, _]) lk_7_61 rfl rfl (r_isT (by omega) (by omega) (by omega) (by omega) (by omega)) rfl rfl rfl ?_
      refine gr_ifT (t := 14) rfl (by decide) (by omega) (cI_ne (by omega)) ?_
      refine gr_run (pc' := 15) 1 rfl ?_
      refine gr_getf rfl rfl (by repeat (first | exact up_s | assumption | refine up_n (by first | assumption | decide | omega) ?_)) (by first | assumption | rfl) rfl ?_
      refine gr_run (pc' := 19) 1 rfl ?_
      refine gr_iadd rfl ?_
      refine gr_run (pc' := 22) 1 rfl ?_
      refine gr_icF (t := 28) rfl (by decide) (by omega) (by omega) (cN_le (by omega)) ?_
      refine gr_run (pc' := 27) 1 rfl ?_
      exact gr_ret rfl rfl
    · have e1 : wrA σ n v = _ := e0.trans (if_neg c2)
      obtain ⟨m, rfl⟩ : ∃ m : Nat, n = (m : Int) := ⟨n.toNat, by omega⟩
      obtain ⟨A', g, r, o⟩ := m_writeN (d := d) (v := v) (m := m) (x := iI (m : Int)) hR (by omega) (by omega)
      have e2 : wrS σ (m : Int) v = (wrF v m σ.1, σ.2) := by rw [wrS, if_neg (by omega)]; rfl
      refine ⟨A', ?_, by rw [e2]; exact r, o⟩
      rw [e1, show (σ.1.1 : Int) + (m : Int) = ((wrF v m σ.1).1 : Int) by rw [wrF_1]; omega]
      obtain ⟨h0, -⟩ := hR'
      refine rt_intro kX7_write rfl rfl rfl ?_
      refine gr_run (pc' := 1) 1 rfl ?_
      refine gr_i2l rfl (by omega) ?_
      refine gr_run (pc' := 6) 2 rfl ?_
      refine gr_callS (As := [_, _, _]) lk_7_61 rfl rfl (r_isT (by omega) (by omega) (by omega) (by omega) (by omega)) rfl rfl rfl ?_
      refine gr_ifT (t := 14) rfl (by decide) (by omega) (cI_ne (by omega)) ?_
      refine gr_run (pc' := 15) 1 rfl ?_
      refine gr_getf rfl rfl (by repeat (first | exact up_s | assumption | refine up_n (by first | assumption | decide | omega) ?_)) (by first | assumption | rfl) rfl ?_
      refine gr_run (pc' := 19) 1 rfl ?_
      refine gr_iadd rfl ?_
      refine gr_run (pc' := 22) 1 rfl ?_
      refine gr_icT (t := 28) rfl (by decide) (by omega) (by omega) (cI_le (by omega)) ?_
      refine gr_run (pc' := 30) 2 rfl ?_
      refine gr_isub rfl ?_
      refine gr_run (pc' := 33) 1 rfl ?_
      exact g
end MB
