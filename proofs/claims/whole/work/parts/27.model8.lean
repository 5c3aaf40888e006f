/-! the model: nth, rank, next, draw, prime -/
theorem pk_mk {p m b v : Nat} : ∀ j, (pkV p m b v j).1 = mkN p (pkH p m b v) j
  | 0 => rfl
  | j + 1 => by rw [mk_s, ← pk_mk j]; rfl
theorem pk_okT {p m b v : Nat} (hp : 1 ≤ p ∧ p ≤ 8) (hb : b ≤ 6) (hm : m ≤ 9) (hv : v < FF p m 0 b) : okT (p, pkH p m b v) := by
  refine ⟨⟨⟨hp.1, by show p ≤ 10; omega⟩, fun i hi => Nat.le_trans (pkH_ok hp hb hv hi).1 hm⟩, fun i j h1 h2 e => ?_⟩
  have h3 := (pkH_ok hp hb hv h2).2.1
  rw [pk_mk] at h3
  have h4 : (mkN p (pkH p m b v) j).testBit (lnd p (pkH p m b v) j) = true := mkN_bit.mpr ⟨i, h1, e⟩
  rw [show lnd p (pkH p m b v) j = (j + pkH p m b v j) % p from rfl, h3] at h4
  cases h4
def pkT (σ : SS) (p m b v : Nat) : SS := (σ.1, (p, pkH p m b v), σ.2.2.1, pushU σ.2.2.2.1 σ.2.1, σ.2.2.2.2)
section MB
variable {d : Nat} {A : AH} {σ : SS}
theorem r_afterF {p m t l r x B : Nat} {g : Nat → Int64} {a b c e f : Nat} (h0 : A 43 = mdl a b c e f) (h51 : A 51 = La 12544 g) (hp : 1 ≤ p ∧ p ≤ 8) (ht : t < 2 ^ p) (hbt : bc t < p) (hB : B ≤ 48) (hl : l ≤ B) (hx : x ≤ 100) (hg : rstOK p m B g) (hrel : l + wt t = p * r + tri (bc t)) :
    Rt mX7_after (d + 1) [.ref 43, .int (iI p), .int (iI t), .int (iI l), .int (iI x)] A (some (.long (lI ((fb p m t r x : Nat) : Int)))) A := by
  rw [← gb_fb hp ht hbt hrel]
  exact r_after h0 h51 hp ht (by omega) hx (fun _ _ => hg _ _ (or_pow_le hp ht) (by omega))
theorem m_allF {p b m : Int} (bp : bd p) (bb : bd b) (bm : bd m) (h : ¬ told p b m) : Rt mX7_all (d + 3) [.ref 43, .int (iI p), .int (iI b), .int (iI m)] A (some (.long (lI (-1)))) A := by
  refine rt_intro kX7_all rfl rfl trivial ?_
  refine gr_run (pc' := 3) 3 rfl ?_
  refine gr_callS (As := [_, _, _]) lk_7_125 rfl rfl (r_areToldF bp bb bm h) rfl rfl rfl ?_
  refine gr_ifT (t := 19) rfl (by decide) (by omega) (cI_eq (by omega)) ?_
  refine gr_run (pc' := 22) 1 rfl ?_
  exact gr_ret rfl rfl
theorem m_all {p b m : Nat} (hR : RepM σ A) (hp : 1 ≤ p ∧ p ≤ 8) (hb : 1 ≤ b ∧ b ≤ 6) (hm : 1 ≤ m ∧ m ≤ 9) : ∃ A', Rt mX7_all (d + 3) [.ref 43, .int (iI p), .int (iI b), .int (iI m)] A (some (.long (lI ((FF p m 0 b : Nat) : Int)))) A' ∧ RepM σ A' ∧ offE A A' 43 56 := by
  obtain ⟨g', r1, r2⟩ := m_counts (d := d) hR hp hb.2 hm.2
  rw [GG_FF hp] at r1
  have h0 := hR.1
  refine ⟨va_up A 51 (La 12544 g'), ?_, hR.u51 g', offE.rf.up (by omega)⟩
  refine rt_intro kX7_all rfl rfl trivial ?_
  refine gr_run (pc' := 3) 3 rfl ?_
  refine gr_callS (As := [_, _, _]) lk_7_125 rfl rfl (r_areToldT ⟨by omega, by omega, by omega⟩) rfl rfl rfl ?_
  refine gr_ifF (t := 19) rfl (by decide) (by omega) (cN_eq (by omega)) ?_
  refine gr_run (pc' := 13) 4 rfl ?_
  refine gr_callV (As := [_, _, _]) lk_7_129 rfl rfl (r1) (by repeat (first | exact up_s | assumption | refine up_n (by first | assumption | decide | omega) ?_)) (by first | assumption | exact Nat.le_of_ble_eq_true rfl | exact Nat.le_of_ble_eq_true (by assumption)) rfl rfl rfl rfl rfl ?_
  refine gr_run (pc' := 22) 1 rfl ?_
  exact gr_ret rfl rfl
theorem m_drafts {p b m v : Nat} {g : Nat → Int64} (hR : RepM σ A) (h51 : A 51 = La 12544 g) (hg : rstOK p m (p * b) g) (hp : 1 ≤ p ∧ p ≤ 8) (hb : b ≤ 6) (hm : m ≤ 9) (hv : v < FF p m 0 b) : ∃ g' : Nat → Int32, Rt mX7_drafts (d + 2) [.ref 43, .int (iI p), .int (iI b), .int (iI m), .long (lI v)] A none (va_up A 49 (Ia 10 g')) ∧ ∀ j, j < p → g' j = iI ((pkH p m b v j : Nat) : Int) := by
  obtain ⟨h0, -, -, -, -, -, ⟨f0, e49⟩, -⟩ := id hR
  have h256 := pow8 hp.2
  have hB48 : p * b ≤ 48 := Nat.mul_le_mul hp.2 hb
  have hBi : (p : Int) * (b : Int) = ((p * b : Nat) : Int) := rfl
  have hF := FF_le hp.2 hm 0 b
  have inner : ∀ (k x w t l r j : Nat) (a : Nat → Int32) (A' : AH), x + k = m → t < 2 ^ p → bc t < p → l ≤ p * b → w ≤ 100000000 → l + wt t = p * r + tri (bc t) → w < sumN (fun i => fb p m t r (x + i)) (k + 1) →
      Gr mX7_drafts (d + 2) 63 [some (.ref 43), some (.int (iI p)), some (.int (iI b)), some (.int (iI m)), some (.long (lI v)), none, some (.int (iI (t : Int))), some (.int (iI (l : Int))), some (.long (lI (((pkS p m t r k x w).2 : Nat) : Int))), none, some (.int (iI (j : Int))), some (.int (iI (((pkS p m t r k x w).1 : Nat) : Int)))] [] (va_up A 49 (Ia 10 a)) none A' →
      Gr mX7_drafts (d + 2) 24 [some (.ref 43), some (.int (iI p)), some (.int (iI b)), some (.int (iI m)), some (.long (lI v)), none, some (.int (iI (t : Int))), some (.int (iI (l : Int))), some (.long (lI (w : Int))), none, some (.int (iI (j : Int))), some (.int (iI (x : Int)))] [] (va_up A 49 (Ia 10 a)) none A' := by
    intro k
    induction k with
    | zero =>
      intro x w t l r j a A' hx ht hbt hl hw hrel hs K
      simp only [sumN, Nat.add_zero, Nat.zero_add] at hs
      have hfb := fb_le hp.2 hm t r x
      refine gr_run (pc' := 34) 6 rfl ?_
      refine gr_callV (As := [_, _, _, _]) lk_7_121 rfl rfl (r_afterF (m := m) (up_n (by decide) h0) (up_n (by decide) h51) hp ht hbt hB48 hl (by omega) hg hrel) (by repeat (first | exact up_s | assumption | refine up_n (by first | assumption | decide | omega) ?_)) (by first | assumption | exact Nat.le_of_ble_eq_true rfl | exact Nat.le_of_ble_eq_true (by assumption)) rfl rfl rfl rfl rfl ?_
      have hz := cmpZ_lt (show (w : Int) < ((fb p m t r x : Nat) : Int) by omega)
      refine gr_lcmp rfl (by omega) (by omega) ?_
      refine gr_ifT (t := 63) rfl (by decide) (by omega) (cI_lt (by omega)) ?_
      exact K
    | succ k ih =>
      intro x w t l r j a A' hx ht hbt hl hw hrel hs K
      have hfb := fb_le hp.2 hm t r x
      simp only [pkS] at K
      by_cases hc : fb p m t r x ≤ w
      · rw [if_pos ⟨hc, by omega⟩] at K
        rw [sumN_shift] at hs
        simp only [Nat.add_zero] at hs
        have hr := ih (x + 1) (w - fb p m t r x) t l r j a A' (by omega) ht hbt hl (by omega) hrel (by
          rw [sumN_congr (g := fun i => fb p m t r (x + (i + 1))) (fun i _ => by rw [show x + 1 + i = x + (i + 1) by omega])]
          omega) K
        refine gr_run (pc' := 34) 6 rfl ?_
        refine gr_callV (As := [_, _, _, _]) lk_7_121 rfl rfl (r_afterF (m := m) (up_n (by decide) h0) (up_n (by decide) h51) hp ht hbt hB48 hl (by omega) hg hrel) (by repeat (first | exact up_s | assumption | refine up_n (by first | assumption | decide | omega) ?_)) (by first | assumption | exact Nat.le_of_ble_eq_true rfl | exact Nat.le_of_ble_eq_true (by assumption)) rfl rfl rfl rfl rfl ?_
        have hz := cmpZ_ge (show ((fb p m t r x : Nat) : Int) ≤ (w : Int) by omega)
        refine gr_lcmp rfl (by omega) (by omega) ?_
        refine gr_ifF (t := 63) rfl (by decide) (by omega) (cN_lt (by omega)) ?_
        refine gr_run (pc' := 51) 6 rfl ?_
        refine gr_callV (As := [_, _, _, _]) lk_7_121 rfl rfl (r_afterF (m := m) (up_n (by decide) h0) (up_n (by decide) h51) hp ht hbt hB48 hl (by omega) hg hrel) (by repeat (first | exact up_s | assumption | refine up_n (by first | assumption | decide | omega) ?_)) (by first | assumption | exact Nat.le_of_ble_eq_true rfl | exact Nat.le_of_ble_eq_true (by assumption)) rfl rfl rfl rfl rfl ?_
        refine gr_lsub rfl ?_
        rw [show (w : Int) - ((fb p m t r x : Nat) : Int) = ((w - fb p m t r x : Nat) : Int) by omega]
        refine gr_run (pc' := 57) 1 rfl ?_
        refine gr_iinc rfl rfl rfl rfl ?_
        refine gr_run (pc' := 24) 1 rfl ?_
        exact hr
      · rw [if_neg (fun q => hc q.1)] at K
        refine gr_run (pc' := 34) 6 rfl ?_
        refine gr_callV (As := [_, _, _, _]) lk_7_121 rfl rfl (r_afterF (m := m) (up_n (by decide) h0) (up_n (by decide) h51) hp ht hbt hB48 hl (by omega) hg hrel) (by repeat (first | exact up_s | assumption | refine up_n (by first | assumption | decide | omega) ?_)) (by first | assumption | exact Nat.le_of_ble_eq_true rfl | exact Nat.le_of_ble_eq_true (by assumption)) rfl rfl rfl rfl rfl ?_
        have hz := cmpZ_lt (show (w : Int) < ((fb p m t r x : Nat) : Int) by omega)
        refine gr_lcmp rfl (by omega) (by omega) ?_
        refine gr_ifT (t := 63) rfl (by decide) (by omega) (cI_lt (by omega)) ?_
        exact K
  have loop : ∀ (k j l : Nat) (a : Nat → Int32) (x11 : Option Value), j + k = p → l ≤ p * b → l + wt (pkV p m b v j).1 = p * (pkV p m b v j).2.1 + tri (bc (pkV p m b v j).1) → (∀ i, i < j → a i = iI ((pkH p m b v i : Nat) : Int)) →
      ∃ g' : Nat → Int32, Gr mX7_drafts (d + 2) 15 [some (.ref 43), some (.int (iI p)), some (.int (iI b)), some (.int (iI m)), some (.long (lI v)), none, some (.int (iI (((pkV p m b v j).1 : Nat) : Int))), some (.int (iI (l : Int))), some (.long (lI (((pkV p m b v j).2.2 : Nat) : Int))), none, some (.int (iI (j : Int))), x11] [] (va_up A 49 (Ia 10 a)) none (va_up A 49 (Ia 10 g')) ∧ ∀ j, j < p → g' j = iI ((pkH p m b v j : Nat) : Int) := by
    intro k
    induction k with
    | zero =>
      intro j l a x11 hj hl hrel ha
      refine ⟨a, ?_, fun i hi => ha i (by omega)⟩
      refine gr_run (pc' := 18) 2 rfl ?_
      refine gr_icT (t := 99) rfl (by decide) (by omega) (by omega) (cI_ge (by omega)) ?_
      exact gr_ret rfl rfl
    | succ k ih =>
      intro j l a x11 hj hl hrel ha
      obtain ⟨q1, q2, q3, q4⟩ := pkV_ok hp hb hv j (by omega)
      obtain ⟨s1, s2, s3⟩ := pkH_ok hp hb hv (j := j) (by omega)
      have hFt := FF_le hp.2 hm (pkV p m b v j).1 (pkV p m b v j).2.1
      have hmod : (j + pkH p m b v j) % p < p := Nat.mod_lt _ (by omega)
      have dm := Nat.div_add_mod (j + pkH p m b v j) p
      have hlt := or_lt hmod q1
      have w1 := wt_or' hp.2 q1 hmod s2
      have b1 := bc_or' hp.2 q1 hmod s2
      have e1 : (pkV p m b v (j + 1)).1 = (pkV p m b v j).1 ||| 2 ^ ((j + pkH p m b v j) % p) := rfl
      have e2 : (pkV p m b v (j + 1)).2.1 = (pkV p m b v j).2.1 - (j + pkH p m b v j) / p := rfl
      -- the throw is no more than what is left
      have hxl : pkH p m b v j ≤ l := by
        have h4 := q4
        rw [FF_rec hp q1 (by omega)] at h4
        have h5 := (pkS_ok (p := p) (m := m) (t := (pkV p m b v j).1) (l := (pkV p m b v j).2.1) (k := m) (x := 0) (v := (pkV p m b v j).2.2) (by omega) (by simpa using h4)).2
        have h6 : 0 < fb p m (pkV p m b v j).1 (pkV p m b v j).2.1 (pkH p m b v j) := Nat.lt_of_le_of_lt (Nat.zero_le _) h5
        rw [← gb_fb hp q1 (by omega) hrel] at h6
        unfold gb at h6
        by_cases c : l < pkH p m b v j
        · rw [if_pos c] at h6; split at h6 <;> omega
        · omega
      have hrel2 : l - pkH p m b v j + wt (pkV p m b v (j + 1)).1 = p * (pkV p m b v (j + 1)).2.1 + tri (bc (pkV p m b v (j + 1)).1) := by
        rw [e1, e2, w1, b1, tri_s, Nat.mul_sub]
        rw [q2] at hrel ⊢
        have z1 := Nat.mul_le_mul_left p s3
        generalize p * ((j + pkH p m b v j) / p) = u1 at *
        generalize p * (pkV p m b v j).2.1 = u2 at *
        generalize (j + pkH p m b v j) % p = u3 at *
        omega
      obtain ⟨g', r, r2⟩ := ih (j + 1) (l - pkH p m b v j) (upd a j (iI ((pkH p m b v j : Nat) : Int))) (some (.int (iI ((pkH p m b v j : Nat) : Int)))) (by omega) (by omega) hrel2 (fun i hi => by
        unfold upd
        by_cases e : i = j
        · rw [if_pos e, e]
        · rw [if_neg e]; exact ha i (by omega))
      refine ⟨g', ?_, r2⟩
      have q4' := q4
      rw [FF_rec hp q1 (by omega)] at q4'
      refine gr_run (pc' := 18) 2 rfl ?_
      refine gr_icF (t := 99) rfl (by decide) (by omega) (by omega) (cN_ge (by omega)) ?_
      refine gr_run (pc' := 24) 2 rfl ?_
      refine inner m 0 (pkV p m b v j).2.2 (pkV p m b v j).1 l (pkV p m b v j).2.1 j a _ (by omega) q1 (by omega) hl (by omega) hrel (by simpa using q4') ?_
      have eH : (pkS p m (pkV p m b v j).1 (pkV p m b v j).2.1 m 0 (pkV p m b v j).2.2).1 = pkH p m b v j := rfl
      have eV : (pkS p m (pkV p m b v j).1 (pkV p m b v j).2.1 m 0 (pkV p m b v j).2.2).2 = (pkV p m b v (j + 1)).2.2 := rfl
      rw [eH, eV]
      refine gr_run (pc' := 64) 1 rfl ?_
      refine gr_getf rfl rfl (by repeat (first | exact up_s | assumption | refine up_n (by first | assumption | decide | omega) ?_)) (by first | assumption | rfl) rfl ?_
      refine gr_run (pc' := 71) 2 rfl ?_
      refine gr_iast rfl (by repeat (first | exact up_s | assumption | refine up_n (by first | assumption | decide | omega) ?_)) (by first | assumption | rfl) (ix_i rfl (by omega) (by decide)) ?_
      rw [bx_uu]
      refine gr_run (pc' := 79) 4 rfl ?_
      refine gr_iadd rfl ?_
      refine gr_run (pc' := 81) 1 rfl ?_
      refine gr_iremN rfl (by omega) (by omega) (by omega) (by omega) ?_
      rw [show ((j : Int) + ((pkH p m b v j : Nat) : Int)) % (p : Int) = (((j + pkH p m b v j) % p : Nat) : Int) from rfl]
      refine gr_ishl1 rfl (by omega) ?_
      refine gr_iorN rfl ?_
      refine gr_run (pc' := 90) 3 rfl ?_
      refine gr_isub rfl ?_
      rw [show (l : Int) - ((pkH p m b v j : Nat) : Int) = ((l - pkH p m b v j : Nat) : Int) by omega]
      refine gr_run (pc' := 93) 1 rfl ?_
      refine gr_iinc rfl rfl rfl rfl ?_
      refine gr_run (pc' := 15) 1 rfl ?_
      exact r
  obtain ⟨g', r, r2⟩ := loop p 0 (p * b) f0 none (by omega) (Nat.le_refl _) (by show p * b + wt 0 = p * b + tri (bc 0); rw [show bc 0 = 0 by decide, show wt 0 = 0 by decide]; rfl) (fun i hi => by omega)
  rw [up_same e49] at r
  refine ⟨g', ?_, r2⟩
  refine rt_intro kX7_drafts rfl rfl trivial ?_
  refine gr_run (pc' := 5) 4 rfl ?_
  refine gr_imul rfl ?_
  refine gr_run (pc' := 15) 5 rfl ?_
  exact r
end MB
