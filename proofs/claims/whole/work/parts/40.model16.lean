/-! the model: mended -/
theorem nar1 : vp_nar .boolean (iI 1) = iI 1 := rfl
theorem nar0 : vp_nar .boolean (iI 0) = iI 0 := rfl
theorem nar01 {P : Prop} : vp_nar .boolean (iI ((ind P : Nat) : Int)) = iI ((ind P : Nat) : Int) := by
  rcases (show ind P = 0 ∨ ind P = 1 by have := ind_le P; omega) with e | e <;> rw [e] <;> rfl
theorem scr_5556 {A : AH} (h : scrA A) (f g : Nat → Int32) : scrA (va_up (va_up A 55 (Za 512 f)) 56 (Za 512 g)) := by
  obtain ⟨⟨a, ha⟩, ⟨b, hb⟩, ⟨c, hc⟩, ⟨d', hd⟩, ⟨f', hf⟩, ⟨g', hg⟩, ⟨i, hi⟩, ⟨j, hj⟩⟩ := h
  exact ⟨⟨a, up_n (by decide) (up_n (by decide) ha)⟩, ⟨b, up_n (by decide) (up_n (by decide) hb)⟩, ⟨c, up_n (by decide) (up_n (by decide) hc)⟩, ⟨d', up_n (by decide) (up_n (by decide) hd)⟩, ⟨f', up_n (by decide) (up_n (by decide) hf)⟩, ⟨g', up_n (by decide) (up_n (by decide) hg)⟩, ⟨f, up_n (by decide) up_s⟩, ⟨g, up_s⟩⟩
theorem RepM.u56 {σ : SS} {A : AH} (hR : RepM σ A) (f g : Nat → Int32) : RepM σ (va_up (va_up A 55 (Za 512 f)) 56 (Za 512 g)) := hR.s (scr_5556 hR.2.2.2.2.2.2 f g) (fun j hj => (up_o (by omega)).trans (up_o (by omega)))
theorem up_sw {A : AH} {c c' x : va_E} : va_up (va_up (va_up A 55 c) 56 c') 55 x = va_up (va_up A 55 x) 56 c' := by
  funext j
  unfold va_up
  by_cases h1 : j = 55
  · subst h1; simp
  · by_cases h2 : j = 56
    · subst h2; simp
    · simp [h1, h2]
def mk01 (g : Nat → Int32) (P : Nat → Prop) : Prop := ∀ b, b < 512 → g b = iI ((ind (P b) : Nat) : Int)
theorem mk01.c {g : Nat → Int32} {P Q : Nat → Prop} (h : mk01 g P) (e : ∀ b, b < 512 → (P b ↔ Q b)) : mk01 g Q := fun b hb => by rw [h b hb, ind_iff (e b hb)]
theorem mk01.u {g : Nat → Int32} {P : Nat → Prop} {c : Nat} (h : mk01 g P) : mk01 (upd g c (iI 1)) (fun b => P b ∨ b = c) := by
  intro b hb
  unfold upd
  by_cases e : b = c
  · rw [if_pos e, ind_T (Or.inr e)]; rfl
  · rw [if_neg e, h b hb]
    exact congrArg (fun n : Nat => iI (n : Int)) (ind_iff ⟨Or.inl, fun q => q.resolve_right e⟩)
noncomputable def menN (p : Pn) (y z : Int) : Int := @ite Int (barN p y z < 0) (Classical.propDecidable _) (barN p y z) (@ite Int (bhN (airN p.1 p.2 y) z.toNat = -4) (Classical.propDecidable _) (-4) (tmF (fun n => RS (bhN (airN p.1 p.2 y) z.toNat).toNat n (airN p.1 p.2 (y + 1 + (n : Int)))) 9 1))
section MC
variable {d : Nat} {A : AH} {σ : SS}
theorem m_mended {y z : Int} (hR : RepM σ A) (hS : okT σ.2.1) (hy : bd y) (hz : bd z) : ∃ A', Rt mX7_mended (d + 2) [.ref 43, .int (iI y), .int (iI z)] A (some (.int (iI (menN σ.2.1 y z)))) A' ∧ RepM σ A' ∧ offE A A' 43 56 := by
  obtain ⟨h0, -, ⟨f1, e1, e2⟩, -, -, -, s1, s2, s3, s4, s5, s6, ⟨fh, e55⟩, ⟨ft, e56⟩⟩ := id hR
  have hbb := barN_bd σ.2.1 y z
  by_cases hb : barN σ.2.1 y z < 0
  · have e : menN σ.2.1 y z = barN σ.2.1 y z := if_pos hb
    rw [e]
    refine ⟨A, ?_, hR, offE.rf⟩
    refine rt_intro kX7_mended rfl rfl rfl ?_
    refine gr_run (pc' := 3) 3 rfl ?_
    refine gr_callV (As := [_, _]) lk_7_178 rfl rfl (m_bars hR hS hy hz) (by repeat (first | exact up_s | assumption | refine up_n (by first | assumption | decide | omega) ?_)) (by first | assumption | exact Nat.le_of_ble_eq_true rfl | exact Nat.le_of_ble_eq_true (by assumption)) rfl rfl rfl rfl rfl ?_
    refine gr_run (pc' := 8) 2 rfl ?_
    refine gr_ifF (t := 13) rfl (by decide) (by omega) (cN_ge (by omega)) ?_
    refine gr_run (pc' := 12) 1 rfl ?_
    exact gr_ret rfl rfl
  have hb0 : barN σ.2.1 y z = 0 := by omega
  obtain ⟨q1, q2, q3, q4⟩ := barN_ok hb
  obtain ⟨k, rfl⟩ : ∃ k : Nat, y = (k : Int) := ⟨y.toNat, by omega⟩
  obtain ⟨x, rfl⟩ : ∃ x : Nat, z = (x : Int) := ⟨z.toNat, by omega⟩
  have hnn := hS.1.1
  have ha := airN_lt hS.1 (k : Int)
  have em : menN σ.2.1 k x = @ite Int (bhN (airN σ.2.1.1 σ.2.1.2 k) x = -4) (Classical.propDecidable _) (-4) (tmF (fun n => RS (bhN (airN σ.2.1.1 σ.2.1.2 k) x).toNat n (airN σ.2.1.1 σ.2.1.2 ((k : Int) + 1 + (n : Int)))) 9 1) := if_neg hb
  have hbl := bhN_lt (a := airN σ.2.1.1 σ.2.1.2 k) (x := x) ha (by omega)
  generalize hw : bhN (airN σ.2.1.1 σ.2.1.2 k) x = w at *
  have init : ∀ (r : Int) (A' : AH) (K : ∀ f : Nat → Int32, (∀ a : Nat, a < 512 → f a = iI ((ind ((a : Int) = w) : Nat) : Int)) → ∃ f' g' : Nat → Int32, Gr mX7_mended (d + 2) 67 [some (.ref 43), some (.int (iI k)), some (.int (iI x)), some (.int (iI 0)), some (.int (iI w)), some (.int (iI 512)), none, none] [] (va_up (va_up A 55 (Za 512 f)) 56 (Za 512 ft)) (some (.int (iI r))) (va_up (va_up A 55 (Za 512 f')) 56 (Za 512 g'))),
      ∀ (m a : Nat) (f : Nat → Int32), a + m = 512 → (∀ i : Nat, i < a → f i = iI ((ind ((i : Int) = w) : Nat) : Int)) → ∃ f' g' : Nat → Int32, Gr mX7_mended (d + 2) 34 [some (.ref 43), some (.int (iI k)), some (.int (iI x)), some (.int (iI 0)), some (.int (iI w)), some (.int (iI (a : Int))), none, none] [] (va_up (va_up A 55 (Za 512 f)) 56 (Za 512 ft)) (some (.int (iI r))) (va_up (va_up A 55 (Za 512 f')) 56 (Za 512 g')) := by
    intro r A' K m
    induction m with
    | zero =>
      intro a f ham hf
      have h512 : a = 512 := by omega
      subst h512
      obtain ⟨f', g', r⟩ := K f hf
      refine ⟨f', g', ?_⟩
      refine gr_run (pc' := 39) 2 rfl ?_
      refine gr_icT (t := 67) rfl (by decide) (by omega) (by omega) (cI_ge (by omega)) ?_
      exact r
    | succ m ih =>
      intro a f ham hf
      obtain ⟨f', g', r⟩ := ih (a + 1) (upd f a (iI ((ind ((a : Int) = w) : Nat) : Int))) (by omega) (fun i hi => by
        unfold upd
        by_cases ei : i = a
        · rw [if_pos ei, ei]
        · rw [if_neg ei]; exact hf i (by omega))
      refine ⟨f', g', ?_⟩
      by_cases ew : (a : Int) = w
      · rw [ind_T ew] at r
        refine gr_run (pc' := 39) 2 rfl ?_
        refine gr_icF (t := 67) rfl (by decide) (by omega) (by omega) (cN_ge (by omega)) ?_
        refine gr_run (pc' := 43) 1 rfl ?_
        refine gr_getf rfl rfl (by repeat (first | exact up_s | assumption | refine up_n (by first | assumption | decide | omega) ?_)) (by first | assumption | rfl) rfl ?_
        refine gr_run (pc' := 52) 3 rfl ?_
        refine gr_icF (t := 59) rfl (by decide) (by omega) (by omega) (cN_ne (by omega)) ?_
        refine gr_run (pc' := 60) 2 rfl ?_
        refine gr_zast rfl (by repeat (first | exact up_s | assumption | refine up_n (by first | assumption | decide | omega) ?_)) (by first | assumption | rfl) (ix_i rfl (by omega) (by decide)) ?_
        rw [up_sw, nar1]
        refine gr_iinc rfl rfl rfl rfl ?_
        refine gr_run (pc' := 34) 1 rfl ?_
        exact r
      · rw [ind_F ew] at r
        refine gr_run (pc' := 39) 2 rfl ?_
        refine gr_icF (t := 67) rfl (by decide) (by omega) (by omega) (cN_ge (by omega)) ?_
        refine gr_run (pc' := 43) 1 rfl ?_
        refine gr_getf rfl rfl (by repeat (first | exact up_s | assumption | refine up_n (by first | assumption | decide | omega) ?_)) (by first | assumption | rfl) rfl ?_
        refine gr_run (pc' := 52) 3 rfl ?_
        refine gr_icT (t := 59) rfl (by decide) (by omega) (by omega) (cI_ne (by omega)) ?_
        refine gr_run (pc' := 60) 1 rfl ?_
        refine gr_zast rfl (by repeat (first | exact up_s | assumption | refine up_n (by first | assumption | decide | omega) ?_)) (by first | assumption | rfl) (ix_i rfl (by omega) (by decide)) ?_
        rw [up_sw, nar0]
        refine gr_iinc rfl rfl rfl rfl ?_
        refine gr_run (pc' := 34) 1 rfl ?_
        exact r
  have start : ∀ (r : Int) (A' : AH), Gr mX7_mended (d + 2) 34 [some (.ref 43), some (.int (iI k)), some (.int (iI x)), some (.int (iI 0)), some (.int (iI w)), some (.int (iI ((0 : Nat) : Int))), none, none] [] (va_up (va_up A 55 (Za 512 fh)) 56 (Za 512 ft)) (some (.int (iI r))) A' → Rt mX7_mended (d + 2) [.ref 43, .int (iI k), .int (iI x)] A (some (.int (iI r))) A' := by
    intro r A' K
    rw [up_same e55, up_same e56] at K
    refine rt_intro kX7_mended rfl rfl rfl ?_
    refine gr_run (pc' := 3) 3 rfl ?_
    refine gr_callV (As := [_, _]) lk_7_178 rfl rfl (m_bars hR hS hy hz) (by repeat (first | exact up_s | assumption | refine up_n (by first | assumption | decide | omega) ?_)) (by first | assumption | exact Nat.le_of_ble_eq_true rfl | exact Nat.le_of_ble_eq_true (by assumption)) rfl rfl rfl rfl rfl ?_
    rw [hb0]
    refine gr_run (pc' := 8) 2 rfl ?_
    refine gr_ifT (t := 13) rfl (by decide) (by omega) (cI_ge (by omega)) ?_
    refine gr_run (pc' := 14) 1 rfl ?_
    refine gr_getf rfl rfl (by repeat (first | exact up_s | assumption | refine up_n (by first | assumption | decide | omega) ?_)) (by first | assumption | rfl) rfl ?_
    refine gr_run (pc' := 18) 1 rfl ?_
    refine gr_getf rfl rfl (by repeat (first | exact up_s | assumption | refine up_n (by first | assumption | decide | omega) ?_)) (by first | assumption | rfl) rfl ?_
    refine gr_run (pc' := 22) 1 rfl ?_
    refine gr_callS (As := [_, _, _]) lk_7_90 rfl rfl (r_X7_airOf e1 rfl hS.1 e2 (by omega)) rfl rfl rfl ?_
    refine gr_run (pc' := 26) 1 rfl ?_
    refine gr_callS (As := [_, _]) lk_7_164 rfl rfl (r_behind ha (by omega)) rfl rfl rfl ?_
    rw [hw]
    refine gr_run (pc' := 34) 3 rfl ?_
    exact K
  by_cases hwn : w = -4
  · have em2 : menN σ.2.1 k x = -4 := em.trans (if_pos hwn)
    obtain ⟨f', g', r⟩ := init (-4) A (fun f hf => ⟨f, ft, by
      subst hwn
      refine gr_run (pc' := 74) 4 rfl ?_
      refine gr_icF (t := 242) rfl (by decide) (by omega) (by omega) (cN_gt (by omega)) ?_
      refine gr_run (pc' := 81) 2 rfl ?_
      refine gr_icT (t := 242) rfl (by decide) (by omega) (by omega) (cI_eq (by omega)) ?_
      refine gr_run (pc' := 244) 1 rfl ?_
      exact gr_ret rfl rfl⟩) 512 0 fh (by omega) (fun i hi => by omega)
    rw [em2]
    exact ⟨_, start _ _ r, hR.u56 f' g', (offE.rf.up (by omega)).up (by omega)⟩
  obtain ⟨s, rfl⟩ : ∃ s : Nat, w = (s : Int) := ⟨w.toNat, by omega⟩
  have hs : s < 512 := by omega
  have em2 : menN σ.2.1 k x = tmF (fun n => RS s n (airN σ.2.1.1 σ.2.1.2 ((k : Int) + 1 + (n : Int)))) 9 1 := em.trans (if_neg hwn)
  have main : ∀ (m n : Nat) (f g : Nat → Int32) (x6 x7 : Option Value), n + m = 10 → 1 ≤ n → mk01 f (RS s (n - 1)) →
      ∃ f' g' : Nat → Int32, Gr mX7_mended (d + 2) 70 [some (.ref 43), some (.int (iI k)), some (.int (iI x)), some (.int (iI 0)), some (.int (iI (s : Int))), some (.int (iI (n : Int))), x6, x7] [] (va_up (va_up A 55 (Za 512 f)) 56 (Za 512 g)) (some (.int (iI (tmF (fun n => RS s n (airN σ.2.1.1 σ.2.1.2 ((k : Int) + 1 + (n : Int)))) m n)))) (va_up (va_up A 55 (Za 512 f')) 56 (Za 512 g')) := by
    intro m
    induction m with
    | zero =>
      intro n f g x6 x7 hnm hn1 hf
      refine ⟨f, g, ?_⟩
      refine gr_run (pc' := 74) 2 rfl ?_
      refine gr_icT (t := 242) rfl (by decide) (by omega) (by omega) (cI_gt (by omega)) ?_
      refine gr_run (pc' := 244) 1 rfl ?_
      exact gr_ret rfl rfl
    | succ m ihm =>
      intro n f g x6 x7 hnm hn1 hf
      have hair := airN_lt hS.1 ((k : Int) + 1 + (n : Int))
      have copy : ∀ (f1 g1 : Nat → Int32) (x7 : Option Value), ¬ RS s n (airN σ.2.1.1 σ.2.1.2 ((k : Int) + 1 + (n : Int))) → mk01 g1 (RS s n) → ∀ (j a : Nat) (f2 : Nat → Int32), a + j = 512 → (∀ i, i < a → f2 i = g1 i) →
          ∃ f' g' : Nat → Int32, Gr mX7_mended (d + 2) 208 [some (.ref 43), some (.int (iI k)), some (.int (iI x)), some (.int (iI 0)), some (.int (iI (s : Int))), some (.int (iI (n : Int))), some (.int (iI (a : Int))), x7] [] (va_up (va_up A 55 (Za 512 f2)) 56 (Za 512 g1)) (some (.int (iI (tmF (fun n => RS s n (airN σ.2.1.1 σ.2.1.2 ((k : Int) + 1 + (n : Int)))) (m + 1) n)))) (va_up (va_up A 55 (Za 512 f')) 56 (Za 512 g')) := by
        intro f1 g1 x7 hno hg1 j
        induction j with
        | zero =>
          intro a f2 haj hf2
          obtain ⟨f', g', r⟩ := ihm (n + 1) f2 g1 (some (.int (iI (a : Int)))) x7 (by omega) (by omega) (fun b hb => by rw [hf2 b (by omega)]; exact hg1 b hb)
          refine ⟨f', g', ?_⟩
          rw [tmF_f (P := fun n => RS s n (airN σ.2.1.1 σ.2.1.2 ((k : Int) + 1 + (n : Int)))) (n := n) hno]
          refine gr_run (pc' := 213) 2 rfl ?_
          refine gr_icT (t := 236) rfl (by decide) (by omega) (by omega) (cI_ge (by omega)) ?_
          refine gr_iinc rfl rfl rfl rfl ?_
          refine gr_run (pc' := 70) 1 rfl ?_
          exact r
        | succ j ih =>
          intro a f2 haj hf2
          obtain ⟨f', g', r⟩ := ih (a + 1) (upd f2 a (g1 a)) (by omega) (fun i hi => by
            unfold upd
            by_cases ei : i = a
            · rw [if_pos ei, ei]
            · rw [if_neg ei]; exact hf2 i (by omega))
          refine ⟨f', g', ?_⟩
          have hga := hg1 a (by omega)
          refine gr_run (pc' := 213) 2 rfl ?_
          refine gr_icF (t := 236) rfl (by decide) (by omega) (by omega) (cN_ge (by omega)) ?_
          refine gr_run (pc' := 217) 1 rfl ?_
          refine gr_getf rfl rfl (by repeat (first | exact up_s | assumption | refine up_n (by first | assumption | decide | omega) ?_)) (by first | assumption | rfl) rfl ?_
          refine gr_run (pc' := 223) 2 rfl ?_
          refine gr_getf rfl rfl (by repeat (first | exact up_s | assumption | refine up_n (by first | assumption | decide | omega) ?_)) (by first | assumption | rfl) rfl ?_
          refine gr_run (pc' := 228) 1 rfl ?_
          refine gr_zald rfl (by repeat (first | exact up_s | assumption | refine up_n (by first | assumption | decide | omega) ?_)) (by first | assumption | rfl) (ix_i rfl (by omega) (by decide)) ?_
          refine gr_zast rfl (by repeat (first | exact up_s | assumption | refine up_n (by first | assumption | decide | omega) ?_)) (by first | assumption | rfl) (ix_i rfl (by omega) (by decide)) ?_
          rw [up_sw, hga, nar01, ← hga]
          refine gr_iinc rfl rfl rfl rfl ?_
          refine gr_run (pc' := 208) 1 rfl ?_
          exact r
      have mark : ∀ (j a : Nat) (g1 : Nat → Int32) (x7 : Option Value), a + j = 512 → mk01 g1 (fun b => ∃ c, c < a ∧ RS s (n - 1) c ∧ stp1 c b) →
          ∃ f' g' : Nat → Int32, Gr mX7_mended (d + 2) 112 [some (.ref 43), some (.int (iI k)), some (.int (iI x)), some (.int (iI 0)), some (.int (iI (s : Int))), some (.int (iI (n : Int))), some (.int (iI (a : Int))), x7] [] (va_up (va_up A 55 (Za 512 f)) 56 (Za 512 g1)) (some (.int (iI (tmF (fun n => RS s n (airN σ.2.1.1 σ.2.1.2 ((k : Int) + 1 + (n : Int)))) (m + 1) n)))) (va_up (va_up A 55 (Za 512 f')) 56 (Za 512 g')) := by
        intro j
        induction j with
        | zero =>
          intro a g1 x7 haj hg1
          have hg2 : mk01 g1 (RS s n) := hg1.c (fun b hb => by
            obtain ⟨n', rfl⟩ : ∃ n', n = n' + 1 := ⟨n - 1, by omega⟩
            constructor
            · rintro ⟨c, c1, c2, c3⟩; exact ⟨c, by omega, c2, c3⟩
            · rintro ⟨c, c1, c2, c3⟩; exact ⟨c, by omega, c2, c3⟩)
          have hga := hg2 _ hair
          by_cases hm : RS s n (airN σ.2.1.1 σ.2.1.2 ((k : Int) + 1 + (n : Int)))
          · refine ⟨f, g1, ?_⟩
            rw [tmF_t (P := fun n => RS s n (airN σ.2.1.1 σ.2.1.2 ((k : Int) + 1 + (n : Int)))) (n := n) hm]
            refine gr_run (pc' := 117) 2 rfl ?_
            refine gr_icT (t := 177) rfl (by decide) (by omega) (by omega) (cI_ge (by omega)) ?_
            refine gr_run (pc' := 178) 1 rfl ?_
            refine gr_getf rfl rfl (by repeat (first | exact up_s | assumption | refine up_n (by first | assumption | decide | omega) ?_)) (by first | assumption | rfl) rfl ?_
            refine gr_run (pc' := 182) 1 rfl ?_
            refine gr_getf rfl rfl (by repeat (first | exact up_s | assumption | refine up_n (by first | assumption | decide | omega) ?_)) (by first | assumption | rfl) rfl ?_
            refine gr_run (pc' := 186) 1 rfl ?_
            refine gr_getf rfl rfl (by repeat (first | exact up_s | assumption | refine up_n (by first | assumption | decide | omega) ?_)) (by first | assumption | rfl) rfl ?_
            refine gr_run (pc' := 192) 2 rfl ?_
            refine gr_iadd rfl ?_
            refine gr_run (pc' := 194) 1 rfl ?_
            refine gr_iadd rfl ?_
            rw [show (k : Int) + n + 1 = (k : Int) + 1 + n by omega]
            refine gr_callS (As := [_, _, _]) lk_7_90 rfl rfl (r_X7_airOf (up_n (by decide) (up_n (by decide) e1)) rfl hS.1 e2 (by omega)) rfl rfl rfl ?_
            refine gr_zald rfl (by repeat (first | exact up_s | assumption | refine up_n (by first | assumption | decide | omega) ?_)) (by first | assumption | rfl) (ix_i rfl (by omega) (by decide)) ?_
            rw [hga, ind_T hm]
            refine gr_ifF (t := 205) rfl (by decide) (by omega) (cN_eq (by omega)) ?_
            refine gr_run (pc' := 204) 1 rfl ?_
            exact gr_ret rfl rfl
          · obtain ⟨f', g', r⟩ := copy f g1 x7 hm hg2 512 0 f (by omega) (fun i hi => by omega)
            refine ⟨f', g', ?_⟩
            refine gr_run (pc' := 117) 2 rfl ?_
            refine gr_icT (t := 177) rfl (by decide) (by omega) (by omega) (cI_ge (by omega)) ?_
            refine gr_run (pc' := 178) 1 rfl ?_
            refine gr_getf rfl rfl (by repeat (first | exact up_s | assumption | refine up_n (by first | assumption | decide | omega) ?_)) (by first | assumption | rfl) rfl ?_
            refine gr_run (pc' := 182) 1 rfl ?_
            refine gr_getf rfl rfl (by repeat (first | exact up_s | assumption | refine up_n (by first | assumption | decide | omega) ?_)) (by first | assumption | rfl) rfl ?_
            refine gr_run (pc' := 186) 1 rfl ?_
            refine gr_getf rfl rfl (by repeat (first | exact up_s | assumption | refine up_n (by first | assumption | decide | omega) ?_)) (by first | assumption | rfl) rfl ?_
            refine gr_run (pc' := 192) 2 rfl ?_
            refine gr_iadd rfl ?_
            refine gr_run (pc' := 194) 1 rfl ?_
            refine gr_iadd rfl ?_
            rw [show (k : Int) + n + 1 = (k : Int) + 1 + n by omega]
            refine gr_callS (As := [_, _, _]) lk_7_90 rfl rfl (r_X7_airOf (up_n (by decide) (up_n (by decide) e1)) rfl hS.1 e2 (by omega)) rfl rfl rfl ?_
            refine gr_zald rfl (by repeat (first | exact up_s | assumption | refine up_n (by first | assumption | decide | omega) ?_)) (by first | assumption | rfl) (ix_i rfl (by omega) (by decide)) ?_
            rw [hga, ind_F hm]
            refine gr_ifT (t := 205) rfl (by decide) (by omega) (cI_eq (by omega)) ?_
            refine gr_run (pc' := 208) 2 rfl ?_
            exact r
        | succ j ih =>
          intro a g1 x7 haj hg1
          have hfa := hf a (by omega)
          by_cases hra : RS s (n - 1) a
          · rw [ind_T hra] at hfa
            have inner : ∀ (u v : Nat) (g2 : Nat → Int32), v + u = 10 → mk01 g2 (fun b => (∃ c, c < a ∧ RS s (n - 1) c ∧ stp1 c b) ∨ ∃ x, x < v ∧ bhN a x = (b : Int)) →
                ∃ f' g' : Nat → Int32, Gr mX7_mended (d + 2) 123 [some (.ref 43), some (.int (iI k)), some (.int (iI x)), some (.int (iI 0)), some (.int (iI (s : Int))), some (.int (iI (n : Int))), some (.int (iI (a : Int))), some (.int (iI (v : Int)))] [] (va_up (va_up A 55 (Za 512 f)) 56 (Za 512 g2)) (some (.int (iI (tmF (fun n => RS s n (airN σ.2.1.1 σ.2.1.2 ((k : Int) + 1 + (n : Int)))) (m + 1) n)))) (va_up (va_up A 55 (Za 512 f')) 56 (Za 512 g')) := by
              intro u
              induction u with
              | zero =>
                intro v g2 hvu hg2
                obtain ⟨f', g', r⟩ := ih (a + 1) g2 (some (.int (iI (v : Int)))) (by omega) (hg2.c (fun b hb => by
                  constructor
                  · rintro (⟨c, c1, c2⟩ | ⟨w, w1, w2⟩)
                    · exact ⟨c, by omega, c2⟩
                    · exact ⟨a, by omega, hra, bhN_stp (by omega) w2⟩
                  · rintro ⟨c, c1, c2, c3⟩
                    by_cases ec : c = a
                    · subst ec
                      obtain ⟨w, w1, w2⟩ := stp_bhN c3
                      exact Or.inr ⟨w, by omega, w2⟩
                    · exact Or.inl ⟨c, by omega, c2, c3⟩))
                refine ⟨f', g', ?_⟩
                refine gr_run (pc' := 127) 2 rfl ?_
                refine gr_icT (t := 171) rfl (by decide) (by omega) (by omega) (cI_gt (by omega)) ?_
                refine gr_iinc rfl rfl rfl rfl ?_
                refine gr_run (pc' := 112) 1 rfl ?_
                exact r
              | succ u ih2 =>
                intro v g2 hvu hg2
                rcases bhN_lt (a := a) (x := v) (by omega) (by omega) with q | q
                · obtain ⟨f', g', r⟩ := ih2 (v + 1) g2 (by omega) (hg2.c (fun b hb => by
                    constructor
                    · rintro (c | ⟨w, w1, w2⟩)
                      · exact Or.inl c
                      · exact Or.inr ⟨w, by omega, w2⟩
                    · rintro (c | ⟨w, w1, w2⟩)
                      · exact Or.inl c
                      · by_cases ew : w = v
                        · subst ew; omega
                        · exact Or.inr ⟨w, by omega, w2⟩))
                  refine ⟨f', g', ?_⟩
                  refine gr_run (pc' := 127) 2 rfl ?_
                  refine gr_icF (t := 171) rfl (by decide) (by omega) (by omega) (cN_gt (by omega)) ?_
                  refine gr_run (pc' := 131) 1 rfl ?_
                  refine gr_getf rfl rfl (by repeat (first | exact up_s | assumption | refine up_n (by first | assumption | decide | omega) ?_)) (by first | assumption | rfl) rfl ?_
                  refine gr_run (pc' := 136) 1 rfl ?_
                  refine gr_zald rfl (by repeat (first | exact up_s | assumption | refine up_n (by first | assumption | decide | omega) ?_)) (by first | assumption | rfl) (ix_i rfl (by omega) (by decide)) ?_
                  rw [hfa]
                  refine gr_ifF (t := 171) rfl (by decide) (by omega) (cN_eq (by omega)) ?_
                  refine gr_run (pc' := 144) 2 rfl ?_
                  refine gr_callS (As := [_, _]) lk_7_164 rfl rfl (r_behind (by omega) (by omega)) rfl rfl rfl ?_
                  rw [q]
                  refine gr_run (pc' := 149) 1 rfl ?_
                  refine gr_icT (t := 165) rfl (by decide) (by omega) (by omega) (cI_eq (by omega)) ?_
                  refine gr_iinc rfl rfl rfl rfl ?_
                  refine gr_run (pc' := 123) 1 rfl ?_
                  exact r
                · obtain ⟨c, hc⟩ : ∃ c : Nat, bhN a v = (c : Int) := ⟨(bhN a v).toNat, by omega⟩
                  obtain ⟨f', g', r⟩ := ih2 (v + 1) (upd g2 c (iI 1)) (by omega) (hg2.u.c (fun b hb => by
                    constructor
                    · rintro ((e | ⟨w, w1, w2⟩) | e)
                      · exact Or.inl e
                      · exact Or.inr ⟨w, by omega, w2⟩
                      · exact Or.inr ⟨v, by omega, by rw [hc, e]⟩
                    · rintro (e | ⟨w, w1, w2⟩)
                      · exact Or.inl (Or.inl e)
                      · by_cases ew : w = v
                        · subst ew; exact Or.inr (by omega)
                        · exact Or.inl (Or.inr ⟨w, by omega, w2⟩)))
                  refine ⟨f', g', ?_⟩
                  refine gr_run (pc' := 127) 2 rfl ?_
                  refine gr_icF (t := 171) rfl (by decide) (by omega) (by omega) (cN_gt (by omega)) ?_
                  refine gr_run (pc' := 131) 1 rfl ?_
                  refine gr_getf rfl rfl (by repeat (first | exact up_s | assumption | refine up_n (by first | assumption | decide | omega) ?_)) (by first | assumption | rfl) rfl ?_
                  refine gr_run (pc' := 136) 1 rfl ?_
                  refine gr_zald rfl (by repeat (first | exact up_s | assumption | refine up_n (by first | assumption | decide | omega) ?_)) (by first | assumption | rfl) (ix_i rfl (by omega) (by decide)) ?_
                  rw [hfa]
                  refine gr_ifF (t := 171) rfl (by decide) (by omega) (cN_eq (by omega)) ?_
                  refine gr_run (pc' := 144) 2 rfl ?_
                  refine gr_callS (As := [_, _]) lk_7_164 rfl rfl (r_behind (by omega) (by omega)) rfl rfl rfl ?_
                  rw [hc]
                  refine gr_run (pc' := 149) 1 rfl ?_
                  refine gr_icF (t := 165) rfl (by decide) (by omega) (by omega) (cN_eq (by omega)) ?_
                  refine gr_run (pc' := 153) 1 rfl ?_
                  refine gr_getf rfl rfl (by repeat (first | exact up_s | assumption | refine up_n (by first | assumption | decide | omega) ?_)) (by first | assumption | rfl) rfl ?_
                  refine gr_run (pc' := 160) 2 rfl ?_
                  refine gr_callS (As := [_, _]) lk_7_164 rfl rfl (r_behind (by omega) (by omega)) rfl rfl rfl ?_
                  rw [hc]
                  refine gr_run (pc' := 164) 1 rfl ?_
                  refine gr_zast rfl (by repeat (first | exact up_s | assumption | refine up_n (by first | assumption | decide | omega) ?_)) (by first | assumption | rfl) (ix_i rfl (by omega) (by decide)) ?_
                  rw [bx_uu, nar1]
                  refine gr_iinc rfl rfl rfl rfl ?_
                  refine gr_run (pc' := 123) 1 rfl ?_
                  exact r
            obtain ⟨f', g', r⟩ := inner 10 0 g1 (by omega) (hg1.c (fun b hb => ⟨Or.inl, fun q => q.resolve_right (fun ⟨w, w1, _⟩ => by omega)⟩))
            refine ⟨f', g', ?_⟩
            refine gr_run (pc' := 117) 2 rfl ?_
            refine gr_icF (t := 177) rfl (by decide) (by omega) (by omega) (cN_ge (by omega)) ?_
            refine gr_run (pc' := 123) 2 rfl ?_
            exact r
          · rw [ind_F hra] at hfa
            obtain ⟨f', g', r⟩ := ih (a + 1) g1 (some (.int (iI 0))) (by omega) (hg1.c (fun b hb => by
              constructor
              · rintro ⟨c, c1, c2⟩; exact ⟨c, by omega, c2⟩
              · rintro ⟨c, c1, c2, c3⟩
                by_cases ec : c = a
                · subst ec; exact absurd c2 hra
                · exact ⟨c, by omega, c2, c3⟩))
            refine ⟨f', g', ?_⟩
            refine gr_run (pc' := 117) 2 rfl ?_
            refine gr_icF (t := 177) rfl (by decide) (by omega) (by omega) (cN_ge (by omega)) ?_
            refine gr_run (pc' := 127) 4 rfl ?_
            refine gr_icF (t := 171) rfl (by decide) (by omega) (by omega) (cN_gt (by omega)) ?_
            refine gr_run (pc' := 131) 1 rfl ?_
            refine gr_getf rfl rfl (by repeat (first | exact up_s | assumption | refine up_n (by first | assumption | decide | omega) ?_)) (by first | assumption | rfl) rfl ?_
            refine gr_run (pc' := 136) 1 rfl ?_
            refine gr_zald rfl (by repeat (first | exact up_s | assumption | refine up_n (by first | assumption | decide | omega) ?_)) (by first | assumption | rfl) (ix_i rfl (by omega) (by decide)) ?_
            rw [hfa]
            refine gr_ifT (t := 171) rfl (by decide) (by omega) (cI_eq (by omega)) ?_
            refine gr_iinc rfl rfl rfl rfl ?_
            refine gr_run (pc' := 112) 1 rfl ?_
            exact r
      have zero : ∀ (j a : Nat) (g1 : Nat → Int32), a + j = 512 → (∀ i, i < a → g1 i = iI 0) →
          ∃ f' g' : Nat → Int32, Gr mX7_mended (d + 2) 87 [some (.ref 43), some (.int (iI k)), some (.int (iI x)), some (.int (iI 0)), some (.int (iI (s : Int))), some (.int (iI (n : Int))), some (.int (iI (a : Int))), x7] [] (va_up (va_up A 55 (Za 512 f)) 56 (Za 512 g1)) (some (.int (iI (tmF (fun n => RS s n (airN σ.2.1.1 σ.2.1.2 ((k : Int) + 1 + (n : Int)))) (m + 1) n)))) (va_up (va_up A 55 (Za 512 f')) 56 (Za 512 g')) := by
        intro j
        induction j with
        | zero =>
          intro a g1 haj hg1
          obtain ⟨f', g', r⟩ := mark 512 0 g1 x7 (by omega) (fun b hb => by rw [hg1 b (by omega), ind_F (fun ⟨c, c1, _⟩ => by omega)]; rfl)
          refine ⟨f', g', ?_⟩
          refine gr_run (pc' := 92) 2 rfl ?_
          refine gr_icT (t := 109) rfl (by decide) (by omega) (by omega) (cI_ge (by omega)) ?_
          refine gr_run (pc' := 112) 2 rfl ?_
          exact r
        | succ j ih =>
          intro a g1 haj hg1
          obtain ⟨f', g', r⟩ := ih (a + 1) (upd g1 a (iI 0)) (by omega) (fun i hi => by
            unfold upd
            by_cases ei : i = a
            · rw [if_pos ei]
            · rw [if_neg ei]; exact hg1 i (by omega))
          refine ⟨f', g', ?_⟩
          refine gr_run (pc' := 92) 2 rfl ?_
          refine gr_icF (t := 109) rfl (by decide) (by omega) (by omega) (cN_ge (by omega)) ?_
          refine gr_run (pc' := 96) 1 rfl ?_
          refine gr_getf rfl rfl (by repeat (first | exact up_s | assumption | refine up_n (by first | assumption | decide | omega) ?_)) (by first | assumption | rfl) rfl ?_
          refine gr_run (pc' := 102) 2 rfl ?_
          refine gr_zast rfl (by repeat (first | exact up_s | assumption | refine up_n (by first | assumption | decide | omega) ?_)) (by first | assumption | rfl) (ix_i rfl (by omega) (by decide)) ?_
          rw [bx_uu, nar0]
          refine gr_iinc rfl rfl rfl rfl ?_
          refine gr_run (pc' := 87) 1 rfl ?_
          exact r
      obtain ⟨f', g', r⟩ := zero 512 0 g (by omega) (fun i hi => by omega)
      refine ⟨f', g', ?_⟩
      refine gr_run (pc' := 74) 2 rfl ?_
      refine gr_icF (t := 242) rfl (by decide) (by omega) (by omega) (cN_gt (by omega)) ?_
      refine gr_run (pc' := 81) 2 rfl ?_
      refine gr_icF (t := 242) rfl (by decide) (by omega) (by omega) (cN_eq (by omega)) ?_
      refine gr_run (pc' := 87) 2 rfl ?_
      exact r
  obtain ⟨f', g', r⟩ := init _ A (fun f hf => by
    obtain ⟨f', g', r⟩ := main 9 1 f ft none none (by omega) (by omega) (fun b hb => by
      rw [hf b hb]
      exact congrArg (fun n : Nat => iI (n : Int)) (ind_iff ⟨fun q => by show b = s; omega, fun q => by have q' : b = s := q; omega⟩))
    refine ⟨f', g', ?_⟩
    refine gr_run (pc' := 70) 2 rfl ?_
    exact r) 512 0 fh (by omega) (fun i hi => by omega)
  rw [em2]
  exact ⟨_, start _ _ r, hR.u56 f' g', (offE.rf.up (by omega)).up (by omega)⟩
end MC
