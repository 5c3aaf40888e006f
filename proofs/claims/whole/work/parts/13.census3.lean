/-! Census: placeOf, primesFrom -/
def rdN (p : Nat) (h : Nat → Nat) (j : Nat) : Nat := sumN (fun i => (i + h i) / p) j
def rkA (p m : Nat) (h : Nat → Nat) (b : Nat) : Nat → Nat
  | 0 => 0
  | j + 1 => rkA p m h b j + sumN (fun x => fb p m (mkN p h j) (b - rdN p h j) x) (h j)
theorem mkN_lt {n : Nat} {h : Nat → Nat} (hn : 1 ≤ n) (j : Nat) : mkN n h j < 2 ^ n := orN_lt (fun _ _ => pow2_lt (lnd_lt hn))
/-- are the airs of a row unlike -/
def unl (n : Nat) (h : Nat → Nat) : Prop := ∀ i j, i < j → j < n → airN n h (i : Int) ≠ airN n h (j : Int)
theorem unl_dec {n : Nat} {h : Nat → Nat} : unl n h ∨ ∃ i j, i < j ∧ j < n ∧ airN n h (i : Int) = airN n h (j : Int) := by
  refine (Classical.em (unl n h)).imp id (fun hn => ?_)
  refine Classical.byContradiction (fun hk => hn (fun i j h1 h2 h3 => hk ⟨i, j, h1, h2, h3⟩))
noncomputable def pfF (p m : Nat) : Nat → Nat → Nat → Nat → (Nat → Nat) → Nat
  | 0, _, _, _, h => (Classical.propDecidable (ftF p h (p - 1) 1 = 1 ∧ unl p h)).casesOn (fun _ => 0) (fun _ => 1)
  | k + 1, pl, t, l, h => sumN (fun x => if (pl = 0 ∨ h 0 ≤ x) ∧ 0 < fb p m t l x then pfF p m k (pl + 1) (t ||| 2 ^ ((pl + x) % p)) (l - (pl + x) / p) (updN h pl x) else 0) (m + 1)
theorem pfF_0 {p m pl t l : Nat} {h : Nat → Nat} (hc : ftF p h (p - 1) 1 = 1 ∧ unl p h) : pfF p m 0 pl t l h = 1 := by
  simp only [pfF]
  cases Classical.propDecidable (ftF p h (p - 1) 1 = 1 ∧ unl p h) with
  | isTrue _ => rfl
  | isFalse hn => exact absurd hc hn
theorem pfF_1 {p m pl t l : Nat} {h : Nat → Nat} (hc : ¬ (ftF p h (p - 1) 1 = 1 ∧ unl p h)) : pfF p m 0 pl t l h = 0 := by
  simp only [pfF]
  cases Classical.propDecidable (ftF p h (p - 1) 1 = 1 ∧ unl p h) with
  | isTrue hn => exact absurd hn hc
  | isFalse _ => rfl
theorem r_X2_heightAt0 {d : Nat} {A : AH} {a b n x : Nat} {f : Nat → Int32} (ha : A a = Ob 2 [.ref b, .int (iI n)]) (hb : A b = Ia 10 f) (pa : Nat.blt a NC = true) (pb : Nat.blt b NC = true) (hn : 1 ≤ n ∧ n ≤ 10) (hf : f 0 = iI x) : Rt mX2_heightAt (d + 1) [.ref a, .int (iI 0)] A (some (.int (iI (x : Int)))) A := by
  refine rt_intro kX2_heightAt rfl rfl rfl ?_
  refine gr_run (pc' := 1) 1 rfl ?_
  refine gr_getf rfl rfl (by repeat (first | exact up_s | assumption | refine up_n (by first | assumption | decide | omega) ?_)) (by first | assumption | rfl) rfl ?_
  refine gr_run (pc' := 5) 1 rfl ?_
  refine gr_icT (t := 12) rfl (by decide) (by omega) (by omega) (cI_ge (by omega)) ?_
  refine gr_run (pc' := 13) 1 rfl ?_
  refine gr_getf rfl rfl (by repeat (first | exact up_s | assumption | refine up_n (by first | assumption | decide | omega) ?_)) (by first | assumption | rfl) rfl ?_
  refine gr_run (pc' := 18) 2 rfl ?_
  refine gr_getf rfl rfl (by repeat (first | exact up_s | assumption | refine up_n (by first | assumption | decide | omega) ?_)) (by first | assumption | rfl) rfl ?_
  refine gr_callS (As := [_, _]) lk_2_32 rfl rfl (r_floorMod (by omega) hn.1 (by omega)) rfl rfl rfl ?_
  rw [show (0 : Int) % (n : Int) = ((0 : Nat) : Int) by simp]
  refine gr_iald rfl (by repeat (first | exact up_s | assumption | refine up_n (by first | assumption | decide | omega) ?_)) (by first | assumption | rfl) (ix_i rfl (by omega) (by decide)) ?_
  rw [hf]
  exact gr_ret rfl rfl
section CH
variable {d : Nat} {A : AH} {q c p m : Nat} {f : Nat → Int32}
theorem r_X0_placeOf {a e : Nat} {h : Nat → Nat} {g : Nat → Int32} (hq : A q = Ob 0 [.ref c, .int (iI p), .int (iI m)]) (hc : A c = Ia 1792 f) (pq : Nat.blt q NC = true) (pc : Nat.blt c NC = true) (hp : 1 ≤ p ∧ p ≤ 8) (hm : m ≤ 9) (hf : tabOKf p m f)
    (ha : A a = Ob 2 [.ref e, .int (iI p)]) (he : A e = Ia 10 g) (pa : Nat.blt a NC = true) (pe : Nat.blt e NC = true) (hh : okH p h) (hg' : ∀ i, i < p → g i = iI (h i)) (hb : sumN h p / p ≤ 6) (hr : ∀ j, j ≤ p → rdN p h j ≤ sumN h p / p) :
    Rt mX0_placeOf (d + 2) [.ref q, .ref a] A (some (.int (iI ((rkA p m h (sumN h p / p) p : Nat) : Int)))) A := by
  generalize hbb : sumN h p / p = b at *
  have inner : ∀ (j own : Nat) (r : Option Value), j < p → own ≤ 9 → (∀ x7 : Option Value, Gr mX0_placeOf (d + 2) 59 [some (.ref q), some (.ref a), some (.int (iI ((mkN p h j : Nat) : Int))), some (.int (iI ((b - rdN p h j : Nat) : Int))), some (.int (iI ((rkA p m h b j + sumN (fun x => fb p m (mkN p h j) (b - rdN p h j) x) own : Nat) : Int))), some (.int (iI (j : Int))), some (.int (iI (own : Int))), x7] [] A r A) →
      ∀ y, y ≤ own → Gr mX0_placeOf (d + 2) 33 [some (.ref q), some (.ref a), some (.int (iI ((mkN p h j : Nat) : Int))), some (.int (iI ((b - rdN p h j : Nat) : Int))), some (.int (iI ((rkA p m h b j + sumN (fun x => fb p m (mkN p h j) (b - rdN p h j) x) y : Nat) : Int))), some (.int (iI (j : Int))), some (.int (iI (own : Int))), some (.int (iI (y : Int)))] [] A r A := by
    intro j own r hj ho K
    refine go_up ?_ ?_
    · refine gr_run (pc' := 37) 2 rfl ?_
      refine gr_icT (t := 59) rfl (by decide) (by omega) (by omega) (cI_ge (by omega)) ?_
      exact K _
    · intro y hy ih
      refine gr_run (pc' := 37) 2 rfl ?_
      refine gr_icF (t := 59) rfl (by decide) (by omega) (by omega) (cN_ge (by omega)) ?_
      refine gr_run (pc' := 47) 5 rfl ?_
      refine gr_callV (As := [_, _, _]) lk_0_52 rfl rfl (r_X0_fillingsBy hq hc pq pc hp (mkN_lt hp.1 j) (Nat.le_trans (Nat.sub_le _ _) hb) (by omega) hf) (by repeat (first | exact up_s | assumption | refine up_n (by first | assumption | decide | omega) ?_)) (by first | assumption | exact Nat.le_of_ble_eq_true rfl | exact Nat.le_of_ble_eq_true (by assumption)) rfl rfl rfl rfl rfl ?_
      refine gr_iadd rfl ?_
      refine gr_run (pc' := 53) 1 rfl ?_
      refine gr_iinc rfl rfl rfl rfl ?_
      refine gr_run (pc' := 33) 1 rfl ?_
      simp only [sumN] at ih
      rw [← Nat.add_assoc] at ih
      exact ih
  have key : ∀ j, j ≤ p → ∀ x6 x7 : Option Value, Gr mX0_placeOf (d + 2) 13 [some (.ref q), some (.ref a), some (.int (iI ((mkN p h j : Nat) : Int))), some (.int (iI ((b - rdN p h j : Nat) : Int))), some (.int (iI ((rkA p m h b j : Nat) : Int))), some (.int (iI (j : Int))), x6, x7] [] A (some (.int (iI ((rkA p m h b p : Nat) : Int)))) A := by
    refine go_up ?_ ?_
    · intro x6 x7
      refine gr_run (pc' := 16) 2 rfl ?_
      refine gr_getf rfl rfl (by repeat (first | exact up_s | assumption | refine up_n (by first | assumption | decide | omega) ?_)) (by first | assumption | rfl) rfl ?_
      refine gr_icT (t := 89) rfl (by decide) (by omega) (by omega) (cI_ge (by omega)) ?_
      refine gr_run (pc' := 91) 1 rfl ?_
      exact gr_ret rfl rfl
    · intro j hj ih x6 x7
      have h9 := hh.2 j hj
      have hr1 := hr (j + 1) (by omega)
      refine gr_run (pc' := 16) 2 rfl ?_
      refine gr_getf rfl rfl (by repeat (first | exact up_s | assumption | refine up_n (by first | assumption | decide | omega) ?_)) (by first | assumption | rfl) rfl ?_
      refine gr_icF (t := 89) rfl (by decide) (by omega) (by omega) (cN_ge (by omega)) ?_
      refine gr_run (pc' := 25) 2 rfl ?_
      refine gr_callV (As := [_]) lk_0_64 rfl rfl (r_X2_heightAt ha he pa pe ⟨hp.1, by omega⟩ hg' (by omega)) (by repeat (first | exact up_s | assumption | refine up_n (by first | assumption | decide | omega) ?_)) (by first | assumption | exact Nat.le_of_ble_eq_true rfl | exact Nat.le_of_ble_eq_true (by assumption)) rfl rfl rfl rfl rfl ?_
      rw [hg_lt hj]
      refine gr_run (pc' := 33) 3 rfl ?_
      refine inner j (h j) _ hj h9 (fun x7 => ?_) 0 (by omega)
      refine gr_run (pc' := 65) 4 rfl ?_
      refine gr_iadd rfl ?_
      rw [show (j : Int) + (h j : Int) = ((j + h j : Nat) : Int) from rfl]
      refine gr_callV (As := [_]) lk_0_41 rfl rfl (r_X0_placeBit hq pq hp (by omega)) (by repeat (first | exact up_s | assumption | refine up_n (by first | assumption | decide | omega) ?_)) (by first | assumption | exact Nat.le_of_ble_eq_true rfl | exact Nat.le_of_ble_eq_true (by assumption)) rfl rfl rfl rfl rfl ?_
      refine gr_iorN rfl ?_
      refine gr_run (pc' := 77) 5 rfl ?_
      refine gr_iadd rfl ?_
      rw [show (j : Int) + (h j : Int) = ((j + h j : Nat) : Int) from rfl]
      refine gr_callV (As := [_]) lk_0_44 rfl rfl (r_X0_roundsOf hq pq hp (by omega)) (by repeat (first | exact up_s | assumption | refine up_n (by first | assumption | decide | omega) ?_)) (by first | assumption | exact Nat.le_of_ble_eq_true rfl | exact Nat.le_of_ble_eq_true (by assumption)) rfl rfl rfl rfl rfl ?_
      simp only [rdN, sumN] at hr1
      have hsub : b - rdN p h (j + 1) = b - rdN p h j - (j + h j) / p := by unfold rdN; simp only [sumN]; rw [Nat.sub_sub]
      have hle : (j + h j) / p ≤ b - rdN p h j := by unfold rdN; exact Nat.le_sub_of_add_le (by rw [Nat.add_comm]; exact hr1)
      generalize (j + h j) / p = rr at *
      refine gr_isub rfl ?_
      rw [show ((b - rdN p h j : Nat) : Int) - (rr : Int) = ((b - rdN p h j - rr : Nat) : Int) by omega, ← hsub]
      refine gr_run (pc' := 83) 1 rfl ?_
      refine gr_iinc rfl rfl rfl rfl ?_
      refine gr_run (pc' := 13) 1 rfl ?_
      exact ih _ _
  refine rt_intro kX0_placeOf rfl rfl rfl ?_
  refine gr_run (pc' := 3) 3 rfl ?_
  refine gr_callV (As := []) lk_0_60 rfl rfl (r_X2_ballCount ha he pa pe hh hg') (by repeat (first | exact up_s | assumption | refine up_n (by first | assumption | decide | omega) ?_)) (by first | assumption | exact Nat.le_of_ble_eq_true rfl | exact Nat.le_of_ble_eq_true (by assumption)) rfl rfl rfl rfl rfl ?_
  rw [hbb]
  refine gr_run (pc' := 13) 5 rfl ?_
  exact key 0 (by omega) none none
theorem r_X0_primesFrom {a e : Nat} (hq : A q = Ob 0 [.ref c, .int (iI p), .int (iI m)]) (hc : A c = Ia 1792 f) (pq : Nat.blt q NC = true) (pc : Nat.blt c NC = true) (hp : 1 ≤ p ∧ p ≤ 8) (hm : m ≤ 9) (hf : tabOKf p m f)
    (ha : A a = Ob 2 [.ref e, .int (iI p)]) (pa : Nat.blt a NC = true) (pe : Nat.blt e NC = true) (hce : c ≠ e) (hqe : q ≠ e) (hae : a ≠ e) : ∀ (k pl t l : Nat) (h : Nat → Nat) (g : Nat → Int32), pl + k = p → t < 2 ^ p → bc t = pl → l ≤ 6 → (∀ i, i < pl → h i ≤ 9) → (∀ i, i < pl → g i = iI (h i)) →
    ∃ g' : Nat → Int32, Rt mX0_primesFrom (d + k + 4) [.ref q, .int (iI pl), .int (iI t), .int (iI l), .ref a] (va_up A e (Ia 10 g)) (some (.int (iI ((pfF p m k pl t l h : Nat) : Int)))) (va_up A e (Ia 10 g')) ∧ ∀ i, i < pl → g' i = g i := by
  intro k
  have hA1 : ∀ u : Nat → Int32, (va_up A e (Ia 10 u)) q = Ob 0 [.ref c, .int (iI p), .int (iI m)] := fun u => up_n hqe hq
  have hA2 : ∀ u : Nat → Int32, (va_up A e (Ia 10 u)) c = Ia 1792 f := fun u => up_n hce hc
  have hA3 : ∀ u : Nat → Int32, (va_up A e (Ia 10 u)) a = Ob 2 [.ref e, .int (iI p)] := fun u => up_n hae ha
  induction k with
  | zero =>
    intro pl t l h g hpl ht hbc hl hh hgh
    have hpl : pl = p := by omega
    subst hpl
    have hok : okH pl h := ⟨⟨hp.1, by omega⟩, hh⟩
    refine ⟨g, ?_, fun _ _ => rfl⟩
    have h1 := hA1 g
    refine rt_intro kX0_primesFrom rfl rfl rfl ?_
    refine gr_run (pc' := 2) 2 rfl ?_
    refine gr_getf rfl rfl (by repeat (first | exact up_s | assumption | refine up_n (by first | assumption | decide | omega) ?_)) (by first | assumption | rfl) rfl ?_
    refine gr_icT (t := 14) rfl (by decide) (by omega) (by omega) (cI_ge (by omega)) ?_
    refine gr_run (pc' := 16) 1 rfl ?_
    refine gr_callV (As := []) lk_0_71 rfl rfl (r_X2_isFirst (hA3 g) up_s pa pe hok hgh) (by repeat (first | exact up_s | assumption | refine up_n (by first | assumption | decide | omega) ?_)) (by first | assumption | exact Nat.le_of_ble_eq_true rfl | exact Nat.le_of_ble_eq_true (by assumption)) rfl rfl rfl rfl rfl ?_
    rcases ftF_01 (n := pl) (h := h) (m := pl - 1) (k := 1) with h0 | h0
    · rw [pfF_1 (fun z => by rw [h0] at z; exact absurd z.1 (by decide)), h0]
      refine gr_ifT (t := 34) rfl (by decide) (by omega) (cI_eq (by omega)) ?_
      refine gr_run (pc' := 35) 1 rfl ?_
      exact gr_ret rfl rfl
    · rw [h0]
      refine gr_ifF (t := 34) rfl (by decide) (by omega) (cN_eq (by omega)) ?_
      refine gr_run (pc' := 24) 1 rfl ?_
      rcases unl_dec (n := pl) (h := h) with hu | ⟨i, j, hi, hj, he⟩
      · rw [pfF_0 ⟨h0, hu⟩]
        refine gr_callV (As := []) lk_0_75 rfl rfl (r_X2_hasUnlikeT (hA3 g) up_s pa pe hok hgh hu) (by repeat (first | exact up_s | assumption | refine up_n (by first | assumption | decide | omega) ?_)) (by first | assumption | exact Nat.le_of_ble_eq_true rfl | exact Nat.le_of_ble_eq_true (by assumption)) rfl rfl rfl rfl rfl ?_
        refine gr_ifF (t := 34) rfl (by decide) (by omega) (cN_eq (by omega)) ?_
        refine gr_run (pc' := 35) 2 rfl ?_
        exact gr_ret rfl rfl
      · rw [pfF_1 (fun z => z.2 i j hi hj he)]
        refine gr_callV (As := []) lk_0_75 rfl rfl (r_X2_hasUnlikeF (hA3 g) up_s pa pe hok hgh ⟨hi, hj⟩ he) (by repeat (first | exact up_s | assumption | refine up_n (by first | assumption | decide | omega) ?_)) (by first | assumption | exact Nat.le_of_ble_eq_true rfl | exact Nat.le_of_ble_eq_true (by assumption)) rfl rfl rfl rfl rfl ?_
        refine gr_ifT (t := 34) rfl (by decide) (by omega) (cI_eq (by omega)) ?_
        refine gr_run (pc' := 35) 1 rfl ?_
        exact gr_ret rfl rfl
  | succ k ihk =>
    intro pl t l h g hpl ht hbc hl hh hgh
    have h256 := pow8 hp.2
    -- the loop over the throws at this place
    have loop : ∀ w y (g : Nat → Int32), y + w = m + 1 → (pl = 0 ∨ h 0 ≤ y) → (∀ i, i < pl → g i = iI (h i)) → ∀ x7 : Option Value,
        ∃ g' : Nat → Int32, Gr mX0_primesFrom (d + (k + 1) + 4) 55 [some (.ref q), some (.int (iI pl)), some (.int (iI t)), some (.int (iI l)), some (.ref a), some (.int (iI ((sumN (fun x => if (pl = 0 ∨ h 0 ≤ x) ∧ 0 < fb p m t l x then pfF p m k (pl + 1) (t ||| 2 ^ ((pl + x) % p)) (l - (pl + x) / p) (updN h pl x) else 0) y : Nat) : Int))), some (.int (iI (y : Int))), x7] [] (va_up A e (Ia 10 g)) (some (.int (iI ((pfF p m (k + 1) pl t l h : Nat) : Int)))) (va_up A e (Ia 10 g')) ∧ ∀ i, i < pl → g' i = iI (h i) := by
      intro w
      induction w with
      | zero =>
        intro y g hy hlow hgh x7
        have h1 := hA1 g
        refine ⟨g, ?_, hgh⟩
        have hy : y = m + 1 := by omega
        subst hy
        refine gr_run (pc' := 58) 2 rfl ?_
        refine gr_getf rfl rfl (by repeat (first | exact up_s | assumption | refine up_n (by first | assumption | decide | omega) ?_)) (by first | assumption | rfl) rfl ?_
        refine gr_icT (t := 125) rfl (by decide) (by omega) (by omega) (cI_gt (by omega)) ?_
        refine gr_run (pc' := 127) 1 rfl ?_
        exact gr_ret rfl rfl
      | succ w ihw =>
        intro y g hy hlow hgh x7
        have h1 := hA1 g
        have hfb := fb_le hp.2 hm t l y
        by_cases hpos : 0 < fb p m t l y
        · have hcond : (pl = 0 ∨ h 0 ≤ y) ∧ 0 < fb p m t l y := ⟨hlow, hpos⟩
          have hfb2 := hpos
          unfold fb at hfb2
          rw [hbc] at hfb2
          have hmod : (pl + y) % p < p := Nat.mod_lt _ (by omega)
          have htb : t.testBit ((pl + y) % p) = false := by
            by_cases z : t.testBit ((pl + y) % p) = true
            · rw [if_pos z] at hfb2; omega
            · simpa using z
          rw [if_neg (by simp [htb])] at hfb2
          have hle : (pl + y) / p ≤ l := by
            by_cases z : l < (pl + y) / p
            · rw [if_pos z] at hfb2; omega
            · exact Nat.le_of_not_lt z
          obtain ⟨g1, hr1, hg1⟩ := ihk (pl + 1) (t ||| 2 ^ ((pl + y) % p)) (l - (pl + y) / p) (updN h pl y) (upd g pl (iI (y : Int))) (by omega) (or_lt hmod ht) (by rw [bc_or' hp.2 ht hmod htb, hbc]) (Nat.le_trans (Nat.sub_le _ _) hl) (fun i hi => by
            unfold updN
            by_cases z : i = pl
            · rw [if_pos z]; omega
            · rw [if_neg z]; exact hh i (by omega)) (fun i hi => by
            unfold upd updN
            by_cases z : i = pl
            · rw [if_pos z, if_pos z]
            · rw [if_neg z, if_neg z]; exact hgh i (by omega))
          obtain ⟨g2, hr2, hg2⟩ := ihw (y + 1) g1 (by omega) (hlow.imp id (fun z => by omega)) (fun i hi => by rw [hg1 i (by omega)]; unfold upd; rw [if_neg (by omega)]; exact hgh i hi) (some (.int (iI ((pl + y : Nat) : Int))))
          refine ⟨g2, ?_, hg2⟩
          have h2 := hA1 (upd g pl (iI (y : Int)))
          refine gr_run (pc' := 58) 2 rfl ?_
          refine gr_getf rfl rfl (by repeat (first | exact up_s | assumption | refine up_n (by first | assumption | decide | omega) ?_)) (by first | assumption | rfl) rfl ?_
          refine gr_icF (t := 125) rfl (by decide) (by omega) (by omega) (cN_gt (by omega)) ?_
          refine gr_run (pc' := 69) 4 rfl ?_
          refine gr_callV (As := [_, _, _]) lk_0_52 rfl rfl (r_X0_fillingsBy (hA1 g) (hA2 g) pq pc hp ht hl (by omega) hf) (by repeat (first | exact up_s | assumption | refine up_n (by first | assumption | decide | omega) ?_)) (by first | assumption | exact Nat.le_of_ble_eq_true rfl | exact Nat.le_of_ble_eq_true (by assumption)) rfl rfl rfl rfl rfl ?_
          refine gr_ifF (t := 119) rfl (by decide) (by omega) (cN_le (by omega)) ?_
          refine gr_run (pc' := 80) 3 rfl ?_
          refine gr_callV (As := [_, _]) lk_0_56 rfl rfl (r_X2_put (hA3 g) up_s pa pe (by omega) (by omega)) (by repeat (first | exact up_s | assumption | refine up_n (by first | assumption | decide | omega) ?_)) (by first | assumption | exact Nat.le_of_ble_eq_true rfl | exact Nat.le_of_ble_eq_true (by assumption)) rfl rfl rfl rfl rfl ?_
          rw [bx_uu]
          refine gr_run (pc' := 86) 2 rfl ?_
          refine gr_iadd rfl ?_
          refine gr_run (pc' := 94) 5 rfl ?_
          refine gr_iadd rfl ?_
          refine gr_run (pc' := 99) 3 rfl ?_
          rw [show (pl : Int) + (y : Int) = ((pl + y : Nat) : Int) from rfl]
          refine gr_callV (As := [_]) lk_0_41 rfl rfl (r_X0_placeBit h2 pq hp (by omega)) (by repeat (first | exact up_s | assumption | refine up_n (by first | assumption | decide | omega) ?_)) (by first | assumption | exact Nat.le_of_ble_eq_true rfl | exact Nat.le_of_ble_eq_true (by assumption)) rfl rfl rfl rfl rfl ?_
          refine gr_iorN rfl ?_
          refine gr_run (pc' := 107) 3 rfl ?_
          refine gr_callV (As := [_]) lk_0_44 rfl rfl (r_X0_roundsOf h2 pq hp (by omega)) (by repeat (first | exact up_s | assumption | refine up_n (by first | assumption | decide | omega) ?_)) (by first | assumption | exact Nat.le_of_ble_eq_true rfl | exact Nat.le_of_ble_eq_true (by assumption)) rfl rfl rfl rfl rfl ?_
          generalize hrr : (pl + y) / p = rr at *
          refine gr_isub rfl ?_
          rw [show (l : Int) - (rr : Int) = ((l - rr : Nat) : Int) by omega]
          refine gr_run (pc' := 113) 1 rfl ?_
          refine gr_callV (As := [_, _, _, _]) lk_0_67 rfl rfl (hr1) (by repeat (first | exact up_s | assumption | refine up_n (by first | assumption | decide | omega) ?_)) (by first | assumption | exact Nat.le_of_ble_eq_true rfl | exact Nat.le_of_ble_eq_true (by assumption)) rfl rfl rfl rfl rfl ?_
          refine gr_iadd rfl ?_
          refine gr_run (pc' := 119) 1 rfl ?_
          refine gr_iinc rfl rfl rfl rfl ?_
          refine gr_run (pc' := 55) 1 rfl ?_
          simp only [sumN, if_pos hcond] at hr2
          rw [hrr] at hr2
          exact hr2
        · obtain ⟨g2, hr2, hg2⟩ := ihw (y + 1) g (by omega) (hlow.imp id (fun z => by omega)) hgh x7
          refine ⟨g2, ?_, hg2⟩
          refine gr_run (pc' := 58) 2 rfl ?_
          refine gr_getf rfl rfl (by repeat (first | exact up_s | assumption | refine up_n (by first | assumption | decide | omega) ?_)) (by first | assumption | rfl) rfl ?_
          refine gr_icF (t := 125) rfl (by decide) (by omega) (by omega) (cN_gt (by omega)) ?_
          refine gr_run (pc' := 69) 4 rfl ?_
          refine gr_callV (As := [_, _, _]) lk_0_52 rfl rfl (r_X0_fillingsBy (hA1 g) (hA2 g) pq pc hp ht hl (by omega) hf) (by repeat (first | exact up_s | assumption | refine up_n (by first | assumption | decide | omega) ?_)) (by first | assumption | exact Nat.le_of_ble_eq_true rfl | exact Nat.le_of_ble_eq_true (by assumption)) rfl rfl rfl rfl rfl ?_
          refine gr_ifT (t := 119) rfl (by decide) (by omega) (cI_le (by omega)) ?_
          refine gr_iinc rfl rfl rfl rfl ?_
          refine gr_run (pc' := 55) 1 rfl ?_
          simp only [sumN, if_neg (fun z : (pl = 0 ∨ h 0 ≤ y) ∧ 0 < fb p m t l y => hpos z.2), Nat.add_zero] at hr2
          exact hr2
    have h1 := hA1 g
    by_cases hpl0 : pl = 0
    · subst hpl0
      obtain ⟨g2, hr2, hg2⟩ := loop (m + 1) 0 g (by omega) (Or.inl rfl) hgh none
      refine ⟨g2, ?_, fun i hi => by omega⟩
      refine rt_intro kX0_primesFrom rfl rfl rfl ?_
      refine gr_run (pc' := 2) 2 rfl ?_
      refine gr_getf rfl rfl (by repeat (first | exact up_s | assumption | refine up_n (by first | assumption | decide | omega) ?_)) (by first | assumption | rfl) rfl ?_
      refine gr_icF (t := 14) rfl (by decide) (by omega) (by omega) (cN_ge (by omega)) ?_
      refine gr_run (pc' := 11) 2 rfl ?_
      refine gr_icT (t := 36) rfl (by decide) (by omega) (by omega) (cI_lt (by omega)) ?_
      refine gr_run (pc' := 40) 3 rfl ?_
      refine gr_ifF (t := 47) rfl (by decide) (by omega) (cN_ne (by omega)) ?_
      refine gr_run (pc' := 55) 3 rfl ?_
      exact hr2
    · have h9 := hh 0 (by omega)
      have zer : ∀ y, y ≤ h 0 → sumN (fun x => if (pl = 0 ∨ h 0 ≤ x) ∧ 0 < fb p m t l x then pfF p m k (pl + 1) (t ||| 2 ^ ((pl + x) % p)) (l - (pl + x) / p) (updN h pl x) else 0) y = 0 := by
        intro y
        induction y with
        | zero => intro _; rfl
        | succ y ihy =>
          intro hy
          simp only [sumN]
          rw [ihy (by omega), if_neg (by omega)]
      by_cases hle : h 0 ≤ m + 1
      · obtain ⟨g2, hr2, hg2⟩ := loop (m + 1 - h 0) (h 0) g (by omega) (Or.inr (Nat.le_refl _)) hgh none
        refine ⟨g2, ?_, fun i hi => by rw [hg2 i hi, hgh i hi]⟩
        rw [zer _ (Nat.le_refl _)] at hr2
        refine rt_intro kX0_primesFrom rfl rfl rfl ?_
        refine gr_run (pc' := 2) 2 rfl ?_
        refine gr_getf rfl rfl (by repeat (first | exact up_s | assumption | refine up_n (by first | assumption | decide | omega) ?_)) (by first | assumption | rfl) rfl ?_
        refine gr_icF (t := 14) rfl (by decide) (by omega) (by omega) (cN_ge (by omega)) ?_
        refine gr_run (pc' := 11) 2 rfl ?_
        refine gr_icT (t := 36) rfl (by decide) (by omega) (by omega) (cI_lt (by omega)) ?_
        refine gr_run (pc' := 40) 3 rfl ?_
        refine gr_ifT (t := 47) rfl (by decide) (by omega) (cI_ne (by omega)) ?_
        refine gr_run (pc' := 50) 2 rfl ?_
        refine gr_callV (As := [_]) lk_0_64 rfl rfl (r_X2_heightAt0 (hA3 g) up_s pa pe ⟨hp.1, by omega⟩ (hgh 0 (by omega))) (by repeat (first | exact up_s | assumption | refine up_n (by first | assumption | decide | omega) ?_)) (by first | assumption | exact Nat.le_of_ble_eq_true rfl | exact Nat.le_of_ble_eq_true (by assumption)) rfl rfl rfl rfl rfl ?_
        refine gr_run (pc' := 55) 1 rfl ?_
        exact hr2
      · refine ⟨g, ?_, fun _ _ => rfl⟩
        refine rt_intro kX0_primesFrom rfl rfl rfl ?_
        refine gr_run (pc' := 2) 2 rfl ?_
        refine gr_getf rfl rfl (by repeat (first | exact up_s | assumption | refine up_n (by first | assumption | decide | omega) ?_)) (by first | assumption | rfl) rfl ?_
        refine gr_icF (t := 14) rfl (by decide) (by omega) (by omega) (cN_ge (by omega)) ?_
        refine gr_run (pc' := 11) 2 rfl ?_
        refine gr_icT (t := 36) rfl (by decide) (by omega) (by omega) (cI_lt (by omega)) ?_
        refine gr_run (pc' := 40) 3 rfl ?_
        refine gr_ifT (t := 47) rfl (by decide) (by omega) (cI_ne (by omega)) ?_
        refine gr_run (pc' := 50) 2 rfl ?_
        refine gr_callV (As := [_]) lk_0_64 rfl rfl (r_X2_heightAt0 (hA3 g) up_s pa pe ⟨hp.1, by omega⟩ (hgh 0 (by omega))) (by repeat (first | exact up_s | assumption | refine up_n (by first | assumption | decide | omega) ?_)) (by first | assumption | exact Nat.le_of_ble_eq_true rfl | exact Nat.le_of_ble_eq_true (by assumption)) rfl rfl rfl rfl rfl ?_
        refine gr_run (pc' := 58) 3 rfl ?_
        refine gr_getf rfl rfl (by repeat (first | exact up_s | assumption | refine up_n (by first | assumption | decide | omega) ?_)) (by first | assumption | rfl) rfl ?_
        refine gr_icT (t := 125) rfl (by decide) (by omega) (by omega) (cI_gt (by omega)) ?_
        refine gr_run (pc' := 127) 1 rfl ?_
        simp only [pfF]
        rw [zer (m + 1) (by omega)]
        exact gr_ret rfl rfl
end CH
