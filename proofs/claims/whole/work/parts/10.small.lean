/-! the rest of Pattern; Shelf; Text -/
def lexM (n : Nat) (h : Nat → Nat) (k : Nat) : Nat → Nat → Int
  | 0, _ => 0
  | m + 1, i => if (hg n h ((i : Int) + k) : Int) - h i = 0 then lexM n h k m (i + 1) else (hg n h ((i : Int) + k) : Int) - h i
def ftF (n : Nat) (h : Nat → Nat) : Nat → Nat → Int
  | 0, _ => 1
  | m + 1, k => if lexM n h k n 0 < 0 then 0 else ftF n h m (k + 1)
theorem ftF_01 {n : Nat} {h : Nat → Nat} : ∀ {m k : Nat}, ftF n h m k = 0 ∨ ftF n h m k = 1
  | 0, _ => Or.inr rfl
  | m + 1, k => by
    simp only [ftF]
    split
    · exact Or.inl rfl
    · exact ftF_01
theorem lexM_bd {n : Nat} {h : Nat → Nat} (hh : okH n h) {k : Nat} : ∀ {m i : Nat}, i + m = n → -9 ≤ lexM n h k m i ∧ lexM n h k m i ≤ 9
  | 0, _, _ => by simp [lexM]
  | m + 1, i, hi => by
    simp only [lexM]
    have h1 := hg_le hh ((i : Int) + k)
    have h2 := hh.2 i (by omega)
    have := lexM_bd hh (k := k) (m := m) (i := i + 1) (by omega)
    split <;> omega
def bt1 (n : Nat) (h : Nat → Nat) : Nat → Int → Int → Int
  | 0, f, _ => f
  | k + 1, f, b => if b < 0 then f else bt1 n h k b (tbN n h b)
def cnF (n : Nat) (h : Nat → Nat) (t : Nat) : Nat := sumN (fun t => if tbN n h (t : Int) < 0 then 1 else 0) t
theorem sumN_01 {f : Nat → Nat} (hf : ∀ i, f i ≤ 1) : ∀ n, sumN f n ≤ n
  | 0 => Nat.le_refl 0
  | n + 1 => by have := sumN_01 hf n; have := hf n; simp only [sumN]; omega
theorem cnF_le (n : Nat) (h : Nat → Nat) (t : Nat) : cnF n h t ≤ t := sumN_01 (fun i => by split <;> omega) t
def btN (n : Nat) (h : Nat → Nat) (z : Int) : Int :=
  let f := z % ((max 1 (cyS n h (z % (n : Int)).toNat) : Nat) : Int)
  (cnF n h (bt1 n h 90 f (tbN n h f)).toNat : Int)
theorem cyS_le {n : Nat} {h : Nat → Nat} (hh : okH n h) (t : Nat) : cyS n h t ≤ 90 := by
  have := sumN_le (h := fun i => if (cyB n h t).testBit i then h i else 0) (m := 9) (n := n) (fun i hi => by have := hh.2 i hi; split <;> omega)
  have h10 := hh.1.2
  unfold cyS
  omega
theorem bt1_bd {n : Nat} {h : Nat → Nat} : ∀ {k : Nat} {f b : Int}, 0 ≤ f → b ≤ f → 0 ≤ bt1 n h k f b ∧ bt1 n h k f b ≤ f
  | 0, f, b, hf, _ => by simp only [bt1]; omega
  | k + 1, f, b, hf, hb => by
    simp only [bt1]
    split
    · omega
    · have := bt1_bd (n := n) (h := h) (k := k) (f := b) (b := tbN n h b) (by omega) (tbN_bd n h b).2
      omega
section PC
variable {d : Nat} {A : AH} {a b n : Nat} {f : Nat → Int32} {h : Nat → Nat}
theorem r_X2_isFirst (ha : A a = Ob 2 [.ref b, .int (iI n)]) (hb : A b = Ia 10 f) (pa : Nat.blt a NC = true) (pb : Nat.blt b NC = true) (hh : okH n h) (hf : ∀ i, i < n → f i = iI (h i)) : Rt mX2_isFirstOfTurned (d + 2) [.ref a] A (some (.int (iI (ftF n h (n - 1) 1)))) A := by
  have hn := hh.1
  have inner : ∀ (k : Nat) (r : Option Value), 1 ≤ k → k < n → (∀ x3 : Option Value, Gr mX2_isFirstOfTurned (d + 2) 47 [some (.ref a), some (.int (iI (k : Int))), some (.int (iI (lexM n h k n 0))), x3] [] A r A) →
      Gr mX2_isFirstOfTurned (d + 2) 14 [some (.ref a), some (.int (iI (k : Int))), some (.int (iI 0)), some (.int (iI 0))] [] A r A := by
    intro k r hk1 hk2 K
    have go : ∀ m i, i + m = n → lexM n h k n 0 = lexM n h k m i → Gr mX2_isFirstOfTurned (d + 2) 14 [some (.ref a), some (.int (iI (k : Int))), some (.int (iI 0)), some (.int (iI (i : Int)))] [] A r A := by
      intro m
      induction m with
      | zero =>
        intro i hi he
        refine gr_run (pc' := 16) 2 rfl ?_
        refine gr_getf rfl rfl (by repeat (first | exact up_s | assumption | refine up_n (by first | assumption | decide | omega) ?_)) (by first | assumption | rfl) rfl ?_
        refine gr_icT (t := 47) rfl (by decide) (by omega) (by omega) (cI_ge (by omega)) ?_
        have := K (some (.int (iI (i : Int))))
        rw [he] at this
        exact this
      | succ m ih =>
        intro i hi he
        have h1 := hg_le hh ((i : Int) + k)
        have h2 := hh.2 i (by omega)
        refine gr_run (pc' := 16) 2 rfl ?_
        refine gr_getf rfl rfl (by repeat (first | exact up_s | assumption | refine up_n (by first | assumption | decide | omega) ?_)) (by first | assumption | rfl) rfl ?_
        refine gr_icF (t := 47) rfl (by decide) (by omega) (by omega) (cN_ge (by omega)) ?_
        refine gr_run (pc' := 23) 1 rfl ?_
        refine gr_ifF (t := 47) rfl (by decide) (by omega) (cN_ne (by omega)) ?_
        refine gr_run (pc' := 29) 3 rfl ?_
        refine gr_iadd rfl ?_
        refine gr_callV (As := [_]) lk_2_35 rfl rfl (r_X2_heightAt ha hb pa pb hn hf (by omega)) (by repeat (first | exact up_s | assumption | refine up_n (by first | assumption | decide | omega) ?_)) (by first | assumption | exact Nat.le_of_ble_eq_true rfl | exact Nat.le_of_ble_eq_true (by assumption)) rfl rfl rfl rfl rfl ?_
        refine gr_run (pc' := 34) 1 rfl ?_
        refine gr_getf rfl rfl (by repeat (first | exact up_s | assumption | refine up_n (by first | assumption | decide | omega) ?_)) (by first | assumption | rfl) rfl ?_
        refine gr_run (pc' := 38) 1 rfl ?_
        refine gr_iald rfl (by repeat (first | exact up_s | assumption | refine up_n (by first | assumption | decide | omega) ?_)) (by first | assumption | rfl) (ix_i rfl (by omega) (by decide)) ?_
        rw [hf i (by omega)]
        refine gr_isub rfl ?_
        refine gr_run (pc' := 41) 1 rfl ?_
        refine gr_iinc rfl rfl rfl rfl ?_
        refine gr_run (pc' := 14) 1 rfl ?_
        simp only [lexM] at he
        by_cases hz : (hg n h ((i : Int) + k) : Int) - h i = 0
        · rw [if_pos hz] at he
          rw [hz]
          exact ih (i + 1) (by omega) he
        · rw [if_neg hz] at he
          have := K (some (.int (iI ((i : Int) + 1))))
          rw [he] at this
          by_cases hin : i + 1 = n
          · refine gr_run (pc' := 16) 2 rfl ?_
            refine gr_getf rfl rfl (by repeat (first | exact up_s | assumption | refine up_n (by first | assumption | decide | omega) ?_)) (by first | assumption | rfl) rfl ?_
            refine gr_icT (t := 47) rfl (by decide) (by omega) (by omega) (cI_ge (by omega)) ?_
            exact this
          · refine gr_run (pc' := 16) 2 rfl ?_
            refine gr_getf rfl rfl (by repeat (first | exact up_s | assumption | refine up_n (by first | assumption | decide | omega) ?_)) (by first | assumption | rfl) rfl ?_
            refine gr_icF (t := 47) rfl (by decide) (by omega) (by omega) (cN_ge (by omega)) ?_
            refine gr_run (pc' := 23) 1 rfl ?_
            refine gr_ifT (t := 47) rfl (by decide) (by omega) (cI_ne (by omega)) ?_
            exact this
    exact go n 0 (by omega) rfl
  have key : ∀ m k, k + m = n → 1 ≤ k → ∀ x2 x3 : Option Value, Gr mX2_isFirstOfTurned (d + 2) 2 [some (.ref a), some (.int (iI (k : Int))), x2, x3] [] A (some (.int (iI (ftF n h m k)))) A := by
    intro m
    induction m with
    | zero =>
      intro k hk h1 x2 x3
      refine gr_run (pc' := 4) 2 rfl ?_
      refine gr_getf rfl rfl (by repeat (first | exact up_s | assumption | refine up_n (by first | assumption | decide | omega) ?_)) (by first | assumption | rfl) rfl ?_
      refine gr_icT (t := 59) rfl (by decide) (by omega) (by omega) (cI_ge (by omega)) ?_
      refine gr_run (pc' := 60) 1 rfl ?_
      exact gr_ret rfl rfl
    | succ m ih =>
      intro k hk h1 x2 x3
      have hbd := lexM_bd hh (k := k) (m := n) (i := 0) (by omega)
      refine gr_run (pc' := 4) 2 rfl ?_
      refine gr_getf rfl rfl (by repeat (first | exact up_s | assumption | refine up_n (by first | assumption | decide | omega) ?_)) (by first | assumption | rfl) rfl ?_
      refine gr_icF (t := 59) rfl (by decide) (by omega) (by omega) (cN_ge (by omega)) ?_
      refine gr_run (pc' := 14) 4 rfl ?_
      refine inner k _ h1 (by omega) (fun x3 => ?_)
      by_cases hl : lexM n h k n 0 < 0
      · refine gr_run (pc' := 48) 1 rfl ?_
        refine gr_ifF (t := 53) rfl (by decide) (by omega) (cN_ge (by omega)) ?_
        refine gr_run (pc' := 52) 1 rfl ?_
        simp only [ftF, if_pos hl]
        exact gr_ret rfl rfl
      · refine gr_run (pc' := 48) 1 rfl ?_
        refine gr_ifT (t := 53) rfl (by decide) (by omega) (cI_ge (by omega)) ?_
        refine gr_iinc rfl rfl rfl rfl ?_
        refine gr_run (pc' := 2) 1 rfl ?_
        simp only [ftF, if_neg hl]
        exact ih (k + 1) (by omega) (by omega) _ _
  refine rt_intro kX2_isFirstOfTurned rfl rfl (by rcases ftF_01 (n := n) (h := h) (m := n - 1) (k := 1) with e | e <;> rw [e] <;> rfl) ?_
  refine gr_run (pc' := 2) 2 rfl ?_
  exact key (n - 1) 1 (by omega) (by omega) none none
theorem r_X2_thrownBefore {z : Int} (ha : A a = Ob 2 [.ref b, .int (iI n)]) (hb : A b = Ia 10 f) (pa : Nat.blt a NC = true) (pb : Nat.blt b NC = true) (hh : okH n h) (hf : ∀ i, i < n → f i = iI (h i)) (hz : bd (z - 20) ∧ bd (z + 20)) : Rt mX2_thrownBefore (d + 2) [.ref a, .int (iI z)] A (some (.int (iI (tbN n h z)))) A := by
  have hn := hh.1
  have key : ∀ m : Nat, m ≤ 9 → Gr mX2_thrownBefore (d + 2) 2 [some (.ref a), some (.int (iI z)), some (.int (iI (10 - (m : Int))))] [] A (some (.int (iI (tbF n h z m)))) A := by
    intro m
    induction m with
    | zero =>
      intro _
      refine gr_run (pc' := 5) 2 rfl ?_
      refine gr_icT (t := 29) rfl (by decide) (by omega) (by omega) (cI_gt (by omega)) ?_
      refine gr_run (pc' := 30) 1 rfl ?_
      exact gr_ret rfl rfl
    | succ m ih =>
      intro hm
      rw [show (10 : Int) - ((m + 1 : Nat) : Int) = 9 - m by omega]
      have h9 := hg_le hh (z - (9 - (m : Int)))
      refine gr_run (pc' := 5) 2 rfl ?_
      refine gr_icF (t := 29) rfl (by decide) (by omega) (by omega) (cN_gt (by omega)) ?_
      refine gr_run (pc' := 11) 3 rfl ?_
      refine gr_isub rfl ?_
      refine gr_callV (As := [_]) lk_2_35 rfl rfl (r_X2_heightAt ha hb pa pb hn hf (by omega)) (by repeat (first | exact up_s | assumption | refine up_n (by first | assumption | decide | omega) ?_)) (by first | assumption | exact Nat.le_of_ble_eq_true rfl | exact Nat.le_of_ble_eq_true (by assumption)) rfl rfl rfl rfl rfl ?_
      by_cases hq : (hg n h (z - (9 - (m : Int))) : Int) = 9 - (m : Int)
      · refine gr_run (pc' := 16) 1 rfl ?_
        refine gr_icF (t := 23) rfl (by decide) (by omega) (by omega) (cN_ne (by omega)) ?_
        refine gr_run (pc' := 21) 2 rfl ?_
        refine gr_isub rfl ?_
        simp only [tbF, if_pos hq]
        exact gr_ret rfl rfl
      · refine gr_run (pc' := 16) 1 rfl ?_
        refine gr_icT (t := 23) rfl (by decide) (by omega) (by omega) (cI_ne (by omega)) ?_
        refine gr_iinc rfl rfl rfl rfl ?_
        refine gr_run (pc' := 2) 1 rfl ?_
        simp only [tbF, if_neg hq]
        rw [show (9 : Int) - (m : Int) + 1 = 10 - m by omega]
        exact ih (by omega)
  refine rt_intro kX2_thrownBefore rfl rfl rfl ?_
  refine gr_run (pc' := 2) 2 rfl ?_
  exact key 9 (by omega)
theorem r_X2_cycleBeats {z : Int} (ha : A a = Ob 2 [.ref b, .int (iI n)]) (hb : A b = Ia 10 f) (pa : Nat.blt a NC = true) (pb : Nat.blt b NC = true) (hh : okH n h) (hf : ∀ i, i < n → f i = iI (h i)) (hz : bd z) : Rt mX2_cycleBeats (d + 4) [.ref a, .int (iI z)] A (some (.int (iI ((max 1 (cyS n h (z % (n : Int)).toNat) : Nat) : Int)))) A := by
  have hn := hh.1
  have hm := emod_nn z hn.1
  obtain ⟨t, ht⟩ : ∃ t : Nat, t = (z % (n : Int)).toNat := ⟨_, rfl⟩
  rw [← ht]
  have htn : t < n := by omega
  have hc := cyB_lt (h := h) hn htn
  have hle := cyS_le hh t
  have key : ∀ i, i ≤ n → Gr mX2_cycleBeats (d + 4) 22 [some (.ref a), some (.int (iI z)), some (.int (iI ((cyB n h t : Nat) : Int))), some (.int (iI ((sumN (fun i => if (cyB n h t).testBit i then h i else 0) i : Nat) : Int))), some (.int (iI (i : Int)))] [] A (some (.int (iI ((max 1 (cyS n h t) : Nat) : Int)))) A := by
    refine go_up ?_ ?_
    · refine gr_run (pc' := 25) 2 rfl ?_
      refine gr_getf rfl rfl (by repeat (first | exact up_s | assumption | refine up_n (by first | assumption | decide | omega) ?_)) (by first | assumption | rfl) rfl ?_
      refine gr_icT (t := 56) rfl (by decide) (by omega) (by omega) (cI_ge (by omega)) ?_
      refine gr_run (pc' := 58) 2 rfl ?_
      refine gr_mmax lk_2_25 rfl rfl ?_
      have e : (if iI 1 < iI ((cyS n h t : Nat) : Int) then iI ((cyS n h t : Nat) : Int) else iI 1) = iI ((max 1 (cyS n h t) : Nat) : Int) := by
        have hiff := iI_lt (a := 1) (b := ((cyS n h t : Nat) : Int)) (by omega) (by omega)
        split
        · rename_i hc1
          have := hiff.mp hc1
          rw [show max 1 (cyS n h t) = cyS n h t by omega]
        · rename_i hc1
          have : ¬ (1 : Int) < ((cyS n h t : Nat) : Int) := fun q => hc1 (hiff.mpr q)
          rw [show max 1 (cyS n h t) = 1 by omega]; rfl
      have e2 : sumN (fun i => if (cyB n h t).testBit i then h i else 0) n = cyS n h t := rfl
      rw [e2, e]
      exact gr_ret rfl rfl
    · intro i hi ih
      refine gr_run (pc' := 25) 2 rfl ?_
      refine gr_getf rfl rfl (by repeat (first | exact up_s | assumption | refine up_n (by first | assumption | decide | omega) ?_)) (by first | assumption | rfl) rfl ?_
      refine gr_icF (t := 56) rfl (by decide) (by omega) (by omega) (cN_ge (by omega)) ?_
      refine gr_run (pc' := 34) 2 rfl ?_
      refine gr_ishrN rfl (by omega) (by omega) ?_
      refine gr_run (pc' := 36) 1 rfl ?_
      refine gr_iandN (b := 1) rfl ?_
      rw [shr_and1]
      by_cases hb1 : (cyB n h t).testBit i = true
      · rw [if_pos hb1]
        refine gr_ifF (t := 50) rfl (by decide) (by omega) (cN_eq (by omega)) ?_
        refine gr_run (pc' := 42) 2 rfl ?_
        refine gr_getf rfl rfl (by repeat (first | exact up_s | assumption | refine up_n (by first | assumption | decide | omega) ?_)) (by first | assumption | rfl) rfl ?_
        refine gr_run (pc' := 47) 1 rfl ?_
        refine gr_iald rfl (by repeat (first | exact up_s | assumption | refine up_n (by first | assumption | decide | omega) ?_)) (by first | assumption | rfl) (ix_i rfl (by omega) (by decide)) ?_
        rw [hf i hi]
        refine gr_iadd rfl ?_
        refine gr_run (pc' := 50) 1 rfl ?_
        refine gr_iinc rfl rfl rfl rfl ?_
        refine gr_run (pc' := 22) 1 rfl ?_
        simp only [sumN, if_pos hb1] at ih
        exact ih
      · rw [if_neg hb1]
        refine gr_ifT (t := 50) rfl (by decide) (by omega) (cI_eq (by omega)) ?_
        refine gr_iinc rfl rfl rfl rfl ?_
        refine gr_run (pc' := 22) 1 rfl ?_
        simp only [sumN, if_neg hb1, Nat.add_zero] at ih
        exact ih
  refine rt_intro kX2_cycleBeats rfl rfl rfl ?_
  refine gr_run (pc' := 4) 4 rfl ?_
  refine gr_getf rfl rfl (by repeat (first | exact up_s | assumption | refine up_n (by first | assumption | decide | omega) ?_)) (by first | assumption | rfl) rfl ?_
  refine gr_mmax lk_2_25 rfl rfl ?_
  rw [max1 hn.1 (by omega)]
  refine gr_callS (As := [_, _]) lk_2_32 rfl rfl (r_floorMod hz hn.1 (by omega)) rfl rfl rfl ?_
  rw [show z % (n : Int) = (t : Int) by omega]
  refine gr_callV (As := [_]) lk_2_48 rfl rfl (r_X2_cycleBits ha hb pa pb hh hf htn) (by repeat (first | exact up_s | assumption | refine up_n (by first | assumption | decide | omega) ?_)) (by first | assumption | exact Nat.le_of_ble_eq_true rfl | exact Nat.le_of_ble_eq_true (by assumption)) rfl rfl rfl rfl rfl ?_
  refine gr_run (pc' := 22) 5 rfl ?_
  exact key 0 (by omega)
theorem r_X2_ballThrownAt {z : Int} (ha : A a = Ob 2 [.ref b, .int (iI n)]) (hb : A b = Ia 10 f) (pa : Nat.blt a NC = true) (pb : Nat.blt b NC = true) (hh : okH n h) (hf : ∀ i, i < n → f i = iI (h i)) (hz : 0 ≤ z ∧ z ≤ 100000) : Rt mX2_ballThrownAt (d + 5) [.ref a, .int (iI z)] A (some (.int (iI (btN n h z)))) A := by
  have hn := hh.1
  have hle := cyS_le hh (z % (n : Int)).toNat
  unfold btN
  obtain ⟨q, hq⟩ : ∃ q : Nat, q = max 1 (cyS n h (z % (n : Int)).toNat) := ⟨_, rfl⟩
  have hq1 : 1 ≤ q ∧ q ≤ 90 := by omega
  rw [← hq]
  have hfq := emod_nn z hq1.1
  generalize hf0 : z % (q : Int) = f0 at *
  show Rt mX2_ballThrownAt (d + 5) [.ref a, .int (iI z)] A (some (.int (iI ((cnF n h (bt1 n h 90 f0 (tbN n h f0)).toNat : Nat) : Int)))) A
  have hbb := bt1_bd (n := n) (h := h) (k := 90) (f := f0) (b := tbN n h f0) (by omega) (tbN_bd n h f0).2
  obtain ⟨g, hg0⟩ : ∃ g : Nat, bt1 n h 90 f0 (tbN n h f0) = (g : Int) := ⟨(bt1 n h 90 f0 (tbN n h f0)).toNat, by omega⟩
  rw [hg0]
  simp only [Int.toNat_natCast]
  have hg90 : g ≤ 90 := by omega
  have last : ∀ t, t ≤ g → ∀ x3 : Int32, Gr mX2_ballThrownAt (d + 5) 48 [some (.ref a), some (.int (iI z)), some (.int (iI (g : Int))), some (.int x3), some (.int (iI ((cnF n h t : Nat) : Int))), some (.int (iI (t : Int)))] [] A (some (.int (iI ((cnF n h g : Nat) : Int)))) A := by
    refine go_up ?_ ?_
    · intro x3
      refine gr_run (pc' := 51) 2 rfl ?_
      refine gr_icT (t := 72) rfl (by decide) (by omega) (by omega) (cI_ge (by omega)) ?_
      refine gr_run (pc' := 74) 1 rfl ?_
      exact gr_ret rfl rfl
    · intro t ht ih x3
      have htb := tbN_bd n h (t : Int)
      refine gr_run (pc' := 51) 2 rfl ?_
      refine gr_icF (t := 72) rfl (by decide) (by omega) (by omega) (cN_ge (by omega)) ?_
      refine gr_run (pc' := 57) 2 rfl ?_
      refine gr_callV (As := [_]) lk_2_54 rfl rfl (r_X2_thrownBefore ha hb pa pb hh hf (by omega)) (by repeat (first | exact up_s | assumption | refine up_n (by first | assumption | decide | omega) ?_)) (by first | assumption | exact Nat.le_of_ble_eq_true rfl | exact Nat.le_of_ble_eq_true (by assumption)) rfl rfl rfl rfl rfl ?_
      by_cases hc : tbN n h (t : Int) < 0
      · refine gr_ifF (t := 66) rfl (by decide) (by omega) (cN_ge (by omega)) ?_
        refine gr_iinc rfl rfl rfl rfl ?_
        refine gr_iinc rfl rfl rfl rfl ?_
        refine gr_run (pc' := 48) 1 rfl ?_
        have := ih x3
        simp only [cnF, sumN, if_pos hc] at this
        exact this
      · refine gr_ifT (t := 66) rfl (by decide) (by omega) (cI_ge (by omega)) ?_
        refine gr_iinc rfl rfl rfl rfl ?_
        refine gr_run (pc' := 48) 1 rfl ?_
        have := ih x3
        simp only [cnF, sumN, if_neg hc] at this
        exact this
  have mid : ∀ k (f1 b1 : Int), k ≤ 90 → 0 ≤ f1 ∧ f1 ≤ 100 → f1 - 9 ≤ b1 ∧ b1 ≤ f1 → bt1 n h k f1 b1 = (g : Int) → Gr mX2_ballThrownAt (d + 5) 17 [some (.ref a), some (.int (iI z)), some (.int (iI f1)), some (.int (iI b1)), some (.int (iI (90 - (k : Int)))), none] [] A (some (.int (iI ((cnF n h g : Nat) : Int)))) A := by
    intro k
    induction k with
    | zero =>
      intro f1 b1 _ h1 h2 he
      simp only [bt1] at he
      subst he
      refine gr_run (pc' := 21) 2 rfl ?_
      refine gr_icT (t := 42) rfl (by decide) (by omega) (by omega) (cI_ge (by omega)) ?_
      refine gr_run (pc' := 48) 4 rfl ?_
      exact last 0 (by omega) _
    | succ k ih =>
      intro f1 b1 hk h1 h2 he
      simp only [bt1] at he
      by_cases hb0 : b1 < 0
      · rw [if_pos hb0] at he
        subst he
        refine gr_run (pc' := 21) 2 rfl ?_
        refine gr_icF (t := 42) rfl (by decide) (by omega) (by omega) (cN_ge (by omega)) ?_
        refine gr_run (pc' := 25) 1 rfl ?_
        refine gr_ifT (t := 42) rfl (by decide) (by omega) (cI_lt (by omega)) ?_
        refine gr_run (pc' := 48) 4 rfl ?_
        exact last 0 (by omega) _
      · rw [if_neg hb0] at he
        refine gr_run (pc' := 21) 2 rfl ?_
        refine gr_icF (t := 42) rfl (by decide) (by omega) (by omega) (cN_ge (by omega)) ?_
        refine gr_run (pc' := 25) 1 rfl ?_
        refine gr_ifF (t := 42) rfl (by decide) (by omega) (cN_lt (by omega)) ?_
        refine gr_run (pc' := 32) 4 rfl ?_
        refine gr_callV (As := [_]) lk_2_54 rfl rfl (r_X2_thrownBefore ha hb pa pb hh hf (by omega)) (by repeat (first | exact up_s | assumption | refine up_n (by first | assumption | decide | omega) ?_)) (by first | assumption | exact Nat.le_of_ble_eq_true rfl | exact Nat.le_of_ble_eq_true (by assumption)) rfl rfl rfl rfl rfl ?_
        refine gr_run (pc' := 36) 1 rfl ?_
        refine gr_iinc rfl rfl rfl rfl ?_
        refine gr_run (pc' := 17) 1 rfl ?_
        rw [show (90 : Int) - ((k + 1 : Nat) : Int) + 1 = 90 - k by omega]
        have htb := tbN_bd n h b1
        exact ih b1 (tbN n h b1) (by omega) (by omega) htb he
  refine rt_intro kX2_ballThrownAt rfl rfl rfl ?_
  refine gr_run (pc' := 3) 3 rfl ?_
  refine gr_callV (As := [_]) lk_2_51 rfl rfl (r_X2_cycleBeats ha hb pa pb hh hf (by omega)) (by repeat (first | exact up_s | assumption | refine up_n (by first | assumption | decide | omega) ?_)) (by first | assumption | exact Nat.le_of_ble_eq_true rfl | exact Nat.le_of_ble_eq_true (by assumption)) rfl rfl rfl rfl rfl ?_
  rw [← hq]
  refine gr_iremN rfl (by omega) (by omega) (by omega) (by omega) ?_
  rw [hf0]
  refine gr_run (pc' := 10) 3 rfl ?_
  refine gr_callV (As := [_]) lk_2_54 rfl rfl (r_X2_thrownBefore ha hb pa pb hh hf (by omega)) (by repeat (first | exact up_s | assumption | refine up_n (by first | assumption | decide | omega) ?_)) (by first | assumption | exact Nat.le_of_ble_eq_true rfl | exact Nat.le_of_ble_eq_true (by assumption)) rfl rfl rfl rfl rfl ?_
  refine gr_run (pc' := 17) 3 rfl ?_
  exact mid 90 f0 (tbN n h f0) (by omega) (by omega) (tbN_bd n h f0) hg0
end PC
section SH
variable {d : Nat} {A : AH} {q w p0 sz st u : Nat}
theorem r_X3_used {x y : Int32} (hq : A q = Ob 3 [.ref w, .int x, .int y]) (pq : Nat.blt q NC = true) : Rt mX3_used d [.ref q] A (some (.int y)) A := by
  refine rt_intro kX3_used rfl rfl rfl ?_
  refine gr_run (pc' := 1) 1 rfl ?_
  refine gr_getf rfl rfl (by repeat (first | exact up_s | assumption | refine up_n (by first | assumption | decide | omega) ?_)) (by first | assumption | rfl) rfl ?_
  exact gr_ret rfl rfl
theorem r_X3_clear {x y : Int32} (hq : A q = Ob 3 [.ref w, .int x, .int y]) (pq : Nat.blt q NC = true) : Rt mX3_clear d [.ref q] A none (va_up A q (Ob 3 [.ref w, .int x, .int (iI 0)])) := by
  refine rt_intro kX3_clear rfl rfl trivial ?_
  refine gr_run (pc' := 2) 2 rfl ?_
  refine gr_putf rfl rfl rfl (by repeat (first | exact up_s | assumption | refine up_n (by first | assumption | decide | omega) ?_)) (by first | assumption | rfl) rfl rfl ?_
  exact gr_ret rfl rfl
theorem r_X3_add {s t k j : Nat} {f g : Nat → Int32} {x : Int32} (hq : A q = Ob 3 [.ref w, .int (iI st), .int (iI u)]) (hw : A w = Ra sz (fun j => some (p0 + 2 * j))) (pq : Nat.blt q NC = true) (pw : Nat.blt w NC = true) (hsz : 1 ≤ sz ∧ sz ≤ 8) (hst : st < sz) (hu : u ≤ sz) (hj : j = (st + u) % sz)
    (hp : A (p0 + 2 * j) = Ob 2 [.ref (p0 + 2 * j + 1), .int x]) (hp2 : A (p0 + 2 * j + 1) = Ia 10 f) (pp : Nat.blt (p0 + 2 * j) NC = true) (pp2 : Nat.blt (p0 + 2 * j + 1) NC = true)
    (hs : A s = Ob 2 [.ref t, .int (iI k)]) (ht : A t = Ia 10 g) (ps : Nat.blt s NC = true) (pt : Nat.blt t NC = true) (hk : k ≤ 10) (hne : p0 + 2 * j ≠ s) (hne2 : p0 + 2 * j + 1 ≠ t) :
    Rt mX3_add (d + 1) [.ref q, .ref s] A none (va_up (va_up (va_up A (p0 + 2 * j) (Ob 2 [.ref (p0 + 2 * j + 1), .int (iI k)])) (p0 + 2 * j + 1) (Ia 10 (fun i => if i < k then g i else f i))) q (Ob 3 [.ref w, .int (iI ((if u < sz then st else (st + 1) % sz : Nat) : Int)), .int (iI ((if u < sz then u + 1 else u : Nat) : Int))])) := by
  have hq1 : q ≠ p0 + 2 * j := by intro e; rw [← e, hq] at hp; cases hp
  have hq2 : q ≠ p0 + 2 * j + 1 := by intro e; rw [← e, hq] at hp2; cases hp2
  have hw1 : w ≠ p0 + 2 * j := by intro e; rw [← e, hw] at hp; cases hp
  have hw2 : w ≠ p0 + 2 * j + 1 := by intro e; rw [← e, hw] at hp2; cases hp2
  have hjl : j < sz := by rw [hj]; exact Nat.mod_lt _ (by omega)
  have hji : ((st : Int) + u) % (sz : Int) = (j : Int) := by rw [hj]; rfl
  refine rt_intro kX3_add rfl rfl trivial ?_
  refine gr_run (pc' := 1) 1 rfl ?_
  refine gr_getf rfl rfl (by repeat (first | exact up_s | assumption | refine up_n (by first | assumption | decide | omega) ?_)) (by first | assumption | rfl) rfl ?_
  refine gr_run (pc' := 5) 1 rfl ?_
  refine gr_getf rfl rfl (by repeat (first | exact up_s | assumption | refine up_n (by first | assumption | decide | omega) ?_)) (by first | assumption | rfl) rfl ?_
  refine gr_run (pc' := 9) 1 rfl ?_
  refine gr_getf rfl rfl (by repeat (first | exact up_s | assumption | refine up_n (by first | assumption | decide | omega) ?_)) (by first | assumption | rfl) rfl ?_
  refine gr_iadd rfl ?_
  refine gr_run (pc' := 14) 1 rfl ?_
  refine gr_getf rfl rfl (by repeat (first | exact up_s | assumption | refine up_n (by first | assumption | decide | omega) ?_)) (by first | assumption | rfl) rfl ?_
  refine gr_alen rfl (by repeat (first | exact up_s | assumption | refine up_n (by first | assumption | decide | omega) ?_)) (by first | assumption | rfl) rfl ?_
  refine gr_iremN rfl (by omega) (by omega) (by omega) (by omega) ?_
  rw [hji]
  refine gr_aald (f := fun j => some (p0 + 2 * j)) rfl hw pw (ix_i rfl hjl (by omega)) rfl ?_
  refine gr_run (pc' := 21) 1 rfl ?_
  refine gr_callV (As := [_]) lk_3_29 rfl rfl (r_X2_copy hp hp2 hs ht pp pp2 ps pt hk hne hne2) (by repeat (first | exact up_s | assumption | refine up_n (by first | assumption | decide | omega) ?_)) (by first | assumption | exact Nat.le_of_ble_eq_true rfl | exact Nat.le_of_ble_eq_true (by assumption)) rfl rfl rfl rfl rfl ?_
  by_cases hus : u < sz
  · refine gr_run (pc' := 25) 1 rfl ?_
    refine gr_getf rfl rfl (by repeat (first | exact up_s | assumption | refine up_n (by first | assumption | decide | omega) ?_)) (by first | assumption | rfl) rfl ?_
    refine gr_run (pc' := 29) 1 rfl ?_
    refine gr_getf rfl rfl (by repeat (first | exact up_s | assumption | refine up_n (by first | assumption | decide | omega) ?_)) (by first | assumption | rfl) rfl ?_
    refine gr_alen rfl (by repeat (first | exact up_s | assumption | refine up_n (by first | assumption | decide | omega) ?_)) (by first | assumption | rfl) rfl ?_
    refine gr_icF (t := 49) rfl (by decide) (by omega) (by omega) (cN_ge (by omega)) ?_
    refine gr_run (pc' := 38) 2 rfl ?_
    refine gr_getf rfl rfl (by repeat (first | exact up_s | assumption | refine up_n (by first | assumption | decide | omega) ?_)) (by first | assumption | rfl) rfl ?_
    refine gr_run (pc' := 42) 1 rfl ?_
    refine gr_iadd rfl ?_
    refine gr_putf rfl rfl rfl (by repeat (first | exact up_s | assumption | refine up_n (by first | assumption | decide | omega) ?_)) (by first | assumption | rfl) rfl rfl ?_
    refine gr_run (pc' := 65) 1 rfl ?_
    rw [if_pos hus, if_pos hus]
    exact gr_ret rfl rfl
  · refine gr_run (pc' := 25) 1 rfl ?_
    refine gr_getf rfl rfl (by repeat (first | exact up_s | assumption | refine up_n (by first | assumption | decide | omega) ?_)) (by first | assumption | rfl) rfl ?_
    refine gr_run (pc' := 29) 1 rfl ?_
    refine gr_getf rfl rfl (by repeat (first | exact up_s | assumption | refine up_n (by first | assumption | decide | omega) ?_)) (by first | assumption | rfl) rfl ?_
    refine gr_alen rfl (by repeat (first | exact up_s | assumption | refine up_n (by first | assumption | decide | omega) ?_)) (by first | assumption | rfl) rfl ?_
    refine gr_icT (t := 49) rfl (by decide) (by omega) (by omega) (cI_ge (by omega)) ?_
    refine gr_run (pc' := 51) 2 rfl ?_
    refine gr_getf rfl rfl (by repeat (first | exact up_s | assumption | refine up_n (by first | assumption | decide | omega) ?_)) (by first | assumption | rfl) rfl ?_
    refine gr_run (pc' := 55) 1 rfl ?_
    refine gr_iadd rfl ?_
    refine gr_run (pc' := 57) 1 rfl ?_
    refine gr_getf rfl rfl (by repeat (first | exact up_s | assumption | refine up_n (by first | assumption | decide | omega) ?_)) (by first | assumption | rfl) rfl ?_
    refine gr_alen rfl (by repeat (first | exact up_s | assumption | refine up_n (by first | assumption | decide | omega) ?_)) (by first | assumption | rfl) rfl ?_
    refine gr_iremN rfl (by omega) (by omega) (by omega) (by omega) ?_
    refine gr_putf rfl rfl rfl (by repeat (first | exact up_s | assumption | refine up_n (by first | assumption | decide | omega) ?_)) (by first | assumption | rfl) rfl rfl ?_
    rw [if_neg hus, if_neg hus]
    exact gr_ret rfl rfl
theorem r_X3_takeLast {s t j : Nat} {k : Nat} {f g : Nat → Int32} {x : Int32} (hq : A q = Ob 3 [.ref w, .int (iI st), .int (iI u)]) (hw : A w = Ra sz (fun j => some (p0 + 2 * j))) (pq : Nat.blt q NC = true) (pw : Nat.blt w NC = true) (hsz : 1 ≤ sz ∧ sz ≤ 8) (hst : st < sz) (hu : u ≤ sz) (hu0 : 1 ≤ u) (hj : j = (st + (u - 1)) % sz)
    (hp : A (p0 + 2 * j) = Ob 2 [.ref (p0 + 2 * j + 1), .int (iI k)]) (hp2 : A (p0 + 2 * j + 1) = Ia 10 g) (pp : Nat.blt (p0 + 2 * j) NC = true) (pp2 : Nat.blt (p0 + 2 * j + 1) NC = true)
    (hs : A s = Ob 2 [.ref t, .int x]) (ht : A t = Ia 10 f) (ps : Nat.blt s NC = true) (pt : Nat.blt t NC = true) (hk : k ≤ 10) (hne : s ≠ p0 + 2 * j) (hne2 : t ≠ p0 + 2 * j + 1) :
    Rt mX3_takeLast (d + 1) [.ref q, .ref s] A none (va_up (va_up (va_up A q (Ob 3 [.ref w, .int (iI st), .int (iI ((u - 1 : Nat) : Int))])) s (Ob 2 [.ref t, .int (iI k)])) t (Ia 10 (fun i => if i < k then g i else f i))) := by
  have hq1 : q ≠ p0 + 2 * j := by intro e; rw [← e, hq] at hp; cases hp
  have hq2 : q ≠ p0 + 2 * j + 1 := by intro e; rw [← e, hq] at hp2; cases hp2
  have hq3 : q ≠ s := by intro e; rw [← e, hq] at hs; cases hs
  have hq4 : q ≠ t := by intro e; rw [← e, hq] at ht; cases ht
  have hqw : q ≠ w := by intro e; rw [← e, hq] at hw; cases hw
  have hjl : j < sz := by rw [hj]; exact Nat.mod_lt _ (by omega)
  have hu1 : (u : Int) - 1 = ((u - 1 : Nat) : Int) := by omega
  have hji : ((st : Int) + ((u - 1 : Nat) : Int)) % (sz : Int) = (j : Int) := by rw [hj]; rfl
  refine rt_intro kX3_takeLast rfl rfl trivial ?_
  refine gr_run (pc' := 1) 1 rfl ?_
  refine gr_getf rfl rfl (by repeat (first | exact up_s | assumption | refine up_n (by first | assumption | decide | omega) ?_)) (by first | assumption | rfl) rfl ?_
  refine gr_ifF (t := 41) rfl (by decide) (by omega) (cN_le (by omega)) ?_
  refine gr_run (pc' := 9) 2 rfl ?_
  refine gr_getf rfl rfl (by repeat (first | exact up_s | assumption | refine up_n (by first | assumption | decide | omega) ?_)) (by first | assumption | rfl) rfl ?_
  refine gr_run (pc' := 13) 1 rfl ?_
  refine gr_isub rfl ?_
  rw [hu1]
  refine gr_putf rfl rfl rfl (by repeat (first | exact up_s | assumption | refine up_n (by first | assumption | decide | omega) ?_)) (by first | assumption | rfl) rfl rfl ?_
  refine gr_run (pc' := 19) 2 rfl ?_
  refine gr_getf rfl rfl (by repeat (first | exact up_s | assumption | refine up_n (by first | assumption | decide | omega) ?_)) (by first | assumption | rfl) rfl ?_
  refine gr_run (pc' := 23) 1 rfl ?_
  refine gr_getf rfl rfl (by repeat (first | exact up_s | assumption | refine up_n (by first | assumption | decide | omega) ?_)) (by first | assumption | rfl) rfl ?_
  refine gr_run (pc' := 27) 1 rfl ?_
  refine gr_getf rfl rfl (by repeat (first | exact up_s | assumption | refine up_n (by first | assumption | decide | omega) ?_)) (by first | assumption | rfl) rfl ?_
  refine gr_iadd rfl ?_
  refine gr_run (pc' := 32) 1 rfl ?_
  refine gr_getf rfl rfl (by repeat (first | exact up_s | assumption | refine up_n (by first | assumption | decide | omega) ?_)) (by first | assumption | rfl) rfl ?_
  refine gr_alen rfl (by repeat (first | exact up_s | assumption | refine up_n (by first | assumption | decide | omega) ?_)) (by first | assumption | rfl) rfl ?_
  refine gr_iremN rfl (by omega) (by omega) (by omega) (by omega) ?_
  rw [hji]
  refine gr_aald (f := fun j => some (p0 + 2 * j)) rfl (up_n hqw.symm hw) pw (ix_i rfl hjl (by omega)) rfl ?_
  refine gr_callV (As := [_]) lk_3_29 rfl rfl (r_X2_copy (up_n hq3.symm hs) (up_n hq4.symm ht) (up_n hq1.symm hp) (up_n hq2.symm hp2) ps pt pp pp2 hk hne hne2) (by repeat (first | exact up_s | assumption | refine up_n (by first | assumption | decide | omega) ?_)) (by first | assumption | exact Nat.le_of_ble_eq_true rfl | exact Nat.le_of_ble_eq_true (by assumption)) rfl rfl rfl rfl rfl ?_
  exact gr_ret rfl rfl
end SH
def fltF (tx : Nat → Nat) : Nat → Nat → Int
  | 0, _ => -4
  | m + 1, i => if 10 ≤ i ∨ tx i < 48 ∨ 57 < tx i then i else fltF tx m (i + 1)
def flt (n : Nat) (tx : Nat → Nat) : Int := if n = 0 then 0 else fltF tx n 0
section TX
variable {d : Nat} {A : AH} {q w n : Nat} {f : Nat → Int32} {tx : Nat → Nat}
theorem r_X5_length {x : Int32} (hq : A q = Ob 5 [.ref w, .int x]) (pq : Nat.blt q NC = true) : Rt mX5_length d [.ref q] A (some (.int x)) A := by
  refine rt_intro kX5_length rfl rfl rfl ?_
  refine gr_run (pc' := 1) 1 rfl ?_
  refine gr_getf rfl rfl (by repeat (first | exact up_s | assumption | refine up_n (by first | assumption | decide | omega) ?_)) (by first | assumption | rfl) rfl ?_
  exact gr_ret rfl rfl
theorem r_X5_clear {x : Int32} (hq : A q = Ob 5 [.ref w, .int x]) (pq : Nat.blt q NC = true) : Rt mX5_clear d [.ref q] A none (va_up A q (Ob 5 [.ref w, .int (iI 0)])) := by
  refine rt_intro kX5_clear rfl rfl trivial ?_
  refine gr_run (pc' := 2) 2 rfl ?_
  refine gr_putf rfl rfl rfl (by repeat (first | exact up_s | assumption | refine up_n (by first | assumption | decide | omega) ?_)) (by first | assumption | rfl) rfl rfl ?_
  exact gr_ret rfl rfl
theorem r_X5_append {x : Int32} (hq : A q = Ob 5 [.ref w, .int (iI n)]) (hw : A w = Ia 40 f) (pq : Nat.blt q NC = true) (pw : Nat.blt w NC = true) (hn : n < 40) : Rt mX5_append d [.ref q, .int x] A none (va_up (va_up A w (Ia 40 (upd f n x))) q (Ob 5 [.ref w, .int (iI ((n + 1 : Nat) : Int))])) := by
  have hqw : q ≠ w := by intro e; rw [← e, hq] at hw; cases hw
  refine rt_intro kX5_append rfl rfl trivial ?_
  refine gr_run (pc' := 1) 1 rfl ?_
  refine gr_getf rfl rfl (by repeat (first | exact up_s | assumption | refine up_n (by first | assumption | decide | omega) ?_)) (by first | assumption | rfl) rfl ?_
  refine gr_run (pc' := 6) 1 rfl ?_
  refine gr_icF (t := 29) rfl (by decide) (by omega) (by omega) (cN_ge (by omega)) ?_
  refine gr_run (pc' := 10) 1 rfl ?_
  refine gr_getf rfl rfl (by repeat (first | exact up_s | assumption | refine up_n (by first | assumption | decide | omega) ?_)) (by first | assumption | rfl) rfl ?_
  refine gr_run (pc' := 14) 1 rfl ?_
  refine gr_getf rfl rfl (by repeat (first | exact up_s | assumption | refine up_n (by first | assumption | decide | omega) ?_)) (by first | assumption | rfl) rfl ?_
  refine gr_run (pc' := 18) 1 rfl ?_
  refine gr_iast rfl (by repeat (first | exact up_s | assumption | refine up_n (by first | assumption | decide | omega) ?_)) (by first | assumption | rfl) (ix_i rfl (by omega) (by decide)) ?_
  refine gr_run (pc' := 21) 2 rfl ?_
  refine gr_getf rfl rfl (by repeat (first | exact up_s | assumption | refine up_n (by first | assumption | decide | omega) ?_)) (by first | assumption | rfl) rfl ?_
  refine gr_run (pc' := 25) 1 rfl ?_
  refine gr_iadd rfl ?_
  refine gr_putf rfl rfl rfl (by repeat (first | exact up_s | assumption | refine up_n (by first | assumption | decide | omega) ?_)) (by first | assumption | rfl) rfl rfl ?_
  exact gr_ret rfl rfl
theorem r_X5_firstFault (hq : A q = Ob 5 [.ref w, .int (iI n)]) (hw : A w = Ia 40 f) (pq : Nat.blt q NC = true) (pw : Nat.blt w NC = true) (hn : n ≤ 40) (hf : ∀ i, i < n → f i = iI (tx i)) (ht : ∀ i, i < n → tx i < 256) : Rt mX5_firstFault d [.ref q] A (some (.int (iI (flt n tx)))) A := by
  have key : ∀ m i, i + m = n → Gr mX5_firstFault d 11 [some (.ref q), some (.int (iI (i : Int)))] [] A (some (.int (iI (fltF tx m i)))) A := by
    intro m
    induction m with
    | zero =>
      intro i hi
      refine gr_run (pc' := 13) 2 rfl ?_
      refine gr_getf rfl rfl (by repeat (first | exact up_s | assumption | refine up_n (by first | assumption | decide | omega) ?_)) (by first | assumption | rfl) rfl ?_
      refine gr_icT (t := 55) rfl (by decide) (by omega) (by omega) (cI_ge (by omega)) ?_
      refine gr_run (pc' := 57) 1 rfl ?_
      exact gr_ret rfl rfl
    | succ m ih =>
      intro i hi
      have h2 := ht i (by omega)
      by_cases hb : 10 ≤ i ∨ tx i < 48 ∨ 57 < tx i
      · simp only [fltF, if_pos hb]
        by_cases h10 : 10 ≤ i
        · refine gr_run (pc' := 13) 2 rfl ?_
          refine gr_getf rfl rfl (by repeat (first | exact up_s | assumption | refine up_n (by first | assumption | decide | omega) ?_)) (by first | assumption | rfl) rfl ?_
          refine gr_icF (t := 55) rfl (by decide) (by omega) (by omega) (cN_ge (by omega)) ?_
          refine gr_run (pc' := 22) 2 rfl ?_
          refine gr_icT (t := 47) rfl (by decide) (by omega) (by omega) (cI_ge (by omega)) ?_
          refine gr_run (pc' := 48) 1 rfl ?_
          exact gr_ret rfl rfl
        · refine gr_run (pc' := 13) 2 rfl ?_
          refine gr_getf rfl rfl (by repeat (first | exact up_s | assumption | refine up_n (by first | assumption | decide | omega) ?_)) (by first | assumption | rfl) rfl ?_
          refine gr_icF (t := 55) rfl (by decide) (by omega) (by omega) (cN_ge (by omega)) ?_
          refine gr_run (pc' := 22) 2 rfl ?_
          refine gr_icF (t := 47) rfl (by decide) (by omega) (by omega) (cN_ge (by omega)) ?_
          refine gr_run (pc' := 26) 1 rfl ?_
          refine gr_getf rfl rfl (by repeat (first | exact up_s | assumption | refine up_n (by first | assumption | decide | omega) ?_)) (by first | assumption | rfl) rfl ?_
          refine gr_run (pc' := 30) 1 rfl ?_
          refine gr_iald rfl (by repeat (first | exact up_s | assumption | refine up_n (by first | assumption | decide | omega) ?_)) (by first | assumption | rfl) (ix_i rfl (by omega) (by decide)) ?_
          rw [hf i (by omega)]
          by_cases h48 : tx i < 48
          · refine gr_run (pc' := 33) 1 rfl ?_
            refine gr_icT (t := 47) rfl (by decide) (by omega) (by omega) (cI_lt (by omega)) ?_
            refine gr_run (pc' := 48) 1 rfl ?_
            exact gr_ret rfl rfl
          · refine gr_run (pc' := 33) 1 rfl ?_
            refine gr_icF (t := 47) rfl (by decide) (by omega) (by omega) (cN_lt (by omega)) ?_
            refine gr_run (pc' := 37) 1 rfl ?_
            refine gr_getf rfl rfl (by repeat (first | exact up_s | assumption | refine up_n (by first | assumption | decide | omega) ?_)) (by first | assumption | rfl) rfl ?_
            refine gr_run (pc' := 41) 1 rfl ?_
            refine gr_iald rfl (by repeat (first | exact up_s | assumption | refine up_n (by first | assumption | decide | omega) ?_)) (by first | assumption | rfl) (ix_i rfl (by omega) (by decide)) ?_
            rw [hf i (by omega)]
            refine gr_run (pc' := 44) 1 rfl ?_
            refine gr_icF (t := 49) rfl (by decide) (by omega) (by omega) (cN_le (by omega)) ?_
            refine gr_run (pc' := 48) 1 rfl ?_
            exact gr_ret rfl rfl
      · simp only [fltF, if_neg hb]
        refine gr_run (pc' := 13) 2 rfl ?_
        refine gr_getf rfl rfl (by repeat (first | exact up_s | assumption | refine up_n (by first | assumption | decide | omega) ?_)) (by first | assumption | rfl) rfl ?_
        refine gr_icF (t := 55) rfl (by decide) (by omega) (by omega) (cN_ge (by omega)) ?_
        refine gr_run (pc' := 22) 2 rfl ?_
        refine gr_icF (t := 47) rfl (by decide) (by omega) (by omega) (cN_ge (by omega)) ?_
        refine gr_run (pc' := 26) 1 rfl ?_
        refine gr_getf rfl rfl (by repeat (first | exact up_s | assumption | refine up_n (by first | assumption | decide | omega) ?_)) (by first | assumption | rfl) rfl ?_
        refine gr_run (pc' := 30) 1 rfl ?_
        refine gr_iald rfl (by repeat (first | exact up_s | assumption | refine up_n (by first | assumption | decide | omega) ?_)) (by first | assumption | rfl) (ix_i rfl (by omega) (by decide)) ?_
        rw [hf i (by omega)]
        refine gr_run (pc' := 33) 1 rfl ?_
        refine gr_icF (t := 47) rfl (by decide) (by omega) (by omega) (cN_lt (by omega)) ?_
        refine gr_run (pc' := 37) 1 rfl ?_
        refine gr_getf rfl rfl (by repeat (first | exact up_s | assumption | refine up_n (by first | assumption | decide | omega) ?_)) (by first | assumption | rfl) rfl ?_
        refine gr_run (pc' := 41) 1 rfl ?_
        refine gr_iald rfl (by repeat (first | exact up_s | assumption | refine up_n (by first | assumption | decide | omega) ?_)) (by first | assumption | rfl) (ix_i rfl (by omega) (by decide)) ?_
        rw [hf i (by omega)]
        refine gr_run (pc' := 44) 1 rfl ?_
        refine gr_icT (t := 49) rfl (by decide) (by omega) (by omega) (cI_le (by omega)) ?_
        refine gr_iinc rfl rfl rfl rfl ?_
        refine gr_run (pc' := 11) 1 rfl ?_
        exact ih (i + 1) (by omega)
  refine rt_intro kX5_firstFault rfl rfl rfl ?_
  unfold flt
  by_cases h0 : n = 0
  · rw [if_pos h0]
    refine gr_run (pc' := 1) 1 rfl ?_
    refine gr_getf rfl rfl (by repeat (first | exact up_s | assumption | refine up_n (by first | assumption | decide | omega) ?_)) (by first | assumption | rfl) rfl ?_
    refine gr_ifF (t := 9) rfl (by decide) (by omega) (cN_ne (by omega)) ?_
    refine gr_run (pc' := 8) 1 rfl ?_
    exact gr_ret rfl rfl
  · rw [if_neg h0]
    refine gr_run (pc' := 1) 1 rfl ?_
    refine gr_getf rfl rfl (by repeat (first | exact up_s | assumption | refine up_n (by first | assumption | decide | omega) ?_)) (by first | assumption | rfl) rfl ?_
    refine gr_ifT (t := 9) rfl (by decide) (by omega) (cI_ne (by omega)) ?_
    refine gr_run (pc' := 11) 2 rfl ?_
    exact key n 0 (by omega)
theorem r_X5_copyInto {a b : Nat} {x : Int32} {g : Nat → Int32} (hq : A q = Ob 5 [.ref w, .int (iI n)]) (hw : A w = Ia 40 f) (pq : Nat.blt q NC = true) (pw : Nat.blt w NC = true) (hn : 1 ≤ n ∧ n ≤ 10) (hf : ∀ i, i < n → f i = iI (tx i))
    (ha : A a = Ob 2 [.ref b, .int x]) (hb : A b = Ia 10 g) (pa : Nat.blt a NC = true) (pb : Nat.blt b NC = true) (hwb : w ≠ b) :
    Rt mX5_copyInto (d + 2) [.ref q, .ref a] A none (va_up (va_up A a (Ob 2 [.ref b, .int (iI n)])) b (Ia 10 (fun i => if i < n then iI ((tx i : Int) - 48) else g i))) := by
  have hab : a ≠ b := by intro e; rw [← e, ha] at hb; cases hb
  have hqa : q ≠ a := by intro e; rw [← e, hq] at ha; cases ha
  have hqb : q ≠ b := by intro e; rw [← e, hq] at hb; cases hb
  have hwa : w ≠ a := by intro e; rw [← e, hw] at ha; cases ha
  have key : ∀ i, i ≤ n → Gr mX5_copyInto (d + 2) 10 [some (.ref q), some (.ref a), some (.int (iI (i : Int)))] [] (va_up (va_up A a (Ob 2 [.ref b, .int (iI n)])) b (Ia 10 (fun j => if j < i then iI ((tx j : Int) - 48) else g j))) none (va_up (va_up A a (Ob 2 [.ref b, .int (iI n)])) b (Ia 10 (fun j => if j < n then iI ((tx j : Int) - 48) else g j))) := by
    refine go_up ?_ ?_
    · refine gr_run (pc' := 12) 2 rfl ?_
      refine gr_callV (As := []) lk_5_25 rfl rfl (r_X2_length (up_n hab up_s) pa) (by repeat (first | exact up_s | assumption | refine up_n (by first | assumption | decide | omega) ?_)) (by first | assumption | exact Nat.le_of_ble_eq_true rfl | exact Nat.le_of_ble_eq_true (by assumption)) rfl rfl rfl rfl rfl ?_
      refine gr_icT (t := 38) rfl (by decide) (by omega) (by omega) (cI_ge (by omega)) ?_
      exact gr_ret rfl rfl
    · intro i hi ih
      refine gr_run (pc' := 12) 2 rfl ?_
      refine gr_callV (As := []) lk_5_25 rfl rfl (r_X2_length (up_n hab up_s) pa) (by repeat (first | exact up_s | assumption | refine up_n (by first | assumption | decide | omega) ?_)) (by first | assumption | exact Nat.le_of_ble_eq_true rfl | exact Nat.le_of_ble_eq_true (by assumption)) rfl rfl rfl rfl rfl ?_
      refine gr_icF (t := 38) rfl (by decide) (by omega) (by omega) (cN_ge (by omega)) ?_
      refine gr_run (pc' := 21) 3 rfl ?_
      refine gr_getf rfl rfl (by repeat (first | exact up_s | assumption | refine up_n (by first | assumption | decide | omega) ?_)) (by first | assumption | rfl) rfl ?_
      refine gr_run (pc' := 25) 1 rfl ?_
      refine gr_iald rfl (by repeat (first | exact up_s | assumption | refine up_n (by first | assumption | decide | omega) ?_)) (by first | assumption | rfl) (ix_i rfl (by omega) (by decide)) ?_
      rw [hf i hi]
      refine gr_run (pc' := 28) 1 rfl ?_
      refine gr_isub rfl ?_
      refine gr_callV (As := [_, _]) lk_5_28 rfl rfl (r_X2_put (up_n hab up_s) up_s pa pb hn.2 hi) (by repeat (first | exact up_s | assumption | refine up_n (by first | assumption | decide | omega) ?_)) (by first | assumption | exact Nat.le_of_ble_eq_true rfl | exact Nat.le_of_ble_eq_true (by assumption)) rfl rfl rfl rfl rfl ?_
      rw [bx_uu, upd_lt (g := fun j => iI ((tx j : Int) - 48))]
      refine gr_iinc rfl rfl rfl rfl ?_
      refine gr_run (pc' := 10) 1 rfl ?_
      exact ih
  refine rt_intro kX5_copyInto rfl rfl trivial ?_
  refine gr_run (pc' := 2) 2 rfl ?_
  refine gr_getf rfl rfl (by repeat (first | exact up_s | assumption | refine up_n (by first | assumption | decide | omega) ?_)) (by first | assumption | rfl) rfl ?_
  refine gr_callV (As := [_]) lk_5_19 rfl rfl (r_X2_resize ha pa hn) (by repeat (first | exact up_s | assumption | refine up_n (by first | assumption | decide | omega) ?_)) (by first | assumption | exact Nat.le_of_ble_eq_true rfl | exact Nat.le_of_ble_eq_true (by assumption)) rfl rfl rfl rfl rfl ?_
  refine gr_run (pc' := 10) 2 rfl ?_
  refine gr_h ?_ (key 0 (by omega))
  exact (up_same (up_n hab.symm (by simpa using hb))).symm
end TX
