/-! the model: how many patterns there are -/
theorem RepM.s {σ : SS} {A A' : AH} (hR : RepM σ A) (hs : scrA A') (e : ∀ j, j < 49 → A' j = A j) : RepM σ A' := by
  obtain ⟨h0, h1, h2, h3, h4, h5, h6⟩ := hR
  exact ⟨(e 43 (by omega)).trans h0, h1.o (e 44 (by omega)), h2.o (e 45 (by omega)), h3.o (e 46 (by omega)), h4.o (e 47 (by omega)), h5.o (e 48 (by omega)), hs⟩
theorem scr_49 {A : AH} (h : scrA A) (g : Nat → Int32) : scrA (va_up A 49 (Ia 10 g)) := by
  obtain ⟨⟨a, ha⟩, ⟨b, hb⟩, ⟨c, hc⟩, ⟨d', hd⟩, ⟨f', hf⟩, ⟨g', hg⟩, ⟨i, hi⟩, ⟨j, hj⟩⟩ := h
  exact ⟨⟨g, up_s⟩, ⟨b, up_n (by decide) hb⟩, ⟨c, up_n (by decide) hc⟩, ⟨d', up_n (by decide) hd⟩, ⟨f', up_n (by decide) hf⟩, ⟨g', up_n (by decide) hg⟩, ⟨i, up_n (by decide) hi⟩, ⟨j, up_n (by decide) hj⟩⟩
theorem scr_51 {A : AH} (h : scrA A) (g : Nat → Int64) : scrA (va_up A 51 (La 12544 g)) := by
  obtain ⟨⟨a, ha⟩, ⟨b, hb⟩, ⟨c, hc⟩, ⟨d', hd⟩, ⟨f', hf⟩, ⟨g', hg⟩, ⟨i, hi⟩, ⟨j, hj⟩⟩ := h
  exact ⟨⟨a, up_n (by decide) ha⟩, ⟨b, up_n (by decide) hb⟩, ⟨g, up_s⟩, ⟨d', up_n (by decide) hd⟩, ⟨f', up_n (by decide) hf⟩, ⟨g', up_n (by decide) hg⟩, ⟨i, up_n (by decide) hi⟩, ⟨j, up_n (by decide) hj⟩⟩
theorem RepM.u51 {σ : SS} {A : AH} (hR : RepM σ A) (g : Nat → Int64) : RepM σ (va_up A 51 (La 12544 g)) := hR.s (scr_51 hR.2.2.2.2.2.2 g) (fun j hj => up_o (by omega))
theorem RepM.u49 {σ : SS} {A : AH} (hR : RepM σ A) (g : Nat → Int32) : RepM σ (va_up A 49 (Ia 10 g)) := hR.s (scr_49 hR.2.2.2.2.2.2 g) (fun j hj => up_o (by omega))
theorem bc_step : ∀ t : Fin 256, t.val ≠ 0 → bc t.val = bc (t.val &&& (t.val - 1)) + 1 ∧ t.val &&& (t.val - 1) < t.val := by decide +kernel
/-- in how many ways the row can be filled up: k throws still to come, the places taken t, l left to be thrown -/
def glN (p m : Nat) : Nat → Nat → Nat → Nat
  | 0, _, l => if l = 0 then 1 else 0
  | k + 1, t, l => sumN (fun x => if t.testBit ((bc t + x) % p) then 0 else if l < x then 0 else glN p m k (t ||| 2 ^ ((bc t + x) % p)) (l - x)) (m + 1)
def GG (p m t l : Nat) : Nat := glN p m (p - bc t) t l
def gb (p m t l x : Nat) : Nat := if t.testBit ((bc t + x) % p) then 0 else if l < x then 0 else GG p m (t ||| 2 ^ ((bc t + x) % p)) (l - x)
theorem GG_rec {p m t l : Nat} (hp : 1 ≤ p ∧ p ≤ 8) (ht : t < 2 ^ p) (hb : bc t < p) : GG p m t l = sumN (fun x => gb p m t l x) (m + 1) := by
  unfold GG
  obtain ⟨k, hk⟩ : ∃ k, p - bc t = k + 1 := ⟨p - bc t - 1, by omega⟩
  rw [hk]
  simp only [glN]
  apply sumN_congr
  intro x _
  unfold gb GG
  by_cases h1 : t.testBit ((bc t + x) % p) = true
  · rw [if_pos h1, if_pos h1]
  · rw [if_neg h1, if_neg h1]
    rw [bc_or' hp.2 ht (Nat.mod_lt _ (by omega)) (by simpa using h1)]
    rw [show p - (bc t + 1) = k by omega]
theorem GG_full {p m l : Nat} (hp : p ≤ 8) : GG p m (2 ^ p - 1) l = if l = 0 then 1 else 0 := by
  unfold GG
  rw [show bc (2 ^ p - 1) = p from bc_all ⟨p, by omega⟩, Nat.sub_self]
  rfl
theorem glN_le {p m : Nat} (hm : m ≤ 9) : ∀ k t l, glN p m k t l ≤ 10 ^ k
  | 0, t, l => by simp only [glN]; split <;> simp
  | k + 1, t, l => by
    simp only [glN]
    refine Nat.le_trans (sumN_le (m := 10 ^ k) (fun x _ => ?_)) ?_
    · split
      · exact Nat.zero_le _
      · split
        · exact Nat.zero_le _
        · exact glN_le hm k _ _
    · rw [Nat.pow_succ, Nat.mul_comm]
      exact Nat.mul_le_mul_left _ (by omega)
theorem GG_le {p m : Nat} (hp : p ≤ 8) (hm : m ≤ 9) (t l : Nat) : GG p m t l ≤ 100000000 := Nat.le_trans (glN_le hm _ _ _) (Nat.le_trans (Nat.pow_le_pow_right (by decide) (show p - bc t ≤ 8 by omega)) (by decide))
theorem gb_le {p m : Nat} (hp : p ≤ 8) (hm : m ≤ 9) (t l x : Nat) : gb p m t l x ≤ 100000000 := by
  unfold gb
  split
  · omega
  · split
    · omega
    · exact GG_le hp hm _ _
/-- the table of the model stands -/
def rstOK (p m B : Nat) (g : Nat → Int64) : Prop := ∀ t l, t < 2 ^ p → l ≤ B → g (49 * t + l) = lI ((GG p m t l : Nat) : Int)
theorem or_gt {t j : Nat} (h : t.testBit j = false) : t < t ||| 2 ^ j := by
  have h1 := or_ne h
  have h2 : t ≤ t ||| 2 ^ j := Nat.left_le_or
  omega
section MB
variable {d : Nat} {A : AH} {σ : SS}
theorem r_bitsOf {t : Nat} (ht : t < 256) : Rt mX7_bitsOf d [.int (iI t)] A (some (.int (iI ((bc t : Nat) : Int)))) A := by
  have key : ∀ v : Nat, v < 256 → ∀ k : Nat, k + bc v = bc t → Gr mX7_bitsOf d 4 [some (.int (iI t)), some (.int (iI (k : Int))), some (.int (iI (v : Int)))] [] A (some (.int (iI ((bc t : Nat) : Int)))) A := by
    intro v
    induction v using Nat.strongRecOn with
    | _ v ih =>
      intro hv k hk
      by_cases h0 : v = 0
      · subst h0
        rw [show bc 0 = 0 by decide] at hk
        refine gr_run (pc' := 5) 1 rfl ?_
        refine gr_ifT (t := 20) rfl (by decide) (by omega) (cI_eq (by omega)) ?_
        refine gr_run (pc' := 21) 1 rfl ?_
        rw [show k = bc t by omega]
        exact gr_ret rfl rfl
      · obtain ⟨s1, s2⟩ := bc_step ⟨v, hv⟩ h0
        have r := ih (v &&& (v - 1)) s2 (by simp only at s2; omega) (k + 1) (by simp only at s1; omega)
        refine gr_run (pc' := 5) 1 rfl ?_
        refine gr_ifF (t := 20) rfl (by decide) (by omega) (cN_eq (by omega)) ?_
        refine gr_iinc rfl rfl rfl rfl ?_
        refine gr_run (pc' := 14) 3 rfl ?_
        refine gr_isub rfl ?_
        rw [show (v : Int) - 1 = ((v - 1 : Nat) : Int) by omega]
        refine gr_iandN rfl ?_
        refine gr_run (pc' := 4) 2 rfl ?_
        exact r
  refine rt_intro kX7_bitsOf rfl rfl rfl ?_
  refine gr_run (pc' := 4) 4 rfl ?_
  exact key t ht 0 (by omega)
def told (p b m : Int) : Prop := (1 ≤ p ∧ p ≤ 8) ∧ (1 ≤ b ∧ b ≤ 6) ∧ (1 ≤ m ∧ m ≤ 9)
theorem r_areToldT {p b m : Int} (h : told p b m) : Rt mX7_areTold (d + 1) [.int (iI p), .int (iI b), .int (iI m)] A (some (.int (iI 1))) A := by
  obtain ⟨h1, h2, h3⟩ := h
  refine rt_intro kX7_areTold rfl rfl rfl ?_
  refine gr_run (pc' := 1) 1 rfl ?_
  refine gr_i2l rfl (by omega) ?_
  refine gr_run (pc' := 6) 2 rfl ?_
  refine gr_callS (As := [_, _, _]) lk_7_61 rfl rfl (r_isT (by omega) (by omega) (by omega) (by omega) (by omega)) rfl rfl rfl ?_
  refine gr_ifF (t := 40) rfl (by decide) (by omega) (cN_eq (by omega)) ?_
  refine gr_run (pc' := 13) 1 rfl ?_
  refine gr_i2l rfl (by omega) ?_
  refine gr_run (pc' := 18) 2 rfl ?_
  refine gr_callS (As := [_, _, _]) lk_7_61 rfl rfl (r_isT (by omega) (by omega) (by omega) (by omega) (by omega)) rfl rfl rfl ?_
  refine gr_ifF (t := 40) rfl (by decide) (by omega) (cN_eq (by omega)) ?_
  refine gr_run (pc' := 25) 1 rfl ?_
  refine gr_i2l rfl (by omega) ?_
  refine gr_run (pc' := 30) 2 rfl ?_
  refine gr_callS (As := [_, _, _]) lk_7_61 rfl rfl (r_isT (by omega) (by omega) (by omega) (by omega) (by omega)) rfl rfl rfl ?_
  refine gr_ifF (t := 40) rfl (by decide) (by omega) (cN_eq (by omega)) ?_
  refine gr_run (pc' := 41) 2 rfl ?_
  exact gr_ret rfl rfl
theorem r_areToldF {p b m : Int} (bp : bd p) (bb : bd b) (bm : bd m) (h : ¬ told p b m) : Rt mX7_areTold (d + 1) [.int (iI p), .int (iI b), .int (iI m)] A (some (.int (iI 0))) A := by
  unfold told at h
  refine rt_intro kX7_areTold rfl rfl rfl ?_
  refine gr_run (pc' := 1) 1 rfl ?_
  refine gr_i2l rfl (by omega) ?_
  refine gr_run (pc' := 6) 2 rfl ?_
  by_cases h1 : 1 ≤ p ∧ p ≤ 8
  · refine gr_callS (As := [_, _, _]) lk_7_61 rfl rfl (r_isT (by omega) (by omega) (by omega) (by omega) (by omega)) rfl rfl rfl ?_
    refine gr_ifF (t := 40) rfl (by decide) (by omega) (cN_eq (by omega)) ?_
    refine gr_run (pc' := 13) 1 rfl ?_
    refine gr_i2l rfl (by omega) ?_
    refine gr_run (pc' := 18) 2 rfl ?_
    by_cases h2 : 1 ≤ b ∧ b ≤ 6
    · refine gr_callS (As := [_, _, _]) lk_7_61 rfl rfl (r_isT (by omega) (by omega) (by omega) (by omega) (by omega)) rfl rfl rfl ?_
      refine gr_ifF (t := 40) rfl (by decide) (by omega) (cN_eq (by omega)) ?_
      refine gr_run (pc' := 25) 1 rfl ?_
      refine gr_i2l rfl (by omega) ?_
      refine gr_run (pc' := 30) 2 rfl ?_
      refine gr_callS (As := [_, _, _]) lk_7_61 rfl rfl (r_isF (by omega) (by omega) (by omega) (by omega)) rfl rfl rfl ?_
      refine gr_ifT (t := 40) rfl (by decide) (by omega) (cI_eq (by omega)) ?_
      refine gr_run (pc' := 41) 1 rfl ?_
      exact gr_ret rfl rfl
    · refine gr_callS (As := [_, _, _]) lk_7_61 rfl rfl (r_isF (by omega) (by omega) (by omega) (by omega)) rfl rfl rfl ?_
      refine gr_ifT (t := 40) rfl (by decide) (by omega) (cI_eq (by omega)) ?_
      refine gr_run (pc' := 41) 1 rfl ?_
      exact gr_ret rfl rfl
  · refine gr_callS (As := [_, _, _]) lk_7_61 rfl rfl (r_isF (by omega) (by omega) (by omega) (by omega)) rfl rfl rfl ?_
    refine gr_ifT (t := 40) rfl (by decide) (by omega) (cI_eq (by omega)) ?_
    refine gr_run (pc' := 41) 1 rfl ?_
    exact gr_ret rfl rfl
theorem r_after {p m t l x : Nat} {g : Nat → Int64} {a b c e f : Nat} (h0 : A 43 = mdl a b c e f) (h51 : A 51 = La 12544 g) (hp : 1 ≤ p ∧ p ≤ 8) (ht : t < 2 ^ p) (hl : l ≤ 48) (hx : x ≤ 100)
    (hg : t.testBit ((bc t + x) % p) = false → x ≤ l → g (49 * (t ||| 2 ^ ((bc t + x) % p)) + (l - x)) = lI ((GG p m (t ||| 2 ^ ((bc t + x) % p)) (l - x) : Nat) : Int)) :
    Rt mX7_after (d + 1) [.ref 43, .int (iI p), .int (iI t), .int (iI l), .int (iI x)] A (some (.long (lI ((gb p m t l x : Nat) : Int)))) A := by
  have h256 := pow8 hp.2
  have hbc := bc_le t
  have hxp : (bc t + x) % p < p := Nat.mod_lt _ (by omega)
  have hor := or_pow_le (x := bc t + x) hp ht
  unfold gb
  refine rt_intro kX7_after rfl rfl trivial ?_
  refine gr_run (pc' := 2) 2 rfl ?_
  refine gr_callS (As := [_]) lk_7_118 rfl rfl (r_bitsOf (by omega)) rfl rfl rfl ?_
  refine gr_run (pc' := 7) 1 rfl ?_
  refine gr_iadd rfl ?_
  refine gr_run (pc' := 9) 1 rfl ?_
  refine gr_iremN rfl (by omega) (by omega) (by omega) (by omega) ?_
  rw [show ((bc t : Int) + (x : Int)) % (p : Int) = (((bc t + x) % p : Nat) : Int) from rfl]
  generalize (bc t + x) % p = jj at *
  by_cases h2 : l < x
  · have e : (if t.testBit jj = true then 0 else if l < x then 0 else GG p m (t ||| 2 ^ jj) (l - x)) = 0 := by
      rw [if_pos h2]; split <;> rfl
    rw [e]
    refine gr_ishl1 rfl (by omega) ?_
    refine gr_run (pc' := 16) 3 rfl ?_
    refine gr_icT (t := 26) rfl (by decide) (by omega) (by omega) (cI_gt (by omega)) ?_
    refine gr_run (pc' := 47) 2 rfl ?_
    exact gr_ret rfl rfl
  · rw [if_neg h2]
    refine gr_ishl1 rfl (by omega) ?_
    refine gr_run (pc' := 16) 3 rfl ?_
    refine gr_icF (t := 26) rfl (by decide) (by omega) (by omega) (cN_gt (by omega)) ?_
    refine gr_run (pc' := 22) 2 rfl ?_
    refine gr_iandN rfl ?_
    rw [and_pow]
    by_cases h1 : t.testBit jj = true
    · rw [if_pos h1, if_pos h1]
      have hpp := Nat.two_pow_pos jj
      have hpl := pow2_le30 (k := jj) (by omega)
      refine gr_ifF (t := 30) rfl (by decide) (by omega) (cN_eq (by omega)) ?_
      refine gr_run (pc' := 47) 2 rfl ?_
      exact gr_ret rfl rfl
    · rw [if_neg h1, if_neg h1]
      refine gr_ifT (t := 30) rfl (by decide) (by omega) (cI_eq (by omega)) ?_
      refine gr_run (pc' := 31) 1 rfl ?_
      refine gr_getf rfl rfl (by repeat (first | exact up_s | assumption | refine up_n (by first | assumption | decide | omega) ?_)) (by first | assumption | rfl) rfl ?_
      refine gr_run (pc' := 39) 3 rfl ?_
      refine gr_iorN rfl ?_
      refine gr_imul rfl ?_
      refine gr_run (pc' := 42) 1 rfl ?_
      refine gr_iadd rfl ?_
      refine gr_run (pc' := 45) 1 rfl ?_
      refine gr_isub rfl ?_
      refine gr_lald rfl (by repeat (first | exact up_s | assumption | refine up_n (by first | assumption | decide | omega) ?_)) (by first | assumption | rfl) (ix_i (j := 49 * (t ||| 2 ^ jj) + (l - x)) (by omega) (by omega) (by decide)) ?_
      rw [hg (by simpa using h1) (by omega)]
      exact gr_ret rfl rfl
theorem m_counts {p b m : Nat} (hR : RepM σ A) (hp : 1 ≤ p ∧ p ≤ 8) (hb : b ≤ 6) (hm : m ≤ 9) : ∃ g' : Nat → Int64, Rt mX7_counts (d + 2) [.ref 43, .int (iI p), .int (iI b), .int (iI m)] A (some (.long (lI ((GG p m 0 (p * b) : Nat) : Int)))) (va_up A 51 (La 12544 g')) ∧ rstOK p m (p * b) g' := by
  obtain ⟨h0, -, -, -, -, -, s1, s2, ⟨g0, e51⟩, -⟩ := id hR
  have h256 := pow8 hp.2
  have hpos := Nat.two_pow_pos p
  have hB48 : p * b ≤ 48 := Nat.mul_le_mul hp.2 hb
  have hBi : (p : Int) * (b : Int) = ((p * b : Nat) : Int) := rfl
  obtain ⟨B, hB⟩ : ∃ B, B = p * b := ⟨_, rfl⟩
  rw [← hB] at hB48 hBi ⊢
  -- the rows, from the last one down
  have rows : ∀ (t : Nat), t < 2 ^ p → ∀ (g : Nat → Int64) (x6 x7 x8 x9 : Option Value), (∀ t' l, t ≤ t' → t' < 2 ^ p → l ≤ B → g (49 * t' + l) = lI ((GG p m t' l : Nat) : Int)) →
      ∃ g' : Nat → Int64, Gr mX7_counts (d + 2) 52 [some (.ref 43), some (.int (iI p)), some (.int (iI b)), some (.int (iI m)), some (.int (iI ((2 ^ p : Nat) - 1 : Int))), some (.int (iI ((t : Int) - 1))), x6, x7, x8, x9] [] (va_up A 51 (La 12544 g)) (some (.long (lI ((GG p m 0 B : Nat) : Int)))) (va_up A 51 (La 12544 g')) ∧ rstOK p m B g' := by
    intro t
    induction t with
    | zero =>
      intro ht g x6 x7 x8 x9 hg
      refine ⟨g, ?_, fun t' l h1 h2 => hg t' l (by omega) h1 h2⟩
      refine gr_run (pc' := 54) 1 rfl ?_
      refine gr_ifT (t := 129) rfl (by decide) (by omega) (cI_lt (by omega)) ?_
      refine gr_run (pc' := 130) 1 rfl ?_
      refine gr_getf rfl rfl (by repeat (first | exact up_s | assumption | refine up_n (by first | assumption | decide | omega) ?_)) (by first | assumption | rfl) rfl ?_
      refine gr_run (pc' := 135) 2 rfl ?_
      refine gr_imul rfl ?_
      rw [hBi]
      refine gr_lald rfl (by repeat (first | exact up_s | assumption | refine up_n (by first | assumption | decide | omega) ?_)) (by first | assumption | rfl) (ix_i (j := B) rfl (by omega) (by decide)) ?_
      have := hg 0 B (by omega) hpos (Nat.le_refl _)
      rw [Nat.mul_zero, Nat.zero_add] at this
      rw [this]
      exact gr_ret rfl rfl
    | succ t ih =>
      intro ht g x6 x7 x8 x9 hg
      have hbt : bc t < p := bc_full ⟨p, by omega⟩ ⟨t, by omega⟩ (by simp only; omega) (by simp only; omega)
      have cols : ∀ (k l : Nat) (g : Nat → Int64) (x7 x8 x9 : Option Value), l + k = B + 1 → (∀ t' l, t < t' → t' < 2 ^ p → l ≤ B → g (49 * t' + l) = lI ((GG p m t' l : Nat) : Int)) → (∀ l', l' < l → g (49 * t + l') = lI ((GG p m t l' : Nat) : Int)) →
          ∃ g' : Nat → Int64, Gr mX7_counts (d + 2) 60 [some (.ref 43), some (.int (iI p)), some (.int (iI b)), some (.int (iI m)), some (.int (iI ((2 ^ p : Nat) - 1 : Int))), some (.int (iI (t : Int))), some (.int (iI (l : Int))), x7, x8, x9] [] (va_up A 51 (La 12544 g)) (some (.long (lI ((GG p m 0 B : Nat) : Int)))) (va_up A 51 (La 12544 g')) ∧ rstOK p m B g' := by
        intro k
        induction k with
        | zero =>
          intro l g x7 x8 x9 hl q1 q2
          obtain ⟨g', r, r2⟩ := ih (by omega) g (some (.int (iI (l : Int)))) x7 x8 x9 (fun t' l' h1 h2 h3 => by
            by_cases e : t' = t
            · subst e; exact q2 l' (by omega)
            · exact q1 t' l' (by omega) h2 h3)
          refine ⟨g', ?_, r2⟩
          refine gr_run (pc' := 64) 3 rfl ?_
          refine gr_imul rfl ?_
          rw [hBi]
          refine gr_icT (t := 123) rfl (by decide) (by omega) (by omega) (cI_gt (by omega)) ?_
          refine gr_iinc rfl rfl rfl rfl ?_
          refine gr_run (pc' := 52) 1 rfl ?_
          exact r
        | succ k ih2 =>
          intro l g x7 x8 x9 hl q1 q2
          obtain ⟨g', r, r2⟩ := ih2 (l + 1) (vp_updL g (49 * t + l) (lI ((GG p m t l : Nat) : Int))) (some (.long (lI ((GG p m t l : Nat) : Int)))) none (some (.int (iI ((m + 1 : Nat) : Int)))) (by omega) (fun t' l' h1 h2 h3 => by
            rw [← q1 t' l' h1 h2 h3]; exact if_neg (by omega)) (fun l' h1 => by
            by_cases e : l' = l
            · subst e; exact if_pos rfl
            · rw [← q2 l' (by omega)]; exact if_neg (by omega))
          refine ⟨g', ?_, r2⟩
          have sum : ∀ x, x ≤ m + 1 → Gr mX7_counts (d + 2) 74 [some (.ref 43), some (.int (iI p)), some (.int (iI b)), some (.int (iI m)), some (.int (iI ((2 ^ p : Nat) - 1 : Int))), some (.int (iI (t : Int))), some (.int (iI (l : Int))), some (.long (lI ((sumN (fun x => gb p m t l x) x : Nat) : Int))), none, some (.int (iI (x : Int)))] [] (va_up A 51 (La 12544 g)) (some (.long (lI ((GG p m 0 B : Nat) : Int)))) (va_up A 51 (La 12544 g')) := by
            refine go_up ?_ ?_
            · rw [← GG_rec hp (by omega) hbt]
              refine gr_run (pc' := 77) 2 rfl ?_
              refine gr_icT (t := 102) rfl (by decide) (by omega) (by omega) (cI_gt (by omega)) ?_
              refine gr_run (pc' := 103) 1 rfl ?_
              refine gr_getf rfl rfl (by repeat (first | exact up_s | assumption | refine up_n (by first | assumption | decide | omega) ?_)) (by first | assumption | rfl) rfl ?_
              refine gr_run (pc' := 110) 2 rfl ?_
              refine gr_imul rfl ?_
              refine gr_run (pc' := 113) 1 rfl ?_
              refine gr_iadd rfl ?_
              refine gr_run (pc' := 116) 1 rfl ?_
              refine gr_last rfl up_s rfl (ix_i (j := 49 * t + l) (by omega) (by omega) (by decide)) ?_
              rw [bx_uu]
              refine gr_iinc rfl rfl rfl rfl ?_
              refine gr_run (pc' := 60) 1 rfl ?_
              exact r
            · intro x hx ih3
              refine gr_run (pc' := 77) 2 rfl ?_
              refine gr_icF (t := 102) rfl (by decide) (by omega) (by omega) (cN_gt (by omega)) ?_
              refine gr_run (pc' := 90) 6 rfl ?_
              refine gr_callV (As := [_, _, _, _]) lk_7_121 rfl rfl (r_after (m := m) (up_n (by decide) h0) up_s hp (by omega) (by omega) (by omega) (fun h1 h2 => q1 _ _ (or_gt h1) (or_pow_le hp (by omega)) (by omega))) (by repeat (first | exact up_s | assumption | refine up_n (by first | assumption | decide | omega) ?_)) (by first | assumption | exact Nat.le_of_ble_eq_true rfl | exact Nat.le_of_ble_eq_true (by assumption)) rfl rfl rfl rfl rfl ?_
              refine gr_ladd rfl ?_
              refine gr_run (pc' := 96) 1 rfl ?_
              refine gr_iinc rfl rfl rfl rfl ?_
              refine gr_run (pc' := 74) 1 rfl ?_
              exact ih3
          refine gr_run (pc' := 64) 3 rfl ?_
          refine gr_imul rfl ?_
          rw [hBi]
          refine gr_icF (t := 123) rfl (by decide) (by omega) (by omega) (cN_gt (by omega)) ?_
          refine gr_run (pc' := 74) 4 rfl ?_
          exact sum 0 (by omega)
      obtain ⟨g', r, r2⟩ := cols (B + 1) 0 g x7 x8 x9 (by omega) (fun t' l h1 h2 h3 => hg t' l (by omega) h2 h3) (fun l' h1 => by omega)
      refine ⟨g', ?_, r2⟩
      rw [show (((t + 1 : Nat) : Int) - 1) = (t : Int) by omega]
      refine gr_run (pc' := 54) 1 rfl ?_
      refine gr_ifF (t := 129) rfl (by decide) (by omega) (cN_lt (by omega)) ?_
      refine gr_run (pc' := 60) 2 rfl ?_
      exact r
  have top : ∀ (k l : Nat) (g : Nat → Int64), l + k = 49 → (∀ l', l' < l → g (49 * (2 ^ p - 1) + l') = lI ((GG p m (2 ^ p - 1) l' : Nat) : Int)) →
      ∃ g' : Nat → Int64, Gr mX7_counts (d + 2) 10 [some (.ref 43), some (.int (iI p)), some (.int (iI b)), some (.int (iI m)), some (.int (iI ((2 ^ p : Nat) - 1 : Int))), some (.int (iI (l : Int))), none, none, none, none] [] (va_up A 51 (La 12544 g)) (some (.long (lI ((GG p m 0 B : Nat) : Int)))) (va_up A 51 (La 12544 g')) ∧ rstOK p m B g' := by
    intro k
    induction k with
    | zero =>
      intro l g hl q
      obtain ⟨g', r, r2⟩ := rows (2 ^ p - 1) (by omega) g none none none none (fun t' l' h1 h2 h3 => by
        rw [show t' = 2 ^ p - 1 by omega]; exact q l' (by omega))
      refine ⟨g', ?_, r2⟩
      rw [show (((2 ^ p - 1 : Nat) : Int) - 1) = ((2 ^ p : Nat) : Int) - 1 - 1 by omega] at r
      refine gr_run (pc' := 14) 2 rfl ?_
      refine gr_icT (t := 46) rfl (by decide) (by omega) (by omega) (cI_ge (by omega)) ?_
      refine gr_run (pc' := 49) 2 rfl ?_
      refine gr_isub rfl ?_
      refine gr_run (pc' := 52) 1 rfl ?_
      exact r
    | succ k ih =>
      intro l g hl q
      obtain ⟨g', r, r2⟩ := ih (l + 1) (vp_updL g (49 * (2 ^ p - 1) + l) (lI ((GG p m (2 ^ p - 1) l : Nat) : Int))) (by omega) (fun l' h1 => by
        by_cases e : l' = l
        · subst e; exact if_pos rfl
        · rw [← q l' (by omega)]; exact if_neg (by omega))
      refine ⟨g', ?_, r2⟩
      rw [GG_full hp.2] at r
      by_cases e : l = 0
      · subst e
        refine gr_run (pc' := 14) 2 rfl ?_
        refine gr_icF (t := 46) rfl (by decide) (by omega) (by omega) (cN_ge (by omega)) ?_
        refine gr_run (pc' := 18) 1 rfl ?_
        refine gr_getf rfl rfl (by repeat (first | exact up_s | assumption | refine up_n (by first | assumption | decide | omega) ?_)) (by first | assumption | rfl) rfl ?_
        refine gr_run (pc' := 25) 2 rfl ?_
        refine gr_imul rfl ?_
        refine gr_run (pc' := 28) 1 rfl ?_
        refine gr_iadd rfl ?_
        refine gr_run (pc' := 31) 1 rfl ?_
        refine gr_ifF (t := 38) rfl (by decide) (by omega) (cN_ne (by omega)) ?_
        refine gr_run (pc' := 39) 2 rfl ?_
        refine gr_last rfl up_s rfl (ix_i (j := 49 * (2 ^ p - 1) + 0) (by omega) (by omega) (by decide)) ?_
        rw [bx_uu]
        refine gr_iinc rfl rfl rfl rfl ?_
        refine gr_run (pc' := 10) 1 rfl ?_
        exact r
      · rw [if_neg e] at r
        refine gr_run (pc' := 14) 2 rfl ?_
        refine gr_icF (t := 46) rfl (by decide) (by omega) (by omega) (cN_ge (by omega)) ?_
        refine gr_run (pc' := 18) 1 rfl ?_
        refine gr_getf rfl rfl (by repeat (first | exact up_s | assumption | refine up_n (by first | assumption | decide | omega) ?_)) (by first | assumption | rfl) rfl ?_
        refine gr_run (pc' := 25) 2 rfl ?_
        refine gr_imul rfl ?_
        refine gr_run (pc' := 28) 1 rfl ?_
        refine gr_iadd rfl ?_
        refine gr_run (pc' := 31) 1 rfl ?_
        refine gr_ifT (t := 38) rfl (by decide) (by omega) (cI_ne (by omega)) ?_
        refine gr_run (pc' := 39) 1 rfl ?_
        refine gr_last rfl up_s rfl (ix_i (j := 49 * (2 ^ p - 1) + l) (by omega) (by omega) (by decide)) ?_
        rw [bx_uu]
        refine gr_iinc rfl rfl rfl rfl ?_
        refine gr_run (pc' := 10) 1 rfl ?_
        exact r
  obtain ⟨g', r, r2⟩ := top 49 0 g0 (by omega) (fun l' h1 => by omega)
  rw [up_same e51] at r
  refine ⟨g', ?_, r2⟩
  refine rt_intro kX7_counts rfl rfl trivial ?_
  refine gr_run (pc' := 2) 2 rfl ?_
  refine gr_ishl1 rfl (by omega) ?_
  refine gr_run (pc' := 4) 1 rfl ?_
  refine gr_isub rfl ?_
  refine gr_run (pc' := 10) 3 rfl ?_
  exact r
end MB
