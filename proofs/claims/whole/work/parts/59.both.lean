/-! both sides answer alike: a lemma for each call -/
def INV (σ : SS) (A : AH) : Prop := RepX σ A ∧ RepM σ A ∧ okS σ
def bI (mx mm : MI) (as : List Value) (A : AH) : Prop := ∃ (x : Int32) (A1 A2 : AH) (σ' : SS), Rt mx 12 (.ref 0 :: as) A (some (.int x)) A1 ∧ Rt mm 12 (.ref 43 :: as) A1 (some (.int x)) A2 ∧ (∃ fs, A1 43 = .inr (7, fs)) ∧ INV σ' A2
def bL (mx mm : MI) (as : List Value) (A : AH) : Prop := ∃ (x : Int64) (A1 A2 : AH) (σ' : SS), Rt mx 12 (.ref 0 :: as) A (some (.long x)) A1 ∧ Rt mm 12 (.ref 43 :: as) A1 (some (.long x)) A2 ∧ (∃ fs, A1 43 = .inr (7, fs)) ∧ INV σ' A2
section BB
variable {A : AH} {σ σ' : SS} {mx mm : MI} {as : List Value}
theorem bI.mk {A1 : AH} {x : Int32} (h : INV σ A) (x1 : Rt mx 12 (.ref 0 :: as) A (some (.int x)) A1) (x2 : RepX σ' A1) (x3 : offE A A1 0 42) (m : ∀ A1, RepM σ A1 → ∃ A2, Rt mm 12 (.ref 43 :: as) A1 (some (.int x)) A2 ∧ RepM σ' A2 ∧ offE A1 A2 43 56) (ok : okS σ') : bI mx mm as A := by
  have hm := h.2.1.of x3
  obtain ⟨A2, m1, m2, m3⟩ := m A1 hm
  exact ⟨x, A1, A2, σ', x1, m1, ⟨_, hm.1⟩, x2.of m3, m2, ok⟩
theorem bL.mk {A1 : AH} {x : Int64} (h : INV σ A) (x1 : Rt mx 12 (.ref 0 :: as) A (some (.long x)) A1) (x2 : RepX σ' A1) (x3 : offE A A1 0 42) (m : ∀ A1, RepM σ A1 → ∃ A2, Rt mm 12 (.ref 43 :: as) A1 (some (.long x)) A2 ∧ RepM σ' A2 ∧ offE A1 A2 43 56) (ok : okS σ') : bL mx mm as A := by
  have hm := h.2.1.of x3
  obtain ⟨A2, m1, m2, m3⟩ := m A1 hm
  exact ⟨x, A1, A2, σ', x1, m1, ⟨_, hm.1⟩, x2.of m3, m2, ok⟩
/-- nothing changes -/
theorem bI.st {x : Int32} (h : INV σ A) (x1 : Rt mx 12 (.ref 0 :: as) A (some (.int x)) A) (m : Rt mm 12 (.ref 43 :: as) A (some (.int x)) A) : bI mx mm as A := ⟨x, A, A, σ, x1, m, ⟨_, h.2.1.1⟩, h⟩
theorem bL.st {x : Int64} (h : INV σ A) (x1 : Rt mx 12 (.ref 0 :: as) A (some (.long x)) A) (m : Rt mm 12 (.ref 43 :: as) A (some (.long x)) A) : bL mx mm as A := ⟨x, A, A, σ, x1, m, ⟨_, h.2.1.1⟩, h⟩
theorem okS_push (h : okS σ) {p : Pn} (hp : okT p) : okS (σ.1, p, σ.2.2.1, pushU σ.2.2.2.1 σ.2.1, σ.2.2.2.2) := ⟨h.1, hp, h.2.2.1, pushU_ok h.2.2.2.1 h.2.1, h.2.2.2.2⟩
theorem lay_okT {t : Pn} (h : layOK t) : okT (t.1, txH t) := ⟨txH_ok h.1, clF_true h.2⟩
theorem b_write {n : Int} {v : Int64} (h : INV σ A) (hn : bd n) : bI mX6_write mX7_write [.int (iI n), .long v] A := by
  obtain ⟨hX, hM, ho⟩ := h
  obtain ⟨A1, x1, x2, x3⟩ := x_write (d := 11) (v := v) hn hX ho
  refine bI.mk ⟨hX, hM, ho⟩ x1 x2 x3 (fun A1 hR => m_write (d := 11) hn hR ho) ?_
  unfold wrS
  by_cases c : wrA σ n v < 0
  · rw [if_pos c]; exact ho
  · rw [if_neg c]
    refine ⟨wrF_ok ?_ ho.1, ho.2⟩
    unfold wrA at c
    have h40 := ho.1.1
    split at c
    · omega
    · split at c <;> omega
theorem b_wipe (h : INV σ A) : bI mX6_wipe mX7_wipe [] A := by
  obtain ⟨hX, hM, ho⟩ := h
  obtain ⟨A1, x1, x2, x3⟩ := x_wipe (d := 11) hX
  exact bI.mk ⟨hX, hM, ho⟩ x1 x2 x3 (fun A1 hR => m_wipe (d := 12) hR) ⟨⟨Nat.zero_le _, fun i hi => absurd hi (Nat.not_lt_zero i)⟩, ho.2⟩
theorem b_fault (h : INV σ A) : bI mX6_fault mX7_fault [] A := bI.st h (x_fault (d := 11) h.1 h.2.2.1) (m_fault (d := 11) h.2.1 h.2.2.1)
theorem b_clash (h : INV σ A) : bI mX6_clash mX7_clash [] A := by
  obtain ⟨hX, hM, ho⟩ := h
  obtain ⟨A1, x1, x2, x3⟩ := x_clash (d := 8) hX ho.1
  exact bI.mk ⟨hX, hM, ho⟩ x1 x2 x3 (fun A1 hR => ⟨A1, m_clash (d := 10) hR ho.1, hR, offE.rf⟩) ho
theorem b_lay {z : Int} (h : INV σ A) (hz : bd z) : bI mX6_lay mX7_lay [.int (iI z)] A := by
  obtain ⟨hX, hM, ho⟩ := h
  by_cases c : z = 0 ∨ z = 1
  · by_cases hl : layOK σ.1
    · rcases c with rfl | rfl
      · obtain ⟨A1, x1, x2, x3⟩ := x_lay0 (d := 8) hX ho.1 hl
        exact bI.mk ⟨hX, hM, ho⟩ x1 x2 x3 (fun A1 hR => m_lay0 (d := 10) hR ho.1 hl) ⟨ho.1, lay_okT hl, ho.2.2.1, ⟨Nat.zero_le _, fun j hj => absurd hj (Nat.not_lt_zero j)⟩, ho.2.2.2.2⟩
      · obtain ⟨A1, x1, x2, x3⟩ := x_lay1 (d := 8) hX ho.1 hl
        exact bI.mk ⟨hX, hM, ho⟩ x1 x2 x3 (fun A1 hR => m_lay1 (d := 10) hR ho.1 hl) ⟨ho.1, ho.2.1, lay_okT hl, ho.2.2.2⟩
    · obtain ⟨A1, x1, x2, x3⟩ := x_layN (d := 8) hX ho.1 c hl
      exact bI.mk ⟨hX, hM, ho⟩ x1 x2 x3 (fun A1 hR => ⟨A1, m_layN (d := 10) hR ho.1 c hl, hR, offE.rf⟩) ho
  · exact bI.st ⟨hX, hM, ho⟩ (x_layB (d := 11) hz (by omega)) (m_layB (d := 11) hM hz (by omega))
theorem b_toss {w z : Int} (h : INV σ A) (hw : bd w) (hz : bd z) : bI mX6_toss mX7_toss [.int (iI w), .int (iI z)] A := bI.st h (x_toss (d := 10) h.1 h.2.2.2.1 h.2.2.2.2.1 hw hz) (m_toss (d := 11) h.2.1 h.2.2.2.1 h.2.2.2.2.1 hw hz)
theorem b_balls {z : Int} (h : INV σ A) (hz : bd z) : bI mX6_balls mX7_balls [.int (iI z)] A := bI.st h (x_balls (d := 11) h.1 h.2.2.2.1 h.2.2.2.2.1 hz) (m_balls (d := 11) h.2.1 h.2.2.2.1 h.2.2.2.2.1 hz)
theorem b_air {z : Int} (h : INV σ A) (hz : bd z) : bI mX6_air mX7_air [.int (iI z)] A := bI.st h (x_air (d := 9) h.1 h.2.2.2.1 hz) (m_air (d := 11) h.2.1 h.2.2.2.1 hz)
theorem b_turn {z : Int} (h : INV σ A) (hz : bd z) : bI mX6_turn mX7_turn [.int (iI z)] A := by
  obtain ⟨hX, hM, ho⟩ := h
  by_cases c : 0 ≤ z ∧ z < σ.2.1.1
  · obtain ⟨k, rfl⟩ : ∃ k : Nat, z = (k : Int) := ⟨z.toNat, by omega⟩
    obtain ⟨A1, x1, x2, x3⟩ := x_turn (d := 9) hX ho (show k < σ.2.1.1 by omega)
    exact bI.mk ⟨hX, hM, ho⟩ x1 x2 x3 (fun A1 hR => m_turn (d := 11) hR ho (by omega)) (okS_push ho (tu_okT ho.2.1 k))
  · exact bI.st ⟨hX, hM, ho⟩ (x_turnB (d := 11) hX ho hz (by omega)) (m_turnB (d := 11) hM ho hz (by omega))
theorem b_backwards (h : INV σ A) : bI mX6_backwards mX7_backwards [] A := by
  obtain ⟨hX, hM, ho⟩ := h
  obtain ⟨A1, x1, x2, x3⟩ := x_backwards (d := 9) hX ho
  exact bI.mk ⟨hX, hM, ho⟩ x1 x2 x3 (fun A1 hR => m_backwards (d := 11) hR ho) (okS_push ho (bw_okT ho.2.1))
theorem b_raise {z : Int} (h : INV σ A) (hz : bd z) : bI mX6_raise mX7_raise [.int (iI z)] A := by
  obtain ⟨hX, hM, ho⟩ := h
  by_cases c : -9 ≤ z ∧ z ≤ 9
  · by_cases hall : ∀ j, j < σ.2.1.1 → 0 ≤ (σ.2.1.2 j : Int) + z ∧ (σ.2.1.2 j : Int) + z ≤ 9
    · have hT := ra_okT ho.2.1 hall
      obtain ⟨A1, x1, x2, x3⟩ := x_raise (d := 9) hX ho c hall hT
      exact bI.mk ⟨hX, hM, ho⟩ x1 x2 x3 (fun A1 hR => m_raise (d := 10) hR ho c hall hT) (okS_push ho hT)
    · obtain ⟨j, hj⟩ := Classical.not_forall.mp hall
      obtain ⟨hj1, hj2⟩ : j < σ.2.1.1 ∧ ¬ (0 ≤ (σ.2.1.2 j : Int) + z ∧ (σ.2.1.2 j : Int) + z ≤ 9) := by
        by_cases q : j < σ.2.1.1
        · exact ⟨q, fun r => hj (fun _ => r)⟩
        · exact absurd (fun r => absurd r q) hj
      obtain ⟨A1, x1, x2, x3⟩ := x_raiseN (d := 9) hX ho c hj1 (by omega)
      exact bI.mk ⟨hX, hM, ho⟩ x1 x2 x3 (fun A1 hR => ⟨A1, m_raiseN (d := 11) hR ho c hj1 (by omega), hR, offE.rf⟩) ho
  · exact bI.st ⟨hX, hM, ho⟩ (x_raiseB (d := 11) hz (by omega)) (m_raiseB (d := 11) hM hz (by omega))
theorem b_change {y z : Int} (h : INV σ A) (hy : bd y) (hz : bd z) : bI mX6_change mX7_change [.int (iI y), .int (iI z)] A := by
  obtain ⟨hX, hM, ho⟩ := h
  by_cases c : 0 ≤ y ∧ y < z ∧ z < σ.2.1.1
  · obtain ⟨i, rfl⟩ : ∃ i : Nat, y = (i : Int) := ⟨y.toNat, by omega⟩
    obtain ⟨j, rfl⟩ : ∃ j : Nat, z = (j : Int) := ⟨z.toNat, by omega⟩
    by_cases c2 : σ.2.1.2 j + (j - i) ≤ 9 ∧ j - i ≤ σ.2.1.2 i
    · obtain ⟨A1, x1, x2, x3⟩ := x_change (d := 9) hX ho (show i < j by omega) (by omega) c2.1 c2.2
      exact bI.mk ⟨hX, hM, ho⟩ x1 x2 x3 (fun A1 hR => m_change (d := 11) hR ho (by omega) (by omega) c2.1 c2.2) (okS_push ho (ch_okT ho.2.1 (by omega) (by omega) c2.1 c2.2))
    · exact bI.st ⟨hX, hM, ho⟩ (x_changeN (d := 9) hX ho (show i < j by omega) (by omega) (by omega)) (m_changeN (d := 11) hM ho (by omega) (by omega) (by omega))
  · exact bI.st ⟨hX, hM, ho⟩ (x_changeB (d := 11) hX ho hy hz c) (m_changeB (d := 11) hM ho hy hz c)
theorem b_undo (h : INV σ A) : bI mX6_undo mX7_undo [] A := by
  obtain ⟨hX, hM, ho⟩ := h
  by_cases c : σ.2.2.2.1.1 = 0
  · exact bI.st ⟨hX, hM, ho⟩ (x_undo0 (d := 11) hX c) (m_undo0 (d := 12) hM c)
  · obtain ⟨A1, x1, x2, x3⟩ := x_undo (d := 10) hX ho (by omega)
    refine bI.mk ⟨hX, hM, ho⟩ x1 x2 x3 (fun A1 hR => m_undo (d := 12) hR ho (by omega)) ⟨ho.1, ho.2.2.2.1.2 _ (by omega), ho.2.2.1, ⟨?_, fun j hj => ho.2.2.2.1.2 j ?_⟩, ho.2.2.2.2⟩
    · have := ho.2.2.2.1.1
      show σ.2.2.2.1.1 - 1 ≤ 8
      omega
    · have hj' : j < σ.2.2.2.1.1 - 1 := hj
      omega
theorem b_cycle {z : Int} (h : INV σ A) (hz : bd z) : bI mX6_cycle mX7_cycle [.int (iI z)] A := bI.st h (x_cycle (d := 7) h.1 h.2.2.2.1 hz) (m_cycle (d := 11) h.2.1 h.2.2.2.1 hz)
theorem b_ball {z : Int} (h : INV σ A) (hz : bd z) : bI mX6_ball mX7_ball [.int (iI z)] A := by
  obtain ⟨hX, hM, ho⟩ := h
  by_cases c : 0 ≤ z ∧ z ≤ 100000
  · obtain ⟨t, rfl⟩ : ∃ t : Nat, z = (t : Int) := ⟨z.toNat, by omega⟩
    have x1 := x_ball (d := 6) (t := t) hX ho.2.1 (by omega)
    rw [bt_ba ho.2.1] at x1
    exact bI.mk ⟨hX, hM, ho⟩ x1 hX offE.rf (fun A1 hR => m_ball (d := 11) hR ho (by omega)) ho
  · exact bI.st ⟨hX, hM, ho⟩ (x_ballB (d := 11) hz c) (m_ballB (d := 11) hz c)
theorem b_hands {n a b : Int} (h : INV σ A) (hn : bd n) (ha : bd a) (hb : bd b) : bI mX6_hands mX7_hands [.int (iI n), .int (iI a), .int (iI b)] A := by
  by_cases c : (1 ≤ n ∧ n ≤ 5) ∧ (0 ≤ a ∧ a < n) ∧ (0 ≤ b ∧ b < n)
  · obtain ⟨n, rfl⟩ : ∃ t : Nat, n = (t : Int) := ⟨n.toNat, by omega⟩
    obtain ⟨a, rfl⟩ : ∃ t : Nat, a = (t : Int) := ⟨a.toNat, by omega⟩
    obtain ⟨b, rfl⟩ : ∃ t : Nat, b = (t : Int) := ⟨b.toNat, by omega⟩
    exact bI.st h (x_hands (d := 10) h.1 h.2.2.2.1 (by omega) (by omega) (by omega)) (m_hands (d := 11) h.2.1 h.2.2.2.1 (by omega) (by omega) (by omega))
  · exact bI.st h (x_handsB (d := 11) hn ha hb c) (m_handsB (d := 11) h.2.1 hn ha hb c)
theorem told_nat {p b m : Int} (h : told p b m) : ∃ p' b' m' : Nat, p = p' ∧ b = b' ∧ m = m' ∧ (1 ≤ p' ∧ p' ≤ 8) ∧ (1 ≤ b' ∧ b' ≤ 6) ∧ (1 ≤ m' ∧ m' ≤ 9) := by
  obtain ⟨h1, h2, h3⟩ := h
  exact ⟨p.toNat, b.toNat, m.toNat, by omega, by omega, by omega, by omega, by omega, by omega⟩
theorem b_all {p b m : Int} (h : INV σ A) (bp : bd p) (bb : bd b) (bm : bd m) : bL mX6_all mX7_all [.int (iI p), .int (iI b), .int (iI m)] A := by
  obtain ⟨hX, hM, ho⟩ := h
  by_cases ht : told p b m
  · obtain ⟨p, b, m, rfl, rfl, rfl, hp, hb, hm⟩ := told_nat ht
    obtain ⟨A1, x1, x2, x3⟩ := x_all (d := 9) hX hp hb hm
    exact bL.mk ⟨hX, hM, ho⟩ x1 x2 x3 (fun A1 hR => m_all (d := 9) hR hp hb hm) ho
  · exact bL.st ⟨hX, hM, ho⟩ (x_allF (d := 11) bp bb bm ht) (m_allF (d := 9) bp bb bm ht)
theorem pkT_ok (ho : okS σ) {p b m v : Nat} (hp : 1 ≤ p ∧ p ≤ 8) (hb : b ≤ 6) (hm : m ≤ 9) (hv : v < FF p m 0 b) : okS (pkT σ p m b v) := okS_push ho (pk_okT hp hb hm hv)
theorem b_nth {p b m v : Int} (h : INV σ A) (bp : bd p) (bb : bd b) (bm : bd m) (bv : bdl v) : bI mX6_nth mX7_nth [.int (iI p), .int (iI b), .int (iI m), .long (lI v)] A := by
  obtain ⟨hX, hM, ho⟩ := h
  by_cases c : told p b m ∧ 0 ≤ v
  · obtain ⟨p, b, m, rfl, rfl, rfl, hp, hb, hm⟩ := told_nat c.1
    by_cases c2 : v < ((FF p m 0 b : Nat) : Int)
    · obtain ⟨v, rfl⟩ : ∃ t : Nat, v = (t : Int) := ⟨v.toNat, by omega⟩
      obtain ⟨A1, x1, x2, x3⟩ := x_nth (d := 9) hX ho hp hb hm (show v < FF p m 0 b by omega)
      exact bI.mk ⟨hX, hM, ho⟩ x1 x2 x3 (fun A1 hR => m_nth (d := 9) hR ho hp hb hm (by omega)) (pkT_ok ho hp hb.2 hm.2 (by omega))
    · obtain ⟨A1, x1, x2, x3⟩ := x_nthN (d := 9) hX hp hb hm bv (by omega)
      exact bI.mk ⟨hX, hM, ho⟩ x1 x2 x3 (fun A1 hR => m_nthN (d := 9) hR hp hb hm bv (by omega)) ho
  · have hc : ¬ told p b m ∨ v < 0 := by
      by_cases q : told p b m
      · exact Or.inr (by have : ¬ 0 ≤ v := fun r => c ⟨q, r⟩; omega)
      · exact Or.inl q
    exact bI.st ⟨hX, hM, ho⟩ (x_nthB (d := 11) bp bb bm bv hc) (m_nthB (d := 9) bp bb bm bv hc)
theorem b_rank (h : INV σ A) : bL mX6_rank mX7_rank [] A := by
  obtain ⟨hX, hM, ho⟩ := h
  by_cases c : rkd σ.2.1
  · obtain ⟨A1, x1, x2, x3⟩ := x_rank (d := 8) hX ho c
    exact bL.mk ⟨hX, hM, ho⟩ x1 x2 x3 (fun A1 hR => m_rank (d := 9) hR ho c) ho
  · exact bL.st ⟨hX, hM, ho⟩ (x_rankF (d := 10) hX ho c) (m_rankF (d := 9) hM ho c)
theorem b_next (h : INV σ A) : bI mX6_next mX7_next [] A := by
  obtain ⟨hX, hM, ho⟩ := h
  by_cases c : rkd σ.2.1
  · by_cases c2 : rkA σ.2.1.1 9 σ.2.1.2 (blN σ.2.1) σ.2.1.1 + 1 < FF σ.2.1.1 9 0 (blN σ.2.1)
    · obtain ⟨A1, x1, x2, x3⟩ := x_next (d := 8) hX ho c c2
      exact bI.mk ⟨hX, hM, ho⟩ x1 x2 x3 (fun A1 hR => m_next (d := 9) hR ho c c2) (pkT_ok ho ⟨ho.2.1.1.1.1, c.1⟩ c.2.2 (by omega) c2)
    · obtain ⟨A1, x1, x2, x3⟩ := x_nextN (d := 8) hX ho c (by omega)
      exact bI.mk ⟨hX, hM, ho⟩ x1 x2 x3 (fun A1 hR => m_nextN (d := 9) hR ho c (by omega)) ho
  · exact bI.st ⟨hX, hM, ho⟩ (x_nextF (d := 10) hX ho c) (m_nextF (d := 9) hM ho c)
theorem b_prime (h : INV σ A) : bI mX6_prime mX7_prime [] A := bI.st h (x_prime (d := 8) h.1 h.2.2.2.1) (m_prime (d := 10) h.2.1 h.2.2)
theorem b_primes {p b m : Int} (h : INV σ A) (bp : bd p) (bb : bd b) (bm : bd m) : bI mX6_primes mX7_primes [.int (iI p), .int (iI b), .int (iI m)] A := by
  obtain ⟨hX, hM, ho⟩ := h
  by_cases c : told p b m ∧ p ≤ 6
  · obtain ⟨p, b, m, rfl, rfl, rfl, hp, hb, hm⟩ := told_nat c.1
    obtain ⟨A1, x1, x2, x3⟩ := x_primes (d := 0) (p := p) hX ⟨hp.1, by omega⟩ hb hm
    exact bI.mk ⟨hX, hM, ho⟩ x1 x2 x3 (fun A1 hR => m_primes (d := 9) hR ⟨hp.1, by omega⟩ hb hm) ho
  · have hc : ¬ told p b m ∨ 6 < p := by
      by_cases q : told p b m
      · exact Or.inr (by have : ¬ p ≤ 6 := fun r => c ⟨q, r⟩; omega)
      · exact Or.inl q
    exact bI.st ⟨hX, hM, ho⟩ (x_primesB (d := 11) bp bb bm hc) (m_primesB (d := 9) bp bb bm hc)
theorem b_draw {p b m z : Int} (h : INV σ A) (bp : bd p) (bb : bd b) (bm : bd m) (bz : bd z) : bI mX6_draw mX7_draw [.int (iI p), .int (iI b), .int (iI m), .int (iI z)] A := by
  obtain ⟨hX, hM, ho⟩ := h
  by_cases c : told p b m ∧ (0 ≤ z ∧ z ≤ 9999)
  · obtain ⟨p, b, m, rfl, rfl, rfl, hp, hb, hm⟩ := told_nat c.1
    obtain ⟨z, rfl⟩ : ∃ t : Nat, z = (t : Int) := ⟨z.toNat, by omega⟩
    by_cases c2 : FF p m 0 b = 0
    · obtain ⟨A1, x1, x2, x3⟩ := x_drawN (d := 9) hX hp hb hm (show z ≤ 9999 by omega) c2
      exact bI.mk ⟨hX, hM, ho⟩ x1 x2 x3 (fun A1 hR => m_drawN (d := 9) hR hp hb hm (by omega) c2) ho
    · obtain ⟨A1, x1, x2, x3⟩ := x_draw (d := 9) hX ho hp hb hm (show z ≤ 9999 by omega) (by omega)
      have hv : dwV z (FF p m 0 b) < FF p m 0 b := by
        have hv0 : 0 ≤ dwN (z : Int) % ((FF p m 0 b : Nat) : Int) := Int.emod_nonneg _ (by omega)
        have hv1 : dwN (z : Int) % ((FF p m 0 b : Nat) : Int) < ((FF p m 0 b : Nat) : Int) := Int.emod_lt_of_pos _ (by omega)
        unfold dwV; omega
      exact bI.mk ⟨hX, hM, ho⟩ x1 x2 x3 (fun A1 hR => m_draw (d := 9) hR ho hp hb hm (by omega) (by omega)) (pkT_ok ho hp hb.2 hm.2 hv)
  · have hc : ¬ told p b m ∨ ¬ (0 ≤ z ∧ z ≤ 9999) := by
      by_cases q : told p b m
      · exact Or.inr (fun r => c ⟨q, r⟩)
      · exact Or.inl q
    exact bI.st ⟨hX, hM, ho⟩ (x_drawB (d := 11) bp bb bm bz hc) (m_drawB (d := 9) bp bb bm bz hc)
theorem b_in {i : Int} (h : INV σ A) (bi : bd i) : bI mX6_in mX7_in [.int (iI i)] A := by
  obtain ⟨hX, hM, ho⟩ := h
  by_cases c : i < -1
  · exact bI.st ⟨hX, hM, ho⟩ (x_inB (d := 11) bi c) (m_inB (d := 9) bi c)
  · obtain ⟨A1, x1, x2, x3⟩ := x_in (d := 6) hX ho bi (by omega)
    exact bI.mk ⟨hX, hM, ho⟩ x1 x2 x3 (fun A1 hR => m_in (d := 9) hR ho bi (by omega)) ho
theorem b_out {z i : Int} (h : INV σ A) (bz : bd z) (bi : bd i) : bI mX6_out mX7_out [.int (iI z), .int (iI i)] A := by
  obtain ⟨hX, hM, ho⟩ := h
  by_cases c : (0 ≤ z ∧ z < σ.2.1.1) ∧ -1 ≤ i
  · obtain ⟨k, rfl⟩ : ∃ t : Nat, z = (t : Int) := ⟨z.toNat, by omega⟩
    obtain ⟨A1, x1, x2, x3⟩ := x_out (d := 6) hX ho (show k < σ.2.1.1 by omega) bi (by omega)
    exact bI.mk ⟨hX, hM, ho⟩ x1 x2 x3 (fun A1 hR => m_out (d := 9) hR ho (by omega) bi (by omega)) ho
  · exact bI.st ⟨hX, hM, ho⟩ (x_outB (d := 11) hX ho bz bi (by omega)) (m_outB (d := 9) hM ho bz bi (by omega))
theorem b_across {z i : Int} (h : INV σ A) (bz : bd z) (bi : bd i) : bI mX6_across mX7_across [.int (iI z), .int (iI i)] A := by
  obtain ⟨hX, hM, ho⟩ := h
  by_cases c : (0 ≤ z ∧ z < σ.2.1.1) ∧ -1 ≤ i
  · obtain ⟨k, rfl⟩ : ∃ t : Nat, z = (t : Int) := ⟨z.toNat, by omega⟩
    obtain ⟨A1, x1, x2, x3⟩ := x_across (d := 6) hX ho (show k < σ.2.1.1 by omega) bi (by omega)
    exact bI.mk ⟨hX, hM, ho⟩ x1 x2 x3 (fun A1 hR => m_across (d := 9) hR ho (by omega) bi (by omega)) ho
  · exact bI.st ⟨hX, hM, ho⟩ (x_acrossB (d := 11) hX ho bz bi (by omega)) (m_acrossB (d := 9) hM ho bz bi (by omega))
theorem b_steps (h : INV σ A) : bI mX6_steps mX7_steps [] A := by
  obtain ⟨hX, hM, ho⟩ := h
  by_cases c : σ.2.1.1 = σ.2.2.1.1 ∧ σ.2.1.1 ≤ 5
  · obtain ⟨A1, r, x1, xd, x2, x3⟩ := x_steps (d := 8) hX ho c.1 c.2
    refine bI.mk ⟨hX, hM, ho⟩ x1 x2 x3 (fun A1 hR => ?_) ho
    obtain ⟨A2, r', m1, md, m2, m3⟩ := m_steps (d := 11) hR ho c.1 c.2
    have e : r = r' := dOf_inj xd md (fun k => RN_iff ho.2.1.1.2 (fun i hi => ho.2.2.1.1.2 i (by omega)) k)
    rw [e]
    exact ⟨A2, m1, m2, m3⟩
  · exact bI.st ⟨hX, hM, ho⟩ (x_stepsN (d := 11) hX ho (by omega)) (m_stepsN (d := 11) hM ho (by omega))
theorem b_together {y z : Int} (h : INV σ A) (hy : bd y) (hz : bd z) : bI mX6_together mX7_together [.int (iI y), .int (iI z)] A := bI.st h (x_together (d := 8) h.1 h.2.2.2.1 hy hz) (m_together (d := 10) h.2.1 h.2.2.2.1 hy hz)
theorem b_mended {y z : Int} (h : INV σ A) (hy : bd y) (hz : bd z) : bI mX6_mended mX7_mended [.int (iI y), .int (iI z)] A := by
  obtain ⟨hX, hM, ho⟩ := h
  obtain ⟨A1, x1, x2, x3⟩ := x_mended (d := 8) hX ho.2.1 hy hz
  exact bI.mk ⟨hX, hM, ho⟩ x1 x2 x3 (fun A1 hR => m_mended (d := 10) hR ho.2.1 hy hz) ho
theorem b_keep (h : INV σ A) : bI mX6_keep mX7_keep [] A := by
  obtain ⟨hX, hM, ho⟩ := h
  have h2 := ho.2.2.2.2.1
  by_cases c : σ.2.2.2.2.1 = 2
  · exact bI.st ⟨hX, hM, ho⟩ (x_keepF (d := 11) hX c) (m_keepF (d := 12) hM c)
  · obtain ⟨A1, x1, x2, x3⟩ := x_keep (d := 10) hX ho (by omega)
    refine bI.mk ⟨hX, hM, ho⟩ x1 x2 x3 (fun A1 hR => m_keep (d := 12) hR ho (by omega)) ⟨ho.1, ho.2.1, ho.2.2.1, ho.2.2.2.1, ?_, fun j hj => ?_⟩
    · show σ.2.2.2.2.1 + 1 ≤ 2
      omega
    · have hj' : j < σ.2.2.2.2.1 + 1 := hj
      show okT (if j = σ.2.2.2.2.1 then σ.2.1 else σ.2.2.2.2.2 j)
      by_cases e : j = σ.2.2.2.2.1
      · rw [if_pos e]; exact ho.2.1
      · rw [if_neg e]; exact ho.2.2.2.2.2 j (by omega)
theorem b_back (h : INV σ A) : bI mX6_back mX7_back [] A := by
  obtain ⟨hX, hM, ho⟩ := h
  have h2 := ho.2.2.2.2.1
  by_cases c : σ.2.2.2.2.1 = 0
  · exact bI.st ⟨hX, hM, ho⟩ (x_back0 (d := 11) hX c) (m_back0 (d := 12) hM c)
  · obtain ⟨A1, x1, x2, x3⟩ := x_back (d := 10) hX ho (by omega)
    refine bI.mk ⟨hX, hM, ho⟩ x1 x2 x3 (fun A1 hR => m_back (d := 12) hR ho (by omega)) ⟨ho.1, ho.2.2.2.2.2 _ (by omega), ho.2.2.1, ⟨Nat.zero_le _, fun j hj => absurd hj (Nat.not_lt_zero j)⟩, ?_, fun j hj => ho.2.2.2.2.2 j ?_⟩
    · show σ.2.2.2.2.1 - 1 ≤ 2
      omega
    · have hj' : j < σ.2.2.2.2.1 - 1 := hj
      omega
theorem b_count {z : Int} (h : INV σ A) (hz : bd z) : bI mX6_count mX7_count [.int (iI z)] A := bI.st h (x_count (d := 11) h.1 hz) (m_count (d := 12) h.2.1 hz)
end BB
