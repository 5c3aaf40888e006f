/-! the rules once more: from a fixed start X, under a fixed G, with k cells so far -/
abbrev CT : Type := Program × Launch × Env × Room × State × MethodId × Array Value × List Frame × Method × Code × (Nat → Prop) × (State → Prop)
abbrev xp (X : CT) : Program := X.1
abbrev xl (X : CT) : Launch := X.2.1
abbrev xe (X : CT) : Env := X.2.2.1
abbrev xR (X : CT) : Room := X.2.2.2.1
abbrev xs (X : CT) : State := X.2.2.2.2.1
abbrev xm (X : CT) : MethodId := X.2.2.2.2.2.1
abbrev xa (X : CT) : Array Value := X.2.2.2.2.2.2.1
abbrev xb (X : CT) : List Frame := X.2.2.2.2.2.2.2.1
abbrev xM (X : CT) : Method := X.2.2.2.2.2.2.2.2.1
abbrev xc (X : CT) : Code := X.2.2.2.2.2.2.2.2.2.1
abbrev xB (X : CT) : Nat → Prop := X.2.2.2.2.2.2.2.2.2.2.1
abbrev xQ (X : CT) : State → Prop := X.2.2.2.2.2.2.2.2.2.2.2
def gWk (k : Nat) (G : GC) (A : AH) : va_W := (List.range k).map (fun j => (gA G j, trE G (A j)))
theorem gWk_at {k : Nat} {G : GC} {A : AH} {j : Nat} (h : j < k) : (gWk k G A)[j]? = some (gA G j, trE G (A j)) := by
  unfold gWk
  rw [List.getElem?_map, List.getElem?_range h]
  rfl
theorem gWk_lt {k : Nat} {G : GC} {A : AH} {j : Nat} {q : Nat × va_E} (h : (gWk k G A)[j]? = some q) : j < k := by
  have := (List.getElem?_eq_some_iff.mp h).1
  simpa [gWk] using this
theorem gWk_set {k : Nat} (G : GC) (A : AH) {a : Nat} (c : va_E) (ha : a < k) : (gWk k G A).set a (gA G a, trE G c) = gWk k G (va_up A a c) := by
  apply List.ext_getElem?
  intro j
  rw [List.getElem?_set]
  by_cases hj : a = j
  · subst hj
    rw [gWk_at ha]
    simp [gWk, ha, va_up]
  · rw [if_neg hj]
    by_cases hl : j < k
    · rw [gWk_at hl, gWk_at hl]
      have hne : ¬ j = a := fun h => hj h.symm
      simp [va_up, hne]
    · simp [gWk, hl]
def Gf (X : CT) (G : GC) (k cl sl : Nat) (M : MI) (d pc : Nat) (L : LV) (S : List Value) (A : AH) : Prop :=
  Cx G M d (xp X) (xR X) (xs X) (xm X) (xa X) (xc X) cl sl (xB X) →
    ∀ (H : Heap) (locs : List Loc) (ls : Array Slot), lvOK G ls (mL M) L → va_P (gD G) vwCl (gWk k G A) H → va_D (xB X) (gWk k G A) → va_S (xB X) (xs X).heap H locs →
      W (xp X) (xl X) (xe X) (xR X) (xs X) (xm X) (xa X) (xb X) (xM X) (xc X) H locs cl sl (xQ X) (F0 (xm X) pc ls (S.map (trV G)))
section RF
variable {X : CT} {G : GC} {kk cl sl : Nat} {M : MI} {d pc pc' : Nat} {L L' : LV} {S S' : List Value} {A : AH}
theorem fq_iload_n {k : Fin 4} {x : Int32} (hl : lk (mT M) pc = some (.iload_n k, 1)) (hg : gtL L k.val = some (.int x)) (k : Gf X G kk cl sl M d (pc + 1) L (.int x :: S) A) : Gf X G kk cl sl M d pc L S A := by
  intro hC H locs ls hlv hP hD hS
  exact lv_iload_n hC.1.1 hC.1.2.1 (hC.dec hl) rfl (hlv.2.2.2 _ _ hg) (k hC H locs ls hlv hP hD hS)
theorem fq_iload {k : Nat} {x : Int32} (hl : lk (mT M) pc = some (.iload k, 2)) (hg : gtL L k = some (.int x)) (k : Gf X G kk cl sl M d (pc + 2) L (.int x :: S) A) : Gf X G kk cl sl M d pc L S A := by
  intro hC H locs ls hlv hP hD hS
  exact lv_iload hC.1.1 hC.1.2.1 (hC.dec hl) (hlv.2.2.2 _ _ hg) (k hC H locs ls hlv hP hD hS)
theorem fq_lload_n {k : Fin 4} {x : Int64} (hl : lk (mT M) pc = some (.lload_n k, 1)) (hg : gtL L k.val = some (.long x)) (k : Gf X G kk cl sl M d (pc + 1) L (.long x :: S) A) : Gf X G kk cl sl M d pc L S A := by
  intro hC H locs ls hlv hP hD hS
  exact lv_lload_n hC.1.1 hC.1.2.1 (hC.dec hl) rfl (hlv.2.2.2 _ _ hg) (k hC H locs ls hlv hP hD hS)
theorem fq_lload {k : Nat} {x : Int64} (hl : lk (mT M) pc = some (.lload k, 2)) (hg : gtL L k = some (.long x)) (k : Gf X G kk cl sl M d (pc + 2) L (.long x :: S) A) : Gf X G kk cl sl M d pc L S A := by
  intro hC H locs ls hlv hP hD hS
  exact lv_lload hC.1.1 hC.1.2.1 (hC.dec hl) (hlv.2.2.2 _ _ hg) (k hC H locs ls hlv hP hD hS)
theorem fq_aload_n {k : Fin 4} {x : Nat} (hl : lk (mT M) pc = some (.aload_n k, 1)) (hg : gtL L k.val = some (.ref x)) (k : Gf X G kk cl sl M d (pc + 1) L (.ref x :: S) A) : Gf X G kk cl sl M d pc L S A := by
  intro hC H locs ls hlv hP hD hS
  exact lv_aload_n hC.1.1 hC.1.2.1 (hC.dec hl) rfl (hlv.2.2.2 _ _ hg) (k hC H locs ls hlv hP hD hS)
theorem fq_aload {k : Nat} {x : Nat} (hl : lk (mT M) pc = some (.aload k, 2)) (hg : gtL L k = some (.ref x)) (k : Gf X G kk cl sl M d (pc + 2) L (.ref x :: S) A) : Gf X G kk cl sl M d pc L S A := by
  intro hC H locs ls hlv hP hD hS
  exact lv_aload hC.1.1 hC.1.2.1 (hC.dec hl) (hlv.2.2.2 _ _ hg) (k hC H locs ls hlv hP hD hS)
theorem fq_istore_n {k0 : Fin 4} {x : Int32} (hl : lk (mT M) pc = some (.istore_n k0, 1)) (ho : okSt k0.val L = true) (hs : stL k0.val (some (.int x)) L = some L') (k : Gf X G kk cl sl M d (pc + 1) L' S A) : Gf X G kk cl sl M d pc L (.int x :: S) A := by
  intro hC H locs ls hlv hP hD hS
  exact lv_istore_n hC.1.1 hC.1.2.1 (hC.dec hl) rfl hlv.has (Nat.lt_of_lt_of_le (stL_spec hs).1 hlv.2.2.1) rfl (fun ls' h' => k hC H locs ls' (hlv.st1 ho hs h') hP hD hS)
theorem fq_istore {k0 : Nat} {x : Int32} (hl : lk (mT M) pc = some (.istore k0, 2)) (ho : okSt k0 L = true) (hs : stL k0 (some (.int x)) L = some L') (k : Gf X G kk cl sl M d (pc + 2) L' S A) : Gf X G kk cl sl M d pc L (.int x :: S) A := by
  intro hC H locs ls hlv hP hD hS
  exact lv_istore hC.1.1 hC.1.2.1 (hC.dec hl) hlv.has (Nat.lt_of_lt_of_le (stL_spec hs).1 hlv.2.2.1) rfl (fun ls' h' => k hC H locs ls' (hlv.st1 ho hs h') hP hD hS)
theorem fq_astore_n {k0 : Fin 4} {x : Nat} (hl : lk (mT M) pc = some (.astore_n k0, 1)) (ho : okSt k0.val L = true) (hs : stL k0.val (some (.ref x)) L = some L') (k : Gf X G kk cl sl M d (pc + 1) L' S A) : Gf X G kk cl sl M d pc L (.ref x :: S) A := by
  intro hC H locs ls hlv hP hD hS
  exact lv_astore_n hC.1.1 hC.1.2.1 (hC.dec hl) rfl hlv.has (Nat.lt_of_lt_of_le (stL_spec hs).1 hlv.2.2.1) rfl (fun ls' h' => k hC H locs ls' (hlv.st1 ho hs h') hP hD hS)
theorem fq_astore {k0 : Nat} {x : Nat} (hl : lk (mT M) pc = some (.astore k0, 2)) (ho : okSt k0 L = true) (hs : stL k0 (some (.ref x)) L = some L') (k : Gf X G kk cl sl M d (pc + 2) L' S A) : Gf X G kk cl sl M d pc L (.ref x :: S) A := by
  intro hC H locs ls hlv hP hD hS
  exact lv_astore hC.1.1 hC.1.2.1 (hC.dec hl) hlv.has (Nat.lt_of_lt_of_le (stL_spec hs).1 hlv.2.2.1) rfl (fun ls' h' => k hC H locs ls' (hlv.st1 ho hs h') hP hD hS)
theorem fq_lstore_n {k0 : Fin 4} {x : Int64} {L1 : LV} (hl : lk (mT M) pc = some (.lstore_n k0, 1)) (ho : okSt k0.val L = true) (hs : stL k0.val (some (.long x)) L = some L1) (hs2 : stL (k0.val + 1) none L1 = some L') (k : Gf X G kk cl sl M d (pc + 1) L' S A) : Gf X G kk cl sl M d pc L (.long x :: S) A := by
  intro hC H locs ls hlv hP hD hS
  exact lv_lstore_n hC.1.1 hC.1.2.1 (hC.dec hl) rfl hlv.has (by have h1 := (stL_spec hs2).1; have h2 := (stL_spec hs).2.1; have h3 := hlv.2.2.1; omega) rfl (fun ls' h' => k hC H locs ls' (hlv.st2 ho hs hs2 h') hP hD hS)
theorem fq_lstore {k0 : Nat} {x : Int64} {L1 : LV} (hl : lk (mT M) pc = some (.lstore k0, 2)) (ho : okSt k0 L = true) (hs : stL k0 (some (.long x)) L = some L1) (hs2 : stL (k0 + 1) none L1 = some L') (k : Gf X G kk cl sl M d (pc + 2) L' S A) : Gf X G kk cl sl M d pc L (.long x :: S) A := by
  intro hC H locs ls hlv hP hD hS
  exact lv_lstore hC.1.1 hC.1.2.1 (hC.dec hl) hlv.has (by have h1 := (stL_spec hs2).1; have h2 := (stL_spec hs).2.1; have h3 := hlv.2.2.1; omega) rfl (fun ls' h' => k hC H locs ls' (hlv.st2 ho hs hs2 h') hP hD hS)
theorem fr_iinc {i : Nat} {n : Int} {a : Int} (hl : lk (mT M) pc = some (.iinc i n, 3)) (hg : gtL L i = some (.int (iI a))) (ho : okSt i L = true) (hs : stL i (some (.int (iI (a + n)))) L = some L') (k : Gf X G kk cl sl M d (pc + 3) L' S A) : Gf X G kk cl sl M d pc L S A := by
  intro hC H locs ls hlv hP hD hS
  obtain ⟨kk, hkk⟩ := List.getElem?_of_mem (lvPs_mem (G := G) hg)
  exact lv_iinc hC.1.1 hC.1.2.1 (hC.dec hl) hlv.has hkk (iI_add a n) (Nat.lt_of_lt_of_le (stL_spec hs).1 hlv.2.2.1) rfl (fun ls' h' => k hC H locs ls' (hlv.st1 ho hs h') hP hD hS)
theorem stp_fr (h : stp M pc L S = some (pc', L', S')) (k : Gf X G kk cl sl M d pc' L' S' A) : Gf X G kk cl sl M d pc L S A := by
  unfold stp at h
  cases hl : lk (mT M) pc with
  | none => rw [hl] at h; simp at h
  | some q =>
    obtain ⟨i, n⟩ := q
    rw [hl] at h
    simp only at h
    cases i with
    | iconst z =>
      simp only [stpI] at h
      obtain ⟨hn, h⟩ := w1_of h
      subst hn
      cases h
      intro hC H locs ls hlv hP hD hS
      exact lv_iconst hC.1.1 hC.1.2.1 (hC.dec hl) rfl (k hC H locs ls hlv hP hD hS)
    | lconst z =>
      simp only [stpI] at h
      obtain ⟨hn, h⟩ := w1_of h
      subst hn
      cases h
      intro hC H locs ls hlv hP hD hS
      exact lv_lconst hC.1.1 hC.1.2.1 (hC.dec hl) rfl (k hC H locs ls hlv hP hD hS)
    | bipush z =>
      simp only [stpI] at h
      obtain ⟨hn, h⟩ := w1_of h
      subst hn
      unfold pshI at h
      split at h
      · rename_i hz
        cases h
        intro hC H locs ls hlv hP hD hS
        have hz := of_decide_eq_true hz
        exact lv_bipush hC.1.1 hC.1.2.1 (hC.dec hl) (Int8.toInt32_ofInt (by have := hz.1; simpa [Int8.toInt_minValue] using this) (by have := hz.2; simpa [Int8.toInt_maxValue] using this)) (k hC H locs ls hlv hP hD hS)
      · cases h
    | sipush z =>
      simp only [stpI] at h
      obtain ⟨hn, h⟩ := w1_of h
      subst hn
      unfold pshI at h
      split at h
      · rename_i hz
        cases h
        intro hC H locs ls hlv hP hD hS
        have hz := of_decide_eq_true hz
        exact lv_sipush hC.1.1 hC.1.2.1 (hC.dec hl) (Int16.toInt32_ofInt (by have := hz.1; simpa [Int16.toInt_minValue] using this) (by have := hz.2; simpa [Int16.toInt_maxValue] using this)) (k hC H locs ls hlv hP hD hS)
      · cases h
    | ldc z =>
      simp only [stpI] at h
      obtain ⟨hn, h⟩ := w1_of h
      subst hn
      split at h
      · rename_i hz
        cases h
        intro hC H locs ls hlv hP hD hS
        exact lv_ldc hC.1.1 hC.1.2.1 hC.1.2.2.2.1 (hC.2.1 _ (ic_ok _ (ik3_mem hz))) (hC.dec hl) (k hC H locs ls hlv hP hD hS)
      · cases h
    | ldc_w z =>
      simp only [stpI] at h
      obtain ⟨hn, h⟩ := w1_of h
      subst hn
      split at h
      · rename_i hz
        cases h
        intro hC H locs ls hlv hP hD hS
        exact lv_ldcw hC.1.1 hC.1.2.1 hC.1.2.2.2.1 (hC.2.1 _ (ic_ok _ (ik3_mem hz))) (hC.dec hl) (k hC H locs ls hlv hP hD hS)
      · cases h
    | ldc2_w z =>
      simp only [stpI] at h
      obtain ⟨hn, h⟩ := w1_of h
      subst hn
      split at h
      · rename_i hz
        cases h
        intro hC H locs ls hlv hP hD hS
        exact lv_ldc2 hC.1.1 hC.1.2.1 hC.1.2.2.2.1 (hC.2.1 _ (lc_ok _ (ik3_mem hz))) (hC.dec hl) (k hC H locs ls hlv hP hD hS)
      · cases h
    | iload_n z =>
      simp only [stpI] at h
      obtain ⟨hn, h⟩ := w1_of h
      subst hn
      unfold ldI at h
      split at h
      · rename_i hz
        cases h
        exact fq_iload_n hl hz k
      · cases h
    | iload z =>
      simp only [stpI] at h
      obtain ⟨hn, h⟩ := w1_of h
      subst hn
      unfold ldI at h
      split at h
      · rename_i hz
        cases h
        exact fq_iload hl hz k
      · cases h
    | lload_n z =>
      simp only [stpI] at h
      obtain ⟨hn, h⟩ := w1_of h
      subst hn
      unfold ldL at h
      split at h
      · rename_i hz
        cases h
        exact fq_lload_n hl hz k
      · cases h
    | lload z =>
      simp only [stpI] at h
      obtain ⟨hn, h⟩ := w1_of h
      subst hn
      unfold ldL at h
      split at h
      · rename_i hz
        cases h
        exact fq_lload hl hz k
      · cases h
    | aload_n z =>
      simp only [stpI] at h
      obtain ⟨hn, h⟩ := w1_of h
      subst hn
      unfold ldA at h
      split at h
      · rename_i hz
        cases h
        exact fq_aload_n hl hz k
      · cases h
    | aload z =>
      simp only [stpI] at h
      obtain ⟨hn, h⟩ := w1_of h
      subst hn
      unfold ldA at h
      split at h
      · rename_i hz
        cases h
        exact fq_aload hl hz k
      · cases h
    | istore_n z =>
      simp only [stpI] at h
      obtain ⟨hn, h⟩ := w1_of h
      subst hn
      unfold stI at h
      split at h
      · unfold sto1 at h
        split at h
        · rename_i ho
          split at h
          · rename_i hs
            cases h
            exact fq_istore_n hl ho hs k
          · cases h
        · cases h
      · cases h
    | istore z =>
      simp only [stpI] at h
      obtain ⟨hn, h⟩ := w1_of h
      subst hn
      unfold stI at h
      split at h
      · unfold sto1 at h
        split at h
        · rename_i ho
          split at h
          · rename_i hs
            cases h
            exact fq_istore hl ho hs k
          · cases h
        · cases h
      · cases h
    | astore_n z =>
      simp only [stpI] at h
      obtain ⟨hn, h⟩ := w1_of h
      subst hn
      unfold stA at h
      split at h
      · unfold sto1 at h
        split at h
        · rename_i ho
          split at h
          · rename_i hs
            cases h
            exact fq_astore_n hl ho hs k
          · cases h
        · cases h
      · cases h
    | astore z =>
      simp only [stpI] at h
      obtain ⟨hn, h⟩ := w1_of h
      subst hn
      unfold stA at h
      split at h
      · unfold sto1 at h
        split at h
        · rename_i ho
          split at h
          · rename_i hs
            cases h
            exact fq_astore hl ho hs k
          · cases h
        · cases h
      · cases h
    | lstore_n z =>
      simp only [stpI] at h
      obtain ⟨hn, h⟩ := w1_of h
      subst hn
      unfold stJ at h
      split at h
      · unfold sto2 at h
        split at h
        · rename_i ho
          split at h
          · rename_i hs
            split at h
            · rename_i hs2
              cases h
              exact fq_lstore_n hl ho hs hs2 k
            · cases h
          · cases h
        · cases h
      · cases h
    | lstore z =>
      simp only [stpI] at h
      obtain ⟨hn, h⟩ := w1_of h
      subst hn
      unfold stJ at h
      split at h
      · unfold sto2 at h
        split at h
        · rename_i ho
          split at h
          · rename_i hs
            split at h
            · rename_i hs2
              cases h
              exact fq_lstore hl ho hs hs2 k
            · cases h
          · cases h
        · cases h
      · cases h
    | goto z =>
      simp only [stpI] at h
      obtain ⟨hn, h⟩ := w1_of h
      subst hn
      unfold gotoZ at h
      split at h
      · rename_i ht
        cases h
        intro hC H locs ls hlv hP hD hS
        exact lv_goto hC.1.1 hC.1.2.1 (hC.dec hl) ht (k hC H locs ls hlv hP hD hS)
      · cases h
    | dup =>
      simp only [stpI] at h
      obtain ⟨hn, h⟩ := w1_of h
      subst hn
      unfold dupZ at h
      split at h
      · cases h
        intro hC H locs ls hlv hP hD hS
        exact lv_dup hC.1.1 hC.1.2.1 (hC.dec hl) rfl (k hC H locs ls hlv hP hD hS)
      · cases h
        intro hC H locs ls hlv hP hD hS
        exact lv_dup hC.1.1 hC.1.2.1 (hC.dec hl) rfl (k hC H locs ls hlv hP hD hS)
      · cases h
    | dup2 =>
      simp only [stpI] at h
      obtain ⟨hn, h⟩ := w1_of h
      subst hn
      unfold dup2Z at h
      split at h
      · cases h
        intro hC H locs ls hlv hP hD hS
        exact lv_dup2_11 hC.1.1 hC.1.2.1 (hC.dec hl) rfl rfl (k hC H locs ls hlv hP hD hS)
      · cases h
        intro hC H locs ls hlv hP hD hS
        exact lv_dup2_11 hC.1.1 hC.1.2.1 (hC.dec hl) rfl rfl (k hC H locs ls hlv hP hD hS)
      · cases h
    | pop =>
      simp only [stpI] at h
      obtain ⟨hn, h⟩ := w1_of h
      subst hn
      unfold popZ at h
      split at h
      · cases h
        intro hC H locs ls hlv hP hD hS
        exact lv_pop hC.1.1 hC.1.2.1 (hC.dec hl) rfl (k hC H locs ls hlv hP hD hS)
      · cases h
    | _ => exact absurd h (by simp [stpI])
theorem fr_run (n : Nat) (h : stps M n pc L S = some (pc', L', S')) (k : Gf X G kk cl sl M d pc' L' S' A) : Gf X G kk cl sl M d pc L S A := by
  induction n generalizing pc L S with
  | zero =>
    simp only [stps, Option.some.injEq, Prod.mk.injEq] at h
    obtain ⟨rfl, rfl, rfl⟩ := h
    exact k
  | succ n ih =>
    simp only [stps] at h
    cases hq : stp M pc L S with
    | none => rw [hq] at h; simp at h
    | some q =>
      obtain ⟨a, b, c⟩ := q
      rw [hq] at h
      exact stp_fr hq (ih h)
theorem fr_iadd {a b : Int} (hl : lk (mT M) pc = some (.iadd, 1)) (k : Gf X G kk cl sl M d (pc + 1) L (.int (iI (a + b)) :: S) A) : Gf X G kk cl sl M d pc L (.int (iI b) :: .int (iI a) :: S) A := by
  intro hC H locs ls hlv hP hD hS
  refine lv_iadd hC.1.1 hC.1.2.1 (hC.dec hl) ?_
  rw [iI_add]
  exact k hC H locs ls hlv hP hD hS
theorem fr_isub {a b : Int} (hl : lk (mT M) pc = some (.isub, 1)) (k : Gf X G kk cl sl M d (pc + 1) L (.int (iI (a - b)) :: S) A) : Gf X G kk cl sl M d pc L (.int (iI b) :: .int (iI a) :: S) A := by
  intro hC H locs ls hlv hP hD hS
  refine lv_isub hC.1.1 hC.1.2.1 (hC.dec hl) ?_
  rw [iI_sub]
  exact k hC H locs ls hlv hP hD hS
theorem fr_iand {x y : Int32} (hl : lk (mT M) pc = some (.iand, 1)) (k : Gf X G kk cl sl M d (pc + 1) L (.int (x &&& y) :: S) A) : Gf X G kk cl sl M d pc L (.int y :: .int x :: S) A := by
  intro hC H locs ls hlv hP hD hS
  exact lv_iand hC.1.1 hC.1.2.1 (hC.dec hl) (k hC H locs ls hlv hP hD hS)
theorem fr_lshl {x : Int64} {y : Int32} (hl : lk (mT M) pc = some (.lshl, 1)) (k : Gf X G kk cl sl M d (pc + 1) L (.long (x <<< (y.toInt64 &&& 63)) :: S) A) : Gf X G kk cl sl M d pc L (.int y :: .long x :: S) A := by
  intro hC H locs ls hlv hP hD hS
  exact lv_lshl hC.1.1 hC.1.2.1 (hC.dec hl) rfl (k hC H locs ls hlv hP hD hS)
theorem fr_land {x y : Int64} (hl : lk (mT M) pc = some (.land, 1)) (k : Gf X G kk cl sl M d (pc + 1) L (.long (x &&& y) :: S) A) : Gf X G kk cl sl M d pc L (.long y :: .long x :: S) A := by
  intro hC H locs ls hlv hP hD hS
  exact lv_land hC.1.1 hC.1.2.1 (hC.dec hl) (k hC H locs ls hlv hP hD hS)
theorem fr_lor {x y : Int64} (hl : lk (mT M) pc = some (.lor, 1)) (k : Gf X G kk cl sl M d (pc + 1) L (.long (x ||| y) :: S) A) : Gf X G kk cl sl M d pc L (.long y :: .long x :: S) A := by
  intro hC H locs ls hlv hP hD hS
  exact lv_lor hC.1.1 hC.1.2.1 (hC.dec hl) (k hC H locs ls hlv hP hD hS)
theorem fr_i2l {a : Int} (hl : lk (mT M) pc = some (.i2l, 1)) (ha : bd a) (k : Gf X G kk cl sl M d (pc + 1) L (.long (lI a) :: S) A) : Gf X G kk cl sl M d pc L (.int (iI a) :: S) A := by
  intro hC H locs ls hlv hP hD hS
  exact lv_i2l hC.1.1 hC.1.2.1 (hC.dec hl) (iI_i2l ha) (k hC H locs ls hlv hP hD hS)
theorem fr_i2lx {x : Int32} (hl : lk (mT M) pc = some (.i2l, 1)) (k : Gf X G kk cl sl M d (pc + 1) L (.long x.toInt64 :: S) A) : Gf X G kk cl sl M d pc L (.int x :: S) A := by
  intro hC H locs ls hlv hP hD hS
  exact lv_i2l hC.1.1 hC.1.2.1 (hC.dec hl) rfl (k hC H locs ls hlv hP hD hS)
theorem fr_lcmp {a b : Int} (hl : lk (mT M) pc = some (.lcmp, 1)) (ha : bdl a) (hb : bdl b) (k : Gf X G kk cl sl M d (pc + 1) L (.int (iI (cmpZ a b)) :: S) A) : Gf X G kk cl sl M d pc L (.long (lI b) :: .long (lI a) :: S) A := by
  intro hC H locs ls hlv hP hD hS
  refine W.lcmp hC.1.1 hC.1.2.1 (hC.dec hl) ?_
  rw [lg_cmpZ ha hb]
  exact k hC H locs ls hlv hP hD hS
theorem fr_ifT {c0 : Jvm.ClassFile.Cond} {a off : Int} {t : Nat} (hl : lk (mT M) pc = some (.ifCond c0 off, 3)) (ht : (pc : Int) + off = (t : Int)) (ha : bd a) (hc : cI c0 a 0) (k : Gf X G kk cl sl M d t L S A) : Gf X G kk cl sl M d pc L (.int (iI a) :: S) A := by
  intro hC H locs ls hlv hP hD hS
  cases c0 with
  | eq => exact lv_if_eq (tgt := t) hC.1.1 hC.1.2.1 (hC.dec hl) ht (fun _ => k hC H locs ls hlv hP hD hS) (fun h => absurd ((iI_eq ha (show bd 0 by omega)).mpr hc) h)
  | ne => exact lv_if_ne (tgt := t) hC.1.1 hC.1.2.1 (hC.dec hl) ht (fun _ => k hC H locs ls hlv hP hD hS) (fun h => absurd ((iI_eq ha (show bd 0 by omega)).mp h) hc)
  | lt => exact lv_if_lt (tgt := t) hC.1.1 hC.1.2.1 (hC.dec hl) ht (fun _ => k hC H locs ls hlv hP hD hS) (fun h => absurd ((iI_lt ha (show bd 0 by omega)).mpr hc) h)
  | ge => exact lv_if_ge (tgt := t) hC.1.1 hC.1.2.1 (hC.dec hl) ht (fun _ => k hC H locs ls hlv hP hD hS) (fun h => absurd ((iI_le (show bd 0 by omega) ha).mpr hc) h)
  | gt => exact lv_if_gt (tgt := t) hC.1.1 hC.1.2.1 (hC.dec hl) ht (fun _ => k hC H locs ls hlv hP hD hS) (fun h => absurd ((iI_lt (show bd 0 by omega) ha).mpr hc) h)
  | le => exact lv_if_le (tgt := t) hC.1.1 hC.1.2.1 (hC.dec hl) ht (fun _ => k hC H locs ls hlv hP hD hS) (fun h => absurd ((iI_le ha (show bd 0 by omega)).mpr hc) h)
theorem fr_ifF {c0 : Jvm.ClassFile.Cond} {a off : Int} {t : Nat} (hl : lk (mT M) pc = some (.ifCond c0 off, 3)) (ht : (pc : Int) + off = (t : Int)) (ha : bd a) (hc : ¬ cI c0 a 0) (k : Gf X G kk cl sl M d (pc + 3) L S A) : Gf X G kk cl sl M d pc L (.int (iI a) :: S) A := by
  intro hC H locs ls hlv hP hD hS
  cases c0 with
  | eq => exact lv_if_eq (tgt := t) hC.1.1 hC.1.2.1 (hC.dec hl) ht (fun h => absurd ((iI_eq ha (show bd 0 by omega)).mp h) hc) (fun _ => k hC H locs ls hlv hP hD hS)
  | ne => exact lv_if_ne (tgt := t) hC.1.1 hC.1.2.1 (hC.dec hl) ht (fun h => absurd (fun z => h ((iI_eq ha (show bd 0 by omega)).mpr z)) hc) (fun _ => k hC H locs ls hlv hP hD hS)
  | lt => exact lv_if_lt (tgt := t) hC.1.1 hC.1.2.1 (hC.dec hl) ht (fun h => absurd ((iI_lt ha (show bd 0 by omega)).mp h) hc) (fun _ => k hC H locs ls hlv hP hD hS)
  | ge => exact lv_if_ge (tgt := t) hC.1.1 hC.1.2.1 (hC.dec hl) ht (fun h => absurd ((iI_le (show bd 0 by omega) ha).mp h) hc) (fun _ => k hC H locs ls hlv hP hD hS)
  | gt => exact lv_if_gt (tgt := t) hC.1.1 hC.1.2.1 (hC.dec hl) ht (fun h => absurd ((iI_lt (show bd 0 by omega) ha).mp h) hc) (fun _ => k hC H locs ls hlv hP hD hS)
  | le => exact lv_if_le (tgt := t) hC.1.1 hC.1.2.1 (hC.dec hl) ht (fun h => absurd ((iI_le ha (show bd 0 by omega)).mp h) hc) (fun _ => k hC H locs ls hlv hP hD hS)
theorem fr_icT {c0 : Jvm.ClassFile.Cond} {a b off : Int} {t : Nat} (hl : lk (mT M) pc = some (.if_icmp c0 off, 3)) (ht : (pc : Int) + off = (t : Int)) (ha : bd a) (hb : bd b) (hc : cI c0 a b) (k : Gf X G kk cl sl M d t L S A) : Gf X G kk cl sl M d pc L (.int (iI b) :: .int (iI a) :: S) A := by
  intro hC H locs ls hlv hP hD hS
  cases c0 with
  | eq => exact lv_icmp_eq (tgt := t) hC.1.1 hC.1.2.1 (hC.dec hl) ht (fun _ => k hC H locs ls hlv hP hD hS) (fun h => absurd ((iI_eq ha hb).mpr hc) h)
  | ne => exact lv_icmp_ne (tgt := t) hC.1.1 hC.1.2.1 (hC.dec hl) ht (fun _ => k hC H locs ls hlv hP hD hS) (fun h => absurd ((iI_eq ha hb).mp h) hc)
  | lt => exact lv_icmp_lt (tgt := t) hC.1.1 hC.1.2.1 (hC.dec hl) ht (fun _ => k hC H locs ls hlv hP hD hS) (fun h => absurd ((iI_lt ha hb).mpr hc) h)
  | ge => exact lv_icmp_ge (tgt := t) hC.1.1 hC.1.2.1 (hC.dec hl) ht (fun _ => k hC H locs ls hlv hP hD hS) (fun h => absurd ((iI_le hb ha).mpr hc) h)
  | gt => exact lv_icmp_gt (tgt := t) hC.1.1 hC.1.2.1 (hC.dec hl) ht (fun _ => k hC H locs ls hlv hP hD hS) (fun h => absurd ((iI_lt hb ha).mpr hc) h)
  | le => exact lv_icmp_le (tgt := t) hC.1.1 hC.1.2.1 (hC.dec hl) ht (fun _ => k hC H locs ls hlv hP hD hS) (fun h => absurd ((iI_le ha hb).mpr hc) h)
theorem fr_icF {c0 : Jvm.ClassFile.Cond} {a b off : Int} {t : Nat} (hl : lk (mT M) pc = some (.if_icmp c0 off, 3)) (ht : (pc : Int) + off = (t : Int)) (ha : bd a) (hb : bd b) (hc : ¬ cI c0 a b) (k : Gf X G kk cl sl M d (pc + 3) L S A) : Gf X G kk cl sl M d pc L (.int (iI b) :: .int (iI a) :: S) A := by
  intro hC H locs ls hlv hP hD hS
  cases c0 with
  | eq => exact lv_icmp_eq (tgt := t) hC.1.1 hC.1.2.1 (hC.dec hl) ht (fun h => absurd ((iI_eq ha hb).mp h) hc) (fun _ => k hC H locs ls hlv hP hD hS)
  | ne => exact lv_icmp_ne (tgt := t) hC.1.1 hC.1.2.1 (hC.dec hl) ht (fun h => absurd (fun z => h ((iI_eq ha hb).mpr z)) hc) (fun _ => k hC H locs ls hlv hP hD hS)
  | lt => exact lv_icmp_lt (tgt := t) hC.1.1 hC.1.2.1 (hC.dec hl) ht (fun h => absurd ((iI_lt ha hb).mp h) hc) (fun _ => k hC H locs ls hlv hP hD hS)
  | ge => exact lv_icmp_ge (tgt := t) hC.1.1 hC.1.2.1 (hC.dec hl) ht (fun h => absurd ((iI_le hb ha).mp h) hc) (fun _ => k hC H locs ls hlv hP hD hS)
  | gt => exact lv_icmp_gt (tgt := t) hC.1.1 hC.1.2.1 (hC.dec hl) ht (fun h => absurd ((iI_lt hb ha).mp h) hc) (fun _ => k hC H locs ls hlv hP hD hS)
  | le => exact lv_icmp_le (tgt := t) hC.1.1 hC.1.2.1 (hC.dec hl) ht (fun h => absurd ((iI_le ha hb).mp h) hc) (fun _ => k hC H locs ls hlv hP hD hS)
theorem fr_tabIn {dflt lo hi : Int} {offs : Array Int} {len : Nat} {a off : Int} {t : Nat} (hl : lk (mT M) pc = some (.tableswitch dflt lo hi offs, len)) (ha : bd a) (h1 : lo ≤ a) (h2 : a ≤ hi) (ho : offs[(a - lo).toNat]? = some off) (ht : (pc : Int) + off = (t : Int)) (k : Gf X G kk cl sl M d t L S A) : Gf X G kk cl sl M d pc L (.int (iI a) :: S) A := by
  intro hC H locs ls hlv hP hD hS
  refine lv_tableIn (tgt := t) hC.1.1 hC.1.2.1 (hC.dec hl) ?_ ?_ ?_ ht (k hC H locs ls hlv hP hD hS)
  · rw [iI_toInt ha]; omega
  · rw [iI_toInt ha]; omega
  · rw [iI_toInt ha]; exact ho
theorem fr_ti {x y : Int32} (h : x = y) (k : Gf X G kk cl sl M d pc L (.int y :: S) A) : Gf X G kk cl sl M d pc L (.int x :: S) A := h ▸ k
theorem fr_tl {x y : Int64} (h : x = y) (k : Gf X G kk cl sl M d pc L (.long y :: S) A) : Gf X G kk cl sl M d pc L (.long x :: S) A := h ▸ k
theorem fr_cv {A2 : AH} (hL : L = L') (hS : S = S') (hA : A = A2) (k : Gf X G kk cl sl M d pc L' S' A2) : Gf X G kk cl sl M d pc L S A := by subst hL hS hA; exact k
theorem fr_h {A2 : AH} (hA : A = A2) (k : Gf X G kk cl sl M d pc L S A2) : Gf X G kk cl sl M d pc L S A := by subst hA; exact k
theorem fr_getf {idx ci k0 a : Nat} {fs : List Value} {v : Value} (hl : lk (mT M) pc = some (.getfield idx, 3)) (hf : fk3 flT (mK M) idx = some (ci, k0)) (hA : A a = .inr (ci, fs)) (ha : Nat.blt a kk = true) (hv : fs[k0]? = some v) (k : Gf X G kk cl sl M d (pc + 3) L (v :: S) A) : Gf X G kk cl sl M d pc L (.ref a :: S) A := by
  intro hC H locs ls hlv hP hD hS
  have ha : a < kk := Nat.le_of_ble_eq_true ha
  obtain ⟨q, hq1, hq2, hq3, hq4⟩ := fl_ok _ (fk3_mem hf)
  obtain ⟨C, T, N⟩ := q
  exact va_get (ws := gWk kk G A) (own := clsN (mK M)) (ref := C) (C := C) (T := T) (N := N) (ci := ci) (fs := fs.map (trV G)) (v := trV G v) hC.1.1 hC.1.2.1 hC.2.1 (inT_all hq1) hC.1.2.2.2.1 hC.2.2.2.1 hP a (by rw [gWk_at ha, hA]; rfl) hq1 k0 hq2 (hC.2.1 _ hq3) (fun x hx => by rw [show (T k0).1 = C from hq4] at hx; exact hx) (by rw [List.getElem?_map, hv]; rfl) (hC.dec hl) (k hC H locs ls hlv hP hD hS)
theorem fr_putf {idx ci k0 a : Nat} {fs fs' : List Value} {x : Int32} (hl : lk (mT M) pc = some (.putfield idx, 3)) (hf : fk3 flT (mK M) idx = some (ci, k0)) (hpi : pik piT ci k0 = true) (hA : A a = .inr (ci, fs)) (ha : Nat.blt a kk = true) (hle : Nat.blt k0 fs.length = true) (hfs : fs.set k0 (.int x) = fs') (k : Gf X G kk cl sl M d (pc + 3) L S (va_up A a (.inr (ci, fs')))) : Gf X G kk cl sl M d pc L (.int x :: .ref a :: S) A := by
  intro hC H locs ls hlv hP hD hS
  have ha : a < kk := Nat.le_of_ble_eq_true ha
  have hle : k0 < fs.length := Nat.le_of_ble_eq_true hle
  obtain ⟨q, hq1, hq2, hq3, hq4⟩ := fl_ok _ (fk3_mem hf)
  obtain ⟨hp1, hp2⟩ := pi_ok _ (pik_mem hpi) q hq1
  obtain ⟨⟨ty, hty⟩, hnm⟩ := nm_all hq1
  obtain ⟨C, T, N⟩ := q
  refine va_put (D := gD G) (ws := gWk kk G A) (own := clsN (mK M)) (ref := C) (C := C) (T := T) (N := N) (ci := ci) (fs := fs.map (trV G)) (v := .int x) (ty := .int) hC.1.1 hC.1.2.1 hC.2.1 (inT_all hq1) ty hty hnm hC.1.2.2.2.1 hC.2.2.2.1 hP hD hS a (by rw [gWk_at ha, hA]; rfl) hq1 k0 hq2 (hC.2.1 _ hq3) (fun z hz => by rw [show (T k0).1 = C from hq4] at hz; exact hz) hp2 hp1 rfl rfl (by rw [List.length_map]; exact hle) (hC.dec hl) (fun H1 locs1 hP1 hD1 hS1 => ?_)
  have e : (gWk kk G A).set a (gA G a, .inr (ci, (fs.map (trV G)).set k0 (.int x))) = gWk kk G (va_up A a (.inr (ci, fs'))) := by
    rw [← gWk_set G A _ ha, ← hfs]
    simp [trE, List.map_set, trV]
  rw [e] at hP1 hD1
  exact k hC H1 locs1 ls hlv hP1 hD1 hS1
theorem fr_iald {a n j : Nat} {f : Nat → Int32} {i : Int32} (hl : lk (mT M) pc = some (.iaload, 1)) (hA : A a = Ia n f) (ha : Nat.blt a kk = true) (hi : ix i n j) (k : Gf X G kk cl sl M d (pc + 1) L (.int (f j) :: S) A) : Gf X G kk cl sl M d pc L (.int i :: .ref a :: S) A := by
  intro hC H locs ls hlv hP hD hS
  have ha : a < kk := Nat.le_of_ble_eq_true ha
  refine va_iald (D := gD G) (ws := gWk kk G A) (tys := gTy G) (f := f) hC.1.1 hC.1.2.1 hC.2.2.2.1 hP a 0 (by rw [gWk_at ha, hA]; rfl) rfl hi.1 (hC.dec hl) ?_
  rw [hi.2]
  exact k hC H locs ls hlv hP hD hS
theorem fr_iast {a n j : Nat} {f : Nat → Int32} {i : Int32} {x : Int32} (hl : lk (mT M) pc = some (.iastore, 1)) (hA : A a = Ia n f) (ha : Nat.blt a kk = true) (hi : ix i n j) (k : Gf X G kk cl sl M d (pc + 1) L S (va_up A a (Ia n (upd f j x)))) : Gf X G kk cl sl M d pc L (.int x :: .int i :: .ref a :: S) A := by
  intro hC H locs ls hlv hP hD hS
  have ha : a < kk := Nat.le_of_ble_eq_true ha
  refine va_iast (D := gD G) (ws := gWk kk G A) (tys := gTy G) (f := f) hC.1.1 hC.1.2.1 hC.2.2.2.1 hP hD hS a 0 (by rw [gWk_at ha, hA]; rfl) rfl hi.1 (hC.dec hl) (fun H1 locs1 hP1 hD1 hS1 => ?_)
  rw [hi.2] at hP1 hD1
  have hP2 : va_P (gD G) vwCl (gWk kk G (va_up A a (Ia n (upd f j x)))) H1 := by rw [← gWk_set G A _ ha]; exact hP1
  have hD2 : va_D (xB X) (gWk kk G (va_up A a (Ia n (upd f j x)))) := by rw [← gWk_set G A _ ha]; exact hD1
  exact k hC H1 locs1 ls hlv hP2 hD2 hS1
theorem fr_alen {a t n : Nat} {f : (Nat → Int32) ⊕ (Nat → Int64) ⊕ (Nat → UInt32) ⊕ (Nat → UInt64) ⊕ (Nat → Option Nat)} (hl : lk (mT M) pc = some (.arraylength, 1)) (hA : A a = .inl (t, n, f)) (ha : Nat.blt a kk = true) (ht : Nat.blt t 4 = true) (k : Gf X G kk cl sl M d (pc + 1) L (.int (iI (n : Int)) :: S) A) : Gf X G kk cl sl M d pc L (.ref a :: S) A := by
  intro hC H locs ls hlv hP hD hS
  have ha : a < kk := Nat.le_of_ble_eq_true ha
  have ht : t < 4 := Nat.le_of_ble_eq_true ht
  have h4 : ∃ ty, (gTy G)[t]? = some (gT G t, ty) := by
    match t, ht with
    | 0, _ => exact ⟨_, rfl⟩
    | 1, _ => exact ⟨_, rfl⟩
    | 2, _ => exact ⟨_, rfl⟩
    | 3, _ => exact ⟨_, rfl⟩
    | n + 4, ht => omega
  obtain ⟨ty, h4⟩ := h4
  exact va_alen (D := gD G) (ws := gWk kk G A) (tys := gTy G) (x := (n, trA G f)) hC.1.1 hC.1.2.1 hC.2.2.2.1 hP a t (by rw [gWk_at ha, hA]; rfl) h4 (iI_nI n).symm (hC.dec hl) (k hC H locs ls hlv hP hD hS)
theorem fr_mmax {idx : Nat} {x y : Int32} (hk : Cond.methodLink (clsN (mK M)) idx Lib.Math.max.name ∈ TB) (hl : lk (mT M) pc = some (.invokestatic idx, 3)) (hcat : Nat.ble (S.map fun v => v.category).sum 8 = true) (k : Gf X G kk cl sl M (d + 1) (pc + 3) L (.int (if x < y then y else x) :: S) A) : Gf X G kk cl sl M (d + 1) pc L (.int y :: .int x :: S) A := by
  intro hC H locs ls hlv hP hD hS
  have hcat : ((S.map (trV G)).map fun v => v.category).sum ≤ 8 := by rw [List.map_map]; have hcat := Nat.le_of_ble_eq_true hcat; simpa [Function.comp_def, trV_cat] using hcat
  obtain ⟨h1, h2, h3, h4⟩ := hC.2.2.2.2.2.2.2
  exact va_mmax hC.1.1 hC.1.2.1 (by rw [hC.1.2.2.1, hlv.1]) hC.1.2.2.2.1 (hC.2.1 _ hk) (hC.2.1 _ st_max) (hC.2.1 _ in_math) (hC.2.1 _ cd_max) (by omega) (by omega) h3 h4 (hC.dec hl) (k hC H locs ls hlv hP hD hS)
end RF
