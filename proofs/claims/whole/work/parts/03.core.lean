/-! The abstract machine. Its heap has NC cells at places 0, 1, ..; references are places; 'gA G' says where a place lies.
Gr M d pc L S A r A' : from pc of method M (locals L, stack S, heap A; d calls may stand on it) M returns r, the heap being A' then.
Rt M d args A r A' : M called so returns r, the heap being A' then. -/
abbrev AH : Type := Nat → va_E
abbrev LV : Type := List (Option Value)
abbrev GC : Type := (Nat → ClassId) × (Nat → Nat → Nat) × (Nat → ClassId) × (Nat → Nat) × Nat × (Nat → Int32)
abbrev gD (G : GC) : va_G := (G.1, G.2.1)
abbrev gT (G : GC) : Nat → ClassId := G.2.2.1
abbrev gA (G : GC) : Nat → Nat := G.2.2.2.1
abbrev gL (G : GC) : Nat := G.2.2.2.2.1
abbrev gX (G : GC) : Nat → Int32 := G.2.2.2.2.2
abbrev mK (M : MI) : Nat := M.2.2.2.2.1
abbrev mN (M : MI) : Nat := M.2.2.2.2.2.1
abbrev mT (M : MI) : Tab := M.2.2.2.2.2.2
abbrev mL (M : MI) : Nat := M.2.2.1
def trV (G : GC) : Value → Value
  | .int x => .int x
  | .long x => .long x
  | .float x => .float x
  | .double x => .double x
  | .null => .null
  | .ref k => .ref (gA G k)
  | .retAddr q => .retAddr q
theorem trV_cat (G : GC) (v : Value) : (trV G v).category = v.category := by cases v <;> rfl
def trR (G : GC) (f : Nat → Option Nat) : Nat → Option Nat := fun i => (f i).map (gA G)
def trA (G : GC) : ((Nat → Int32) ⊕ (Nat → Int64) ⊕ (Nat → UInt32) ⊕ (Nat → UInt64) ⊕ (Nat → Option Nat)) → ((Nat → Int32) ⊕ (Nat → Int64) ⊕ (Nat → UInt32) ⊕ (Nat → UInt64) ⊕ (Nat → Option Nat))
  | .inr (.inr (.inr (.inr f))) => .inr (.inr (.inr (.inr (trR G f))))
  | .inl f => .inl f
  | .inr (.inl f) => .inr (.inl f)
  | .inr (.inr (.inl f)) => .inr (.inr (.inl f))
  | .inr (.inr (.inr (.inl f))) => .inr (.inr (.inr (.inl f)))
def trE (G : GC) : va_E → va_E
  | .inr (ci, fs) => .inr (ci, fs.map (trV G))
  | .inl (t, n, f) => .inl (gT G t, n, trA G f)
abbrev Ob (ci : Nat) (fs : List Value) : va_E := .inr (ci, fs)
abbrev Ia (n : Nat) (f : Nat → Int32) : va_E := .inl (0, n, .inl f)
abbrev La (n : Nat) (f : Nat → Int64) : va_E := .inl (1, n, .inr (.inl f))
abbrev Za (n : Nat) (f : Nat → Int32) : va_E := .inl (2, n, .inl f)
abbrev Ra (n : Nat) (f : Nat → Option Nat) : va_E := .inl (3, n, .inr (.inr (.inr (.inr f))))
def NC : Nat := 57
def gW (G : GC) (A : AH) : va_W := (List.range NC).map (fun k => (gA G k, trE G (A k)))
theorem gW_at {G : GC} {A : AH} {k : Nat} (h : k < NC) : (gW G A)[k]? = some (gA G k, trE G (A k)) := by
  unfold gW
  rw [List.getElem?_map, List.getElem?_range h]
  rfl
theorem gW_lt {G : GC} {A : AH} {k : Nat} {q : Nat × va_E} (h : (gW G A)[k]? = some q) : k < NC := by
  have := (List.getElem?_eq_some_iff.mp h).1
  simpa [gW] using this
theorem gW_set (G : GC) (A : AH) {k : Nat} (c : va_E) (hk : k < NC) : (gW G A).set k (gA G k, trE G c) = gW G (va_up A k c) := by
  apply List.ext_getElem?
  intro j
  rw [List.getElem?_set]
  by_cases hj : k = j
  · subst hj
    rw [gW_at hk]
    simp [gW, hk, va_up]
  · rw [if_neg hj]
    by_cases hl : j < NC
    · rw [gW_at hl, gW_at hl]
      have hne : ¬ j = k := fun h => hj h.symm
      simp [va_up, hne]
    · simp [gW, hl]
def gTy (G : GC) : List (ClassId × FieldType) := [(gT G 0, .int), (gT G 1, .long), (gT G 2, .boolean), (gT G 3, .object "BallsInAir$Pattern")]
def pvF (j : Nat) : Value := match j with
  | 0 => .int 1
  | 1 => .int 10
  | 2 => .int 100
  | 3 => .int 1000
  | _ => .int 10000
-- locals
def gtL : LV → Nat → Option Value
  | [], _ => none
  | a :: _, 0 => a
  | _ :: l, k + 1 => gtL l k
def stL : Nat → Option Value → LV → Option LV
  | _, _, [] => none
  | 0, v, _ :: l => some (v :: l)
  | k + 1, v, a :: l => match stL k v l with
    | some l' => some (a :: l')
    | none => none
def lvOK (G : GC) (ls : Array Slot) (nL : Nat) (L : LV) : Prop := ls.size = nL ∧ lv_wf ls ∧ L.length ≤ nL ∧ ∀ (i : Nat) (v : Value), gtL L i = some v → ls[i]? = some (.val (trV G v))
theorem gtL_lt : ∀ {L : LV} {i : Nat} {v : Value}, gtL L i = some v → i < L.length
  | [], _, _, h => by simp [gtL] at h
  | a :: l, 0, _, _ => by simp
  | a :: l, k + 1, v, h => by
    have := gtL_lt (L := l) (i := k) (v := v) (by simpa [gtL] using h)
    simp; omega
theorem stL_spec : ∀ {L L' : LV} {i : Nat} {v : Option Value}, stL i v L = some L' → i < L.length ∧ L'.length = L.length ∧ (gtL L' i = v) ∧ ∀ j, j ≠ i → gtL L' j = gtL L j
  | [], _, _, _, h => by simp [stL] at h
  | a :: l, L', 0, v, h => by
    simp only [stL, Option.some.injEq] at h
    subst h
    refine ⟨by simp, by simp, by simp [gtL], fun j hj => ?_⟩
    cases j with
    | zero => exact absurd rfl hj
    | succ j => simp [gtL]
  | a :: l, L', k + 1, v, h => by
    simp only [stL] at h
    cases hq : stL k v l with
    | none => rw [hq] at h; simp at h
    | some l' =>
      rw [hq] at h
      simp only [Option.some.injEq] at h
      subst h
      obtain ⟨h1, h2, h3, h4⟩ := stL_spec hq
      refine ⟨by simp; omega, by simp [h2], by simpa [gtL] using h3, fun j hj => ?_⟩
      cases j with
      | zero => simp [gtL]
      | succ j => simpa [gtL] using h4 j (by omega)
/-- no long stands just below place i -/
def okSt : Nat → LV → Bool
  | 0, _ => true
  | k + 1, L => match gtL L k with
    | some (.long _) => false
    | some (.double _) => false
    | _ => true
def lvPs (G : GC) (L : LV) : List (Nat × Value) := (List.range L.length).filterMap (fun i => (gtL L i).map (fun v => (i, trV G v)))
theorem lvPs_mem {G : GC} {L : LV} {i : Nat} {v : Value} (h : gtL L i = some v) : (i, trV G v) ∈ lvPs G L := by
  refine List.mem_filterMap.mpr ⟨i, List.mem_range.mpr (gtL_lt h), ?_⟩
  rw [h]; rfl
theorem lvOK.has {G : GC} {ls : Array Slot} {nL : Nat} {L : LV} (h : lvOK G ls nL L) : lv_has ls nL (lvPs G L) := by
  refine ⟨h.1, h.2.1, fun q hq => ?_⟩
  obtain ⟨i, -, hi⟩ := List.mem_filterMap.mp hq
  cases hg : gtL L i with
  | none => rw [hg] at hi; simp at hi
  | some v =>
    rw [hg] at hi
    simp only [Option.map_some, Option.some.injEq] at hi
    subst hi
    exact h.2.2.2 i v hg
theorem lvOK.st1 {G : GC} {ls ls' : Array Slot} {nL i : Nat} {L L' : LV} {v : Value} (h : lvOK G ls nL L) (ho : okSt i L = true) (hs : stL i (some v) L = some L')
    (h' : lv_has ls' nL ((i, trV G v) :: (lvPs G L).filter (fun q => !(q.1 == i) && !(q.1 + 1 == i && q.2.category == 2)))) : lvOK G ls' nL L' := by
  obtain ⟨h1, h2, h3, h4⟩ := stL_spec hs
  refine ⟨h'.1, h'.2.1, by rw [h2]; exact h.2.2.1, fun j w hj => ?_⟩
  by_cases hji : j = i
  · subst hji
    rw [h3] at hj
    cases hj
    exact h'.2.2 _ List.mem_cons_self
  · rw [h4 j hji] at hj
    refine h'.2.2 (j, trV G w) (List.mem_cons_of_mem _ (List.mem_filter.mpr ⟨lvPs_mem hj, ?_⟩))
    have : ¬ (j + 1 = i ∧ w.category = 2) := by
      rintro ⟨rfl, hc⟩
      simp only [okSt] at ho
      rw [hj] at ho
      cases w <;> simp [Value.category] at hc ho
    simp only [Bool.and_eq_true, Bool.not_eq_true', beq_eq_false_iff_ne, ne_eq, hji, not_false_eq_true, true_and, Bool.and_eq_false_iff, trV_cat]
    by_cases hq : j + 1 = i
    · exact Or.inr (fun hc => this ⟨hq, hc⟩)
    · exact Or.inl hq
theorem lvOK.st2 {G : GC} {ls ls' : Array Slot} {nL i : Nat} {L L1 L2 : LV} {v : Value} (h : lvOK G ls nL L) (ho : okSt i L = true) (hs : stL i (some v) L = some L1) (hs2 : stL (i + 1) none L1 = some L2)
    (h' : lv_has ls' nL ((i, trV G v) :: (lvPs G L).filter (fun q => !(q.1 == i) && (!(q.1 == i + 1) && !(q.1 + 1 == i && q.2.category == 2))))) : lvOK G ls' nL L2 := by
  obtain ⟨h1, h2, h3, h4⟩ := stL_spec hs
  obtain ⟨k1, k2, k3, k4⟩ := stL_spec hs2
  refine ⟨h'.1, h'.2.1, by rw [k2, h2]; exact h.2.2.1, fun j w hj => ?_⟩
  by_cases hj1 : j = i + 1
  · subst hj1
    rw [k3] at hj
    cases hj
  rw [k4 j hj1] at hj
  by_cases hji : j = i
  · subst hji
    rw [h3] at hj
    cases hj
    exact h'.2.2 _ List.mem_cons_self
  · rw [h4 j hji] at hj
    refine h'.2.2 (j, trV G w) (List.mem_cons_of_mem _ (List.mem_filter.mpr ⟨lvPs_mem hj, ?_⟩))
    have : ¬ (j + 1 = i ∧ w.category = 2) := by
      rintro ⟨rfl, hc⟩
      simp only [okSt] at ho
      rw [hj] at ho
      cases w <;> simp [Value.category] at hc ho
    simp only [Bool.and_eq_true, Bool.not_eq_true', beq_eq_false_iff_ne, ne_eq, hji, hj1, not_false_eq_true, true_and, Bool.and_eq_false_iff, trV_cat]
    by_cases hq : j + 1 = i
    · exact Or.inr (fun hc => this ⟨hq, hc⟩)
    · exact Or.inl hq
def entL : List Value → LV
  | [] => []
  | .long x :: vs => some (.long x) :: none :: entL vs
  | .double x :: vs => some (.double x) :: none :: entL vs
  | v :: vs => some v :: entL vs
def padL : Nat → LV → LV
  | 0, _ => []
  | n + 1, [] => none :: padL n []
  | n + 1, a :: l => a :: padL n l
theorem padL_len : ∀ (n : Nat) (l : LV), (padL n l).length = n
  | 0, _ => rfl
  | n + 1, [] => by simp [padL, padL_len n]
  | n + 1, a :: l => by simp [padL, padL_len n]
theorem padL_gt : ∀ {n i : Nat} {l : LV} {v : Value}, gtL (padL n l) i = some v → gtL l i = some v
  | 0, i, l, v, h => by simp [padL, gtL] at h
  | n + 1, i, [], v, h => by
    cases i with
    | zero => simp [padL, gtL] at h
    | succ i => have := padL_gt (n := n) (i := i) (l := []) (v := v) (by simpa [padL, gtL] using h); simp [gtL] at this
  | n + 1, i, a :: l, v, h => by
    cases i with
    | zero => simpa [padL, gtL] using h
    | succ i => simpa [gtL] using padL_gt (n := n) (i := i) (l := l) (v := v) (by simpa [padL, gtL] using h)
theorem entL_mem (G : GC) : ∀ {vs : List Value} {i k : Nat} {v : Value}, gtL (entL vs) i = some v → (k + i, trV G v) ∈ lv_args k (vs.map (trV G))
  | [], i, k, v, h => by simp [entL, gtL] at h
  | w :: vs, i, k, v, h => by
    have step1 : ∀ (j : Nat), gtL (entL vs) j = some v → (k + 1 + j, trV G v) ∈ lv_args (k + 1) (vs.map (trV G)) := fun j hj => entL_mem G hj
    have step2 : ∀ (j : Nat), gtL (entL vs) j = some v → (k + 2 + j, trV G v) ∈ lv_args (k + 2) (vs.map (trV G)) := fun j hj => entL_mem G hj
    simp only [List.map_cons, lv_args, trV_cat]
    cases w <;> simp only [entL] at h <;> simp only [Value.category] <;>
      (cases i with
       | zero => simp [gtL] at h; subst h; simp
       | succ i =>
         simp only [gtL] at h
         first
         | (refine List.mem_cons_of_mem _ ?_; have := step1 i h; rw [show k + (i + 1) = k + 1 + i by omega]; simpa using this)
         | (cases i with
            | zero => simp [gtL] at h
            | succ i =>
              simp only [gtL] at h
              refine List.mem_cons_of_mem _ ?_
              have := step2 i h
              rw [show k + (i + 1 + 1) = k + 2 + i by omega]
              simpa using this))
theorem lg_sl_cons (v : Value) (vs : List Value) : lg_sl (v :: vs) = (if v.category = 2 then [.val v, .second] else [.val v]) ++ lg_sl vs := by simp [lg_sl]
theorem entL_sl (G : GC) : ∀ (vs : List Value), (lg_sl (vs.map (trV G))).length = (entL vs).length
  | [] => rfl
  | w :: vs => by
    rw [List.map_cons, lg_sl_cons, List.length_append, entL_sl G vs, trV_cat]
    cases w <;> simp [entL, Value.category] <;> omega
