/-! Gr and Rt, and a rule an instruction. -/
def BU (G : GC) (sz : Nat) : Nat → Prop := fun q => (∃ k : Nat, k < NC ∧ q = gA G k) ∨ sz ≤ q
def Cx (G : GC) (M : MI) (d : Nat) (p : Program) (R : Room) (s : State) (m : MethodId) (args : Array Value) (c : Code) (cells slots : Nat) (B : Nat → Prop) : Prop :=
  (p.tables.exec = Jvm.exec ∧ c.code = M.2.1 ∧ c.maxLocals = mL M ∧ s.vm.findClass (clsN (mK M)) = some m.cls ∧ tabOK M.2.1 (mT M) = true) ∧
  (∀ w ∈ TB, w.before args s = true) ∧ (∀ w ∈ nwL, va_Nw w s) ∧ va_K (gD G) vwCl (gTy G) s ∧ (∀ q : Nat, s.heap.size ≤ q → B q) ∧
  (va_Z "BallsInAir" "PLACE_VALUES" "[I" (.ref (gA G 1000)) B s s.heap ∧ va_T .int (gA G 1000) 5 pvF B s s.heap) ∧
  (va_X (gA G 1001) (gL G) (gX G) s s.heap ∧ gA G 1001 < s.heap.size ∧ ¬ B (gA G 1001)) ∧
  (d ≤ R.frames ∧ 60 * d ≤ R.locals ∧ cells ≤ R.cells ∧ slots ≤ R.slots)
theorem Cx.dec {G : GC} {M : MI} {d : Nat} {p : Program} {R : Room} {s : State} {m : MethodId} {args : Array Value} {c : Code} {cells slots : Nat} {B : Nat → Prop} (h : Cx G M d p R s m args c cells slots B) {pc : Nat} {i : Instr} {n : Nat} (hl : lk (mT M) pc = some (i, n)) : decode M.2.1 pc = .ok (i, n) := tabOK_lk h.1.2.2.2.2 hl
def rtAt (M : MI) (pc : Nat) (r : Option Value) : Prop := match r with
  | none => lk (mT M) pc = some (.return_, 1)
  | some (.int _) => lk (mT M) pc = some (.ireturn, 1)
  | some (.long _) => lk (mT M) pc = some (.lreturn, 1)
  | some (.ref _) => lk (mT M) pc = some (.areturn, 1)
  | _ => False
def Rx (G : GC) (M : MI) (r : Option Value) (A' : AH) (p : Program) (l : Launch) (e : Env) (R : Room) (s : State) (m : MethodId) (args : Array Value) (below : List Frame) (meth : Method) (c : Code) (cells slots : Nat) (B : Nat → Prop) (Q : State → Prop) : Prop :=
  ∀ (pc : Nat) (H : Heap) (locs : List Loc) (ls : Array Slot), rtAt M pc r → va_P (gD G) vwCl (gW G A') H → va_D B (gW G A') → va_S B s.heap H locs → W p l e R s m args below meth c H locs cells slots Q (F0 m pc ls ((r.map (trV G)).toList))
def Gr (M : MI) (d pc : Nat) (L : LV) (S : List Value) (A : AH) (r : Option Value) (A' : AH) : Prop :=
  ∀ (G : GC) (p : Program) (l : Launch) (e : Env) (R : Room) (s : State) (m : MethodId) (args : Array Value) (below : List Frame) (meth : Method) (c : Code) (cells slots : Nat) (B : Nat → Prop) (Q : State → Prop),
    Cx G M d p R s m args c cells slots B → Rx G M r A' p l e R s m args below meth c cells slots B Q →
    ∀ (H : Heap) (locs : List Loc) (ls : Array Slot), lvOK G ls (mL M) L → va_P (gD G) vwCl (gW G A) H → va_D B (gW G A) → va_S B s.heap H locs →
      W p l e R s m args below meth c H locs cells slots Q (F0 m pc ls (S.map (trV G)))
def Go (M : MI) (d pc : Nat) (L : LV) (S : List Value) (A : AH) (pc' : Nat) (L' : LV) (S' : List Value) (A1 : AH) : Prop :=
  ∀ (r : Option Value) (A' : AH), Gr M d pc' L' S' A1 r A' → Gr M d pc L S A r A'
def rmD (d : Nat) : Room := { frames := d, cells := 0, slots := 0, locals := 60 * d }
def PreU (G : GC) (A : AH) (sz : Nat) (U : State) : Prop := U.heap.size = sz ∧ va_P (gD G) vwCl (gW G A) U.heap ∧ va_K (gD G) vwCl (gTy G) U ∧ va_D (fun _ => True) (gW G A) ∧ (∀ w ∈ nwL, va_Nw w U) ∧
  (va_Z "BallsInAir" "PLACE_VALUES" "[I" (.ref (gA G 1000)) (BU G sz) U U.heap ∧ va_T .int (gA G 1000) 5 pvF (BU G sz) U U.heap) ∧
  (va_X (gA G 1001) (gL G) (gX G) U U.heap ∧ gA G 1001 < U.heap.size ∧ ¬ BU G sz (gA G 1001))
def QU (G : GC) (A' : AH) (r : Option Value) (sz : Nat) : Array Value → State → Outcome → State → Prop := fun _ st oc t => oc = .returned (r.map (trV G)) ∧ (va_P (gD G) vwCl (gW G A') t.heap ∧ va_D (BU G sz) (gW G A')) ∧ va_F (BU G sz) st t
def Rt (M : MI) (d : Nat) (args : List Value) (A : AH) (r : Option Value) (A' : AH) : Prop :=
  ∀ (l : Launch) (G : GC) (sz : Nat), Met l M.1 (Cond.code M.1 M.2.1 (mL M) M.2.2.2.1 :: TB) (rmD d) (va_Pc (args.map (trV G)) (PreU G A sz)) (QU G A' r sz) 0 0 (BU G sz)
theorem nw_onT : ∀ w ∈ nwL, w.onTables = true := by decide +kernel
theorem nw_warm {s U : State} (hW : s.WarmedH U.vm) (h : ∀ w ∈ nwL, va_Nw w s) : ∀ w ∈ nwL, va_Nw w U := by
  intro w hw
  have h1 := h w hw
  simp only [nwL, List.mem_cons, List.not_mem_nil, or_false] at hw
  rcases hw with rfl | rfl | rfl | rfl | rfl | rfl | rfl | rfl | rfl | rfl <;> first | exact va_Nw.warmM hW h1 | exact va_Nw.warmF hW h1
theorem BU_D {G : GC} {A : AH} {sz : Nat} {B : Nat → Prop} (h : va_D B (gW G A)) : va_D (BU G sz) (gW G A) := by
  refine ⟨h.1, fun k q hk => ?_⟩
  have hl := gW_lt hk
  rw [gW_at hl] at hk
  cases hk
  exact Or.inl ⟨k, hl, rfl⟩
theorem BU_sub {G : GC} {A : AH} {sz sz0 : Nat} {B : Nat → Prop} (h : va_D B (gW G A)) (hB : ∀ q : Nat, sz0 ≤ q → B q) (hz : sz0 ≤ sz) : ∀ q, BU G sz q → B q := by
  rintro q (⟨k, hk, rfl⟩ | hq)
  · exact h.2 k _ (gW_at hk)
  · exact hB q (Nat.le_trans hz hq)
theorem PreU_blind (G : GC) (A : AH) (sz : Nat) (av : List Value) : FrameBlind (va_Pc av (PreU G A sz)) := by
  rintro a U g mk ⟨h0, h1, h2, h3, h4, h5, ⟨h6, h6'⟩, h7, h8, h9⟩
  have hv : (U.calling g mk a).vm = U.vm := rfl
  have hal : U.vm.Alike (U.calling g mk a).vm := Vm.Alike.refl U.vm
  exact ⟨h0, h1, h2, va_K.moved hal h3, h4, fun w hw => va_Nw.same (nw_onT w hw) hv.symm (h5 w hw), ⟨h6.moved hal, h6'.moved hal⟩, va_X.moved hal h7, h8, h9⟩
/-- what a callee finds -/
theorem Cx.pre {G : GC} {M : MI} {d : Nat} {p : Program} {R : Room} {s : State} {m : MethodId} {args : Array Value} {c : Code} {cells slots : Nat} {B : Nat → Prop} (h : Cx G M d p R s m args c cells slots B) {A : AH} {H : Heap} {locs : List Loc} (hP : va_P (gD G) vwCl (gW G A) H) (hD : va_D B (gW G A)) (hS : va_S B s.heap H locs) {U : State} (hU : U.heap = H) (hW : s.WarmedH U.vm) : PreU G A H.size U := by
  obtain ⟨-, -, hN, hK, hA, ⟨hZ, hT⟩, ⟨hX, hbl, hbA⟩, -⟩ := h
  have hsub := BU_sub (sz := H.size) hD hA hS.1
  refine ⟨by rw [hU], by rw [hU]; exact hP, va_K.moved hW.alike hK, hD.weaken (fun _ _ _ _ => trivial), nw_warm hW hN, ⟨?_, ?_⟩, ?_, by rw [hU]; exact Nat.lt_of_lt_of_le hbl hS.1, fun z => hbA (hsub _ z)⟩
  · rw [hU]; exact ((hZ.kept hS.2.1).narrow hsub).moved hW.alike
  · rw [hU]; exact ((hT.kept hS.2.1).narrow hsub).moved hW.alike
  · rw [hU]; exact (hX.kept (hS.2.1 _ hbl hbA)).moved hW.alike
section GU
variable {p : Program} {l : Launch} {e : Env} {R : Room} {s : State} {m : MethodId} {args : Array Value} {below : List Frame} {meth : Method} {c : Code} {H : Heap} {locs : List Loc} {cells slots : Nat} {Q : State → Prop}
theorem callU {G : GC} {A1 : AH} {r1 : Option Value} {sz pc : Nat} {ls : Array Slot} {st0 rest : List Value} {a : Array Value} {B : Nat → Prop} (hr : va_Run p l e R s m args below meth c H locs cells slots 0 0 (F0 m pc ls st0) rest (QU G A1 r1 sz a) (BU G sz)) (hS : va_S B s.heap H locs) (hB : ∀ q, BU G sz q → B q)
    (kk : ∀ (H1 : Heap) (locs1 : List Loc), va_P (gD G) vwCl (gW G A1) H1 → va_D B (gW G A1) → va_S B s.heap H1 locs1 → W p l e R s m args below meth c H1 locs1 cells slots Q (F0 m (pc + 3) ls ((r1.map (trV G)).toList ++ rest))) : W p l e R s m args below meth c H locs cells slots Q (F0 m pc ls st0) := by
  intro T hT X
  obtain ⟨v, st₀, t, T', L, h0, X', hL, e1, e2, ⟨hv, ⟨hp, hd⟩, hz, hk⟩, st⟩ := hr T hT X
  cases hv
  rw [h0] at hz hk
  obtain ⟨t2, a1, b1⟩ := kk T'.heap (locs ++ L) (by rw [e1]; exact hp) (hd.weaken (fun _ q _ h => hB q.1 h))
    ⟨Nat.le_trans hS.1 (by rw [e1]; exact hz), fun q h1 h2 => by rw [e1, hk q (Nat.lt_of_lt_of_le h1 hS.1) (fun z => h2 (hB q z))]; exact hS.2.1 q h1 h2, fun q hq => by
      rcases List.mem_append.mp hq with h | h
      · exact hS.2.2 q h
      · exact hB _ (hL q h)⟩ T' rfl X'
  exact ⟨t2, st t2 a1, b1⟩
end GU
/-- may the method give this back -/
def retOK (ret : Option FieldType) (r : Option Value) : Prop := match ret, r with
  | none, none => True
  | some ty, some (.int v) => narrow ty (.int v) = .int v
  | some .long, some (.long _) => True
  | some (.object _), some (.ref _) => True
  | _, _ => False
theorem inT_all {ci : Nat} {q : vw_C} (h : vwCl[ci]? = some q) : ∀ w ∈ u_ws q.1 q.2.1 q.2.2, w ∈ TB := by
  match ci, h with
  | 0, h => cases h; exact inT0
  | 1, h => cases h; exact inT1
  | 2, h => cases h; exact inT2
  | 3, h => cases h; exact inT3
  | 4, h => cases h; exact inT4
  | 5, h => cases h; exact inT5
  | 6, h => cases h; exact inT6
  | 7, h => cases h; exact inT7
  | k + 8, h => simp [vwCl] at h
theorem nm_all {ci : Nat} {q : vw_C} (h : vwCl[ci]? = some q) : (∃ ty : Nat → FieldType, ∀ k, k < q.2.2 → parseFieldDescriptor (q.2.1 k).2.2.1 = some (ty k)) ∧ ∀ a, a < q.2.2 → ∀ b, b < q.2.2 → a ≠ b → (q.2.1 a).2.1 ≠ (q.2.1 b).2.1 := by
  match ci, h with
  | 0, h => cases h; exact ⟨⟨_, tyX0_ok⟩, nmX0⟩
  | 1, h => cases h; exact ⟨⟨_, tyX1_ok⟩, nmX1⟩
  | 2, h => cases h; exact ⟨⟨_, tyX2_ok⟩, nmX2⟩
  | 3, h => cases h; exact ⟨⟨_, tyX3_ok⟩, nmX3⟩
  | 4, h => cases h; exact ⟨⟨_, tyX4_ok⟩, nmX4⟩
  | 5, h => cases h; exact ⟨⟨_, tyX5_ok⟩, nmX5⟩
  | 6, h => cases h; exact ⟨⟨_, tyX6_ok⟩, nmX6⟩
  | 7, h => cases h; exact ⟨⟨_, tyX7_ok⟩, nmX7⟩
  | k + 8, h => simp [vwCl] at h
theorem rt_intro {M : MI} {d : Nat} {args : List Value} {A A' : AH} {r : Option Value} {L : LV} (hM : MOK M) (hL : padL (mL M) (entL args) = L) (hn : Nat.ble (entL args).length (mL M) = true) (hr : retOK M.2.2.2.1 r) (k : Gr M d 0 L [] A r A') : Rt M d args A r A' := by
  obtain ⟨hcode, hini, hcn, htab, hmx, hpl, hmh⟩ := hM
  intro l G sz
  refine va_MetF (cc := M.2.1) (maxL := mL M) (ret := M.2.2.2.1) hpl rfl ?_
  intro p e s m args' below meth c s₁ Bd hml hv
  obtain ⟨rfl, hsz, hP, hK, hD0, hN, hZT, hX, hbl, hbA⟩ := hv
  have hts := atoms_spec (ws := Cond.code M.1 M.2.1 (mL M) M.2.2.2.1 :: TB) Bd.pre
  have hown : s.vm.findClass M.1.cls = some m.cls := findClass_of_methodNamed Bd.named
  rw [hcn] at hown
  have hlocks := Bd.notSynchronized
  have hret := Bd.returns
  have hD := BU_D (sz := sz) hD0
  have hC : Cx G M d p (headSpec (Cond.code M.1 M.2.1 (mL M) M.2.2.2.1 :: TB) (rmD d)).room s m ((args.map (trV G)).toArray) c 0 0 (BU G sz) :=
    ⟨⟨Bd.exec, Bd.bytes, hml, hown, htab⟩, fun w hw => hts w (List.mem_cons_of_mem _ hw), hN, hK, fun q hq => Or.inr (by rw [← hsz]; exact hq), hZT, ⟨hX, hbl, hbA⟩, Nat.le_refl _, Nat.le_refl _, Nat.zero_le _, Nat.zero_le _⟩
  have hl := lv_entry (args.map (trV G)) (n := mL M) (by rw [entL_sl]; exact Nat.le_of_ble_eq_true hn)
  rw [lg_entry_eq]
  refine k G p l e _ s m _ below meth c 0 0 (BU G sz) _ hC ?_ s.heap [] _ ⟨hl.1, hl.2.1, by rw [← hL, padL_len]; exact Nat.le_refl _, fun i v hi => ?_⟩ hP hD va_S.rf
  · intro pc H locs ls hrt hP1 hD1 hS1
    have hq : ∀ t : State, t.heap = H → s.WarmedH t.vm → QU G A' r sz ((args.map (trV G)).toArray) s (.returned (r.map (trV G))) t := fun t ht hW => ⟨rfl, ⟨by rw [ht]; exact hP1, hD1⟩, hS1.F ht⟩
    cases r with
    | none =>
      refine W.vret Bd.exec Bd.bytes ?_ hq hS1.2.2 (hC.dec hrt) hlocks
      rw [hret]
      revert hr
      cases M.2.2.2.1 <;> simp [retOK]
    | some v =>
      cases v with
      | int x =>
        revert hr
        cases hrr : M.2.2.2.1 with
        | none => simp [retOK]
        | some ty =>
          intro hr
          exact W.zret Bd.exec Bd.bytes (by rw [hret, hrr]) hr hq hS1.2.2 (hC.dec hrt) hlocks
      | long x =>
        revert hr
        cases hrr : M.2.2.2.1 with
        | none => simp [retOK]
        | some ty =>
          cases ty <;> intro hr <;> first | exact False.elim hr | exact W.lret Bd.exec Bd.bytes (by rw [hret, hrr]) hq hS1.2.2 (hC.dec hrt) hlocks
      | ref x =>
        revert hr
        cases hrr : M.2.2.2.1 with
        | none => simp [retOK]
        | some ty =>
          cases ty <;> intro hr <;> first | exact False.elim hr | exact W.aret Bd.exec Bd.bytes (by rw [hret, hrr]) (Or.inl ⟨_, rfl⟩) (Or.inr ⟨_, rfl⟩) hq hS1.2.2 (hC.dec hrt) hlocks
      | _ => exact absurd hrt (by simp [rtAt])
  · rw [← hL] at hi
    have := entL_mem G (k := 0) (padL_gt hi)
    rw [Nat.zero_add] at this
    exact hl.2.2 _ this
section RU
variable {M : MI} {d pc : Nat} {L : LV} {S : List Value} {A A' : AH} {r : Option Value}
theorem gr_ret (h : rtAt M pc r) (hS : r.toList = S) : Gr M d pc L S A r A := by
  subst hS
  intro G p l e R s m args below meth c cells slots B Q hC hQ H locs ls hl hP hD hS
  have := hQ pc H locs ls h hP hD hS
  cases r <;> exact this
/-- a call's result, whatever the call -/
theorem gr_callV {M' : MI} {idx cn a ci : Nat} {fs As rest : List Value} {r1 : Option Value} {A1 : AH} (hk : LkV cn idx M') (hl : lk (mT M) pc = some (.invokevirtual idx, 3)) (hc : mK M = cn) (hr : Rt M' d (.ref a :: As) A r1 A1) (hcell : A a = .inr (ci, fs)) (ha : a < NC) (hci : mK M' = ci) (hci8 : Nat.blt ci 8 = true) (hn : As.length = mN M') (hcat : Nat.ble (rest.map fun v => v.category).sum 8 = true) (hst : As.reverse ++ .ref a :: rest = S)
    (k : Gr M (d + 1) (pc + 3) L (r1.toList ++ rest) A1 r A') : Gr M (d + 1) pc L S A r A' := by
  subst hst
  subst hc
  intro G p l e R s m args below meth c cells slots B Q hC hQ H locs ls hlv hP hD hS
  obtain ⟨⟨hcode, hini, hcn, htab, hmx, hpl, hmh⟩, h1, h2, h3⟩ := hk
  obtain ⟨⟨hx, hb, hml, hown, htb⟩, hts, hN, hK, hA, hZT, hX, hR1, hR2, hR3, hR4⟩ := id hC
  have hq : ∃ q : vw_C, vwCl[ci]? = some q ∧ q.1 = M'.1.cls := by
    rw [hcn, show M'.2.2.2.2.1 = ci from hci]
    have hlt : ci < 8 := Nat.le_of_ble_eq_true hci8
    match ci, hlt with
    | 0, _ => exact ⟨_, rfl, rfl⟩
    | 1, _ => exact ⟨_, rfl, rfl⟩
    | 2, _ => exact ⟨_, rfl, rfl⟩
    | 3, _ => exact ⟨_, rfl, rfl⟩
    | 4, _ => exact ⟨_, rfl, rfl⟩
    | 5, _ => exact ⟨_, rfl, rfl⟩
    | 6, _ => exact ⟨_, rfl, rfl⟩
    | 7, _ => exact ⟨_, rfl, rfl⟩
    | n + 8, hlt => omega
  obtain ⟨q, hq1, hq2⟩ := hq
  have hrecv : ∃ cell : Cell, H[gA G a]? = some cell ∧ cell.vm.isStatics = false ∧ s.vm.findClass M'.1.cls = some cell.cls := by
    have h9 := va_recv hK hP hq1 (q0 := a) (a := gA G a) (fs := fs.map (trV G)) (by rw [gW_at ha, hcell]; rfl)
    rw [hq2] at h9
    exact h9
  have hGI : GoodIn TB (wsV (clsN (mK M)) idx M'.1.cls M'.1 (Cond.code M'.1 M'.2.1 (mL M') M'.2.2.2.1 :: TB)) := by
    refine tb_good (fun w hw => ?_)
    simp only [wsV, List.cons_append, List.nil_append, List.mem_cons] at hw
    rcases hw with rfl | rfl | rfl | rfl | rfl | hw
    · exact h1
    · exact h2
    · exact h3
    · exact hini
    · exact hcode
    · exact hw
  have hrun := va_runV (p := p) (l := l) (e := e) (R := R) (s := s) (m := m) (args := args) (below := below) (meth := meth) (c := c) (H := H) (locs := locs) (cells := cells) (slots := slots) (As := As.map (trV G)) (rest := rest.map (trV G)) (b := gA G a) (g := F0 m pc ls ((As.reverse ++ .ref a :: rest).map (trV G))) (Ts := TB) ⟨hx, hb, hml, hown, hts⟩ (hr l G H.size)
    (cwV (C := M'.1.cls) (mN M') hts hGI rfl rfl rfl ⟨rfl, hmh.1, hmh.2.1, hmh.2.2⟩ ⟨hR1, by show 8 + (mL M' + 11) + 60 * d ≤ R.locals; have hmx2 : mL M' ≤ 31 := hmx; have := hR2; omega⟩)
    ⟨PreU_blind G A H.size _, hrecv, fun U hU hW => ⟨rfl, hC.pre hP hD hS hU hW⟩⟩ rfl (by rw [List.length_map]; exact hn) hlv.1 (by simp [List.map_append, List.map_reverse, trV])
    (lv_room (by rw [List.map_map]; have hcat := Nat.le_of_ble_eq_true hcat; simpa [Function.comp_def, trV_cat] using hcat)) (hC.dec hl) ⟨hR3, hR4⟩
  refine callU hrun hS (BU_sub hD hA hS.1) (fun H1 locs1 hP1 hD1 hS1 => ?_)
  have := k G p l e R s m args below meth c cells slots B Q hC hQ H1 locs1 ls hlv hP1 hD1 hS1
  rw [List.map_append] at this
  cases r1 <;> exact this
theorem gr_callS {M' : MI} {idx cn : Nat} {As rest : List Value} {r1 : Option Value} {A1 : AH} (hk : LkS cn idx M') (hl : lk (mT M) pc = some (.invokestatic idx, 3)) (hc : mK M = cn) (hr : Rt M' d As A r1 A1) (hn : As.length = mN M') (hcat : Nat.ble (rest.map fun v => v.category).sum 8 = true) (hst : As.reverse ++ rest = S)
    (k : Gr M (d + 1) (pc + 3) L (r1.toList ++ rest) A1 r A') : Gr M (d + 1) pc L S A r A' := by
  subst hst
  subst hc
  intro G p l e R s m args below meth c cells slots B Q hC hQ H locs ls hlv hP hD hS
  obtain ⟨⟨hcode, hini, hcn, htab, hmx, hpl, hmh⟩, h1, h2⟩ := hk
  obtain ⟨⟨hx, hb, hml, hown, htb⟩, hts, hN, hK, hA, hZT, hX, hR1, hR2, hR3, hR4⟩ := id hC
  have hGI : GoodIn TB (va_wsS (clsN (mK M)) idx M'.1 (Cond.code M'.1 M'.2.1 (mL M') M'.2.2.2.1 :: TB)) := by
    refine tb_good (fun w hw => ?_)
    simp only [va_wsS, List.cons_append, List.nil_append, List.mem_cons] at hw
    rcases hw with rfl | rfl | rfl | rfl | hw
    · exact h1
    · exact h2
    · exact hini
    · exact hcode
    · exact hw
  have hrun := va_runS (p := p) (l := l) (e := e) (R := R) (s := s) (m := m) (args := args) (below := below) (meth := meth) (c := c) (H := H) (locs := locs) (cells := cells) (slots := slots) (As := As.map (trV G)) (rest := rest.map (trV G)) (g := F0 m pc ls ((As.reverse ++ rest).map (trV G))) (Ts := TB) ⟨hx, hb, hml, hown, hts⟩ (hr l G H.size)
    (va_cwS (mN M') hts hGI rfl rfl rfl ⟨hmh.1, hmh.2.1, hmh.2.2⟩ ⟨hR1, by show 8 + (mL M' + 11) + 60 * d ≤ R.locals; have hmx2 : mL M' ≤ 31 := hmx; have := hR2; omega⟩)
    ⟨PreU_blind G A H.size _, fun U hU hW => ⟨rfl, hC.pre hP hD hS hU hW⟩⟩ rfl (by rw [List.length_map]; exact hn) hlv.1 (by simp [List.map_append, List.map_reverse])
    (lv_room (by rw [List.map_map]; have hcat := Nat.le_of_ble_eq_true hcat; simpa [Function.comp_def, trV_cat] using hcat)) (hC.dec hl) ⟨hR3, hR4⟩
  refine callU hrun hS (BU_sub hD hA hS.1) (fun H1 locs1 hP1 hD1 hS1 => ?_)
  have := k G p l e R s m args below meth c cells slots B Q hC hQ H1 locs1 ls hlv hP1 hD1 hS1
  rw [List.map_append] at this
  cases r1 <;> exact this
/-- a private static method of the nest's host -/
theorem gr_callN {M' : MI} {idx cn : Nat} {As rest : List Value} {r1 : Option Value} {A1 : AH} (hk : LkN cn idx M') (hl : lk (mT M) pc = some (.invokestatic idx, 3)) (hc : mK M = cn) (hnw : Cond.methodLinkNest (clsN cn) idx M'.1 RX6 ∈ nwL) (hr : Rt M' d As A r1 A1) (hn : As.length = mN M') (hcat : Nat.ble (rest.map fun v => v.category).sum 8 = true) (hst : As.reverse ++ rest = S)
    (k : Gr M (d + 1) (pc + 3) L (r1.toList ++ rest) A1 r A') : Gr M (d + 1) pc L S A r A' := by
  subst hst
  subst hc
  intro G p l e R s m args below meth c cells slots B Q hC hQ H locs ls hlv hP hD hS
  obtain ⟨⟨hcode, hini, hcn, htab, hmx, hpl, hmh⟩, h1, h2⟩ := hk
  obtain ⟨⟨hx, hb, hml, hown, htb⟩, hts, hN, hK, hA, hZT, hX, hR1, hR2, hR3, hR4⟩ := id hC
  have hGI : GoodIn TB (Cond.code M'.1 M'.2.1 (mL M') M'.2.2.2.1 :: TB) := by
    refine tb_good (fun w hw => ?_)
    rcases List.mem_cons.mp hw with rfl | hw
    · exact hcode
    · exact hw
  have hrun := va_runSN (p := p) (l := l) (e := e) (R := R) (s := s) (m := m) (args := args) (below := below) (meth := meth) (c := c) (H := H) (locs := locs) (cells := cells) (slots := slots) (As := As.map (trV G)) (rest := rest.map (trV G)) (g := F0 m pc ls ((As.reverse ++ rest).map (trV G))) (Ts := TB) ⟨hx, hb, hml, hown, hts⟩ (hr l G H.size)
    ⟨va_cnB (mN M') hts hGI rfl rfl rfl (hN _ hnw) (hts _ hini) ⟨hmh.1, hmh.2.1, hmh.2.2⟩ ⟨hR1, by show 8 + (mL M' + 11) + 60 * d ≤ R.locals; have hmx2 : mL M' ≤ 31 := hmx; have := hR2; omega⟩, hts _ h2, trivial⟩
    ⟨PreU_blind G A H.size _, fun U hU hW => ⟨rfl, hC.pre hP hD hS hU hW⟩⟩ rfl (by rw [List.length_map]; exact hn) hlv.1 (by simp [List.map_append, List.map_reverse])
    (lv_room (by rw [List.map_map]; have hcat := Nat.le_of_ble_eq_true hcat; simpa [Function.comp_def, trV_cat] using hcat)) (hC.dec hl) ⟨hR3, hR4⟩
  refine callU hrun hS (BU_sub hD hA hS.1) (fun H1 locs1 hP1 hD1 hS1 => ?_)
  have := k G p l e R s m args below meth c cells slots B Q hC hQ H1 locs1 ls hlv hP1 hD1 hS1
  rw [List.map_append] at this
  cases r1 <;> exact this
end RU
