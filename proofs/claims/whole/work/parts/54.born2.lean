/-! constructors: finals, rows of references, calls, contracts -/
def pfT : List (Nat × Nat) := [(0, 0), (1, 0), (1, 1), (1, 3), (2, 0), (3, 0), (4, 0), (4, 1), (4, 2), (5, 0), (6, 0), (6, 1), (6, 2), (6, 3), (6, 4), (6, 5), (6, 6), (6, 7), (6, 8), (7, 0), (7, 3), (7, 5), (7, 7), (7, 9), (7, 10), (7, 11), (7, 12), (7, 13), (7, 14), (7, 15), (7, 16), (7, 17)]
theorem pf_ok : ∀ e ∈ pfT, ∀ q : vw_C, vwCl[e.1]? = some q → (∃ ty : FieldType, parseFieldDescriptor (q.2.1 e.2).2.2.1 = some ty ∧ ∀ b : Nat, narrow ty (.ref b) = .ref b ∧ fits ty (.ref b) = true) ∧ (q.2.1 e.2).2.2.2 = true ∧ q.1 = clsN e.1 := List.forall_mem_cons.mpr ⟨fun q h => by cases h; exact ⟨⟨tyX0 0, tyX0_ok 0 (by decide), fun b => ⟨rfl, rfl⟩⟩, rfl, rfl⟩, List.forall_mem_cons.mpr ⟨fun q h => by cases h; exact ⟨⟨tyX1 0, tyX1_ok 0 (by decide), fun b => ⟨rfl, rfl⟩⟩, rfl, rfl⟩, List.forall_mem_cons.mpr ⟨fun q h => by cases h; exact ⟨⟨tyX1 1, tyX1_ok 1 (by decide), fun b => ⟨rfl, rfl⟩⟩, rfl, rfl⟩, List.forall_mem_cons.mpr ⟨fun q h => by cases h; exact ⟨⟨tyX1 3, tyX1_ok 3 (by decide), fun b => ⟨rfl, rfl⟩⟩, rfl, rfl⟩, List.forall_mem_cons.mpr ⟨fun q h => by cases h; exact ⟨⟨tyX2 0, tyX2_ok 0 (by decide), fun b => ⟨rfl, rfl⟩⟩, rfl, rfl⟩, List.forall_mem_cons.mpr ⟨fun q h => by cases h; exact ⟨⟨tyX3 0, tyX3_ok 0 (by decide), fun b => ⟨rfl, rfl⟩⟩, rfl, rfl⟩, List.forall_mem_cons.mpr ⟨fun q h => by cases h; exact ⟨⟨tyX4 0, tyX4_ok 0 (by decide), fun b => ⟨rfl, rfl⟩⟩, rfl, rfl⟩, List.forall_mem_cons.mpr ⟨fun q h => by cases h; exact ⟨⟨tyX4 1, tyX4_ok 1 (by decide), fun b => ⟨rfl, rfl⟩⟩, rfl, rfl⟩, List.forall_mem_cons.mpr ⟨fun q h => by cases h; exact ⟨⟨tyX4 2, tyX4_ok 2 (by decide), fun b => ⟨rfl, rfl⟩⟩, rfl, rfl⟩, List.forall_mem_cons.mpr ⟨fun q h => by cases h; exact ⟨⟨tyX5 0, tyX5_ok 0 (by decide), fun b => ⟨rfl, rfl⟩⟩, rfl, rfl⟩, List.forall_mem_cons.mpr ⟨fun q h => by cases h; exact ⟨⟨tyX6 0, tyX6_ok 0 (by decide), fun b => ⟨rfl, rfl⟩⟩, rfl, rfl⟩, List.forall_mem_cons.mpr ⟨fun q h => by cases h; exact ⟨⟨tyX6 1, tyX6_ok 1 (by decide), fun b => ⟨rfl, rfl⟩⟩, rfl, rfl⟩, List.forall_mem_cons.mpr ⟨fun q h => by cases h; exact ⟨⟨tyX6 2, tyX6_ok 2 (by decide), fun b => ⟨rfl, rfl⟩⟩, rfl, rfl⟩, List.forall_mem_cons.mpr ⟨fun q h => by cases h; exact ⟨⟨tyX6 3, tyX6_ok 3 (by decide), fun b => ⟨rfl, rfl⟩⟩, rfl, rfl⟩, List.forall_mem_cons.mpr ⟨fun q h => by cases h; exact ⟨⟨tyX6 4, tyX6_ok 4 (by decide), fun b => ⟨rfl, rfl⟩⟩, rfl, rfl⟩, List.forall_mem_cons.mpr ⟨fun q h => by cases h; exact ⟨⟨tyX6 5, tyX6_ok 5 (by decide), fun b => ⟨rfl, rfl⟩⟩, rfl, rfl⟩, List.forall_mem_cons.mpr ⟨fun q h => by cases h; exact ⟨⟨tyX6 6, tyX6_ok 6 (by decide), fun b => ⟨rfl, rfl⟩⟩, rfl, rfl⟩, List.forall_mem_cons.mpr ⟨fun q h => by cases h; exact ⟨⟨tyX6 7, tyX6_ok 7 (by decide), fun b => ⟨rfl, rfl⟩⟩, rfl, rfl⟩, List.forall_mem_cons.mpr ⟨fun q h => by cases h; exact ⟨⟨tyX6 8, tyX6_ok 8 (by decide), fun b => ⟨rfl, rfl⟩⟩, rfl, rfl⟩, List.forall_mem_cons.mpr ⟨fun q h => by cases h; exact ⟨⟨tyX7 0, tyX7_ok 0 (by decide), fun b => ⟨rfl, rfl⟩⟩, rfl, rfl⟩, List.forall_mem_cons.mpr ⟨fun q h => by cases h; exact ⟨⟨tyX7 3, tyX7_ok 3 (by decide), fun b => ⟨rfl, rfl⟩⟩, rfl, rfl⟩, List.forall_mem_cons.mpr ⟨fun q h => by cases h; exact ⟨⟨tyX7 5, tyX7_ok 5 (by decide), fun b => ⟨rfl, rfl⟩⟩, rfl, rfl⟩, List.forall_mem_cons.mpr ⟨fun q h => by cases h; exact ⟨⟨tyX7 7, tyX7_ok 7 (by decide), fun b => ⟨rfl, rfl⟩⟩, rfl, rfl⟩, List.forall_mem_cons.mpr ⟨fun q h => by cases h; exact ⟨⟨tyX7 9, tyX7_ok 9 (by decide), fun b => ⟨rfl, rfl⟩⟩, rfl, rfl⟩, List.forall_mem_cons.mpr ⟨fun q h => by cases h; exact ⟨⟨tyX7 10, tyX7_ok 10 (by decide), fun b => ⟨rfl, rfl⟩⟩, rfl, rfl⟩, List.forall_mem_cons.mpr ⟨fun q h => by cases h; exact ⟨⟨tyX7 11, tyX7_ok 11 (by decide), fun b => ⟨rfl, rfl⟩⟩, rfl, rfl⟩, List.forall_mem_cons.mpr ⟨fun q h => by cases h; exact ⟨⟨tyX7 12, tyX7_ok 12 (by decide), fun b => ⟨rfl, rfl⟩⟩, rfl, rfl⟩, List.forall_mem_cons.mpr ⟨fun q h => by cases h; exact ⟨⟨tyX7 13, tyX7_ok 13 (by decide), fun b => ⟨rfl, rfl⟩⟩, rfl, rfl⟩, List.forall_mem_cons.mpr ⟨fun q h => by cases h; exact ⟨⟨tyX7 14, tyX7_ok 14 (by decide), fun b => ⟨rfl, rfl⟩⟩, rfl, rfl⟩, List.forall_mem_cons.mpr ⟨fun q h => by cases h; exact ⟨⟨tyX7 15, tyX7_ok 15 (by decide), fun b => ⟨rfl, rfl⟩⟩, rfl, rfl⟩, List.forall_mem_cons.mpr ⟨fun q h => by cases h; exact ⟨⟨tyX7 16, tyX7_ok 16 (by decide), fun b => ⟨rfl, rfl⟩⟩, rfl, rfl⟩, List.forall_mem_cons.mpr ⟨fun q h => by cases h; exact ⟨⟨tyX7 17, tyX7_ok 17 (by decide), fun b => ⟨rfl, rfl⟩⟩, rfl, rfl⟩, fun _ h => absurd h List.not_mem_nil⟩⟩⟩⟩⟩⟩⟩⟩⟩⟩⟩⟩⟩⟩⟩⟩⟩⟩⟩⟩⟩⟩⟩⟩⟩⟩⟩⟩⟩⟩⟩⟩
section RP
variable {X : CT} {G : GC} {kk cl sl : Nat} {M : MI} {d pc : Nat} {L : LV} {S : List Value} {A : AH}
theorem fr_putF {idx ci k0 a r : Nat} {fs fs' : List Value} (hl : lk (mT M) pc = some (.putfield idx, 3)) (hf : fk3 flT (mK M) idx = some (ci, k0)) (hpf : pik pfT ci k0 = true) (hin : (xM X).name = "<init>") (hci : mK M = ci) (hA : A a = .inr (ci, fs)) (ha : Nat.blt a kk = true) (hle : Nat.blt k0 fs.length = true) (hfs : fs.set k0 (.ref r) = fs') (k : Gf X G kk cl sl M d (pc + 3) L S (va_up A a (.inr (ci, fs')))) : Gf X G kk cl sl M d pc L (.ref r :: .ref a :: S) A := by
  intro hC H locs ls hlv hP hD hS
  have ha : a < kk := Nat.le_of_ble_eq_true ha
  have hle : k0 < fs.length := Nat.le_of_ble_eq_true hle
  obtain ⟨q, hq1, hq2, hq3, hq4⟩ := fl_ok _ (fk3_mem hf)
  obtain ⟨⟨ty1, hp1, hp3⟩, hp2, hp4⟩ := pf_ok _ (pik_mem hpf) q hq1
  obtain ⟨⟨ty, hty⟩, hnm⟩ := nm_all hq1
  obtain ⟨C, T, N⟩ := q
  refine va_putF (D := gD G) (ws := gWk kk G A) (own := clsN (mK M)) (ref := C) (C := C) (T := T) (N := N) (ci := ci) (fs := fs.map (trV G)) (v := .ref (gA G r)) (ty := ty1) hC.1.1 hC.1.2.1 hC.2.1 (inT_all hq1) ty hty hnm hC.1.2.2.2.1 hC.2.2.2.1 hP hD hS a (by rw [gWk_at ha, hA]; rfl) hq1 k0 hq2 (hC.2.1 _ hq3) (fun z hz => by rw [show (T k0).1 = C from hq4] at hz; exact hz) hp2 hin (by rw [hci]; exact hq4.trans hp4) hp1 (hp3 _).1 (hp3 _).2 (by rw [List.length_map]; exact hle) (hC.dec hl) (fun H1 locs1 hP1 hD1 hS1 => ?_)
  have e : (gWk kk G A).set a (gA G a, .inr (ci, (fs.map (trV G)).set k0 (.ref (gA G r)))) = gWk kk G (va_up A a (.inr (ci, fs'))) := by
    rw [← gWk_set G A _ ha, ← hfs]
    simp [trE, List.map_set, trV]
  rw [e] at hP1 hD1
  exact k hC H1 locs1 ls hlv hP1 hD1 hS1
theorem fr_aast {a v n j : Nat} {f : Nat → Option Nat} {vs : List Value} {i : Int32} (hl : lk (mT M) pc = some (.aastore, 1)) (hA : A a = Ra n f) (ha : Nat.blt a kk = true) (hv : A v = Ob 2 vs) (hvl : Nat.blt v kk = true) (hi : ix i n j) (k : Gf X G kk cl sl M d (pc + 1) L S (va_up A a (Ra n (va_up f j (some v))))) : Gf X G kk cl sl M d pc L (.ref v :: .int i :: .ref a :: S) A := by
  intro hC H locs ls hlv hP hD hS
  have ha : a < kk := Nat.le_of_ble_eq_true ha
  have hvl : v < kk := Nat.le_of_ble_eq_true hvl
  refine va_astq (D := gD G) (cl := vwCl) (ws := gWk kk G A) (tys := gTy G) (r := (RX2, TX2, 2)) (f := trR G f) hC.1.1 hC.1.2.1 hC.2.2.2.1 hP hD hS a 3 v 2 (by rw [gWk_at ha, hA]; rfl) rfl (by rw [gWk_at hvl, hv]; rfl) rfl hi.1 (hC.dec hl) (fun H1 locs1 hP1 hD1 hS1 => ?_)
  rw [hi.2] at hP1 hD1
  have e0 : trR G (va_up f j (some v)) = va_up (trR G f) j (some (gA G v)) := by
    funext x
    unfold trR va_up
    by_cases c : x = j
    · simp [c]
    · simp [c]
  have e : (gWk kk G A).set a (gA G a, .inl (gT G 3, n, .inr (.inr (.inr (.inr (va_up (trR G f) j (some (gA G v)))))))) = gWk kk G (va_up A a (Ra n (va_up f j (some v)))) := by
    rw [← gWk_set G A _ ha, ← e0]
    rfl
  rw [e] at hP1 hD1
  exact k hC H1 locs1 ls hlv hP1 hD1 hS1
end RP
def BUk (G : GC) (k sz : Nat) : Nat → Prop := fun q => (∃ j : Nat, j < k ∧ q = gA G j) ∨ sz ≤ q
theorem BUk_D {G : GC} {k : Nat} {A : AH} {sz : Nat} {B : Nat → Prop} (h : va_D B (gWk k G A)) : va_D (BUk G k sz) (gWk k G A) := by
  refine ⟨h.1, fun j q hj => ?_⟩
  have hl := gWk_lt hj
  rw [gWk_at hl] at hj
  cases hj
  exact Or.inl ⟨j, hl, rfl⟩
theorem BUk_sub {G : GC} {k : Nat} {A : AH} {sz sz0 : Nat} {B : Nat → Prop} (h : va_D B (gWk k G A)) (hB : ∀ q : Nat, sz0 ≤ q → B q) (hz : sz0 ≤ sz) : ∀ q, BUk G k sz q → B q := by
  rintro q (⟨j, hj, rfl⟩ | hq)
  · exact h.2 j _ (gWk_at hj)
  · exact hB q (Nat.le_trans hz hq)
def aoP (U : State) : Prop := va_AO "BallsInAir$Pattern" U
def PreC (G : GC) (k : Nat) (A : AH) (sz : Nat) (U : State) : Prop := U.heap.size = sz ∧ va_P (gD G) vwCl (gWk k G A) U.heap ∧ va_K (gD G) vwCl (gTy G) U ∧ va_D (fun _ => True) (gWk k G A) ∧ (∀ w ∈ nwL, va_Nw w U) ∧
  (va_Z "BallsInAir" "PLACE_VALUES" "[I" (.ref (gA G 1000)) (BUk G k sz) U U.heap ∧ va_T .int (gA G 1000) 5 pvF (BUk G k sz) U U.heap) ∧
  (va_X (gA G 1001) (gL G) (gX G) U U.heap ∧ gA G 1001 < U.heap.size ∧ ¬ BUk G k sz (gA G 1001)) ∧ aoP U
def rmC (d mc ms : Nat) : Room := { frames := d, cells := mc, slots := ms, locals := 60 * d }
def QC (G : GC) (k k' : Nat) (A' : AH) (sz : Nat) : Array Value → State → Outcome → State → Prop := va_Qv (fun a : Nat → Nat => exA G k a) (fun a t => va_P (gD G) vwCl (gWk k' (gS G a) A') t.heap ∧ va_D (BUk G k sz) (gWk k' (gS G a) A')) (BUk G k sz)
def RtC (M : MI) (d mc ms : Nat) (args : List Value) (k : Nat) (A : AH) (k' : Nat) (A' : AH) : Prop :=
  ∀ (l : Launch) (G : GC) (sz : Nat), Met l M.1 (Cond.code M.1 M.2.1 (mL M) none :: TB) (rmC d mc ms) (va_Pc (args.map (trV G)) (PreC G k A sz)) (QC G k k' A' sz) mc ms (BUk G k sz)
theorem PreC_blind (G : GC) (k : Nat) (A : AH) (sz : Nat) (av : List Value) : FrameBlind (va_Pc av (PreC G k A sz)) := by
  rintro a U g mk ⟨h0, h1, h2, h3, h4, h5, ⟨h6, h6'⟩, ⟨h7, h8, h9⟩, h10⟩
  have hv : (U.calling g mk a).vm = U.vm := rfl
  have hal : U.vm.Alike (U.calling g mk a).vm := Vm.Alike.refl U.vm
  exact ⟨h0, h1, h2, va_K.moved hal h3, h4, fun w hw => va_Nw.same (nw_onT w hw) hv.symm (h5 w hw), ⟨h6.moved hal, h6'.moved hal⟩, ⟨va_X.moved hal h7, h8, h9⟩, va_AO.moved hal h10⟩
theorem Cx.preC {G : GC} {M : MI} {d k : Nat} {p : Program} {R : Room} {s : State} {m : MethodId} {args : Array Value} {c : Code} {cells slots : Nat} {B : Nat → Prop} (h : Cx G M d p R s m args c cells slots B) (hAO : aoP s) {A : AH} {H : Heap} {locs : List Loc} (hP : va_P (gD G) vwCl (gWk k G A) H) (hD : va_D B (gWk k G A)) (hS : va_S B s.heap H locs) {U : State} (hU : U.heap = H) (hW : s.WarmedH U.vm) : PreC G k A H.size U := by
  obtain ⟨-, -, hN, hK, hA, ⟨hZ, hT⟩, ⟨hX, hbl, hbA⟩, -⟩ := h
  have hsub := BUk_sub (sz := H.size) hD hA hS.1
  refine ⟨by rw [hU], by rw [hU]; exact hP, va_K.moved hW.alike hK, hD.weaken (fun _ _ _ _ => trivial), nw_warm hW hN, ⟨?_, ?_⟩, ⟨?_, by rw [hU]; exact Nat.lt_of_lt_of_le hbl hS.1, fun z => hbA (hsub _ z)⟩, va_AO.moved hW.alike hAO⟩
  · rw [hU]; exact ((hZ.kept hS.2.1).narrow hsub).moved hW.alike
  · rw [hU]; exact ((hT.kept hS.2.1).narrow hsub).moved hW.alike
  · rw [hU]; exact (hX.kept (hS.2.1 _ hbl hbA)).moved hW.alike
theorem rtc_intro {M : MI} {d mc ms k k' : Nat} {args : List Value} {A A' : AH} {L : LV} (hM : MOK M) (hret : M.2.2.2.1 = none) (hy : M.1.name = "<init>") (hL : padL (mL M) (entL args) = L) (hn : Nat.ble (entL args).length (mL M) = true)
    (body : ∀ (X : CT) (G : GC), (xM X).name = "<init>" → aoP (xs X) → (xR X).cells = mc → (xR X).slots = ms → (∀ (a : Nat → Nat) (c1 s1 pc : Nat) (L : LV), exA G k a → c1 ≤ mc → s1 ≤ ms → lk (mT M) pc = some (.return_, 1) → Gf X (gS G a) k' c1 s1 M d pc L [] A') → Gf X G k 0 0 M d 0 L [] A) : RtC M d mc ms args k A k' A' := by
  obtain ⟨hcode, hini, hcn, htab, hmx, hpl, hmh⟩ := hM
  intro l G sz
  refine va_MetF (cc := M.2.1) (maxL := mL M) (ret := none) hpl rfl ?_
  intro p e s m args' below meth c s₁ Bd hml hv
  obtain ⟨rfl, hsz, hP, hK, hD0, hN, hZT, hX, hAO⟩ := hv
  have hts := atoms_spec (ws := Cond.code M.1 M.2.1 (mL M) none :: TB) Bd.pre
  have hown : s.vm.findClass M.1.cls = some m.cls := findClass_of_methodNamed Bd.named
  rw [hcn] at hown
  have hlocks := Bd.notSynchronized
  have hretn := Bd.returns
  have hin : meth.name = "<init>" := (name_of_methodNamed Bd.named Bd.method).1.trans hy
  have hD := BUk_D (sz := sz) hD0
  have hC : Cx G M d p (headSpec (Cond.code M.1 M.2.1 (mL M) none :: TB) (rmC d mc ms)).room s m ((args.map (trV G)).toArray) c 0 0 (BUk G k sz) :=
    ⟨⟨Bd.exec, Bd.bytes, hml, hown, htab⟩, fun w hw => hts w (List.mem_cons_of_mem _ hw), hN, hK, fun q hq => Or.inr (by rw [← hsz]; exact hq), hZT, hX, Nat.le_refl _, Nat.le_refl _, Nat.zero_le _, Nat.zero_le _⟩
  have hl := lv_entry (args.map (trV G)) (n := mL M) (by rw [entL_sl]; exact Nat.le_of_ble_eq_true hn)
  rw [lg_entry_eq]
  refine body (p, l, e, (headSpec (Cond.code M.1 M.2.1 (mL M) none :: TB) (rmC d mc ms)).room, s, m, (args.map (trV G)).toArray, below, meth, c, BUk G k sz, MQ below (QC G k k' A' sz) ((args.map (trV G)).toArray) s mc ms (BUk G k sz)) G hin hAO rfl rfl ?_ hC s.heap [] _ ⟨hl.1, hl.2.1, by rw [← hL, padL_len]; exact Nat.le_refl _, fun i v hi => ?_⟩ hP hD va_S.rf
  · intro a c1 s1 pc L ha h1 h2 hr hC1 H locs ls hlv hP1 hD1 hS1
    refine W.widen h1 h2 ?_
    exact W.vret Bd.exec Bd.bytes hretn (fun t ht hW => ⟨⟨a, rfl, ha, by rw [ht]; exact hP1, hD1⟩, hS1.F ht⟩) hS1.2.2 (hC1.dec hr) hlocks
  · rw [← hL] at hi
    have := entL_mem G (k := 0) (padL_gt hi)
    rw [Nat.zero_add] at this
    exact hl.2.2 _ this
def LkI (cn idx : Nat) (M : MI) : Prop := MOK M ∧ Cond.methodLink (clsN cn) idx M.1 ∈ TB ∧ Cond.instanceMethod M.1 ∈ TB ∧ M.1.name = "<init>" ∧ M.2.2.2.1 = none
def LkIN (cn idx : Nat) (M : MI) : Prop := MOK M ∧ Cond.methodLinkNest (clsN cn) idx M.1 RX6 ∈ nwL ∧ Cond.instanceMethod M.1 ∈ TB ∧ M.1.name = "<init>" ∧ M.2.2.2.1 = none
section RQ
variable {X : CT} {G : GC} {kk cl sl : Nat} {M : MI} {d pc : Nat} {L : LV} {S : List Value} {A : AH}
theorem fr_callI {M' : MI} {idx cn b mc ms k' : Nat} {As rest : List Value} {A1 : AH} (hk : LkI cn idx M') (hl : lk (mT M) pc = some (.invokespecial idx, 3)) (hc : mK M = cn) (hr : RtC M' d mc ms (.ref b :: As) kk A k' A1) (hn : As.length = mN M') (hcat : Nat.ble (rest.map fun v => v.category).sum 8 = true) (hst : As.reverse ++ .ref b :: rest = S) (hAO : aoP (xs X)) (hcl : cl + mc ≤ (xR X).cells) (hsl : sl + ms ≤ (xR X).slots) (sL : scL kk L) (sS : scS kk rest)
    (kont : ∀ a : Nat → Nat, exA G kk a → Gf X (gS G a) k' (cl + mc) (sl + ms) M (d + 1) (pc + 3) L rest A1) : Gf X G kk cl sl M (d + 1) pc L S A := by
  subst hst
  subst hc
  intro hC H locs ls hlv hP hD hS
  obtain ⟨⟨hcode, hini, hcn, htab, hmx, hpl, hmh⟩, h1, h2, hy, hrt⟩ := hk
  obtain ⟨⟨hx, hb, hml, hown, htb⟩, hts, hN, hK, hA, hZT, hX, hR1, hR2, hR3, hR4⟩ := id hC
  rw [hrt] at hcode
  have hGI : GoodIn TB (Cond.code M'.1 M'.2.1 (mL M') none :: TB) := by
    refine tb_good (fun w hw => ?_)
    rcases List.mem_cons.mp hw with rfl | hw
    · exact hcode
    · exact hw
  have hrun := va_runI (p := xp X) (l := xl X) (e := xe X) (R := xR X) (s := xs X) (m := xm X) (args := xa X) (below := xb X) (meth := xM X) (c := xc X) (H := H) (locs := locs) (cells := cl) (slots := sl) (As := As.map (trV G)) (rest := rest.map (trV G)) (b := gA G b) (g := F0 (xm X) pc ls ((As.reverse ++ .ref b :: rest).map (trV G))) (Ts := TB) ⟨hx, hb, hml, hown, hts⟩ (hr (xl X) G H.size)
    (cwI (mN M') hts hGI rfl rfl rfl (hts _ hini) (hts _ h1) (hts _ h2) hy ⟨hmh.1, hmh.2.1, hmh.2.2⟩ ⟨hR1, by show 8 + (mL M' + 11) + 60 * d ≤ (xR X).locals; have hmx2 : mL M' ≤ 31 := hmx; have := hR2; omega⟩)
    ⟨PreC_blind G kk A H.size _, fun U hU hW => ⟨rfl, hC.preC hAO hP hD hS hU hW⟩⟩ rfl (by rw [List.length_map]; exact hn) hlv.1 (by simp [List.map_append, List.map_reverse, trV])
    (lv_room (by rw [List.map_map]; have hcat := Nat.le_of_ble_eq_true hcat; simpa [Function.comp_def, trV_cat] using hcat)) (hC.dec hl) ⟨hcl, hsl⟩
  have hsub := BUk_sub (sz := H.size) hD hA hS.1
  refine va_callv hrun hS (fun q _ h => hsub q h) hsub (fun a t H1 locs1 ht hvm hpost hB hz hk1 hS1 => ?_)
  have h9 := kont a hpost (Cx_ex hpost hC hcl hsl) H1 locs1 ls (lvOK_ex hpost sL hlv) (by rw [← ht]; exact hB.1) (hB.2.weaken (fun _ q _ h => hsub q.1 h)) hS1
  rw [trS_ex hpost sS] at h9
  exact h9
theorem fr_callIN {M' : MI} {idx cn b mc ms k' : Nat} {As rest : List Value} {A1 : AH} (hk : LkIN cn idx M') (hl : lk (mT M) pc = some (.invokespecial idx, 3)) (hc : mK M = cn) (hr : RtC M' d mc ms (.ref b :: As) kk A k' A1) (hn : As.length = mN M') (hcat : Nat.ble (rest.map fun v => v.category).sum 8 = true) (hst : As.reverse ++ .ref b :: rest = S) (hAO : aoP (xs X)) (hcl : cl + mc ≤ (xR X).cells) (hsl : sl + ms ≤ (xR X).slots) (sL : scL kk L) (sS : scS kk rest)
    (kont : ∀ a : Nat → Nat, exA G kk a → Gf X (gS G a) k' (cl + mc) (sl + ms) M (d + 1) (pc + 3) L rest A1) : Gf X G kk cl sl M (d + 1) pc L S A := by
  subst hst
  subst hc
  intro hC H locs ls hlv hP hD hS
  obtain ⟨⟨hcode, hini, hcn, htab, hmx, hpl, hmh⟩, h1, h2, hy, hrt⟩ := hk
  obtain ⟨⟨hx, hb, hml, hown, htb⟩, hts, hN, hK, hA, hZT, hX, hR1, hR2, hR3, hR4⟩ := id hC
  rw [hrt] at hcode
  have hGI : GoodIn TB (Cond.code M'.1 M'.2.1 (mL M') none :: TB) := by
    refine tb_good (fun w hw => ?_)
    rcases List.mem_cons.mp hw with rfl | hw
    · exact hcode
    · exact hw
  have hrun := va_runIN (p := xp X) (l := xl X) (e := xe X) (R := xR X) (s := xs X) (m := xm X) (args := xa X) (below := xb X) (meth := xM X) (c := xc X) (H := H) (locs := locs) (cells := cl) (slots := sl) (As := As.map (trV G)) (rest := rest.map (trV G)) (b := gA G b) (g := F0 (xm X) pc ls ((As.reverse ++ .ref b :: rest).map (trV G))) (Ts := TB) ⟨hx, hb, hml, hown, hts⟩ (hr (xl X) G H.size)
    ⟨va_cnB (mN M') hts hGI rfl rfl rfl (hN _ h1) (hts _ hini) ⟨hmh.1, hmh.2.1, hmh.2.2⟩ ⟨hR1, by show 8 + (mL M' + 11) + 60 * d ≤ (xR X).locals; have hmx2 : mL M' ≤ 31 := hmx; have := hR2; omega⟩, hy, hts _ h2⟩
    ⟨PreC_blind G kk A H.size _, fun U hU hW => ⟨rfl, hC.preC hAO hP hD hS hU hW⟩⟩ rfl (by rw [List.length_map]; exact hn) hlv.1 (by simp [List.map_append, List.map_reverse, trV])
    (lv_room (by rw [List.map_map]; have hcat := Nat.le_of_ble_eq_true hcat; simpa [Function.comp_def, trV_cat] using hcat)) (hC.dec hl) ⟨hcl, hsl⟩
  have hsub := BUk_sub (sz := H.size) hD hA hS.1
  refine va_callv hrun hS (fun q _ h => hsub q h) hsub (fun a t H1 locs1 ht hvm hpost hB hz hk1 hS1 => ?_)
  have h9 := kont a hpost (Cx_ex hpost hC hcl hsl) H1 locs1 ls (lvOK_ex hpost sL hlv) (by rw [← ht]; exact hB.1) (hB.2.weaken (fun _ q _ h => hsub q.1 h)) hS1
  rw [trS_ex hpost sS] at h9
  exact h9
theorem fr_callV {M' : MI} {idx cn a ci : Nat} {fs As rest : List Value} {r1 : Option Value} {A1 : AH} (hk : LkV cn idx M') (hl : lk (mT M) pc = some (.invokevirtual idx, 3)) (hc : mK M = cn) (hr : Rt M' d (.ref a :: As) A r1 A1) (hcell : A a = .inr (ci, fs)) (ha : a < NC) (hci : mK M' = ci) (hci8 : Nat.blt ci 8 = true) (hn : As.length = mN M') (hcat : Nat.ble (rest.map fun v => v.category).sum 8 = true) (hst : As.reverse ++ .ref a :: rest = S)
    (k : Gf X G NC cl sl M (d + 1) (pc + 3) L (r1.toList ++ rest) A1) : Gf X G NC cl sl M (d + 1) pc L S A := by
  subst hst
  subst hc
  intro hC H locs ls hlv hP hD hS
  obtain ⟨⟨hcode, hini, hcn, htab, hmx, hpl, hmh⟩, h1, h2, h3⟩ := hk
  obtain ⟨⟨hx, hb, hml, hown, htb⟩, hts, hN, hK, hA, hZT, hX, hR1, hR2, hR3, hR4⟩ := id hC
  have hq : ∃ q : vw_C, vwCl[ci]? = some q ∧ q.1 = M'.1.cls := by
    rw [hcn, show M'.2.2.2.2.1 = ci from hci]
    have hlt : ci < 8 := Nat.le_of_ble_eq_true hci8
    match ci, hlt with
    | 0, _ => exact ⟨_, rfl, rfl⟩
    | 1, _ => exact ⟨_, rfl, rfl⟩
    | 2, _ => exact ⟨_, rfl, rfl⟩
    | 3, _ => exact ⟨_, rfl, rfl⟩
    | 4, _ => exact ⟨_, rfl, rfl⟩
    | 5, _ => exact ⟨_, rfl, rfl⟩
    | 6, _ => exact ⟨_, rfl, rfl⟩
    | 7, _ => exact ⟨_, rfl, rfl⟩
    | n + 8, hlt => omega
  obtain ⟨q, hq1, hq2⟩ := hq
  have hrecv : ∃ cell : Cell, H[gA G a]? = some cell ∧ cell.vm.isStatics = false ∧ (xs X).vm.findClass M'.1.cls = some cell.cls := by
    have h9 := va_recv hK hP hq1 (q0 := a) (a := gA G a) (fs := fs.map (trV G)) (by rw [gWk_at (show a < NC from ha), hcell]; rfl)
    rw [hq2] at h9
    exact h9
  have hGI : GoodIn TB (wsV (clsN (mK M)) idx M'.1.cls M'.1 (Cond.code M'.1 M'.2.1 (mL M') M'.2.2.2.1 :: TB)) := by
    refine tb_good (fun w hw => ?_)
    simp only [wsV, List.cons_append, List.nil_append, List.mem_cons] at hw
    rcases hw with rfl | rfl | rfl | rfl | rfl | hw
    · exact h1
    · exact h2
    · exact h3
    · exact hini
    · exact hcode
    · exact hw
  have hrun := va_runV (p := xp X) (l := xl X) (e := xe X) (R := xR X) (s := xs X) (m := xm X) (args := xa X) (below := xb X) (meth := xM X) (c := xc X) (H := H) (locs := locs) (cells := cl) (slots := sl) (As := As.map (trV G)) (rest := rest.map (trV G)) (b := gA G a) (g := F0 (xm X) pc ls ((As.reverse ++ .ref a :: rest).map (trV G))) (Ts := TB) ⟨hx, hb, hml, hown, hts⟩ (hr (xl X) G H.size)
    (cwV (C := M'.1.cls) (mN M') hts hGI rfl rfl rfl ⟨rfl, hmh.1, hmh.2.1, hmh.2.2⟩ ⟨hR1, by show 8 + (mL M' + 11) + 60 * d ≤ (xR X).locals; have hmx2 : mL M' ≤ 31 := hmx; have := hR2; omega⟩)
    ⟨PreU_blind G A H.size _, hrecv, fun U hU hW => ⟨rfl, hC.pre hP hD hS hU hW⟩⟩ rfl (by rw [List.length_map]; exact hn) hlv.1 (by simp [List.map_append, List.map_reverse, trV])
    (lv_room (by rw [List.map_map]; have hcat := Nat.le_of_ble_eq_true hcat; simpa [Function.comp_def, trV_cat] using hcat)) (hC.dec hl) ⟨hR3, hR4⟩
  refine callU hrun hS (BU_sub hD hA hS.1) (fun H1 locs1 hP1 hD1 hS1 => ?_)
  have := k hC H1 locs1 ls hlv hP1 hD1 hS1
  rw [List.map_append] at this
  cases r1 <;> exact this
end RQ
theorem scR {k r : Nat} (h : r < k) : scV k (.ref r) := Or.inl h
theorem lkI_8_9 : LkI 8 9 mX6_init := ⟨kX6_init, wl_8_9, wm_6, rfl, rfl⟩
theorem lkI_6_18 : LkI 6 18 mX2_init := ⟨kX2_init, wl_6_18, wm_2, rfl, rfl⟩
theorem lkI_6_31 : LkI 6 31 mX3_init := ⟨kX3_init, wl_6_31, wm_3, rfl, rfl⟩
theorem lkI_3_28 : LkI 3 28 mX2_init := ⟨kX2_init, wl_3_28, wm_2, rfl, rfl⟩
theorem lkI_8_12 : LkI 8 12 mX7_init := ⟨kX7_init, wl_8_12, wm_7, rfl, rfl⟩
theorem lkI_6_9 : LkIN 6 9 mX5_init := ⟨kX5_init, List.mem_of_getElem? (i := 0) rfl, wm_5, rfl, rfl⟩
theorem lkI_6_43 : LkIN 6 43 mX0_init := ⟨kX0_init, List.mem_of_getElem? (i := 1) rfl, wm_0, rfl, rfl⟩
theorem lkI_6_50 : LkIN 6 50 mX1_init := ⟨kX1_init, List.mem_of_getElem? (i := 2) rfl, wm_1, rfl, rfl⟩
theorem lkI_6_57 : LkIN 6 57 mX4_init := ⟨kX4_init, List.mem_of_getElem? (i := 3) rfl, wm_4, rfl, rfl⟩
