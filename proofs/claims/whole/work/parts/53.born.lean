/-! rules for making cells -/
def gS (G : GC) (a : Nat → Nat) : GC := (G.1, G.2.1, G.2.2.1, a, G.2.2.2.2.1, G.2.2.2.2.2)
def exA (G : GC) (k : Nat) (a : Nat → Nat) : Prop := ∀ j, j < k ∨ 1000 ≤ j → a j = gA G j
theorem exA.rf {G : GC} {k : Nat} : exA G k (gA G) := fun _ _ => rfl
theorem exA.tr {G : GC} {k k' : Nat} {a b : Nat → Nat} (h : exA G k a) (h2 : exA (gS G a) k' b) (hk : k ≤ k') : exA G k b := fun j hj => (h2 j (by omega)).trans (h j hj)
def scV (k : Nat) : Value → Prop
  | .ref r => r < k ∨ 1000 ≤ r
  | _ => True
def scS (k : Nat) : List Value → Prop
  | [] => True
  | v :: t => scV k v ∧ scS k t
def scL (k : Nat) : LV → Prop
  | [] => True
  | none :: t => scL k t
  | some v :: t => scV k v ∧ scL k t
def scE (k : Nat) : va_E → Prop
  | .inr (_, fs) => scS k fs
  | .inl (_, _, .inr (.inr (.inr (.inr f)))) => ∀ i r, f i = some r → r < k ∨ 1000 ≤ r
  | .inl (_, _, .inl _) => True
  | .inl (_, _, .inr (.inl _)) => True
  | .inl (_, _, .inr (.inr (.inl _))) => True
  | .inl (_, _, .inr (.inr (.inr (.inl _)))) => True
def scA (k : Nat) (A : AH) : Prop := ∀ j, j < k → scE k (A j)
theorem scV.m {k k' : Nat} {v : Value} (h : scV k v) (hk : k ≤ k') : scV k' v := by
  cases v with
  | ref r => exact Or.elim h (fun z => Or.inl (Nat.lt_of_lt_of_le z hk)) Or.inr
  | _ => trivial
theorem scS.m {k k' : Nat} (hk : k ≤ k') : ∀ {S : List Value}, scS k S → scS k' S
  | [], _ => trivial
  | _ :: _, h => ⟨h.1.m hk, scS.m hk h.2⟩
theorem scE.m {k k' : Nat} {c : va_E} (h : scE k c) (hk : k ≤ k') : scE k' c := by
  match c, h with
  | .inr (_, fs), h => exact scS.m hk h
  | .inl (_, _, .inr (.inr (.inr (.inr f)))), h => exact fun i r e => by have := h i r e; omega
  | .inl (_, _, .inl _), _ => trivial
  | .inl (_, _, .inr (.inl _)), _ => trivial
  | .inl (_, _, .inr (.inr (.inl _))), _ => trivial
  | .inl (_, _, .inr (.inr (.inr (.inl _)))), _ => trivial
theorem scA.push {k : Nat} {A : AH} {c : va_E} (h : scA k A) (hc : scE (k + 1) c) : scA (k + 1) (va_up A k c) := by
  intro j hj
  by_cases e : j = k
  · subst e; rw [up_s]; exact hc
  · rw [up_o e]; exact (h j (by omega)).m (by omega)
theorem scA.up {k a : Nat} {A : AH} {c : va_E} (h : scA k A) (hc : scE k c) : scA k (va_up A a c) := by
  intro j hj
  by_cases e : j = a
  · subst e; rw [up_s]; exact hc
  · rw [up_o e]; exact h j hj
theorem trV_ex {G : GC} {k : Nat} {a : Nat → Nat} (h : exA G k a) {v : Value} (hv : scV k v) : trV (gS G a) v = trV G v := by
  cases v with
  | ref r => exact congrArg Value.ref (h r hv)
  | _ => rfl
theorem trS_ex {G : GC} {k : Nat} {a : Nat → Nat} (h : exA G k a) : ∀ {S : List Value}, scS k S → S.map (trV (gS G a)) = S.map (trV G)
  | [], _ => rfl
  | v :: t, hs => by rw [List.map_cons, List.map_cons, trV_ex h hs.1, trS_ex h hs.2]
theorem trE_ex {G : GC} {k : Nat} {a : Nat → Nat} (h : exA G k a) {c : va_E} (hc : scE k c) : trE (gS G a) c = trE G c := by
  match c, hc with
  | .inr (ci, fs), hc => exact congrArg (fun l => (Sum.inr (ci, l) : va_E)) (trS_ex h hc)
  | .inl (t, n, .inr (.inr (.inr (.inr f)))), hc =>
    have e : trR (gS G a) f = trR G f := by
      funext i
      unfold trR
      cases hf : f i with
      | none => rfl
      | some r => exact congrArg some (h r (hc i r hf))
    show (Sum.inl (gT G t, n, .inr (.inr (.inr (.inr (trR (gS G a) f))))) : va_E) = _
    rw [e]
    rfl
  | .inl (_, _, .inl _), _ => rfl
  | .inl (_, _, .inr (.inl _)), _ => rfl
  | .inl (_, _, .inr (.inr (.inl _))), _ => rfl
  | .inl (_, _, .inr (.inr (.inr (.inl _)))), _ => rfl
theorem gWk_ex {G : GC} {k : Nat} {a : Nat → Nat} {A : AH} (h : exA G k a) (hA : scA k A) : gWk k (gS G a) A = gWk k G A := by
  unfold gWk
  refine List.map_congr_left (fun j hj => ?_)
  have hj := List.mem_range.mp hj
  rw [trE_ex h (hA j hj)]
  exact congrArg (fun x => (x, trE G (A j))) (h j (Or.inl hj))
theorem gWk_push {G : GC} {k : Nat} {a : Nat → Nat} {A : AH} {c : va_E} (h : exA G k a) (hA : scA k A) (hc : scE k c) : gWk (k + 1) (gS G a) (va_up A k c) = gWk k G A ++ [(a k, trE G c)] := by
  have e : gWk (k + 1) (gS G a) (va_up A k c) = gWk k (gS G a) (va_up A k c) ++ [(a k, trE (gS G a) (va_up A k c k))] := by
    unfold gWk
    rw [List.range_succ, List.map_append]
    rfl
  rw [e, up_s, trE_ex h hc, gWk_ex h (hA.up hc)]
  refine congrArg (fun l => l ++ [(a k, trE G c)]) ?_
  unfold gWk
  refine List.map_congr_left (fun j hj => ?_)
  have hj := List.mem_range.mp hj
  rw [up_o (by omega)]
theorem gtL_sc {k : Nat} : ∀ {L : LV} {i : Nat} {v : Value}, scL k L → gtL L i = some v → scV k v
  | [], i, v, _, h => by simp [gtL] at h
  | none :: t, 0, v, _, h => by simp [gtL] at h
  | none :: t, i + 1, v, hs, h => gtL_sc (L := t) hs (by simpa [gtL] using h)
  | some w :: t, 0, v, hs, h => by
    simp only [gtL, Option.some.injEq] at h
    rw [← h]; exact hs.1
  | some w :: t, i + 1, v, hs, h => gtL_sc (L := t) hs.2 (by simpa [gtL] using h)
theorem lvOK_ex {G : GC} {k n : Nat} {a : Nat → Nat} {ls : Array Slot} {L : LV} (h : exA G k a) (hs : scL k L) (hl : lvOK G ls n L) : lvOK (gS G a) ls n L :=
  ⟨hl.1, hl.2.1, hl.2.2.1, fun i v hi => by rw [trV_ex h (gtL_sc hs hi)]; exact hl.2.2.2 i v hi⟩
theorem Cx_ex {G : GC} {M : MI} {d k : Nat} {p : Program} {R : Room} {s : State} {m : MethodId} {args : Array Value} {c : Code} {cells slots cells' slots' : Nat} {B : Nat → Prop} {a : Nat → Nat} (h : exA G k a) (hC : Cx G M d p R s m args c cells slots B) (h1 : cells' ≤ R.cells) (h2 : slots' ≤ R.slots) : Cx (gS G a) M d p R s m args c cells' slots' B := by
  obtain ⟨c1, c2, c3, c4, c5, ⟨c6, c6'⟩, ⟨c7, c8, c9⟩, c10⟩ := hC
  have e0 : gA (gS G a) 1000 = gA G 1000 := h 1000 (by omega)
  have e1 : gA (gS G a) 1001 = gA G 1001 := h 1001 (by omega)
  refine ⟨c1, c2, c3, c4, c5, ⟨by rw [e0]; exact c6, by rw [e0]; exact c6'⟩, ⟨by rw [e1]; exact c7, by rw [e1]; exact c8, by rw [e1]; exact c9⟩, c10.1, c10.2.1, h1, h2⟩
theorem Cx_w {G : GC} {M : MI} {d : Nat} {p : Program} {R : Room} {s : State} {m : MethodId} {args : Array Value} {c : Code} {cells slots cells' slots' : Nat} {B : Nat → Prop} (hC : Cx G M d p R s m args c cells slots B) (h1 : cells' ≤ R.cells) (h2 : slots' ≤ R.slots) : Cx G M d p R s m args c cells' slots' B :=
  ⟨hC.1, hC.2.1, hC.2.2.1, hC.2.2.2.1, hC.2.2.2.2.1, hC.2.2.2.2.2.1, hC.2.2.2.2.2.2.1, hC.2.2.2.2.2.2.2.1, hC.2.2.2.2.2.2.2.2.1, h1, h2⟩
section RN
variable {X : CT} {G : GC} {kk cl sl : Nat} {M : MI} {d pc : Nat} {L : LV} {S : List Value} {A : AH}
theorem fr_slen (hl : lk (mT M) pc = some (.arraylength, 1)) (k : Gf X G kk cl sl M d (pc + 1) L (.int (iI ((gL G : Nat) : Int)) :: S) A) : Gf X G kk cl sl M d pc L (.ref 1001 :: S) A := by
  intro hC H locs ls hlv hP hD hS
  obtain ⟨hX, hbl, hbA⟩ := hC.2.2.2.2.2.2.1
  have h1 := k hC H locs ls hlv hP hD hS
  refine va_slen hC.1.1 hC.1.2.1 hX hbl hbA hS (hC.dec hl) ?_
  rw [show Int32.ofNat (gL G) = iI ((gL G : Nat) : Int) from (iI_nI _).symm]
  exact h1
theorem fr_sld {i : Int32} {j : Nat} (hl : lk (mT M) pc = some (.iaload, 1)) (hi : ix i (gL G) j) (k : Gf X G kk cl sl M d (pc + 1) L (.int (gX G j) :: S) A) : Gf X G kk cl sl M d pc L (.int i :: .ref 1001 :: S) A := by
  intro hC H locs ls hlv hP hD hS
  obtain ⟨hX, hbl, hbA⟩ := hC.2.2.2.2.2.2.1
  have h1 := k hC H locs ls hlv hP hD hS
  refine va_sld hC.1.1 hC.1.2.1 hX hbl hbA hS hi.1 (hC.dec hl) ?_
  rw [hi.2]
  exact h1
/-- a new cell -/
theorem fr_made {c : va_E} {N : Nat} {pc' : Nat} (hk : kk < 1000) (sL : scL kk L) (sS : scS kk S) (sA : scA kk A) (sc : scE kk c) (hC : Cx G M d (xp X) (xR X) (xs X) (xm X) (xa X) (xc X) cl sl (xB X)) (hcl : cl + 1 ≤ (xR X).cells) (hsl : sl + N ≤ (xR X).slots)
    (kont : ∀ a : Nat → Nat, exA G kk a → Gf X (gS G a) (kk + 1) (cl + 1) (sl + N) M d pc' L (.ref kk :: S) (va_up A kk c)) {q : Nat} {H1 : Heap} {locs : List Loc} {ls : Array Slot} (hlv : lvOK G ls (mL M) L) (hP : va_P (gD G) vwCl (gWk kk G A ++ [(q, trE G c)]) H1) (hD : va_D (xB X) (gWk kk G A ++ [(q, trE G c)])) (hS : va_S (xB X) (xs X).heap H1 locs) :
    W (xp X) (xl X) (xe X) (xR X) (xs X) (xm X) (xa X) (xb X) (xM X) (xc X) H1 locs (cl + 1) (sl + N) (xQ X) (F0 (xm X) pc' ls (.ref q :: S.map (trV G))) := by
  obtain ⟨a, ha⟩ : ∃ a : Nat → Nat, a = fun j => if j = kk then q else gA G j := ⟨_, rfl⟩
  have hx : exA G kk a := fun j hj => by rw [ha]; exact if_neg (by omega)
  have hak : a kk = q := by rw [ha]; exact if_pos rfl
  have e := gWk_push hx sA sc
  rw [hak] at e
  have h1 := kont a hx (Cx_ex hx hC hcl hsl) H1 locs ls (lvOK_ex hx sL hlv) (by rw [e]; exact hP) (by rw [e]; exact hD) hS
  rw [List.map_cons, trS_ex hx sS] at h1
  have e2 : trV (gS G a) (.ref kk) = .ref q := congrArg Value.ref hak
  rw [e2] at h1
  exact h1
def dfF (ci : Nat) : List Value := match ci with
  | 0 => [.null, .int 0, .int 0]
  | 1 => [.null, .null, .int 0, .null]
  | 2 => [.null, .int 0]
  | 3 => [.null, .int 0, .int 0]
  | 4 => [.null, .null, .null, .int 0]
  | 5 => [.null, .int 0]
  | 6 => [.null, .null, .null, .null, .null, .null, .null, .null, .null]
  | _ => [.null, .int 0, .int 0, .null, .int 0, .null, .int 0, .null, .int 0, .null, .null, .null, .null, .null, .null, .null, .null, .null]
theorem df_sc {ci k : Nat} : scE k (Ob ci (dfF ci)) := by
  match ci with
  | 0 => simp [scE, dfF, scS, scV]
  | 1 => simp [scE, dfF, scS, scV]
  | 2 => simp [scE, dfF, scS, scV]
  | 3 => simp [scE, dfF, scS, scV]
  | 4 => simp [scE, dfF, scS, scV]
  | 5 => simp [scE, dfF, scS, scV]
  | 6 => simp [scE, dfF, scS, scV]
  | n + 7 => simp [scE, dfF, scS, scV]
theorem df_tr {G : GC} {ci : Nat} : trE G (Ob ci (dfF ci)) = .inr (ci, dfF ci) := by
  match ci with
  | 0 => rfl
  | 1 => rfl
  | 2 => rfl
  | 3 => rfl
  | 4 => rfl
  | 5 => rfl
  | 6 => rfl
  | n + 7 => rfl
theorem all_lt {P : Nat → Prop} (N : Nat) (h : ∀ j : Fin N, P j.val) : ∀ j, j < N → P j := fun j hj => h ⟨j, hj⟩
theorem df_ok {ci : Nat} {q : vw_C} (h : vwCl[ci]? = some q) : ∃ ty : Nat → FieldType, (∀ k, k < q.2.2 → parseFieldDescriptor (q.2.1 k).2.2.1 = some (ty k)) ∧ ∀ j, j < q.2.2 → defaultValue (ty j) = vp_V (dfF ci) j := by
  match ci, h with
  | 0, h => cases h; exact ⟨tyX0, tyX0_ok, fun j hj => by match j, hj with | 0, _ => rfl | 1, _ => rfl | 2, _ => rfl⟩
  | 1, h => cases h; exact ⟨tyX1, tyX1_ok, fun j hj => by match j, hj with | 0, _ => rfl | 1, _ => rfl | 2, _ => rfl | 3, _ => rfl⟩
  | 2, h => cases h; exact ⟨tyX2, tyX2_ok, fun j hj => by match j, hj with | 0, _ => rfl | 1, _ => rfl⟩
  | 3, h => cases h; exact ⟨tyX3, tyX3_ok, fun j hj => by match j, hj with | 0, _ => rfl | 1, _ => rfl | 2, _ => rfl⟩
  | 4, h => cases h; exact ⟨tyX4, tyX4_ok, fun j hj => by match j, hj with | 0, _ => rfl | 1, _ => rfl | 2, _ => rfl | 3, _ => rfl⟩
  | 5, h => cases h; exact ⟨tyX5, tyX5_ok, fun j hj => by match j, hj with | 0, _ => rfl | 1, _ => rfl⟩
  | 6, h => cases h; exact ⟨tyX6, tyX6_ok, fun j hj => by match j, hj with | 0, _ => rfl | 1, _ => rfl | 2, _ => rfl | 3, _ => rfl | 4, _ => rfl | 5, _ => rfl | 6, _ => rfl | 7, _ => rfl | 8, _ => rfl⟩
  | 7, h => cases h; exact ⟨tyX7, tyX7_ok, fun j hj => by match j, hj with | 0, _ => rfl | 1, _ => rfl | 2, _ => rfl | 3, _ => rfl | 4, _ => rfl | 5, _ => rfl | 6, _ => rfl | 7, _ => rfl | 8, _ => rfl | 9, _ => rfl | 10, _ => rfl | 11, _ => rfl | 12, _ => rfl | 13, _ => rfl | 14, _ => rfl | 15, _ => rfl | 16, _ => rfl | 17, _ => rfl | n + 18, hj => exact absurd (show n + 18 < 18 from hj) (by omega)⟩
  | k + 8, h => simp [vwCl] at h
theorem fr_new {idx ci N : Nat} {C : String} {T : u_T} (hl : lk (mT M) pc = some (.new idx, 3)) (hq : vwCl[ci]? = some (C, T, N)) (hw : Cond.classLink (clsN (mK M)) idx C ∈ TB) (hi : Cond.instantiable C N ∈ TB) (hn : Cond.initialized C ∈ TB) (hcl : cl + 1 ≤ (xR X).cells) (hsl : sl + N ≤ (xR X).slots) (hk : kk < 1000) (sL : scL kk L) (sS : scS kk S) (sA : scA kk A)
    (kont : ∀ a : Nat → Nat, exA G kk a → Gf X (gS G a) (kk + 1) (cl + 1) (sl + N) M d (pc + 3) L (.ref kk :: S) (va_up A kk (Ob ci (dfF ci)))) : Gf X G kk cl sl M d pc L S A := by
  intro hC H locs ls hlv hP hD hS
  obtain ⟨ty, ht1, ht2⟩ := df_ok hq
  refine va_new (ci := ci) (fs := dfF ci) (C := C) (T := T) (N := N) (own := clsN (mK M)) hC.1.1 hC.1.2.1 hC.2.1 (inT_all hq) ty ht1 hC.1.2.2.2.1 (hC.2.1 _ hw) (hC.2.1 _ hi) (hC.2.1 _ hn) hC.2.2.2.1 hP hD hS hC.2.2.2.2.1 hq ht2 hcl hsl (hC.dec hl) (fun q H1 hP1 hD1 hS1 => ?_)
  rw [← df_tr (G := G)] at hP1 hD1
  exact fr_made hk sL sS sA df_sc hC hcl hsl kont hlv hP1 hD1 hS1
theorem nn_iI {n : Nat} (hn : n ≤ 1000000) : ¬ iI (n : Int) < 0 ∧ (iI (n : Int)).toNatClampNeg = n := by
  constructor
  · rw [iI_0, iI_lt (by omega) (by omega)]; omega
  · have h := iI_toInt (z := (n : Int)) (by omega)
    show (iI (n : Int)).toInt.toNat = n
    rw [h, Int.toNat_natCast]
theorem fr_newI {n : Nat} (hl : lk (mT M) pc = some (.newarray .int, 2)) (hn : n ≤ 1000000) (hcl : cl + 1 ≤ (xR X).cells) (hsl : sl + n ≤ (xR X).slots) (hk : kk < 1000) (sL : scL kk L) (sS : scS kk S) (sA : scA kk A)
    (kont : ∀ a : Nat → Nat, exA G kk a → Gf X (gS G a) (kk + 1) (cl + 1) (sl + n) M d (pc + 2) L (.ref kk :: S) (va_up A kk (Ia n (fun _ => iI 0)))) : Gf X G kk cl sl M d pc L (.int (iI (n : Int)) :: S) A := by
  intro hC H locs ls hlv hP hD hS
  obtain ⟨n1, n2⟩ := nn_iI hn
  refine va_newa (atype := .int) (ty := .int) (a0 := (n, .inl (fun _ => iI 0))) (N' := n) hC.1.1 hC.1.2.1 (hC.2.1 _ wa_int) rfl hC.2.2.2.1 hP hD hS hC.2.2.2.2.1 (fun cA => rfl) n1 n2 (by show n * 4 ≤ 536870912; omega) hcl hsl (hC.dec hl) (fun q cA H1 hK1 hP1 hD1 hS1 => ?_)
  have e1 : va_RA (xs X) cA .int := (hK1.2 4 _ rfl).2
  have e2 : va_RA (xs X) (gT G 0) .int := (hC.2.2.2.1.2 0 _ rfl).2
  have e3 : cA = gT G 0 := Option.some.inj ((show (xs X).vm.findClass ("[" ++ FieldType.int.toString) = some cA from e1).symm.trans e2)
  subst e3
  exact fr_made (c := Ia n (fun _ => iI 0)) hk sL sS sA trivial hC hcl hsl kont hlv hP1 hD1 hS1
theorem fr_newL {n : Nat} (hl : lk (mT M) pc = some (.newarray .long, 2)) (hn : n ≤ 1000000) (hcl : cl + 1 ≤ (xR X).cells) (hsl : sl + n ≤ (xR X).slots) (hk : kk < 1000) (sL : scL kk L) (sS : scS kk S) (sA : scA kk A)
    (kont : ∀ a : Nat → Nat, exA G kk a → Gf X (gS G a) (kk + 1) (cl + 1) (sl + n) M d (pc + 2) L (.ref kk :: S) (va_up A kk (La n (fun _ => 0)))) : Gf X G kk cl sl M d pc L (.int (iI (n : Int)) :: S) A := by
  intro hC H locs ls hlv hP hD hS
  obtain ⟨n1, n2⟩ := nn_iI hn
  refine va_newa (atype := .long) (ty := .long) (a0 := (n, .inr (.inl (fun _ => 0)))) (N' := n) hC.1.1 hC.1.2.1 (hC.2.1 _ wa_long) rfl hC.2.2.2.1 hP hD hS hC.2.2.2.2.1 (fun cA => rfl) n1 n2 (by show n * 8 ≤ 536870912; omega) hcl hsl (hC.dec hl) (fun q cA H1 hK1 hP1 hD1 hS1 => ?_)
  have e1 : va_RA (xs X) cA .long := (hK1.2 4 _ rfl).2
  have e2 : va_RA (xs X) (gT G 1) .long := (hC.2.2.2.1.2 1 _ rfl).2
  have e3 : cA = gT G 1 := Option.some.inj ((show (xs X).vm.findClass ("[" ++ FieldType.long.toString) = some cA from e1).symm.trans e2)
  subst e3
  exact fr_made (c := La n (fun _ => 0)) hk sL sS sA trivial hC hcl hsl kont hlv hP1 hD1 hS1
theorem fr_newZ {n : Nat} (hl : lk (mT M) pc = some (.newarray .boolean, 2)) (hn : n ≤ 1000000) (hcl : cl + 1 ≤ (xR X).cells) (hsl : sl + n ≤ (xR X).slots) (hk : kk < 1000) (sL : scL kk L) (sS : scS kk S) (sA : scA kk A)
    (kont : ∀ a : Nat → Nat, exA G kk a → Gf X (gS G a) (kk + 1) (cl + 1) (sl + n) M d (pc + 2) L (.ref kk :: S) (va_up A kk (Za n (fun _ => iI 0)))) : Gf X G kk cl sl M d pc L (.int (iI (n : Int)) :: S) A := by
  intro hC H locs ls hlv hP hD hS
  obtain ⟨n1, n2⟩ := nn_iI hn
  refine va_newa (atype := .boolean) (ty := .boolean) (a0 := (n, .inl (fun _ => iI 0))) (N' := n) hC.1.1 hC.1.2.1 (hC.2.1 _ wa_boolean) rfl hC.2.2.2.1 hP hD hS hC.2.2.2.2.1 (fun cA => rfl) n1 n2 (by show n * 1 ≤ 536870912; omega) hcl hsl (hC.dec hl) (fun q cA H1 hK1 hP1 hD1 hS1 => ?_)
  have e1 : va_RA (xs X) cA .boolean := (hK1.2 4 _ rfl).2
  have e2 : va_RA (xs X) (gT G 2) .boolean := (hC.2.2.2.1.2 2 _ rfl).2
  have e3 : cA = gT G 2 := Option.some.inj ((show (xs X).vm.findClass ("[" ++ FieldType.boolean.toString) = some cA from e1).symm.trans e2)
  subst e3
  exact fr_made (c := Za n (fun _ => iI 0)) hk sL sS sA trivial hC hcl hsl kont hlv hP1 hD1 hS1
theorem fr_newR {n : Nat} (hl : lk (mT M) pc = some (.anewarray 22, 3)) (hM : mK M = 3) (hAO : va_AO "BallsInAir$Pattern" (xs X)) (hn : n ≤ 1000000) (hcl : cl + 1 ≤ (xR X).cells) (hsl : sl + n ≤ (xR X).slots) (hk : kk < 1000) (sL : scL kk L) (sS : scS kk S) (sA : scA kk A)
    (kont : ∀ a : Nat → Nat, exA G kk a → Gf X (gS G a) (kk + 1) (cl + 1) (sl + n) M d (pc + 3) L (.ref kk :: S) (va_up A kk (Ra n (fun _ => none)))) : Gf X G kk cl sl M d pc L (.int (iI (n : Int)) :: S) A := by
  intro hC H locs ls hlv hP hD hS
  obtain ⟨n1, n2⟩ := nn_iI hn
  refine va_newq (own := clsN (mK M)) (C := "BallsInAir$Pattern") (index := 22) (N' := n) hC.1.1 hC.1.2.1 hC.1.2.2.2.1 (by rw [hM]; exact hC.2.1 _ wc_3_22) hAO hC.2.2.2.1 hP hD hS hC.2.2.2.2.1 n1 n2 (by omega) hcl hsl (hC.dec hl) (fun q cA H1 hK1 hP1 hD1 hS1 => ?_)
  obtain ⟨k1, c1, -, -, -, e1⟩ : va_RA (xs X) cA (.object "BallsInAir$Pattern") := (hK1.2 4 _ rfl).2
  obtain ⟨k2, c2, -, -, -, e2⟩ : va_RA (xs X) (gT G 3) (.object "BallsInAir$Pattern") := (hC.2.2.2.1.2 3 _ rfl).2
  have e3 : cA = gT G 3 := Option.some.inj (e1.symm.trans e2)
  subst e3
  exact fr_made (c := Ra n (fun _ => none)) hk sL sS sA (fun i r h => by cases h) hC hcl hsl kont hlv hP1 hD1 hS1
theorem fr_obj {idx r : Nat} (hl : lk (mT M) pc = some (.invokespecial idx, 3)) (hw : Cond.methodLink (clsN (mK M)) idx Lib.objectInit ∈ TB) (hcat : Nat.ble (S.map fun v => v.category).sum 8 = true) (k : Gf X G kk cl sl M (d + 1) (pc + 3) L S A) : Gf X G kk cl sl M (d + 1) pc L (.ref r :: S) A := by
  intro hC H locs ls hlv hP hD hS
  have hR := hC.2.2.2.2.2.2.2
  have hcat : ((S.map (trV G)).map fun v => v.category).sum ≤ 8 := by rw [List.map_map]; have hcat := Nat.le_of_ble_eq_true hcat; simpa [Function.comp_def, trV_cat] using hcat
  refine W.objInit (g := F0 (xm X) pc ls (.ref (gA G r) :: S.map (trV G))) hC.1.1 hC.1.2.1 hC.1.2.2.2.1 (hC.2.1 _ hw) (hC.2.1 _ wo_in) (hC.2.1 _ wo_cd) rfl (by rw [hC.1.2.2.1]; exact hlv.1) rfl (hC.dec hl) (by omega) (Nat.le_trans (Nat.add_le_add_right (lv_room hcat) 12) (by omega)) ?_
  exact k hC H locs ls hlv hP hD hS
end RN
