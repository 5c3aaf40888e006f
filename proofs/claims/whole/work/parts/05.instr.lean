/-! whole numbers as they stand in ints and longs -/
def iI (z : Int) : Int32 := Int32.ofInt z
def lI (z : Int) : Int64 := Int64.ofInt z
abbrev bd (z : Int) : Prop := -2147483648 ≤ z ∧ z < 2147483648
abbrev bdl (z : Int) : Prop := -9223372036854775808 ≤ z ∧ z < 9223372036854775808
theorem iI_toInt {z : Int} (h : bd z) : (iI z).toInt = z := Int32.toInt_ofInt_of_le (by have := h.1; omega) (by have := h.2; omega)
theorem lI_toInt {z : Int} (h : bdl z) : (lI z).toInt = z := Int64.toInt_ofInt_of_le (by have := h.1; omega) (by have := h.2; omega)
theorem iI_of (x : Int32) : x = iI x.toInt := (Int32.ofInt_toInt x).symm
theorem lI_of (x : Int64) : x = lI x.toInt := (Int64.ofInt_toInt x).symm
theorem bd_of (x : Int32) : bd x.toInt := ⟨by have := x.le_toInt; omega, by have := x.toInt_lt; omega⟩
theorem bdl_of (x : Int64) : bdl x.toInt := ⟨by have := x.le_toInt; omega, by have := x.toInt_lt; omega⟩
theorem iI_add (a b : Int) : iI a + iI b = iI (a + b) := (Int32.ofInt_add a b).symm
theorem iI_sub (a b : Int) : iI a - iI b = iI (a - b) := (Int32.ofInt_sub a b).symm
theorem iI_mul (a b : Int) : iI a * iI b = iI (a * b) := (Int32.ofInt_mul a b).symm
theorem lI_add (a b : Int) : lI a + lI b = lI (a + b) := (Int64.ofInt_add a b).symm
theorem lI_sub (a b : Int) : lI a - lI b = lI (a - b) := (Int64.ofInt_sub a b).symm
theorem lI_mul (a b : Int) : lI a * lI b = lI (a * b) := (Int64.ofInt_mul a b).symm
theorem iI_lt {a b : Int} (ha : bd a) (hb : bd b) : iI a < iI b ↔ a < b := by rw [Int32.lt_iff_toInt_lt, iI_toInt ha, iI_toInt hb]
theorem iI_le {a b : Int} (ha : bd a) (hb : bd b) : iI a ≤ iI b ↔ a ≤ b := by rw [Int32.le_iff_toInt_le, iI_toInt ha, iI_toInt hb]
theorem iI_eq {a b : Int} (ha : bd a) (hb : bd b) : iI a = iI b ↔ a = b := by rw [← Int32.toInt_inj, iI_toInt ha, iI_toInt hb]
theorem lI_lt {a b : Int} (ha : bdl a) (hb : bdl b) : lI a < lI b ↔ a < b := by rw [Int64.lt_iff_toInt_lt, lI_toInt ha, lI_toInt hb]
theorem lI_eq {a b : Int} (ha : bdl a) (hb : bdl b) : lI a = lI b ↔ a = b := by rw [← Int64.toInt_inj, lI_toInt ha, lI_toInt hb]
theorem iI_0 : (0 : Int32) = iI 0 := rfl
theorem iI_nI (n : Nat) : iI (n : Int) = nI n := by
  show Int32.ofInt (n : Int) = Int32.ofNat n
  rfl
theorem iI_div {a b : Int} (ha : bd a) (hb : bd b) (h0 : 0 < b) : iI a / iI b = iI (a.tdiv b) := by
  refine (Int32.ofInt_tdiv ?_ ?_ ?_ ?_).symm <;> simp only [Int32.toInt_minValue, Int32.toInt_maxValue] <;> omega
theorem iI_rem {a b : Int} (ha : bd a) (hb : bd b) (h0 : 0 < b) : iI a - iI a / iI b * iI b = iI (a.tmod b) := by
  rw [iI_div ha hb h0, iI_mul, iI_sub, Int.tmod_def, Int.mul_comm]
theorem lI_div {a b : Int} (ha : bdl a) (hb : bdl b) (h0 : 0 < b) : lI a / lI b = lI (a.tdiv b) := by
  refine (Int64.ofInt_tdiv ?_ ?_ ?_ ?_).symm <;> simp only [Int64.toInt_minValue, Int64.toInt_maxValue] <;> omega
theorem lI_rem {a b : Int} (ha : bdl a) (hb : bdl b) (h0 : 0 < b) : lI a - lI a / lI b * lI b = lI (a.tmod b) := by
  rw [lI_div ha hb h0, lI_mul, lI_sub, Int.tmod_def, Int.mul_comm]
theorem iI_i2l {a : Int} (ha : bd a) : (iI a).toInt64 = lI a := Int32.toInt64_ofInt (by rw [Int32.toInt_minValue]; omega) (by rw [Int32.toInt_maxValue]; omega)
theorem iI_l2i (a : Int) : (lI a).toInt32 = iI a := Int64.toInt32_ofInt
/-- an index: in range, and which -/
def ix (i : Int32) (n j : Nat) : Prop := vp_in i n ∧ i.toNatClampNeg = j
theorem ix_i {z : Int} {n j : Nat} (hj : z = (j : Int)) (h : j < n) (hn : n < 2147483648) : ix (iI z) n j := by
  subst hj
  rw [iI_nI]
  exact ⟨vp_in_nI h (by omega), nI_clamp (by omega)⟩
def cmpZ (a b : Int) : Int := if b < a then 1 else if a = b then 0 else -1
theorem lg_cmpZ {a b : Int} (ha : bdl a) (hb : bdl b) : lg_cmp (lI a) (lI b) = iI (cmpZ a b) := by
  unfold lg_cmp cmpZ
  have h1 : (lI a > lI b) ↔ b < a := lI_lt hb ha
  simp only [h1, lI_eq ha hb]
  split
  · rfl
  · split <;> rfl
def cI (c : Jvm.ClassFile.Cond) (a b : Int) : Prop := match c with
  | .eq => a = b
  | .ne => a ≠ b
  | .lt => a < b
  | .ge => b ≤ a
  | .gt => b < a
  | .le => a ≤ b
/-! the plain steps: constants, loads, stores, jumps -/
def w1 {α : Type} (n k : Nat) (o : Option α) : Option α := match Nat.beq n k with
  | true => o
  | false => none
theorem w1_of {α : Type} {n k : Nat} {o : Option α} {x : α} (h : w1 n k o = some x) : n = k ∧ o = some x := by
  unfold w1 at h
  cases hb : Nat.beq n k with
  | true => rw [hb] at h; exact ⟨Nat.eq_of_beq_eq_true hb, h⟩
  | false => rw [hb] at h; simp at h
def pshI (pc : Nat) (L : LV) (S : List Value) (lo hi k : Int) : Option (Nat × LV × List Value) := match (decide (lo ≤ k ∧ k ≤ hi)) with
  | true => some (pc, L, .int (iI k) :: S)
  | false => none
def ldI (pc : Nat) (L : LV) (S : List Value) (i : Nat) : Option (Nat × LV × List Value) := match gtL L i with
  | some (.int x) => some (pc, L, .int x :: S)
  | _ => none
def ldL (pc : Nat) (L : LV) (S : List Value) (i : Nat) : Option (Nat × LV × List Value) := match gtL L i with
  | some (.long x) => some (pc, L, .long x :: S)
  | _ => none
def ldA (pc : Nat) (L : LV) (S : List Value) (i : Nat) : Option (Nat × LV × List Value) := match gtL L i with
  | some (.ref x) => some (pc, L, .ref x :: S)
  | _ => none
def sto1 (pc : Nat) (L : LV) (S : List Value) (v : Value) (i : Nat) : Option (Nat × LV × List Value) := match okSt i L with
  | true => (match stL i (some v) L with
    | some L' => some (pc, L', S)
    | none => none)
  | false => none
def sto2 (pc : Nat) (L : LV) (S : List Value) (v : Value) (i : Nat) : Option (Nat × LV × List Value) := match okSt i L with
  | true => (match stL i (some v) L with
    | some L1 => (match stL (i + 1) none L1 with
      | some L' => some (pc, L', S)
      | none => none)
    | none => none)
  | false => none
def stI (pc : Nat) (L : LV) (i : Nat) : List Value → Option (Nat × LV × List Value)
  | .int x :: S => sto1 pc L S (.int x) i
  | _ => none
def stA (pc : Nat) (L : LV) (i : Nat) : List Value → Option (Nat × LV × List Value)
  | .ref x :: S => sto1 pc L S (.ref x) i
  | _ => none
def stJ (pc : Nat) (L : LV) (i : Nat) : List Value → Option (Nat × LV × List Value)
  | .long x :: S => sto2 pc L S (.long x) i
  | _ => none
def gotoZ (pc : Nat) (off : Int) (L : LV) (S : List Value) : Option (Nat × LV × List Value) := match (pc : Int) + off with
  | .ofNat t => some (t, L, S)
  | .negSucc _ => none
def dupZ (pc : Nat) (L : LV) : List Value → Option (Nat × LV × List Value)
  | .int x :: S => some (pc, L, .int x :: .int x :: S)
  | .ref x :: S => some (pc, L, .ref x :: .ref x :: S)
  | _ => none
def dup2Z (pc : Nat) (L : LV) : List Value → Option (Nat × LV × List Value)
  | .int x :: .int y :: S => some (pc, L, .int x :: .int y :: .int x :: .int y :: S)
  | .int x :: .ref y :: S => some (pc, L, .int x :: .ref y :: .int x :: .ref y :: S)
  | _ => none
def popZ (pc : Nat) (L : LV) : List Value → Option (Nat × LV × List Value)
  | .int _ :: S => some (pc, L, S)
  | _ => none
def stpI (cn pc : Nat) (L : LV) (S : List Value) (n : Nat) : Instr → Option (Nat × LV × List Value)
  | .iconst k => w1 n 1 (some (pc + 1, L, .int (iI k) :: S))
  | .bipush k => w1 n 2 (pshI (pc + 2) L S (-128) 127 k)
  | .sipush k => w1 n 3 (pshI (pc + 3) L S (-32768) 32767 k)
  | .ldc i => w1 n 2 (match ik3 icT cn i with
    | some k => some (pc + 2, L, .int (iI k) :: S)
    | none => none)
  | .ldc_w i => w1 n 3 (match ik3 icT cn i with
    | some k => some (pc + 3, L, .int (iI k) :: S)
    | none => none)
  | .ldc2_w i => w1 n 3 (match ik3 lcT cn i with
    | some k => some (pc + 3, L, .long (lI k) :: S)
    | none => none)
  | .lconst l => w1 n 1 (some (pc + 1, L, .long (lI (l.val : Int)) :: S))
  | .iload_n k => w1 n 1 (ldI (pc + 1) L S k.val)
  | .iload k => w1 n 2 (ldI (pc + 2) L S k)
  | .lload_n k => w1 n 1 (ldL (pc + 1) L S k.val)
  | .lload k => w1 n 2 (ldL (pc + 2) L S k)
  | .aload_n k => w1 n 1 (ldA (pc + 1) L S k.val)
  | .aload k => w1 n 2 (ldA (pc + 2) L S k)
  | .istore_n k => w1 n 1 (stI (pc + 1) L k.val S)
  | .istore k => w1 n 2 (stI (pc + 2) L k S)
  | .lstore_n k => w1 n 1 (stJ (pc + 1) L k.val S)
  | .lstore k => w1 n 2 (stJ (pc + 2) L k S)
  | .astore_n k => w1 n 1 (stA (pc + 1) L k.val S)
  | .astore k => w1 n 2 (stA (pc + 2) L k S)
  | .goto off => w1 n 3 (gotoZ pc off L S)
  | .dup => w1 n 1 (dupZ (pc + 1) L S)
  | .dup2 => w1 n 1 (dup2Z (pc + 1) L S)
  | .pop => w1 n 1 (popZ (pc + 1) L S)
  | _ => none
def stp (M : MI) (pc : Nat) (L : LV) (S : List Value) : Option (Nat × LV × List Value) := match lk (mT M) pc with
  | some (i, n) => stpI (mK M) pc L S n i
  | none => none
def stps (M : MI) : Nat → Nat → LV → List Value → Option (Nat × LV × List Value)
  | 0, pc, L, S => some (pc, L, S)
  | k + 1, pc, L, S => match stp M pc L S with
    | some (pc', L', S') => stps M k pc' L' S'
    | none => none
section RA
variable {M : MI} {d pc pc' : Nat} {L L' : LV} {S S' : List Value} {A A' : AH} {r : Option Value}
theorem gq_iload_n {k : Fin 4} {x : Int32} (hl : lk (mT M) pc = some (.iload_n k, 1)) (hg : gtL L k.val = some (.int x)) (k : Gr M d (pc + 1) L (.int x :: S) A r A') : Gr M d pc L S A r A' := by
  intro G p l e R s m args below meth c cells slots B Q hC hQ H locs ls hlv hP hD hS
  exact lv_iload_n hC.1.1 hC.1.2.1 (hC.dec hl) rfl (hlv.2.2.2 _ _ hg) (k G p l e R s m args below meth c cells slots B Q hC hQ H locs ls hlv hP hD hS)
theorem gq_iload {k : Nat} {x : Int32} (hl : lk (mT M) pc = some (.iload k, 2)) (hg : gtL L k = some (.int x)) (k : Gr M d (pc + 2) L (.int x :: S) A r A') : Gr M d pc L S A r A' := by
  intro G p l e R s m args below meth c cells slots B Q hC hQ H locs ls hlv hP hD hS
  exact lv_iload hC.1.1 hC.1.2.1 (hC.dec hl) (hlv.2.2.2 _ _ hg) (k G p l e R s m args below meth c cells slots B Q hC hQ H locs ls hlv hP hD hS)
theorem gq_lload_n {k : Fin 4} {x : Int64} (hl : lk (mT M) pc = some (.lload_n k, 1)) (hg : gtL L k.val = some (.long x)) (k : Gr M d (pc + 1) L (.long x :: S) A r A') : Gr M d pc L S A r A' := by
  intro G p l e R s m args below meth c cells slots B Q hC hQ H locs ls hlv hP hD hS
  exact lv_lload_n hC.1.1 hC.1.2.1 (hC.dec hl) rfl (hlv.2.2.2 _ _ hg) (k G p l e R s m args below meth c cells slots B Q hC hQ H locs ls hlv hP hD hS)
theorem gq_lload {k : Nat} {x : Int64} (hl : lk (mT M) pc = some (.lload k, 2)) (hg : gtL L k = some (.long x)) (k : Gr M d (pc + 2) L (.long x :: S) A r A') : Gr M d pc L S A r A' := by
  intro G p l e R s m args below meth c cells slots B Q hC hQ H locs ls hlv hP hD hS
  exact lv_lload hC.1.1 hC.1.2.1 (hC.dec hl) (hlv.2.2.2 _ _ hg) (k G p l e R s m args below meth c cells slots B Q hC hQ H locs ls hlv hP hD hS)
theorem gq_aload_n {k : Fin 4} {x : Nat} (hl : lk (mT M) pc = some (.aload_n k, 1)) (hg : gtL L k.val = some (.ref x)) (k : Gr M d (pc + 1) L (.ref x :: S) A r A') : Gr M d pc L S A r A' := by
  intro G p l e R s m args below meth c cells slots B Q hC hQ H locs ls hlv hP hD hS
  exact lv_aload_n hC.1.1 hC.1.2.1 (hC.dec hl) rfl (hlv.2.2.2 _ _ hg) (k G p l e R s m args below meth c cells slots B Q hC hQ H locs ls hlv hP hD hS)
theorem gq_aload {k : Nat} {x : Nat} (hl : lk (mT M) pc = some (.aload k, 2)) (hg : gtL L k = some (.ref x)) (k : Gr M d (pc + 2) L (.ref x :: S) A r A') : Gr M d pc L S A r A' := by
  intro G p l e R s m args below meth c cells slots B Q hC hQ H locs ls hlv hP hD hS
  exact lv_aload hC.1.1 hC.1.2.1 (hC.dec hl) (hlv.2.2.2 _ _ hg) (k G p l e R s m args below meth c cells slots B Q hC hQ H locs ls hlv hP hD hS)
theorem gq_istore_n {k0 : Fin 4} {x : Int32} (hl : lk (mT M) pc = some (.istore_n k0, 1)) (ho : okSt k0.val L = true) (hs : stL k0.val (some (.int x)) L = some L') (k : Gr M d (pc + 1) L' S A r A') : Gr M d pc L (.int x :: S) A r A' := by
  intro G p l e R s m args below meth c cells slots B Q hC hQ H locs ls hlv hP hD hS
  exact lv_istore_n hC.1.1 hC.1.2.1 (hC.dec hl) rfl hlv.has (Nat.lt_of_lt_of_le (stL_spec hs).1 hlv.2.2.1) rfl (fun ls' h' => k G p l e R s m args below meth c cells slots B Q hC hQ H locs ls' (hlv.st1 ho hs h') hP hD hS)
theorem gq_istore {k0 : Nat} {x : Int32} (hl : lk (mT M) pc = some (.istore k0, 2)) (ho : okSt k0 L = true) (hs : stL k0 (some (.int x)) L = some L') (k : Gr M d (pc + 2) L' S A r A') : Gr M d pc L (.int x :: S) A r A' := by
  intro G p l e R s m args below meth c cells slots B Q hC hQ H locs ls hlv hP hD hS
  exact lv_istore hC.1.1 hC.1.2.1 (hC.dec hl) hlv.has (Nat.lt_of_lt_of_le (stL_spec hs).1 hlv.2.2.1) rfl (fun ls' h' => k G p l e R s m args below meth c cells slots B Q hC hQ H locs ls' (hlv.st1 ho hs h') hP hD hS)
theorem gq_astore_n {k0 : Fin 4} {x : Nat} (hl : lk (mT M) pc = some (.astore_n k0, 1)) (ho : okSt k0.val L = true) (hs : stL k0.val (some (.ref x)) L = some L') (k : Gr M d (pc + 1) L' S A r A') : Gr M d pc L (.ref x :: S) A r A' := by
  intro G p l e R s m args below meth c cells slots B Q hC hQ H locs ls hlv hP hD hS
  exact lv_astore_n hC.1.1 hC.1.2.1 (hC.dec hl) rfl hlv.has (Nat.lt_of_lt_of_le (stL_spec hs).1 hlv.2.2.1) rfl (fun ls' h' => k G p l e R s m args below meth c cells slots B Q hC hQ H locs ls' (hlv.st1 ho hs h') hP hD hS)
theorem gq_astore {k0 : Nat} {x : Nat} (hl : lk (mT M) pc = some (.astore k0, 2)) (ho : okSt k0 L = true) (hs : stL k0 (some (.ref x)) L = some L') (k : Gr M d (pc + 2) L' S A r A') : Gr M d pc L (.ref x :: S) A r A' := by
  intro G p l e R s m args below meth c cells slots B Q hC hQ H locs ls hlv hP hD hS
  exact lv_astore hC.1.1 hC.1.2.1 (hC.dec hl) hlv.has (Nat.lt_of_lt_of_le (stL_spec hs).1 hlv.2.2.1) rfl (fun ls' h' => k G p l e R s m args below meth c cells slots B Q hC hQ H locs ls' (hlv.st1 ho hs h') hP hD hS)
theorem gq_lstore_n {k0 : Fin 4} {x : Int64} {L1 : LV} (hl : lk (mT M) pc = some (.lstore_n k0, 1)) (ho : okSt k0.val L = true) (hs : stL k0.val (some (.long x)) L = some L1) (hs2 : stL (k0.val + 1) none L1 = some L') (k : Gr M d (pc + 1) L' S A r A') : Gr M d pc L (.long x :: S) A r A' := by
  intro G p l e R s m args below meth c cells slots B Q hC hQ H locs ls hlv hP hD hS
  exact lv_lstore_n hC.1.1 hC.1.2.1 (hC.dec hl) rfl hlv.has (by have h1 := (stL_spec hs2).1; have h2 := (stL_spec hs).2.1; have h3 := hlv.2.2.1; omega) rfl (fun ls' h' => k G p l e R s m args below meth c cells slots B Q hC hQ H locs ls' (hlv.st2 ho hs hs2 h') hP hD hS)
theorem gq_lstore {k0 : Nat} {x : Int64} {L1 : LV} (hl : lk (mT M) pc = some (.lstore k0, 2)) (ho : okSt k0 L = true) (hs : stL k0 (some (.long x)) L = some L1) (hs2 : stL (k0 + 1) none L1 = some L') (k : Gr M d (pc + 2) L' S A r A') : Gr M d pc L (.long x :: S) A r A' := by
  intro G p l e R s m args below meth c cells slots B Q hC hQ H locs ls hlv hP hD hS
  exact lv_lstore hC.1.1 hC.1.2.1 (hC.dec hl) hlv.has (by have h1 := (stL_spec hs2).1; have h2 := (stL_spec hs).2.1; have h3 := hlv.2.2.1; omega) rfl (fun ls' h' => k G p l e R s m args below meth c cells slots B Q hC hQ H locs ls' (hlv.st2 ho hs hs2 h') hP hD hS)
theorem gr_iinc {i : Nat} {n : Int} {a : Int} (hl : lk (mT M) pc = some (.iinc i n, 3)) (hg : gtL L i = some (.int (iI a))) (ho : okSt i L = true) (hs : stL i (some (.int (iI (a + n)))) L = some L') (k : Gr M d (pc + 3) L' S A r A') : Gr M d pc L S A r A' := by
  intro G p l e R s m args below meth c cells slots B Q hC hQ H locs ls hlv hP hD hS
  obtain ⟨kk, hkk⟩ := List.getElem?_of_mem (lvPs_mem (G := G) hg)
  exact lv_iinc hC.1.1 hC.1.2.1 (hC.dec hl) hlv.has hkk (iI_add a n) (Nat.lt_of_lt_of_le (stL_spec hs).1 hlv.2.2.1) rfl (fun ls' h' => k G p l e R s m args below meth c cells slots B Q hC hQ H locs ls' (hlv.st1 ho hs h') hP hD hS)
theorem stp_gr (h : stp M pc L S = some (pc', L', S')) (k : Gr M d pc' L' S' A r A') : Gr M d pc L S A r A' := by
  unfold stp at h
  cases hl : lk (mT M) pc with
  | none => rw [hl] at h; simp at h
  | some q =>
    obtain ⟨i, n⟩ := q
    rw [hl] at h
    simp only at h
    cases i with
    | iconst z =>
      simp only [stpI] at h
      obtain ⟨hn, h⟩ := w1_of h
      subst hn
      cases h
      intro G p l e R s m args below meth c cells slots B Q hC hQ H locs ls hlv hP hD hS
      exact lv_iconst hC.1.1 hC.1.2.1 (hC.dec hl) rfl (k G p l e R s m args below meth c cells slots B Q hC hQ H locs ls hlv hP hD hS)
    | lconst z =>
      simp only [stpI] at h
      obtain ⟨hn, h⟩ := w1_of h
      subst hn
      cases h
      intro G p l e R s m args below meth c cells slots B Q hC hQ H locs ls hlv hP hD hS
      exact lv_lconst hC.1.1 hC.1.2.1 (hC.dec hl) rfl (k G p l e R s m args below meth c cells slots B Q hC hQ H locs ls hlv hP hD hS)
    | bipush z =>
      simp only [stpI] at h
      obtain ⟨hn, h⟩ := w1_of h
      subst hn
      unfold pshI at h
      split at h
      · rename_i hz
        cases h
        intro G p l e R s m args below meth c cells slots B Q hC hQ H locs ls hlv hP hD hS
        have hz := of_decide_eq_true hz
        exact lv_bipush hC.1.1 hC.1.2.1 (hC.dec hl) (Int8.toInt32_ofInt (by have := hz.1; simpa [Int8.toInt_minValue] using this) (by have := hz.2; simpa [Int8.toInt_maxValue] using this)) (k G p l e R s m args below meth c cells slots B Q hC hQ H locs ls hlv hP hD hS)
      · cases h
    | sipush z =>
      simp only [stpI] at h
      obtain ⟨hn, h⟩ := w1_of h
      subst hn
      unfold pshI at h
      split at h
      · rename_i hz
        cases h
        intro G p l e R s m args below meth c cells slots B Q hC hQ H locs ls hlv hP hD hS
        have hz := of_decide_eq_true hz
        exact lv_sipush hC.1.1 hC.1.2.1 (hC.dec hl) (Int16.toInt32_ofInt (by have := hz.1; simpa [Int16.toInt_minValue] using this) (by have := hz.2; simpa [Int16.toInt_maxValue] using this)) (k G p l e R s m args below meth c cells slots B Q hC hQ H locs ls hlv hP hD hS)
      · cases h
    | ldc z =>
      simp only [stpI] at h
      obtain ⟨hn, h⟩ := w1_of h
      subst hn
      split at h
      · rename_i hz
        cases h
        intro G p l e R s m args below meth c cells slots B Q hC hQ H locs ls hlv hP hD hS
        exact lv_ldc hC.1.1 hC.1.2.1 hC.1.2.2.2.1 (hC.2.1 _ (ic_ok _ (ik3_mem hz))) (hC.dec hl) (k G p l e R s m args below meth c cells slots B Q hC hQ H locs ls hlv hP hD hS)
      · cases h
    | ldc_w z =>
      simp only [stpI] at h
      obtain ⟨hn, h⟩ := w1_of h
      subst hn
      split at h
      · rename_i hz
        cases h
        intro G p l e R s m args below meth c cells slots B Q hC hQ H locs ls hlv hP hD hS
        exact lv_ldcw hC.1.1 hC.1.2.1 hC.1.2.2.2.1 (hC.2.1 _ (ic_ok _ (ik3_mem hz))) (hC.dec hl) (k G p l e R s m args below meth c cells slots B Q hC hQ H locs ls hlv hP hD hS)
      · cases h
    | ldc2_w z =>
      simp only [stpI] at h
      obtain ⟨hn, h⟩ := w1_of h
      subst hn
      split at h
      · rename_i hz
        cases h
        intro G p l e R s m args below meth c cells slots B Q hC hQ H locs ls hlv hP hD hS
        exact lv_ldc2 hC.1.1 hC.1.2.1 hC.1.2.2.2.1 (hC.2.1 _ (lc_ok _ (ik3_mem hz))) (hC.dec hl) (k G p l e R s m args below meth c cells slots B Q hC hQ H locs ls hlv hP hD hS)
      · cases h
    | iload_n z =>
      simp only [stpI] at h
      obtain ⟨hn, h⟩ := w1_of h
      subst hn
      unfold ldI at h
      split at h
      · rename_i hz
        cases h
        exact gq_iload_n hl hz k
      · cases h
    | iload z =>
      simp only [stpI] at h
      obtain ⟨hn, h⟩ := w1_of h
      subst hn
      unfold ldI at h
      split at h
      · rename_i hz
        cases h
        exact gq_iload hl hz k
      · cases h
    | lload_n z =>
      simp only [stpI] at h
      obtain ⟨hn, h⟩ := w1_of h
      subst hn
      unfold ldL at h
      split at h
      · rename_i hz
        cases h
        exact gq_lload_n hl hz k
      · cases h
    | lload z =>
      simp only [stpI] at h
      obtain ⟨hn, h⟩ := w1_of h
      subst hn
      unfold ldL at h
      split at h
      · rename_i hz
        cases h
        exact gq_lload hl hz k
      · cases h
    | aload_n z =>
      simp only [stpI] at h
      obtain ⟨hn, h⟩ := w1_of h
      subst hn
      unfold ldA at h
      split at h
      · rename_i hz
        cases h
        exact gq_aload_n hl hz k
      · cases h
    | aload z =>
      simp only [stpI] at h
      obtain ⟨hn, h⟩ := w1_of h
      subst hn
      unfold ldA at h
      split at h
      · rename_i hz
        cases h
        exact gq_aload hl hz k
      · cases h
    | istore_n z =>
      simp only [stpI] at h
      obtain ⟨hn, h⟩ := w1_of h
      subst hn
      unfold stI at h
      split at h
      · unfold sto1 at h
        split at h
        · rename_i ho
          split at h
          · rename_i hs
            cases h
            exact gq_istore_n hl ho hs k
          · cases h
        · cases h
      · cases h
    | istore z =>
      simp only [stpI] at h
      obtain ⟨hn, h⟩ := w1_of h
      subst hn
      unfold stI at h
      split at h
      · unfold sto1 at h
        split at h
        · rename_i ho
          split at h
          · rename_i hs
            cases h
            exact gq_istore hl ho hs k
          · cases h
        · cases h
      · cases h
    | astore_n z =>
      simp only [stpI] at h
      obtain ⟨hn, h⟩ := w1_of h
      subst hn
      unfold stA at h
      split at h
      · unfold sto1 at h
        split at h
        · rename_i ho
          split at h
          · rename_i hs
            cases h
            exact gq_astore_n hl ho hs k
          · cases h
        · cases h
      · cases h
    | astore z =>
      simp only [stpI] at h
      obtain ⟨hn, h⟩ := w1_of h
      subst hn
      unfold stA at h
      split at h
      · unfold sto1 at h
        split at h
        · rename_i ho
          split at h
          · rename_i hs
            cases h
            exact gq_astore hl ho hs k
          · cases h
        · cases h
      · cases h
    | lstore_n z =>
      simp only [stpI] at h
      obtain ⟨hn, h⟩ := w1_of h
      subst hn
      unfold stJ at h
      split at h
      · unfold sto2 at h
        split at h
        · rename_i ho
          split at h
          · rename_i hs
            split at h
            · rename_i hs2
              cases h
              exact gq_lstore_n hl ho hs hs2 k
            · cases h
          · cases h
        · cases h
      · cases h
    | lstore z =>
      simp only [stpI] at h
      obtain ⟨hn, h⟩ := w1_of h
      subst hn
      unfold stJ at h
      split at h
      · unfold sto2 at h
        split at h
        · rename_i ho
          split at h
          · rename_i hs
            split at h
            · rename_i hs2
              cases h
              exact gq_lstore hl ho hs hs2 k
            · cases h
          · cases h
        · cases h
      · cases h
    | goto z =>
      simp only [stpI] at h
      obtain ⟨hn, h⟩ := w1_of h
      subst hn
      unfold gotoZ at h
      split at h
      · rename_i ht
        cases h
        intro G p l e R s m args below meth c cells slots B Q hC hQ H locs ls hlv hP hD hS
        exact lv_goto hC.1.1 hC.1.2.1 (hC.dec hl) ht (k G p l e R s m args below meth c cells slots B Q hC hQ H locs ls hlv hP hD hS)
      · cases h
    | dup =>
      simp only [stpI] at h
      obtain ⟨hn, h⟩ := w1_of h
      subst hn
      unfold dupZ at h
      split at h
      · cases h
        intro G p l e R s m args below meth c cells slots B Q hC hQ H locs ls hlv hP hD hS
        exact lv_dup hC.1.1 hC.1.2.1 (hC.dec hl) rfl (k G p l e R s m args below meth c cells slots B Q hC hQ H locs ls hlv hP hD hS)
      · cases h
        intro G p l e R s m args below meth c cells slots B Q hC hQ H locs ls hlv hP hD hS
        exact lv_dup hC.1.1 hC.1.2.1 (hC.dec hl) rfl (k G p l e R s m args below meth c cells slots B Q hC hQ H locs ls hlv hP hD hS)
      · cases h
    | dup2 =>
      simp only [stpI] at h
      obtain ⟨hn, h⟩ := w1_of h
      subst hn
      unfold dup2Z at h
      split at h
      · cases h
        intro G p l e R s m args below meth c cells slots B Q hC hQ H locs ls hlv hP hD hS
        exact lv_dup2_11 hC.1.1 hC.1.2.1 (hC.dec hl) rfl rfl (k G p l e R s m args below meth c cells slots B Q hC hQ H locs ls hlv hP hD hS)
      · cases h
        intro G p l e R s m args below meth c cells slots B Q hC hQ H locs ls hlv hP hD hS
        exact lv_dup2_11 hC.1.1 hC.1.2.1 (hC.dec hl) rfl rfl (k G p l e R s m args below meth c cells slots B Q hC hQ H locs ls hlv hP hD hS)
      · cases h
    | pop =>
      simp only [stpI] at h
      obtain ⟨hn, h⟩ := w1_of h
      subst hn
      unfold popZ at h
      split at h
      · cases h
        intro G p l e R s m args below meth c cells slots B Q hC hQ H locs ls hlv hP hD hS
        exact lv_pop hC.1.1 hC.1.2.1 (hC.dec hl) rfl (k G p l e R s m args below meth c cells slots B Q hC hQ H locs ls hlv hP hD hS)
      · cases h
    | _ => exact absurd h (by simp [stpI])
theorem gr_run (n : Nat) (h : stps M n pc L S = some (pc', L', S')) (k : Gr M d pc' L' S' A r A') : Gr M d pc L S A r A' := by
  induction n generalizing pc L S with
  | zero =>
    simp only [stps, Option.some.injEq, Prod.mk.injEq] at h
    obtain ⟨rfl, rfl, rfl⟩ := h
    exact k
  | succ n ih =>
    simp only [stps] at h
    cases hq : stp M pc L S with
    | none => rw [hq] at h; simp at h
    | some q =>
      obtain ⟨a, b, c⟩ := q
      rw [hq] at h
      exact stp_gr hq (ih h)
theorem gr_iadd {a b : Int} (hl : lk (mT M) pc = some (.iadd, 1)) (k : Gr M d (pc + 1) L (.int (iI (a + b)) :: S) A r A') : Gr M d pc L (.int (iI b) :: .int (iI a) :: S) A r A' := by
  intro G p l e R s m args below meth c cells slots B Q hC hQ H locs ls hlv hP hD hS
  refine lv_iadd hC.1.1 hC.1.2.1 (hC.dec hl) ?_
  rw [iI_add]
  exact k G p l e R s m args below meth c cells slots B Q hC hQ H locs ls hlv hP hD hS
theorem gr_isub {a b : Int} (hl : lk (mT M) pc = some (.isub, 1)) (k : Gr M d (pc + 1) L (.int (iI (a - b)) :: S) A r A') : Gr M d pc L (.int (iI b) :: .int (iI a) :: S) A r A' := by
  intro G p l e R s m args below meth c cells slots B Q hC hQ H locs ls hlv hP hD hS
  refine lv_isub hC.1.1 hC.1.2.1 (hC.dec hl) ?_
  rw [iI_sub]
  exact k G p l e R s m args below meth c cells slots B Q hC hQ H locs ls hlv hP hD hS
theorem gr_imul {a b : Int} (hl : lk (mT M) pc = some (.imul, 1)) (k : Gr M d (pc + 1) L (.int (iI (a * b)) :: S) A r A') : Gr M d pc L (.int (iI b) :: .int (iI a) :: S) A r A' := by
  intro G p l e R s m args below meth c cells slots B Q hC hQ H locs ls hlv hP hD hS
  refine lv_imul hC.1.1 hC.1.2.1 (hC.dec hl) ?_
  rw [iI_mul]
  exact k G p l e R s m args below meth c cells slots B Q hC hQ H locs ls hlv hP hD hS
theorem gr_ladd {a b : Int} (hl : lk (mT M) pc = some (.ladd, 1)) (k : Gr M d (pc + 1) L (.long (lI (a + b)) :: S) A r A') : Gr M d pc L (.long (lI b) :: .long (lI a) :: S) A r A' := by
  intro G p l e R s m args below meth c cells slots B Q hC hQ H locs ls hlv hP hD hS
  refine lv_ladd hC.1.1 hC.1.2.1 (hC.dec hl) ?_
  rw [lI_add]
  exact k G p l e R s m args below meth c cells slots B Q hC hQ H locs ls hlv hP hD hS
theorem gr_lsub {a b : Int} (hl : lk (mT M) pc = some (.lsub, 1)) (k : Gr M d (pc + 1) L (.long (lI (a - b)) :: S) A r A') : Gr M d pc L (.long (lI b) :: .long (lI a) :: S) A r A' := by
  intro G p l e R s m args below meth c cells slots B Q hC hQ H locs ls hlv hP hD hS
  refine lv_lsub hC.1.1 hC.1.2.1 (hC.dec hl) ?_
  rw [lI_sub]
  exact k G p l e R s m args below meth c cells slots B Q hC hQ H locs ls hlv hP hD hS
theorem gr_lmul {a b : Int} (hl : lk (mT M) pc = some (.lmul, 1)) (k : Gr M d (pc + 1) L (.long (lI (a * b)) :: S) A r A') : Gr M d pc L (.long (lI b) :: .long (lI a) :: S) A r A' := by
  intro G p l e R s m args below meth c cells slots B Q hC hQ H locs ls hlv hP hD hS
  refine lv_lmul hC.1.1 hC.1.2.1 (hC.dec hl) ?_
  rw [lI_mul]
  exact k G p l e R s m args below meth c cells slots B Q hC hQ H locs ls hlv hP hD hS
theorem gr_iand {x y : Int32} (hl : lk (mT M) pc = some (.iand, 1)) (k : Gr M d (pc + 1) L (.int (x &&& y) :: S) A r A') : Gr M d pc L (.int y :: .int x :: S) A r A' := by
  intro G p l e R s m args below meth c cells slots B Q hC hQ H locs ls hlv hP hD hS
  exact lv_iand hC.1.1 hC.1.2.1 (hC.dec hl) (k G p l e R s m args below meth c cells slots B Q hC hQ H locs ls hlv hP hD hS)
theorem gr_ior {x y : Int32} (hl : lk (mT M) pc = some (.ior, 1)) (k : Gr M d (pc + 1) L (.int (x ||| y) :: S) A r A') : Gr M d pc L (.int y :: .int x :: S) A r A' := by
  intro G p l e R s m args below meth c cells slots B Q hC hQ H locs ls hlv hP hD hS
  exact lv_ior hC.1.1 hC.1.2.1 (hC.dec hl) (k G p l e R s m args below meth c cells slots B Q hC hQ H locs ls hlv hP hD hS)
theorem gr_ixor {x y : Int32} (hl : lk (mT M) pc = some (.ixor, 1)) (k : Gr M d (pc + 1) L (.int (x ^^^ y) :: S) A r A') : Gr M d pc L (.int y :: .int x :: S) A r A' := by
  intro G p l e R s m args below meth c cells slots B Q hC hQ H locs ls hlv hP hD hS
  exact lv_ixor hC.1.1 hC.1.2.1 (hC.dec hl) (k G p l e R s m args below meth c cells slots B Q hC hQ H locs ls hlv hP hD hS)
theorem gr_ishl {x y : Int32} (hl : lk (mT M) pc = some (.ishl, 1)) (k : Gr M d (pc + 1) L (.int (x <<< (y &&& 31)) :: S) A r A') : Gr M d pc L (.int y :: .int x :: S) A r A' := by
  intro G p l e R s m args below meth c cells slots B Q hC hQ H locs ls hlv hP hD hS
  exact lv_ishl hC.1.1 hC.1.2.1 (hC.dec hl) (k G p l e R s m args below meth c cells slots B Q hC hQ H locs ls hlv hP hD hS)
theorem gr_ishr {x y : Int32} (hl : lk (mT M) pc = some (.ishr, 1)) (k : Gr M d (pc + 1) L (.int (x >>> (y &&& 31)) :: S) A r A') : Gr M d pc L (.int y :: .int x :: S) A r A' := by
  intro G p l e R s m args below meth c cells slots B Q hC hQ H locs ls hlv hP hD hS
  exact lv_ishr hC.1.1 hC.1.2.1 (hC.dec hl) (k G p l e R s m args below meth c cells slots B Q hC hQ H locs ls hlv hP hD hS)
theorem gr_iushr {x y : Int32} (hl : lk (mT M) pc = some (.iushr, 1)) (k : Gr M d (pc + 1) L (.int ((x.toUInt32 >>> (y.toUInt32 &&& Int32.toUInt32 31)).toInt32) :: S) A r A') : Gr M d pc L (.int y :: .int x :: S) A r A' := by
  intro G p l e R s m args below meth c cells slots B Q hC hQ H locs ls hlv hP hD hS
  exact lv_iushr hC.1.1 hC.1.2.1 (hC.dec hl) rfl (k G p l e R s m args below meth c cells slots B Q hC hQ H locs ls hlv hP hD hS)
theorem gr_land {x y : Int64} (hl : lk (mT M) pc = some (.land, 1)) (k : Gr M d (pc + 1) L (.long (x &&& y) :: S) A r A') : Gr M d pc L (.long y :: .long x :: S) A r A' := by
  intro G p l e R s m args below meth c cells slots B Q hC hQ H locs ls hlv hP hD hS
  exact lv_land hC.1.1 hC.1.2.1 (hC.dec hl) (k G p l e R s m args below meth c cells slots B Q hC hQ H locs ls hlv hP hD hS)
theorem gr_lor {x y : Int64} (hl : lk (mT M) pc = some (.lor, 1)) (k : Gr M d (pc + 1) L (.long (x ||| y) :: S) A r A') : Gr M d pc L (.long y :: .long x :: S) A r A' := by
  intro G p l e R s m args below meth c cells slots B Q hC hQ H locs ls hlv hP hD hS
  exact lv_lor hC.1.1 hC.1.2.1 (hC.dec hl) (k G p l e R s m args below meth c cells slots B Q hC hQ H locs ls hlv hP hD hS)
theorem gr_lshl {x : Int64} {y : Int32} (hl : lk (mT M) pc = some (.lshl, 1)) (k : Gr M d (pc + 1) L (.long (x <<< (y.toInt64 &&& 63)) :: S) A r A') : Gr M d pc L (.int y :: .long x :: S) A r A' := by
  intro G p l e R s m args below meth c cells slots B Q hC hQ H locs ls hlv hP hD hS
  exact lv_lshl hC.1.1 hC.1.2.1 (hC.dec hl) rfl (k G p l e R s m args below meth c cells slots B Q hC hQ H locs ls hlv hP hD hS)
theorem gr_lshr {x : Int64} {y : Int32} (hl : lk (mT M) pc = some (.lshr, 1)) (k : Gr M d (pc + 1) L (.long (x >>> (y.toInt64 &&& 63)) :: S) A r A') : Gr M d pc L (.int y :: .long x :: S) A r A' := by
  intro G p l e R s m args below meth c cells slots B Q hC hQ H locs ls hlv hP hD hS
  exact lv_lshr hC.1.1 hC.1.2.1 (hC.dec hl) rfl (k G p l e R s m args below meth c cells slots B Q hC hQ H locs ls hlv hP hD hS)
theorem gr_lushr {x : Int64} {y : Int32} (hl : lk (mT M) pc = some (.lushr, 1)) (k : Gr M d (pc + 1) L (.long ((x.toUInt64 >>> (y.toInt64.toUInt64 &&& Int64.toUInt64 63)).toInt64) :: S) A r A') : Gr M d pc L (.int y :: .long x :: S) A r A' := by
  intro G p l e R s m args below meth c cells slots B Q hC hQ H locs ls hlv hP hD hS
  exact lv_lushr hC.1.1 hC.1.2.1 (hC.dec hl) rfl (k G p l e R s m args below meth c cells slots B Q hC hQ H locs ls hlv hP hD hS)
theorem gr_i2l {a : Int} (hl : lk (mT M) pc = some (.i2l, 1)) (ha : bd a) (k : Gr M d (pc + 1) L (.long (lI a) :: S) A r A') : Gr M d pc L (.int (iI a) :: S) A r A' := by
  intro G p l e R s m args below meth c cells slots B Q hC hQ H locs ls hlv hP hD hS
  exact lv_i2l hC.1.1 hC.1.2.1 (hC.dec hl) (iI_i2l ha) (k G p l e R s m args below meth c cells slots B Q hC hQ H locs ls hlv hP hD hS)
theorem gr_i2lx {x : Int32} (hl : lk (mT M) pc = some (.i2l, 1)) (k : Gr M d (pc + 1) L (.long x.toInt64 :: S) A r A') : Gr M d pc L (.int x :: S) A r A' := by
  intro G p l e R s m args below meth c cells slots B Q hC hQ H locs ls hlv hP hD hS
  exact lv_i2l hC.1.1 hC.1.2.1 (hC.dec hl) rfl (k G p l e R s m args below meth c cells slots B Q hC hQ H locs ls hlv hP hD hS)
theorem gr_l2i {a : Int} (hl : lk (mT M) pc = some (.l2i, 1)) (k : Gr M d (pc + 1) L (.int (iI a) :: S) A r A') : Gr M d pc L (.long (lI a) :: S) A r A' := by
  intro G p l e R s m args below meth c cells slots B Q hC hQ H locs ls hlv hP hD hS
  exact lv_l2i hC.1.1 hC.1.2.1 (hC.dec hl) (iI_l2i a) (k G p l e R s m args below meth c cells slots B Q hC hQ H locs ls hlv hP hD hS)
theorem gr_l2ix {x : Int64} (hl : lk (mT M) pc = some (.l2i, 1)) (k : Gr M d (pc + 1) L (.int x.toInt32 :: S) A r A') : Gr M d pc L (.long x :: S) A r A' := by
  intro G p l e R s m args below meth c cells slots B Q hC hQ H locs ls hlv hP hD hS
  exact lv_l2i hC.1.1 hC.1.2.1 (hC.dec hl) rfl (k G p l e R s m args below meth c cells slots B Q hC hQ H locs ls hlv hP hD hS)
theorem gr_lcmp {a b : Int} (hl : lk (mT M) pc = some (.lcmp, 1)) (ha : bdl a) (hb : bdl b) (k : Gr M d (pc + 1) L (.int (iI (cmpZ a b)) :: S) A r A') : Gr M d pc L (.long (lI b) :: .long (lI a) :: S) A r A' := by
  intro G p l e R s m args below meth c cells slots B Q hC hQ H locs ls hlv hP hD hS
  refine W.lcmp hC.1.1 hC.1.2.1 (hC.dec hl) ?_
  rw [lg_cmpZ ha hb]
  exact k G p l e R s m args below meth c cells slots B Q hC hQ H locs ls hlv hP hD hS
theorem gr_idiv {a b : Int} (hl : lk (mT M) pc = some (.idiv, 1)) (ha : bd a) (hb : bd b) (h0 : 0 < b) (k : Gr M d (pc + 1) L (.int (iI (a.tdiv b)) :: S) A r A') : Gr M d pc L (.int (iI b) :: .int (iI a) :: S) A r A' := by
  intro G p l e R s m args below meth c cells slots B Q hC hQ H locs ls hlv hP hD hS
  refine lv_idiv hC.1.1 hC.1.2.1 (hC.dec hl) (fun h => ?_) ?_
  · have := (iI_eq hb (show bd 0 by omega)).mp h; omega
  rw [iI_div ha hb h0]
  exact k G p l e R s m args below meth c cells slots B Q hC hQ H locs ls hlv hP hD hS
theorem gr_irem {a b : Int} (hl : lk (mT M) pc = some (.irem, 1)) (ha : bd a) (hb : bd b) (h0 : 0 < b) (k : Gr M d (pc + 1) L (.int (iI (a.tmod b)) :: S) A r A') : Gr M d pc L (.int (iI b) :: .int (iI a) :: S) A r A' := by
  intro G p l e R s m args below meth c cells slots B Q hC hQ H locs ls hlv hP hD hS
  refine lv_irem hC.1.1 hC.1.2.1 (hC.dec hl) (fun h => ?_) ?_
  · have := (iI_eq hb (show bd 0 by omega)).mp h; omega
  rw [iI_rem ha hb h0]
  exact k G p l e R s m args below meth c cells slots B Q hC hQ H locs ls hlv hP hD hS
theorem gr_idivN {a b : Int} (hl : lk (mT M) pc = some (.idiv, 1)) (ha : bd a) (hb : bd b) (ha0 : 0 ≤ a) (h0 : 0 < b) (k : Gr M d (pc + 1) L (.int (iI (a / b)) :: S) A r A') : Gr M d pc L (.int (iI b) :: .int (iI a) :: S) A r A' :=
  gr_idiv hl ha hb h0 (by rw [Int.tdiv_eq_ediv_of_nonneg ha0]; exact k)
theorem gr_iremN {a b : Int} (hl : lk (mT M) pc = some (.irem, 1)) (ha : bd a) (hb : bd b) (ha0 : 0 ≤ a) (h0 : 0 < b) (k : Gr M d (pc + 1) L (.int (iI (a % b)) :: S) A r A') : Gr M d pc L (.int (iI b) :: .int (iI a) :: S) A r A' :=
  gr_irem hl ha hb h0 (by rw [Int.tmod_eq_emod_of_nonneg ha0]; exact k)
theorem gr_lremN {a b : Int} (hl : lk (mT M) pc = some (.lrem, 1)) (ha : bdl a) (hb : bdl b) (ha0 : 0 ≤ a) (h0 : 0 < b) (k : Gr M d (pc + 1) L (.long (lI (a % b)) :: S) A r A') : Gr M d pc L (.long (lI b) :: .long (lI a) :: S) A r A' := by
  intro G p l e R s m args below meth c cells slots B Q hC hQ H locs ls hlv hP hD hS
  refine lv_lrem hC.1.1 hC.1.2.1 (hC.dec hl) (fun h => ?_) ?_
  · have := (lI_eq hb (show bdl 0 by omega)).mp h; omega
  rw [lI_rem ha hb h0, Int.tmod_eq_emod_of_nonneg ha0]
  exact k G p l e R s m args below meth c cells slots B Q hC hQ H locs ls hlv hP hD hS
theorem gr_ifT {c0 : Jvm.ClassFile.Cond} {a off : Int} {t : Nat} (hl : lk (mT M) pc = some (.ifCond c0 off, 3)) (ht : (pc : Int) + off = (t : Int)) (ha : bd a) (hc : cI c0 a 0) (k : Gr M d t L S A r A') : Gr M d pc L (.int (iI a) :: S) A r A' := by
  intro G p l e R s m args below meth c cells slots B Q hC hQ H locs ls hlv hP hD hS
  cases c0 with
  | eq => exact lv_if_eq (tgt := t) hC.1.1 hC.1.2.1 (hC.dec hl) ht (fun _ => k G p l e R s m args below meth c cells slots B Q hC hQ H locs ls hlv hP hD hS) (fun h => absurd ((iI_eq ha (show bd 0 by omega)).mpr hc) h)
  | ne => exact lv_if_ne (tgt := t) hC.1.1 hC.1.2.1 (hC.dec hl) ht (fun _ => k G p l e R s m args below meth c cells slots B Q hC hQ H locs ls hlv hP hD hS) (fun h => absurd ((iI_eq ha (show bd 0 by omega)).mp h) hc)
  | lt => exact lv_if_lt (tgt := t) hC.1.1 hC.1.2.1 (hC.dec hl) ht (fun _ => k G p l e R s m args below meth c cells slots B Q hC hQ H locs ls hlv hP hD hS) (fun h => absurd ((iI_lt ha (show bd 0 by omega)).mpr hc) h)
  | ge => exact lv_if_ge (tgt := t) hC.1.1 hC.1.2.1 (hC.dec hl) ht (fun _ => k G p l e R s m args below meth c cells slots B Q hC hQ H locs ls hlv hP hD hS) (fun h => absurd ((iI_le (show bd 0 by omega) ha).mpr hc) h)
  | gt => exact lv_if_gt (tgt := t) hC.1.1 hC.1.2.1 (hC.dec hl) ht (fun _ => k G p l e R s m args below meth c cells slots B Q hC hQ H locs ls hlv hP hD hS) (fun h => absurd ((iI_lt (show bd 0 by omega) ha).mpr hc) h)
  | le => exact lv_if_le (tgt := t) hC.1.1 hC.1.2.1 (hC.dec hl) ht (fun _ => k G p l e R s m args below meth c cells slots B Q hC hQ H locs ls hlv hP hD hS) (fun h => absurd ((iI_le ha (show bd 0 by omega)).mpr hc) h)
theorem gr_ifF {c0 : Jvm.ClassFile.Cond} {a off : Int} {t : Nat} (hl : lk (mT M) pc = some (.ifCond c0 off, 3)) (ht : (pc : Int) + off = (t : Int)) (ha : bd a) (hc : ¬ cI c0 a 0) (k : Gr M d (pc + 3) L S A r A') : Gr M d pc L (.int (iI a) :: S) A r A' := by
  intro G p l e R s m args below meth c cells slots B Q hC hQ H locs ls hlv hP hD hS
  cases c0 with
  | eq => exact lv_if_eq (tgt := t) hC.1.1 hC.1.2.1 (hC.dec hl) ht (fun h => absurd ((iI_eq ha (show bd 0 by omega)).mp h) hc) (fun _ => k G p l e R s m args below meth c cells slots B Q hC hQ H locs ls hlv hP hD hS)
  | ne => exact lv_if_ne (tgt := t) hC.1.1 hC.1.2.1 (hC.dec hl) ht (fun h => absurd (fun z => h ((iI_eq ha (show bd 0 by omega)).mpr z)) hc) (fun _ => k G p l e R s m args below meth c cells slots B Q hC hQ H locs ls hlv hP hD hS)
  | lt => exact lv_if_lt (tgt := t) hC.1.1 hC.1.2.1 (hC.dec hl) ht (fun h => absurd ((iI_lt ha (show bd 0 by omega)).mp h) hc) (fun _ => k G p l e R s m args below meth c cells slots B Q hC hQ H locs ls hlv hP hD hS)
  | ge => exact lv_if_ge (tgt := t) hC.1.1 hC.1.2.1 (hC.dec hl) ht (fun h => absurd ((iI_le (show bd 0 by omega) ha).mp h) hc) (fun _ => k G p l e R s m args below meth c cells slots B Q hC hQ H locs ls hlv hP hD hS)
  | gt => exact lv_if_gt (tgt := t) hC.1.1 hC.1.2.1 (hC.dec hl) ht (fun h => absurd ((iI_lt (show bd 0 by omega) ha).mp h) hc) (fun _ => k G p l e R s m args below meth c cells slots B Q hC hQ H locs ls hlv hP hD hS)
  | le => exact lv_if_le (tgt := t) hC.1.1 hC.1.2.1 (hC.dec hl) ht (fun h => absurd ((iI_le ha (show bd 0 by omega)).mp h) hc) (fun _ => k G p l e R s m args below meth c cells slots B Q hC hQ H locs ls hlv hP hD hS)
theorem gr_icT {c0 : Jvm.ClassFile.Cond} {a b off : Int} {t : Nat} (hl : lk (mT M) pc = some (.if_icmp c0 off, 3)) (ht : (pc : Int) + off = (t : Int)) (ha : bd a) (hb : bd b) (hc : cI c0 a b) (k : Gr M d t L S A r A') : Gr M d pc L (.int (iI b) :: .int (iI a) :: S) A r A' := by
  intro G p l e R s m args below meth c cells slots B Q hC hQ H locs ls hlv hP hD hS
  cases c0 with
  | eq => exact lv_icmp_eq (tgt := t) hC.1.1 hC.1.2.1 (hC.dec hl) ht (fun _ => k G p l e R s m args below meth c cells slots B Q hC hQ H locs ls hlv hP hD hS) (fun h => absurd ((iI_eq ha hb).mpr hc) h)
  | ne => exact lv_icmp_ne (tgt := t) hC.1.1 hC.1.2.1 (hC.dec hl) ht (fun _ => k G p l e R s m args below meth c cells slots B Q hC hQ H locs ls hlv hP hD hS) (fun h => absurd ((iI_eq ha hb).mp h) hc)
  | lt => exact lv_icmp_lt (tgt := t) hC.1.1 hC.1.2.1 (hC.dec hl) ht (fun _ => k G p l e R s m args below meth c cells slots B Q hC hQ H locs ls hlv hP hD hS) (fun h => absurd ((iI_lt ha hb).mpr hc) h)
  | ge => exact lv_icmp_ge (tgt := t) hC.1.1 hC.1.2.1 (hC.dec hl) ht (fun _ => k G p l e R s m args below meth c cells slots B Q hC hQ H locs ls hlv hP hD hS) (fun h => absurd ((iI_le hb ha).mpr hc) h)
  | gt => exact lv_icmp_gt (tgt := t) hC.1.1 hC.1.2.1 (hC.dec hl) ht (fun _ => k G p l e R s m args below meth c cells slots B Q hC hQ H locs ls hlv hP hD hS) (fun h => absurd ((iI_lt hb ha).mpr hc) h)
  | le => exact lv_icmp_le (tgt := t) hC.1.1 hC.1.2.1 (hC.dec hl) ht (fun _ => k G p l e R s m args below meth c cells slots B Q hC hQ H locs ls hlv hP hD hS) (fun h => absurd ((iI_le ha hb).mpr hc) h)
theorem gr_icF {c0 : Jvm.ClassFile.Cond} {a b off : Int} {t : Nat} (hl : lk (mT M) pc = some (.if_icmp c0 off, 3)) (ht : (pc : Int) + off = (t : Int)) (ha : bd a) (hb : bd b) (hc : ¬ cI c0 a b) (k : Gr M d (pc + 3) L S A r A') : Gr M d pc L (.int (iI b) :: .int (iI a) :: S) A r A' := by
  intro G p l e R s m args below meth c cells slots B Q hC hQ H locs ls hlv hP hD hS
  cases c0 with
  | eq => exact lv_icmp_eq (tgt := t) hC.1.1 hC.1.2.1 (hC.dec hl) ht (fun h => absurd ((iI_eq ha hb).mp h) hc) (fun _ => k G p l e R s m args below meth c cells slots B Q hC hQ H locs ls hlv hP hD hS)
  | ne => exact lv_icmp_ne (tgt := t) hC.1.1 hC.1.2.1 (hC.dec hl) ht (fun h => absurd (fun z => h ((iI_eq ha hb).mpr z)) hc) (fun _ => k G p l e R s m args below meth c cells slots B Q hC hQ H locs ls hlv hP hD hS)
  | lt => exact lv_icmp_lt (tgt := t) hC.1.1 hC.1.2.1 (hC.dec hl) ht (fun h => absurd ((iI_lt ha hb).mp h) hc) (fun _ => k G p l e R s m args below meth c cells slots B Q hC hQ H locs ls hlv hP hD hS)
  | ge => exact lv_icmp_ge (tgt := t) hC.1.1 hC.1.2.1 (hC.dec hl) ht (fun h => absurd ((iI_le hb ha).mp h) hc) (fun _ => k G p l e R s m args below meth c cells slots B Q hC hQ H locs ls hlv hP hD hS)
  | gt => exact lv_icmp_gt (tgt := t) hC.1.1 hC.1.2.1 (hC.dec hl) ht (fun h => absurd ((iI_lt hb ha).mp h) hc) (fun _ => k G p l e R s m args below meth c cells slots B Q hC hQ H locs ls hlv hP hD hS)
  | le => exact lv_icmp_le (tgt := t) hC.1.1 hC.1.2.1 (hC.dec hl) ht (fun h => absurd ((iI_le ha hb).mp h) hc) (fun _ => k G p l e R s m args below meth c cells slots B Q hC hQ H locs ls hlv hP hD hS)
theorem gr_tabIn {dflt lo hi : Int} {offs : Array Int} {len : Nat} {a off : Int} {t : Nat} (hl : lk (mT M) pc = some (.tableswitch dflt lo hi offs, len)) (ha : bd a) (h1 : lo ≤ a) (h2 : a ≤ hi) (ho : offs[(a - lo).toNat]? = some off) (ht : (pc : Int) + off = (t : Int)) (k : Gr M d t L S A r A') : Gr M d pc L (.int (iI a) :: S) A r A' := by
  intro G p l e R s m args below meth c cells slots B Q hC hQ H locs ls hlv hP hD hS
  refine lv_tableIn (tgt := t) hC.1.1 hC.1.2.1 (hC.dec hl) ?_ ?_ ?_ ht (k G p l e R s m args below meth c cells slots B Q hC hQ H locs ls hlv hP hD hS)
  · rw [iI_toInt ha]; omega
  · rw [iI_toInt ha]; omega
  · rw [iI_toInt ha]; exact ho
theorem gr_tabOut {dflt lo hi : Int} {offs : Array Int} {len : Nat} {a : Int} {t : Nat} (hl : lk (mT M) pc = some (.tableswitch dflt lo hi offs, len)) (ha : bd a) (h1 : a < lo ∨ hi < a) (ht : (pc : Int) + dflt = (t : Int)) (k : Gr M d t L S A r A') : Gr M d pc L (.int (iI a) :: S) A r A' := by
  intro G p l e R s m args below meth c cells slots B Q hC hQ H locs ls hlv hP hD hS
  refine lv_tableOut (tgt := t) hC.1.1 hC.1.2.1 (hC.dec hl) ?_ ht (k G p l e R s m args below meth c cells slots B Q hC hQ H locs ls hlv hP hD hS)
  rw [iI_toInt ha]; exact h1
/-- other words for the same -/
theorem gr_ti {x y : Int32} (h : x = y) (k : Gr M d pc L (.int y :: S) A r A') : Gr M d pc L (.int x :: S) A r A' := h ▸ k
theorem gr_tl {x y : Int64} (h : x = y) (k : Gr M d pc L (.long y :: S) A r A') : Gr M d pc L (.long x :: S) A r A' := h ▸ k
theorem gr_cv {A2 : AH} (hL : L = L') (hS : S = S') (hA : A = A2) (k : Gr M d pc L' S' A2 r A') : Gr M d pc L S A r A' := by subst hL hS hA; exact k
theorem gr_h {A2 : AH} (hA : A = A2) (k : Gr M d pc L S A2 r A') : Gr M d pc L S A r A' := by subst hA; exact k
theorem gr_getf {idx ci k0 a : Nat} {fs : List Value} {v : Value} (hl : lk (mT M) pc = some (.getfield idx, 3)) (hf : fk3 flT (mK M) idx = some (ci, k0)) (hA : A a = .inr (ci, fs)) (ha : Nat.blt a NC = true) (hv : fs[k0]? = some v) (k : Gr M d (pc + 3) L (v :: S) A r A') : Gr M d pc L (.ref a :: S) A r A' := by
  intro G p l e R s m args below meth c cells slots B Q hC hQ H locs ls hlv hP hD hS
  have ha : a < NC := Nat.le_of_ble_eq_true ha
  obtain ⟨q, hq1, hq2, hq3, hq4⟩ := fl_ok _ (fk3_mem hf)
  obtain ⟨C, T, N⟩ := q
  exact va_get (ws := gW G A) (own := clsN (mK M)) (ref := C) (C := C) (T := T) (N := N) (ci := ci) (fs := fs.map (trV G)) (v := trV G v) hC.1.1 hC.1.2.1 hC.2.1 (inT_all hq1) hC.1.2.2.2.1 hC.2.2.2.1 hP a (by rw [gW_at ha, hA]; rfl) hq1 k0 hq2 (hC.2.1 _ hq3) (fun x hx => by rw [show (T k0).1 = C from hq4] at hx; exact hx) (by rw [List.getElem?_map, hv]; rfl) (hC.dec hl) (k G p l e R s m args below meth c cells slots B Q hC hQ H locs ls hlv hP hD hS)
/-- which fields are ints that are written -/
def piT : List (Nat × Nat) := [(0, 1), (0, 2), (1, 2), (2, 1), (3, 1), (3, 2), (4, 3), (5, 1), (7, 1), (7, 2), (7, 4), (7, 6), (7, 8)]
theorem pi_ok : ∀ e ∈ piT, ∀ q : vw_C, vwCl[e.1]? = some q → parseFieldDescriptor (q.2.1 e.2).2.2.1 = some .int ∧ (q.2.1 e.2).2.2.2 = false := List.forall_mem_cons.mpr ⟨fun q h => by cases h; exact ⟨by decide +kernel, rfl⟩, List.forall_mem_cons.mpr ⟨fun q h => by cases h; exact ⟨by decide +kernel, rfl⟩, List.forall_mem_cons.mpr ⟨fun q h => by cases h; exact ⟨by decide +kernel, rfl⟩, List.forall_mem_cons.mpr ⟨fun q h => by cases h; exact ⟨by decide +kernel, rfl⟩, List.forall_mem_cons.mpr ⟨fun q h => by cases h; exact ⟨by decide +kernel, rfl⟩, List.forall_mem_cons.mpr ⟨fun q h => by cases h; exact ⟨by decide +kernel, rfl⟩, List.forall_mem_cons.mpr ⟨fun q h => by cases h; exact ⟨by decide +kernel, rfl⟩, List.forall_mem_cons.mpr ⟨fun q h => by cases h; exact ⟨by decide +kernel, rfl⟩, List.forall_mem_cons.mpr ⟨fun q h => by cases h; exact ⟨by decide +kernel, rfl⟩, List.forall_mem_cons.mpr ⟨fun q h => by cases h; exact ⟨by decide +kernel, rfl⟩, List.forall_mem_cons.mpr ⟨fun q h => by cases h; exact ⟨by decide +kernel, rfl⟩, List.forall_mem_cons.mpr ⟨fun q h => by cases h; exact ⟨by decide +kernel, rfl⟩, List.forall_mem_cons.mpr ⟨fun q h => by cases h; exact ⟨by decide +kernel, rfl⟩, fun _ h => absurd h List.not_mem_nil⟩⟩⟩⟩⟩⟩⟩⟩⟩⟩⟩⟩⟩
def pik : List (Nat × Nat) → Nat → Nat → Bool
  | [], _, _ => false
  | (a, b) :: t, x, y => match Nat.beq a x && Nat.beq b y with
    | true => true
    | false => pik t x y
theorem pik_mem : ∀ {l : List (Nat × Nat)} {x y : Nat}, pik l x y = true → (x, y) ∈ l
  | [], _, _, h => by simp [pik] at h
  | (a, b) :: t, x, y, h => by
    simp only [pik] at h
    cases hb : (Nat.beq a x && Nat.beq b y) with
    | true =>
      simp only [Bool.and_eq_true] at hb
      rw [← Nat.eq_of_beq_eq_true hb.1, ← Nat.eq_of_beq_eq_true hb.2]
      exact List.mem_cons_self
    | false =>
      rw [hb] at h
      exact List.mem_cons_of_mem _ (pik_mem h)
theorem gr_putf {idx ci k0 a : Nat} {fs fs' : List Value} {x : Int32} (hl : lk (mT M) pc = some (.putfield idx, 3)) (hf : fk3 flT (mK M) idx = some (ci, k0)) (hpi : pik piT ci k0 = true) (hA : A a = .inr (ci, fs)) (ha : Nat.blt a NC = true) (hle : Nat.blt k0 fs.length = true) (hfs : fs.set k0 (.int x) = fs') (k : Gr M d (pc + 3) L S (va_up A a (.inr (ci, fs'))) r A') : Gr M d pc L (.int x :: .ref a :: S) A r A' := by
  intro G p l e_ R s m args below meth c cells slots B Q hC hQ H locs ls hlv hP hD hS
  have ha : a < NC := Nat.le_of_ble_eq_true ha
  have hle : k0 < fs.length := Nat.le_of_ble_eq_true hle
  obtain ⟨q, hq1, hq2, hq3, hq4⟩ := fl_ok _ (fk3_mem hf)
  obtain ⟨hp1, hp2⟩ := pi_ok _ (pik_mem hpi) q hq1
  obtain ⟨⟨ty, hty⟩, hnm⟩ := nm_all hq1
  obtain ⟨C, T, N⟩ := q
  refine va_put (D := gD G) (ws := gW G A) (own := clsN (mK M)) (ref := C) (C := C) (T := T) (N := N) (ci := ci) (fs := fs.map (trV G)) (v := .int x) (ty := .int) hC.1.1 hC.1.2.1 hC.2.1 (inT_all hq1) ty hty hnm hC.1.2.2.2.1 hC.2.2.2.1 hP hD hS a (by rw [gW_at ha, hA]; rfl) hq1 k0 hq2 (hC.2.1 _ hq3) (fun z hz => by rw [show (T k0).1 = C from hq4] at hz; exact hz) hp2 hp1 rfl rfl (by rw [List.length_map]; exact hle) (hC.dec hl) (fun H1 locs1 hP1 hD1 hS1 => ?_)
  have e : (gW G A).set a (gA G a, .inr (ci, (fs.map (trV G)).set k0 (.int x))) = gW G (va_up A a (.inr (ci, fs'))) := by
    rw [← gW_set G A _ ha, ← hfs]
    simp [trE, List.map_set, trV]
  rw [e] at hP1 hD1
  exact k G p l e_ R s m args below meth c cells slots B Q hC hQ H1 locs1 ls hlv hP1 hD1 hS1
theorem gr_iald {a n j : Nat} {f : Nat → Int32} {i : Int32} (hl : lk (mT M) pc = some (.iaload, 1)) (hA : A a = Ia n f) (ha : Nat.blt a NC = true) (hi : ix i n j) (k : Gr M d (pc + 1) L (.int (f j) :: S) A r A') : Gr M d pc L (.int i :: .ref a :: S) A r A' := by
  intro G p l e R s m args below meth c cells slots B Q hC hQ H locs ls hlv hP hD hS
  have ha : a < NC := Nat.le_of_ble_eq_true ha
  refine va_iald (D := gD G) (ws := gW G A) (tys := gTy G) (f := f) hC.1.1 hC.1.2.1 hC.2.2.2.1 hP a 0 (by rw [gW_at ha, hA]; rfl) rfl hi.1 (hC.dec hl) ?_
  rw [hi.2]
  exact k G p l e R s m args below meth c cells slots B Q hC hQ H locs ls hlv hP hD hS
theorem gr_lald {a n j : Nat} {f : Nat → Int64} {i : Int32} (hl : lk (mT M) pc = some (.laload, 1)) (hA : A a = La n f) (ha : Nat.blt a NC = true) (hi : ix i n j) (k : Gr M d (pc + 1) L (.long (f j) :: S) A r A') : Gr M d pc L (.int i :: .ref a :: S) A r A' := by
  intro G p l e R s m args below meth c cells slots B Q hC hQ H locs ls hlv hP hD hS
  have ha : a < NC := Nat.le_of_ble_eq_true ha
  refine va_lald (D := gD G) (ws := gW G A) (tys := gTy G) (f := f) hC.1.1 hC.1.2.1 hC.2.2.2.1 hP a 1 (by rw [gW_at ha, hA]; rfl) rfl hi.1 (hC.dec hl) ?_
  rw [hi.2]
  exact k G p l e R s m args below meth c cells slots B Q hC hQ H locs ls hlv hP hD hS
theorem gr_zald {a n j : Nat} {f : Nat → Int32} {i : Int32} (hl : lk (mT M) pc = some (.baload, 1)) (hA : A a = Za n f) (ha : Nat.blt a NC = true) (hi : ix i n j) (k : Gr M d (pc + 1) L (.int (f j) :: S) A r A') : Gr M d pc L (.int i :: .ref a :: S) A r A' := by
  intro G p l e R s m args below meth c cells slots B Q hC hQ H locs ls hlv hP hD hS
  have ha : a < NC := Nat.le_of_ble_eq_true ha
  refine va_zald (D := gD G) (ws := gW G A) (tys := gTy G) (f := f) hC.1.1 hC.1.2.1 hC.2.2.2.1 hP a 2 (by rw [gW_at ha, hA]; rfl) rfl hi.1 (hC.dec hl) ?_
  rw [hi.2]
  exact k G p l e R s m args below meth c cells slots B Q hC hQ H locs ls hlv hP hD hS
theorem gr_iast {a n j : Nat} {f : Nat → Int32} {i : Int32} {x : Int32} (hl : lk (mT M) pc = some (.iastore, 1)) (hA : A a = Ia n f) (ha : Nat.blt a NC = true) (hi : ix i n j) (k : Gr M d (pc + 1) L S (va_up A a (Ia n (upd f j x))) r A') : Gr M d pc L (.int x :: .int i :: .ref a :: S) A r A' := by
  intro G p l e R s m args below meth c cells slots B Q hC hQ H locs ls hlv hP hD hS
  have ha : a < NC := Nat.le_of_ble_eq_true ha
  refine va_iast (D := gD G) (ws := gW G A) (tys := gTy G) (f := f) hC.1.1 hC.1.2.1 hC.2.2.2.1 hP hD hS a 0 (by rw [gW_at ha, hA]; rfl) rfl hi.1 (hC.dec hl) (fun H1 locs1 hP1 hD1 hS1 => ?_)
  rw [hi.2] at hP1 hD1
  have hP2 : va_P (gD G) vwCl (gW G (va_up A a (Ia n (upd f j x)))) H1 := by rw [← gW_set G A _ ha]; exact hP1
  have hD2 : va_D B (gW G (va_up A a (Ia n (upd f j x)))) := by rw [← gW_set G A _ ha]; exact hD1
  exact k G p l e R s m args below meth c cells slots B Q hC hQ H1 locs1 ls hlv hP2 hD2 hS1
theorem gr_last {a n j : Nat} {f : Nat → Int64} {i : Int32} {x : Int64} (hl : lk (mT M) pc = some (.lastore, 1)) (hA : A a = La n f) (ha : Nat.blt a NC = true) (hi : ix i n j) (k : Gr M d (pc + 1) L S (va_up A a (La n (vp_updL f j x))) r A') : Gr M d pc L (.long x :: .int i :: .ref a :: S) A r A' := by
  intro G p l e R s m args below meth c cells slots B Q hC hQ H locs ls hlv hP hD hS
  have ha : a < NC := Nat.le_of_ble_eq_true ha
  refine va_last (D := gD G) (ws := gW G A) (tys := gTy G) (f := f) hC.1.1 hC.1.2.1 hC.2.2.2.1 hP hD hS a 1 (by rw [gW_at ha, hA]; rfl) rfl hi.1 (hC.dec hl) (fun H1 locs1 hP1 hD1 hS1 => ?_)
  rw [hi.2] at hP1 hD1
  have hP2 : va_P (gD G) vwCl (gW G (va_up A a (La n (vp_updL f j x)))) H1 := by rw [← gW_set G A _ ha]; exact hP1
  have hD2 : va_D B (gW G (va_up A a (La n (vp_updL f j x)))) := by rw [← gW_set G A _ ha]; exact hD1
  exact k G p l e R s m args below meth c cells slots B Q hC hQ H1 locs1 ls hlv hP2 hD2 hS1
theorem gr_zast {a n j : Nat} {f : Nat → Int32} {i : Int32} {x : Int32} (hl : lk (mT M) pc = some (.bastore, 1)) (hA : A a = Za n f) (ha : Nat.blt a NC = true) (hi : ix i n j) (k : Gr M d (pc + 1) L S (va_up A a (Za n (upd f j (vp_nar .boolean x)))) r A') : Gr M d pc L (.int x :: .int i :: .ref a :: S) A r A' := by
  intro G p l e R s m args below meth c cells slots B Q hC hQ H locs ls hlv hP hD hS
  have ha : a < NC := Nat.le_of_ble_eq_true ha
  refine va_zast (D := gD G) (ws := gW G A) (tys := gTy G) (f := f) hC.1.1 hC.1.2.1 hC.2.2.2.1 hP hD hS a 2 (by rw [gW_at ha, hA]; rfl) rfl hi.1 (hC.dec hl) (fun H1 locs1 hP1 hD1 hS1 => ?_)
  rw [hi.2] at hP1 hD1
  have hP2 : va_P (gD G) vwCl (gW G (va_up A a (Za n (upd f j (vp_nar .boolean x))))) H1 := by rw [← gW_set G A _ ha]; exact hP1
  have hD2 : va_D B (gW G (va_up A a (Za n (upd f j (vp_nar .boolean x))))) := by rw [← gW_set G A _ ha]; exact hD1
  exact k G p l e R s m args below meth c cells slots B Q hC hQ H1 locs1 ls hlv hP2 hD2 hS1
theorem gr_aald {a n j q : Nat} {f : Nat → Option Nat} {i : Int32} (hl : lk (mT M) pc = some (.aaload, 1)) (hA : A a = Ra n f) (ha : Nat.blt a NC = true) (hi : ix i n j) (hq : f j = some q) (k : Gr M d (pc + 1) L (.ref q :: S) A r A') : Gr M d pc L (.int i :: .ref a :: S) A r A' := by
  intro G p l e R s m args below meth c cells slots B Q hC hQ H locs ls hlv hP hD hS
  have ha : a < NC := Nat.le_of_ble_eq_true ha
  refine va_aldq (D := gD G) (ws := gW G A) (tys := gTy G) (f := trR G f) hC.1.1 hC.1.2.1 hC.2.2.2.1 hP a 3 (by rw [gW_at ha, hA]; rfl) rfl hi.1 (hC.dec hl) ?_
  rw [hi.2, show trR G f j = some (gA G q) by simp [trR, hq]]
  exact k G p l e R s m args below meth c cells slots B Q hC hQ H locs ls hlv hP hD hS
theorem gr_alen {a t n : Nat} {f : (Nat → Int32) ⊕ (Nat → Int64) ⊕ (Nat → UInt32) ⊕ (Nat → UInt64) ⊕ (Nat → Option Nat)} (hl : lk (mT M) pc = some (.arraylength, 1)) (hA : A a = .inl (t, n, f)) (ha : Nat.blt a NC = true) (ht : Nat.blt t 4 = true) (k : Gr M d (pc + 1) L (.int (iI (n : Int)) :: S) A r A') : Gr M d pc L (.ref a :: S) A r A' := by
  intro G p l e R s m args below meth c cells slots B Q hC hQ H locs ls hlv hP hD hS
  have ha : a < NC := Nat.le_of_ble_eq_true ha
  have ht : t < 4 := Nat.le_of_ble_eq_true ht
  have h4 : ∃ ty, (gTy G)[t]? = some (gT G t, ty) := by
    match t, ht with
    | 0, _ => exact ⟨_, rfl⟩
    | 1, _ => exact ⟨_, rfl⟩
    | 2, _ => exact ⟨_, rfl⟩
    | 3, _ => exact ⟨_, rfl⟩
    | n + 4, ht => omega
  obtain ⟨ty, h4⟩ := h4
  exact va_alen (D := gD G) (ws := gW G A) (tys := gTy G) (x := (n, trA G f)) hC.1.1 hC.1.2.1 hC.2.2.2.1 hP a t (by rw [gW_at ha, hA]; rfl) h4 (iI_nI n).symm (hC.dec hl) (k G p l e R s m args below meth c cells slots B Q hC hQ H locs ls hlv hP hD hS)
theorem gr_gets (hl : lk (mT M) pc = some (.getstatic 51, 3)) (hc : mK M = 4) (k : Gr M d (pc + 3) L (.ref 1000 :: S) A r A') : Gr M d pc L S A r A' := by
  intro G p l e R s m args below meth c cells slots B Q hC hQ H locs ls hlv hP hD hS
  refine va_getsN (own := clsN (mK M)) (ref := "BallsInAir") (host := RX6) hC.1.1 hC.1.2.1 hC.2.2.2.2.2.1.1 hS hC.1.2.2.2.1 ?_ (fun x hx => hx) (hC.dec hl) (k G p l e R s m args below meth c cells slots B Q hC hQ H locs ls hlv hP hD hS)
  rw [hc]
  exact va_Nw.use rfl (hC.2.2.1 _ (by decide +kernel))
theorem gr_pv {i : Int32} {j : Nat} {x : Int32} (hl : lk (mT M) pc = some (.iaload, 1)) (hi : ix i 5 j) (hx : pvF j = .int x) (k : Gr M d (pc + 1) L (.int x :: S) A r A') : Gr M d pc L (.int i :: .ref 1000 :: S) A r A' := by
  intro G p l e R s m args below meth c cells slots B Q hC hQ H locs ls hlv hP hD hS
  exact va_ti hC.1.1 hC.1.2.1 hC.2.2.2.2.2.1.2 hS hi.1 (by rw [hi.2]; exact hx) (hC.dec hl) (k G p l e R s m args below meth c cells slots B Q hC hQ H locs ls hlv hP hD hS)
theorem gr_mmax {idx : Nat} {x y : Int32} (hk : Cond.methodLink (clsN (mK M)) idx Lib.Math.max.name ∈ TB) (hl : lk (mT M) pc = some (.invokestatic idx, 3)) (hcat : Nat.ble (S.map fun v => v.category).sum 8 = true) (k : Gr M (d + 1) (pc + 3) L (.int (if x < y then y else x) :: S) A r A') : Gr M (d + 1) pc L (.int y :: .int x :: S) A r A' := by
  intro G p l e R s m args below meth c cells slots B Q hC hQ H locs ls hlv hP hD hS
  have hcat : ((S.map (trV G)).map fun v => v.category).sum ≤ 8 := by rw [List.map_map]; have hcat := Nat.le_of_ble_eq_true hcat; simpa [Function.comp_def, trV_cat] using hcat
  obtain ⟨h1, h2, h3, h4⟩ := hC.2.2.2.2.2.2.2
  exact va_mmax hC.1.1 hC.1.2.1 (by rw [hC.1.2.2.1, hlv.1]) hC.1.2.2.2.1 (hC.2.1 _ hk) (hC.2.1 _ st_max) (hC.2.1 _ in_math) (hC.2.1 _ cd_max) (by omega) (by omega) h3 h4 (hC.dec hl) (k G p l e R s m args below meth c cells slots B Q hC hQ H locs ls hlv hP hD hS)
theorem gr_mmin {idx : Nat} {x y : Int32} (hk : Cond.methodLink (clsN (mK M)) idx Lib.Math.min.name ∈ TB) (hl : lk (mT M) pc = some (.invokestatic idx, 3)) (hcat : Nat.ble (S.map fun v => v.category).sum 8 = true) (k : Gr M (d + 1) (pc + 3) L (.int (if y < x then y else x) :: S) A r A') : Gr M (d + 1) pc L (.int y :: .int x :: S) A r A' := by
  intro G p l e R s m args below meth c cells slots B Q hC hQ H locs ls hlv hP hD hS
  have hcat : ((S.map (trV G)).map fun v => v.category).sum ≤ 8 := by rw [List.map_map]; have hcat := Nat.le_of_ble_eq_true hcat; simpa [Function.comp_def, trV_cat] using hcat
  obtain ⟨h1, h2, h3, h4⟩ := hC.2.2.2.2.2.2.2
  exact va_mmin hC.1.1 hC.1.2.1 (by rw [hC.1.2.2.1, hlv.1]) hC.1.2.2.2.1 (hC.2.1 _ hk) (hC.2.1 _ st_min) (hC.2.1 _ in_math) (hC.2.1 _ cd_min) (by omega) (by omega) h3 h4 (hC.dec hl) (k G p l e R s m args below meth c cells slots B Q hC hQ H locs ls hlv hP hD hS)
end RA
