-- ===== PART A: goes FIRST, ahead of the names: the tables' words, and 'selects' of the private methods out of them =====
/-- a private method of a class that the tables say can be made, by its rows of tables_1 -/
def lw_okq (q : MethodName × Nat) : Prop := (q.1.cls ≠ "java/lang/invoke/MethodHandle" ∧ q.1.cls ≠ "java/lang/invoke/VarHandle") ∧ Cond.instantiable q.1.cls q.2 ∈ tables_1 ∧ Cond.privateMethod q.1 ∈ tables_1 ∧ Cond.instanceMethod q.1 ∈ tables_1
theorem lw_p0 : lw_okq (⟨"BallsInAir", "chosen", "(I)LBallsInAir$Pattern;"⟩, 9) := ⟨⟨by decide +kernel, by decide +kernel⟩, List.mem_of_getElem? (i := 12) (by decide +kernel), List.mem_of_getElem? (i := 230) (by decide +kernel), List.mem_of_getElem? (i := 231) (by decide +kernel)⟩
theorem lw_p1 : lw_okq (⟨"BallsInAir", "becomeTrial", "()I"⟩, 9) := ⟨⟨by decide +kernel, by decide +kernel⟩, List.mem_of_getElem? (i := 12) (by decide +kernel), List.mem_of_getElem? (i := 274) (by decide +kernel), List.mem_of_getElem? (i := 275) (by decide +kernel)⟩
theorem lw_p2 : lw_okq (⟨"BallsInAir$Pattern", "cycleBeats", "(I)I"⟩, 2) := ⟨⟨by decide +kernel, by decide +kernel⟩, List.mem_of_getElem? (i := 34) (by decide +kernel), List.mem_of_getElem? (i := 332) (by decide +kernel), List.mem_of_getElem? (i := 333) (by decide +kernel)⟩
theorem lw_p3 : lw_okq (⟨"BallsInAir$Pattern", "thrownBefore", "(I)I"⟩, 2) := ⟨⟨by decide +kernel, by decide +kernel⟩, List.mem_of_getElem? (i := 34) (by decide +kernel), List.mem_of_getElem? (i := 336) (by decide +kernel), List.mem_of_getElem? (i := 337) (by decide +kernel)⟩
theorem lw_p4 : lw_okq (⟨"BallsInAir$Census", "fillRow", "(I)V"⟩, 3) := ⟨⟨by decide +kernel, by decide +kernel⟩, List.mem_of_getElem? (i := 69) (by decide +kernel), List.mem_of_getElem? (i := 358) (by decide +kernel), List.mem_of_getElem? (i := 359) (by decide +kernel)⟩
theorem lw_p5 : lw_okq (⟨"BallsInAir$Census", "placeBit", "(I)I"⟩, 3) := ⟨⟨by decide +kernel, by decide +kernel⟩, List.mem_of_getElem? (i := 69) (by decide +kernel), List.mem_of_getElem? (i := 368) (by decide +kernel), List.mem_of_getElem? (i := 369) (by decide +kernel)⟩
theorem lw_p6 : lw_okq (⟨"BallsInAir$Census", "roundsOf", "(I)I"⟩, 3) := ⟨⟨by decide +kernel, by decide +kernel⟩, List.mem_of_getElem? (i := 69) (by decide +kernel), List.mem_of_getElem? (i := 372) (by decide +kernel), List.mem_of_getElem? (i := 373) (by decide +kernel)⟩
theorem lw_p7 : lw_okq (⟨"BallsInAir$Census", "fillingsBy", "(III)I"⟩, 3) := ⟨⟨by decide +kernel, by decide +kernel⟩, List.mem_of_getElem? (i := 69) (by decide +kernel), List.mem_of_getElem? (i := 389) (by decide +kernel), List.mem_of_getElem? (i := 390) (by decide +kernel)⟩
theorem lw_p8 : lw_okq (⟨"BallsInAir", "isRanked", "()Z"⟩, 9) := ⟨⟨by decide +kernel, by decide +kernel⟩, List.mem_of_getElem? (i := 12) (by decide +kernel), List.mem_of_getElem? (i := 398) (by decide +kernel), List.mem_of_getElem? (i := 399) (by decide +kernel)⟩
theorem lw_p9 : lw_okq (⟨"BallsInAir", "placeOfPattern", "()I"⟩, 9) := ⟨⟨by decide +kernel, by decide +kernel⟩, List.mem_of_getElem? (i := 12) (by decide +kernel), List.mem_of_getElem? (i := 402) (by decide +kernel), List.mem_of_getElem? (i := 403) (by decide +kernel)⟩
theorem lw_p10 : lw_okq (⟨"BallsInAir$Census", "primesFrom", "(IIILBallsInAir$Pattern;)I"⟩, 3) := ⟨⟨by decide +kernel, by decide +kernel⟩, List.mem_of_getElem? (i := 69) (by decide +kernel), List.mem_of_getElem? (i := 437) (by decide +kernel), List.mem_of_getElem? (i := 438) (by decide +kernel)⟩
theorem lw_p11 : lw_okq (⟨"BallsInAir$Passage", "measure", "(II)V"⟩, 4) := ⟨⟨by decide +kernel, by decide +kernel⟩, List.mem_of_getElem? (i := 85) (by decide +kernel), List.mem_of_getElem? (i := 471) (by decide +kernel), List.mem_of_getElem? (i := 472) (by decide +kernel)⟩
theorem lw_p12 : lw_okq (⟨"BallsInAir$Passage", "enqueue", "(II)V"⟩, 4) := ⟨⟨by decide +kernel, by decide +kernel⟩, List.mem_of_getElem? (i := 85) (by decide +kernel), List.mem_of_getElem? (i := 475) (by decide +kernel), List.mem_of_getElem? (i := 476) (by decide +kernel)⟩
theorem lw_p13 : lw_okq (⟨"BallsInAir$Passage", "enqueueAirsBefore", "(I)V"⟩, 4) := ⟨⟨by decide +kernel, by decide +kernel⟩, List.mem_of_getElem? (i := 85) (by decide +kernel), List.mem_of_getElem? (i := 479) (by decide +kernel), List.mem_of_getElem? (i := 480) (by decide +kernel)⟩
theorem lw_p14 : lw_okq (⟨"BallsInAir$Passage", "enqueueShifted", "(III)V"⟩, 4) := ⟨⟨by decide +kernel, by decide +kernel⟩, List.mem_of_getElem? (i := 85) (by decide +kernel), List.mem_of_getElem? (i := 483) (by decide +kernel), List.mem_of_getElem? (i := 484) (by decide +kernel)⟩
theorem lw_p15 : lw_okq (⟨"BallsInAir$Passage", "firstThrow", "(I)I"⟩, 4) := ⟨⟨by decide +kernel, by decide +kernel⟩, List.mem_of_getElem? (i := 85) (by decide +kernel), List.mem_of_getElem? (i := 487) (by decide +kernel), List.mem_of_getElem? (i := 488) (by decide +kernel)⟩
def lw_privs_1 : List (MethodName × Nat) := [(⟨"BallsInAir", "chosen", "(I)LBallsInAir$Pattern;"⟩, 9), (⟨"BallsInAir", "becomeTrial", "()I"⟩, 9), (⟨"BallsInAir$Pattern", "cycleBeats", "(I)I"⟩, 2), (⟨"BallsInAir$Pattern", "thrownBefore", "(I)I"⟩, 2), (⟨"BallsInAir$Census", "fillRow", "(I)V"⟩, 3), (⟨"BallsInAir$Census", "placeBit", "(I)I"⟩, 3), (⟨"BallsInAir$Census", "roundsOf", "(I)I"⟩, 3), (⟨"BallsInAir$Census", "fillingsBy", "(III)I"⟩, 3), (⟨"BallsInAir", "isRanked", "()Z"⟩, 9), (⟨"BallsInAir", "placeOfPattern", "()I"⟩, 9), (⟨"BallsInAir$Census", "primesFrom", "(IIILBallsInAir$Pattern;)I"⟩, 3), (⟨"BallsInAir$Passage", "measure", "(II)V"⟩, 4), (⟨"BallsInAir$Passage", "enqueue", "(II)V"⟩, 4), (⟨"BallsInAir$Passage", "enqueueAirsBefore", "(I)V"⟩, 4), (⟨"BallsInAir$Passage", "enqueueShifted", "(III)V"⟩, 4), (⟨"BallsInAir$Passage", "firstThrow", "(I)I"⟩, 4)]
theorem lw_r1 : ∀ q ∈ lw_privs_1, lw_okq q := List.forall_mem_cons.mpr ⟨lw_p0, List.forall_mem_cons.mpr ⟨lw_p1, List.forall_mem_cons.mpr ⟨lw_p2, List.forall_mem_cons.mpr ⟨lw_p3, List.forall_mem_cons.mpr ⟨lw_p4, List.forall_mem_cons.mpr ⟨lw_p5, List.forall_mem_cons.mpr ⟨lw_p6, List.forall_mem_cons.mpr ⟨lw_p7, List.forall_mem_cons.mpr ⟨lw_p8, List.forall_mem_cons.mpr ⟨lw_p9, List.forall_mem_cons.mpr ⟨lw_p10, List.forall_mem_cons.mpr ⟨lw_p11, List.forall_mem_cons.mpr ⟨lw_p12, List.forall_mem_cons.mpr ⟨lw_p13, List.forall_mem_cons.mpr ⟨lw_p14, List.forall_mem_cons.mpr ⟨lw_p15, fun _ h => absurd h List.not_mem_nil⟩⟩⟩⟩⟩⟩⟩⟩⟩⟩⟩⟩⟩⟩⟩⟩
theorem lw_p16 : lw_okq (⟨"BallsInAir$Swaps", "enqueue", "(II)V"⟩, 4) := ⟨⟨by decide +kernel, by decide +kernel⟩, List.mem_of_getElem? (i := 104) (by decide +kernel), List.mem_of_getElem? (i := 518) (by decide +kernel), List.mem_of_getElem? (i := 519) (by decide +kernel)⟩
theorem lw_p17 : lw_okq (⟨"BallsInAir$Swaps", "enqueueChanged", "(III)V"⟩, 4) := ⟨⟨by decide +kernel, by decide +kernel⟩, List.mem_of_getElem? (i := 104) (by decide +kernel), List.mem_of_getElem? (i := 523) (by decide +kernel), List.mem_of_getElem? (i := 524) (by decide +kernel)⟩
theorem lw_p18 : lw_okq (⟨"BallsInAir$Swaps", "forgetSeen", "()V"⟩, 4) := ⟨⟨by decide +kernel, by decide +kernel⟩, List.mem_of_getElem? (i := 104) (by decide +kernel), List.mem_of_getElem? (i := 529) (by decide +kernel), List.mem_of_getElem? (i := 530) (by decide +kernel)⟩
theorem lw_p19 : lw_okq (⟨"BallsInAir", "slipRefusal", "(II)I"⟩, 9) := ⟨⟨by decide +kernel, by decide +kernel⟩, List.mem_of_getElem? (i := 12) (by decide +kernel), List.mem_of_getElem? (i := 537) (by decide +kernel), List.mem_of_getElem? (i := 538) (by decide +kernel)⟩
theorem lw_p20 : lw_okq (⟨"BallsInAir", "meets", "(II)Z"⟩, 9) := ⟨⟨by decide +kernel, by decide +kernel⟩, List.mem_of_getElem? (i := 12) (by decide +kernel), List.mem_of_getElem? (i := 541) (by decide +kernel), List.mem_of_getElem? (i := 542) (by decide +kernel)⟩
theorem lw_p21 : lw_okq (⟨"BallsInAir$Passage", "reachBy", "(I)V"⟩, 4) := ⟨⟨by decide +kernel, by decide +kernel⟩, List.mem_of_getElem? (i := 85) (by decide +kernel), List.mem_of_getElem? (i := 555) (by decide +kernel), List.mem_of_getElem? (i := 556) (by decide +kernel)⟩
theorem lw_p22 : lw_okq (⟨"BallsInAir$Passage", "reachOnFrom", "(II)V"⟩, 4) := ⟨⟨by decide +kernel, by decide +kernel⟩, List.mem_of_getElem? (i := 85) (by decide +kernel), List.mem_of_getElem? (i := 559) (by decide +kernel), List.mem_of_getElem? (i := 560) (by decide +kernel)⟩
theorem lw_p23 : lw_okq (⟨"BallsInAirModel", "clashes", "()I"⟩, 18) := ⟨⟨by decide +kernel, by decide +kernel⟩, List.mem_of_getElem? (i := 576) (by decide +kernel), List.mem_of_getElem? (i := 663) (by decide +kernel), List.mem_of_getElem? (i := 664) (by decide +kernel)⟩
theorem lw_p24 : lw_okq (⟨"BallsInAirModel", "remember", "()V"⟩, 18) := ⟨⟨by decide +kernel, by decide +kernel⟩, List.mem_of_getElem? (i := 576) (by decide +kernel), List.mem_of_getElem? (i := 694) (by decide +kernel), List.mem_of_getElem? (i := 695) (by decide +kernel)⟩
theorem lw_p25 : lw_okq (⟨"BallsInAirModel", "takeDraft", "(I)V"⟩, 18) := ⟨⟨by decide +kernel, by decide +kernel⟩, List.mem_of_getElem? (i := 576) (by decide +kernel), List.mem_of_getElem? (i := 698) (by decide +kernel), List.mem_of_getElem? (i := 699) (by decide +kernel)⟩
theorem lw_p26 : lw_okq (⟨"BallsInAirModel", "cycleOf", "(I)I"⟩, 18) := ⟨⟨by decide +kernel, by decide +kernel⟩, List.mem_of_getElem? (i := 576) (by decide +kernel), List.mem_of_getElem? (i := 726) (by decide +kernel), List.mem_of_getElem? (i := 727) (by decide +kernel)⟩
theorem lw_p27 : lw_okq (⟨"BallsInAirModel", "counts", "(III)J"⟩, 18) := ⟨⟨by decide +kernel, by decide +kernel⟩, List.mem_of_getElem? (i := 576) (by decide +kernel), List.mem_of_getElem? (i := 747) (by decide +kernel), List.mem_of_getElem? (i := 748) (by decide +kernel)⟩
theorem lw_p28 : lw_okq (⟨"BallsInAirModel", "after", "(IIII)J"⟩, 18) := ⟨⟨by decide +kernel, by decide +kernel⟩, List.mem_of_getElem? (i := 576) (by decide +kernel), List.mem_of_getElem? (i := 751) (by decide +kernel), List.mem_of_getElem? (i := 752) (by decide +kernel)⟩
theorem lw_p29 : lw_okq (⟨"BallsInAirModel", "drafts", "(IIIJ)V"⟩, 18) := ⟨⟨by decide +kernel, by decide +kernel⟩, List.mem_of_getElem? (i := 576) (by decide +kernel), List.mem_of_getElem? (i := 762) (by decide +kernel), List.mem_of_getElem? (i := 763) (by decide +kernel)⟩
theorem lw_p30 : lw_okq (⟨"BallsInAirModel", "becomes", "(I)I"⟩, 18) := ⟨⟨by decide +kernel, by decide +kernel⟩, List.mem_of_getElem? (i := 576) (by decide +kernel), List.mem_of_getElem? (i := 766) (by decide +kernel), List.mem_of_getElem? (i := 767) (by decide +kernel)⟩
theorem lw_p31 : lw_okq (⟨"BallsInAirModel", "isRanked", "()Z"⟩, 18) := ⟨⟨by decide +kernel, by decide +kernel⟩, List.mem_of_getElem? (i := 576) (by decide +kernel), List.mem_of_getElem? (i := 774) (by decide +kernel), List.mem_of_getElem? (i := 775) (by decide +kernel)⟩
def lw_privs_2 : List (MethodName × Nat) := [(⟨"BallsInAir$Swaps", "enqueue", "(II)V"⟩, 4), (⟨"BallsInAir$Swaps", "enqueueChanged", "(III)V"⟩, 4), (⟨"BallsInAir$Swaps", "forgetSeen", "()V"⟩, 4), (⟨"BallsInAir", "slipRefusal", "(II)I"⟩, 9), (⟨"BallsInAir", "meets", "(II)Z"⟩, 9), (⟨"BallsInAir$Passage", "reachBy", "(I)V"⟩, 4), (⟨"BallsInAir$Passage", "reachOnFrom", "(II)V"⟩, 4), (⟨"BallsInAirModel", "clashes", "()I"⟩, 18), (⟨"BallsInAirModel", "remember", "()V"⟩, 18), (⟨"BallsInAirModel", "takeDraft", "(I)V"⟩, 18), (⟨"BallsInAirModel", "cycleOf", "(I)I"⟩, 18), (⟨"BallsInAirModel", "counts", "(III)J"⟩, 18), (⟨"BallsInAirModel", "after", "(IIII)J"⟩, 18), (⟨"BallsInAirModel", "drafts", "(IIIJ)V"⟩, 18), (⟨"BallsInAirModel", "becomes", "(I)I"⟩, 18), (⟨"BallsInAirModel", "isRanked", "()Z"⟩, 18)]
theorem lw_r2 : ∀ q ∈ lw_privs_2, lw_okq q := List.forall_mem_cons.mpr ⟨lw_p16, List.forall_mem_cons.mpr ⟨lw_p17, List.forall_mem_cons.mpr ⟨lw_p18, List.forall_mem_cons.mpr ⟨lw_p19, List.forall_mem_cons.mpr ⟨lw_p20, List.forall_mem_cons.mpr ⟨lw_p21, List.forall_mem_cons.mpr ⟨lw_p22, List.forall_mem_cons.mpr ⟨lw_p23, List.forall_mem_cons.mpr ⟨lw_p24, List.forall_mem_cons.mpr ⟨lw_p25, List.forall_mem_cons.mpr ⟨lw_p26, List.forall_mem_cons.mpr ⟨lw_p27, List.forall_mem_cons.mpr ⟨lw_p28, List.forall_mem_cons.mpr ⟨lw_p29, List.forall_mem_cons.mpr ⟨lw_p30, List.forall_mem_cons.mpr ⟨lw_p31, fun _ h => absurd h List.not_mem_nil⟩⟩⟩⟩⟩⟩⟩⟩⟩⟩⟩⟩⟩⟩⟩⟩
theorem lw_p32 : lw_okq (⟨"BallsInAirModel", "rankOf", "()J"⟩, 18) := ⟨⟨by decide +kernel, by decide +kernel⟩, List.mem_of_getElem? (i := 576) (by decide +kernel), List.mem_of_getElem? (i := 779) (by decide +kernel), List.mem_of_getElem? (i := 780) (by decide +kernel)⟩
theorem lw_p33 : lw_okq (⟨"BallsInAirModel", "way", "(III)I"⟩, 18) := ⟨⟨by decide +kernel, by decide +kernel⟩, List.mem_of_getElem? (i := 576) (by decide +kernel), List.mem_of_getElem? (i := 811) (by decide +kernel), List.mem_of_getElem? (i := 812) (by decide +kernel)⟩
theorem lw_p34 : lw_okq (⟨"BallsInAirModel", "measures", "(I)V"⟩, 18) := ⟨⟨by decide +kernel, by decide +kernel⟩, List.mem_of_getElem? (i := 576) (by decide +kernel), List.mem_of_getElem? (i := 815) (by decide +kernel), List.mem_of_getElem? (i := 816) (by decide +kernel)⟩
theorem lw_p35 : lw_okq (⟨"BallsInAirModel", "bars", "(II)I"⟩, 18) := ⟨⟨by decide +kernel, by decide +kernel⟩, List.mem_of_getElem? (i := 576) (by decide +kernel), List.mem_of_getElem? (i := 841) (by decide +kernel), List.mem_of_getElem? (i := 842) (by decide +kernel)⟩
def lw_privs_3 : List (MethodName × Nat) := [(⟨"BallsInAirModel", "rankOf", "()J"⟩, 18), (⟨"BallsInAirModel", "way", "(III)I"⟩, 18), (⟨"BallsInAirModel", "measures", "(I)V"⟩, 18), (⟨"BallsInAirModel", "bars", "(II)I"⟩, 18)]
theorem lw_r3 : ∀ q ∈ lw_privs_3, lw_okq q := List.forall_mem_cons.mpr ⟨lw_p32, List.forall_mem_cons.mpr ⟨lw_p33, List.forall_mem_cons.mpr ⟨lw_p34, List.forall_mem_cons.mpr ⟨lw_p35, fun _ h => absurd h List.not_mem_nil⟩⟩⟩⟩
def lw_privs : List (MethodName × Nat) := lw_privs_1 ++ (lw_privs_2 ++ (lw_privs_3))
def lw_tbl : List Cond := k2_sels lw_privs ++ tables_1
theorem lw_privs_ok : ∀ q ∈ lw_privs, lw_okq q := by
  show ∀ q ∈ lw_privs_1 ++ (lw_privs_2 ++ (lw_privs_3)), lw_okq q
  exact List.forall_mem_append.mpr ⟨lw_r1, List.forall_mem_append.mpr ⟨lw_r2, lw_r3⟩⟩
/-! ===== BEGIN words of one list among another's, by their places ===== -/
theorem goodIn_r {big : List Cond} (ws : List Cond) (ps : List Nat) (hp : ws = ps.filterMap (fun i => big[i]?)) (h : ws.all goodWord = true) : GoodIn big ws := by
  intro w hw
  have h1 := List.all_eq_true.mp h w hw
  rw [hp] at hw
  obtain ⟨i, -, hi⟩ := List.mem_filterMap.mp hw
  have hm : w ∈ big := by first | exact List.mem_of_getElem? hi | exact List.getElem?_mem hi
  exact ⟨hm, good_of_word h1⟩
theorem goodIn_app {big a b : List Cond} (ha : GoodIn big a) (hb : GoodIn big b) : GoodIn big (a ++ b) := fun w h => (List.mem_append.mp h).elim (ha w) (hb w)
theorem goodIn_ca {big a b : List Cond} {c : Cond} (ha : GoodIn big (c :: a)) (hb : GoodIn big b) : GoodIn big (c :: (a ++ b)) := fun w h => (List.mem_cons.mp h).elim (fun e => ha w (List.mem_cons.mpr (Or.inl e))) (fun h => (List.mem_append.mp h).elim (fun h => ha w (List.mem_cons.mpr (Or.inr h))) (hb w))
theorem goodIn_sub {big ws : List Cond} (hm : ∀ w ∈ ws, w ∈ big) (h : ws.all goodWord = true) : GoodIn big ws := fun w hw => ⟨hm w hw, good_of_word (List.all_eq_true.mp h w hw)⟩
/-! ===== END ===== -/

/-! ===== BEGIN printed: names, fields, word lists, decode rows ===== -/
def RX0 : String := "BallsInAir$Census"
def TX0 : u_T := fun k => match k with
  | 0 => ("BallsInAir$Census", "fillings", "[I", true)
  | 1 => ("BallsInAir$Census", "length", "I", false)
  | _ => ("BallsInAir$Census", "top", "I", false)
def tyX0 : Nat → FieldType := fun k => match k with
  | 0 => .array .int
  | 1 => .int
  | _ => .int
theorem nmX0 : ∀ a, a < 3 → ∀ b, b < 3 → a ≠ b → (TX0 a).2.1 ≠ (TX0 b).2.1 := by decide +kernel
theorem tyX0_ok : ∀ k, k < 3 → parseFieldDescriptor (TX0 k).2.2.1 = some (tyX0 k) := by decide +kernel
abbrev cX0_init : ByteArray := prog_2_method_1_code
def yX0_init : MethodName := ⟨RX0, "<init>", "()V"⟩
abbrev cX0_prepare : ByteArray := prog_2_method_2_code
def yX0_prepare : MethodName := ⟨RX0, "prepare", "(II)V"⟩
abbrev cX0_fillRow : ByteArray := prog_2_method_3_code
def yX0_fillRow : MethodName := ⟨RX0, "fillRow", "(I)V"⟩
abbrev cX0_placeBit : ByteArray := prog_2_method_4_code
def yX0_placeBit : MethodName := ⟨RX0, "placeBit", "(I)I"⟩
abbrev cX0_roundsOf : ByteArray := prog_2_method_5_code
def yX0_roundsOf : MethodName := ⟨RX0, "roundsOf", "(I)I"⟩
abbrev cX0_fillingsBy : ByteArray := prog_2_method_6_code
def yX0_fillingsBy : MethodName := ⟨RX0, "fillingsBy", "(III)I"⟩
abbrev cX0_total : ByteArray := prog_2_method_7_code
def yX0_total : MethodName := ⟨RX0, "total", "(I)I"⟩
abbrev cX0_pick : ByteArray := prog_2_method_8_code
def yX0_pick : MethodName := ⟨RX0, "pick", "(IJLBallsInAir$Pattern;)V"⟩
abbrev cX0_placeOf : ByteArray := prog_2_method_9_code
def yX0_placeOf : MethodName := ⟨RX0, "placeOf", "(LBallsInAir$Pattern;)I"⟩
abbrev cX0_primeRounds : ByteArray := prog_2_method_10_code
def yX0_primeRounds : MethodName := ⟨RX0, "primeRounds", "(ILBallsInAir$Pattern;)I"⟩
abbrev cX0_primesFrom : ByteArray := prog_2_method_11_code
def yX0_primesFrom : MethodName := ⟨RX0, "primesFrom", "(IIILBallsInAir$Pattern;)I"⟩
def RX1 : String := "BallsInAir$Passage"
def TX1 : u_T := fun k => match k with
  | 0 => ("BallsInAir$Passage", "away", "[I", true)
  | 1 => ("BallsInAir$Passage", "queue", "[I", true)
  | 2 => ("BallsInAir$Passage", "queued", "I", false)
  | _ => ("BallsInAir$Passage", "reached", "[I", true)
def tyX1 : Nat → FieldType := fun k => match k with
  | 0 => .array .int
  | 1 => .array .int
  | 2 => .int
  | _ => .array .int
theorem nmX1 : ∀ a, a < 4 → ∀ b, b < 4 → a ≠ b → (TX1 a).2.1 ≠ (TX1 b).2.1 := by decide +kernel
theorem tyX1_ok : ∀ k, k < 4 → parseFieldDescriptor (TX1 k).2.2.1 = some (tyX1 k) := by decide +kernel
abbrev cX1_init : ByteArray := prog_3_method_1_code
def yX1_init : MethodName := ⟨RX1, "<init>", "()V"⟩
abbrev cX1_answer : ByteArray := prog_3_method_2_code
def yX1_answer : MethodName := ⟨RX1, "answer", "(III)I"⟩
abbrev cX1_measure : ByteArray := prog_3_method_3_code
def yX1_measure : MethodName := ⟨RX1, "measure", "(II)V"⟩
abbrev cX1_enqueueAirsBefore : ByteArray := prog_3_method_4_code
def yX1_enqueueAirsBefore : MethodName := ⟨RX1, "enqueueAirsBefore", "(I)V"⟩
abbrev cX1_enqueueShifted : ByteArray := prog_3_method_5_code
def yX1_enqueueShifted : MethodName := ⟨RX1, "enqueueShifted", "(III)V"⟩
abbrev cX1_enqueue : ByteArray := prog_3_method_6_code
def yX1_enqueue : MethodName := ⟨RX1, "enqueue", "(II)V"⟩
abbrev cX1_firstThrow : ByteArray := prog_3_method_7_code
def yX1_firstThrow : MethodName := ⟨RX1, "firstThrow", "(I)I"⟩
abbrev cX1_throwsToMeet : ByteArray := prog_3_method_8_code
def yX1_throwsToMeet : MethodName := ⟨RX1, "throwsToMeet", "(ILBallsInAir$Pattern;I)I"⟩
abbrev cX1_reachBy : ByteArray := prog_3_method_9_code
def yX1_reachBy : MethodName := ⟨RX1, "reachBy", "(I)V"⟩
abbrev cX1_reachOnFrom : ByteArray := prog_3_method_10_code
def yX1_reachOnFrom : MethodName := ⟨RX1, "reachOnFrom", "(II)V"⟩
def RX2 : String := "BallsInAir$Pattern"
def TX2 : u_T := fun k => match k with
  | 0 => ("BallsInAir$Pattern", "heights", "[I", true)
  | _ => ("BallsInAir$Pattern", "length", "I", false)
def tyX2 : Nat → FieldType := fun k => match k with
  | 0 => .array .int
  | _ => .int
theorem nmX2 : ∀ a, a < 2 → ∀ b, b < 2 → a ≠ b → (TX2 a).2.1 ≠ (TX2 b).2.1 := by decide +kernel
theorem tyX2_ok : ∀ k, k < 2 → parseFieldDescriptor (TX2 k).2.2.1 = some (tyX2 k) := by decide +kernel
abbrev cX2_init : ByteArray := prog_4_method_1_code
def yX2_init : MethodName := ⟨RX2, "<init>", "()V"⟩
abbrev cX2_length : ByteArray := prog_4_method_2_code
def yX2_length : MethodName := ⟨RX2, "length", "()I"⟩
abbrev cX2_resize : ByteArray := prog_4_method_3_code
def yX2_resize : MethodName := ⟨RX2, "resize", "(I)V"⟩
abbrev cX2_hasPlace : ByteArray := prog_4_method_4_code
def yX2_hasPlace : MethodName := ⟨RX2, "hasPlace", "(I)Z"⟩
abbrev cX2_put : ByteArray := prog_4_method_5_code
def yX2_put : MethodName := ⟨RX2, "put", "(II)V"⟩
abbrev cX2_heightAt : ByteArray := prog_4_method_6_code
def yX2_heightAt : MethodName := ⟨RX2, "heightAt", "(I)I"⟩
abbrev cX2_copy : ByteArray := prog_4_method_7_code
def yX2_copy : MethodName := ⟨RX2, "copy", "(LBallsInAir$Pattern;)V"⟩
abbrev cX2_landing : ByteArray := prog_4_method_8_code
def yX2_landing : MethodName := ⟨RX2, "landing", "(I)I"⟩
abbrev cX2_firstClash : ByteArray := prog_4_method_9_code
def yX2_firstClash : MethodName := ⟨RX2, "firstClash", "()I"⟩
abbrev cX2_ballCount : ByteArray := prog_4_method_10_code
def yX2_ballCount : MethodName := ⟨RX2, "ballCount", "()I"⟩
abbrev cX2_airAhead : ByteArray := prog_4_method_11_code
def yX2_airAhead : MethodName := ⟨RX2, "airAhead", "(I)I"⟩
abbrev cX2_hasUnlikeAirs : ByteArray := prog_4_method_12_code
def yX2_hasUnlikeAirs : MethodName := ⟨RX2, "hasUnlikeAirs", "()Z"⟩
abbrev cX2_isFirstOfTurned : ByteArray := prog_4_method_13_code
def yX2_isFirstOfTurned : MethodName := ⟨RX2, "isFirstOfTurned", "()Z"⟩
abbrev cX2_cycleBits : ByteArray := prog_4_method_14_code
def yX2_cycleBits : MethodName := ⟨RX2, "cycleBits", "(I)I"⟩
abbrev cX2_cycleCount : ByteArray := prog_4_method_15_code
def yX2_cycleCount : MethodName := ⟨RX2, "cycleCount", "()I"⟩
abbrev cX2_cycleBeats : ByteArray := prog_4_method_16_code
def yX2_cycleBeats : MethodName := ⟨RX2, "cycleBeats", "(I)I"⟩
abbrev cX2_thrownBefore : ByteArray := prog_4_method_17_code
def yX2_thrownBefore : MethodName := ⟨RX2, "thrownBefore", "(I)I"⟩
abbrev cX2_ballThrownAt : ByteArray := prog_4_method_18_code
def yX2_ballThrownAt : MethodName := ⟨RX2, "ballThrownAt", "(I)I"⟩
def RX3 : String := "BallsInAir$Shelf"
def TX3 : u_T := fun k => match k with
  | 0 => ("BallsInAir$Shelf", "places", "[LBallsInAir$Pattern;", true)
  | 1 => ("BallsInAir$Shelf", "start", "I", false)
  | _ => ("BallsInAir$Shelf", "used", "I", false)
def tyX3 : Nat → FieldType := fun k => match k with
  | 0 => .array (.object "BallsInAir$Pattern")
  | 1 => .int
  | _ => .int
theorem nmX3 : ∀ a, a < 3 → ∀ b, b < 3 → a ≠ b → (TX3 a).2.1 ≠ (TX3 b).2.1 := by decide +kernel
theorem tyX3_ok : ∀ k, k < 3 → parseFieldDescriptor (TX3 k).2.2.1 = some (tyX3 k) := by decide +kernel
abbrev cX3_init : ByteArray := prog_5_method_1_code
def yX3_init : MethodName := ⟨RX3, "<init>", "(I)V"⟩
abbrev cX3_used : ByteArray := prog_5_method_2_code
def yX3_used : MethodName := ⟨RX3, "used", "()I"⟩
abbrev cX3_clear : ByteArray := prog_5_method_3_code
def yX3_clear : MethodName := ⟨RX3, "clear", "()V"⟩
abbrev cX3_add : ByteArray := prog_5_method_4_code
def yX3_add : MethodName := ⟨RX3, "add", "(LBallsInAir$Pattern;)V"⟩
abbrev cX3_takeLast : ByteArray := prog_5_method_5_code
def yX3_takeLast : MethodName := ⟨RX3, "takeLast", "(LBallsInAir$Pattern;)V"⟩
def RX4 : String := "BallsInAir$Swaps"
def TX4 : u_T := fun k => match k with
  | 0 => ("BallsInAir$Swaps", "queue", "[I", true)
  | 1 => ("BallsInAir$Swaps", "depths", "[I", true)
  | 2 => ("BallsInAir$Swaps", "seen", "[J", true)
  | _ => ("BallsInAir$Swaps", "queued", "I", false)
def tyX4 : Nat → FieldType := fun k => match k with
  | 0 => .array .int
  | 1 => .array .int
  | 2 => .array .long
  | _ => .int
theorem nmX4 : ∀ a, a < 4 → ∀ b, b < 4 → a ≠ b → (TX4 a).2.1 ≠ (TX4 b).2.1 := by decide +kernel
theorem tyX4_ok : ∀ k, k < 4 → parseFieldDescriptor (TX4 k).2.2.1 = some (tyX4 k) := by decide +kernel
abbrev cX4_init : ByteArray := prog_6_method_1_code
def yX4_init : MethodName := ⟨RX4, "<init>", "()V"⟩
abbrev cX4_fewest : ByteArray := prog_6_method_2_code
def yX4_fewest : MethodName := ⟨RX4, "fewest", "(LBallsInAir$Pattern;LBallsInAir$Pattern;)I"⟩
abbrev cX4_codeOf : ByteArray := prog_6_method_3_code
def yX4_codeOf : MethodName := ⟨RX4, "codeOf", "(LBallsInAir$Pattern;)I"⟩
abbrev cX4_enqueueChanged : ByteArray := prog_6_method_4_code
def yX4_enqueueChanged : MethodName := ⟨RX4, "enqueueChanged", "(III)V"⟩
abbrev cX4_enqueue : ByteArray := prog_6_method_5_code
def yX4_enqueue : MethodName := ⟨RX4, "enqueue", "(II)V"⟩
abbrev cX4_forgetSeen : ByteArray := prog_6_method_6_code
def yX4_forgetSeen : MethodName := ⟨RX4, "forgetSeen", "()V"⟩
def RX5 : String := "BallsInAir$Text"
def TX5 : u_T := fun k => match k with
  | 0 => ("BallsInAir$Text", "bytes", "[I", true)
  | _ => ("BallsInAir$Text", "length", "I", false)
def tyX5 : Nat → FieldType := fun k => match k with
  | 0 => .array .int
  | _ => .int
theorem nmX5 : ∀ a, a < 2 → ∀ b, b < 2 → a ≠ b → (TX5 a).2.1 ≠ (TX5 b).2.1 := by decide +kernel
theorem tyX5_ok : ∀ k, k < 2 → parseFieldDescriptor (TX5 k).2.2.1 = some (tyX5 k) := by decide +kernel
abbrev cX5_init : ByteArray := prog_7_method_1_code
def yX5_init : MethodName := ⟨RX5, "<init>", "()V"⟩
abbrev cX5_length : ByteArray := prog_7_method_2_code
def yX5_length : MethodName := ⟨RX5, "length", "()I"⟩
abbrev cX5_clear : ByteArray := prog_7_method_3_code
def yX5_clear : MethodName := ⟨RX5, "clear", "()V"⟩
abbrev cX5_append : ByteArray := prog_7_method_4_code
def yX5_append : MethodName := ⟨RX5, "append", "(I)V"⟩
abbrev cX5_firstFault : ByteArray := prog_7_method_5_code
def yX5_firstFault : MethodName := ⟨RX5, "firstFault", "()I"⟩
abbrev cX5_copyInto : ByteArray := prog_7_method_6_code
def yX5_copyInto : MethodName := ⟨RX5, "copyInto", "(LBallsInAir$Pattern;)V"⟩
def RX6 : String := "BallsInAir"
def TX6 : u_T := fun k => match k with
  | 0 => ("BallsInAir", "text", "LBallsInAir$Text;", true)
  | 1 => ("BallsInAir", "pattern", "LBallsInAir$Pattern;", true)
  | 2 => ("BallsInAir", "another", "LBallsInAir$Pattern;", true)
  | 3 => ("BallsInAir", "trial", "LBallsInAir$Pattern;", true)
  | 4 => ("BallsInAir", "past", "LBallsInAir$Shelf;", true)
  | 5 => ("BallsInAir", "kept", "LBallsInAir$Shelf;", true)
  | 6 => ("BallsInAir", "census", "LBallsInAir$Census;", true)
  | 7 => ("BallsInAir", "passage", "LBallsInAir$Passage;", true)
  | _ => ("BallsInAir", "swaps", "LBallsInAir$Swaps;", true)
def tyX6 : Nat → FieldType := fun k => match k with
  | 0 => .object "BallsInAir$Text"
  | 1 => .object "BallsInAir$Pattern"
  | 2 => .object "BallsInAir$Pattern"
  | 3 => .object "BallsInAir$Pattern"
  | 4 => .object "BallsInAir$Shelf"
  | 5 => .object "BallsInAir$Shelf"
  | 6 => .object "BallsInAir$Census"
  | 7 => .object "BallsInAir$Passage"
  | _ => .object "BallsInAir$Swaps"
theorem nmX6 : ∀ a, a < 9 → ∀ b, b < 9 → a ≠ b → (TX6 a).2.1 ≠ (TX6 b).2.1 := by decide +kernel
theorem tyX6_ok : ∀ k, k < 9 → parseFieldDescriptor (TX6 k).2.2.1 = some (tyX6 k) := by decide +kernel
abbrev cX6_init : ByteArray := prog_1_method_1_code
def yX6_init : MethodName := ⟨RX6, "<init>", "()V"⟩
abbrev cX6_write : ByteArray := prog_1_method_2_code
def yX6_write : MethodName := ⟨RX6, "write", "(IJ)I"⟩
abbrev cX6_wipe : ByteArray := prog_1_method_3_code
def yX6_wipe : MethodName := ⟨RX6, "wipe", "()I"⟩
abbrev cX6_fault : ByteArray := prog_1_method_4_code
def yX6_fault : MethodName := ⟨RX6, "fault", "()I"⟩
abbrev cX6_clash : ByteArray := prog_1_method_5_code
def yX6_clash : MethodName := ⟨RX6, "clash", "()I"⟩
abbrev cX6_lay : ByteArray := prog_1_method_6_code
def yX6_lay : MethodName := ⟨RX6, "lay", "(I)I"⟩
abbrev cX6_toss : ByteArray := prog_1_method_7_code
def yX6_toss : MethodName := ⟨RX6, "toss", "(II)I"⟩
abbrev cX6_balls : ByteArray := prog_1_method_8_code
def yX6_balls : MethodName := ⟨RX6, "balls", "(I)I"⟩
abbrev cX6_air : ByteArray := prog_1_method_9_code
def yX6_air : MethodName := ⟨RX6, "air", "(I)I"⟩
abbrev cX6_turn : ByteArray := prog_1_method_10_code
def yX6_turn : MethodName := ⟨RX6, "turn", "(I)I"⟩
abbrev cX6_backwards : ByteArray := prog_1_method_11_code
def yX6_backwards : MethodName := ⟨RX6, "backwards", "()I"⟩
abbrev cX6_raise : ByteArray := prog_1_method_12_code
def yX6_raise : MethodName := ⟨RX6, "raise", "(I)I"⟩
abbrev cX6_change : ByteArray := prog_1_method_13_code
def yX6_change : MethodName := ⟨RX6, "change", "(II)I"⟩
abbrev cX6_undo : ByteArray := prog_1_method_14_code
def yX6_undo : MethodName := ⟨RX6, "undo", "()I"⟩
abbrev cX6_cycle : ByteArray := prog_1_method_15_code
def yX6_cycle : MethodName := ⟨RX6, "cycle", "(I)I"⟩
abbrev cX6_ball : ByteArray := prog_1_method_16_code
def yX6_ball : MethodName := ⟨RX6, "ball", "(I)I"⟩
abbrev cX6_hands : ByteArray := prog_1_method_17_code
def yX6_hands : MethodName := ⟨RX6, "hands", "(III)I"⟩
abbrev cX6_all : ByteArray := prog_1_method_18_code
def yX6_all : MethodName := ⟨RX6, "all", "(III)J"⟩
abbrev cX6_nth : ByteArray := prog_1_method_19_code
def yX6_nth : MethodName := ⟨RX6, "nth", "(IIIJ)I"⟩
abbrev cX6_rank : ByteArray := prog_1_method_20_code
def yX6_rank : MethodName := ⟨RX6, "rank", "()J"⟩
abbrev cX6_next : ByteArray := prog_1_method_21_code
def yX6_next : MethodName := ⟨RX6, "next", "()I"⟩
abbrev cX6_prime : ByteArray := prog_1_method_22_code
def yX6_prime : MethodName := ⟨RX6, "prime", "()I"⟩
abbrev cX6_primes : ByteArray := prog_1_method_23_code
def yX6_primes : MethodName := ⟨RX6, "primes", "(III)I"⟩
abbrev cX6_draw : ByteArray := prog_1_method_24_code
def yX6_draw : MethodName := ⟨RX6, "draw", "(IIII)I"⟩
abbrev cX6_in : ByteArray := prog_1_method_25_code
def yX6_in : MethodName := ⟨RX6, "in", "(I)I"⟩
abbrev cX6_out : ByteArray := prog_1_method_26_code
def yX6_out : MethodName := ⟨RX6, "out", "(II)I"⟩
abbrev cX6_across : ByteArray := prog_1_method_27_code
def yX6_across : MethodName := ⟨RX6, "across", "(II)I"⟩
abbrev cX6_steps : ByteArray := prog_1_method_28_code
def yX6_steps : MethodName := ⟨RX6, "steps", "()I"⟩
abbrev cX6_together : ByteArray := prog_1_method_29_code
def yX6_together : MethodName := ⟨RX6, "together", "(II)I"⟩
abbrev cX6_mended : ByteArray := prog_1_method_30_code
def yX6_mended : MethodName := ⟨RX6, "mended", "(II)I"⟩
abbrev cX6_keep : ByteArray := prog_1_method_31_code
def yX6_keep : MethodName := ⟨RX6, "keep", "()I"⟩
abbrev cX6_back : ByteArray := prog_1_method_32_code
def yX6_back : MethodName := ⟨RX6, "back", "()I"⟩
abbrev cX6_count : ByteArray := prog_1_method_33_code
def yX6_count : MethodName := ⟨RX6, "count", "(I)I"⟩
abbrev cX6_becomeTrial : ByteArray := prog_1_method_34_code
def yX6_becomeTrial : MethodName := ⟨RX6, "becomeTrial", "()I"⟩
abbrev cX6_chosen : ByteArray := prog_1_method_35_code
def yX6_chosen : MethodName := ⟨RX6, "chosen", "(I)LBallsInAir$Pattern;"⟩
abbrev cX6_isRanked : ByteArray := prog_1_method_36_code
def yX6_isRanked : MethodName := ⟨RX6, "isRanked", "()Z"⟩
abbrev cX6_placeOfPattern : ByteArray := prog_1_method_37_code
def yX6_placeOfPattern : MethodName := ⟨RX6, "placeOfPattern", "()I"⟩
abbrev cX6_slipRefusal : ByteArray := prog_1_method_38_code
def yX6_slipRefusal : MethodName := ⟨RX6, "slipRefusal", "(II)I"⟩
abbrev cX6_meets : ByteArray := prog_1_method_39_code
def yX6_meets : MethodName := ⟨RX6, "meets", "(II)Z"⟩
abbrev cX6_isWhich : ByteArray := prog_1_method_40_code
def yX6_isWhich : MethodName := ⟨RX6, "isWhich", "(I)Z"⟩
abbrev cX6_isBeat : ByteArray := prog_1_method_41_code
def yX6_isBeat : MethodName := ⟨RX6, "isBeat", "(I)Z"⟩
abbrev cX6_isHeight : ByteArray := prog_1_method_42_code
def yX6_isHeight : MethodName := ⟨RX6, "isHeight", "(I)Z"⟩
abbrev cX6_isListed : ByteArray := prog_1_method_43_code
def yX6_isListed : MethodName := ⟨RX6, "isListed", "(III)Z"⟩
abbrev cX6_drawnNumber : ByteArray := prog_1_method_44_code
def yX6_drawnNumber : MethodName := ⟨RX6, "drawnNumber", "(I)J"⟩
abbrev cX6_ground : ByteArray := prog_1_method_45_code
def yX6_ground : MethodName := ⟨RX6, "ground", "(I)I"⟩
abbrev cX6_isAir : ByteArray := prog_1_method_46_code
def yX6_isAir : MethodName := ⟨RX6, "isAir", "(I)Z"⟩
abbrev cX6_isTaken : ByteArray := prog_1_method_47_code
def yX6_isTaken : MethodName := ⟨RX6, "isTaken", "(II)Z"⟩
abbrev cX6_thrown : ByteArray := prog_1_method_48_code
def yX6_thrown : MethodName := ⟨RX6, "thrown", "(II)I"⟩
def RX7 : String := "BallsInAirModel"
def TX7 : u_T := fun k => match k with
  | 0 => ("BallsInAirModel", "text", "[I", true)
  | 1 => ("BallsInAirModel", "size", "I", false)
  | 2 => ("BallsInAirModel", "many", "I", false)
  | 3 => ("BallsInAirModel", "tosses", "[I", true)
  | 4 => ("BallsInAirModel", "manyOther", "I", false)
  | 5 => ("BallsInAirModel", "other", "[I", true)
  | 6 => ("BallsInAirModel", "undos", "I", false)
  | 7 => ("BallsInAirModel", "before", "[I", true)
  | 8 => ("BallsInAirModel", "kepts", "I", false)
  | 9 => ("BallsInAirModel", "kept", "[I", true)
  | 10 => ("BallsInAirModel", "draft", "[I", true)
  | 11 => ("BallsInAirModel", "comes", "[I", true)
  | 12 => ("BallsInAirModel", "rest", "[J", true)
  | 13 => ("BallsInAirModel", "far", "[I", true)
  | 14 => ("BallsInAirModel", "steps", "[I", true)
  | 15 => ("BallsInAirModel", "queue", "[I", true)
  | 16 => ("BallsInAirModel", "here", "[Z", true)
  | _ => ("BallsInAirModel", "there", "[Z", true)
def tyX7 : Nat → FieldType := fun k => match k with
  | 0 => .array .int
  | 1 => .int
  | 2 => .int
  | 3 => .array .int
  | 4 => .int
  | 5 => .array .int
  | 6 => .int
  | 7 => .array .int
  | 8 => .int
  | 9 => .array .int
  | 10 => .array .int
  | 11 => .array .int
  | 12 => .array .long
  | 13 => .array .int
  | 14 => .array .int
  | 15 => .array .int
  | 16 => .array .boolean
  | _ => .array .boolean
theorem nmX7 : ∀ a, a < 18 → ∀ b, b < 18 → a ≠ b → (TX7 a).2.1 ≠ (TX7 b).2.1 := by decide +kernel
theorem tyX7_ok : ∀ k, k < 18 → parseFieldDescriptor (TX7 k).2.2.1 = some (tyX7 k) := by decide +kernel
abbrev cX7_init : ByteArray := prog_9_method_1_code
def yX7_init : MethodName := ⟨RX7, "<init>", "()V"⟩
abbrev cX7_is : ByteArray := prog_9_method_3_code
def yX7_is : MethodName := ⟨RX7, "is", "(JJJ)Z"⟩
abbrev cX7_write : ByteArray := prog_9_method_4_code
def yX7_write : MethodName := ⟨RX7, "write", "(IJ)I"⟩
abbrev cX7_wipe : ByteArray := prog_9_method_5_code
def yX7_wipe : MethodName := ⟨RX7, "wipe", "()I"⟩
abbrev cX7_fault : ByteArray := prog_9_method_6_code
def yX7_fault : MethodName := ⟨RX7, "fault", "()I"⟩
abbrev cX7_clashes : ByteArray := prog_9_method_7_code
def yX7_clashes : MethodName := ⟨RX7, "clashes", "()I"⟩
abbrev cX7_clash : ByteArray := prog_9_method_8_code
def yX7_clash : MethodName := ⟨RX7, "clash", "()I"⟩
abbrev cX7_lay : ByteArray := prog_9_method_9_code
def yX7_lay : MethodName := ⟨RX7, "lay", "(I)I"⟩
abbrev cX7_toss : ByteArray := prog_9_method_10_code
def yX7_toss : MethodName := ⟨RX7, "toss", "(II)I"⟩
abbrev cX7_sumOf : ByteArray := prog_9_method_11_code
def yX7_sumOf : MethodName := ⟨RX7, "sumOf", "([II)I"⟩
abbrev cX7_balls : ByteArray := prog_9_method_12_code
def yX7_balls : MethodName := ⟨RX7, "balls", "(I)I"⟩
abbrev cX7_airOf : ByteArray := prog_9_method_13_code
def yX7_airOf : MethodName := ⟨RX7, "airOf", "([III)I"⟩
abbrev cX7_air : ByteArray := prog_9_method_14_code
def yX7_air : MethodName := ⟨RX7, "air", "(I)I"⟩
abbrev cX7_remember : ByteArray := prog_9_method_15_code
def yX7_remember : MethodName := ⟨RX7, "remember", "()V"⟩
abbrev cX7_takeDraft : ByteArray := prog_9_method_16_code
def yX7_takeDraft : MethodName := ⟨RX7, "takeDraft", "(I)V"⟩
abbrev cX7_turn : ByteArray := prog_9_method_17_code
def yX7_turn : MethodName := ⟨RX7, "turn", "(I)I"⟩
abbrev cX7_backwards : ByteArray := prog_9_method_18_code
def yX7_backwards : MethodName := ⟨RX7, "backwards", "()I"⟩
abbrev cX7_raise : ByteArray := prog_9_method_19_code
def yX7_raise : MethodName := ⟨RX7, "raise", "(I)I"⟩
abbrev cX7_change : ByteArray := prog_9_method_20_code
def yX7_change : MethodName := ⟨RX7, "change", "(II)I"⟩
abbrev cX7_undo : ByteArray := prog_9_method_21_code
def yX7_undo : MethodName := ⟨RX7, "undo", "()I"⟩
abbrev cX7_cycleOf : ByteArray := prog_9_method_22_code
def yX7_cycleOf : MethodName := ⟨RX7, "cycleOf", "(I)I"⟩
abbrev cX7_cycle : ByteArray := prog_9_method_23_code
def yX7_cycle : MethodName := ⟨RX7, "cycle", "(I)I"⟩
abbrev cX7_ball : ByteArray := prog_9_method_24_code
def yX7_ball : MethodName := ⟨RX7, "ball", "(I)I"⟩
abbrev cX7_hands : ByteArray := prog_9_method_25_code
def yX7_hands : MethodName := ⟨RX7, "hands", "(III)I"⟩
abbrev cX7_bitsOf : ByteArray := prog_9_method_26_code
def yX7_bitsOf : MethodName := ⟨RX7, "bitsOf", "(I)I"⟩
abbrev cX7_areTold : ByteArray := prog_9_method_27_code
def yX7_areTold : MethodName := ⟨RX7, "areTold", "(III)Z"⟩
abbrev cX7_after : ByteArray := prog_9_method_28_code
def yX7_after : MethodName := ⟨RX7, "after", "(IIII)J"⟩
abbrev cX7_counts : ByteArray := prog_9_method_29_code
def yX7_counts : MethodName := ⟨RX7, "counts", "(III)J"⟩
abbrev cX7_all : ByteArray := prog_9_method_30_code
def yX7_all : MethodName := ⟨RX7, "all", "(III)J"⟩
abbrev cX7_drafts : ByteArray := prog_9_method_31_code
def yX7_drafts : MethodName := ⟨RX7, "drafts", "(IIIJ)V"⟩
abbrev cX7_becomes : ByteArray := prog_9_method_32_code
def yX7_becomes : MethodName := ⟨RX7, "becomes", "(I)I"⟩
abbrev cX7_nth : ByteArray := prog_9_method_33_code
def yX7_nth : MethodName := ⟨RX7, "nth", "(IIIJ)I"⟩
abbrev cX7_isRanked : ByteArray := prog_9_method_34_code
def yX7_isRanked : MethodName := ⟨RX7, "isRanked", "()Z"⟩
abbrev cX7_rankOf : ByteArray := prog_9_method_35_code
def yX7_rankOf : MethodName := ⟨RX7, "rankOf", "()J"⟩
abbrev cX7_rank : ByteArray := prog_9_method_36_code
def yX7_rank : MethodName := ⟨RX7, "rank", "()J"⟩
abbrev cX7_next : ByteArray := prog_9_method_37_code
def yX7_next : MethodName := ⟨RX7, "next", "()I"⟩
abbrev cX7_isPrime : ByteArray := prog_9_method_38_code
def yX7_isPrime : MethodName := ⟨RX7, "isPrime", "([II)Z"⟩
abbrev cX7_prime : ByteArray := prog_9_method_39_code
def yX7_prime : MethodName := ⟨RX7, "prime", "()I"⟩
abbrev cX7_primes : ByteArray := prog_9_method_40_code
def yX7_primes : MethodName := ⟨RX7, "primes", "(III)I"⟩
abbrev cX7_draw : ByteArray := prog_9_method_41_code
def yX7_draw : MethodName := ⟨RX7, "draw", "(IIII)I"⟩
abbrev cX7_behind : ByteArray := prog_9_method_42_code
def yX7_behind : MethodName := ⟨RX7, "behind", "(II)I"⟩
abbrev cX7_measures : ByteArray := prog_9_method_43_code
def yX7_measures : MethodName := ⟨RX7, "measures", "(I)V"⟩
abbrev cX7_way : ByteArray := prog_9_method_44_code
def yX7_way : MethodName := ⟨RX7, "way", "(III)I"⟩
abbrev cX7_in : ByteArray := prog_9_method_45_code
def yX7_in : MethodName := ⟨RX7, "in", "(I)I"⟩
abbrev cX7_out : ByteArray := prog_9_method_46_code
def yX7_out : MethodName := ⟨RX7, "out", "(II)I"⟩
abbrev cX7_across : ByteArray := prog_9_method_47_code
def yX7_across : MethodName := ⟨RX7, "across", "(II)I"⟩
abbrev cX7_numberOf : ByteArray := prog_9_method_48_code
def yX7_numberOf : MethodName := ⟨RX7, "numberOf", "([II)I"⟩
abbrev cX7_steps : ByteArray := prog_9_method_49_code
def yX7_steps : MethodName := ⟨RX7, "steps", "()I"⟩
abbrev cX7_bars : ByteArray := prog_9_method_50_code
def yX7_bars : MethodName := ⟨RX7, "bars", "(II)I"⟩
abbrev cX7_together : ByteArray := prog_9_method_51_code
def yX7_together : MethodName := ⟨RX7, "together", "(II)I"⟩
abbrev cX7_mended : ByteArray := prog_9_method_52_code
def yX7_mended : MethodName := ⟨RX7, "mended", "(II)I"⟩
abbrev cX7_keep : ByteArray := prog_9_method_53_code
def yX7_keep : MethodName := ⟨RX7, "keep", "()I"⟩
abbrev cX7_back : ByteArray := prog_9_method_54_code
def yX7_back : MethodName := ⟨RX7, "back", "()I"⟩
abbrev cX7_count : ByteArray := prog_9_method_55_code
def yX7_count : MethodName := ⟨RX7, "count", "(I)I"⟩
def RJ6 : String := "java/lang/Integer"
def TJ6 : u_T := fun k => match k with
  | _ => ("", "", "", false)
def tyJ6 : Nat → FieldType := fun k => match k with
  | _ => .int
theorem nmJ6 : ∀ a, a < 0 → ∀ b, b < 0 → a ≠ b → (TJ6 a).2.1 ≠ (TJ6 b).2.1 := by decide +kernel
theorem tyJ6_ok : ∀ k, k < 0 → parseFieldDescriptor (TJ6 k).2.2.1 = some (tyJ6 k) := by decide +kernel
abbrev cJ6_bitCount_0f7a4 : ByteArray := prog_10_method_49_code
def yJ6_bitCount_0f7a4 : MethodName := ⟨RJ6, "bitCount", "(I)I"⟩
def RJ9 : String := "java/lang/Math"
def TJ9 : u_T := fun k => match k with
  | _ => ("", "", "", false)
def tyJ9 : Nat → FieldType := fun k => match k with
  | _ => .int
theorem nmJ9 : ∀ a, a < 0 → ∀ b, b < 0 → a ≠ b → (TJ9 a).2.1 ≠ (TJ9 b).2.1 := by decide +kernel
theorem tyJ9_ok : ∀ k, k < 0 → parseFieldDescriptor (TJ9 k).2.2.1 = some (tyJ9 k) := by decide +kernel
abbrev cJ9_floorMod_7cf53 : ByteArray := prog_11_method_50_code
def yJ9_floorMod_7cf53 : MethodName := ⟨RJ9, "floorMod", "(II)I"⟩
abbrev cJ9_max_7cf53 : ByteArray := prog_11_method_65_code
def yJ9_max_7cf53 : MethodName := ⟨RJ9, "max", "(II)I"⟩
abbrev cJ9_min_7cf53 : ByteArray := prog_11_method_69_code
def yJ9_min_7cf53 : MethodName := ⟨RJ9, "min", "(II)I"⟩
def RL : String := "BallsInAirLaw"
abbrev cL_law : ByteArray := code
def yL_law : MethodName := ⟨RL, "law", "([I)Z"⟩
abbrev vwCl : List vw_C := [(RX0, TX0, 3), (RX1, TX1, 4), (RX2, TX2, 2), (RX3, TX3, 3), (RX4, TX4, 4), (RX5, TX5, 2), (RX6, TX6, 9), (RX7, TX7, 18)]

/-- the words that a callee may be handed -/
def TB : List Cond := lw_tbl.filter goodWord
theorem tb_i {w : Cond} (i : Nat) (h : lw_tbl[i]? = some w) (g : goodWord w = true) : w ∈ TB := List.mem_filter.mpr ⟨List.mem_of_getElem? h, g⟩
theorem tb_good {ws : List Cond} (h : ∀ w ∈ ws, w ∈ TB) : GoodIn TB ws := fun w hw => ⟨h w hw, good_of_word (List.mem_filter.mp (h w hw)).2⟩
theorem tb_lw {w : Cond} (h : w ∈ TB) : w ∈ lw_tbl := (List.mem_filter.mp h).1
set_option maxRecDepth 20000 in
theorem wd_0 : Cond.selects RX6 yX6_chosen yX6_chosen ∈ TB := tb_i 0 rfl rfl
set_option maxRecDepth 20000 in
theorem wd_1 : Cond.selects RX6 yX6_becomeTrial yX6_becomeTrial ∈ TB := tb_i 1 rfl rfl
set_option maxRecDepth 20000 in
theorem wd_2 : Cond.selects RX2 yX2_cycleBeats yX2_cycleBeats ∈ TB := tb_i 2 rfl rfl
set_option maxRecDepth 20000 in
theorem wd_3 : Cond.selects RX2 yX2_thrownBefore yX2_thrownBefore ∈ TB := tb_i 3 rfl rfl
set_option maxRecDepth 20000 in
theorem wd_4 : Cond.selects RX0 yX0_fillRow yX0_fillRow ∈ TB := tb_i 4 rfl rfl
set_option maxRecDepth 20000 in
theorem wd_5 : Cond.selects RX0 yX0_placeBit yX0_placeBit ∈ TB := tb_i 5 rfl rfl
set_option maxRecDepth 20000 in
theorem wd_6 : Cond.selects RX0 yX0_roundsOf yX0_roundsOf ∈ TB := tb_i 6 rfl rfl
set_option maxRecDepth 20000 in
theorem wd_7 : Cond.selects RX0 yX0_fillingsBy yX0_fillingsBy ∈ TB := tb_i 7 rfl rfl
set_option maxRecDepth 20000 in
theorem wd_8 : Cond.selects RX6 yX6_isRanked yX6_isRanked ∈ TB := tb_i 8 rfl rfl
set_option maxRecDepth 20000 in
theorem wd_9 : Cond.selects RX6 yX6_placeOfPattern yX6_placeOfPattern ∈ TB := tb_i 9 rfl rfl
set_option maxRecDepth 20000 in
theorem wd_10 : Cond.selects RX0 yX0_primesFrom yX0_primesFrom ∈ TB := tb_i 10 rfl rfl
set_option maxRecDepth 20000 in
theorem wd_11 : Cond.selects RX1 yX1_measure yX1_measure ∈ TB := tb_i 11 rfl rfl
set_option maxRecDepth 20000 in
theorem wd_12 : Cond.selects RX1 yX1_enqueue yX1_enqueue ∈ TB := tb_i 12 rfl rfl
set_option maxRecDepth 20000 in
theorem wd_13 : Cond.selects RX1 yX1_enqueueAirsBefore yX1_enqueueAirsBefore ∈ TB := tb_i 13 rfl rfl
set_option maxRecDepth 20000 in
theorem wd_14 : Cond.selects RX1 yX1_enqueueShifted yX1_enqueueShifted ∈ TB := tb_i 14 rfl rfl
set_option maxRecDepth 20000 in
theorem wd_15 : Cond.selects RX1 yX1_firstThrow yX1_firstThrow ∈ TB := tb_i 15 rfl rfl
set_option maxRecDepth 20000 in
theorem wd_16 : Cond.selects RX4 yX4_enqueue yX4_enqueue ∈ TB := tb_i 16 rfl rfl
set_option maxRecDepth 20000 in
theorem wd_17 : Cond.selects RX4 yX4_enqueueChanged yX4_enqueueChanged ∈ TB := tb_i 17 rfl rfl
set_option maxRecDepth 20000 in
theorem wd_18 : Cond.selects RX4 yX4_forgetSeen yX4_forgetSeen ∈ TB := tb_i 18 rfl rfl
set_option maxRecDepth 20000 in
theorem wd_19 : Cond.selects RX6 yX6_slipRefusal yX6_slipRefusal ∈ TB := tb_i 19 rfl rfl
set_option maxRecDepth 20000 in
theorem wd_20 : Cond.selects RX6 yX6_meets yX6_meets ∈ TB := tb_i 20 rfl rfl
set_option maxRecDepth 20000 in
theorem wd_21 : Cond.selects RX1 yX1_reachBy yX1_reachBy ∈ TB := tb_i 21 rfl rfl
set_option maxRecDepth 20000 in
theorem wd_22 : Cond.selects RX1 yX1_reachOnFrom yX1_reachOnFrom ∈ TB := tb_i 22 rfl rfl
set_option maxRecDepth 20000 in
theorem wd_23 : Cond.selects RX7 yX7_clashes yX7_clashes ∈ TB := tb_i 23 rfl rfl
set_option maxRecDepth 20000 in
theorem wd_24 : Cond.selects RX7 yX7_remember yX7_remember ∈ TB := tb_i 24 rfl rfl
set_option maxRecDepth 20000 in
theorem wd_25 : Cond.selects RX7 yX7_takeDraft yX7_takeDraft ∈ TB := tb_i 25 rfl rfl
set_option maxRecDepth 20000 in
theorem wd_26 : Cond.selects RX7 yX7_cycleOf yX7_cycleOf ∈ TB := tb_i 26 rfl rfl
set_option maxRecDepth 20000 in
theorem wd_27 : Cond.selects RX7 yX7_counts yX7_counts ∈ TB := tb_i 27 rfl rfl
set_option maxRecDepth 20000 in
theorem wd_28 : Cond.selects RX7 yX7_after yX7_after ∈ TB := tb_i 28 rfl rfl
set_option maxRecDepth 20000 in
theorem wd_29 : Cond.selects RX7 yX7_drafts yX7_drafts ∈ TB := tb_i 29 rfl rfl
set_option maxRecDepth 20000 in
theorem wd_30 : Cond.selects RX7 yX7_becomes yX7_becomes ∈ TB := tb_i 30 rfl rfl
set_option maxRecDepth 20000 in
theorem wd_31 : Cond.selects RX7 yX7_isRanked yX7_isRanked ∈ TB := tb_i 31 rfl rfl
set_option maxRecDepth 20000 in
theorem wd_32 : Cond.selects RX7 yX7_rankOf yX7_rankOf ∈ TB := tb_i 32 rfl rfl
set_option maxRecDepth 20000 in
theorem wd_33 : Cond.selects RX7 yX7_way yX7_way ∈ TB := tb_i 33 rfl rfl
set_option maxRecDepth 20000 in
theorem wd_34 : Cond.selects RX7 yX7_measures yX7_measures ∈ TB := tb_i 34 rfl rfl
set_option maxRecDepth 20000 in
theorem wd_35 : Cond.selects RX7 yX7_bars yX7_bars ∈ TB := tb_i 35 rfl rfl
set_option maxRecDepth 20000 in
theorem wd_36 : Cond.initialized RL ∈ TB := tb_i 36 rfl rfl
set_option maxRecDepth 20000 in
theorem wd_37 : Cond.initialized RX6 ∈ TB := tb_i 37 rfl rfl
set_option maxRecDepth 20000 in
theorem wd_38 : Cond.initialized RX5 ∈ TB := tb_i 38 rfl rfl
set_option maxRecDepth 20000 in
theorem wd_39 : Cond.initialized RX2 ∈ TB := tb_i 39 rfl rfl
set_option maxRecDepth 20000 in
theorem wd_40 : Cond.initialized RX3 ∈ TB := tb_i 40 rfl rfl
set_option maxRecDepth 20000 in
theorem wd_41 : Cond.initialized RJ9 ∈ TB := tb_i 41 rfl rfl
set_option maxRecDepth 20000 in
theorem wd_42 : Cond.initialized RX0 ∈ TB := tb_i 42 rfl rfl
set_option maxRecDepth 20000 in
theorem wd_43 : Cond.initialized RX1 ∈ TB := tb_i 43 rfl rfl
set_option maxRecDepth 20000 in
theorem wd_44 : Cond.initialized RX4 ∈ TB := tb_i 44 rfl rfl
set_option maxRecDepth 20000 in
theorem wd_45 : Cond.initialized RX7 ∈ TB := tb_i 45 rfl rfl
set_option maxRecDepth 20000 in
theorem wd_46 : Cond.initialized RJ6 ∈ TB := tb_i 46 rfl rfl
set_option maxRecDepth 20000 in
theorem wd_49 : Cond.methodLink RL 9 yX6_init ∈ TB := tb_i 49 rfl rfl
set_option maxRecDepth 20000 in
theorem wd_50 : Cond.instanceMethod yX6_init ∈ TB := tb_i 50 rfl rfl
set_option maxRecDepth 20000 in
theorem wd_51 : Cond.code yX6_init cX6_init 1 none ∈ TB := tb_i 51 rfl rfl
set_option maxRecDepth 20000 in
theorem wd_58 : Cond.instanceMethod yX5_init ∈ TB := tb_i 58 rfl rfl
set_option maxRecDepth 20000 in
theorem wd_59 : Cond.code yX5_init cX5_init 1 none ∈ TB := tb_i 59 rfl rfl
set_option maxRecDepth 20000 in
theorem wd_61 : Cond.fieldLink RX5 9 "BallsInAir$Text" "bytes" "[I" ∈ TB := tb_i 61 rfl rfl
set_option maxRecDepth 20000 in
theorem wd_62 : Cond.fieldLink RX5 15 "BallsInAir$Text" "length" "I" ∈ TB := tb_i 62 rfl rfl
set_option maxRecDepth 20000 in
theorem wd_63 : Cond.laysFinal RX5 "BallsInAir$Text" "bytes" "[I" ∈ TB := tb_i 63 rfl rfl
set_option maxRecDepth 20000 in
theorem wd_65 : Cond.lays RX5 "BallsInAir$Text" "length" "I" ∈ TB := tb_i 65 rfl rfl
set_option maxRecDepth 20000 in
theorem wd_71 : Cond.methodLink RX6 18 yX2_init ∈ TB := tb_i 71 rfl rfl
set_option maxRecDepth 20000 in
theorem wd_72 : Cond.instanceMethod yX2_init ∈ TB := tb_i 72 rfl rfl
set_option maxRecDepth 20000 in
theorem wd_73 : Cond.code yX2_init cX2_init 1 none ∈ TB := tb_i 73 rfl rfl
set_option maxRecDepth 20000 in
theorem wd_75 : Cond.fieldLink RX2 9 "BallsInAir$Pattern" "heights" "[I" ∈ TB := tb_i 75 rfl rfl
set_option maxRecDepth 20000 in
theorem wd_76 : Cond.fieldLink RX2 15 "BallsInAir$Pattern" "length" "I" ∈ TB := tb_i 76 rfl rfl
set_option maxRecDepth 20000 in
theorem wd_77 : Cond.laysFinal RX2 "BallsInAir$Pattern" "heights" "[I" ∈ TB := tb_i 77 rfl rfl
set_option maxRecDepth 20000 in
theorem wd_79 : Cond.lays RX2 "BallsInAir$Pattern" "length" "I" ∈ TB := tb_i 79 rfl rfl
set_option maxRecDepth 20000 in
theorem wd_84 : Cond.methodLink RX6 31 yX3_init ∈ TB := tb_i 84 rfl rfl
set_option maxRecDepth 20000 in
theorem wd_85 : Cond.instanceMethod yX3_init ∈ TB := tb_i 85 rfl rfl
set_option maxRecDepth 20000 in
theorem wd_86 : Cond.code yX3_init cX3_init 3 none ∈ TB := tb_i 86 rfl rfl
set_option maxRecDepth 20000 in
theorem wd_88 : Cond.methodLink RX3 16 yJ9_max_7cf53 ∈ TB := tb_i 88 rfl rfl
set_option maxRecDepth 20000 in
theorem wd_89 : Cond.static yJ9_max_7cf53 ∈ TB := tb_i 89 rfl rfl
set_option maxRecDepth 20000 in
theorem wd_90 : Cond.code yJ9_max_7cf53 cJ9_max_7cf53 2 (some .int) ∈ TB := tb_i 90 rfl rfl
set_option maxRecDepth 20000 in
theorem wd_93 : Cond.methodLink RX3 28 yX2_init ∈ TB := tb_i 93 rfl rfl
set_option maxRecDepth 20000 in
theorem wd_94 : Cond.fieldLink RX3 24 "BallsInAir$Shelf" "places" "[LBallsInAir$Pattern;" ∈ TB := tb_i 94 rfl rfl
set_option maxRecDepth 20000 in
theorem wd_95 : Cond.fieldLink RX3 7 "BallsInAir$Shelf" "start" "I" ∈ TB := tb_i 95 rfl rfl
set_option maxRecDepth 20000 in
theorem wd_96 : Cond.fieldLink RX3 13 "BallsInAir$Shelf" "used" "I" ∈ TB := tb_i 96 rfl rfl
set_option maxRecDepth 20000 in
theorem wd_97 : Cond.laysFinal RX3 "BallsInAir$Shelf" "places" "[LBallsInAir$Pattern;" ∈ TB := tb_i 97 rfl rfl
set_option maxRecDepth 20000 in
theorem wd_99 : Cond.lays RX3 "BallsInAir$Shelf" "start" "I" ∈ TB := tb_i 99 rfl rfl
set_option maxRecDepth 20000 in
theorem wd_101 : Cond.lays RX3 "BallsInAir$Shelf" "used" "I" ∈ TB := tb_i 101 rfl rfl
set_option maxRecDepth 20000 in
theorem wd_107 : Cond.instanceMethod yX0_init ∈ TB := tb_i 107 rfl rfl
set_option maxRecDepth 20000 in
theorem wd_108 : Cond.code yX0_init cX0_init 1 none ∈ TB := tb_i 108 rfl rfl
set_option maxRecDepth 20000 in
theorem wd_110 : Cond.fieldLink RX0 11 "BallsInAir$Census" "fillings" "[I" ∈ TB := tb_i 110 rfl rfl
set_option maxRecDepth 20000 in
theorem wd_111 : Cond.fieldLink RX0 15 "BallsInAir$Census" "length" "I" ∈ TB := tb_i 111 rfl rfl
set_option maxRecDepth 20000 in
theorem wd_112 : Cond.fieldLink RX0 19 "BallsInAir$Census" "top" "I" ∈ TB := tb_i 112 rfl rfl
set_option maxRecDepth 20000 in
theorem wd_113 : Cond.laysFinal RX0 "BallsInAir$Census" "fillings" "[I" ∈ TB := tb_i 113 rfl rfl
set_option maxRecDepth 20000 in
theorem wd_115 : Cond.lays RX0 "BallsInAir$Census" "length" "I" ∈ TB := tb_i 115 rfl rfl
set_option maxRecDepth 20000 in
theorem wd_117 : Cond.lays RX0 "BallsInAir$Census" "top" "I" ∈ TB := tb_i 117 rfl rfl
set_option maxRecDepth 20000 in
theorem wd_123 : Cond.instanceMethod yX1_init ∈ TB := tb_i 123 rfl rfl
set_option maxRecDepth 20000 in
theorem wd_124 : Cond.code yX1_init cX1_init 1 none ∈ TB := tb_i 124 rfl rfl
set_option maxRecDepth 20000 in
theorem wd_126 : Cond.fieldLink RX1 9 "BallsInAir$Passage" "away" "[I" ∈ TB := tb_i 126 rfl rfl
set_option maxRecDepth 20000 in
theorem wd_127 : Cond.fieldLink RX1 15 "BallsInAir$Passage" "queue" "[I" ∈ TB := tb_i 127 rfl rfl
set_option maxRecDepth 20000 in
theorem wd_128 : Cond.fieldLink RX1 18 "BallsInAir$Passage" "queued" "I" ∈ TB := tb_i 128 rfl rfl
set_option maxRecDepth 20000 in
theorem wd_129 : Cond.fieldLink RX1 22 "BallsInAir$Passage" "reached" "[I" ∈ TB := tb_i 129 rfl rfl
set_option maxRecDepth 20000 in
theorem wd_130 : Cond.laysFinal RX1 "BallsInAir$Passage" "away" "[I" ∈ TB := tb_i 130 rfl rfl
set_option maxRecDepth 20000 in
theorem wd_132 : Cond.laysFinal RX1 "BallsInAir$Passage" "queue" "[I" ∈ TB := tb_i 132 rfl rfl
set_option maxRecDepth 20000 in
theorem wd_134 : Cond.lays RX1 "BallsInAir$Passage" "queued" "I" ∈ TB := tb_i 134 rfl rfl
set_option maxRecDepth 20000 in
theorem wd_136 : Cond.laysFinal RX1 "BallsInAir$Passage" "reached" "[I" ∈ TB := tb_i 136 rfl rfl
set_option maxRecDepth 20000 in
theorem wd_142 : Cond.instanceMethod yX4_init ∈ TB := tb_i 142 rfl rfl
set_option maxRecDepth 20000 in
theorem wd_143 : Cond.code yX4_init cX4_init 1 none ∈ TB := tb_i 143 rfl rfl
set_option maxRecDepth 20000 in
theorem wd_145 : Cond.fieldLink RX4 9 "BallsInAir$Swaps" "queue" "[I" ∈ TB := tb_i 145 rfl rfl
set_option maxRecDepth 20000 in
theorem wd_146 : Cond.fieldLink RX4 15 "BallsInAir$Swaps" "depths" "[I" ∈ TB := tb_i 146 rfl rfl
set_option maxRecDepth 20000 in
theorem wd_147 : Cond.fieldLink RX4 18 "BallsInAir$Swaps" "seen" "[J" ∈ TB := tb_i 147 rfl rfl
set_option maxRecDepth 20000 in
theorem wd_148 : Cond.fieldLink RX4 22 "BallsInAir$Swaps" "queued" "I" ∈ TB := tb_i 148 rfl rfl
set_option maxRecDepth 20000 in
theorem wd_149 : Cond.laysFinal RX4 "BallsInAir$Swaps" "queue" "[I" ∈ TB := tb_i 149 rfl rfl
set_option maxRecDepth 20000 in
theorem wd_151 : Cond.laysFinal RX4 "BallsInAir$Swaps" "depths" "[I" ∈ TB := tb_i 151 rfl rfl
set_option maxRecDepth 20000 in
theorem wd_153 : Cond.laysFinal RX4 "BallsInAir$Swaps" "seen" "[J" ∈ TB := tb_i 153 rfl rfl
set_option maxRecDepth 20000 in
theorem wd_155 : Cond.lays RX4 "BallsInAir$Swaps" "queued" "I" ∈ TB := tb_i 155 rfl rfl
set_option maxRecDepth 20000 in
theorem wd_159 : Cond.fieldLink RX6 10 "BallsInAir" "text" "LBallsInAir$Text;" ∈ TB := tb_i 159 rfl rfl
set_option maxRecDepth 20000 in
theorem wd_160 : Cond.fieldLink RX6 19 "BallsInAir" "pattern" "LBallsInAir$Pattern;" ∈ TB := tb_i 160 rfl rfl
set_option maxRecDepth 20000 in
theorem wd_161 : Cond.fieldLink RX6 23 "BallsInAir" "another" "LBallsInAir$Pattern;" ∈ TB := tb_i 161 rfl rfl
set_option maxRecDepth 20000 in
theorem wd_162 : Cond.fieldLink RX6 26 "BallsInAir" "trial" "LBallsInAir$Pattern;" ∈ TB := tb_i 162 rfl rfl
set_option maxRecDepth 20000 in
theorem wd_163 : Cond.fieldLink RX6 34 "BallsInAir" "past" "LBallsInAir$Shelf;" ∈ TB := tb_i 163 rfl rfl
set_option maxRecDepth 20000 in
theorem wd_164 : Cond.fieldLink RX6 38 "BallsInAir" "kept" "LBallsInAir$Shelf;" ∈ TB := tb_i 164 rfl rfl
set_option maxRecDepth 20000 in
theorem wd_165 : Cond.fieldLink RX6 44 "BallsInAir" "census" "LBallsInAir$Census;" ∈ TB := tb_i 165 rfl rfl
set_option maxRecDepth 20000 in
theorem wd_166 : Cond.fieldLink RX6 51 "BallsInAir" "passage" "LBallsInAir$Passage;" ∈ TB := tb_i 166 rfl rfl
set_option maxRecDepth 20000 in
theorem wd_167 : Cond.fieldLink RX6 58 "BallsInAir" "swaps" "LBallsInAir$Swaps;" ∈ TB := tb_i 167 rfl rfl
set_option maxRecDepth 20000 in
theorem wd_168 : Cond.laysFinal RX6 "BallsInAir" "text" "LBallsInAir$Text;" ∈ TB := tb_i 168 rfl rfl
set_option maxRecDepth 20000 in
theorem wd_170 : Cond.laysFinal RX6 "BallsInAir" "pattern" "LBallsInAir$Pattern;" ∈ TB := tb_i 170 rfl rfl
set_option maxRecDepth 20000 in
theorem wd_172 : Cond.laysFinal RX6 "BallsInAir" "another" "LBallsInAir$Pattern;" ∈ TB := tb_i 172 rfl rfl
set_option maxRecDepth 20000 in
theorem wd_174 : Cond.laysFinal RX6 "BallsInAir" "trial" "LBallsInAir$Pattern;" ∈ TB := tb_i 174 rfl rfl
set_option maxRecDepth 20000 in
theorem wd_176 : Cond.laysFinal RX6 "BallsInAir" "past" "LBallsInAir$Shelf;" ∈ TB := tb_i 176 rfl rfl
set_option maxRecDepth 20000 in
theorem wd_178 : Cond.laysFinal RX6 "BallsInAir" "kept" "LBallsInAir$Shelf;" ∈ TB := tb_i 178 rfl rfl
set_option maxRecDepth 20000 in
theorem wd_180 : Cond.laysFinal RX6 "BallsInAir" "census" "LBallsInAir$Census;" ∈ TB := tb_i 180 rfl rfl
set_option maxRecDepth 20000 in
theorem wd_182 : Cond.laysFinal RX6 "BallsInAir" "passage" "LBallsInAir$Passage;" ∈ TB := tb_i 182 rfl rfl
set_option maxRecDepth 20000 in
theorem wd_184 : Cond.laysFinal RX6 "BallsInAir" "swaps" "LBallsInAir$Swaps;" ∈ TB := tb_i 184 rfl rfl
set_option maxRecDepth 20000 in
theorem wd_187 : Cond.methodLink RL 15 yX6_write ∈ TB := tb_i 187 rfl rfl
set_option maxRecDepth 20000 in
theorem wd_188 : Cond.instanceMethod yX6_write ∈ TB := tb_i 188 rfl rfl
set_option maxRecDepth 20000 in
theorem wd_189 : Cond.selects RX6 yX6_write yX6_write ∈ TB := tb_i 189 rfl rfl
set_option maxRecDepth 20000 in
theorem wd_190 : Cond.code yX6_write cX6_write 5 (some .int) ∈ TB := tb_i 190 rfl rfl
set_option maxRecDepth 20000 in
theorem wd_191 : Cond.methodLink RX6 62 yX5_length ∈ TB := tb_i 191 rfl rfl
set_option maxRecDepth 20000 in
theorem wd_192 : Cond.instanceMethod yX5_length ∈ TB := tb_i 192 rfl rfl
set_option maxRecDepth 20000 in
theorem wd_193 : Cond.selects RX5 yX5_length yX5_length ∈ TB := tb_i 193 rfl rfl
set_option maxRecDepth 20000 in
theorem wd_194 : Cond.code yX5_length cX5_length 1 (some .int) ∈ TB := tb_i 194 rfl rfl
set_option maxRecDepth 20000 in
theorem wd_195 : Cond.methodLink RX6 66 yX5_append ∈ TB := tb_i 195 rfl rfl
set_option maxRecDepth 20000 in
theorem wd_196 : Cond.instanceMethod yX5_append ∈ TB := tb_i 196 rfl rfl
set_option maxRecDepth 20000 in
theorem wd_197 : Cond.selects RX5 yX5_append yX5_append ∈ TB := tb_i 197 rfl rfl
set_option maxRecDepth 20000 in
theorem wd_198 : Cond.code yX5_append cX5_append 2 none ∈ TB := tb_i 198 rfl rfl
set_option maxRecDepth 20000 in
theorem wd_199 : Cond.methodLink RL 20 yX6_wipe ∈ TB := tb_i 199 rfl rfl
set_option maxRecDepth 20000 in
theorem wd_200 : Cond.instanceMethod yX6_wipe ∈ TB := tb_i 200 rfl rfl
set_option maxRecDepth 20000 in
theorem wd_201 : Cond.selects RX6 yX6_wipe yX6_wipe ∈ TB := tb_i 201 rfl rfl
set_option maxRecDepth 20000 in
theorem wd_202 : Cond.code yX6_wipe cX6_wipe 2 (some .int) ∈ TB := tb_i 202 rfl rfl
set_option maxRecDepth 20000 in
theorem wd_203 : Cond.methodLink RX6 69 yX5_clear ∈ TB := tb_i 203 rfl rfl
set_option maxRecDepth 20000 in
theorem wd_204 : Cond.instanceMethod yX5_clear ∈ TB := tb_i 204 rfl rfl
set_option maxRecDepth 20000 in
theorem wd_205 : Cond.selects RX5 yX5_clear yX5_clear ∈ TB := tb_i 205 rfl rfl
set_option maxRecDepth 20000 in
theorem wd_206 : Cond.code yX5_clear cX5_clear 1 none ∈ TB := tb_i 206 rfl rfl
set_option maxRecDepth 20000 in
theorem wd_207 : Cond.methodLink RL 25 yX6_fault ∈ TB := tb_i 207 rfl rfl
set_option maxRecDepth 20000 in
theorem wd_208 : Cond.instanceMethod yX6_fault ∈ TB := tb_i 208 rfl rfl
set_option maxRecDepth 20000 in
theorem wd_209 : Cond.selects RX6 yX6_fault yX6_fault ∈ TB := tb_i 209 rfl rfl
set_option maxRecDepth 20000 in
theorem wd_210 : Cond.code yX6_fault cX6_fault 1 (some .int) ∈ TB := tb_i 210 rfl rfl
set_option maxRecDepth 20000 in
theorem wd_211 : Cond.methodLink RX6 72 yX5_firstFault ∈ TB := tb_i 211 rfl rfl
set_option maxRecDepth 20000 in
theorem wd_212 : Cond.instanceMethod yX5_firstFault ∈ TB := tb_i 212 rfl rfl
set_option maxRecDepth 20000 in
theorem wd_213 : Cond.selects RX5 yX5_firstFault yX5_firstFault ∈ TB := tb_i 213 rfl rfl
set_option maxRecDepth 20000 in
theorem wd_214 : Cond.code yX5_firstFault cX5_firstFault 2 (some .int) ∈ TB := tb_i 214 rfl rfl
set_option maxRecDepth 20000 in
theorem wd_215 : Cond.methodLink RL 29 yX6_clash ∈ TB := tb_i 215 rfl rfl
set_option maxRecDepth 20000 in
theorem wd_216 : Cond.instanceMethod yX6_clash ∈ TB := tb_i 216 rfl rfl
set_option maxRecDepth 20000 in
theorem wd_217 : Cond.selects RX6 yX6_clash yX6_clash ∈ TB := tb_i 217 rfl rfl
set_option maxRecDepth 20000 in
theorem wd_218 : Cond.code yX6_clash cX6_clash 1 (some .int) ∈ TB := tb_i 218 rfl rfl
set_option maxRecDepth 20000 in
theorem wd_219 : Cond.methodLink RX6 75 yX5_copyInto ∈ TB := tb_i 219 rfl rfl
set_option maxRecDepth 20000 in
theorem wd_220 : Cond.instanceMethod yX5_copyInto ∈ TB := tb_i 220 rfl rfl
set_option maxRecDepth 20000 in
theorem wd_221 : Cond.selects RX5 yX5_copyInto yX5_copyInto ∈ TB := tb_i 221 rfl rfl
set_option maxRecDepth 20000 in
theorem wd_222 : Cond.code yX5_copyInto cX5_copyInto 3 none ∈ TB := tb_i 222 rfl rfl
set_option maxRecDepth 20000 in
theorem wd_223 : Cond.methodLink RX5 19 yX2_resize ∈ TB := tb_i 223 rfl rfl
set_option maxRecDepth 20000 in
theorem wd_224 : Cond.instanceMethod yX2_resize ∈ TB := tb_i 224 rfl rfl
set_option maxRecDepth 20000 in
theorem wd_225 : Cond.selects RX2 yX2_resize yX2_resize ∈ TB := tb_i 225 rfl rfl
set_option maxRecDepth 20000 in
theorem wd_226 : Cond.code yX2_resize cX2_resize 2 none ∈ TB := tb_i 226 rfl rfl
set_option maxRecDepth 20000 in
theorem wd_227 : Cond.methodLink RX2 19 yJ9_min_7cf53 ∈ TB := tb_i 227 rfl rfl
set_option maxRecDepth 20000 in
theorem wd_228 : Cond.static yJ9_min_7cf53 ∈ TB := tb_i 228 rfl rfl
set_option maxRecDepth 20000 in
theorem wd_229 : Cond.code yJ9_min_7cf53 cJ9_min_7cf53 2 (some .int) ∈ TB := tb_i 229 rfl rfl
set_option maxRecDepth 20000 in
theorem wd_230 : Cond.methodLink RX2 25 yJ9_max_7cf53 ∈ TB := tb_i 230 rfl rfl
set_option maxRecDepth 20000 in
theorem wd_231 : Cond.methodLink RX5 25 yX2_length ∈ TB := tb_i 231 rfl rfl
set_option maxRecDepth 20000 in
theorem wd_232 : Cond.instanceMethod yX2_length ∈ TB := tb_i 232 rfl rfl
set_option maxRecDepth 20000 in
theorem wd_233 : Cond.selects RX2 yX2_length yX2_length ∈ TB := tb_i 233 rfl rfl
set_option maxRecDepth 20000 in
theorem wd_234 : Cond.code yX2_length cX2_length 1 (some .int) ∈ TB := tb_i 234 rfl rfl
set_option maxRecDepth 20000 in
theorem wd_235 : Cond.methodLink RX5 28 yX2_put ∈ TB := tb_i 235 rfl rfl
set_option maxRecDepth 20000 in
theorem wd_236 : Cond.instanceMethod yX2_put ∈ TB := tb_i 236 rfl rfl
set_option maxRecDepth 20000 in
theorem wd_237 : Cond.selects RX2 yX2_put yX2_put ∈ TB := tb_i 237 rfl rfl
set_option maxRecDepth 20000 in
theorem wd_238 : Cond.code yX2_put cX2_put 3 none ∈ TB := tb_i 238 rfl rfl
set_option maxRecDepth 20000 in
theorem wd_239 : Cond.methodLink RX2 28 yX2_hasPlace ∈ TB := tb_i 239 rfl rfl
set_option maxRecDepth 20000 in
theorem wd_240 : Cond.instanceMethod yX2_hasPlace ∈ TB := tb_i 240 rfl rfl
set_option maxRecDepth 20000 in
theorem wd_241 : Cond.selects RX2 yX2_hasPlace yX2_hasPlace ∈ TB := tb_i 241 rfl rfl
set_option maxRecDepth 20000 in
theorem wd_242 : Cond.code yX2_hasPlace cX2_hasPlace 2 (some .boolean) ∈ TB := tb_i 242 rfl rfl
set_option maxRecDepth 20000 in
theorem wd_243 : Cond.methodLink RX6 79 yX2_firstClash ∈ TB := tb_i 243 rfl rfl
set_option maxRecDepth 20000 in
theorem wd_244 : Cond.instanceMethod yX2_firstClash ∈ TB := tb_i 244 rfl rfl
set_option maxRecDepth 20000 in
theorem wd_245 : Cond.selects RX2 yX2_firstClash yX2_firstClash ∈ TB := tb_i 245 rfl rfl
set_option maxRecDepth 20000 in
theorem wd_246 : Cond.code yX2_firstClash cX2_firstClash 4 (some .int) ∈ TB := tb_i 246 rfl rfl
set_option maxRecDepth 20000 in
theorem wd_247 : Cond.methodLink RX2 39 yX2_landing ∈ TB := tb_i 247 rfl rfl
set_option maxRecDepth 20000 in
theorem wd_248 : Cond.instanceMethod yX2_landing ∈ TB := tb_i 248 rfl rfl
set_option maxRecDepth 20000 in
theorem wd_249 : Cond.selects RX2 yX2_landing yX2_landing ∈ TB := tb_i 249 rfl rfl
set_option maxRecDepth 20000 in
theorem wd_250 : Cond.code yX2_landing cX2_landing 2 (some .int) ∈ TB := tb_i 250 rfl rfl
set_option maxRecDepth 20000 in
theorem wd_251 : Cond.methodLink RX2 35 yX2_heightAt ∈ TB := tb_i 251 rfl rfl
set_option maxRecDepth 20000 in
theorem wd_252 : Cond.instanceMethod yX2_heightAt ∈ TB := tb_i 252 rfl rfl
set_option maxRecDepth 20000 in
theorem wd_253 : Cond.selects RX2 yX2_heightAt yX2_heightAt ∈ TB := tb_i 253 rfl rfl
set_option maxRecDepth 20000 in
theorem wd_254 : Cond.code yX2_heightAt cX2_heightAt 2 (some .int) ∈ TB := tb_i 254 rfl rfl
set_option maxRecDepth 20000 in
theorem wd_255 : Cond.methodLink RX2 32 yJ9_floorMod_7cf53 ∈ TB := tb_i 255 rfl rfl
set_option maxRecDepth 20000 in
theorem wd_256 : Cond.static yJ9_floorMod_7cf53 ∈ TB := tb_i 256 rfl rfl
set_option maxRecDepth 20000 in
theorem wd_257 : Cond.code yJ9_floorMod_7cf53 cJ9_floorMod_7cf53 3 (some .int) ∈ TB := tb_i 257 rfl rfl
set_option maxRecDepth 20000 in
theorem wd_258 : Cond.methodLink RL 33 yX6_lay ∈ TB := tb_i 258 rfl rfl
set_option maxRecDepth 20000 in
theorem wd_259 : Cond.instanceMethod yX6_lay ∈ TB := tb_i 259 rfl rfl
set_option maxRecDepth 20000 in
theorem wd_260 : Cond.selects RX6 yX6_lay yX6_lay ∈ TB := tb_i 260 rfl rfl
set_option maxRecDepth 20000 in
theorem wd_261 : Cond.code yX6_lay cX6_lay 2 (some .int) ∈ TB := tb_i 261 rfl rfl
set_option maxRecDepth 20000 in
theorem wd_262 : Cond.methodLink RX6 82 yX6_isWhich ∈ TB := tb_i 262 rfl rfl
set_option maxRecDepth 20000 in
theorem wd_263 : Cond.static yX6_isWhich ∈ TB := tb_i 263 rfl rfl
set_option maxRecDepth 20000 in
theorem wd_264 : Cond.code yX6_isWhich cX6_isWhich 1 (some .boolean) ∈ TB := tb_i 264 rfl rfl
set_option maxRecDepth 20000 in
theorem wd_265 : Cond.methodLink RX6 86 yX6_chosen ∈ TB := tb_i 265 rfl rfl
set_option maxRecDepth 20000 in
theorem wd_267 : Cond.instanceMethod yX6_chosen ∈ TB := tb_i 267 rfl rfl
set_option maxRecDepth 20000 in
theorem wd_268 : Cond.code yX6_chosen cX6_chosen 2 (some (.object "BallsInAir$Pattern")) ∈ TB := tb_i 268 rfl rfl
set_option maxRecDepth 20000 in
theorem wd_269 : Cond.methodLink RX6 90 yX2_copy ∈ TB := tb_i 269 rfl rfl
set_option maxRecDepth 20000 in
theorem wd_270 : Cond.instanceMethod yX2_copy ∈ TB := tb_i 270 rfl rfl
set_option maxRecDepth 20000 in
theorem wd_271 : Cond.selects RX2 yX2_copy yX2_copy ∈ TB := tb_i 271 rfl rfl
set_option maxRecDepth 20000 in
theorem wd_272 : Cond.code yX2_copy cX2_copy 3 none ∈ TB := tb_i 272 rfl rfl
set_option maxRecDepth 20000 in
theorem wd_273 : Cond.methodLink RX6 93 yX3_clear ∈ TB := tb_i 273 rfl rfl
set_option maxRecDepth 20000 in
theorem wd_274 : Cond.instanceMethod yX3_clear ∈ TB := tb_i 274 rfl rfl
set_option maxRecDepth 20000 in
theorem wd_275 : Cond.selects RX3 yX3_clear yX3_clear ∈ TB := tb_i 275 rfl rfl
set_option maxRecDepth 20000 in
theorem wd_276 : Cond.code yX3_clear cX3_clear 1 none ∈ TB := tb_i 276 rfl rfl
set_option maxRecDepth 20000 in
theorem wd_277 : Cond.methodLink RX6 94 yX2_length ∈ TB := tb_i 277 rfl rfl
set_option maxRecDepth 20000 in
theorem wd_278 : Cond.methodLink RL 38 yX6_toss ∈ TB := tb_i 278 rfl rfl
set_option maxRecDepth 20000 in
theorem wd_279 : Cond.instanceMethod yX6_toss ∈ TB := tb_i 279 rfl rfl
set_option maxRecDepth 20000 in
theorem wd_280 : Cond.selects RX6 yX6_toss yX6_toss ∈ TB := tb_i 280 rfl rfl
set_option maxRecDepth 20000 in
theorem wd_281 : Cond.code yX6_toss cX6_toss 4 (some .int) ∈ TB := tb_i 281 rfl rfl
set_option maxRecDepth 20000 in
theorem wd_282 : Cond.methodLink RX6 95 yX2_heightAt ∈ TB := tb_i 282 rfl rfl
set_option maxRecDepth 20000 in
theorem wd_283 : Cond.methodLink RL 43 yX6_balls ∈ TB := tb_i 283 rfl rfl
set_option maxRecDepth 20000 in
theorem wd_284 : Cond.instanceMethod yX6_balls ∈ TB := tb_i 284 rfl rfl
set_option maxRecDepth 20000 in
theorem wd_285 : Cond.selects RX6 yX6_balls yX6_balls ∈ TB := tb_i 285 rfl rfl
set_option maxRecDepth 20000 in
theorem wd_286 : Cond.code yX6_balls cX6_balls 2 (some .int) ∈ TB := tb_i 286 rfl rfl
set_option maxRecDepth 20000 in
theorem wd_287 : Cond.methodLink RX6 99 yX2_ballCount ∈ TB := tb_i 287 rfl rfl
set_option maxRecDepth 20000 in
theorem wd_288 : Cond.instanceMethod yX2_ballCount ∈ TB := tb_i 288 rfl rfl
set_option maxRecDepth 20000 in
theorem wd_289 : Cond.selects RX2 yX2_ballCount yX2_ballCount ∈ TB := tb_i 289 rfl rfl
set_option maxRecDepth 20000 in
theorem wd_290 : Cond.code yX2_ballCount cX2_ballCount 3 (some .int) ∈ TB := tb_i 290 rfl rfl
set_option maxRecDepth 20000 in
theorem wd_291 : Cond.methodLink RL 47 yX6_air ∈ TB := tb_i 291 rfl rfl
set_option maxRecDepth 20000 in
theorem wd_292 : Cond.instanceMethod yX6_air ∈ TB := tb_i 292 rfl rfl
set_option maxRecDepth 20000 in
theorem wd_293 : Cond.selects RX6 yX6_air yX6_air ∈ TB := tb_i 293 rfl rfl
set_option maxRecDepth 20000 in
theorem wd_294 : Cond.code yX6_air cX6_air 2 (some .int) ∈ TB := tb_i 294 rfl rfl
set_option maxRecDepth 20000 in
theorem wd_295 : Cond.methodLink RX6 102 yX6_isBeat ∈ TB := tb_i 295 rfl rfl
set_option maxRecDepth 20000 in
theorem wd_296 : Cond.static yX6_isBeat ∈ TB := tb_i 296 rfl rfl
set_option maxRecDepth 20000 in
theorem wd_297 : Cond.code yX6_isBeat cX6_isBeat 1 (some .boolean) ∈ TB := tb_i 297 rfl rfl
set_option maxRecDepth 20000 in
theorem wd_298 : Cond.constant RX6 211 (100000) ∈ TB := tb_i 298 rfl rfl
set_option maxRecDepth 20000 in
theorem wd_299 : Cond.methodLink RX6 105 yX2_airAhead ∈ TB := tb_i 299 rfl rfl
set_option maxRecDepth 20000 in
theorem wd_300 : Cond.instanceMethod yX2_airAhead ∈ TB := tb_i 300 rfl rfl
set_option maxRecDepth 20000 in
theorem wd_301 : Cond.selects RX2 yX2_airAhead yX2_airAhead ∈ TB := tb_i 301 rfl rfl
set_option maxRecDepth 20000 in
theorem wd_302 : Cond.code yX2_airAhead cX2_airAhead 5 (some .int) ∈ TB := tb_i 302 rfl rfl
set_option maxRecDepth 20000 in
theorem wd_303 : Cond.methodLink RL 51 yX6_turn ∈ TB := tb_i 303 rfl rfl
set_option maxRecDepth 20000 in
theorem wd_304 : Cond.instanceMethod yX6_turn ∈ TB := tb_i 304 rfl rfl
set_option maxRecDepth 20000 in
theorem wd_305 : Cond.selects RX6 yX6_turn yX6_turn ∈ TB := tb_i 305 rfl rfl
set_option maxRecDepth 20000 in
theorem wd_306 : Cond.code yX6_turn cX6_turn 3 (some .int) ∈ TB := tb_i 306 rfl rfl
set_option maxRecDepth 20000 in
theorem wd_307 : Cond.methodLink RX6 108 yX2_hasPlace ∈ TB := tb_i 307 rfl rfl
set_option maxRecDepth 20000 in
theorem wd_308 : Cond.methodLink RX6 111 yX2_put ∈ TB := tb_i 308 rfl rfl
set_option maxRecDepth 20000 in
theorem wd_309 : Cond.methodLink RX6 115 yX6_becomeTrial ∈ TB := tb_i 309 rfl rfl
set_option maxRecDepth 20000 in
theorem wd_311 : Cond.instanceMethod yX6_becomeTrial ∈ TB := tb_i 311 rfl rfl
set_option maxRecDepth 20000 in
theorem wd_312 : Cond.code yX6_becomeTrial cX6_becomeTrial 1 (some .int) ∈ TB := tb_i 312 rfl rfl
set_option maxRecDepth 20000 in
theorem wd_313 : Cond.methodLink RX6 201 yX3_add ∈ TB := tb_i 313 rfl rfl
set_option maxRecDepth 20000 in
theorem wd_314 : Cond.instanceMethod yX3_add ∈ TB := tb_i 314 rfl rfl
set_option maxRecDepth 20000 in
theorem wd_315 : Cond.selects RX3 yX3_add yX3_add ∈ TB := tb_i 315 rfl rfl
set_option maxRecDepth 20000 in
theorem wd_316 : Cond.code yX3_add cX3_add 2 none ∈ TB := tb_i 316 rfl rfl
set_option maxRecDepth 20000 in
theorem wd_317 : Cond.methodLink RX3 29 yX2_copy ∈ TB := tb_i 317 rfl rfl
set_option maxRecDepth 20000 in
theorem wd_318 : Cond.methodLink RL 55 yX6_backwards ∈ TB := tb_i 318 rfl rfl
set_option maxRecDepth 20000 in
theorem wd_319 : Cond.instanceMethod yX6_backwards ∈ TB := tb_i 319 rfl rfl
set_option maxRecDepth 20000 in
theorem wd_320 : Cond.selects RX6 yX6_backwards yX6_backwards ∈ TB := tb_i 320 rfl rfl
set_option maxRecDepth 20000 in
theorem wd_321 : Cond.code yX6_backwards cX6_backwards 2 (some .int) ∈ TB := tb_i 321 rfl rfl
set_option maxRecDepth 20000 in
theorem wd_322 : Cond.methodLink RX6 118 yX2_landing ∈ TB := tb_i 322 rfl rfl
set_option maxRecDepth 20000 in
theorem wd_323 : Cond.methodLink RL 59 yX6_raise ∈ TB := tb_i 323 rfl rfl
set_option maxRecDepth 20000 in
theorem wd_324 : Cond.instanceMethod yX6_raise ∈ TB := tb_i 324 rfl rfl
set_option maxRecDepth 20000 in
theorem wd_325 : Cond.selects RX6 yX6_raise yX6_raise ∈ TB := tb_i 325 rfl rfl
set_option maxRecDepth 20000 in
theorem wd_326 : Cond.code yX6_raise cX6_raise 4 (some .int) ∈ TB := tb_i 326 rfl rfl
set_option maxRecDepth 20000 in
theorem wd_327 : Cond.methodLink RX6 121 yX6_isHeight ∈ TB := tb_i 327 rfl rfl
set_option maxRecDepth 20000 in
theorem wd_328 : Cond.static yX6_isHeight ∈ TB := tb_i 328 rfl rfl
set_option maxRecDepth 20000 in
theorem wd_329 : Cond.code yX6_isHeight cX6_isHeight 1 (some .boolean) ∈ TB := tb_i 329 rfl rfl
set_option maxRecDepth 20000 in
theorem wd_330 : Cond.methodLink RL 63 yX6_change ∈ TB := tb_i 330 rfl rfl
set_option maxRecDepth 20000 in
theorem wd_331 : Cond.instanceMethod yX6_change ∈ TB := tb_i 331 rfl rfl
set_option maxRecDepth 20000 in
theorem wd_332 : Cond.selects RX6 yX6_change yX6_change ∈ TB := tb_i 332 rfl rfl
set_option maxRecDepth 20000 in
theorem wd_333 : Cond.code yX6_change cX6_change 5 (some .int) ∈ TB := tb_i 333 rfl rfl
set_option maxRecDepth 20000 in
theorem wd_334 : Cond.methodLink RL 67 yX6_undo ∈ TB := tb_i 334 rfl rfl
set_option maxRecDepth 20000 in
theorem wd_335 : Cond.instanceMethod yX6_undo ∈ TB := tb_i 335 rfl rfl
set_option maxRecDepth 20000 in
theorem wd_336 : Cond.selects RX6 yX6_undo yX6_undo ∈ TB := tb_i 336 rfl rfl
set_option maxRecDepth 20000 in
theorem wd_337 : Cond.code yX6_undo cX6_undo 1 (some .int) ∈ TB := tb_i 337 rfl rfl
set_option maxRecDepth 20000 in
theorem wd_338 : Cond.methodLink RX6 124 yX3_used ∈ TB := tb_i 338 rfl rfl
set_option maxRecDepth 20000 in
theorem wd_339 : Cond.instanceMethod yX3_used ∈ TB := tb_i 339 rfl rfl
set_option maxRecDepth 20000 in
theorem wd_340 : Cond.selects RX3 yX3_used yX3_used ∈ TB := tb_i 340 rfl rfl
set_option maxRecDepth 20000 in
theorem wd_341 : Cond.code yX3_used cX3_used 1 (some .int) ∈ TB := tb_i 341 rfl rfl
set_option maxRecDepth 20000 in
theorem wd_342 : Cond.methodLink RX6 127 yX3_takeLast ∈ TB := tb_i 342 rfl rfl
set_option maxRecDepth 20000 in
theorem wd_343 : Cond.instanceMethod yX3_takeLast ∈ TB := tb_i 343 rfl rfl
set_option maxRecDepth 20000 in
theorem wd_344 : Cond.selects RX3 yX3_takeLast yX3_takeLast ∈ TB := tb_i 344 rfl rfl
set_option maxRecDepth 20000 in
theorem wd_345 : Cond.code yX3_takeLast cX3_takeLast 2 none ∈ TB := tb_i 345 rfl rfl
set_option maxRecDepth 20000 in
theorem wd_346 : Cond.methodLink RL 71 yX6_cycle ∈ TB := tb_i 346 rfl rfl
set_option maxRecDepth 20000 in
theorem wd_347 : Cond.instanceMethod yX6_cycle ∈ TB := tb_i 347 rfl rfl
set_option maxRecDepth 20000 in
theorem wd_348 : Cond.selects RX6 yX6_cycle yX6_cycle ∈ TB := tb_i 348 rfl rfl
set_option maxRecDepth 20000 in
theorem wd_349 : Cond.code yX6_cycle cX6_cycle 2 (some .int) ∈ TB := tb_i 349 rfl rfl
set_option maxRecDepth 20000 in
theorem wd_350 : Cond.methodLink RX6 130 yX2_cycleCount ∈ TB := tb_i 350 rfl rfl
set_option maxRecDepth 20000 in
theorem wd_351 : Cond.instanceMethod yX2_cycleCount ∈ TB := tb_i 351 rfl rfl
set_option maxRecDepth 20000 in
theorem wd_352 : Cond.selects RX2 yX2_cycleCount yX2_cycleCount ∈ TB := tb_i 352 rfl rfl
set_option maxRecDepth 20000 in
theorem wd_353 : Cond.code yX2_cycleCount cX2_cycleCount 4 (some .int) ∈ TB := tb_i 353 rfl rfl
set_option maxRecDepth 20000 in
theorem wd_354 : Cond.methodLink RX2 48 yX2_cycleBits ∈ TB := tb_i 354 rfl rfl
set_option maxRecDepth 20000 in
theorem wd_355 : Cond.instanceMethod yX2_cycleBits ∈ TB := tb_i 355 rfl rfl
set_option maxRecDepth 20000 in
theorem wd_356 : Cond.selects RX2 yX2_cycleBits yX2_cycleBits ∈ TB := tb_i 356 rfl rfl
set_option maxRecDepth 20000 in
theorem wd_357 : Cond.code yX2_cycleBits cX2_cycleBits 5 (some .int) ∈ TB := tb_i 357 rfl rfl
set_option maxRecDepth 20000 in
theorem wd_358 : Cond.methodLink RX6 133 yX2_cycleBits ∈ TB := tb_i 358 rfl rfl
set_option maxRecDepth 20000 in
theorem wd_359 : Cond.methodLink RL 75 yX6_ball ∈ TB := tb_i 359 rfl rfl
set_option maxRecDepth 20000 in
theorem wd_360 : Cond.instanceMethod yX6_ball ∈ TB := tb_i 360 rfl rfl
set_option maxRecDepth 20000 in
theorem wd_361 : Cond.selects RX6 yX6_ball yX6_ball ∈ TB := tb_i 361 rfl rfl
set_option maxRecDepth 20000 in
theorem wd_362 : Cond.code yX6_ball cX6_ball 2 (some .int) ∈ TB := tb_i 362 rfl rfl
set_option maxRecDepth 20000 in
theorem wd_363 : Cond.methodLink RX6 136 yX2_ballThrownAt ∈ TB := tb_i 363 rfl rfl
set_option maxRecDepth 20000 in
theorem wd_364 : Cond.instanceMethod yX2_ballThrownAt ∈ TB := tb_i 364 rfl rfl
set_option maxRecDepth 20000 in
theorem wd_365 : Cond.selects RX2 yX2_ballThrownAt yX2_ballThrownAt ∈ TB := tb_i 365 rfl rfl
set_option maxRecDepth 20000 in
theorem wd_366 : Cond.code yX2_ballThrownAt cX2_ballThrownAt 6 (some .int) ∈ TB := tb_i 366 rfl rfl
set_option maxRecDepth 20000 in
theorem wd_367 : Cond.methodLink RX2 51 yX2_cycleBeats ∈ TB := tb_i 367 rfl rfl
set_option maxRecDepth 20000 in
theorem wd_369 : Cond.instanceMethod yX2_cycleBeats ∈ TB := tb_i 369 rfl rfl
set_option maxRecDepth 20000 in
theorem wd_370 : Cond.code yX2_cycleBeats cX2_cycleBeats 5 (some .int) ∈ TB := tb_i 370 rfl rfl
set_option maxRecDepth 20000 in
theorem wd_371 : Cond.methodLink RX2 54 yX2_thrownBefore ∈ TB := tb_i 371 rfl rfl
set_option maxRecDepth 20000 in
theorem wd_373 : Cond.instanceMethod yX2_thrownBefore ∈ TB := tb_i 373 rfl rfl
set_option maxRecDepth 20000 in
theorem wd_374 : Cond.code yX2_thrownBefore cX2_thrownBefore 3 (some .int) ∈ TB := tb_i 374 rfl rfl
set_option maxRecDepth 20000 in
theorem wd_375 : Cond.methodLink RL 79 yX6_hands ∈ TB := tb_i 375 rfl rfl
set_option maxRecDepth 20000 in
theorem wd_376 : Cond.instanceMethod yX6_hands ∈ TB := tb_i 376 rfl rfl
set_option maxRecDepth 20000 in
theorem wd_377 : Cond.selects RX6 yX6_hands yX6_hands ∈ TB := tb_i 377 rfl rfl
set_option maxRecDepth 20000 in
theorem wd_378 : Cond.code yX6_hands cX6_hands 7 (some .int) ∈ TB := tb_i 378 rfl rfl
set_option maxRecDepth 20000 in
theorem wd_379 : Cond.methodLink RL 84 yX6_all ∈ TB := tb_i 379 rfl rfl
set_option maxRecDepth 20000 in
theorem wd_380 : Cond.instanceMethod yX6_all ∈ TB := tb_i 380 rfl rfl
set_option maxRecDepth 20000 in
theorem wd_381 : Cond.selects RX6 yX6_all yX6_all ∈ TB := tb_i 381 rfl rfl
set_option maxRecDepth 20000 in
theorem wd_382 : Cond.code yX6_all cX6_all 4 (some .long) ∈ TB := tb_i 382 rfl rfl
set_option maxRecDepth 20000 in
theorem wd_383 : Cond.methodLink RX6 139 yX6_isListed ∈ TB := tb_i 383 rfl rfl
set_option maxRecDepth 20000 in
theorem wd_384 : Cond.static yX6_isListed ∈ TB := tb_i 384 rfl rfl
set_option maxRecDepth 20000 in
theorem wd_385 : Cond.code yX6_isListed cX6_isListed 3 (some .boolean) ∈ TB := tb_i 385 rfl rfl
set_option maxRecDepth 20000 in
theorem wd_386 : Cond.constantLong RX6 143 (-1) ∈ TB := tb_i 386 rfl rfl
set_option maxRecDepth 20000 in
theorem wd_387 : Cond.methodLink RX6 145 yX0_prepare ∈ TB := tb_i 387 rfl rfl
set_option maxRecDepth 20000 in
theorem wd_388 : Cond.instanceMethod yX0_prepare ∈ TB := tb_i 388 rfl rfl
set_option maxRecDepth 20000 in
theorem wd_389 : Cond.selects RX0 yX0_prepare yX0_prepare ∈ TB := tb_i 389 rfl rfl
set_option maxRecDepth 20000 in
theorem wd_390 : Cond.code yX0_prepare cX0_prepare 5 none ∈ TB := tb_i 390 rfl rfl
set_option maxRecDepth 20000 in
theorem wd_391 : Cond.methodLink RX0 22 yJ9_min_7cf53 ∈ TB := tb_i 391 rfl rfl
set_option maxRecDepth 20000 in
theorem wd_392 : Cond.methodLink RX0 28 yJ9_max_7cf53 ∈ TB := tb_i 392 rfl rfl
set_option maxRecDepth 20000 in
theorem wd_393 : Cond.methodLink RX0 31 yX0_fillRow ∈ TB := tb_i 393 rfl rfl
set_option maxRecDepth 20000 in
theorem wd_395 : Cond.instanceMethod yX0_fillRow ∈ TB := tb_i 395 rfl rfl
set_option maxRecDepth 20000 in
theorem wd_396 : Cond.code yX0_fillRow cX0_fillRow 7 none ∈ TB := tb_i 396 rfl rfl
set_option maxRecDepth 20000 in
theorem wd_397 : Cond.methodLink RX0 35 yJ6_bitCount_0f7a4 ∈ TB := tb_i 397 rfl rfl
set_option maxRecDepth 20000 in
theorem wd_398 : Cond.static yJ6_bitCount_0f7a4 ∈ TB := tb_i 398 rfl rfl
set_option maxRecDepth 20000 in
theorem wd_399 : Cond.code yJ6_bitCount_0f7a4 cJ6_bitCount_0f7a4 1 (some .int) ∈ TB := tb_i 399 rfl rfl
set_option maxRecDepth 20000 in
theorem wd_400 : Cond.constant RJ6 265 (1431655765) ∈ TB := tb_i 400 rfl rfl
set_option maxRecDepth 20000 in
theorem wd_401 : Cond.constant RJ6 266 (858993459) ∈ TB := tb_i 401 rfl rfl
set_option maxRecDepth 20000 in
theorem wd_402 : Cond.constant RJ6 267 (252645135) ∈ TB := tb_i 402 rfl rfl
set_option maxRecDepth 20000 in
theorem wd_403 : Cond.methodLink RX0 41 yX0_placeBit ∈ TB := tb_i 403 rfl rfl
set_option maxRecDepth 20000 in
theorem wd_405 : Cond.instanceMethod yX0_placeBit ∈ TB := tb_i 405 rfl rfl
set_option maxRecDepth 20000 in
theorem wd_406 : Cond.code yX0_placeBit cX0_placeBit 2 (some .int) ∈ TB := tb_i 406 rfl rfl
set_option maxRecDepth 20000 in
theorem wd_407 : Cond.methodLink RX0 44 yX0_roundsOf ∈ TB := tb_i 407 rfl rfl
set_option maxRecDepth 20000 in
theorem wd_409 : Cond.instanceMethod yX0_roundsOf ∈ TB := tb_i 409 rfl rfl
set_option maxRecDepth 20000 in
theorem wd_410 : Cond.code yX0_roundsOf cX0_roundsOf 2 (some .int) ∈ TB := tb_i 410 rfl rfl
set_option maxRecDepth 20000 in
theorem wd_411 : Cond.methodLink RX6 148 yX0_total ∈ TB := tb_i 411 rfl rfl
set_option maxRecDepth 20000 in
theorem wd_412 : Cond.instanceMethod yX0_total ∈ TB := tb_i 412 rfl rfl
set_option maxRecDepth 20000 in
theorem wd_413 : Cond.selects RX0 yX0_total yX0_total ∈ TB := tb_i 413 rfl rfl
set_option maxRecDepth 20000 in
theorem wd_414 : Cond.code yX0_total cX0_total 2 (some .int) ∈ TB := tb_i 414 rfl rfl
set_option maxRecDepth 20000 in
theorem wd_415 : Cond.methodLink RL 89 yX6_nth ∈ TB := tb_i 415 rfl rfl
set_option maxRecDepth 20000 in
theorem wd_416 : Cond.instanceMethod yX6_nth ∈ TB := tb_i 416 rfl rfl
set_option maxRecDepth 20000 in
theorem wd_417 : Cond.selects RX6 yX6_nth yX6_nth ∈ TB := tb_i 417 rfl rfl
set_option maxRecDepth 20000 in
theorem wd_418 : Cond.code yX6_nth cX6_nth 6 (some .int) ∈ TB := tb_i 418 rfl rfl
set_option maxRecDepth 20000 in
theorem wd_419 : Cond.methodLink RX6 151 yX0_pick ∈ TB := tb_i 419 rfl rfl
set_option maxRecDepth 20000 in
theorem wd_420 : Cond.instanceMethod yX0_pick ∈ TB := tb_i 420 rfl rfl
set_option maxRecDepth 20000 in
theorem wd_421 : Cond.selects RX0 yX0_pick yX0_pick ∈ TB := tb_i 421 rfl rfl
set_option maxRecDepth 20000 in
theorem wd_422 : Cond.code yX0_pick cX0_pick 12 none ∈ TB := tb_i 422 rfl rfl
set_option maxRecDepth 20000 in
theorem wd_423 : Cond.methodLink RX0 47 yX2_resize ∈ TB := tb_i 423 rfl rfl
set_option maxRecDepth 20000 in
theorem wd_424 : Cond.methodLink RX0 52 yX0_fillingsBy ∈ TB := tb_i 424 rfl rfl
set_option maxRecDepth 20000 in
theorem wd_426 : Cond.instanceMethod yX0_fillingsBy ∈ TB := tb_i 426 rfl rfl
set_option maxRecDepth 20000 in
theorem wd_427 : Cond.code yX0_fillingsBy cX0_fillingsBy 8 (some .int) ∈ TB := tb_i 427 rfl rfl
set_option maxRecDepth 20000 in
theorem wd_428 : Cond.methodLink RX0 56 yX2_put ∈ TB := tb_i 428 rfl rfl
set_option maxRecDepth 20000 in
theorem wd_429 : Cond.methodLink RL 94 yX6_rank ∈ TB := tb_i 429 rfl rfl
set_option maxRecDepth 20000 in
theorem wd_430 : Cond.instanceMethod yX6_rank ∈ TB := tb_i 430 rfl rfl
set_option maxRecDepth 20000 in
theorem wd_431 : Cond.selects RX6 yX6_rank yX6_rank ∈ TB := tb_i 431 rfl rfl
set_option maxRecDepth 20000 in
theorem wd_432 : Cond.code yX6_rank cX6_rank 1 (some .long) ∈ TB := tb_i 432 rfl rfl
set_option maxRecDepth 20000 in
theorem wd_433 : Cond.methodLink RX6 155 yX6_isRanked ∈ TB := tb_i 433 rfl rfl
set_option maxRecDepth 20000 in
theorem wd_435 : Cond.instanceMethod yX6_isRanked ∈ TB := tb_i 435 rfl rfl
set_option maxRecDepth 20000 in
theorem wd_436 : Cond.code yX6_isRanked cX6_isRanked 2 (some .boolean) ∈ TB := tb_i 436 rfl rfl
set_option maxRecDepth 20000 in
theorem wd_437 : Cond.methodLink RX6 159 yX6_placeOfPattern ∈ TB := tb_i 437 rfl rfl
set_option maxRecDepth 20000 in
theorem wd_439 : Cond.instanceMethod yX6_placeOfPattern ∈ TB := tb_i 439 rfl rfl
set_option maxRecDepth 20000 in
theorem wd_440 : Cond.code yX6_placeOfPattern cX6_placeOfPattern 1 (some .int) ∈ TB := tb_i 440 rfl rfl
set_option maxRecDepth 20000 in
theorem wd_441 : Cond.methodLink RX6 204 yX0_placeOf ∈ TB := tb_i 441 rfl rfl
set_option maxRecDepth 20000 in
theorem wd_442 : Cond.instanceMethod yX0_placeOf ∈ TB := tb_i 442 rfl rfl
set_option maxRecDepth 20000 in
theorem wd_443 : Cond.selects RX0 yX0_placeOf yX0_placeOf ∈ TB := tb_i 443 rfl rfl
set_option maxRecDepth 20000 in
theorem wd_444 : Cond.code yX0_placeOf cX0_placeOf 8 (some .int) ∈ TB := tb_i 444 rfl rfl
set_option maxRecDepth 20000 in
theorem wd_445 : Cond.methodLink RX0 60 yX2_ballCount ∈ TB := tb_i 445 rfl rfl
set_option maxRecDepth 20000 in
theorem wd_446 : Cond.methodLink RX0 64 yX2_heightAt ∈ TB := tb_i 446 rfl rfl
set_option maxRecDepth 20000 in
theorem wd_447 : Cond.constantLong RX6 162 (-2) ∈ TB := tb_i 447 rfl rfl
set_option maxRecDepth 20000 in
theorem wd_448 : Cond.methodLink RL 99 yX6_next ∈ TB := tb_i 448 rfl rfl
set_option maxRecDepth 20000 in
theorem wd_449 : Cond.instanceMethod yX6_next ∈ TB := tb_i 449 rfl rfl
set_option maxRecDepth 20000 in
theorem wd_450 : Cond.selects RX6 yX6_next yX6_next ∈ TB := tb_i 450 rfl rfl
set_option maxRecDepth 20000 in
theorem wd_451 : Cond.code yX6_next cX6_next 3 (some .int) ∈ TB := tb_i 451 rfl rfl
set_option maxRecDepth 20000 in
theorem wd_452 : Cond.methodLink RL 103 yX6_prime ∈ TB := tb_i 452 rfl rfl
set_option maxRecDepth 20000 in
theorem wd_453 : Cond.instanceMethod yX6_prime ∈ TB := tb_i 453 rfl rfl
set_option maxRecDepth 20000 in
theorem wd_454 : Cond.selects RX6 yX6_prime yX6_prime ∈ TB := tb_i 454 rfl rfl
set_option maxRecDepth 20000 in
theorem wd_455 : Cond.code yX6_prime cX6_prime 1 (some .int) ∈ TB := tb_i 455 rfl rfl
set_option maxRecDepth 20000 in
theorem wd_456 : Cond.methodLink RX6 164 yX2_hasUnlikeAirs ∈ TB := tb_i 456 rfl rfl
set_option maxRecDepth 20000 in
theorem wd_457 : Cond.instanceMethod yX2_hasUnlikeAirs ∈ TB := tb_i 457 rfl rfl
set_option maxRecDepth 20000 in
theorem wd_458 : Cond.selects RX2 yX2_hasUnlikeAirs yX2_hasUnlikeAirs ∈ TB := tb_i 458 rfl rfl
set_option maxRecDepth 20000 in
theorem wd_459 : Cond.code yX2_hasUnlikeAirs cX2_hasUnlikeAirs 5 (some .boolean) ∈ TB := tb_i 459 rfl rfl
set_option maxRecDepth 20000 in
theorem wd_460 : Cond.methodLink RX2 42 yX2_airAhead ∈ TB := tb_i 460 rfl rfl
set_option maxRecDepth 20000 in
theorem wd_462 : Cond.static yX6_thrown ∈ TB := tb_i 462 rfl rfl
set_option maxRecDepth 20000 in
theorem wd_463 : Cond.code yX6_thrown cX6_thrown 2 (some .int) ∈ TB := tb_i 463 rfl rfl
set_option maxRecDepth 20000 in
theorem wd_464 : Cond.methodLink RL 107 yX6_primes ∈ TB := tb_i 464 rfl rfl
set_option maxRecDepth 20000 in
theorem wd_465 : Cond.instanceMethod yX6_primes ∈ TB := tb_i 465 rfl rfl
set_option maxRecDepth 20000 in
theorem wd_466 : Cond.selects RX6 yX6_primes yX6_primes ∈ TB := tb_i 466 rfl rfl
set_option maxRecDepth 20000 in
theorem wd_467 : Cond.code yX6_primes cX6_primes 4 (some .int) ∈ TB := tb_i 467 rfl rfl
set_option maxRecDepth 20000 in
theorem wd_468 : Cond.methodLink RX6 167 yX0_primeRounds ∈ TB := tb_i 468 rfl rfl
set_option maxRecDepth 20000 in
theorem wd_469 : Cond.instanceMethod yX0_primeRounds ∈ TB := tb_i 469 rfl rfl
set_option maxRecDepth 20000 in
theorem wd_470 : Cond.selects RX0 yX0_primeRounds yX0_primeRounds ∈ TB := tb_i 470 rfl rfl
set_option maxRecDepth 20000 in
theorem wd_471 : Cond.code yX0_primeRounds cX0_primeRounds 3 (some .int) ∈ TB := tb_i 471 rfl rfl
set_option maxRecDepth 20000 in
theorem wd_472 : Cond.methodLink RX0 67 yX0_primesFrom ∈ TB := tb_i 472 rfl rfl
set_option maxRecDepth 20000 in
theorem wd_474 : Cond.instanceMethod yX0_primesFrom ∈ TB := tb_i 474 rfl rfl
set_option maxRecDepth 20000 in
theorem wd_475 : Cond.code yX0_primesFrom cX0_primesFrom 8 (some .int) ∈ TB := tb_i 475 rfl rfl
set_option maxRecDepth 20000 in
theorem wd_476 : Cond.methodLink RX0 71 yX2_isFirstOfTurned ∈ TB := tb_i 476 rfl rfl
set_option maxRecDepth 20000 in
theorem wd_477 : Cond.instanceMethod yX2_isFirstOfTurned ∈ TB := tb_i 477 rfl rfl
set_option maxRecDepth 20000 in
theorem wd_478 : Cond.selects RX2 yX2_isFirstOfTurned yX2_isFirstOfTurned ∈ TB := tb_i 478 rfl rfl
set_option maxRecDepth 20000 in
theorem wd_479 : Cond.code yX2_isFirstOfTurned cX2_isFirstOfTurned 4 (some .boolean) ∈ TB := tb_i 479 rfl rfl
set_option maxRecDepth 20000 in
theorem wd_480 : Cond.methodLink RX0 75 yX2_hasUnlikeAirs ∈ TB := tb_i 480 rfl rfl
set_option maxRecDepth 20000 in
theorem wd_481 : Cond.methodLink RL 111 yX6_draw ∈ TB := tb_i 481 rfl rfl
set_option maxRecDepth 20000 in
theorem wd_482 : Cond.instanceMethod yX6_draw ∈ TB := tb_i 482 rfl rfl
set_option maxRecDepth 20000 in
theorem wd_483 : Cond.selects RX6 yX6_draw yX6_draw ∈ TB := tb_i 483 rfl rfl
set_option maxRecDepth 20000 in
theorem wd_484 : Cond.code yX6_draw cX6_draw 6 (some .int) ∈ TB := tb_i 484 rfl rfl
set_option maxRecDepth 20000 in
theorem wd_485 : Cond.methodLink RX6 171 yX6_drawnNumber ∈ TB := tb_i 485 rfl rfl
set_option maxRecDepth 20000 in
theorem wd_486 : Cond.static yX6_drawnNumber ∈ TB := tb_i 486 rfl rfl
set_option maxRecDepth 20000 in
theorem wd_487 : Cond.code yX6_drawnNumber cX6_drawnNumber 5 (some .long) ∈ TB := tb_i 487 rfl rfl
set_option maxRecDepth 20000 in
theorem wd_488 : Cond.constantLong RX6 212 (7919) ∈ TB := tb_i 488 rfl rfl
set_option maxRecDepth 20000 in
theorem wd_489 : Cond.constantLong RX6 214 (6151) ∈ TB := tb_i 489 rfl rfl
set_option maxRecDepth 20000 in
theorem wd_490 : Cond.constantLong RX6 216 (2) ∈ TB := tb_i 490 rfl rfl
set_option maxRecDepth 20000 in
theorem wd_491 : Cond.constantLong RX6 218 (65521) ∈ TB := tb_i 491 rfl rfl
set_option maxRecDepth 20000 in
theorem wd_492 : Cond.methodLink RL 116 yX6_in ∈ TB := tb_i 492 rfl rfl
set_option maxRecDepth 20000 in
theorem wd_493 : Cond.instanceMethod yX6_in ∈ TB := tb_i 493 rfl rfl
set_option maxRecDepth 20000 in
theorem wd_494 : Cond.selects RX6 yX6_in yX6_in ∈ TB := tb_i 494 rfl rfl
set_option maxRecDepth 20000 in
theorem wd_495 : Cond.code yX6_in cX6_in 2 (some .int) ∈ TB := tb_i 495 rfl rfl
set_option maxRecDepth 20000 in
theorem wd_496 : Cond.methodLink RX6 175 yX6_ground ∈ TB := tb_i 496 rfl rfl
set_option maxRecDepth 20000 in
theorem wd_497 : Cond.static yX6_ground ∈ TB := tb_i 497 rfl rfl
set_option maxRecDepth 20000 in
theorem wd_498 : Cond.code yX6_ground cX6_ground 1 (some .int) ∈ TB := tb_i 498 rfl rfl
set_option maxRecDepth 20000 in
theorem wd_499 : Cond.methodLink RX6 178 yX1_answer ∈ TB := tb_i 499 rfl rfl
set_option maxRecDepth 20000 in
theorem wd_500 : Cond.instanceMethod yX1_answer ∈ TB := tb_i 500 rfl rfl
set_option maxRecDepth 20000 in
theorem wd_501 : Cond.selects RX1 yX1_answer yX1_answer ∈ TB := tb_i 501 rfl rfl
set_option maxRecDepth 20000 in
theorem wd_502 : Cond.code yX1_answer cX1_answer 7 (some .int) ∈ TB := tb_i 502 rfl rfl
set_option maxRecDepth 20000 in
theorem wd_504 : Cond.static yX6_isAir ∈ TB := tb_i 504 rfl rfl
set_option maxRecDepth 20000 in
theorem wd_505 : Cond.code yX6_isAir cX6_isAir 1 (some .boolean) ∈ TB := tb_i 505 rfl rfl
set_option maxRecDepth 20000 in
theorem wd_506 : Cond.methodLink RX1 29 yX1_measure ∈ TB := tb_i 506 rfl rfl
set_option maxRecDepth 20000 in
theorem wd_508 : Cond.instanceMethod yX1_measure ∈ TB := tb_i 508 rfl rfl
set_option maxRecDepth 20000 in
theorem wd_509 : Cond.code yX1_measure cX1_measure 4 none ∈ TB := tb_i 509 rfl rfl
set_option maxRecDepth 20000 in
theorem wd_510 : Cond.methodLink RX1 41 yX1_enqueue ∈ TB := tb_i 510 rfl rfl
set_option maxRecDepth 20000 in
theorem wd_512 : Cond.instanceMethod yX1_enqueue ∈ TB := tb_i 512 rfl rfl
set_option maxRecDepth 20000 in
theorem wd_513 : Cond.code yX1_enqueue cX1_enqueue 3 none ∈ TB := tb_i 513 rfl rfl
set_option maxRecDepth 20000 in
theorem wd_514 : Cond.methodLink RX1 44 yX1_enqueueAirsBefore ∈ TB := tb_i 514 rfl rfl
set_option maxRecDepth 20000 in
theorem wd_516 : Cond.instanceMethod yX1_enqueueAirsBefore ∈ TB := tb_i 516 rfl rfl
set_option maxRecDepth 20000 in
theorem wd_517 : Cond.code yX1_enqueueAirsBefore cX1_enqueueAirsBefore 4 none ∈ TB := tb_i 517 rfl rfl
set_option maxRecDepth 20000 in
theorem wd_518 : Cond.methodLink RX1 48 yX1_enqueueShifted ∈ TB := tb_i 518 rfl rfl
set_option maxRecDepth 20000 in
theorem wd_520 : Cond.instanceMethod yX1_enqueueShifted ∈ TB := tb_i 520 rfl rfl
set_option maxRecDepth 20000 in
theorem wd_521 : Cond.code yX1_enqueueShifted cX1_enqueueShifted 4 none ∈ TB := tb_i 521 rfl rfl
set_option maxRecDepth 20000 in
theorem wd_522 : Cond.methodLink RX1 33 yX1_firstThrow ∈ TB := tb_i 522 rfl rfl
set_option maxRecDepth 20000 in
theorem wd_524 : Cond.instanceMethod yX1_firstThrow ∈ TB := tb_i 524 rfl rfl
set_option maxRecDepth 20000 in
theorem wd_525 : Cond.code yX1_firstThrow cX1_firstThrow 3 (some .int) ∈ TB := tb_i 525 rfl rfl
set_option maxRecDepth 20000 in
theorem wd_527 : Cond.static yX6_isTaken ∈ TB := tb_i 527 rfl rfl
set_option maxRecDepth 20000 in
theorem wd_528 : Cond.code yX6_isTaken cX6_isTaken 2 (some .boolean) ∈ TB := tb_i 528 rfl rfl
set_option maxRecDepth 20000 in
theorem wd_530 : Cond.methodLink RL 120 yX6_out ∈ TB := tb_i 530 rfl rfl
set_option maxRecDepth 20000 in
theorem wd_531 : Cond.instanceMethod yX6_out ∈ TB := tb_i 531 rfl rfl
set_option maxRecDepth 20000 in
theorem wd_532 : Cond.selects RX6 yX6_out yX6_out ∈ TB := tb_i 532 rfl rfl
set_option maxRecDepth 20000 in
theorem wd_533 : Cond.code yX6_out cX6_out 3 (some .int) ∈ TB := tb_i 533 rfl rfl
set_option maxRecDepth 20000 in
theorem wd_534 : Cond.methodLink RL 124 yX6_across ∈ TB := tb_i 534 rfl rfl
set_option maxRecDepth 20000 in
theorem wd_535 : Cond.instanceMethod yX6_across ∈ TB := tb_i 535 rfl rfl
set_option maxRecDepth 20000 in
theorem wd_536 : Cond.selects RX6 yX6_across yX6_across ∈ TB := tb_i 536 rfl rfl
set_option maxRecDepth 20000 in
theorem wd_537 : Cond.code yX6_across cX6_across 3 (some .int) ∈ TB := tb_i 537 rfl rfl
set_option maxRecDepth 20000 in
theorem wd_538 : Cond.methodLink RL 128 yX6_steps ∈ TB := tb_i 538 rfl rfl
set_option maxRecDepth 20000 in
theorem wd_539 : Cond.instanceMethod yX6_steps ∈ TB := tb_i 539 rfl rfl
set_option maxRecDepth 20000 in
theorem wd_540 : Cond.selects RX6 yX6_steps yX6_steps ∈ TB := tb_i 540 rfl rfl
set_option maxRecDepth 20000 in
theorem wd_541 : Cond.code yX6_steps cX6_steps 1 (some .int) ∈ TB := tb_i 541 rfl rfl
set_option maxRecDepth 20000 in
theorem wd_542 : Cond.methodLink RX6 182 yX4_fewest ∈ TB := tb_i 542 rfl rfl
set_option maxRecDepth 20000 in
theorem wd_543 : Cond.instanceMethod yX4_fewest ∈ TB := tb_i 543 rfl rfl
set_option maxRecDepth 20000 in
theorem wd_544 : Cond.selects RX4 yX4_fewest yX4_fewest ∈ TB := tb_i 544 rfl rfl
set_option maxRecDepth 20000 in
theorem wd_545 : Cond.code yX4_fewest cX4_fewest 6 (some .int) ∈ TB := tb_i 545 rfl rfl
set_option maxRecDepth 20000 in
theorem wd_546 : Cond.methodLink RX4 26 yX4_codeOf ∈ TB := tb_i 546 rfl rfl
set_option maxRecDepth 20000 in
theorem wd_547 : Cond.static yX4_codeOf ∈ TB := tb_i 547 rfl rfl
set_option maxRecDepth 20000 in
theorem wd_548 : Cond.code yX4_codeOf cX4_codeOf 3 (some .int) ∈ TB := tb_i 548 rfl rfl
set_option maxRecDepth 20000 in
theorem wd_549 : Cond.methodLink RX4 34 yX2_length ∈ TB := tb_i 549 rfl rfl
set_option maxRecDepth 20000 in
theorem wd_550 : Cond.methodLink RX4 47 yX2_heightAt ∈ TB := tb_i 550 rfl rfl
set_option maxRecDepth 20000 in
theorem wd_553 : Cond.methodLink RX4 30 yX4_enqueue ∈ TB := tb_i 553 rfl rfl
set_option maxRecDepth 20000 in
theorem wd_555 : Cond.instanceMethod yX4_enqueue ∈ TB := tb_i 555 rfl rfl
set_option maxRecDepth 20000 in
theorem wd_556 : Cond.code yX4_enqueue cX4_enqueue 5 none ∈ TB := tb_i 556 rfl rfl
set_option maxRecDepth 20000 in
theorem wd_557 : Cond.constant RX4 64 (100000) ∈ TB := tb_i 557 rfl rfl
set_option maxRecDepth 20000 in
theorem wd_558 : Cond.methodLink RX4 40 yX4_enqueueChanged ∈ TB := tb_i 558 rfl rfl
set_option maxRecDepth 20000 in
theorem wd_560 : Cond.instanceMethod yX4_enqueueChanged ∈ TB := tb_i 560 rfl rfl
set_option maxRecDepth 20000 in
theorem wd_561 : Cond.code yX4_enqueueChanged cX4_enqueueChanged 11 none ∈ TB := tb_i 561 rfl rfl
set_option maxRecDepth 20000 in
theorem wd_562 : Cond.methodLink RX4 54 yJ9_min_7cf53 ∈ TB := tb_i 562 rfl rfl
set_option maxRecDepth 20000 in
theorem wd_564 : Cond.methodLink RX4 44 yX4_forgetSeen ∈ TB := tb_i 564 rfl rfl
set_option maxRecDepth 20000 in
theorem wd_566 : Cond.instanceMethod yX4_forgetSeen ∈ TB := tb_i 566 rfl rfl
set_option maxRecDepth 20000 in
theorem wd_567 : Cond.code yX4_forgetSeen cX4_forgetSeen 2 none ∈ TB := tb_i 567 rfl rfl
set_option maxRecDepth 20000 in
theorem wd_568 : Cond.methodLink RL 132 yX6_together ∈ TB := tb_i 568 rfl rfl
set_option maxRecDepth 20000 in
theorem wd_569 : Cond.instanceMethod yX6_together ∈ TB := tb_i 569 rfl rfl
set_option maxRecDepth 20000 in
theorem wd_570 : Cond.selects RX6 yX6_together yX6_together ∈ TB := tb_i 570 rfl rfl
set_option maxRecDepth 20000 in
theorem wd_571 : Cond.code yX6_together cX6_together 4 (some .int) ∈ TB := tb_i 571 rfl rfl
set_option maxRecDepth 20000 in
theorem wd_572 : Cond.methodLink RX6 186 yX6_slipRefusal ∈ TB := tb_i 572 rfl rfl
set_option maxRecDepth 20000 in
theorem wd_574 : Cond.instanceMethod yX6_slipRefusal ∈ TB := tb_i 574 rfl rfl
set_option maxRecDepth 20000 in
theorem wd_575 : Cond.code yX6_slipRefusal cX6_slipRefusal 3 (some .int) ∈ TB := tb_i 575 rfl rfl
set_option maxRecDepth 20000 in
theorem wd_576 : Cond.methodLink RX6 190 yX6_meets ∈ TB := tb_i 576 rfl rfl
set_option maxRecDepth 20000 in
theorem wd_578 : Cond.instanceMethod yX6_meets ∈ TB := tb_i 578 rfl rfl
set_option maxRecDepth 20000 in
theorem wd_579 : Cond.code yX6_meets cX6_meets 3 (some .boolean) ∈ TB := tb_i 579 rfl rfl
set_option maxRecDepth 20000 in
theorem wd_580 : Cond.methodLink RX6 208 yX6_isTaken ∈ TB := tb_i 580 rfl rfl
set_option maxRecDepth 20000 in
theorem wd_581 : Cond.methodLink RL 136 yX6_mended ∈ TB := tb_i 581 rfl rfl
set_option maxRecDepth 20000 in
theorem wd_582 : Cond.instanceMethod yX6_mended ∈ TB := tb_i 582 rfl rfl
set_option maxRecDepth 20000 in
theorem wd_583 : Cond.selects RX6 yX6_mended yX6_mended ∈ TB := tb_i 583 rfl rfl
set_option maxRecDepth 20000 in
theorem wd_584 : Cond.code yX6_mended cX6_mended 4 (some .int) ∈ TB := tb_i 584 rfl rfl
set_option maxRecDepth 20000 in
theorem wd_585 : Cond.methodLink RX6 194 yX6_thrown ∈ TB := tb_i 585 rfl rfl
set_option maxRecDepth 20000 in
theorem wd_586 : Cond.methodLink RX6 197 yX1_throwsToMeet ∈ TB := tb_i 586 rfl rfl
set_option maxRecDepth 20000 in
theorem wd_587 : Cond.instanceMethod yX1_throwsToMeet ∈ TB := tb_i 587 rfl rfl
set_option maxRecDepth 20000 in
theorem wd_588 : Cond.selects RX1 yX1_throwsToMeet yX1_throwsToMeet ∈ TB := tb_i 588 rfl rfl
set_option maxRecDepth 20000 in
theorem wd_589 : Cond.code yX1_throwsToMeet cX1_throwsToMeet 6 (some .int) ∈ TB := tb_i 589 rfl rfl
set_option maxRecDepth 20000 in
theorem wd_590 : Cond.methodLink RX1 56 yX1_reachBy ∈ TB := tb_i 590 rfl rfl
set_option maxRecDepth 20000 in
theorem wd_592 : Cond.instanceMethod yX1_reachBy ∈ TB := tb_i 592 rfl rfl
set_option maxRecDepth 20000 in
theorem wd_593 : Cond.code yX1_reachBy cX1_reachBy 3 none ∈ TB := tb_i 593 rfl rfl
set_option maxRecDepth 20000 in
theorem wd_594 : Cond.methodLink RX1 64 yX1_reachOnFrom ∈ TB := tb_i 594 rfl rfl
set_option maxRecDepth 20000 in
theorem wd_596 : Cond.instanceMethod yX1_reachOnFrom ∈ TB := tb_i 596 rfl rfl
set_option maxRecDepth 20000 in
theorem wd_597 : Cond.code yX1_reachOnFrom cX1_reachOnFrom 4 none ∈ TB := tb_i 597 rfl rfl
set_option maxRecDepth 20000 in
theorem wd_598 : Cond.methodLink RX1 59 yX2_airAhead ∈ TB := tb_i 598 rfl rfl
set_option maxRecDepth 20000 in
theorem wd_599 : Cond.methodLink RL 140 yX6_keep ∈ TB := tb_i 599 rfl rfl
set_option maxRecDepth 20000 in
theorem wd_600 : Cond.instanceMethod yX6_keep ∈ TB := tb_i 600 rfl rfl
set_option maxRecDepth 20000 in
theorem wd_601 : Cond.selects RX6 yX6_keep yX6_keep ∈ TB := tb_i 601 rfl rfl
set_option maxRecDepth 20000 in
theorem wd_602 : Cond.code yX6_keep cX6_keep 1 (some .int) ∈ TB := tb_i 602 rfl rfl
set_option maxRecDepth 20000 in
theorem wd_603 : Cond.methodLink RL 144 yX6_back ∈ TB := tb_i 603 rfl rfl
set_option maxRecDepth 20000 in
theorem wd_604 : Cond.instanceMethod yX6_back ∈ TB := tb_i 604 rfl rfl
set_option maxRecDepth 20000 in
theorem wd_605 : Cond.selects RX6 yX6_back yX6_back ∈ TB := tb_i 605 rfl rfl
set_option maxRecDepth 20000 in
theorem wd_606 : Cond.code yX6_back cX6_back 1 (some .int) ∈ TB := tb_i 606 rfl rfl
set_option maxRecDepth 20000 in
theorem wd_607 : Cond.methodLink RL 148 yX6_count ∈ TB := tb_i 607 rfl rfl
set_option maxRecDepth 20000 in
theorem wd_608 : Cond.instanceMethod yX6_count ∈ TB := tb_i 608 rfl rfl
set_option maxRecDepth 20000 in
theorem wd_609 : Cond.selects RX6 yX6_count yX6_count ∈ TB := tb_i 609 rfl rfl
set_option maxRecDepth 20000 in
theorem wd_610 : Cond.code yX6_count cX6_count 2 (some .int) ∈ TB := tb_i 610 rfl rfl
set_option maxRecDepth 20000 in
theorem wd_613 : Cond.methodLink RL 12 yX7_init ∈ TB := tb_i 613 rfl rfl
set_option maxRecDepth 20000 in
theorem wd_614 : Cond.instanceMethod yX7_init ∈ TB := tb_i 614 rfl rfl
set_option maxRecDepth 20000 in
theorem wd_615 : Cond.code yX7_init cX7_init 2 none ∈ TB := tb_i 615 rfl rfl
set_option maxRecDepth 20000 in
theorem wd_617 : Cond.constant RX7 45 (100000) ∈ TB := tb_i 617 rfl rfl
set_option maxRecDepth 20000 in
theorem wd_618 : Cond.fieldLink RX7 7 "BallsInAirModel" "text" "[I" ∈ TB := tb_i 618 rfl rfl
set_option maxRecDepth 20000 in
theorem wd_619 : Cond.fieldLink RX7 65 "BallsInAirModel" "size" "I" ∈ TB := tb_i 619 rfl rfl
set_option maxRecDepth 20000 in
theorem wd_620 : Cond.fieldLink RX7 13 "BallsInAirModel" "many" "I" ∈ TB := tb_i 620 rfl rfl
set_option maxRecDepth 20000 in
theorem wd_621 : Cond.fieldLink RX7 17 "BallsInAirModel" "tosses" "[I" ∈ TB := tb_i 621 rfl rfl
set_option maxRecDepth 20000 in
theorem wd_622 : Cond.fieldLink RX7 20 "BallsInAirModel" "manyOther" "I" ∈ TB := tb_i 622 rfl rfl
set_option maxRecDepth 20000 in
theorem wd_623 : Cond.fieldLink RX7 23 "BallsInAirModel" "other" "[I" ∈ TB := tb_i 623 rfl rfl
set_option maxRecDepth 20000 in
theorem wd_624 : Cond.fieldLink RX7 81 "BallsInAirModel" "undos" "I" ∈ TB := tb_i 624 rfl rfl
set_option maxRecDepth 20000 in
theorem wd_625 : Cond.fieldLink RX7 26 "BallsInAirModel" "before" "[I" ∈ TB := tb_i 625 rfl rfl
set_option maxRecDepth 20000 in
theorem wd_626 : Cond.fieldLink RX7 181 "BallsInAirModel" "kepts" "I" ∈ TB := tb_i 626 rfl rfl
set_option maxRecDepth 20000 in
theorem wd_627 : Cond.fieldLink RX7 29 "BallsInAirModel" "kept" "[I" ∈ TB := tb_i 627 rfl rfl
set_option maxRecDepth 20000 in
theorem wd_628 : Cond.fieldLink RX7 32 "BallsInAirModel" "draft" "[I" ∈ TB := tb_i 628 rfl rfl
set_option maxRecDepth 20000 in
theorem wd_629 : Cond.fieldLink RX7 35 "BallsInAirModel" "comes" "[I" ∈ TB := tb_i 629 rfl rfl
set_option maxRecDepth 20000 in
theorem wd_630 : Cond.fieldLink RX7 38 "BallsInAirModel" "rest" "[J" ∈ TB := tb_i 630 rfl rfl
set_option maxRecDepth 20000 in
theorem wd_631 : Cond.fieldLink RX7 42 "BallsInAirModel" "far" "[I" ∈ TB := tb_i 631 rfl rfl
set_option maxRecDepth 20000 in
theorem wd_632 : Cond.fieldLink RX7 46 "BallsInAirModel" "steps" "[I" ∈ TB := tb_i 632 rfl rfl
set_option maxRecDepth 20000 in
theorem wd_633 : Cond.fieldLink RX7 49 "BallsInAirModel" "queue" "[I" ∈ TB := tb_i 633 rfl rfl
set_option maxRecDepth 20000 in
theorem wd_634 : Cond.fieldLink RX7 52 "BallsInAirModel" "here" "[Z" ∈ TB := tb_i 634 rfl rfl
set_option maxRecDepth 20000 in
theorem wd_635 : Cond.fieldLink RX7 56 "BallsInAirModel" "there" "[Z" ∈ TB := tb_i 635 rfl rfl
set_option maxRecDepth 20000 in
theorem wd_636 : Cond.laysFinal RX7 "BallsInAirModel" "text" "[I" ∈ TB := tb_i 636 rfl rfl
set_option maxRecDepth 20000 in
theorem wd_638 : Cond.lays RX7 "BallsInAirModel" "size" "I" ∈ TB := tb_i 638 rfl rfl
set_option maxRecDepth 20000 in
theorem wd_640 : Cond.lays RX7 "BallsInAirModel" "many" "I" ∈ TB := tb_i 640 rfl rfl
set_option maxRecDepth 20000 in
theorem wd_642 : Cond.laysFinal RX7 "BallsInAirModel" "tosses" "[I" ∈ TB := tb_i 642 rfl rfl
set_option maxRecDepth 20000 in
theorem wd_644 : Cond.lays RX7 "BallsInAirModel" "manyOther" "I" ∈ TB := tb_i 644 rfl rfl
set_option maxRecDepth 20000 in
theorem wd_646 : Cond.laysFinal RX7 "BallsInAirModel" "other" "[I" ∈ TB := tb_i 646 rfl rfl
set_option maxRecDepth 20000 in
theorem wd_648 : Cond.lays RX7 "BallsInAirModel" "undos" "I" ∈ TB := tb_i 648 rfl rfl
set_option maxRecDepth 20000 in
theorem wd_650 : Cond.laysFinal RX7 "BallsInAirModel" "before" "[I" ∈ TB := tb_i 650 rfl rfl
set_option maxRecDepth 20000 in
theorem wd_652 : Cond.lays RX7 "BallsInAirModel" "kepts" "I" ∈ TB := tb_i 652 rfl rfl
set_option maxRecDepth 20000 in
theorem wd_654 : Cond.laysFinal RX7 "BallsInAirModel" "kept" "[I" ∈ TB := tb_i 654 rfl rfl
set_option maxRecDepth 20000 in
theorem wd_656 : Cond.laysFinal RX7 "BallsInAirModel" "draft" "[I" ∈ TB := tb_i 656 rfl rfl
set_option maxRecDepth 20000 in
theorem wd_658 : Cond.laysFinal RX7 "BallsInAirModel" "comes" "[I" ∈ TB := tb_i 658 rfl rfl
set_option maxRecDepth 20000 in
theorem wd_660 : Cond.laysFinal RX7 "BallsInAirModel" "rest" "[J" ∈ TB := tb_i 660 rfl rfl
set_option maxRecDepth 20000 in
theorem wd_662 : Cond.laysFinal RX7 "BallsInAirModel" "far" "[I" ∈ TB := tb_i 662 rfl rfl
set_option maxRecDepth 20000 in
theorem wd_664 : Cond.laysFinal RX7 "BallsInAirModel" "steps" "[I" ∈ TB := tb_i 664 rfl rfl
set_option maxRecDepth 20000 in
theorem wd_666 : Cond.laysFinal RX7 "BallsInAirModel" "queue" "[I" ∈ TB := tb_i 666 rfl rfl
set_option maxRecDepth 20000 in
theorem wd_668 : Cond.laysFinal RX7 "BallsInAirModel" "here" "[Z" ∈ TB := tb_i 668 rfl rfl
set_option maxRecDepth 20000 in
theorem wd_670 : Cond.laysFinal RX7 "BallsInAirModel" "there" "[Z" ∈ TB := tb_i 670 rfl rfl
set_option maxRecDepth 20000 in
theorem wd_674 : Cond.methodLink RL 19 yX7_write ∈ TB := tb_i 674 rfl rfl
set_option maxRecDepth 20000 in
theorem wd_675 : Cond.instanceMethod yX7_write ∈ TB := tb_i 675 rfl rfl
set_option maxRecDepth 20000 in
theorem wd_676 : Cond.selects RX7 yX7_write yX7_write ∈ TB := tb_i 676 rfl rfl
set_option maxRecDepth 20000 in
theorem wd_677 : Cond.code yX7_write cX7_write 5 (some .int) ∈ TB := tb_i 677 rfl rfl
set_option maxRecDepth 20000 in
theorem wd_678 : Cond.constantLong RX7 59 (8) ∈ TB := tb_i 678 rfl rfl
set_option maxRecDepth 20000 in
theorem wd_679 : Cond.methodLink RX7 61 yX7_is ∈ TB := tb_i 679 rfl rfl
set_option maxRecDepth 20000 in
theorem wd_680 : Cond.static yX7_is ∈ TB := tb_i 680 rfl rfl
set_option maxRecDepth 20000 in
theorem wd_681 : Cond.code yX7_is cX7_is 6 (some .boolean) ∈ TB := tb_i 681 rfl rfl
set_option maxRecDepth 20000 in
theorem wd_682 : Cond.constantLong RX7 68 (255) ∈ TB := tb_i 682 rfl rfl
set_option maxRecDepth 20000 in
theorem wd_683 : Cond.methodLink RL 24 yX7_wipe ∈ TB := tb_i 683 rfl rfl
set_option maxRecDepth 20000 in
theorem wd_684 : Cond.instanceMethod yX7_wipe ∈ TB := tb_i 684 rfl rfl
set_option maxRecDepth 20000 in
theorem wd_685 : Cond.selects RX7 yX7_wipe yX7_wipe ∈ TB := tb_i 685 rfl rfl
set_option maxRecDepth 20000 in
theorem wd_686 : Cond.code yX7_wipe cX7_wipe 2 (some .int) ∈ TB := tb_i 686 rfl rfl
set_option maxRecDepth 20000 in
theorem wd_687 : Cond.methodLink RL 28 yX7_fault ∈ TB := tb_i 687 rfl rfl
set_option maxRecDepth 20000 in
theorem wd_688 : Cond.instanceMethod yX7_fault ∈ TB := tb_i 688 rfl rfl
set_option maxRecDepth 20000 in
theorem wd_689 : Cond.selects RX7 yX7_fault yX7_fault ∈ TB := tb_i 689 rfl rfl
set_option maxRecDepth 20000 in
theorem wd_690 : Cond.code yX7_fault cX7_fault 2 (some .int) ∈ TB := tb_i 690 rfl rfl
set_option maxRecDepth 20000 in
theorem wd_691 : Cond.constantLong RX7 70 (48) ∈ TB := tb_i 691 rfl rfl
set_option maxRecDepth 20000 in
theorem wd_692 : Cond.constantLong RX7 72 (57) ∈ TB := tb_i 692 rfl rfl
set_option maxRecDepth 20000 in
theorem wd_693 : Cond.methodLink RL 32 yX7_clash ∈ TB := tb_i 693 rfl rfl
set_option maxRecDepth 20000 in
theorem wd_694 : Cond.instanceMethod yX7_clash ∈ TB := tb_i 694 rfl rfl
set_option maxRecDepth 20000 in
theorem wd_695 : Cond.selects RX7 yX7_clash yX7_clash ∈ TB := tb_i 695 rfl rfl
set_option maxRecDepth 20000 in
theorem wd_696 : Cond.code yX7_clash cX7_clash 1 (some .int) ∈ TB := tb_i 696 rfl rfl
set_option maxRecDepth 20000 in
theorem wd_697 : Cond.methodLink RX7 74 yX7_fault ∈ TB := tb_i 697 rfl rfl
set_option maxRecDepth 20000 in
theorem wd_698 : Cond.methodLink RX7 78 yX7_clashes ∈ TB := tb_i 698 rfl rfl
set_option maxRecDepth 20000 in
theorem wd_700 : Cond.instanceMethod yX7_clashes ∈ TB := tb_i 700 rfl rfl
set_option maxRecDepth 20000 in
theorem wd_701 : Cond.code yX7_clashes cX7_clashes 4 (some .int) ∈ TB := tb_i 701 rfl rfl
set_option maxRecDepth 20000 in
theorem wd_702 : Cond.methodLink RL 37 yX7_lay ∈ TB := tb_i 702 rfl rfl
set_option maxRecDepth 20000 in
theorem wd_703 : Cond.instanceMethod yX7_lay ∈ TB := tb_i 703 rfl rfl
set_option maxRecDepth 20000 in
theorem wd_704 : Cond.selects RX7 yX7_lay yX7_lay ∈ TB := tb_i 704 rfl rfl
set_option maxRecDepth 20000 in
theorem wd_705 : Cond.code yX7_lay cX7_lay 3 (some .int) ∈ TB := tb_i 705 rfl rfl
set_option maxRecDepth 20000 in
theorem wd_706 : Cond.methodLink RL 42 yX7_toss ∈ TB := tb_i 706 rfl rfl
set_option maxRecDepth 20000 in
theorem wd_707 : Cond.instanceMethod yX7_toss ∈ TB := tb_i 707 rfl rfl
set_option maxRecDepth 20000 in
theorem wd_708 : Cond.selects RX7 yX7_toss yX7_toss ∈ TB := tb_i 708 rfl rfl
set_option maxRecDepth 20000 in
theorem wd_709 : Cond.code yX7_toss cX7_toss 3 (some .int) ∈ TB := tb_i 709 rfl rfl
set_option maxRecDepth 20000 in
theorem wd_710 : Cond.methodLink RL 46 yX7_balls ∈ TB := tb_i 710 rfl rfl
set_option maxRecDepth 20000 in
theorem wd_711 : Cond.instanceMethod yX7_balls ∈ TB := tb_i 711 rfl rfl
set_option maxRecDepth 20000 in
theorem wd_712 : Cond.selects RX7 yX7_balls yX7_balls ∈ TB := tb_i 712 rfl rfl
set_option maxRecDepth 20000 in
theorem wd_713 : Cond.code yX7_balls cX7_balls 2 (some .int) ∈ TB := tb_i 713 rfl rfl
set_option maxRecDepth 20000 in
theorem wd_714 : Cond.methodLink RX7 84 yX7_sumOf ∈ TB := tb_i 714 rfl rfl
set_option maxRecDepth 20000 in
theorem wd_715 : Cond.static yX7_sumOf ∈ TB := tb_i 715 rfl rfl
set_option maxRecDepth 20000 in
theorem wd_716 : Cond.code yX7_sumOf cX7_sumOf 4 (some .int) ∈ TB := tb_i 716 rfl rfl
set_option maxRecDepth 20000 in
theorem wd_717 : Cond.methodLink RL 50 yX7_air ∈ TB := tb_i 717 rfl rfl
set_option maxRecDepth 20000 in
theorem wd_718 : Cond.instanceMethod yX7_air ∈ TB := tb_i 718 rfl rfl
set_option maxRecDepth 20000 in
theorem wd_719 : Cond.selects RX7 yX7_air yX7_air ∈ TB := tb_i 719 rfl rfl
set_option maxRecDepth 20000 in
theorem wd_720 : Cond.code yX7_air cX7_air 2 (some .int) ∈ TB := tb_i 720 rfl rfl
set_option maxRecDepth 20000 in
theorem wd_721 : Cond.constantLong RX7 88 (100000) ∈ TB := tb_i 721 rfl rfl
set_option maxRecDepth 20000 in
theorem wd_722 : Cond.methodLink RX7 90 yX7_airOf ∈ TB := tb_i 722 rfl rfl
set_option maxRecDepth 20000 in
theorem wd_723 : Cond.static yX7_airOf ∈ TB := tb_i 723 rfl rfl
set_option maxRecDepth 20000 in
theorem wd_724 : Cond.code yX7_airOf cX7_airOf 6 (some .int) ∈ TB := tb_i 724 rfl rfl
set_option maxRecDepth 20000 in
theorem wd_725 : Cond.methodLink RL 54 yX7_turn ∈ TB := tb_i 725 rfl rfl
set_option maxRecDepth 20000 in
theorem wd_726 : Cond.instanceMethod yX7_turn ∈ TB := tb_i 726 rfl rfl
set_option maxRecDepth 20000 in
theorem wd_727 : Cond.selects RX7 yX7_turn yX7_turn ∈ TB := tb_i 727 rfl rfl
set_option maxRecDepth 20000 in
theorem wd_728 : Cond.code yX7_turn cX7_turn 3 (some .int) ∈ TB := tb_i 728 rfl rfl
set_option maxRecDepth 20000 in
theorem wd_729 : Cond.methodLink RX7 94 yX7_remember ∈ TB := tb_i 729 rfl rfl
set_option maxRecDepth 20000 in
theorem wd_731 : Cond.instanceMethod yX7_remember ∈ TB := tb_i 731 rfl rfl
set_option maxRecDepth 20000 in
theorem wd_732 : Cond.code yX7_remember cX7_remember 2 none ∈ TB := tb_i 732 rfl rfl
set_option maxRecDepth 20000 in
theorem wd_733 : Cond.methodLink RX7 97 yX7_takeDraft ∈ TB := tb_i 733 rfl rfl
set_option maxRecDepth 20000 in
theorem wd_735 : Cond.instanceMethod yX7_takeDraft ∈ TB := tb_i 735 rfl rfl
set_option maxRecDepth 20000 in
theorem wd_736 : Cond.code yX7_takeDraft cX7_takeDraft 3 none ∈ TB := tb_i 736 rfl rfl
set_option maxRecDepth 20000 in
theorem wd_737 : Cond.methodLink RL 58 yX7_backwards ∈ TB := tb_i 737 rfl rfl
set_option maxRecDepth 20000 in
theorem wd_738 : Cond.instanceMethod yX7_backwards ∈ TB := tb_i 738 rfl rfl
set_option maxRecDepth 20000 in
theorem wd_739 : Cond.selects RX7 yX7_backwards yX7_backwards ∈ TB := tb_i 739 rfl rfl
set_option maxRecDepth 20000 in
theorem wd_740 : Cond.code yX7_backwards cX7_backwards 2 (some .int) ∈ TB := tb_i 740 rfl rfl
set_option maxRecDepth 20000 in
theorem wd_741 : Cond.methodLink RL 62 yX7_raise ∈ TB := tb_i 741 rfl rfl
set_option maxRecDepth 20000 in
theorem wd_742 : Cond.instanceMethod yX7_raise ∈ TB := tb_i 742 rfl rfl
set_option maxRecDepth 20000 in
theorem wd_743 : Cond.selects RX7 yX7_raise yX7_raise ∈ TB := tb_i 743 rfl rfl
set_option maxRecDepth 20000 in
theorem wd_744 : Cond.code yX7_raise cX7_raise 3 (some .int) ∈ TB := tb_i 744 rfl rfl
set_option maxRecDepth 20000 in
theorem wd_745 : Cond.constantLong RX7 101 (-9) ∈ TB := tb_i 745 rfl rfl
set_option maxRecDepth 20000 in
theorem wd_746 : Cond.constantLong RX7 103 (9) ∈ TB := tb_i 746 rfl rfl
set_option maxRecDepth 20000 in
theorem wd_747 : Cond.methodLink RX7 105 yX7_balls ∈ TB := tb_i 747 rfl rfl
set_option maxRecDepth 20000 in
theorem wd_748 : Cond.methodLink RL 66 yX7_change ∈ TB := tb_i 748 rfl rfl
set_option maxRecDepth 20000 in
theorem wd_749 : Cond.instanceMethod yX7_change ∈ TB := tb_i 749 rfl rfl
set_option maxRecDepth 20000 in
theorem wd_750 : Cond.selects RX7 yX7_change yX7_change ∈ TB := tb_i 750 rfl rfl
set_option maxRecDepth 20000 in
theorem wd_751 : Cond.code yX7_change cX7_change 5 (some .int) ∈ TB := tb_i 751 rfl rfl
set_option maxRecDepth 20000 in
theorem wd_752 : Cond.methodLink RL 70 yX7_undo ∈ TB := tb_i 752 rfl rfl
set_option maxRecDepth 20000 in
theorem wd_753 : Cond.instanceMethod yX7_undo ∈ TB := tb_i 753 rfl rfl
set_option maxRecDepth 20000 in
theorem wd_754 : Cond.selects RX7 yX7_undo yX7_undo ∈ TB := tb_i 754 rfl rfl
set_option maxRecDepth 20000 in
theorem wd_755 : Cond.code yX7_undo cX7_undo 2 (some .int) ∈ TB := tb_i 755 rfl rfl
set_option maxRecDepth 20000 in
theorem wd_756 : Cond.methodLink RL 74 yX7_cycle ∈ TB := tb_i 756 rfl rfl
set_option maxRecDepth 20000 in
theorem wd_757 : Cond.instanceMethod yX7_cycle ∈ TB := tb_i 757 rfl rfl
set_option maxRecDepth 20000 in
theorem wd_758 : Cond.selects RX7 yX7_cycle yX7_cycle ∈ TB := tb_i 758 rfl rfl
set_option maxRecDepth 20000 in
theorem wd_759 : Cond.code yX7_cycle cX7_cycle 4 (some .int) ∈ TB := tb_i 759 rfl rfl
set_option maxRecDepth 20000 in
theorem wd_760 : Cond.constantLong RX7 109 (-1) ∈ TB := tb_i 760 rfl rfl
set_option maxRecDepth 20000 in
theorem wd_761 : Cond.methodLink RX7 111 yX7_cycleOf ∈ TB := tb_i 761 rfl rfl
set_option maxRecDepth 20000 in
theorem wd_763 : Cond.instanceMethod yX7_cycleOf ∈ TB := tb_i 763 rfl rfl
set_option maxRecDepth 20000 in
theorem wd_764 : Cond.code yX7_cycleOf cX7_cycleOf 4 (some .int) ∈ TB := tb_i 764 rfl rfl
set_option maxRecDepth 20000 in
theorem wd_765 : Cond.methodLink RL 78 yX7_ball ∈ TB := tb_i 765 rfl rfl
set_option maxRecDepth 20000 in
theorem wd_766 : Cond.instanceMethod yX7_ball ∈ TB := tb_i 766 rfl rfl
set_option maxRecDepth 20000 in
theorem wd_767 : Cond.selects RX7 yX7_ball yX7_ball ∈ TB := tb_i 767 rfl rfl
set_option maxRecDepth 20000 in
theorem wd_768 : Cond.code yX7_ball cX7_ball 6 (some .int) ∈ TB := tb_i 768 rfl rfl
set_option maxRecDepth 20000 in
theorem wd_769 : Cond.methodLink RL 83 yX7_hands ∈ TB := tb_i 769 rfl rfl
set_option maxRecDepth 20000 in
theorem wd_770 : Cond.instanceMethod yX7_hands ∈ TB := tb_i 770 rfl rfl
set_option maxRecDepth 20000 in
theorem wd_771 : Cond.selects RX7 yX7_hands yX7_hands ∈ TB := tb_i 771 rfl rfl
set_option maxRecDepth 20000 in
theorem wd_772 : Cond.code yX7_hands cX7_hands 7 (some .int) ∈ TB := tb_i 772 rfl rfl
set_option maxRecDepth 20000 in
theorem wd_773 : Cond.constantLong RX7 114 (5) ∈ TB := tb_i 773 rfl rfl
set_option maxRecDepth 20000 in
theorem wd_774 : Cond.methodLink RL 88 yX7_all ∈ TB := tb_i 774 rfl rfl
set_option maxRecDepth 20000 in
theorem wd_775 : Cond.instanceMethod yX7_all ∈ TB := tb_i 775 rfl rfl
set_option maxRecDepth 20000 in
theorem wd_776 : Cond.selects RX7 yX7_all yX7_all ∈ TB := tb_i 776 rfl rfl
set_option maxRecDepth 20000 in
theorem wd_777 : Cond.code yX7_all cX7_all 4 (some .long) ∈ TB := tb_i 777 rfl rfl
set_option maxRecDepth 20000 in
theorem wd_778 : Cond.methodLink RX7 125 yX7_areTold ∈ TB := tb_i 778 rfl rfl
set_option maxRecDepth 20000 in
theorem wd_779 : Cond.static yX7_areTold ∈ TB := tb_i 779 rfl rfl
set_option maxRecDepth 20000 in
theorem wd_780 : Cond.code yX7_areTold cX7_areTold 3 (some .boolean) ∈ TB := tb_i 780 rfl rfl
set_option maxRecDepth 20000 in
theorem wd_781 : Cond.constantLong RX7 116 (6) ∈ TB := tb_i 781 rfl rfl
set_option maxRecDepth 20000 in
theorem wd_782 : Cond.methodLink RX7 129 yX7_counts ∈ TB := tb_i 782 rfl rfl
set_option maxRecDepth 20000 in
theorem wd_784 : Cond.instanceMethod yX7_counts ∈ TB := tb_i 784 rfl rfl
set_option maxRecDepth 20000 in
theorem wd_785 : Cond.code yX7_counts cX7_counts 10 (some .long) ∈ TB := tb_i 785 rfl rfl
set_option maxRecDepth 20000 in
theorem wd_786 : Cond.methodLink RX7 121 yX7_after ∈ TB := tb_i 786 rfl rfl
set_option maxRecDepth 20000 in
theorem wd_788 : Cond.instanceMethod yX7_after ∈ TB := tb_i 788 rfl rfl
set_option maxRecDepth 20000 in
theorem wd_789 : Cond.code yX7_after cX7_after 6 (some .long) ∈ TB := tb_i 789 rfl rfl
set_option maxRecDepth 20000 in
theorem wd_790 : Cond.methodLink RX7 118 yX7_bitsOf ∈ TB := tb_i 790 rfl rfl
set_option maxRecDepth 20000 in
theorem wd_791 : Cond.static yX7_bitsOf ∈ TB := tb_i 791 rfl rfl
set_option maxRecDepth 20000 in
theorem wd_792 : Cond.code yX7_bitsOf cX7_bitsOf 3 (some .int) ∈ TB := tb_i 792 rfl rfl
set_option maxRecDepth 20000 in
theorem wd_793 : Cond.methodLink RL 93 yX7_nth ∈ TB := tb_i 793 rfl rfl
set_option maxRecDepth 20000 in
theorem wd_794 : Cond.instanceMethod yX7_nth ∈ TB := tb_i 794 rfl rfl
set_option maxRecDepth 20000 in
theorem wd_795 : Cond.selects RX7 yX7_nth yX7_nth ∈ TB := tb_i 795 rfl rfl
set_option maxRecDepth 20000 in
theorem wd_796 : Cond.code yX7_nth cX7_nth 6 (some .int) ∈ TB := tb_i 796 rfl rfl
set_option maxRecDepth 20000 in
theorem wd_797 : Cond.methodLink RX7 133 yX7_drafts ∈ TB := tb_i 797 rfl rfl
set_option maxRecDepth 20000 in
theorem wd_799 : Cond.instanceMethod yX7_drafts ∈ TB := tb_i 799 rfl rfl
set_option maxRecDepth 20000 in
theorem wd_800 : Cond.code yX7_drafts cX7_drafts 12 none ∈ TB := tb_i 800 rfl rfl
set_option maxRecDepth 20000 in
theorem wd_801 : Cond.methodLink RX7 137 yX7_becomes ∈ TB := tb_i 801 rfl rfl
set_option maxRecDepth 20000 in
theorem wd_803 : Cond.instanceMethod yX7_becomes ∈ TB := tb_i 803 rfl rfl
set_option maxRecDepth 20000 in
theorem wd_804 : Cond.code yX7_becomes cX7_becomes 2 (some .int) ∈ TB := tb_i 804 rfl rfl
set_option maxRecDepth 20000 in
theorem wd_805 : Cond.methodLink RL 98 yX7_rank ∈ TB := tb_i 805 rfl rfl
set_option maxRecDepth 20000 in
theorem wd_806 : Cond.instanceMethod yX7_rank ∈ TB := tb_i 806 rfl rfl
set_option maxRecDepth 20000 in
theorem wd_807 : Cond.selects RX7 yX7_rank yX7_rank ∈ TB := tb_i 807 rfl rfl
set_option maxRecDepth 20000 in
theorem wd_808 : Cond.code yX7_rank cX7_rank 1 (some .long) ∈ TB := tb_i 808 rfl rfl
set_option maxRecDepth 20000 in
theorem wd_809 : Cond.methodLink RX7 140 yX7_isRanked ∈ TB := tb_i 809 rfl rfl
set_option maxRecDepth 20000 in
theorem wd_811 : Cond.instanceMethod yX7_isRanked ∈ TB := tb_i 811 rfl rfl
set_option maxRecDepth 20000 in
theorem wd_812 : Cond.code yX7_isRanked cX7_isRanked 1 (some .boolean) ∈ TB := tb_i 812 rfl rfl
set_option maxRecDepth 20000 in
theorem wd_813 : Cond.constantLong RX7 144 (-2) ∈ TB := tb_i 813 rfl rfl
set_option maxRecDepth 20000 in
theorem wd_814 : Cond.methodLink RX7 146 yX7_rankOf ∈ TB := tb_i 814 rfl rfl
set_option maxRecDepth 20000 in
theorem wd_816 : Cond.instanceMethod yX7_rankOf ∈ TB := tb_i 816 rfl rfl
set_option maxRecDepth 20000 in
theorem wd_817 : Cond.code yX7_rankOf cX7_rankOf 7 (some .long) ∈ TB := tb_i 817 rfl rfl
set_option maxRecDepth 20000 in
theorem wd_818 : Cond.methodLink RL 102 yX7_next ∈ TB := tb_i 818 rfl rfl
set_option maxRecDepth 20000 in
theorem wd_819 : Cond.instanceMethod yX7_next ∈ TB := tb_i 819 rfl rfl
set_option maxRecDepth 20000 in
theorem wd_820 : Cond.selects RX7 yX7_next yX7_next ∈ TB := tb_i 820 rfl rfl
set_option maxRecDepth 20000 in
theorem wd_821 : Cond.code yX7_next cX7_next 6 (some .int) ∈ TB := tb_i 821 rfl rfl
set_option maxRecDepth 20000 in
theorem wd_822 : Cond.methodLink RL 106 yX7_prime ∈ TB := tb_i 822 rfl rfl
set_option maxRecDepth 20000 in
theorem wd_823 : Cond.instanceMethod yX7_prime ∈ TB := tb_i 823 rfl rfl
set_option maxRecDepth 20000 in
theorem wd_824 : Cond.selects RX7 yX7_prime yX7_prime ∈ TB := tb_i 824 rfl rfl
set_option maxRecDepth 20000 in
theorem wd_825 : Cond.code yX7_prime cX7_prime 1 (some .int) ∈ TB := tb_i 825 rfl rfl
set_option maxRecDepth 20000 in
theorem wd_826 : Cond.methodLink RX7 150 yX7_isPrime ∈ TB := tb_i 826 rfl rfl
set_option maxRecDepth 20000 in
theorem wd_827 : Cond.static yX7_isPrime ∈ TB := tb_i 827 rfl rfl
set_option maxRecDepth 20000 in
theorem wd_828 : Cond.code yX7_isPrime cX7_isPrime 4 (some .boolean) ∈ TB := tb_i 828 rfl rfl
set_option maxRecDepth 20000 in
theorem wd_829 : Cond.methodLink RL 110 yX7_primes ∈ TB := tb_i 829 rfl rfl
set_option maxRecDepth 20000 in
theorem wd_830 : Cond.instanceMethod yX7_primes ∈ TB := tb_i 830 rfl rfl
set_option maxRecDepth 20000 in
theorem wd_831 : Cond.selects RX7 yX7_primes yX7_primes ∈ TB := tb_i 831 rfl rfl
set_option maxRecDepth 20000 in
theorem wd_832 : Cond.code yX7_primes cX7_primes 11 (some .int) ∈ TB := tb_i 832 rfl rfl
set_option maxRecDepth 20000 in
theorem wd_833 : Cond.methodLink RL 115 yX7_draw ∈ TB := tb_i 833 rfl rfl
set_option maxRecDepth 20000 in
theorem wd_834 : Cond.instanceMethod yX7_draw ∈ TB := tb_i 834 rfl rfl
set_option maxRecDepth 20000 in
theorem wd_835 : Cond.selects RX7 yX7_draw yX7_draw ∈ TB := tb_i 835 rfl rfl
set_option maxRecDepth 20000 in
theorem wd_836 : Cond.code yX7_draw cX7_draw 11 (some .int) ∈ TB := tb_i 836 rfl rfl
set_option maxRecDepth 20000 in
theorem wd_837 : Cond.constantLong RX7 154 (9999) ∈ TB := tb_i 837 rfl rfl
set_option maxRecDepth 20000 in
theorem wd_838 : Cond.constantLong RX7 156 (7919) ∈ TB := tb_i 838 rfl rfl
set_option maxRecDepth 20000 in
theorem wd_839 : Cond.constantLong RX7 158 (6151) ∈ TB := tb_i 839 rfl rfl
set_option maxRecDepth 20000 in
theorem wd_840 : Cond.constantLong RX7 160 (2) ∈ TB := tb_i 840 rfl rfl
set_option maxRecDepth 20000 in
theorem wd_841 : Cond.constantLong RX7 162 (65521) ∈ TB := tb_i 841 rfl rfl
set_option maxRecDepth 20000 in
theorem wd_842 : Cond.methodLink RL 119 yX7_in ∈ TB := tb_i 842 rfl rfl
set_option maxRecDepth 20000 in
theorem wd_843 : Cond.instanceMethod yX7_in ∈ TB := tb_i 843 rfl rfl
set_option maxRecDepth 20000 in
theorem wd_844 : Cond.selects RX7 yX7_in yX7_in ∈ TB := tb_i 844 rfl rfl
set_option maxRecDepth 20000 in
theorem wd_845 : Cond.code yX7_in cX7_in 2 (some .int) ∈ TB := tb_i 845 rfl rfl
set_option maxRecDepth 20000 in
theorem wd_846 : Cond.methodLink RX7 171 yX7_way ∈ TB := tb_i 846 rfl rfl
set_option maxRecDepth 20000 in
theorem wd_848 : Cond.instanceMethod yX7_way ∈ TB := tb_i 848 rfl rfl
set_option maxRecDepth 20000 in
theorem wd_849 : Cond.code yX7_way cX7_way 7 (some .int) ∈ TB := tb_i 849 rfl rfl
set_option maxRecDepth 20000 in
theorem wd_850 : Cond.methodLink RX7 168 yX7_measures ∈ TB := tb_i 850 rfl rfl
set_option maxRecDepth 20000 in
theorem wd_852 : Cond.instanceMethod yX7_measures ∈ TB := tb_i 852 rfl rfl
set_option maxRecDepth 20000 in
theorem wd_853 : Cond.code yX7_measures cX7_measures 7 none ∈ TB := tb_i 853 rfl rfl
set_option maxRecDepth 20000 in
theorem wd_854 : Cond.methodLink RX7 164 yX7_behind ∈ TB := tb_i 854 rfl rfl
set_option maxRecDepth 20000 in
theorem wd_855 : Cond.static yX7_behind ∈ TB := tb_i 855 rfl rfl
set_option maxRecDepth 20000 in
theorem wd_856 : Cond.code yX7_behind cX7_behind 3 (some .int) ∈ TB := tb_i 856 rfl rfl
set_option maxRecDepth 20000 in
theorem wd_857 : Cond.methodLink RL 123 yX7_out ∈ TB := tb_i 857 rfl rfl
set_option maxRecDepth 20000 in
theorem wd_858 : Cond.instanceMethod yX7_out ∈ TB := tb_i 858 rfl rfl
set_option maxRecDepth 20000 in
theorem wd_859 : Cond.selects RX7 yX7_out yX7_out ∈ TB := tb_i 859 rfl rfl
set_option maxRecDepth 20000 in
theorem wd_860 : Cond.code yX7_out cX7_out 3 (some .int) ∈ TB := tb_i 860 rfl rfl
set_option maxRecDepth 20000 in
theorem wd_861 : Cond.methodLink RL 127 yX7_across ∈ TB := tb_i 861 rfl rfl
set_option maxRecDepth 20000 in
theorem wd_862 : Cond.instanceMethod yX7_across ∈ TB := tb_i 862 rfl rfl
set_option maxRecDepth 20000 in
theorem wd_863 : Cond.selects RX7 yX7_across yX7_across ∈ TB := tb_i 863 rfl rfl
set_option maxRecDepth 20000 in
theorem wd_864 : Cond.code yX7_across cX7_across 3 (some .int) ∈ TB := tb_i 864 rfl rfl
set_option maxRecDepth 20000 in
theorem wd_865 : Cond.methodLink RL 131 yX7_steps ∈ TB := tb_i 865 rfl rfl
set_option maxRecDepth 20000 in
theorem wd_866 : Cond.instanceMethod yX7_steps ∈ TB := tb_i 866 rfl rfl
set_option maxRecDepth 20000 in
theorem wd_867 : Cond.selects RX7 yX7_steps yX7_steps ∈ TB := tb_i 867 rfl rfl
set_option maxRecDepth 20000 in
theorem wd_868 : Cond.code yX7_steps cX7_steps 13 (some .int) ∈ TB := tb_i 868 rfl rfl
set_option maxRecDepth 20000 in
theorem wd_869 : Cond.methodLink RX7 175 yX7_numberOf ∈ TB := tb_i 869 rfl rfl
set_option maxRecDepth 20000 in
theorem wd_870 : Cond.static yX7_numberOf ∈ TB := tb_i 870 rfl rfl
set_option maxRecDepth 20000 in
theorem wd_871 : Cond.code yX7_numberOf cX7_numberOf 4 (some .int) ∈ TB := tb_i 871 rfl rfl
set_option maxRecDepth 20000 in
theorem wd_872 : Cond.methodLink RL 135 yX7_together ∈ TB := tb_i 872 rfl rfl
set_option maxRecDepth 20000 in
theorem wd_873 : Cond.instanceMethod yX7_together ∈ TB := tb_i 873 rfl rfl
set_option maxRecDepth 20000 in
theorem wd_874 : Cond.selects RX7 yX7_together yX7_together ∈ TB := tb_i 874 rfl rfl
set_option maxRecDepth 20000 in
theorem wd_875 : Cond.code yX7_together cX7_together 4 (some .int) ∈ TB := tb_i 875 rfl rfl
set_option maxRecDepth 20000 in
theorem wd_876 : Cond.methodLink RX7 178 yX7_bars ∈ TB := tb_i 876 rfl rfl
set_option maxRecDepth 20000 in
theorem wd_878 : Cond.instanceMethod yX7_bars ∈ TB := tb_i 878 rfl rfl
set_option maxRecDepth 20000 in
theorem wd_879 : Cond.code yX7_bars cX7_bars 3 (some .int) ∈ TB := tb_i 879 rfl rfl
set_option maxRecDepth 20000 in
theorem wd_880 : Cond.methodLink RL 139 yX7_mended ∈ TB := tb_i 880 rfl rfl
set_option maxRecDepth 20000 in
theorem wd_881 : Cond.instanceMethod yX7_mended ∈ TB := tb_i 881 rfl rfl
set_option maxRecDepth 20000 in
theorem wd_882 : Cond.selects RX7 yX7_mended yX7_mended ∈ TB := tb_i 882 rfl rfl
set_option maxRecDepth 20000 in
theorem wd_883 : Cond.code yX7_mended cX7_mended 8 (some .int) ∈ TB := tb_i 883 rfl rfl
set_option maxRecDepth 20000 in
theorem wd_884 : Cond.methodLink RL 143 yX7_keep ∈ TB := tb_i 884 rfl rfl
set_option maxRecDepth 20000 in
theorem wd_885 : Cond.instanceMethod yX7_keep ∈ TB := tb_i 885 rfl rfl
set_option maxRecDepth 20000 in
theorem wd_886 : Cond.selects RX7 yX7_keep yX7_keep ∈ TB := tb_i 886 rfl rfl
set_option maxRecDepth 20000 in
theorem wd_887 : Cond.code yX7_keep cX7_keep 2 (some .int) ∈ TB := tb_i 887 rfl rfl
set_option maxRecDepth 20000 in
theorem wd_888 : Cond.methodLink RL 147 yX7_back ∈ TB := tb_i 888 rfl rfl
set_option maxRecDepth 20000 in
theorem wd_889 : Cond.instanceMethod yX7_back ∈ TB := tb_i 889 rfl rfl
set_option maxRecDepth 20000 in
theorem wd_890 : Cond.selects RX7 yX7_back yX7_back ∈ TB := tb_i 890 rfl rfl
set_option maxRecDepth 20000 in
theorem wd_891 : Cond.code yX7_back cX7_back 2 (some .int) ∈ TB := tb_i 891 rfl rfl
set_option maxRecDepth 20000 in
theorem wd_892 : Cond.methodLink RL 151 yX7_count ∈ TB := tb_i 892 rfl rfl
set_option maxRecDepth 20000 in
theorem wd_893 : Cond.instanceMethod yX7_count ∈ TB := tb_i 893 rfl rfl
set_option maxRecDepth 20000 in
theorem wd_894 : Cond.selects RX7 yX7_count yX7_count ∈ TB := tb_i 894 rfl rfl
set_option maxRecDepth 20000 in
theorem wd_895 : Cond.code yX7_count cX7_count 2 (some .int) ∈ TB := tb_i 895 rfl rfl
set_option maxRecDepth 20000 in
theorem wd_896 : Cond.constantLong RL 13 (4294967295) ∈ TB := tb_i 896 rfl rfl
theorem inT0 : ∀ w ∈ u_ws RX0 TX0 3, w ∈ TB := List.forall_mem_cons.mpr ⟨wd_113, List.forall_mem_cons.mpr ⟨wd_115, List.forall_mem_cons.mpr ⟨wd_117, fun _ h => absurd h List.not_mem_nil⟩⟩⟩
theorem inT1 : ∀ w ∈ u_ws RX1 TX1 4, w ∈ TB := List.forall_mem_cons.mpr ⟨wd_130, List.forall_mem_cons.mpr ⟨wd_132, List.forall_mem_cons.mpr ⟨wd_134, List.forall_mem_cons.mpr ⟨wd_136, fun _ h => absurd h List.not_mem_nil⟩⟩⟩⟩
theorem inT2 : ∀ w ∈ u_ws RX2 TX2 2, w ∈ TB := List.forall_mem_cons.mpr ⟨wd_77, List.forall_mem_cons.mpr ⟨wd_79, fun _ h => absurd h List.not_mem_nil⟩⟩
theorem inT3 : ∀ w ∈ u_ws RX3 TX3 3, w ∈ TB := List.forall_mem_cons.mpr ⟨wd_97, List.forall_mem_cons.mpr ⟨wd_99, List.forall_mem_cons.mpr ⟨wd_101, fun _ h => absurd h List.not_mem_nil⟩⟩⟩
theorem inT4 : ∀ w ∈ u_ws RX4 TX4 4, w ∈ TB := List.forall_mem_cons.mpr ⟨wd_149, List.forall_mem_cons.mpr ⟨wd_151, List.forall_mem_cons.mpr ⟨wd_153, List.forall_mem_cons.mpr ⟨wd_155, fun _ h => absurd h List.not_mem_nil⟩⟩⟩⟩
theorem inT5 : ∀ w ∈ u_ws RX5 TX5 2, w ∈ TB := List.forall_mem_cons.mpr ⟨wd_63, List.forall_mem_cons.mpr ⟨wd_65, fun _ h => absurd h List.not_mem_nil⟩⟩
theorem inT6 : ∀ w ∈ u_ws RX6 TX6 9, w ∈ TB := List.forall_mem_cons.mpr ⟨wd_168, List.forall_mem_cons.mpr ⟨wd_170, List.forall_mem_cons.mpr ⟨wd_172, List.forall_mem_cons.mpr ⟨wd_174, List.forall_mem_cons.mpr ⟨wd_176, List.forall_mem_cons.mpr ⟨wd_178, List.forall_mem_cons.mpr ⟨wd_180, List.forall_mem_cons.mpr ⟨wd_182, List.forall_mem_cons.mpr ⟨wd_184, fun _ h => absurd h List.not_mem_nil⟩⟩⟩⟩⟩⟩⟩⟩⟩
theorem inT7 : ∀ w ∈ u_ws RX7 TX7 18, w ∈ TB := List.forall_mem_cons.mpr ⟨wd_636, List.forall_mem_cons.mpr ⟨wd_638, List.forall_mem_cons.mpr ⟨wd_640, List.forall_mem_cons.mpr ⟨wd_642, List.forall_mem_cons.mpr ⟨wd_644, List.forall_mem_cons.mpr ⟨wd_646, List.forall_mem_cons.mpr ⟨wd_648, List.forall_mem_cons.mpr ⟨wd_650, List.forall_mem_cons.mpr ⟨wd_652, List.forall_mem_cons.mpr ⟨wd_654, List.forall_mem_cons.mpr ⟨wd_656, List.forall_mem_cons.mpr ⟨wd_658, List.forall_mem_cons.mpr ⟨wd_660, List.forall_mem_cons.mpr ⟨wd_662, List.forall_mem_cons.mpr ⟨wd_664, List.forall_mem_cons.mpr ⟨wd_666, List.forall_mem_cons.mpr ⟨wd_668, List.forall_mem_cons.mpr ⟨wd_670, fun _ h => absurd h List.not_mem_nil⟩⟩⟩⟩⟩⟩⟩⟩⟩⟩⟩⟩⟩⟩⟩⟩⟩⟩
