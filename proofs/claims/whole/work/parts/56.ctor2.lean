/-! constructors: BallsInAir, BallsInAirModel -/
def T0 (A : AH) : AH := va_up (va_up (va_up (va_up A 1 (Ob 5 (dfF 5))) 2 (Ia 40 (fun _ => iI 0))) 1 (Ob 5 [.ref 2, .int (iI 0)])) 0 (Ob 6 [.ref 1, .null, .null, .null, .null, .null, .null, .null, .null])
theorem T0_0 {A : AH} : T0 A 0 = Ob 6 [.ref 1, .null, .null, .null, .null, .null, .null, .null, .null] := up_s
theorem T0_sc {A : AH} (hsc : scA 1 A) : scA 3 (T0 A) := by
  have hsc := hsc
  unfold T0
  exact (by repeat (first | exact hsc | refine scA.push ?_ (by first | exact trivial | exact df_sc | (repeat' (first | exact trivial | exact scR (by omega) | refine ⟨?_, ?_⟩))) | refine scA.up ?_ (by first | exact trivial | exact df_sc | (repeat' (first | exact trivial | exact scR (by omega) | refine ⟨?_, ?_⟩)))))
def T1 (A : AH) : AH := va_up (va_up (va_up (va_up (T0 A) 3 (Ob 2 (dfF 2))) 4 (Ia 10 f531)) 3 (Ob 2 [.ref 4, .int (iI 3)])) 0 (Ob 6 [.ref 1, .ref 3, .null, .null, .null, .null, .null, .null, .null])
theorem T1_0 {A : AH} : T1 A 0 = Ob 6 [.ref 1, .ref 3, .null, .null, .null, .null, .null, .null, .null] := up_s
theorem T1_sc {A : AH} (hsc : scA 1 A) : scA 5 (T1 A) := by
  have hsc := (T0_sc hsc)
  unfold T1
  exact (by repeat (first | exact hsc | refine scA.push ?_ (by first | exact trivial | exact df_sc | (repeat' (first | exact trivial | exact scR (by omega) | refine ⟨?_, ?_⟩))) | refine scA.up ?_ (by first | exact trivial | exact df_sc | (repeat' (first | exact trivial | exact scR (by omega) | refine ⟨?_, ?_⟩)))))
def T2 (A : AH) : AH := va_up (va_up (va_up (va_up (T1 A) 5 (Ob 2 (dfF 2))) 6 (Ia 10 f531)) 5 (Ob 2 [.ref 6, .int (iI 3)])) 0 (Ob 6 [.ref 1, .ref 3, .ref 5, .null, .null, .null, .null, .null, .null])
theorem T2_0 {A : AH} : T2 A 0 = Ob 6 [.ref 1, .ref 3, .ref 5, .null, .null, .null, .null, .null, .null] := up_s
theorem T2_sc {A : AH} (hsc : scA 1 A) : scA 7 (T2 A) := by
  have hsc := (T1_sc hsc)
  unfold T2
  exact (by repeat (first | exact hsc | refine scA.push ?_ (by first | exact trivial | exact df_sc | (repeat' (first | exact trivial | exact scR (by omega) | refine ⟨?_, ?_⟩))) | refine scA.up ?_ (by first | exact trivial | exact df_sc | (repeat' (first | exact trivial | exact scR (by omega) | refine ⟨?_, ?_⟩)))))
def T3 (A : AH) : AH := va_up (va_up (va_up (va_up (T2 A) 7 (Ob 2 (dfF 2))) 8 (Ia 10 f531)) 7 (Ob 2 [.ref 8, .int (iI 3)])) 0 (Ob 6 [.ref 1, .ref 3, .ref 5, .ref 7, .null, .null, .null, .null, .null])
theorem T3_0 {A : AH} : T3 A 0 = Ob 6 [.ref 1, .ref 3, .ref 5, .ref 7, .null, .null, .null, .null, .null] := up_s
theorem T3_sc {A : AH} (hsc : scA 1 A) : scA 9 (T3 A) := by
  have hsc := (T2_sc hsc)
  unfold T3
  exact (by repeat (first | exact hsc | refine scA.push ?_ (by first | exact trivial | exact df_sc | (repeat' (first | exact trivial | exact scR (by omega) | refine ⟨?_, ?_⟩))) | refine scA.up ?_ (by first | exact trivial | exact df_sc | (repeat' (first | exact trivial | exact scR (by omega) | refine ⟨?_, ?_⟩)))))
def T4 (A : AH) : AH := va_up (shB (va_up (T3 A) 9 (Ob 3 (dfF 3))) 9 10 8 8) 0 (Ob 6 [.ref 1, .ref 3, .ref 5, .ref 7, .ref 9, .null, .null, .null, .null])
theorem T4_0 {A : AH} : T4 A 0 = Ob 6 [.ref 1, .ref 3, .ref 5, .ref 7, .ref 9, .null, .null, .null, .null] := up_s
theorem T4_sc {A : AH} (hsc : scA 1 A) : scA 27 (T4 A) := scA.up (shB_sc (k := 10) (i := 8) (scA.push (k := 9) (T3_sc hsc) df_sc) (by omega)) (by first | exact trivial | exact df_sc | (repeat' (first | exact trivial | exact scR (by omega) | refine ⟨?_, ?_⟩)))
def T5 (A : AH) : AH := va_up (shB (va_up (T4 A) 27 (Ob 3 (dfF 3))) 27 28 2 2) 0 (Ob 6 [.ref 1, .ref 3, .ref 5, .ref 7, .ref 9, .ref 27, .null, .null, .null])
theorem T5_0 {A : AH} : T5 A 0 = Ob 6 [.ref 1, .ref 3, .ref 5, .ref 7, .ref 9, .ref 27, .null, .null, .null] := up_s
theorem T5_sc {A : AH} (hsc : scA 1 A) : scA 33 (T5 A) := scA.up (shB_sc (k := 28) (i := 2) (scA.push (k := 27) (T4_sc hsc) df_sc) (by omega)) (by first | exact trivial | exact df_sc | (repeat' (first | exact trivial | exact scR (by omega) | refine ⟨?_, ?_⟩)))
def T6 (A : AH) : AH := va_up (va_up (va_up (va_up (T5 A) 33 (Ob 0 (dfF 0))) 34 (Ia 1792 (fun _ => iI 0))) 33 (Ob 0 [.ref 34, .int (iI 0), .int (iI 0)])) 0 (Ob 6 [.ref 1, .ref 3, .ref 5, .ref 7, .ref 9, .ref 27, .ref 33, .null, .null])
theorem T6_0 {A : AH} : T6 A 0 = Ob 6 [.ref 1, .ref 3, .ref 5, .ref 7, .ref 9, .ref 27, .ref 33, .null, .null] := up_s
theorem T6_sc {A : AH} (hsc : scA 1 A) : scA 35 (T6 A) := by
  have hsc := (T5_sc hsc)
  unfold T6
  exact (by repeat (first | exact hsc | refine scA.push ?_ (by first | exact trivial | exact df_sc | (repeat' (first | exact trivial | exact scR (by omega) | refine ⟨?_, ?_⟩))) | refine scA.up ?_ (by first | exact trivial | exact df_sc | (repeat' (first | exact trivial | exact scR (by omega) | refine ⟨?_, ?_⟩)))))
def T7 (A : AH) : AH := va_up (va_up (va_up (va_up (va_up (va_up (T6 A) 35 (Ob 1 (dfF 1))) 36 (Ia 512 (fun _ => iI 0))) 37 (Ia 512 (fun _ => iI 0))) 38 (Ia 512 (fun _ => iI 0))) 35 (Ob 1 [.ref 36, .ref 37, .int (iI 0), .ref 38])) 0 (Ob 6 [.ref 1, .ref 3, .ref 5, .ref 7, .ref 9, .ref 27, .ref 33, .ref 35, .null])
theorem T7_0 {A : AH} : T7 A 0 = Ob 6 [.ref 1, .ref 3, .ref 5, .ref 7, .ref 9, .ref 27, .ref 33, .ref 35, .null] := up_s
theorem T7_sc {A : AH} (hsc : scA 1 A) : scA 39 (T7 A) := by
  have hsc := (T6_sc hsc)
  unfold T7
  exact (by repeat (first | exact hsc | refine scA.push ?_ (by first | exact trivial | exact df_sc | (repeat' (first | exact trivial | exact scR (by omega) | refine ⟨?_, ?_⟩))) | refine scA.up ?_ (by first | exact trivial | exact df_sc | (repeat' (first | exact trivial | exact scR (by omega) | refine ⟨?_, ?_⟩)))))
def T8 (A : AH) : AH := va_up (va_up (va_up (va_up (va_up (va_up (T7 A) 39 (Ob 4 (dfF 4))) 40 (Ia 120 (fun _ => iI 0))) 41 (Ia 120 (fun _ => iI 0))) 42 (La 1563 (fun _ => 0))) 39 (Ob 4 [.ref 40, .ref 41, .ref 42, .int (iI 0)])) 0 (Ob 6 [.ref 1, .ref 3, .ref 5, .ref 7, .ref 9, .ref 27, .ref 33, .ref 35, .ref 39])
theorem T8_0 {A : AH} : T8 A 0 = Ob 6 [.ref 1, .ref 3, .ref 5, .ref 7, .ref 9, .ref 27, .ref 33, .ref 35, .ref 39] := up_s
theorem T8_sc {A : AH} (hsc : scA 1 A) : scA 43 (T8 A) := by
  have hsc := (T7_sc hsc)
  unfold T8
  exact (by repeat (first | exact hsc | refine scA.push ?_ (by first | exact trivial | exact df_sc | (repeat' (first | exact trivial | exact scR (by omega) | refine ⟨?_, ?_⟩))) | refine scA.up ?_ (by first | exact trivial | exact df_sc | (repeat' (first | exact trivial | exact scR (by omega) | refine ⟨?_, ?_⟩)))))
section CV
variable {d : Nat} {A : AH}
theorem c_X6 (hA : A 0 = Ob 6 (dfF 6)) (hsc : scA 1 A) : RtC mX6_init (d + 5) 42 5356 [.ref 0] 1 A 43 (T8 A) := by
  have h0 : A 0 = Ob 6 [.null, .null, .null, .null, .null, .null, .null, .null, .null] := hA
  refine rtc_intro kX6_init rfl rfl rfl rfl (fun X G hin hAO hRc hRs E => ?_)
  have hx : exA G 1 (gA G) := exA.rf
  refine gf_0 ?_
  have hsc0 := hsc
  refine fr_run (pc' := 1) 1 rfl ?_
  refine fr_obj rfl wo_6 rfl ?_
  refine fr_run (pc' := 5) 1 rfl ?_
  refine fr_new (ci := 5) rfl rfl wc_6_7 wi_5 wn_5 (by omega) (by omega) (by omega) (by repeat' (first | exact trivial | exact scR (by omega) | refine ⟨?_, ?_⟩)) (by repeat' (first | exact trivial | exact scR (by omega) | refine ⟨?_, ?_⟩)) (by repeat (first | exact hsc | refine scA.push ?_ (by first | exact trivial | exact df_sc | (repeat' (first | exact trivial | exact scR (by omega) | refine ⟨?_, ?_⟩))) | refine scA.up ?_ (by first | exact trivial | exact df_sc | (repeat' (first | exact trivial | exact scR (by omega) | refine ⟨?_, ?_⟩))))) (fun a ha => ?_)
  have hx := hx.tr ha (by omega)
  refine gf_n ?_
  refine fr_run (pc' := 9) 1 rfl ?_
  refine fr_callIN (As := []) lkI_6_9 rfl rfl (c_X5 (d := d + 3) up_s (by omega) (by omega) (scA.push (k := 1) hsc df_sc)) rfl rfl rfl hAO (by omega) (by omega) (by repeat' (first | exact trivial | exact scR (by omega) | refine ⟨?_, ?_⟩)) (by repeat' (first | exact trivial | exact scR (by omega) | refine ⟨?_, ?_⟩)) (fun a ha => ?_)
  have hx := hx.tr ha (by omega)
  refine gf_n ?_
  refine fr_putF rfl rfl rfl hin rfl (by repeat (first | exact up_s | assumption | refine up_n (by first | assumption | decide | omega) ?_)) (by first | assumption | rfl | exact Nat.ble_eq_true_of_le (by omega)) rfl rfl ?_
  refine fr_h (A2 := T0 A) rfl ?_
  have h0 := T0_0 (A := A)
  have hsc := T0_sc hsc0
  refine fr_run (pc' := 16) 1 rfl ?_
  refine fr_new (ci := 2) rfl rfl wc_6_16 wi_2 wn_2 (by omega) (by omega) (by omega) (by repeat' (first | exact trivial | exact scR (by omega) | refine ⟨?_, ?_⟩)) (by repeat' (first | exact trivial | exact scR (by omega) | refine ⟨?_, ?_⟩)) (by repeat (first | exact hsc | refine scA.push ?_ (by first | exact trivial | exact df_sc | (repeat' (first | exact trivial | exact scR (by omega) | refine ⟨?_, ?_⟩))) | refine scA.up ?_ (by first | exact trivial | exact df_sc | (repeat' (first | exact trivial | exact scR (by omega) | refine ⟨?_, ?_⟩))))) (fun a ha => ?_)
  have hx := hx.tr ha (by omega)
  refine gf_n ?_
  refine fr_run (pc' := 20) 1 rfl ?_
  refine fr_callI (As := []) lkI_6_18 rfl rfl (c_X2 (d := d + 3) up_s (by omega) (by omega) (scA.push (k := 3) hsc df_sc)) rfl rfl rfl hAO (by omega) (by omega) (by repeat' (first | exact trivial | exact scR (by omega) | refine ⟨?_, ?_⟩)) (by repeat' (first | exact trivial | exact scR (by omega) | refine ⟨?_, ?_⟩)) (fun a ha => ?_)
  have hx := hx.tr ha (by omega)
  refine gf_n ?_
  refine fr_putF rfl rfl rfl hin rfl (by repeat (first | exact up_s | assumption | refine up_n (by first | assumption | decide | omega) ?_)) (by first | assumption | rfl | exact Nat.ble_eq_true_of_le (by omega)) rfl rfl ?_
  refine fr_h (A2 := T1 A) rfl ?_
  have h0 := T1_0 (A := A)
  have hsc := T1_sc hsc0
  refine fr_run (pc' := 27) 1 rfl ?_
  refine fr_new (ci := 2) rfl rfl wc_6_16 wi_2 wn_2 (by omega) (by omega) (by omega) (by repeat' (first | exact trivial | exact scR (by omega) | refine ⟨?_, ?_⟩)) (by repeat' (first | exact trivial | exact scR (by omega) | refine ⟨?_, ?_⟩)) (by repeat (first | exact hsc | refine scA.push ?_ (by first | exact trivial | exact df_sc | (repeat' (first | exact trivial | exact scR (by omega) | refine ⟨?_, ?_⟩))) | refine scA.up ?_ (by first | exact trivial | exact df_sc | (repeat' (first | exact trivial | exact scR (by omega) | refine ⟨?_, ?_⟩))))) (fun a ha => ?_)
  have hx := hx.tr ha (by omega)
  refine gf_n ?_
  refine fr_run (pc' := 31) 1 rfl ?_
  refine fr_callI (As := []) lkI_6_18 rfl rfl (c_X2 (d := d + 3) up_s (by omega) (by omega) (scA.push (k := 5) hsc df_sc)) rfl rfl rfl hAO (by omega) (by omega) (by repeat' (first | exact trivial | exact scR (by omega) | refine ⟨?_, ?_⟩)) (by repeat' (first | exact trivial | exact scR (by omega) | refine ⟨?_, ?_⟩)) (fun a ha => ?_)
  have hx := hx.tr ha (by omega)
  refine gf_n ?_
  refine fr_putF rfl rfl rfl hin rfl (by repeat (first | exact up_s | assumption | refine up_n (by first | assumption | decide | omega) ?_)) (by first | assumption | rfl | exact Nat.ble_eq_true_of_le (by omega)) rfl rfl ?_
  refine fr_h (A2 := T2 A) rfl ?_
  have h0 := T2_0 (A := A)
  have hsc := T2_sc hsc0
  refine fr_run (pc' := 38) 1 rfl ?_
  refine fr_new (ci := 2) rfl rfl wc_6_16 wi_2 wn_2 (by omega) (by omega) (by omega) (by repeat' (first | exact trivial | exact scR (by omega) | refine ⟨?_, ?_⟩)) (by repeat' (first | exact trivial | exact scR (by omega) | refine ⟨?_, ?_⟩)) (by repeat (first | exact hsc | refine scA.push ?_ (by first | exact trivial | exact df_sc | (repeat' (first | exact trivial | exact scR (by omega) | refine ⟨?_, ?_⟩))) | refine scA.up ?_ (by first | exact trivial | exact df_sc | (repeat' (first | exact trivial | exact scR (by omega) | refine ⟨?_, ?_⟩))))) (fun a ha => ?_)
  have hx := hx.tr ha (by omega)
  refine gf_n ?_
  refine fr_run (pc' := 42) 1 rfl ?_
  refine fr_callI (As := []) lkI_6_18 rfl rfl (c_X2 (d := d + 3) up_s (by omega) (by omega) (scA.push (k := 7) hsc df_sc)) rfl rfl rfl hAO (by omega) (by omega) (by repeat' (first | exact trivial | exact scR (by omega) | refine ⟨?_, ?_⟩)) (by repeat' (first | exact trivial | exact scR (by omega) | refine ⟨?_, ?_⟩)) (fun a ha => ?_)
  have hx := hx.tr ha (by omega)
  refine gf_n ?_
  refine fr_putF rfl rfl rfl hin rfl (by repeat (first | exact up_s | assumption | refine up_n (by first | assumption | decide | omega) ?_)) (by first | assumption | rfl | exact Nat.ble_eq_true_of_le (by omega)) rfl rfl ?_
  refine fr_h (A2 := T3 A) rfl ?_
  have h0 := T3_0 (A := A)
  have hsc := T3_sc hsc0
  refine fr_run (pc' := 49) 1 rfl ?_
  refine fr_new (ci := 3) rfl rfl wc_6_29 wi_3 wn_3 (by omega) (by omega) (by omega) (by repeat' (first | exact trivial | exact scR (by omega) | refine ⟨?_, ?_⟩)) (by repeat' (first | exact trivial | exact scR (by omega) | refine ⟨?_, ?_⟩)) (by repeat (first | exact hsc | refine scA.push ?_ (by first | exact trivial | exact df_sc | (repeat' (first | exact trivial | exact scR (by omega) | refine ⟨?_, ?_⟩))) | refine scA.up ?_ (by first | exact trivial | exact df_sc | (repeat' (first | exact trivial | exact scR (by omega) | refine ⟨?_, ?_⟩))))) (fun a ha => ?_)
  have hx := hx.tr ha (by omega)
  refine gf_n ?_
  refine fr_run (pc' := 55) 2 rfl ?_
  refine fr_callI (As := [_]) lkI_6_31 rfl rfl (c_X3 (d := d + 1) (sz := 8) (Or.inl rfl) up_s (by omega) (by omega) (scA.push (k := 9) hsc df_sc)) rfl rfl rfl hAO (by omega) (by omega) (by repeat' (first | exact trivial | exact scR (by omega) | refine ⟨?_, ?_⟩)) (by repeat' (first | exact trivial | exact scR (by omega) | refine ⟨?_, ?_⟩)) (fun a ha => ?_)
  have hx := hx.tr ha (by omega)
  refine gf_n ?_
  have hb4 : shB (va_up (T3 A) 9 (Ob 3 (dfF 3))) 9 10 8 8 0 = Ob 6 [.ref 1, .ref 3, .ref 5, .ref 7, .null, .null, .null, .null, .null] := by unfold shB; rw [if_neg (by omega), if_neg (by omega), if_neg (by omega)]; exact (up_o (by omega)).trans h0
  refine fr_putF rfl rfl rfl hin rfl (by repeat (first | exact up_s | assumption | refine up_n (by first | assumption | decide | omega) ?_)) (by first | assumption | rfl | exact Nat.ble_eq_true_of_le (by omega)) rfl rfl ?_
  refine fr_h (A2 := T4 A) rfl ?_
  have h0 := T4_0 (A := A)
  have hsc := T4_sc hsc0
  refine fr_run (pc' := 62) 1 rfl ?_
  refine fr_new (ci := 3) rfl rfl wc_6_29 wi_3 wn_3 (by omega) (by omega) (by omega) (by repeat' (first | exact trivial | exact scR (by omega) | refine ⟨?_, ?_⟩)) (by repeat' (first | exact trivial | exact scR (by omega) | refine ⟨?_, ?_⟩)) (by repeat (first | exact hsc | refine scA.push ?_ (by first | exact trivial | exact df_sc | (repeat' (first | exact trivial | exact scR (by omega) | refine ⟨?_, ?_⟩))) | refine scA.up ?_ (by first | exact trivial | exact df_sc | (repeat' (first | exact trivial | exact scR (by omega) | refine ⟨?_, ?_⟩))))) (fun a ha => ?_)
  have hx := hx.tr ha (by omega)
  refine gf_n ?_
  refine fr_run (pc' := 67) 2 rfl ?_
  refine fr_callI (As := [_]) lkI_6_31 rfl rfl (c_X3 (d := d + 1) (sz := 2) (Or.inr rfl) up_s (by omega) (by omega) (scA.push (k := 27) hsc df_sc)) rfl rfl rfl hAO (by omega) (by omega) (by repeat' (first | exact trivial | exact scR (by omega) | refine ⟨?_, ?_⟩)) (by repeat' (first | exact trivial | exact scR (by omega) | refine ⟨?_, ?_⟩)) (fun a ha => ?_)
  have hx := hx.tr ha (by omega)
  refine gf_n ?_
  have hb5 : shB (va_up (T4 A) 27 (Ob 3 (dfF 3))) 27 28 2 2 0 = Ob 6 [.ref 1, .ref 3, .ref 5, .ref 7, .ref 9, .null, .null, .null, .null] := by unfold shB; rw [if_neg (by omega), if_neg (by omega), if_neg (by omega)]; exact (up_o (by omega)).trans h0
  refine fr_putF rfl rfl rfl hin rfl (by repeat (first | exact up_s | assumption | refine up_n (by first | assumption | decide | omega) ?_)) (by first | assumption | rfl | exact Nat.ble_eq_true_of_le (by omega)) rfl rfl ?_
  refine fr_h (A2 := T5 A) rfl ?_
  have h0 := T5_0 (A := A)
  have hsc := T5_sc hsc0
  refine fr_run (pc' := 74) 1 rfl ?_
  refine fr_new (ci := 0) rfl rfl wc_6_41 wi_0 wn_0 (by omega) (by omega) (by omega) (by repeat' (first | exact trivial | exact scR (by omega) | refine ⟨?_, ?_⟩)) (by repeat' (first | exact trivial | exact scR (by omega) | refine ⟨?_, ?_⟩)) (by repeat (first | exact hsc | refine scA.push ?_ (by first | exact trivial | exact df_sc | (repeat' (first | exact trivial | exact scR (by omega) | refine ⟨?_, ?_⟩))) | refine scA.up ?_ (by first | exact trivial | exact df_sc | (repeat' (first | exact trivial | exact scR (by omega) | refine ⟨?_, ?_⟩))))) (fun a ha => ?_)
  have hx := hx.tr ha (by omega)
  refine gf_n ?_
  refine fr_run (pc' := 78) 1 rfl ?_
  refine fr_callIN (As := []) lkI_6_43 rfl rfl (c_X0 (d := d + 3) up_s (by omega) (by omega) (scA.push (k := 33) hsc df_sc)) rfl rfl rfl hAO (by omega) (by omega) (by repeat' (first | exact trivial | exact scR (by omega) | refine ⟨?_, ?_⟩)) (by repeat' (first | exact trivial | exact scR (by omega) | refine ⟨?_, ?_⟩)) (fun a ha => ?_)
  have hx := hx.tr ha (by omega)
  refine gf_n ?_
  refine fr_putF rfl rfl rfl hin rfl (by repeat (first | exact up_s | assumption | refine up_n (by first | assumption | decide | omega) ?_)) (by first | assumption | rfl | exact Nat.ble_eq_true_of_le (by omega)) rfl rfl ?_
  refine fr_h (A2 := T6 A) rfl ?_
  have h0 := T6_0 (A := A)
  have hsc := T6_sc hsc0
  refine fr_run (pc' := 85) 1 rfl ?_
  refine fr_new (ci := 1) rfl rfl wc_6_48 wi_1 wn_1 (by omega) (by omega) (by omega) (by repeat' (first | exact trivial | exact scR (by omega) | refine ⟨?_, ?_⟩)) (by repeat' (first | exact trivial | exact scR (by omega) | refine ⟨?_, ?_⟩)) (by repeat (first | exact hsc | refine scA.push ?_ (by first | exact trivial | exact df_sc | (repeat' (first | exact trivial | exact scR (by omega) | refine ⟨?_, ?_⟩))) | refine scA.up ?_ (by first | exact trivial | exact df_sc | (repeat' (first | exact trivial | exact scR (by omega) | refine ⟨?_, ?_⟩))))) (fun a ha => ?_)
  have hx := hx.tr ha (by omega)
  refine gf_n ?_
  refine fr_run (pc' := 89) 1 rfl ?_
  refine fr_callIN (As := []) lkI_6_50 rfl rfl (c_X1 (d := d + 3) up_s (by omega) (by omega) (scA.push (k := 35) hsc df_sc)) rfl rfl rfl hAO (by omega) (by omega) (by repeat' (first | exact trivial | exact scR (by omega) | refine ⟨?_, ?_⟩)) (by repeat' (first | exact trivial | exact scR (by omega) | refine ⟨?_, ?_⟩)) (fun a ha => ?_)
  have hx := hx.tr ha (by omega)
  refine gf_n ?_
  refine fr_putF rfl rfl rfl hin rfl (by repeat (first | exact up_s | assumption | refine up_n (by first | assumption | decide | omega) ?_)) (by first | assumption | rfl | exact Nat.ble_eq_true_of_le (by omega)) rfl rfl ?_
  refine fr_h (A2 := T7 A) rfl ?_
  have h0 := T7_0 (A := A)
  have hsc := T7_sc hsc0
  refine fr_run (pc' := 96) 1 rfl ?_
  refine fr_new (ci := 4) rfl rfl wc_6_55 wi_4 wn_4 (by omega) (by omega) (by omega) (by repeat' (first | exact trivial | exact scR (by omega) | refine ⟨?_, ?_⟩)) (by repeat' (first | exact trivial | exact scR (by omega) | refine ⟨?_, ?_⟩)) (by repeat (first | exact hsc | refine scA.push ?_ (by first | exact trivial | exact df_sc | (repeat' (first | exact trivial | exact scR (by omega) | refine ⟨?_, ?_⟩))) | refine scA.up ?_ (by first | exact trivial | exact df_sc | (repeat' (first | exact trivial | exact scR (by omega) | refine ⟨?_, ?_⟩))))) (fun a ha => ?_)
  have hx := hx.tr ha (by omega)
  refine gf_n ?_
  refine fr_run (pc' := 100) 1 rfl ?_
  refine fr_callIN (As := []) lkI_6_57 rfl rfl (c_X4 (d := d + 3) up_s (by omega) (by omega) (scA.push (k := 39) hsc df_sc)) rfl rfl rfl hAO (by omega) (by omega) (by repeat' (first | exact trivial | exact scR (by omega) | refine ⟨?_, ?_⟩)) (by repeat' (first | exact trivial | exact scR (by omega) | refine ⟨?_, ?_⟩)) (fun a ha => ?_)
  have hx := hx.tr ha (by omega)
  refine gf_n ?_
  refine fr_putF rfl rfl rfl hin rfl (by repeat (first | exact up_s | assumption | refine up_n (by first | assumption | decide | omega) ?_)) (by first | assumption | rfl | exact Nat.ble_eq_true_of_le (by omega)) rfl rfl ?_
  refine fr_h (A2 := T8 A) rfl ?_
  have h0 := T8_0 (A := A)
  have hsc := T8_sc hsc0
  exact E _ _ _ _ _ hx (by omega) (by omega) rfl
end CV
