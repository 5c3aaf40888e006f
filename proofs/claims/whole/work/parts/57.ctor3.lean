/-! the model's constructor -/
def U0 (A : AH) : AH := va_up (va_up A 44 (Ia 40 (fun _ => iI 0))) 43 (Ob 7 [.ref 44, .int (iI 0), .int (iI 3), .null, .int (iI 0), .null, .int (iI 0), .null, .int (iI 0), .null, .null, .null, .null, .null, .null, .null, .null, .null])
theorem U0_43 {A : AH} : U0 A 43 = Ob 7 [.ref 44, .int (iI 0), .int (iI 3), .null, .int (iI 0), .null, .int (iI 0), .null, .int (iI 0), .null, .null, .null, .null, .null, .null, .null, .null, .null] := up_s
theorem U0_sc {A : AH} (hsc : scA 44 A) : scA 45 (U0 A) := by
  have hsc := hsc
  unfold U0
  exact (by repeat (first | exact hsc | refine scA.push ?_ (by first | exact trivial | exact df_sc | (repeat' (first | exact trivial | exact scR (by omega) | refine ⟨?_, ?_⟩))) | refine scA.up ?_ (by first | exact trivial | exact df_sc | (repeat' (first | exact trivial | exact scR (by omega) | refine ⟨?_, ?_⟩)))))
def U1 (A : AH) : AH := va_up (va_up (U0 A) 45 (Ia 10 (fun _ => iI 0))) 43 (Ob 7 [.ref 44, .int (iI 0), .int (iI 3), .ref 45, .int (iI 3), .null, .int (iI 0), .null, .int (iI 0), .null, .null, .null, .null, .null, .null, .null, .null, .null])
theorem U1_43 {A : AH} : U1 A 43 = Ob 7 [.ref 44, .int (iI 0), .int (iI 3), .ref 45, .int (iI 3), .null, .int (iI 0), .null, .int (iI 0), .null, .null, .null, .null, .null, .null, .null, .null, .null] := up_s
theorem U1_sc {A : AH} (hsc : scA 44 A) : scA 46 (U1 A) := by
  have hsc := U0_sc hsc
  unfold U1
  exact (by repeat (first | exact hsc | refine scA.push ?_ (by first | exact trivial | exact df_sc | (repeat' (first | exact trivial | exact scR (by omega) | refine ⟨?_, ?_⟩))) | refine scA.up ?_ (by first | exact trivial | exact df_sc | (repeat' (first | exact trivial | exact scR (by omega) | refine ⟨?_, ?_⟩)))))
def U2 (A : AH) : AH := va_up (va_up (U1 A) 46 (Ia 10 (fun _ => iI 0))) 43 (Ob 7 [.ref 44, .int (iI 0), .int (iI 3), .ref 45, .int (iI 3), .ref 46, .int (iI 0), .null, .int (iI 0), .null, .null, .null, .null, .null, .null, .null, .null, .null])
theorem U2_43 {A : AH} : U2 A 43 = Ob 7 [.ref 44, .int (iI 0), .int (iI 3), .ref 45, .int (iI 3), .ref 46, .int (iI 0), .null, .int (iI 0), .null, .null, .null, .null, .null, .null, .null, .null, .null] := up_s
theorem U2_sc {A : AH} (hsc : scA 44 A) : scA 47 (U2 A) := by
  have hsc := U1_sc hsc
  unfold U2
  exact (by repeat (first | exact hsc | refine scA.push ?_ (by first | exact trivial | exact df_sc | (repeat' (first | exact trivial | exact scR (by omega) | refine ⟨?_, ?_⟩))) | refine scA.up ?_ (by first | exact trivial | exact df_sc | (repeat' (first | exact trivial | exact scR (by omega) | refine ⟨?_, ?_⟩)))))
def U3 (A : AH) : AH := va_up (va_up (U2 A) 47 (Ia 88 (fun _ => iI 0))) 43 (Ob 7 [.ref 44, .int (iI 0), .int (iI 3), .ref 45, .int (iI 3), .ref 46, .int (iI 0), .ref 47, .int (iI 0), .null, .null, .null, .null, .null, .null, .null, .null, .null])
theorem U3_43 {A : AH} : U3 A 43 = Ob 7 [.ref 44, .int (iI 0), .int (iI 3), .ref 45, .int (iI 3), .ref 46, .int (iI 0), .ref 47, .int (iI 0), .null, .null, .null, .null, .null, .null, .null, .null, .null] := up_s
theorem U3_sc {A : AH} (hsc : scA 44 A) : scA 48 (U3 A) := by
  have hsc := U2_sc hsc
  unfold U3
  exact (by repeat (first | exact hsc | refine scA.push ?_ (by first | exact trivial | exact df_sc | (repeat' (first | exact trivial | exact scR (by omega) | refine ⟨?_, ?_⟩))) | refine scA.up ?_ (by first | exact trivial | exact df_sc | (repeat' (first | exact trivial | exact scR (by omega) | refine ⟨?_, ?_⟩)))))
def U4 (A : AH) : AH := va_up (va_up (U3 A) 48 (Ia 22 (fun _ => iI 0))) 43 (Ob 7 [.ref 44, .int (iI 0), .int (iI 3), .ref 45, .int (iI 3), .ref 46, .int (iI 0), .ref 47, .int (iI 0), .ref 48, .null, .null, .null, .null, .null, .null, .null, .null])
theorem U4_43 {A : AH} : U4 A 43 = Ob 7 [.ref 44, .int (iI 0), .int (iI 3), .ref 45, .int (iI 3), .ref 46, .int (iI 0), .ref 47, .int (iI 0), .ref 48, .null, .null, .null, .null, .null, .null, .null, .null] := up_s
theorem U4_sc {A : AH} (hsc : scA 44 A) : scA 49 (U4 A) := by
  have hsc := U3_sc hsc
  unfold U4
  exact (by repeat (first | exact hsc | refine scA.push ?_ (by first | exact trivial | exact df_sc | (repeat' (first | exact trivial | exact scR (by omega) | refine ⟨?_, ?_⟩))) | refine scA.up ?_ (by first | exact trivial | exact df_sc | (repeat' (first | exact trivial | exact scR (by omega) | refine ⟨?_, ?_⟩)))))
def U5 (A : AH) : AH := va_up (va_up (U4 A) 49 (Ia 10 (fun _ => iI 0))) 43 (Ob 7 [.ref 44, .int (iI 0), .int (iI 3), .ref 45, .int (iI 3), .ref 46, .int (iI 0), .ref 47, .int (iI 0), .ref 48, .ref 49, .null, .null, .null, .null, .null, .null, .null])
theorem U5_43 {A : AH} : U5 A 43 = Ob 7 [.ref 44, .int (iI 0), .int (iI 3), .ref 45, .int (iI 3), .ref 46, .int (iI 0), .ref 47, .int (iI 0), .ref 48, .ref 49, .null, .null, .null, .null, .null, .null, .null] := up_s
theorem U5_sc {A : AH} (hsc : scA 44 A) : scA 50 (U5 A) := by
  have hsc := U4_sc hsc
  unfold U5
  exact (by repeat (first | exact hsc | refine scA.push ?_ (by first | exact trivial | exact df_sc | (repeat' (first | exact trivial | exact scR (by omega) | refine ⟨?_, ?_⟩))) | refine scA.up ?_ (by first | exact trivial | exact df_sc | (repeat' (first | exact trivial | exact scR (by omega) | refine ⟨?_, ?_⟩)))))
def U6 (A : AH) : AH := va_up (va_up (U5 A) 50 (Ia 10 (fun _ => iI 0))) 43 (Ob 7 [.ref 44, .int (iI 0), .int (iI 3), .ref 45, .int (iI 3), .ref 46, .int (iI 0), .ref 47, .int (iI 0), .ref 48, .ref 49, .ref 50, .null, .null, .null, .null, .null, .null])
theorem U6_43 {A : AH} : U6 A 43 = Ob 7 [.ref 44, .int (iI 0), .int (iI 3), .ref 45, .int (iI 3), .ref 46, .int (iI 0), .ref 47, .int (iI 0), .ref 48, .ref 49, .ref 50, .null, .null, .null, .null, .null, .null] := up_s
theorem U6_sc {A : AH} (hsc : scA 44 A) : scA 51 (U6 A) := by
  have hsc := U5_sc hsc
  unfold U6
  exact (by repeat (first | exact hsc | refine scA.push ?_ (by first | exact trivial | exact df_sc | (repeat' (first | exact trivial | exact scR (by omega) | refine ⟨?_, ?_⟩))) | refine scA.up ?_ (by first | exact trivial | exact df_sc | (repeat' (first | exact trivial | exact scR (by omega) | refine ⟨?_, ?_⟩)))))
def U7 (A : AH) : AH := va_up (va_up (U6 A) 51 (La 12544 (fun _ => 0))) 43 (Ob 7 [.ref 44, .int (iI 0), .int (iI 3), .ref 45, .int (iI 3), .ref 46, .int (iI 0), .ref 47, .int (iI 0), .ref 48, .ref 49, .ref 50, .ref 51, .null, .null, .null, .null, .null])
theorem U7_43 {A : AH} : U7 A 43 = Ob 7 [.ref 44, .int (iI 0), .int (iI 3), .ref 45, .int (iI 3), .ref 46, .int (iI 0), .ref 47, .int (iI 0), .ref 48, .ref 49, .ref 50, .ref 51, .null, .null, .null, .null, .null] := up_s
theorem U7_sc {A : AH} (hsc : scA 44 A) : scA 52 (U7 A) := by
  have hsc := U6_sc hsc
  unfold U7
  exact (by repeat (first | exact hsc | refine scA.push ?_ (by first | exact trivial | exact df_sc | (repeat' (first | exact trivial | exact scR (by omega) | refine ⟨?_, ?_⟩))) | refine scA.up ?_ (by first | exact trivial | exact df_sc | (repeat' (first | exact trivial | exact scR (by omega) | refine ⟨?_, ?_⟩)))))
def U8 (A : AH) : AH := va_up (va_up (U7 A) 52 (Ia 512 (fun _ => iI 0))) 43 (Ob 7 [.ref 44, .int (iI 0), .int (iI 3), .ref 45, .int (iI 3), .ref 46, .int (iI 0), .ref 47, .int (iI 0), .ref 48, .ref 49, .ref 50, .ref 51, .ref 52, .null, .null, .null, .null])
theorem U8_43 {A : AH} : U8 A 43 = Ob 7 [.ref 44, .int (iI 0), .int (iI 3), .ref 45, .int (iI 3), .ref 46, .int (iI 0), .ref 47, .int (iI 0), .ref 48, .ref 49, .ref 50, .ref 51, .ref 52, .null, .null, .null, .null] := up_s
theorem U8_sc {A : AH} (hsc : scA 44 A) : scA 53 (U8 A) := by
  have hsc := U7_sc hsc
  unfold U8
  exact (by repeat (first | exact hsc | refine scA.push ?_ (by first | exact trivial | exact df_sc | (repeat' (first | exact trivial | exact scR (by omega) | refine ⟨?_, ?_⟩))) | refine scA.up ?_ (by first | exact trivial | exact df_sc | (repeat' (first | exact trivial | exact scR (by omega) | refine ⟨?_, ?_⟩)))))
def U9 (A : AH) : AH := va_up (va_up (U8 A) 53 (Ia 100000 (fun _ => iI 0))) 43 (Ob 7 [.ref 44, .int (iI 0), .int (iI 3), .ref 45, .int (iI 3), .ref 46, .int (iI 0), .ref 47, .int (iI 0), .ref 48, .ref 49, .ref 50, .ref 51, .ref 52, .ref 53, .null, .null, .null])
theorem U9_43 {A : AH} : U9 A 43 = Ob 7 [.ref 44, .int (iI 0), .int (iI 3), .ref 45, .int (iI 3), .ref 46, .int (iI 0), .ref 47, .int (iI 0), .ref 48, .ref 49, .ref 50, .ref 51, .ref 52, .ref 53, .null, .null, .null] := up_s
theorem U9_sc {A : AH} (hsc : scA 44 A) : scA 54 (U9 A) := by
  have hsc := U8_sc hsc
  unfold U9
  exact (by repeat (first | exact hsc | refine scA.push ?_ (by first | exact trivial | exact df_sc | (repeat' (first | exact trivial | exact scR (by omega) | refine ⟨?_, ?_⟩))) | refine scA.up ?_ (by first | exact trivial | exact df_sc | (repeat' (first | exact trivial | exact scR (by omega) | refine ⟨?_, ?_⟩)))))
def U10 (A : AH) : AH := va_up (va_up (U9 A) 54 (Ia 100000 (fun _ => iI 0))) 43 (Ob 7 [.ref 44, .int (iI 0), .int (iI 3), .ref 45, .int (iI 3), .ref 46, .int (iI 0), .ref 47, .int (iI 0), .ref 48, .ref 49, .ref 50, .ref 51, .ref 52, .ref 53, .ref 54, .null, .null])
theorem U10_43 {A : AH} : U10 A 43 = Ob 7 [.ref 44, .int (iI 0), .int (iI 3), .ref 45, .int (iI 3), .ref 46, .int (iI 0), .ref 47, .int (iI 0), .ref 48, .ref 49, .ref 50, .ref 51, .ref 52, .ref 53, .ref 54, .null, .null] := up_s
theorem U10_sc {A : AH} (hsc : scA 44 A) : scA 55 (U10 A) := by
  have hsc := U9_sc hsc
  unfold U10
  exact (by repeat (first | exact hsc | refine scA.push ?_ (by first | exact trivial | exact df_sc | (repeat' (first | exact trivial | exact scR (by omega) | refine ⟨?_, ?_⟩))) | refine scA.up ?_ (by first | exact trivial | exact df_sc | (repeat' (first | exact trivial | exact scR (by omega) | refine ⟨?_, ?_⟩)))))
def U11 (A : AH) : AH := va_up (va_up (U10 A) 55 (Za 512 (fun _ => iI 0))) 43 (Ob 7 [.ref 44, .int (iI 0), .int (iI 3), .ref 45, .int (iI 3), .ref 46, .int (iI 0), .ref 47, .int (iI 0), .ref 48, .ref 49, .ref 50, .ref 51, .ref 52, .ref 53, .ref 54, .ref 55, .null])
theorem U11_43 {A : AH} : U11 A 43 = Ob 7 [.ref 44, .int (iI 0), .int (iI 3), .ref 45, .int (iI 3), .ref 46, .int (iI 0), .ref 47, .int (iI 0), .ref 48, .ref 49, .ref 50, .ref 51, .ref 52, .ref 53, .ref 54, .ref 55, .null] := up_s
theorem U11_sc {A : AH} (hsc : scA 44 A) : scA 56 (U11 A) := by
  have hsc := U10_sc hsc
  unfold U11
  exact (by repeat (first | exact hsc | refine scA.push ?_ (by first | exact trivial | exact df_sc | (repeat' (first | exact trivial | exact scR (by omega) | refine ⟨?_, ?_⟩))) | refine scA.up ?_ (by first | exact trivial | exact df_sc | (repeat' (first | exact trivial | exact scR (by omega) | refine ⟨?_, ?_⟩)))))
def U12 (A : AH) : AH := va_up (va_up (U11 A) 56 (Za 512 (fun _ => iI 0))) 43 (Ob 7 [.ref 44, .int (iI 0), .int (iI 3), .ref 45, .int (iI 3), .ref 46, .int (iI 0), .ref 47, .int (iI 0), .ref 48, .ref 49, .ref 50, .ref 51, .ref 52, .ref 53, .ref 54, .ref 55, .ref 56])
theorem U12_43 {A : AH} : U12 A 43 = Ob 7 [.ref 44, .int (iI 0), .int (iI 3), .ref 45, .int (iI 3), .ref 46, .int (iI 0), .ref 47, .int (iI 0), .ref 48, .ref 49, .ref 50, .ref 51, .ref 52, .ref 53, .ref 54, .ref 55, .ref 56] := up_s
theorem U12_sc {A : AH} (hsc : scA 44 A) : scA 57 (U12 A) := by
  have hsc := U11_sc hsc
  unfold U12
  exact (by repeat (first | exact hsc | refine scA.push ?_ (by first | exact trivial | exact df_sc | (repeat' (first | exact trivial | exact scR (by omega) | refine ⟨?_, ?_⟩))) | refine scA.up ?_ (by first | exact trivial | exact df_sc | (repeat' (first | exact trivial | exact scR (by omega) | refine ⟨?_, ?_⟩)))))
def g531 : Nat → Int32 := upd (upd (upd (fun _ => iI 0) 0 (f531 0)) 1 (f531 1)) 2 (f531 2)
theorem U0_v {A : AH} : U0 A 44 = Ia 40 (fun _ => iI 0) := up_n (by decide) up_s
theorem U0_o {A : AH} {j : Nat} (h : j ≠ 43) (h2 : j ≠ 44) : U0 A j = A j := (up_o h).trans (up_o h2)
theorem U1_v {A : AH} : U1 A 45 = Ia 10 (fun _ => iI 0) := up_n (by decide) up_s
theorem U1_o {A : AH} {j : Nat} (h : j ≠ 43) (h2 : j ≠ 45) : U1 A j = U0 A j := (up_o h).trans (up_o h2)
theorem U2_v {A : AH} : U2 A 46 = Ia 10 (fun _ => iI 0) := up_n (by decide) up_s
theorem U2_o {A : AH} {j : Nat} (h : j ≠ 43) (h2 : j ≠ 46) : U2 A j = U1 A j := (up_o h).trans (up_o h2)
theorem U3_v {A : AH} : U3 A 47 = Ia 88 (fun _ => iI 0) := up_n (by decide) up_s
theorem U3_o {A : AH} {j : Nat} (h : j ≠ 43) (h2 : j ≠ 47) : U3 A j = U2 A j := (up_o h).trans (up_o h2)
theorem U4_v {A : AH} : U4 A 48 = Ia 22 (fun _ => iI 0) := up_n (by decide) up_s
theorem U4_o {A : AH} {j : Nat} (h : j ≠ 43) (h2 : j ≠ 48) : U4 A j = U3 A j := (up_o h).trans (up_o h2)
theorem U5_v {A : AH} : U5 A 49 = Ia 10 (fun _ => iI 0) := up_n (by decide) up_s
theorem U5_o {A : AH} {j : Nat} (h : j ≠ 43) (h2 : j ≠ 49) : U5 A j = U4 A j := (up_o h).trans (up_o h2)
theorem U6_v {A : AH} : U6 A 50 = Ia 10 (fun _ => iI 0) := up_n (by decide) up_s
theorem U6_o {A : AH} {j : Nat} (h : j ≠ 43) (h2 : j ≠ 50) : U6 A j = U5 A j := (up_o h).trans (up_o h2)
theorem U7_v {A : AH} : U7 A 51 = La 12544 (fun _ => 0) := up_n (by decide) up_s
theorem U7_o {A : AH} {j : Nat} (h : j ≠ 43) (h2 : j ≠ 51) : U7 A j = U6 A j := (up_o h).trans (up_o h2)
theorem U8_v {A : AH} : U8 A 52 = Ia 512 (fun _ => iI 0) := up_n (by decide) up_s
theorem U8_o {A : AH} {j : Nat} (h : j ≠ 43) (h2 : j ≠ 52) : U8 A j = U7 A j := (up_o h).trans (up_o h2)
theorem U9_v {A : AH} : U9 A 53 = Ia 100000 (fun _ => iI 0) := up_n (by decide) up_s
theorem U9_o {A : AH} {j : Nat} (h : j ≠ 43) (h2 : j ≠ 53) : U9 A j = U8 A j := (up_o h).trans (up_o h2)
theorem U10_v {A : AH} : U10 A 54 = Ia 100000 (fun _ => iI 0) := up_n (by decide) up_s
theorem U10_o {A : AH} {j : Nat} (h : j ≠ 43) (h2 : j ≠ 54) : U10 A j = U9 A j := (up_o h).trans (up_o h2)
theorem U11_v {A : AH} : U11 A 55 = Za 512 (fun _ => iI 0) := up_n (by decide) up_s
theorem U11_o {A : AH} {j : Nat} (h : j ≠ 43) (h2 : j ≠ 55) : U11 A j = U10 A j := (up_o h).trans (up_o h2)
theorem U12_v {A : AH} : U12 A 56 = Za 512 (fun _ => iI 0) := up_n (by decide) up_s
theorem U12_o {A : AH} {j : Nat} (h : j ≠ 43) (h2 : j ≠ 56) : U12 A j = U11 A j := (up_o h).trans (up_o h2)
theorem U12_o' {A : AH} {j : Nat} (h : j < 43) : U12 A j = A j := (U12_o (by omega) (by omega)).trans ((U11_o (by omega) (by omega)).trans ((U10_o (by omega) (by omega)).trans ((U9_o (by omega) (by omega)).trans ((U8_o (by omega) (by omega)).trans ((U7_o (by omega) (by omega)).trans ((U6_o (by omega) (by omega)).trans ((U5_o (by omega) (by omega)).trans ((U4_o (by omega) (by omega)).trans ((U3_o (by omega) (by omega)).trans ((U2_o (by omega) (by omega)).trans ((U1_o (by omega) (by omega)).trans ((U0_o (by omega) (by omega))))))))))))))
theorem UF_44 {A : AH} : U12 A 44 = Ia 40 (fun _ => iI 0) := (U12_o (by omega) (by omega)).trans ((U11_o (by omega) (by omega)).trans ((U10_o (by omega) (by omega)).trans ((U9_o (by omega) (by omega)).trans ((U8_o (by omega) (by omega)).trans ((U7_o (by omega) (by omega)).trans ((U6_o (by omega) (by omega)).trans ((U5_o (by omega) (by omega)).trans ((U4_o (by omega) (by omega)).trans ((U3_o (by omega) (by omega)).trans ((U2_o (by omega) (by omega)).trans ((U1_o (by omega) (by omega)).trans (U0_v))))))))))))
theorem UF_45 {A : AH} : U12 A 45 = Ia 10 (fun _ => iI 0) := (U12_o (by omega) (by omega)).trans ((U11_o (by omega) (by omega)).trans ((U10_o (by omega) (by omega)).trans ((U9_o (by omega) (by omega)).trans ((U8_o (by omega) (by omega)).trans ((U7_o (by omega) (by omega)).trans ((U6_o (by omega) (by omega)).trans ((U5_o (by omega) (by omega)).trans ((U4_o (by omega) (by omega)).trans ((U3_o (by omega) (by omega)).trans ((U2_o (by omega) (by omega)).trans (U1_v)))))))))))
theorem UF_46 {A : AH} : U12 A 46 = Ia 10 (fun _ => iI 0) := (U12_o (by omega) (by omega)).trans ((U11_o (by omega) (by omega)).trans ((U10_o (by omega) (by omega)).trans ((U9_o (by omega) (by omega)).trans ((U8_o (by omega) (by omega)).trans ((U7_o (by omega) (by omega)).trans ((U6_o (by omega) (by omega)).trans ((U5_o (by omega) (by omega)).trans ((U4_o (by omega) (by omega)).trans ((U3_o (by omega) (by omega)).trans (U2_v))))))))))
theorem UF_47 {A : AH} : U12 A 47 = Ia 88 (fun _ => iI 0) := (U12_o (by omega) (by omega)).trans ((U11_o (by omega) (by omega)).trans ((U10_o (by omega) (by omega)).trans ((U9_o (by omega) (by omega)).trans ((U8_o (by omega) (by omega)).trans ((U7_o (by omega) (by omega)).trans ((U6_o (by omega) (by omega)).trans ((U5_o (by omega) (by omega)).trans ((U4_o (by omega) (by omega)).trans (U3_v)))))))))
theorem UF_48 {A : AH} : U12 A 48 = Ia 22 (fun _ => iI 0) := (U12_o (by omega) (by omega)).trans ((U11_o (by omega) (by omega)).trans ((U10_o (by omega) (by omega)).trans ((U9_o (by omega) (by omega)).trans ((U8_o (by omega) (by omega)).trans ((U7_o (by omega) (by omega)).trans ((U6_o (by omega) (by omega)).trans ((U5_o (by omega) (by omega)).trans (U4_v))))))))
theorem UF_49 {A : AH} : U12 A 49 = Ia 10 (fun _ => iI 0) := (U12_o (by omega) (by omega)).trans ((U11_o (by omega) (by omega)).trans ((U10_o (by omega) (by omega)).trans ((U9_o (by omega) (by omega)).trans ((U8_o (by omega) (by omega)).trans ((U7_o (by omega) (by omega)).trans ((U6_o (by omega) (by omega)).trans (U5_v)))))))
theorem UF_50 {A : AH} : U12 A 50 = Ia 10 (fun _ => iI 0) := (U12_o (by omega) (by omega)).trans ((U11_o (by omega) (by omega)).trans ((U10_o (by omega) (by omega)).trans ((U9_o (by omega) (by omega)).trans ((U8_o (by omega) (by omega)).trans ((U7_o (by omega) (by omega)).trans (U6_v))))))
theorem UF_51 {A : AH} : U12 A 51 = La 12544 (fun _ => 0) := (U12_o (by omega) (by omega)).trans ((U11_o (by omega) (by omega)).trans ((U10_o (by omega) (by omega)).trans ((U9_o (by omega) (by omega)).trans ((U8_o (by omega) (by omega)).trans (U7_v)))))
theorem UF_52 {A : AH} : U12 A 52 = Ia 512 (fun _ => iI 0) := (U12_o (by omega) (by omega)).trans ((U11_o (by omega) (by omega)).trans ((U10_o (by omega) (by omega)).trans ((U9_o (by omega) (by omega)).trans (U8_v))))
theorem UF_53 {A : AH} : U12 A 53 = Ia 100000 (fun _ => iI 0) := (U12_o (by omega) (by omega)).trans ((U11_o (by omega) (by omega)).trans ((U10_o (by omega) (by omega)).trans (U9_v)))
theorem UF_54 {A : AH} : U12 A 54 = Ia 100000 (fun _ => iI 0) := (U12_o (by omega) (by omega)).trans ((U11_o (by omega) (by omega)).trans (U10_v))
theorem UF_55 {A : AH} : U12 A 55 = Za 512 (fun _ => iI 0) := (U12_o (by omega) (by omega)).trans (U11_v)
theorem UF_56 {A : AH} : U12 A 56 = Za 512 (fun _ => iI 0) := U12_v
section CW
variable {d : Nat} {A : AH}
theorem c_X7 (hA : A 43 = Ob 7 (dfF 7)) (hsc : scA 44 A) : RtC mX7_init (d + 1) 13 214270 [.ref 43] 44 A 57 (va_up (va_up (U12 A) 45 (Ia 10 f531)) 46 (Ia 10 g531)) := by
  have h0 : A 43 = Ob 7 [.null, .int (iI 0), .int (iI 0), .null, .int (iI 0), .null, .int (iI 0), .null, .int (iI 0), .null, .null, .null, .null, .null, .null, .null, .null, .null] := hA
  refine rtc_intro kX7_init rfl rfl rfl rfl (fun X G hin hAO hRc hRs E => ?_)
  have hx : exA G 44 (gA G) := exA.rf
  refine gf_0 ?_
  have hsc0 := hsc
  refine fr_run (pc' := 1) 1 rfl ?_
  refine fr_obj rfl wo_7 rfl ?_
  refine fr_run (pc' := 7) 2 rfl ?_
  refine fr_newI (n := 40) rfl (by omega) (by omega) (by omega) (by omega) (by repeat' (first | exact trivial | exact scR (by omega) | refine ⟨?_, ?_⟩)) (by repeat' (first | exact trivial | exact scR (by omega) | refine ⟨?_, ?_⟩)) (by repeat (first | exact hsc | refine scA.push ?_ (by first | exact trivial | exact df_sc | (repeat' (first | exact trivial | exact scR (by omega) | refine ⟨?_, ?_⟩))) | refine scA.up ?_ (by first | exact trivial | exact df_sc | (repeat' (first | exact trivial | exact scR (by omega) | refine ⟨?_, ?_⟩))))) (fun a ha => ?_)
  have hx := hx.tr ha (by omega)
  refine gf_n ?_
  refine fr_putF rfl rfl rfl hin rfl (by repeat (first | exact up_s | assumption | refine up_n (by first | assumption | decide | omega) ?_)) (by first | assumption | rfl | exact Nat.ble_eq_true_of_le (by omega)) rfl rfl ?_
  refine fr_run (pc' := 14) 2 rfl ?_
  refine fr_putf rfl rfl rfl (by repeat (first | exact up_s | assumption | refine up_n (by first | assumption | decide | omega) ?_)) (by first | assumption | rfl | exact Nat.ble_eq_true_of_le (by omega)) rfl rfl ?_
  rw [bx_uu]
  refine fr_h (A2 := U0 A) rfl ?_
  have h0 := U0_43 (A := A)
  have hsc := U0_sc hsc0
  refine fr_run (pc' := 20) 2 rfl ?_
  refine fr_newI (n := 10) rfl (by omega) (by omega) (by omega) (by omega) (by repeat' (first | exact trivial | exact scR (by omega) | refine ⟨?_, ?_⟩)) (by repeat' (first | exact trivial | exact scR (by omega) | refine ⟨?_, ?_⟩)) (by repeat (first | exact hsc | refine scA.push ?_ (by first | exact trivial | exact df_sc | (repeat' (first | exact trivial | exact scR (by omega) | refine ⟨?_, ?_⟩))) | refine scA.up ?_ (by first | exact trivial | exact df_sc | (repeat' (first | exact trivial | exact scR (by omega) | refine ⟨?_, ?_⟩))))) (fun a ha => ?_)
  have hx := hx.tr ha (by omega)
  refine gf_n ?_
  refine fr_putF rfl rfl rfl hin rfl (by repeat (first | exact up_s | assumption | refine up_n (by first | assumption | decide | omega) ?_)) (by first | assumption | rfl | exact Nat.ble_eq_true_of_le (by omega)) rfl rfl ?_
  refine fr_run (pc' := 27) 2 rfl ?_
  refine fr_putf rfl rfl rfl (by repeat (first | exact up_s | assumption | refine up_n (by first | assumption | decide | omega) ?_)) (by first | assumption | rfl | exact Nat.ble_eq_true_of_le (by omega)) rfl rfl ?_
  rw [bx_uu]
  refine fr_h (A2 := U1 A) rfl ?_
  have h0 := U1_43 (A := A)
  have hsc := U1_sc hsc0
  refine fr_run (pc' := 33) 2 rfl ?_
  refine fr_newI (n := 10) rfl (by omega) (by omega) (by omega) (by omega) (by repeat' (first | exact trivial | exact scR (by omega) | refine ⟨?_, ?_⟩)) (by repeat' (first | exact trivial | exact scR (by omega) | refine ⟨?_, ?_⟩)) (by repeat (first | exact hsc | refine scA.push ?_ (by first | exact trivial | exact df_sc | (repeat' (first | exact trivial | exact scR (by omega) | refine ⟨?_, ?_⟩))) | refine scA.up ?_ (by first | exact trivial | exact df_sc | (repeat' (first | exact trivial | exact scR (by omega) | refine ⟨?_, ?_⟩))))) (fun a ha => ?_)
  have hx := hx.tr ha (by omega)
  refine gf_n ?_
  refine fr_putF rfl rfl rfl hin rfl (by repeat (first | exact up_s | assumption | refine up_n (by first | assumption | decide | omega) ?_)) (by first | assumption | rfl | exact Nat.ble_eq_true_of_le (by omega)) rfl rfl ?_
  refine fr_h (A2 := U2 A) rfl ?_
  have h0 := U2_43 (A := A)
  have hsc := U2_sc hsc0
  refine fr_run (pc' := 41) 2 rfl ?_
  refine fr_newI (n := 88) rfl (by omega) (by omega) (by omega) (by omega) (by repeat' (first | exact trivial | exact scR (by omega) | refine ⟨?_, ?_⟩)) (by repeat' (first | exact trivial | exact scR (by omega) | refine ⟨?_, ?_⟩)) (by repeat (first | exact hsc | refine scA.push ?_ (by first | exact trivial | exact df_sc | (repeat' (first | exact trivial | exact scR (by omega) | refine ⟨?_, ?_⟩))) | refine scA.up ?_ (by first | exact trivial | exact df_sc | (repeat' (first | exact trivial | exact scR (by omega) | refine ⟨?_, ?_⟩))))) (fun a ha => ?_)
  have hx := hx.tr ha (by omega)
  refine gf_n ?_
  refine fr_putF rfl rfl rfl hin rfl (by repeat (first | exact up_s | assumption | refine up_n (by first | assumption | decide | omega) ?_)) (by first | assumption | rfl | exact Nat.ble_eq_true_of_le (by omega)) rfl rfl ?_
  refine fr_h (A2 := U3 A) rfl ?_
  have h0 := U3_43 (A := A)
  have hsc := U3_sc hsc0
  refine fr_run (pc' := 49) 2 rfl ?_
  refine fr_newI (n := 22) rfl (by omega) (by omega) (by omega) (by omega) (by repeat' (first | exact trivial | exact scR (by omega) | refine ⟨?_, ?_⟩)) (by repeat' (first | exact trivial | exact scR (by omega) | refine ⟨?_, ?_⟩)) (by repeat (first | exact hsc | refine scA.push ?_ (by first | exact trivial | exact df_sc | (repeat' (first | exact trivial | exact scR (by omega) | refine ⟨?_, ?_⟩))) | refine scA.up ?_ (by first | exact trivial | exact df_sc | (repeat' (first | exact trivial | exact scR (by omega) | refine ⟨?_, ?_⟩))))) (fun a ha => ?_)
  have hx := hx.tr ha (by omega)
  refine gf_n ?_
  refine fr_putF rfl rfl rfl hin rfl (by repeat (first | exact up_s | assumption | refine up_n (by first | assumption | decide | omega) ?_)) (by first | assumption | rfl | exact Nat.ble_eq_true_of_le (by omega)) rfl rfl ?_
  refine fr_h (A2 := U4 A) rfl ?_
  have h0 := U4_43 (A := A)
  have hsc := U4_sc hsc0
  refine fr_run (pc' := 57) 2 rfl ?_
  refine fr_newI (n := 10) rfl (by omega) (by omega) (by omega) (by omega) (by repeat' (first | exact trivial | exact scR (by omega) | refine ⟨?_, ?_⟩)) (by repeat' (first | exact trivial | exact scR (by omega) | refine ⟨?_, ?_⟩)) (by repeat (first | exact hsc | refine scA.push ?_ (by first | exact trivial | exact df_sc | (repeat' (first | exact trivial | exact scR (by omega) | refine ⟨?_, ?_⟩))) | refine scA.up ?_ (by first | exact trivial | exact df_sc | (repeat' (first | exact trivial | exact scR (by omega) | refine ⟨?_, ?_⟩))))) (fun a ha => ?_)
  have hx := hx.tr ha (by omega)
  refine gf_n ?_
  refine fr_putF rfl rfl rfl hin rfl (by repeat (first | exact up_s | assumption | refine up_n (by first | assumption | decide | omega) ?_)) (by first | assumption | rfl | exact Nat.ble_eq_true_of_le (by omega)) rfl rfl ?_
  refine fr_h (A2 := U5 A) rfl ?_
  have h0 := U5_43 (A := A)
  have hsc := U5_sc hsc0
  refine fr_run (pc' := 65) 2 rfl ?_
  refine fr_newI (n := 10) rfl (by omega) (by omega) (by omega) (by omega) (by repeat' (first | exact trivial | exact scR (by omega) | refine ⟨?_, ?_⟩)) (by repeat' (first | exact trivial | exact scR (by omega) | refine ⟨?_, ?_⟩)) (by repeat (first | exact hsc | refine scA.push ?_ (by first | exact trivial | exact df_sc | (repeat' (first | exact trivial | exact scR (by omega) | refine ⟨?_, ?_⟩))) | refine scA.up ?_ (by first | exact trivial | exact df_sc | (repeat' (first | exact trivial | exact scR (by omega) | refine ⟨?_, ?_⟩))))) (fun a ha => ?_)
  have hx := hx.tr ha (by omega)
  refine gf_n ?_
  refine fr_putF rfl rfl rfl hin rfl (by repeat (first | exact up_s | assumption | refine up_n (by first | assumption | decide | omega) ?_)) (by first | assumption | rfl | exact Nat.ble_eq_true_of_le (by omega)) rfl rfl ?_
  refine fr_h (A2 := U6 A) rfl ?_
  have h0 := U6_43 (A := A)
  have hsc := U6_sc hsc0
  refine fr_run (pc' := 74) 2 rfl ?_
  refine fr_newL (n := 12544) rfl (by omega) (by omega) (by omega) (by omega) (by repeat' (first | exact trivial | exact scR (by omega) | refine ⟨?_, ?_⟩)) (by repeat' (first | exact trivial | exact scR (by omega) | refine ⟨?_, ?_⟩)) (by repeat (first | exact hsc | refine scA.push ?_ (by first | exact trivial | exact df_sc | (repeat' (first | exact trivial | exact scR (by omega) | refine ⟨?_, ?_⟩))) | refine scA.up ?_ (by first | exact trivial | exact df_sc | (repeat' (first | exact trivial | exact scR (by omega) | refine ⟨?_, ?_⟩))))) (fun a ha => ?_)
  have hx := hx.tr ha (by omega)
  refine gf_n ?_
  refine fr_putF rfl rfl rfl hin rfl (by repeat (first | exact up_s | assumption | refine up_n (by first | assumption | decide | omega) ?_)) (by first | assumption | rfl | exact Nat.ble_eq_true_of_le (by omega)) rfl rfl ?_
  refine fr_h (A2 := U7 A) rfl ?_
  have h0 := U7_43 (A := A)
  have hsc := U7_sc hsc0
  refine fr_run (pc' := 83) 2 rfl ?_
  refine fr_newI (n := 512) rfl (by omega) (by omega) (by omega) (by omega) (by repeat' (first | exact trivial | exact scR (by omega) | refine ⟨?_, ?_⟩)) (by repeat' (first | exact trivial | exact scR (by omega) | refine ⟨?_, ?_⟩)) (by repeat (first | exact hsc | refine scA.push ?_ (by first | exact trivial | exact df_sc | (repeat' (first | exact trivial | exact scR (by omega) | refine ⟨?_, ?_⟩))) | refine scA.up ?_ (by first | exact trivial | exact df_sc | (repeat' (first | exact trivial | exact scR (by omega) | refine ⟨?_, ?_⟩))))) (fun a ha => ?_)
  have hx := hx.tr ha (by omega)
  refine gf_n ?_
  refine fr_putF rfl rfl rfl hin rfl (by repeat (first | exact up_s | assumption | refine up_n (by first | assumption | decide | omega) ?_)) (by first | assumption | rfl | exact Nat.ble_eq_true_of_le (by omega)) rfl rfl ?_
  refine fr_h (A2 := U8 A) rfl ?_
  have h0 := U8_43 (A := A)
  have hsc := U8_sc hsc0
  refine fr_run (pc' := 91) 2 rfl ?_
  refine fr_newI (n := 100000) rfl (by omega) (by omega) (by omega) (by omega) (by repeat' (first | exact trivial | exact scR (by omega) | refine ⟨?_, ?_⟩)) (by repeat' (first | exact trivial | exact scR (by omega) | refine ⟨?_, ?_⟩)) (by repeat (first | exact hsc | refine scA.push ?_ (by first | exact trivial | exact df_sc | (repeat' (first | exact trivial | exact scR (by omega) | refine ⟨?_, ?_⟩))) | refine scA.up ?_ (by first | exact trivial | exact df_sc | (repeat' (first | exact trivial | exact scR (by omega) | refine ⟨?_, ?_⟩))))) (fun a ha => ?_)
  have hx := hx.tr ha (by omega)
  refine gf_n ?_
  refine fr_putF rfl rfl rfl hin rfl (by repeat (first | exact up_s | assumption | refine up_n (by first | assumption | decide | omega) ?_)) (by first | assumption | rfl | exact Nat.ble_eq_true_of_le (by omega)) rfl rfl ?_
  refine fr_h (A2 := U9 A) rfl ?_
  have h0 := U9_43 (A := A)
  have hsc := U9_sc hsc0
  refine fr_run (pc' := 99) 2 rfl ?_
  refine fr_newI (n := 100000) rfl (by omega) (by omega) (by omega) (by omega) (by repeat' (first | exact trivial | exact scR (by omega) | refine ⟨?_, ?_⟩)) (by repeat' (first | exact trivial | exact scR (by omega) | refine ⟨?_, ?_⟩)) (by repeat (first | exact hsc | refine scA.push ?_ (by first | exact trivial | exact df_sc | (repeat' (first | exact trivial | exact scR (by omega) | refine ⟨?_, ?_⟩))) | refine scA.up ?_ (by first | exact trivial | exact df_sc | (repeat' (first | exact trivial | exact scR (by omega) | refine ⟨?_, ?_⟩))))) (fun a ha => ?_)
  have hx := hx.tr ha (by omega)
  refine gf_n ?_
  refine fr_putF rfl rfl rfl hin rfl (by repeat (first | exact up_s | assumption | refine up_n (by first | assumption | decide | omega) ?_)) (by first | assumption | rfl | exact Nat.ble_eq_true_of_le (by omega)) rfl rfl ?_
  refine fr_h (A2 := U10 A) rfl ?_
  have h0 := U10_43 (A := A)
  have hsc := U10_sc hsc0
  refine fr_run (pc' := 108) 2 rfl ?_
  refine fr_newZ (n := 512) rfl (by omega) (by omega) (by omega) (by omega) (by repeat' (first | exact trivial | exact scR (by omega) | refine ⟨?_, ?_⟩)) (by repeat' (first | exact trivial | exact scR (by omega) | refine ⟨?_, ?_⟩)) (by repeat (first | exact hsc | refine scA.push ?_ (by first | exact trivial | exact df_sc | (repeat' (first | exact trivial | exact scR (by omega) | refine ⟨?_, ?_⟩))) | refine scA.up ?_ (by first | exact trivial | exact df_sc | (repeat' (first | exact trivial | exact scR (by omega) | refine ⟨?_, ?_⟩))))) (fun a ha => ?_)
  have hx := hx.tr ha (by omega)
  refine gf_n ?_
  refine fr_putF rfl rfl rfl hin rfl (by repeat (first | exact up_s | assumption | refine up_n (by first | assumption | decide | omega) ?_)) (by first | assumption | rfl | exact Nat.ble_eq_true_of_le (by omega)) rfl rfl ?_
  refine fr_h (A2 := U11 A) rfl ?_
  have h0 := U11_43 (A := A)
  have hsc := U11_sc hsc0
  refine fr_run (pc' := 117) 2 rfl ?_
  refine fr_newZ (n := 512) rfl (by omega) (by omega) (by omega) (by omega) (by repeat' (first | exact trivial | exact scR (by omega) | refine ⟨?_, ?_⟩)) (by repeat' (first | exact trivial | exact scR (by omega) | refine ⟨?_, ?_⟩)) (by repeat (first | exact hsc | refine scA.push ?_ (by first | exact trivial | exact df_sc | (repeat' (first | exact trivial | exact scR (by omega) | refine ⟨?_, ?_⟩))) | refine scA.up ?_ (by first | exact trivial | exact df_sc | (repeat' (first | exact trivial | exact scR (by omega) | refine ⟨?_, ?_⟩))))) (fun a ha => ?_)
  have hx := hx.tr ha (by omega)
  refine gf_n ?_
  refine fr_putF rfl rfl rfl hin rfl (by repeat (first | exact up_s | assumption | refine up_n (by first | assumption | decide | omega) ?_)) (by first | assumption | rfl | exact Nat.ble_eq_true_of_le (by omega)) rfl rfl ?_
  refine fr_h (A2 := U12 A) rfl ?_
  have h0 := U12_43 (A := A)
  have hsc := U12_sc hsc0
  have h45 := UF_45 (A := A)
  have h46 := UF_46 (A := A)
  refine fr_run (pc' := 123) 1 rfl ?_
  refine fr_getf rfl rfl (by repeat (first | exact up_s | assumption | refine up_n (by first | assumption | decide | omega) ?_)) (by first | assumption | rfl | exact Nat.ble_eq_true_of_le (by omega)) rfl ?_
  refine fr_run (pc' := 128) 2 rfl ?_
  refine fr_iast rfl (by repeat (first | exact up_s | assumption | refine up_n (by first | assumption | decide | omega) ?_)) (by first | assumption | rfl | exact Nat.ble_eq_true_of_le (by omega)) (ix_i (j := 0) rfl (by omega) (by decide)) ?_
  refine fr_run (pc' := 130) 1 rfl ?_
  refine fr_getf rfl rfl (by repeat (first | exact up_s | assumption | refine up_n (by first | assumption | decide | omega) ?_)) (by first | assumption | rfl | exact Nat.ble_eq_true_of_le (by omega)) rfl ?_
  refine fr_run (pc' := 135) 2 rfl ?_
  refine fr_iast rfl (by repeat (first | exact up_s | assumption | refine up_n (by first | assumption | decide | omega) ?_)) (by first | assumption | rfl | exact Nat.ble_eq_true_of_le (by omega)) (ix_i (j := 1) rfl (by omega) (by decide)) ?_
  rw [bx_uu]
  refine fr_run (pc' := 137) 1 rfl ?_
  refine fr_getf rfl rfl (by repeat (first | exact up_s | assumption | refine up_n (by first | assumption | decide | omega) ?_)) (by first | assumption | rfl | exact Nat.ble_eq_true_of_le (by omega)) rfl ?_
  refine fr_run (pc' := 142) 2 rfl ?_
  refine fr_iast rfl (by repeat (first | exact up_s | assumption | refine up_n (by first | assumption | decide | omega) ?_)) (by first | assumption | rfl | exact Nat.ble_eq_true_of_le (by omega)) (ix_i (j := 2) rfl (by omega) (by decide)) ?_
  rw [bx_uu]
  refine fr_h (A2 := va_up (U12 A) 45 (Ia 10 f531)) rfl ?_
  refine fr_run (pc' := 147) 4 rfl ?_
  refine fr_icF (t := 168) rfl (by decide) (by omega) (by omega) (cN_ge (by omega)) ?_
  refine fr_run (pc' := 151) 1 rfl ?_
  refine fr_getf rfl rfl (by repeat (first | exact up_s | assumption | refine up_n (by first | assumption | decide | omega) ?_)) (by first | assumption | rfl | exact Nat.ble_eq_true_of_le (by omega)) rfl ?_
  refine fr_run (pc' := 156) 2 rfl ?_
  refine fr_getf rfl rfl (by repeat (first | exact up_s | assumption | refine up_n (by first | assumption | decide | omega) ?_)) (by first | assumption | rfl | exact Nat.ble_eq_true_of_le (by omega)) rfl ?_
  refine fr_run (pc' := 160) 1 rfl ?_
  refine fr_iald rfl (by repeat (first | exact up_s | assumption | refine up_n (by first | assumption | decide | omega) ?_)) (by first | assumption | rfl | exact Nat.ble_eq_true_of_le (by omega)) (ix_i (j := 0) rfl (by omega) (by decide)) ?_
  refine fr_iast rfl (by repeat (first | exact up_s | assumption | refine up_n (by first | assumption | decide | omega) ?_)) (by first | assumption | rfl | exact Nat.ble_eq_true_of_le (by omega)) (ix_i (j := 0) rfl (by omega) (by decide)) ?_
  refine fr_iinc rfl rfl rfl rfl ?_
  refine fr_run (pc' := 145) 1 rfl ?_
  refine fr_run (pc' := 147) 2 rfl ?_
  refine fr_icF (t := 168) rfl (by decide) (by omega) (by omega) (cN_ge (by omega)) ?_
  refine fr_run (pc' := 151) 1 rfl ?_
  refine fr_getf rfl rfl (by repeat (first | exact up_s | assumption | refine up_n (by first | assumption | decide | omega) ?_)) (by first | assumption | rfl | exact Nat.ble_eq_true_of_le (by omega)) rfl ?_
  refine fr_run (pc' := 156) 2 rfl ?_
  refine fr_getf rfl rfl (by repeat (first | exact up_s | assumption | refine up_n (by first | assumption | decide | omega) ?_)) (by first | assumption | rfl | exact Nat.ble_eq_true_of_le (by omega)) rfl ?_
  refine fr_run (pc' := 160) 1 rfl ?_
  refine fr_iald rfl (by repeat (first | exact up_s | assumption | refine up_n (by first | assumption | decide | omega) ?_)) (by first | assumption | rfl | exact Nat.ble_eq_true_of_le (by omega)) (ix_i (j := 1) rfl (by omega) (by decide)) ?_
  refine fr_iast rfl (by repeat (first | exact up_s | assumption | refine up_n (by first | assumption | decide | omega) ?_)) (by first | assumption | rfl | exact Nat.ble_eq_true_of_le (by omega)) (ix_i (j := 1) rfl (by omega) (by decide)) ?_
  rw [bx_uu]
  refine fr_iinc rfl rfl rfl rfl ?_
  refine fr_run (pc' := 145) 1 rfl ?_
  refine fr_run (pc' := 147) 2 rfl ?_
  refine fr_icF (t := 168) rfl (by decide) (by omega) (by omega) (cN_ge (by omega)) ?_
  refine fr_run (pc' := 151) 1 rfl ?_
  refine fr_getf rfl rfl (by repeat (first | exact up_s | assumption | refine up_n (by first | assumption | decide | omega) ?_)) (by first | assumption | rfl | exact Nat.ble_eq_true_of_le (by omega)) rfl ?_
  refine fr_run (pc' := 156) 2 rfl ?_
  refine fr_getf rfl rfl (by repeat (first | exact up_s | assumption | refine up_n (by first | assumption | decide | omega) ?_)) (by first | assumption | rfl | exact Nat.ble_eq_true_of_le (by omega)) rfl ?_
  refine fr_run (pc' := 160) 1 rfl ?_
  refine fr_iald rfl (by repeat (first | exact up_s | assumption | refine up_n (by first | assumption | decide | omega) ?_)) (by first | assumption | rfl | exact Nat.ble_eq_true_of_le (by omega)) (ix_i (j := 2) rfl (by omega) (by decide)) ?_
  refine fr_iast rfl (by repeat (first | exact up_s | assumption | refine up_n (by first | assumption | decide | omega) ?_)) (by first | assumption | rfl | exact Nat.ble_eq_true_of_le (by omega)) (ix_i (j := 2) rfl (by omega) (by decide)) ?_
  rw [bx_uu]
  refine fr_iinc rfl rfl rfl rfl ?_
  refine fr_run (pc' := 145) 1 rfl ?_
  refine fr_run (pc' := 147) 2 rfl ?_
  refine fr_icT (t := 168) rfl (by decide) (by omega) (by omega) (cI_ge (by omega)) ?_
  exact E _ _ _ _ _ hx (by omega) (by omega) rfl
end CW
