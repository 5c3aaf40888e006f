/-! constructors: Text, Pattern, Census, Passage, Swaps -/
theorem exA.rf' {G : GC} {k : Nat} : exA G k (gA G) := fun _ _ => rfl
def f531 : Nat → Int32 := upd (upd (upd (fun _ => iI 0) 0 (iI 5)) 1 (iI 3)) 2 (iI 1)
section CT
variable {d k h : Nat} {A : AH}
theorem c_X5 (hA : A h = Ob 5 [.null, .int (iI 0)]) (hh : h < k) (hk : k < 900) (hsc : scA k A) : RtC mX5_init (d + 1) 1 40 [.ref h] k A (k + 1) (va_up (va_up A k (Ia 40 (fun _ => iI 0))) h (Ob 5 [.ref k, .int (iI 0)])) := by
  refine rtc_intro kX5_init rfl rfl rfl rfl (fun X G hin hAO hRc hRs E => ?_)
  have hx : exA G k (gA G) := exA.rf
  have hne : h ≠ k := by omega
  refine fr_run (pc' := 1) 1 rfl ?_
  refine fr_obj rfl wo_5 rfl ?_
  refine fr_run (pc' := 7) 2 rfl ?_
  refine fr_newI (n := 40) rfl (by omega) (by omega) (by omega) (by omega) (by repeat' (first | exact trivial | exact scR (by omega) | refine ⟨?_, ?_⟩)) (by repeat' (first | exact trivial | exact scR (by omega) | refine ⟨?_, ?_⟩)) (by repeat (first | exact hsc | refine scA.push ?_ (by first | exact trivial | exact df_sc | (repeat' (first | exact trivial | exact scR (by omega) | refine ⟨?_, ?_⟩))) | refine scA.up ?_ (by first | exact trivial | exact df_sc | (repeat' (first | exact trivial | exact scR (by omega) | refine ⟨?_, ?_⟩))))) (fun a ha => ?_)
  have hx := hx.tr ha (by omega)
  refine fr_putF rfl rfl rfl hin rfl (by repeat (first | exact up_s | assumption | refine up_n (by first | assumption | decide | omega) ?_)) (by first | assumption | rfl | exact Nat.ble_eq_true_of_le (by omega)) rfl rfl ?_
  refine fr_run (pc' := 14) 2 rfl ?_
  refine fr_putf rfl rfl rfl (by repeat (first | exact up_s | assumption | refine up_n (by first | assumption | decide | omega) ?_)) (by first | assumption | rfl | exact Nat.ble_eq_true_of_le (by omega)) rfl rfl ?_
  rw [bx_uu]
  exact E _ _ _ _ _ hx (by omega) (by omega) rfl
theorem c_X2 (hA : A h = Ob 2 [.null, .int (iI 0)]) (hh : h < k) (hk : k < 900) (hsc : scA k A) : RtC mX2_init (d + 1) 1 10 [.ref h] k A (k + 1) (va_up (va_up A h (Ob 2 [.ref k, .int (iI 3)])) k (Ia 10 f531)) := by
  refine rtc_intro kX2_init rfl rfl rfl rfl (fun X G hin hAO hRc hRs E => ?_)
  have hx : exA G k (gA G) := exA.rf
  have hne : h ≠ k := by omega
  have hne2 : k ≠ h := by omega
  refine fr_run (pc' := 1) 1 rfl ?_
  refine fr_obj rfl wo_2 rfl ?_
  refine fr_run (pc' := 7) 2 rfl ?_
  refine fr_newI (n := 10) rfl (by omega) (by omega) (by omega) (by omega) (by repeat' (first | exact trivial | exact scR (by omega) | refine ⟨?_, ?_⟩)) (by repeat' (first | exact trivial | exact scR (by omega) | refine ⟨?_, ?_⟩)) (by repeat (first | exact hsc | refine scA.push ?_ (by first | exact trivial | exact df_sc | (repeat' (first | exact trivial | exact scR (by omega) | refine ⟨?_, ?_⟩))) | refine scA.up ?_ (by first | exact trivial | exact df_sc | (repeat' (first | exact trivial | exact scR (by omega) | refine ⟨?_, ?_⟩))))) (fun a ha => ?_)
  have hx := hx.tr ha (by omega)
  refine fr_putF rfl rfl rfl hin rfl (by repeat (first | exact up_s | assumption | refine up_n (by first | assumption | decide | omega) ?_)) (by first | assumption | rfl | exact Nat.ble_eq_true_of_le (by omega)) rfl rfl ?_
  refine fr_run (pc' := 14) 2 rfl ?_
  refine fr_putf rfl rfl rfl (by repeat (first | exact up_s | assumption | refine up_n (by first | assumption | decide | omega) ?_)) (by first | assumption | rfl | exact Nat.ble_eq_true_of_le (by omega)) rfl rfl ?_
  rw [bx_uu, up_cm hne2]
  refine fr_run (pc' := 18) 1 rfl ?_
  refine fr_getf rfl rfl (by repeat (first | exact up_s | assumption | refine up_n (by first | assumption | decide | omega) ?_)) (by first | assumption | rfl | exact Nat.ble_eq_true_of_le (by omega)) rfl ?_
  refine fr_run (pc' := 23) 2 rfl ?_
  refine fr_iast rfl (by repeat (first | exact up_s | assumption | refine up_n (by first | assumption | decide | omega) ?_)) (by first | assumption | rfl | exact Nat.ble_eq_true_of_le (by omega)) (ix_i (j := 0) rfl (by omega) (by decide)) ?_
  rw [bx_uu]
  refine fr_run (pc' := 25) 1 rfl ?_
  refine fr_getf rfl rfl (by repeat (first | exact up_s | assumption | refine up_n (by first | assumption | decide | omega) ?_)) (by first | assumption | rfl | exact Nat.ble_eq_true_of_le (by omega)) rfl ?_
  refine fr_run (pc' := 30) 2 rfl ?_
  refine fr_iast rfl (by repeat (first | exact up_s | assumption | refine up_n (by first | assumption | decide | omega) ?_)) (by first | assumption | rfl | exact Nat.ble_eq_true_of_le (by omega)) (ix_i (j := 1) rfl (by omega) (by decide)) ?_
  rw [bx_uu]
  refine fr_run (pc' := 32) 1 rfl ?_
  refine fr_getf rfl rfl (by repeat (first | exact up_s | assumption | refine up_n (by first | assumption | decide | omega) ?_)) (by first | assumption | rfl | exact Nat.ble_eq_true_of_le (by omega)) rfl ?_
  refine fr_run (pc' := 37) 2 rfl ?_
  refine fr_iast rfl (by repeat (first | exact up_s | assumption | refine up_n (by first | assumption | decide | omega) ?_)) (by first | assumption | rfl | exact Nat.ble_eq_true_of_le (by omega)) (ix_i (j := 2) rfl (by omega) (by decide)) ?_
  rw [bx_uu]
  exact E _ _ _ _ _ hx (by omega) (by omega) rfl
end CT
