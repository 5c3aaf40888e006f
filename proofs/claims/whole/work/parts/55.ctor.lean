/-! constructors: Text, Pattern, Census, Passage, Swaps -/
theorem gf_n {X : CT} {G : GC} {kk cl sl : Nat} {M : MI} {d pc : Nat} {L : LV} {S : List Value} {A : AH} {a b : Nat → Nat} (k : Gf X (gS G a) kk cl sl M d pc L S A) : Gf X (gS (gS G b) a) kk cl sl M d pc L S A := k
theorem gf_0 {X : CT} {G : GC} {kk cl sl : Nat} {M : MI} {d pc : Nat} {L : LV} {S : List Value} {A : AH} (k : Gf X (gS G (gA G)) kk cl sl M d pc L S A) : Gf X G kk cl sl M d pc L S A := k
def f531 : Nat → Int32 := upd (upd (upd (fun _ => iI 0) 0 (iI 5)) 1 (iI 3)) 2 (iI 1)
section CT
variable {d k h : Nat} {A : AH}
theorem c_X5 (hA : A h = Ob 5 [.null, .int (iI 0)]) (hh : h < k) (hk : k < 900) (hsc : scA k A) : RtC mX5_init (d + 1) 1 40 [.ref h] k A (k + 1) (va_up (va_up A k (Ia 40 (fun _ => iI 0))) h (Ob 5 [.ref k, .int (iI 0)])) := by
  refine rtc_intro kX5_init rfl rfl rfl rfl (fun X G hin hAO hRc hRs E => ?_)
  have hx : exA G k (gA G) := exA.rf
  refine gf_0 ?_
  have hne : h ≠ k := by omega
  refine fr_run (pc' := 1) 1 rfl ?_
  refine fr_obj rfl wo_5 rfl ?_
  refine fr_run (pc' := 7) 2 rfl ?_
  refine fr_newI (n := 40) rfl (by omega) (by omega) (by omega) (by omega) (by repeat' (first | exact trivial | exact scR (by omega) | refine ⟨?_, ?_⟩)) (by repeat' (first | exact trivial | exact scR (by omega) | refine ⟨?_, ?_⟩)) (by repeat (first | exact hsc | refine scA.push ?_ (by first | exact trivial | exact df_sc | (repeat' (first | exact trivial | exact scR (by omega) | refine ⟨?_, ?_⟩))) | refine scA.up ?_ (by first | exact trivial | exact df_sc | (repeat' (first | exact trivial | exact scR (by omega) | refine ⟨?_, ?_⟩))))) (fun a ha => ?_)
  have hx := hx.tr ha (by omega)
  refine gf_n ?_
  refine fr_putF rfl rfl rfl hin rfl (by repeat (first | exact up_s | assumption | refine up_n (by first | assumption | decide | omega) ?_)) (by first | assumption | rfl | exact Nat.ble_eq_true_of_le (by omega)) rfl rfl ?_
  refine fr_run (pc' := 14) 2 rfl ?_
  refine fr_putf rfl rfl rfl (by repeat (first | exact up_s | assumption | refine up_n (by first | assumption | decide | omega) ?_)) (by first | assumption | rfl | exact Nat.ble_eq_true_of_le (by omega)) rfl rfl ?_
  rw [bx_uu]
  exact E _ _ _ _ _ hx (by omega) (by omega) rfl
theorem c_X2 (hA : A h = Ob 2 [.null, .int (iI 0)]) (hh : h < k) (hk : k < 900) (hsc : scA k A) : RtC mX2_init (d + 1) 1 10 [.ref h] k A (k + 1) (va_up (va_up A k (Ia 10 f531)) h (Ob 2 [.ref k, .int (iI 3)])) := by
  refine rtc_intro kX2_init rfl rfl rfl rfl (fun X G hin hAO hRc hRs E => ?_)
  have hx : exA G k (gA G) := exA.rf
  refine gf_0 ?_
  have hne : h ≠ k := by omega
  have hne2 : k ≠ h := by omega
  refine fr_run (pc' := 1) 1 rfl ?_
  refine fr_obj rfl wo_2 rfl ?_
  refine fr_run (pc' := 7) 2 rfl ?_
  refine fr_newI (n := 10) rfl (by omega) (by omega) (by omega) (by omega) (by repeat' (first | exact trivial | exact scR (by omega) | refine ⟨?_, ?_⟩)) (by repeat' (first | exact trivial | exact scR (by omega) | refine ⟨?_, ?_⟩)) (by repeat (first | exact hsc | refine scA.push ?_ (by first | exact trivial | exact df_sc | (repeat' (first | exact trivial | exact scR (by omega) | refine ⟨?_, ?_⟩))) | refine scA.up ?_ (by first | exact trivial | exact df_sc | (repeat' (first | exact trivial | exact scR (by omega) | refine ⟨?_, ?_⟩))))) (fun a ha => ?_)
  have hx := hx.tr ha (by omega)
  refine gf_n ?_
  refine fr_putF rfl rfl rfl hin rfl (by repeat (first | exact up_s | assumption | refine up_n (by first | assumption | decide | omega) ?_)) (by first | assumption | rfl | exact Nat.ble_eq_true_of_le (by omega)) rfl rfl ?_
  refine fr_run (pc' := 14) 2 rfl ?_
  refine fr_putf rfl rfl rfl (by repeat (first | exact up_s | assumption | refine up_n (by first | assumption | decide | omega) ?_)) (by first | assumption | rfl | exact Nat.ble_eq_true_of_le (by omega)) rfl rfl ?_
  rw [bx_uu, up_cm hne2]
  refine fr_run (pc' := 18) 1 rfl ?_
  refine fr_getf rfl rfl (by repeat (first | exact up_s | assumption | refine up_n (by first | assumption | decide | omega) ?_)) (by first | assumption | rfl | exact Nat.ble_eq_true_of_le (by omega)) rfl ?_
  refine fr_run (pc' := 23) 2 rfl ?_
  refine fr_iast rfl (by repeat (first | exact up_s | assumption | refine up_n (by first | assumption | decide | omega) ?_)) (by first | assumption | rfl | exact Nat.ble_eq_true_of_le (by omega)) (ix_i (j := 0) rfl (by omega) (by decide)) ?_
  rw [bx_uu]
  refine fr_run (pc' := 25) 1 rfl ?_
  refine fr_getf rfl rfl (by repeat (first | exact up_s | assumption | refine up_n (by first | assumption | decide | omega) ?_)) (by first | assumption | rfl | exact Nat.ble_eq_true_of_le (by omega)) rfl ?_
  refine fr_run (pc' := 30) 2 rfl ?_
  refine fr_iast rfl (by repeat (first | exact up_s | assumption | refine up_n (by first | assumption | decide | omega) ?_)) (by first | assumption | rfl | exact Nat.ble_eq_true_of_le (by omega)) (ix_i (j := 1) rfl (by omega) (by decide)) ?_
  rw [bx_uu]
  refine fr_run (pc' := 32) 1 rfl ?_
  refine fr_getf rfl rfl (by repeat (first | exact up_s | assumption | refine up_n (by first | assumption | decide | omega) ?_)) (by first | assumption | rfl | exact Nat.ble_eq_true_of_le (by omega)) rfl ?_
  refine fr_run (pc' := 37) 2 rfl ?_
  refine fr_iast rfl (by repeat (first | exact up_s | assumption | refine up_n (by first | assumption | decide | omega) ?_)) (by first | assumption | rfl | exact Nat.ble_eq_true_of_le (by omega)) (ix_i (j := 2) rfl (by omega) (by decide)) ?_
  rw [bx_uu, up_cm hne]
  exact E _ _ _ _ _ hx (by omega) (by omega) rfl
theorem c_X0 (hA : A h = Ob 0 [.null, .int (iI 0), .int (iI 0)]) (hh : h < k) (hk : k < 900) (hsc : scA k A) : RtC mX0_init (d + 1) 1 1792 [.ref h] k A (k + 1) (va_up (va_up A k (Ia 1792 (fun _ => iI 0))) h (Ob 0 [.ref k, .int (iI 0), .int (iI 0)])) := by
  refine rtc_intro kX0_init rfl rfl rfl rfl (fun X G hin hAO hRc hRs E => ?_)
  have hx : exA G k (gA G) := exA.rf
  refine gf_0 ?_
  have hne : h ≠ k := by omega
  refine fr_run (pc' := 1) 1 rfl ?_
  refine fr_obj rfl wo_0 rfl ?_
  refine fr_run (pc' := 8) 2 rfl ?_
  refine fr_newI (n := 1792) rfl (by omega) (by omega) (by omega) (by omega) (by repeat' (first | exact trivial | exact scR (by omega) | refine ⟨?_, ?_⟩)) (by repeat' (first | exact trivial | exact scR (by omega) | refine ⟨?_, ?_⟩)) (by repeat (first | exact hsc | refine scA.push ?_ (by first | exact trivial | exact df_sc | (repeat' (first | exact trivial | exact scR (by omega) | refine ⟨?_, ?_⟩))) | refine scA.up ?_ (by first | exact trivial | exact df_sc | (repeat' (first | exact trivial | exact scR (by omega) | refine ⟨?_, ?_⟩))))) (fun a ha => ?_)
  have hx := hx.tr ha (by omega)
  refine gf_n ?_
  refine fr_putF rfl rfl rfl hin rfl (by repeat (first | exact up_s | assumption | refine up_n (by first | assumption | decide | omega) ?_)) (by first | assumption | rfl | exact Nat.ble_eq_true_of_le (by omega)) rfl rfl ?_
  refine fr_run (pc' := 15) 2 rfl ?_
  refine fr_putf rfl rfl rfl (by repeat (first | exact up_s | assumption | refine up_n (by first | assumption | decide | omega) ?_)) (by first | assumption | rfl | exact Nat.ble_eq_true_of_le (by omega)) rfl rfl ?_
  rw [bx_uu]
  refine fr_run (pc' := 20) 2 rfl ?_
  refine fr_putf rfl rfl rfl (by repeat (first | exact up_s | assumption | refine up_n (by first | assumption | decide | omega) ?_)) (by first | assumption | rfl | exact Nat.ble_eq_true_of_le (by omega)) rfl rfl ?_
  rw [bx_uu]
  exact E _ _ _ _ _ hx (by omega) (by omega) rfl
theorem c_X1 (hA : A h = Ob 1 [.null, .null, .int (iI 0), .null]) (hh : h < k) (hk : k < 900) (hsc : scA k A) : RtC mX1_init (d + 1) 3 1536 [.ref h] k A (k + 3) (va_up (va_up (va_up (va_up A k (Ia 512 (fun _ => iI 0))) (k + 1) (Ia 512 (fun _ => iI 0))) (k + 2) (Ia 512 (fun _ => iI 0))) h (Ob 1 [.ref k, .ref (k + 1), .int (iI 0), .ref (k + 2)])) := by
  refine rtc_intro kX1_init rfl rfl rfl rfl (fun X G hin hAO hRc hRs E => ?_)
  have hx : exA G k (gA G) := exA.rf
  refine gf_0 ?_
  have hne : h ≠ k := by omega
  have hne1 : h ≠ k + 1 := by omega
  have hne2 : h ≠ k + 1 + 1 := by omega
  refine fr_run (pc' := 1) 1 rfl ?_
  refine fr_obj rfl wo_1 rfl ?_
  refine fr_run (pc' := 8) 2 rfl ?_
  refine fr_newI (n := 512) rfl (by omega) (by omega) (by omega) (by omega) (by repeat' (first | exact trivial | exact scR (by omega) | refine ⟨?_, ?_⟩)) (by repeat' (first | exact trivial | exact scR (by omega) | refine ⟨?_, ?_⟩)) (by repeat (first | exact hsc | refine scA.push ?_ (by first | exact trivial | exact df_sc | (repeat' (first | exact trivial | exact scR (by omega) | refine ⟨?_, ?_⟩))) | refine scA.up ?_ (by first | exact trivial | exact df_sc | (repeat' (first | exact trivial | exact scR (by omega) | refine ⟨?_, ?_⟩))))) (fun a ha => ?_)
  have hx := hx.tr ha (by omega)
  refine gf_n ?_
  refine fr_putF rfl rfl rfl hin rfl (by repeat (first | exact up_s | assumption | refine up_n (by first | assumption | decide | omega) ?_)) (by first | assumption | rfl | exact Nat.ble_eq_true_of_le (by omega)) rfl rfl ?_
  refine fr_run (pc' := 17) 2 rfl ?_
  refine fr_newI (n := 512) rfl (by omega) (by omega) (by omega) (by omega) (by repeat' (first | exact trivial | exact scR (by omega) | refine ⟨?_, ?_⟩)) (by repeat' (first | exact trivial | exact scR (by omega) | refine ⟨?_, ?_⟩)) (by repeat (first | exact hsc | refine scA.push ?_ (by first | exact trivial | exact df_sc | (repeat' (first | exact trivial | exact scR (by omega) | refine ⟨?_, ?_⟩))) | refine scA.up ?_ (by first | exact trivial | exact df_sc | (repeat' (first | exact trivial | exact scR (by omega) | refine ⟨?_, ?_⟩))))) (fun a ha => ?_)
  have hx := hx.tr ha (by omega)
  refine gf_n ?_
  rw [up_cm hne1]
  refine fr_putF rfl rfl rfl hin rfl (by repeat (first | exact up_s | assumption | refine up_n (by first | assumption | decide | omega) ?_)) (by first | assumption | rfl | exact Nat.ble_eq_true_of_le (by omega)) rfl rfl ?_
  rw [bx_uu]
  refine fr_run (pc' := 24) 2 rfl ?_
  refine fr_putf rfl rfl rfl (by repeat (first | exact up_s | assumption | refine up_n (by first | assumption | decide | omega) ?_)) (by first | assumption | rfl | exact Nat.ble_eq_true_of_le (by omega)) rfl rfl ?_
  rw [bx_uu]
  refine fr_run (pc' := 31) 2 rfl ?_
  refine fr_newI (n := 512) rfl (by omega) (by omega) (by omega) (by omega) (by repeat' (first | exact trivial | exact scR (by omega) | refine ⟨?_, ?_⟩)) (by repeat' (first | exact trivial | exact scR (by omega) | refine ⟨?_, ?_⟩)) (by repeat (first | exact hsc | refine scA.push ?_ (by first | exact trivial | exact df_sc | (repeat' (first | exact trivial | exact scR (by omega) | refine ⟨?_, ?_⟩))) | refine scA.up ?_ (by first | exact trivial | exact df_sc | (repeat' (first | exact trivial | exact scR (by omega) | refine ⟨?_, ?_⟩))))) (fun a ha => ?_)
  have hx := hx.tr ha (by omega)
  refine gf_n ?_
  rw [up_cm hne2]
  refine fr_putF rfl rfl rfl hin rfl (by repeat (first | exact up_s | assumption | refine up_n (by first | assumption | decide | omega) ?_)) (by first | assumption | rfl | exact Nat.ble_eq_true_of_le (by omega)) rfl rfl ?_
  rw [bx_uu]
  exact E _ _ _ _ _ hx (by omega) (by omega) rfl
theorem c_X4 (hA : A h = Ob 4 [.null, .null, .null, .int (iI 0)]) (hh : h < k) (hk : k < 900) (hsc : scA k A) : RtC mX4_init (d + 1) 3 1803 [.ref h] k A (k + 3) (va_up (va_up (va_up (va_up A k (Ia 120 (fun _ => iI 0))) (k + 1) (Ia 120 (fun _ => iI 0))) (k + 2) (La 1563 (fun _ => 0))) h (Ob 4 [.ref k, .ref (k + 1), .ref (k + 2), .int (iI 0)])) := by
  refine rtc_intro kX4_init rfl rfl rfl rfl (fun X G hin hAO hRc hRs E => ?_)
  have hx : exA G k (gA G) := exA.rf
  refine gf_0 ?_
  have hne : h ≠ k := by omega
  have hne1 : h ≠ k + 1 := by omega
  have hne2 : h ≠ k + 1 + 1 := by omega
  refine fr_run (pc' := 1) 1 rfl ?_
  refine fr_obj rfl wo_4 rfl ?_
  refine fr_run (pc' := 7) 2 rfl ?_
  refine fr_newI (n := 120) rfl (by omega) (by omega) (by omega) (by omega) (by repeat' (first | exact trivial | exact scR (by omega) | refine ⟨?_, ?_⟩)) (by repeat' (first | exact trivial | exact scR (by omega) | refine ⟨?_, ?_⟩)) (by repeat (first | exact hsc | refine scA.push ?_ (by first | exact trivial | exact df_sc | (repeat' (first | exact trivial | exact scR (by omega) | refine ⟨?_, ?_⟩))) | refine scA.up ?_ (by first | exact trivial | exact df_sc | (repeat' (first | exact trivial | exact scR (by omega) | refine ⟨?_, ?_⟩))))) (fun a ha => ?_)
  have hx := hx.tr ha (by omega)
  refine gf_n ?_
  refine fr_putF rfl rfl rfl hin rfl (by repeat (first | exact up_s | assumption | refine up_n (by first | assumption | decide | omega) ?_)) (by first | assumption | rfl | exact Nat.ble_eq_true_of_le (by omega)) rfl rfl ?_
  refine fr_run (pc' := 15) 2 rfl ?_
  refine fr_newI (n := 120) rfl (by omega) (by omega) (by omega) (by omega) (by repeat' (first | exact trivial | exact scR (by omega) | refine ⟨?_, ?_⟩)) (by repeat' (first | exact trivial | exact scR (by omega) | refine ⟨?_, ?_⟩)) (by repeat (first | exact hsc | refine scA.push ?_ (by first | exact trivial | exact df_sc | (repeat' (first | exact trivial | exact scR (by omega) | refine ⟨?_, ?_⟩))) | refine scA.up ?_ (by first | exact trivial | exact df_sc | (repeat' (first | exact trivial | exact scR (by omega) | refine ⟨?_, ?_⟩))))) (fun a ha => ?_)
  have hx := hx.tr ha (by omega)
  refine gf_n ?_
  rw [up_cm hne1]
  refine fr_putF rfl rfl rfl hin rfl (by repeat (first | exact up_s | assumption | refine up_n (by first | assumption | decide | omega) ?_)) (by first | assumption | rfl | exact Nat.ble_eq_true_of_le (by omega)) rfl rfl ?_
  rw [bx_uu]
  refine fr_run (pc' := 24) 2 rfl ?_
  refine fr_newL (n := 1563) rfl (by omega) (by omega) (by omega) (by omega) (by repeat' (first | exact trivial | exact scR (by omega) | refine ⟨?_, ?_⟩)) (by repeat' (first | exact trivial | exact scR (by omega) | refine ⟨?_, ?_⟩)) (by repeat (first | exact hsc | refine scA.push ?_ (by first | exact trivial | exact df_sc | (repeat' (first | exact trivial | exact scR (by omega) | refine ⟨?_, ?_⟩))) | refine scA.up ?_ (by first | exact trivial | exact df_sc | (repeat' (first | exact trivial | exact scR (by omega) | refine ⟨?_, ?_⟩))))) (fun a ha => ?_)
  have hx := hx.tr ha (by omega)
  refine gf_n ?_
  rw [up_cm hne2]
  refine fr_putF rfl rfl rfl hin rfl (by repeat (first | exact up_s | assumption | refine up_n (by first | assumption | decide | omega) ?_)) (by first | assumption | rfl | exact Nat.ble_eq_true_of_le (by omega)) rfl rfl ?_
  rw [bx_uu]
  refine fr_run (pc' := 31) 2 rfl ?_
  refine fr_putf rfl rfl rfl (by repeat (first | exact up_s | assumption | refine up_n (by first | assumption | decide | omega) ?_)) (by first | assumption | rfl | exact Nat.ble_eq_true_of_le (by omega)) rfl rfl ?_
  rw [bx_uu]
  exact E _ _ _ _ _ hx (by omega) (by omega) rfl
end CT
/-! Shelf -/
def shB (A : AH) (h k sz i : Nat) : AH := fun j =>
  if k + 1 ≤ j ∧ j < k + 1 + 2 * i then (if (j - (k + 1)) % 2 = 0 then Ob 2 [.ref (j + 1), .int (iI 3)] else Ia 10 f531)
  else if j = k then Ra sz (fun x => if x < i then some (k + 1 + 2 * x) else none)
  else if j = h then Ob 3 [.ref k, .int (iI 0), .int (iI 0)] else A j
theorem shB_sc {A : AH} {h k sz i : Nat} (hsc : scA k A) (hh : h < k) : scA (k + 1 + 2 * i) (shB A h k sz i) := by
  intro j hj
  unfold shB
  by_cases c1 : k + 1 ≤ j ∧ j < k + 1 + 2 * i
  · rw [if_pos c1]
    by_cases c2 : (j - (k + 1)) % 2 = 0
    · rw [if_pos c2]; exact ⟨scR (by omega), trivial, trivial⟩
    · rw [if_neg c2]; exact trivial
  · rw [if_neg c1]
    by_cases c2 : j = k
    · rw [if_pos c2]
      intro x r e
      have e' : (if x < i then some (k + 1 + 2 * x) else none) = some r := e
      by_cases cx : x < i
      · rw [if_pos cx] at e'
        have := Option.some.inj e'
        omega
      · rw [if_neg cx] at e'; cases e'
    · rw [if_neg c2]
      by_cases c3 : j = h
      · rw [if_pos c3]; exact ⟨scR (by omega), trivial, trivial, trivial⟩
      · rw [if_neg c3]; exact (hsc j (by omega)).m (by omega)
theorem shB_0 {A : AH} {h k sz : Nat} (hh : h < k) : va_up (va_up A k (Ra sz (fun _ => none))) h (Ob 3 [.ref k, .int (iI 0), .int (iI 0)]) = shB A h k sz 0 := by
  funext j
  unfold shB va_up
  rw [if_neg (show ¬ (k + 1 ≤ j ∧ j < k + 1 + 2 * 0) by omega)]
  by_cases c3 : j = h
  · rw [if_pos c3, if_neg (by omega), if_pos c3]
  · rw [if_neg c3]
    by_cases c2 : j = k
    · rw [if_pos c2, if_pos c2]
      exact congrArg (Ra sz) (funext fun x => (if_neg (by omega)).symm)
    · rw [if_neg c2, if_neg c2, if_neg c3]
theorem shB_s {A : AH} {h k sz i : Nat} (hh : h < k) : va_up (va_up (va_up (va_up (shB A h k sz i) (k + 1 + 2 * i) (Ob 2 (dfF 2))) (k + 1 + 2 * i + 1) (Ia 10 f531)) (k + 1 + 2 * i) (Ob 2 [.ref (k + 1 + 2 * i + 1), .int (iI 3)])) k (Ra sz (va_up (fun x => if x < i then some (k + 1 + 2 * x) else none) i (some (k + 1 + 2 * i)))) = shB A h k sz (i + 1) := by
  rw [up_cm (show k + 1 + 2 * i + 1 ≠ k + 1 + 2 * i by omega), bx_uu]
  funext j
  by_cases c2 : j = k
  · subst c2
    rw [up_s]
    unfold shB
    rw [if_neg (by omega), if_pos rfl]
    refine congrArg (Ra sz) (funext fun x => ?_)
    unfold va_up
    by_cases c : x = i
    · rw [if_pos c, if_pos (by omega), c]
    · rw [if_neg c]
      by_cases cx : x < i
      · exact (if_pos cx).trans (if_pos (by omega)).symm
      · exact (if_neg cx).trans (if_neg (by omega)).symm
  · rw [up_o c2]
    by_cases c1 : j = k + 1 + 2 * i + 1
    · subst c1
      rw [up_s]
      unfold shB
      rw [if_pos (by omega), if_neg (by omega)]
    · rw [up_o c1]
      by_cases c0 : j = k + 1 + 2 * i
      · subst c0
        rw [up_s]
        unfold shB
        rw [if_pos (by omega), if_pos (by omega)]
      · rw [up_o c0]
        unfold shB
        by_cases c : k + 1 ≤ j ∧ j < k + 1 + 2 * i
        · rw [if_pos c, if_pos (show k + 1 ≤ j ∧ j < k + 1 + 2 * (i + 1) by omega)]
        · rw [if_neg c, if_neg (show ¬ (k + 1 ≤ j ∧ j < k + 1 + 2 * (i + 1)) by omega), if_neg c2, if_neg c2]
section CU
variable {d k h sz : Nat} {A : AH}
theorem c_X3 (hsz : sz = 8 ∨ sz = 2) (hA : A h = Ob 3 [.null, .int (iI 0), .int (iI 0)]) (hh : h < k) (hk : k < 800) (hsc : scA k A) : RtC mX3_init (d + 3) (1 + 2 * sz) (13 * sz) [.ref h, .int (iI sz)] k A (k + 1 + 2 * sz) (shB A h k sz sz) := by
  refine rtc_intro kX3_init rfl rfl rfl rfl (fun X G hin hAO hRc hRs E => ?_)
  have hx0 : exA G k (gA G) := exA.rf
  have hne : h ≠ k := by omega
  have loop : ∀ (m i c1 s1 : Nat) (a0 : Nat → Nat), i + m = sz → c1 = 1 + 2 * i → s1 = sz + 12 * i → exA G k a0 → Gf X (gS G a0) (k + 1 + 2 * i) c1 s1 mX3_init (d + 3) 28 [some (.ref h), some (.int (iI sz)), some (.int (iI (i : Int)))] [] (shB A h k sz i) := by
    intro m
    induction m with
    | zero =>
      intro i c1 s1 a0 hi hc1 hs1 hx
      have hisz : i = sz := by omega
      subst hisz
      have e1 : shB A h k i i h = Ob 3 [.ref k, .int (iI 0), .int (iI 0)] := by unfold shB; rw [if_neg (by omega), if_neg hne, if_pos rfl]
      have e2 : shB A h k i i k = Ra i (fun x => if x < i then some (k + 1 + 2 * x) else none) := by unfold shB; rw [if_neg (by omega), if_pos rfl]
      refine fr_run (pc' := 30) 2 rfl ?_
      refine fr_getf rfl rfl (by repeat (first | exact up_s | assumption | refine up_n (by first | assumption | decide | omega) ?_)) (by first | assumption | rfl | exact Nat.ble_eq_true_of_le (by omega)) rfl ?_
      refine fr_alen rfl (by repeat (first | exact up_s | assumption | refine up_n (by first | assumption | decide | omega) ?_)) (by first | assumption | rfl | exact Nat.ble_eq_true_of_le (by omega)) rfl ?_
      refine fr_icT (t := 56) rfl (by decide) (by omega) (by omega) (cI_ge (by omega)) ?_
      exact E _ _ _ _ _ hx (by omega) (by omega) rfl
    | succ m ih =>
      intro i c1 s1 a0 hi hc1 hs1 hx
      have e1 : shB A h k sz i h = Ob 3 [.ref k, .int (iI 0), .int (iI 0)] := by unfold shB; rw [if_neg (by omega), if_neg hne, if_pos rfl]
      have e2 : shB A h k sz i k = Ra sz (fun x => if x < i then some (k + 1 + 2 * x) else none) := by unfold shB; rw [if_neg (by omega), if_pos rfl]
      have hsc2 := shB_sc (sz := sz) (i := i) hsc hh
      have ec : ∀ a, exA G k a → Gf X (gS G a) (k + 1 + 2 * i + 1 + 1) (c1 + 1 + 1) (s1 + 2 + 10) mX3_init (d + 3) 28 [some (.ref h), some (.int (iI sz)), some (.int (iI ((i + 1 : Nat) : Int)))] [] (shB A h k sz (i + 1)) := fun a ha => by
        have := ih (i + 1) (c1 + 1 + 1) (s1 + 2 + 10) a (by omega) (by omega) (by omega) ha
        rw [show k + 1 + 2 * (i + 1) = k + 1 + 2 * i + 1 + 1 by omega] at this
        exact this
      generalize hKK : k + 1 + 2 * i = K at *
      refine fr_run (pc' := 30) 2 rfl ?_
      refine fr_getf rfl rfl (by repeat (first | exact up_s | assumption | refine up_n (by first | assumption | decide | omega) ?_)) (by first | assumption | rfl | exact Nat.ble_eq_true_of_le (by omega)) rfl ?_
      refine fr_alen rfl (by repeat (first | exact up_s | assumption | refine up_n (by first | assumption | decide | omega) ?_)) (by first | assumption | rfl | exact Nat.ble_eq_true_of_le (by omega)) rfl ?_
      refine fr_icF (t := 56) rfl (by decide) (by omega) (by omega) (cN_ge (by omega)) ?_
      refine fr_run (pc' := 38) 1 rfl ?_
      refine fr_getf rfl rfl (by repeat (first | exact up_s | assumption | refine up_n (by first | assumption | decide | omega) ?_)) (by first | assumption | rfl | exact Nat.ble_eq_true_of_le (by omega)) rfl ?_
      refine fr_run (pc' := 42) 1 rfl ?_
      refine fr_new (ci := 2) rfl rfl wc_3_22 wi_2 wn_2 (by omega) (by omega) (by omega) (by repeat' (first | exact trivial | exact scR (by omega) | refine ⟨?_, ?_⟩)) (by repeat' (first | exact trivial | exact scR (by omega) | refine ⟨?_, ?_⟩)) hsc2 (fun a ha => ?_)
      have hx := hx.tr ha (by omega)
      refine gf_n ?_
      refine fr_run (pc' := 46) 1 rfl ?_
      refine fr_callI (As := []) lkI_3_28 rfl rfl (c_X2 (d := d + 1) up_s (by omega) (by omega) (hsc2.push df_sc)) rfl rfl rfl hAO (by omega) (by omega) (by repeat' (first | exact trivial | exact scR (by omega) | refine ⟨?_, ?_⟩)) (by repeat' (first | exact trivial | exact scR (by omega) | refine ⟨?_, ?_⟩)) (fun a ha => ?_)
      have hx := hx.tr ha (by omega)
      refine gf_n ?_
      refine fr_aast (f := fun x => if x < i then some (k + 1 + 2 * x) else none) rfl (up_n (by omega) (up_n (by omega) (up_n (by omega) e2))) (by exact Nat.ble_eq_true_of_le (by omega)) up_s (by exact Nat.ble_eq_true_of_le (by omega)) (ix_i (j := i) rfl (by omega) (by omega)) ?_
      have e3 := shB_s (A := A) (sz := sz) (i := i) hh
      rw [hKK] at e3
      rw [e3]
      refine fr_iinc rfl rfl rfl rfl ?_
      refine fr_run (pc' := 28) 1 rfl ?_
      exact ec _ hx
  have hx := hx0
  refine gf_0 ?_
  refine fr_run (pc' := 1) 1 rfl ?_
  refine fr_obj rfl wo_3 rfl ?_
  refine fr_run (pc' := 6) 2 rfl ?_
  refine fr_putf rfl rfl rfl (by repeat (first | exact up_s | assumption | refine up_n (by first | assumption | decide | omega) ?_)) (by first | assumption | rfl | exact Nat.ble_eq_true_of_le (by omega)) rfl rfl ?_
  refine fr_h (A2 := A) (up_same hA) ?_
  refine fr_run (pc' := 11) 2 rfl ?_
  refine fr_putf rfl rfl rfl (by repeat (first | exact up_s | assumption | refine up_n (by first | assumption | decide | omega) ?_)) (by first | assumption | rfl | exact Nat.ble_eq_true_of_le (by omega)) rfl rfl ?_
  refine fr_h (A2 := A) (up_same hA) ?_
  refine fr_run (pc' := 17) 3 rfl ?_
  refine fr_mmax lk_3_16 rfl rfl ?_
  rw [max1 (by omega) (by omega)]
  refine fr_newR (n := sz) rfl rfl hAO (by omega) (by omega) (by omega) (by omega) (by repeat' (first | exact trivial | exact scR (by omega) | refine ⟨?_, ?_⟩)) (by repeat' (first | exact trivial | exact scR (by omega) | refine ⟨?_, ?_⟩)) hsc (fun a ha => ?_)
  have hx := hx.tr ha (by omega)
  refine gf_n ?_
  refine fr_putF rfl rfl rfl hin rfl (by repeat (first | exact up_s | assumption | refine up_n (by first | assumption | decide | omega) ?_)) (by first | assumption | rfl | exact Nat.ble_eq_true_of_le (by omega)) rfl rfl ?_
  refine fr_h (A2 := shB A h k sz 0) (shB_0 hh) ?_
  refine fr_run (pc' := 28) 2 rfl ?_
  exact loop sz 0 _ _ _ (by omega) (by omega) (by omega) hx
end CU
