def f_X5_buysIn (u : MSt) (a1 : Int32) : Option (Int32) :=
  some a1
theorem cwd_X5_buysIn : yX5_buysIn.cls ≠ "java/lang/invoke/MethodHandle" ∧ yX5_buysIn.cls ≠ "java/lang/invoke/VarHandle" ∧ (parseMethodDescriptor yX5_buysIn.desc).map (fun d => d.parameters.length) = some 2 := by decide +kernel
set_option maxHeartbeats 4000000 in
set_option maxRecDepth 100000 in
theorem c_X5_buysIn {Γ : GC} (hJ : GJ Γ) (hA : ∀ i, i < 66 → act Γ i) (l : Launch) (σ : GSt) (wi : Nat) (hwi : wi < 6) (k : Nat) (hk4 : k < 4) (u : MSt) (a1 : Int32) (x : Int32) (hk : f_X5_buysIn u a1 = some x) : Mt Γ l yX5_buysIn cX5_buysIn 3 (some .int) 0 0 [.ref (ad Γ (50 + wi)), .ref (ad Γ (10 * k)), .int a1] (gM k σ u) (some (.int x)) (gM k σ u) := by
  refine y_enter (by decide) hJ (Nat.le_of_ble_eq_true rfl) [(0, .ref (ad Γ (50 + wi))), (1, .ref (ad Γ (10 * k))), (2, .int a1)] rfl ?_
  intro p e s' m args below meth c' hC hr hlk
  have hM : ∀ j, j < 10 → act Γ (10 * k + j) := fun j hj => hA _ (by omega)
  obtain ⟨ciw, qw, hcw, hcq⟩ := cl_wayN (Γ := Γ) (σ := (gM k σ u)) hwi
  refine y_iload_n hC dX5_buysIn_0 2 rfl 1 rfl ?_
  have e := Option.some.inj hk
  exact y_iret hC hr hlk (by rw [← e]) (by first | rfl | rw [← e]) dX5_buysIn_1
def f_X5_paysAtMost (a1 : Int32) (a2 : Int32) : Option (Int32) :=
  some (if (0 : Int32) < (a1 - a2) then (a1 - a2) else (0 : Int32))
theorem cwd_X5_paysAtMost : yX5_paysAtMost.cls ≠ "java/lang/invoke/MethodHandle" ∧ yX5_paysAtMost.cls ≠ "java/lang/invoke/VarHandle" ∧ (parseMethodDescriptor yX5_paysAtMost.desc).map (fun d => d.parameters.length) = some 2 := by decide +kernel
set_option maxHeartbeats 4000000 in
set_option maxRecDepth 100000 in
theorem c_X5_paysAtMost {Γ : GC} (hJ : GJ Γ) (hA : ∀ i, i < 66 → act Γ i) (l : Launch) (σ : GSt) (wi : Nat) (hwi : wi < 6) (a1 : Int32) (a2 : Int32) (x : Int32) (hk : f_X5_paysAtMost a1 a2 = some x) : Mt Γ l yX5_paysAtMost cX5_paysAtMost 3 (some .int) 1 30 [.ref (ad Γ (50 + wi)), .int a1, .int a2] σ (some (.int x)) σ := by
  refine y_enter (by decide) hJ (Nat.le_of_ble_eq_true rfl) [(0, .ref (ad Γ (50 + wi))), (1, .int a1), (2, .int a2)] rfl ?_
  intro p e s' m args below meth c' hC hr hlk
  obtain ⟨ciw, qw, hcw, hcq⟩ := cl_wayN (Γ := Γ) (σ := σ) hwi
  refine y_iconst hC dX5_paysAtMost_0 (v := (0 : Int32)) (by decide) 1 rfl ?_
  refine y_iload_n hC dX5_paysAtMost_1 1 rfl 2 rfl ?_
  refine y_iload_n hC dX5_paysAtMost_2 2 rfl 3 rfl ?_
  refine y_isub hC dX5_paysAtMost_3 4 rfl ?_
  refine y_max hC w3_88 w2_99 w1_14 w2_100 ⟨by decide, Nat.le_of_ble_eq_true rfl⟩ (by decide) dX5_paysAtMost_4 7 rfl ?_
  have e := Option.some.inj hk
  exact y_iret hC hr hlk (by rw [← e]) (by first | rfl | rw [← e]) dX5_paysAtMost_7
def f_X5_carriesOff (a1 : Int32) : Option (Int32) :=
  some a1
theorem cwd_X5_carriesOff : yX5_carriesOff.cls ≠ "java/lang/invoke/MethodHandle" ∧ yX5_carriesOff.cls ≠ "java/lang/invoke/VarHandle" ∧ (parseMethodDescriptor yX5_carriesOff.desc).map (fun d => d.parameters.length) = some 1 := by decide +kernel
set_option maxHeartbeats 4000000 in
set_option maxRecDepth 100000 in
theorem c_X5_carriesOff {Γ : GC} (hJ : GJ Γ) (hA : ∀ i, i < 66 → act Γ i) (l : Launch) (σ : GSt) (wi : Nat) (hwi : wi < 6) (a1 : Int32) (x : Int32) (hk : f_X5_carriesOff a1 = some x) : Mt Γ l yX5_carriesOff cX5_carriesOff 2 (some .int) 0 0 [.ref (ad Γ (50 + wi)), .int a1] σ (some (.int x)) σ := by
  refine y_enter (by decide) hJ (Nat.le_of_ble_eq_true rfl) [(0, .ref (ad Γ (50 + wi))), (1, .int a1)] rfl ?_
  intro p e s' m args below meth c' hC hr hlk
  obtain ⟨ciw, qw, hcw, hcq⟩ := cl_wayN (Γ := Γ) (σ := σ) hwi
  refine y_iload_n hC dX5_carriesOff_0 1 rfl 1 rfl ?_
  have e := Option.some.inj hk
  exact y_iret hC hr hlk (by rw [← e]) (by first | rfl | rw [← e]) dX5_carriesOff_1
def f_X5_comesInRain : Option (Int32) :=
  some (0 : Int32)
theorem cwd_X5_comesInRain : yX5_comesInRain.cls ≠ "java/lang/invoke/MethodHandle" ∧ yX5_comesInRain.cls ≠ "java/lang/invoke/VarHandle" ∧ (parseMethodDescriptor yX5_comesInRain.desc).map (fun d => d.parameters.length) = some 0 := by decide +kernel
set_option maxHeartbeats 4000000 in
set_option maxRecDepth 100000 in
theorem c_X5_comesInRain {Γ : GC} (hJ : GJ Γ) (hA : ∀ i, i < 66 → act Γ i) (l : Launch) (σ : GSt) (wi : Nat) (hwi : wi < 6) (x : Int32) (hk : f_X5_comesInRain = some x) : Mt Γ l yX5_comesInRain cX5_comesInRain 1 (some .boolean) 0 0 [.ref (ad Γ (50 + wi))] σ (some (.int x)) σ := by
  refine y_enter (by decide) hJ (Nat.le_of_ble_eq_true rfl) [(0, .ref (ad Γ (50 + wi)))] rfl ?_
  intro p e s' m args below meth c' hC hr hlk
  obtain ⟨ciw, qw, hcw, hcq⟩ := cl_wayN (Γ := Γ) (σ := σ) hwi
  refine y_iconst hC dX5_comesInRain_0 (v := (0 : Int32)) (by decide) 1 rfl ?_
  have e := Option.some.inj hk
  exact y_zret hC hr hlk rfl (by rw [← e]) (by first | rfl | rw [← e]) dX5_comesInRain_1
def f_X9_buysIn (u : MSt) (a1 : Int32) : Option (Int32) :=
  (f_X5_buysIn u a1).bind fun x3 => 
    (lt (if (x3 + (2 : Int32)) < (9 : Int32) then (x3 + (2 : Int32)) else (9 : Int32)) fun n15 => 
    ((f_X3_priceIn u n15).bind fun x20 => 
    ((f_X3_priceIn u x3).bind fun x25 => 
    (if x25 ≤ x20 then
      some x3
    else
      some n15))))
theorem cwd_X9_buysIn : yX9_buysIn.cls ≠ "java/lang/invoke/MethodHandle" ∧ yX9_buysIn.cls ≠ "java/lang/invoke/VarHandle" ∧ (parseMethodDescriptor yX9_buysIn.desc).map (fun d => d.parameters.length) = some 2 := by decide +kernel
set_option maxHeartbeats 4000000 in
set_option maxRecDepth 100000 in
theorem c_X9_buysIn {Γ : GC} (hJ : GJ Γ) (hA : ∀ i, i < 66 → act Γ i) (l : Launch) (σ : GSt) (wi : Nat) (hwi : wi < 6) (k : Nat) (hk4 : k < 4) (u : MSt) (a1 : Int32) (x : Int32) (hk : f_X9_buysIn u a1 = some x) : Mt Γ l yX9_buysIn cX9_buysIn 5 (some .int) 1 30 [.ref (ad Γ (50 + wi)), .ref (ad Γ (10 * k)), .int a1] (gM k σ u) (some (.int x)) (gM k σ u) := by
  refine y_enter (by decide) hJ (Nat.le_of_ble_eq_true rfl) [(0, .ref (ad Γ (50 + wi))), (1, .ref (ad Γ (10 * k))), (2, .int a1)] rfl ?_
  intro p e s' m args below meth c' hC hr hlk
  have hM : ∀ j, j < 10 → act Γ (10 * k + j) := fun j hj => hA _ (by omega)
  obtain ⟨ciw, qw, hcw, hcq⟩ := cl_wayN (Γ := Γ) (σ := (gM k σ u)) hwi
  refine y_aload_n hC dX9_buysIn_0 0 rfl 1 rfl ?_
  refine y_aload_n hC dX9_buysIn_1 1 rfl 2 rfl ?_
  refine y_iload_n hC dX9_buysIn_2 2 rfl 3 rfl ?_
  obtain ⟨x3, hx3, hk⟩ := ob_bind hk
  refine y_callSU hC (50 + wi) (hA (50 + wi) (by omega)) hcw hcq (c_X5_buysIn hJ hA l σ wi hwi k hk4 u a1 x3 hx3) rfl ⟨w3_63, w1_5, cwd_X5_buysIn, by decide, by decide⟩ w3_56 w3_44 w1_139 w3_42 (by decide) rfl rfl (Nat.le_of_ble_eq_true rfl) (by decide) dX9_buysIn_3 6 rfl (gM k σ u) rfl [.int x3] rfl ?_
  refine y_istore_n hC dX9_buysIn_6 (by decide) [(3, .int x3), (0, .ref (ad Γ (50 + wi))), (1, .ref (ad Γ (10 * k))), (2, .int a1)] rfl 7 rfl ?_
  refine y_bipush hC dX9_buysIn_7 (v := (9 : Int32)) (by decide) 9 rfl ?_
  refine y_iload_n hC dX9_buysIn_9 0 rfl 10 rfl ?_
  refine y_iconst hC dX9_buysIn_10 (v := (2 : Int32)) (by decide) 11 rfl ?_
  refine y_iadd hC dX9_buysIn_11 12 rfl ?_
  refine y_min hC w3_57 w3_58 w1_14 w3_59 ⟨by decide, Nat.le_of_ble_eq_true rfl⟩ (by decide) dX9_buysIn_12 15 rfl ?_
  obtain ⟨n15, en15, hk⟩ := ob_lt hk
  refine y_topi en15 ?_
  refine y_istore hC dX9_buysIn_15 (by decide) [(4, .int n15), (3, .int x3), (0, .ref (ad Γ (50 + wi))), (1, .ref (ad Γ (10 * k))), (2, .int a1)] rfl 17 rfl ?_
  refine y_aload_n hC dX9_buysIn_17 3 rfl 18 rfl ?_
  refine y_iload hC dX9_buysIn_18 0 rfl 20 rfl ?_
  obtain ⟨x20, hx20, hk⟩ := ob_bind hk
  refine y_callVN hC (10 * k) (hM 0 (by decide)) (cl_M (k := k) (mm := σ.1.2.1) (u := u) hk4 rfl) rfl (c_X3_priceIn hJ hA l σ k hk4 u n15 x20 hx20) rfl ⟨w2_93, w1_2, cwd_X3_priceIn, by decide, by decide⟩ w3_60 w2_92 ws1_2 rfl rfl (Nat.le_of_ble_eq_true rfl) (by decide) dX9_buysIn_20 23 rfl (gM k σ u) rfl [.int x20] rfl ?_
  refine y_aload_n hC dX9_buysIn_23 3 rfl 24 rfl ?_
  refine y_iload_n hC dX9_buysIn_24 1 rfl 25 rfl ?_
  obtain ⟨x25, hx25, hk⟩ := ob_bind hk
  refine y_callVN hC (10 * k) (hM 0 (by decide)) (cl_M (k := k) (mm := σ.1.2.1) (u := u) hk4 rfl) rfl (c_X3_priceIn hJ hA l σ k hk4 u x3 x25 hx25) rfl ⟨w2_93, w1_2, cwd_X3_priceIn, by decide, by decide⟩ w3_60 w2_92 ws1_2 rfl rfl (Nat.le_of_ble_eq_true rfl) (by decide) dX9_buysIn_25 28 rfl (gM k σ u) rfl [.int x25, .int x20] rfl ?_
  refine y_icmp_ge hC dX9_buysIn_28 36 (by decide) 31 rfl (fun h28 => ?_) (fun h28 => ?_)
  · have hk := ob_pos h28 hk
    refine y_iload_n hC dX9_buysIn_36 1 rfl 37 rfl ?_
    have e := Option.some.inj hk
    exact y_iret hC hr hlk (by rw [← e]) (by first | rfl | rw [← e]) dX9_buysIn_37
  · have hk := ob_neg h28 hk
    refine y_iload hC dX9_buysIn_31 0 rfl 33 rfl ?_
    refine y_goto hC dX9_buysIn_33 37 (by decide) ?_
    have e := Option.some.inj hk
    exact y_iret hC hr hlk (by rw [← e]) (by first | rfl | rw [← e]) dX9_buysIn_37
def f_X1_paysAtMost (a1 : Int32) (a2 : Int32) : Option (Int32) :=
  (f_X5_paysAtMost a1 a2).bind fun x4 => 
    (some ((2 : Int32) * x4))
theorem cwd_X1_paysAtMost : yX1_paysAtMost.cls ≠ "java/lang/invoke/MethodHandle" ∧ yX1_paysAtMost.cls ≠ "java/lang/invoke/VarHandle" ∧ (parseMethodDescriptor yX1_paysAtMost.desc).map (fun d => d.parameters.length) = some 2 := by decide +kernel
set_option maxHeartbeats 4000000 in
set_option maxRecDepth 100000 in
theorem c_X1_paysAtMost {Γ : GC} (hJ : GJ Γ) (hA : ∀ i, i < 66 → act Γ i) (l : Launch) (σ : GSt) (wi : Nat) (hwi : wi < 6) (a1 : Int32) (a2 : Int32) (x : Int32) (hk : f_X1_paysAtMost a1 a2 = some x) : Mt Γ l yX1_paysAtMost cX1_paysAtMost 3 (some .int) 2 52 [.ref (ad Γ (50 + wi)), .int a1, .int a2] σ (some (.int x)) σ := by
  refine y_enter (by decide) hJ (Nat.le_of_ble_eq_true rfl) [(0, .ref (ad Γ (50 + wi))), (1, .int a1), (2, .int a2)] rfl ?_
  intro p e s' m args below meth c' hC hr hlk
  obtain ⟨ciw, qw, hcw, hcq⟩ := cl_wayN (Γ := Γ) (σ := σ) hwi
  refine y_iconst hC dX1_paysAtMost_0 (v := (2 : Int32)) (by decide) 1 rfl ?_
  refine y_aload_n hC dX1_paysAtMost_1 0 rfl 2 rfl ?_
  refine y_iload_n hC dX1_paysAtMost_2 1 rfl 3 rfl ?_
  refine y_iload_n hC dX1_paysAtMost_3 2 rfl 4 rfl ?_
  obtain ⟨x4, hx4, hk⟩ := ob_bind hk
  refine y_callSU hC (50 + wi) (hA (50 + wi) (by omega)) hcw hcq (c_X5_paysAtMost hJ hA l σ wi hwi a1 a2 x4 hx4) rfl ⟨w3_87, w1_5, cwd_X5_paysAtMost, by decide, by decide⟩ w3_77 w3_67 w1_146 w3_65 (by decide) rfl rfl (Nat.le_of_ble_eq_true rfl) (by decide) dX1_paysAtMost_4 7 rfl σ rfl [.int x4, .int (2 : Int32)] rfl ?_
  refine y_imul hC dX1_paysAtMost_7 8 rfl ?_
  have e := Option.some.inj hk
  exact y_iret hC hr hlk (by rw [← e]) (by first | rfl | rw [← e]) dX1_paysAtMost_8
def f_X1_comesInRain : Option (Int32) :=
  some (1 : Int32)
theorem cwd_X1_comesInRain : yX1_comesInRain.cls ≠ "java/lang/invoke/MethodHandle" ∧ yX1_comesInRain.cls ≠ "java/lang/invoke/VarHandle" ∧ (parseMethodDescriptor yX1_comesInRain.desc).map (fun d => d.parameters.length) = some 0 := by decide +kernel
set_option maxHeartbeats 4000000 in
set_option maxRecDepth 100000 in
theorem c_X1_comesInRain {Γ : GC} (hJ : GJ Γ) (hA : ∀ i, i < 66 → act Γ i) (l : Launch) (σ : GSt) (wi : Nat) (hwi : wi < 6) (x : Int32) (hk : f_X1_comesInRain = some x) : Mt Γ l yX1_comesInRain cX1_comesInRain 1 (some .boolean) 0 0 [.ref (ad Γ (50 + wi))] σ (some (.int x)) σ := by
  refine y_enter (by decide) hJ (Nat.le_of_ble_eq_true rfl) [(0, .ref (ad Γ (50 + wi)))] rfl ?_
  intro p e s' m args below meth c' hC hr hlk
  obtain ⟨ciw, qw, hcw, hcq⟩ := cl_wayN (Γ := Γ) (σ := σ) hwi
  refine y_iconst hC dX1_comesInRain_0 (v := (1 : Int32)) (by decide) 1 rfl ?_
  have e := Option.some.inj hk
  exact y_zret hC hr hlk rfl (by rw [← e]) (by first | rfl | rw [← e]) dX1_comesInRain_1
def f_X7_buysIn (u : MSt) (a1 : Int32) : Option (Int32) :=
  (f_X9_buysIn u a1).bind fun x5 => 
    (some (if (6 : Int32) < x5 then x5 else (6 : Int32)))
theorem cwd_X7_buysIn : yX7_buysIn.cls ≠ "java/lang/invoke/MethodHandle" ∧ yX7_buysIn.cls ≠ "java/lang/invoke/VarHandle" ∧ (parseMethodDescriptor yX7_buysIn.desc).map (fun d => d.parameters.length) = some 2 := by decide +kernel
set_option maxHeartbeats 4000000 in
set_option maxRecDepth 100000 in
theorem c_X7_buysIn {Γ : GC} (hJ : GJ Γ) (hA : ∀ i, i < 66 → act Γ i) (l : Launch) (σ : GSt) (wi : Nat) (hwi : wi < 6) (k : Nat) (hk4 : k < 4) (u : MSt) (a1 : Int32) (x : Int32) (hk : f_X7_buysIn u a1 = some x) : Mt Γ l yX7_buysIn cX7_buysIn 3 (some .int) 2 54 [.ref (ad Γ (50 + wi)), .ref (ad Γ (10 * k)), .int a1] (gM k σ u) (some (.int x)) (gM k σ u) := by
  refine y_enter (by decide) hJ (Nat.le_of_ble_eq_true rfl) [(0, .ref (ad Γ (50 + wi))), (1, .ref (ad Γ (10 * k))), (2, .int a1)] rfl ?_
  intro p e s' m args below meth c' hC hr hlk
  have hM : ∀ j, j < 10 → act Γ (10 * k + j) := fun j hj => hA _ (by omega)
  obtain ⟨ciw, qw, hcw, hcq⟩ := cl_wayN (Γ := Γ) (σ := (gM k σ u)) hwi
  refine y_bipush hC dX7_buysIn_0 (v := (6 : Int32)) (by decide) 2 rfl ?_
  refine y_aload_n hC dX7_buysIn_2 0 rfl 3 rfl ?_
  refine y_aload_n hC dX7_buysIn_3 1 rfl 4 rfl ?_
  refine y_iload_n hC dX7_buysIn_4 2 rfl 5 rfl ?_
  obtain ⟨x5, hx5, hk⟩ := ob_bind hk
  refine y_callSU hC (50 + wi) (hA (50 + wi) (by omega)) hcw hcq (c_X9_buysIn hJ hA l σ wi hwi k hk4 u a1 x5 hx5) rfl ⟨w3_55, w1_6, cwd_X9_buysIn, by decide, by decide⟩ w3_53 w5_227 w1_153 w3_54 (by decide) rfl rfl (Nat.le_of_ble_eq_true rfl) (by decide) dX7_buysIn_5 8 rfl (gM k σ u) rfl [.int x5, .int (6 : Int32)] rfl ?_
  refine y_max hC w3_61 w2_99 w1_14 w2_100 ⟨by decide, Nat.le_of_ble_eq_true rfl⟩ (by decide) dX7_buysIn_8 11 rfl ?_
  have e := Option.some.inj hk
  exact y_iret hC hr hlk (by rw [← e]) (by first | rfl | rw [← e]) dX7_buysIn_11
def f_X7_paysAtMost (a1 : Int32) (a2 : Int32) : Option (Int32) :=
  (f_X5_paysAtMost a1 a2).bind fun x3 => 
    (some (x3 + (5 : Int32)))
theorem cwd_X7_paysAtMost : yX7_paysAtMost.cls ≠ "java/lang/invoke/MethodHandle" ∧ yX7_paysAtMost.cls ≠ "java/lang/invoke/VarHandle" ∧ (parseMethodDescriptor yX7_paysAtMost.desc).map (fun d => d.parameters.length) = some 2 := by decide +kernel
set_option maxHeartbeats 4000000 in
set_option maxRecDepth 100000 in
theorem c_X7_paysAtMost {Γ : GC} (hJ : GJ Γ) (hA : ∀ i, i < 66 → act Γ i) (l : Launch) (σ : GSt) (wi : Nat) (hwi : wi < 6) (a1 : Int32) (a2 : Int32) (x : Int32) (hk : f_X7_paysAtMost a1 a2 = some x) : Mt Γ l yX7_paysAtMost cX7_paysAtMost 3 (some .int) 2 52 [.ref (ad Γ (50 + wi)), .int a1, .int a2] σ (some (.int x)) σ := by
  refine y_enter (by decide) hJ (Nat.le_of_ble_eq_true rfl) [(0, .ref (ad Γ (50 + wi))), (1, .int a1), (2, .int a2)] rfl ?_
  intro p e s' m args below meth c' hC hr hlk
  obtain ⟨ciw, qw, hcw, hcq⟩ := cl_wayN (Γ := Γ) (σ := σ) hwi
  refine y_aload_n hC dX7_paysAtMost_0 0 rfl 1 rfl ?_
  refine y_iload_n hC dX7_paysAtMost_1 1 rfl 2 rfl ?_
  refine y_iload_n hC dX7_paysAtMost_2 2 rfl 3 rfl ?_
  obtain ⟨x3, hx3, hk⟩ := ob_bind hk
  refine y_callSG hC (x := ⟨"HalfByFive$Waits", "paysAtMost", "(II)I"⟩) (owner := "HalfByFive$Plain") (50 + wi) (hA (50 + wi) (by omega)) hcw hcq (c_X5_paysAtMost hJ hA l σ wi hwi a1 a2 x3 hx3) rfl ⟨w3_87, w1_5, cwd_X5_paysAtMost, by decide, by decide⟩ w3_85 w3_72 w1_153 w1_139 rfl w3_65 (by decide) rfl rfl (Nat.le_of_ble_eq_true rfl) (by decide) dX7_paysAtMost_3 6 rfl σ rfl [.int x3] rfl ?_
  refine y_iconst hC dX7_paysAtMost_6 (v := (5 : Int32)) (by decide) 7 rfl ?_
  refine y_iadd hC dX7_paysAtMost_7 8 rfl ?_
  have e := Option.some.inj hk
  exact y_iret hC hr hlk (by rw [← e]) (by first | rfl | rw [← e]) dX7_paysAtMost_8
def f_X0_buysIn (u : MSt) (a1 : Int32) : Option (Int32) :=
  some (9 : Int32)
theorem cwd_X0_buysIn : yX0_buysIn.cls ≠ "java/lang/invoke/MethodHandle" ∧ yX0_buysIn.cls ≠ "java/lang/invoke/VarHandle" ∧ (parseMethodDescriptor yX0_buysIn.desc).map (fun d => d.parameters.length) = some 2 := by decide +kernel
set_option maxHeartbeats 4000000 in
set_option maxRecDepth 100000 in
theorem c_X0_buysIn {Γ : GC} (hJ : GJ Γ) (hA : ∀ i, i < 66 → act Γ i) (l : Launch) (σ : GSt) (wi : Nat) (hwi : wi < 6) (k : Nat) (hk4 : k < 4) (u : MSt) (a1 : Int32) (x : Int32) (hk : f_X0_buysIn u a1 = some x) : Mt Γ l yX0_buysIn cX0_buysIn 3 (some .int) 0 0 [.ref (ad Γ (50 + wi)), .ref (ad Γ (10 * k)), .int a1] (gM k σ u) (some (.int x)) (gM k σ u) := by
  refine y_enter (by decide) hJ (Nat.le_of_ble_eq_true rfl) [(0, .ref (ad Γ (50 + wi))), (1, .ref (ad Γ (10 * k))), (2, .int a1)] rfl ?_
  intro p e s' m args below meth c' hC hr hlk
  have hM : ∀ j, j < 10 → act Γ (10 * k + j) := fun j hj => hA _ (by omega)
  obtain ⟨ciw, qw, hcw, hcq⟩ := cl_wayN (Γ := Γ) (σ := (gM k σ u)) hwi
  refine y_bipush hC dX0_buysIn_0 (v := (9 : Int32)) (by decide) 2 rfl ?_
  have e := Option.some.inj hk
  exact y_iret hC hr hlk (by rw [← e]) (by first | rfl | rw [← e]) dX0_buysIn_2
def f_X0_paysAtMost (a1 : Int32) (a2 : Int32) : Option (Int32) :=
  (f_X5_paysAtMost a1 a2).bind fun x3 => 
    (some (x3 / (2 : Int32)))
theorem cwd_X0_paysAtMost : yX0_paysAtMost.cls ≠ "java/lang/invoke/MethodHandle" ∧ yX0_paysAtMost.cls ≠ "java/lang/invoke/VarHandle" ∧ (parseMethodDescriptor yX0_paysAtMost.desc).map (fun d => d.parameters.length) = some 2 := by decide +kernel
set_option maxHeartbeats 4000000 in
set_option maxRecDepth 100000 in
theorem c_X0_paysAtMost {Γ : GC} (hJ : GJ Γ) (hA : ∀ i, i < 66 → act Γ i) (l : Launch) (σ : GSt) (wi : Nat) (hwi : wi < 6) (a1 : Int32) (a2 : Int32) (x : Int32) (hk : f_X0_paysAtMost a1 a2 = some x) : Mt Γ l yX0_paysAtMost cX0_paysAtMost 3 (some .int) 2 52 [.ref (ad Γ (50 + wi)), .int a1, .int a2] σ (some (.int x)) σ := by
  refine y_enter (by decide) hJ (Nat.le_of_ble_eq_true rfl) [(0, .ref (ad Γ (50 + wi))), (1, .int a1), (2, .int a2)] rfl ?_
  intro p e s' m args below meth c' hC hr hlk
  obtain ⟨ciw, qw, hcw, hcq⟩ := cl_wayN (Γ := Γ) (σ := σ) hwi
  refine y_aload_n hC dX0_paysAtMost_0 0 rfl 1 rfl ?_
  refine y_iload_n hC dX0_paysAtMost_1 1 rfl 2 rfl ?_
  refine y_iload_n hC dX0_paysAtMost_2 2 rfl 3 rfl ?_
  obtain ⟨x3, hx3, hk⟩ := ob_bind hk
  refine y_callSG hC (x := ⟨"HalfByFive$Waits", "paysAtMost", "(II)I"⟩) (owner := "HalfByFive$Plain") (50 + wi) (hA (50 + wi) (by omega)) hcw hcq (c_X5_paysAtMost hJ hA l σ wi hwi a1 a2 x3 hx3) rfl ⟨w3_87, w1_5, cwd_X5_paysAtMost, by decide, by decide⟩ w3_71 w3_72 w1_160 w1_139 rfl w3_65 (by decide) rfl rfl (Nat.le_of_ble_eq_true rfl) (by decide) dX0_paysAtMost_3 6 rfl σ rfl [.int x3] rfl ?_
  refine y_iconst hC dX0_paysAtMost_6 (v := (2 : Int32)) (by decide) 7 rfl ?_
  refine y_idiv hC dX0_paysAtMost_7 (by decide) 8 rfl ?_
  have e := Option.some.inj hk
  exact y_iret hC hr hlk (by rw [← e]) (by first | rfl | rw [← e]) dX0_paysAtMost_8
def f_X0_carriesOff (a1 : Int32) : Option (Int32) :=
  (f_X5_carriesOff a1).bind fun x3 => 
    (some ((2 : Int32) * x3))
theorem cwd_X0_carriesOff : yX0_carriesOff.cls ≠ "java/lang/invoke/MethodHandle" ∧ yX0_carriesOff.cls ≠ "java/lang/invoke/VarHandle" ∧ (parseMethodDescriptor yX0_carriesOff.desc).map (fun d => d.parameters.length) = some 1 := by decide +kernel
set_option maxHeartbeats 4000000 in
set_option maxRecDepth 100000 in
theorem c_X0_carriesOff {Γ : GC} (hJ : GJ Γ) (hA : ∀ i, i < 66 → act Γ i) (l : Launch) (σ : GSt) (wi : Nat) (hwi : wi < 6) (a1 : Int32) (x : Int32) (hk : f_X0_carriesOff a1 = some x) : Mt Γ l yX0_carriesOff cX0_carriesOff 2 (some .int) 1 21 [.ref (ad Γ (50 + wi)), .int a1] σ (some (.int x)) σ := by
  refine y_enter (by decide) hJ (Nat.le_of_ble_eq_true rfl) [(0, .ref (ad Γ (50 + wi))), (1, .int a1)] rfl ?_
  intro p e s' m args below meth c' hC hr hlk
  obtain ⟨ciw, qw, hcw, hcq⟩ := cl_wayN (Γ := Γ) (σ := σ) hwi
  refine y_iconst hC dX0_carriesOff_0 (v := (2 : Int32)) (by decide) 1 rfl ?_
  refine y_aload_n hC dX0_carriesOff_1 0 rfl 2 rfl ?_
  refine y_iload_n hC dX0_carriesOff_2 1 rfl 3 rfl ?_
  obtain ⟨x3, hx3, hk⟩ := ob_bind hk
  refine y_callSG hC (x := ⟨"HalfByFive$Waits", "carriesOff", "(I)I"⟩) (owner := "HalfByFive$Plain") (50 + wi) (hA (50 + wi) (by omega)) hcw hcq (c_X5_carriesOff hJ hA l σ wi hwi a1 x3 hx3) rfl ⟨w3_106, w1_5, cwd_X5_carriesOff, by decide, by decide⟩ w3_96 w3_97 w1_160 w1_139 rfl w3_90 (by decide) rfl rfl (Nat.le_of_ble_eq_true rfl) (by decide) dX0_carriesOff_3 6 rfl σ rfl [.int x3, .int (2 : Int32)] rfl ?_
  refine y_imul hC dX0_carriesOff_6 7 rfl ?_
  have e := Option.some.inj hk
  exact y_iret hC hr hlk (by rw [← e]) (by first | rfl | rw [← e]) dX0_carriesOff_7
def f_X0_comesInRain : Option (Int32) :=
  some (1 : Int32)
theorem cwd_X0_comesInRain : yX0_comesInRain.cls ≠ "java/lang/invoke/MethodHandle" ∧ yX0_comesInRain.cls ≠ "java/lang/invoke/VarHandle" ∧ (parseMethodDescriptor yX0_comesInRain.desc).map (fun d => d.parameters.length) = some 0 := by decide +kernel
set_option maxHeartbeats 4000000 in
set_option maxRecDepth 100000 in
theorem c_X0_comesInRain {Γ : GC} (hJ : GJ Γ) (hA : ∀ i, i < 66 → act Γ i) (l : Launch) (σ : GSt) (wi : Nat) (hwi : wi < 6) (x : Int32) (hk : f_X0_comesInRain = some x) : Mt Γ l yX0_comesInRain cX0_comesInRain 1 (some .boolean) 0 0 [.ref (ad Γ (50 + wi))] σ (some (.int x)) σ := by
  refine y_enter (by decide) hJ (Nat.le_of_ble_eq_true rfl) [(0, .ref (ad Γ (50 + wi)))] rfl ?_
  intro p e s' m args below meth c' hC hr hlk
  obtain ⟨ciw, qw, hcw, hcq⟩ := cl_wayN (Γ := Γ) (σ := σ) hwi
  refine y_iconst hC dX0_comesInRain_0 (v := (1 : Int32)) (by decide) 1 rfl ?_
  have e := Option.some.inj hk
  exact y_zret hC hr hlk rfl (by rw [← e]) (by first | rfl | rw [← e]) dX0_comesInRain_1
def f_X4_paysAtMost (a1 : Int32) (a2 : Int32) : Option (Int32) :=
  (f_X5_paysAtMost a1 a2).bind fun x3 => 
    (some (x3 + (5 : Int32)))
theorem cwd_X4_paysAtMost : yX4_paysAtMost.cls ≠ "java/lang/invoke/MethodHandle" ∧ yX4_paysAtMost.cls ≠ "java/lang/invoke/VarHandle" ∧ (parseMethodDescriptor yX4_paysAtMost.desc).map (fun d => d.parameters.length) = some 2 := by decide +kernel
set_option maxHeartbeats 4000000 in
set_option maxRecDepth 100000 in
theorem c_X4_paysAtMost {Γ : GC} (hJ : GJ Γ) (hA : ∀ i, i < 66 → act Γ i) (l : Launch) (σ : GSt) (wi : Nat) (hwi : wi < 6) (a1 : Int32) (a2 : Int32) (x : Int32) (hk : f_X4_paysAtMost a1 a2 = some x) : Mt Γ l yX4_paysAtMost cX4_paysAtMost 3 (some .int) 2 52 [.ref (ad Γ (50 + wi)), .int a1, .int a2] σ (some (.int x)) σ := by
  refine y_enter (by decide) hJ (Nat.le_of_ble_eq_true rfl) [(0, .ref (ad Γ (50 + wi))), (1, .int a1), (2, .int a2)] rfl ?_
  intro p e s' m args below meth c' hC hr hlk
  obtain ⟨ciw, qw, hcw, hcq⟩ := cl_wayN (Γ := Γ) (σ := σ) hwi
  refine y_aload_n hC dX4_paysAtMost_0 0 rfl 1 rfl ?_
  refine y_iload_n hC dX4_paysAtMost_1 1 rfl 2 rfl ?_
  refine y_iload_n hC dX4_paysAtMost_2 2 rfl 3 rfl ?_
  obtain ⟨x3, hx3, hk⟩ := ob_bind hk
  refine y_callSU hC (50 + wi) (hA (50 + wi) (by omega)) hcw hcq (c_X5_paysAtMost hJ hA l σ wi hwi a1 a2 x3 hx3) rfl ⟨w3_87, w1_5, cwd_X5_paysAtMost, by decide, by decide⟩ w3_81 w3_67 w1_167 w3_65 (by decide) rfl rfl (Nat.le_of_ble_eq_true rfl) (by decide) dX4_paysAtMost_3 6 rfl σ rfl [.int x3] rfl ?_
  refine y_iconst hC dX4_paysAtMost_6 (v := (5 : Int32)) (by decide) 7 rfl ?_
  refine y_iadd hC dX4_paysAtMost_7 8 rfl ?_
  have e := Option.some.inj hk
  exact y_iret hC hr hlk (by rw [← e]) (by first | rfl | rw [← e]) dX4_paysAtMost_8
def f_X4_carriesOff (a1 : Int32) : Option (Int32) :=
  if a1 = (1 : Int32) then
    some (2 : Int32)
  else
    (f_X5_carriesOff a1).bind fun x11 => 
      (some x11)
theorem cwd_X4_carriesOff : yX4_carriesOff.cls ≠ "java/lang/invoke/MethodHandle" ∧ yX4_carriesOff.cls ≠ "java/lang/invoke/VarHandle" ∧ (parseMethodDescriptor yX4_carriesOff.desc).map (fun d => d.parameters.length) = some 1 := by decide +kernel
set_option maxHeartbeats 4000000 in
set_option maxRecDepth 100000 in
theorem c_X4_carriesOff {Γ : GC} (hJ : GJ Γ) (hA : ∀ i, i < 66 → act Γ i) (l : Launch) (σ : GSt) (wi : Nat) (hwi : wi < 6) (a1 : Int32) (x : Int32) (hk : f_X4_carriesOff a1 = some x) : Mt Γ l yX4_carriesOff cX4_carriesOff 2 (some .int) 1 21 [.ref (ad Γ (50 + wi)), .int a1] σ (some (.int x)) σ := by
  refine y_enter (by decide) hJ (Nat.le_of_ble_eq_true rfl) [(0, .ref (ad Γ (50 + wi))), (1, .int a1)] rfl ?_
  intro p e s' m args below meth c' hC hr hlk
  obtain ⟨ciw, qw, hcw, hcq⟩ := cl_wayN (Γ := Γ) (σ := σ) hwi
  refine y_iload_n hC dX4_carriesOff_0 1 rfl 1 rfl ?_
  refine y_iconst hC dX4_carriesOff_1 (v := (1 : Int32)) (by decide) 2 rfl ?_
  refine y_icmp_ne hC dX4_carriesOff_2 9 (by decide) 5 rfl (fun h2 => ?_) (fun h2 => ?_)
  · have hk := ob_neg h2 hk
    refine y_aload_n hC dX4_carriesOff_9 0 rfl 10 rfl ?_
    refine y_iload_n hC dX4_carriesOff_10 1 rfl 11 rfl ?_
    obtain ⟨x11, hx11, hk⟩ := ob_bind hk
    refine y_callSU hC (50 + wi) (hA (50 + wi) (by omega)) hcw hcq (c_X5_carriesOff hJ hA l σ wi hwi a1 x11 hx11) rfl ⟨w3_106, w1_5, cwd_X5_carriesOff, by decide, by decide⟩ w3_103 w3_92 w1_167 w3_90 (by decide) rfl rfl (Nat.le_of_ble_eq_true rfl) (by decide) dX4_carriesOff_11 14 rfl σ rfl [.int x11] rfl ?_
    have e := Option.some.inj hk
    exact y_iret hC hr hlk (by rw [← e]) (by first | rfl | rw [← e]) dX4_carriesOff_14
  · have hk := ob_pos h2 hk
    refine y_iconst hC dX4_carriesOff_5 (v := (2 : Int32)) (by decide) 6 rfl ?_
    refine y_goto hC dX4_carriesOff_6 14 (by decide) ?_
    have e := Option.some.inj hk
    exact y_iret hC hr hlk (by rw [← e]) (by first | rfl | rw [← e]) dX4_carriesOff_14
def f_way_buysIn (wv : Nat) (u : MSt) (a1 : Int32) : Option Int32 := match wv with
  | 0 => f_X5_buysIn u a1
  | 1 => f_X9_buysIn u a1
  | 2 => f_X5_buysIn u a1
  | 3 => f_X7_buysIn u a1
  | 4 => f_X0_buysIn u a1
  | _ => f_X5_buysIn u a1
set_option maxHeartbeats 4000000 in
theorem y_way_buysIn {Γ : GC} {A : Nat → Prop} {p : Program} {l : Launch} {e : Env} {R : Room} {s : State} {m : MethodId} {args : Array Value} {below : List Frame} {meth : Method} {c : Code} {cells slots : Nat} {Q : State → Prop} {nL : Nat} {σ : GSt} {pc : Nat} {lv : List (Nat × Value)} {st : List Value} {cc : ByteArray} (hC : CX Γ A p s m args c "HalfByFive$Day" cc nL) (hJ : GJ Γ) (hA : ∀ i, i < 66 → act Γ i) (σ0 : GSt) (k : Nat) (hk4 : k < 4) (wv : Nat) (hw : wv < 6) (u : MSt) (a1 : Int32) (x : Int32) (hx : f_way_buysIn wv u a1 = some x) (h1 : σ = gM k σ0 u) {st0 : List Value} (hst : [.ref (ad Γ (10 * k)), .int a1].reverse ++ .ref (ad Γ (50 + wv)) :: st = st0) (hW : (st.map fun v => v.category).sum ≤ 8) (hR : 3 ≤ R.frames ∧ 76 ≤ R.locals) (hcs : cells ≤ R.cells ∧ slots ≤ R.slots) (hdg : decode cc pc = .ok (.invokevirtual 92, 3)) (pq : Nat) (hq : pc + 3 = pq) (σ3 : GSt) (h3 : gM k σ0 u = σ3) (st1 : List Value) (hs1 : .int x :: st = st1) (kk : Y Γ A p l e R s m args below meth c cells slots Q nL σ3 pq lv st1) : Y Γ A p l e R s m args below meth c cells slots Q nL σ pc lv st0 := by
  match wv, hw, hx, hst with
  | 0, _, hx, hst => exact y_callU hC (x := ⟨"HalfByFive$Plain", "buysIn", "(LHalfByFive$Market;I)I"⟩) (owner := "HalfByFive$Plain") (n := 2) 50 (hA 50 (by decide)) cl_way0 rfl (c_X5_buysIn hJ hA l σ0 0 (by decide) k hk4 u a1 x hx) h1 w3_63 w1_5 (by decide +kernel) ⟨Nat.le_trans (by decide) hR.1, Nat.le_trans (by decide) hR.2⟩ w3_41 w3_44 w3_63 w3_42 w3_42 w3_43 rfl hst hW hcs hdg pq hq σ3 h3 st1 hs1 kk
  | 1, _, hx, hst => exact y_callU hC (x := ⟨"HalfByFive$Plain", "buysIn", "(LHalfByFive$Market;I)I"⟩) (owner := "HalfByFive$Plain") (n := 2) 51 (hA 51 (by decide)) cl_way1 rfl (c_X9_buysIn hJ hA l σ0 1 (by decide) k hk4 u a1 x hx) h1 w3_55 w1_6 (by decide +kernel) ⟨Nat.le_trans (by decide) hR.1, Nat.le_trans (by decide) hR.2⟩ w3_41 w3_44 w3_63 w3_42 w3_54 w3_62 rfl hst hW hcs hdg pq hq σ3 h3 st1 hs1 kk
  | 2, _, hx, hst => exact y_callU hC (x := ⟨"HalfByFive$Plain", "buysIn", "(LHalfByFive$Market;I)I"⟩) (owner := "HalfByFive$Plain") (n := 2) 52 (hA 52 (by decide)) cl_way2 rfl (c_X5_buysIn hJ hA l σ0 2 (by decide) k hk4 u a1 x hx) h1 w3_63 w1_5 (by decide +kernel) ⟨Nat.le_trans (by decide) hR.1, Nat.le_trans (by decide) hR.2⟩ w3_41 w3_44 w3_63 w3_42 w3_42 w3_48 rfl hst hW hcs hdg pq hq σ3 h3 st1 hs1 kk
  | 3, _, hx, hst => exact y_callU hC (x := ⟨"HalfByFive$Plain", "buysIn", "(LHalfByFive$Market;I)I"⟩) (owner := "HalfByFive$Plain") (n := 2) 53 (hA 53 (by decide)) cl_way3 rfl (c_X7_buysIn hJ hA l σ0 3 (by decide) k hk4 u a1 x hx) h1 w3_52 w1_8 (by decide +kernel) ⟨Nat.le_trans (by decide) hR.1, Nat.le_trans (by decide) hR.2⟩ w3_41 w3_44 w3_63 w3_42 w3_51 w3_50 rfl hst hW hcs hdg pq hq σ3 h3 st1 hs1 kk
  | 4, _, hx, hst => exact y_callU hC (x := ⟨"HalfByFive$Plain", "buysIn", "(LHalfByFive$Market;I)I"⟩) (owner := "HalfByFive$Plain") (n := 2) 54 (hA 54 (by decide)) cl_way4 rfl (c_X0_buysIn hJ hA l σ0 4 (by decide) k hk4 u a1 x hx) h1 w3_47 w1_9 (by decide +kernel) ⟨Nat.le_trans (by decide) hR.1, Nat.le_trans (by decide) hR.2⟩ w3_41 w3_44 w3_63 w3_42 w3_46 w3_45 rfl hst hW hcs hdg pq hq σ3 h3 st1 hs1 kk
  | 5, _, hx, hst => exact y_callU hC (x := ⟨"HalfByFive$Plain", "buysIn", "(LHalfByFive$Market;I)I"⟩) (owner := "HalfByFive$Plain") (n := 2) 55 (hA 55 (by decide)) cl_way5 rfl (c_X5_buysIn hJ hA l σ0 5 (by decide) k hk4 u a1 x hx) h1 w3_63 w1_5 (by decide +kernel) ⟨Nat.le_trans (by decide) hR.1, Nat.le_trans (by decide) hR.2⟩ w3_41 w3_44 w3_63 w3_42 w3_42 w3_49 rfl hst hW hcs hdg pq hq σ3 h3 st1 hs1 kk
  | wv + 6, hw, _, _ => exact absurd hw (by omega)
def f_way_paysAtMost (wv : Nat) (a1 a2 : Int32) : Option Int32 := match wv with
  | 0 => f_X5_paysAtMost a1 a2
  | 1 => f_X5_paysAtMost a1 a2
  | 2 => f_X1_paysAtMost a1 a2
  | 3 => f_X7_paysAtMost a1 a2
  | 4 => f_X0_paysAtMost a1 a2
  | _ => f_X4_paysAtMost a1 a2
set_option maxHeartbeats 4000000 in
theorem y_way_paysAtMost {Γ : GC} {A : Nat → Prop} {p : Program} {l : Launch} {e : Env} {R : Room} {s : State} {m : MethodId} {args : Array Value} {below : List Frame} {meth : Method} {c : Code} {cells slots : Nat} {Q : State → Prop} {nL : Nat} {σ : GSt} {pc : Nat} {lv : List (Nat × Value)} {st : List Value} {cc : ByteArray} (hC : CX Γ A p s m args c "HalfByFive$Day" cc nL) (hJ : GJ Γ) (hA : ∀ i, i < 66 → act Γ i) (σ0 : GSt) (wv : Nat) (hw : wv < 6) (a1 a2 : Int32) (x : Int32) (hx : f_way_paysAtMost wv a1 a2 = some x) (h1 : σ = σ0) {st0 : List Value} (hst : [.int a1, .int a2].reverse ++ .ref (ad Γ (50 + wv)) :: st = st0) (hW : (st.map fun v => v.category).sum ≤ 8) (hR : 3 ≤ R.frames ∧ 74 ≤ R.locals) (hcs : cells ≤ R.cells ∧ slots ≤ R.slots) (hdg : decode cc pc = .ok (.invokevirtual 102, 3)) (pq : Nat) (hq : pc + 3 = pq) (σ3 : GSt) (h3 : σ0 = σ3) (st1 : List Value) (hs1 : .int x :: st = st1) (kk : Y Γ A p l e R s m args below meth c cells slots Q nL σ3 pq lv st1) : Y Γ A p l e R s m args below meth c cells slots Q nL σ pc lv st0 := by
  match wv, hw, hx, hst with
  | 0, _, hx, hst => exact y_callU hC (x := ⟨"HalfByFive$Plain", "paysAtMost", "(II)I"⟩) (owner := "HalfByFive$Plain") (n := 2) 50 (hA 50 (by decide)) cl_way0 rfl (c_X5_paysAtMost hJ hA l σ0 0 (by decide) a1 a2 x hx) h1 w3_87 w1_5 (by decide +kernel) ⟨Nat.le_trans (by decide) hR.1, Nat.le_trans (by decide) hR.2⟩ w3_64 w3_67 w3_87 w3_65 w3_65 w3_66 rfl hst hW hcs hdg pq hq σ3 h3 st1 hs1 kk
  | 1, _, hx, hst => exact y_callU hC (x := ⟨"HalfByFive$Plain", "paysAtMost", "(II)I"⟩) (owner := "HalfByFive$Plain") (n := 2) 51 (hA 51 (by decide)) cl_way1 rfl (c_X5_paysAtMost hJ hA l σ0 1 (by decide) a1 a2 x hx) h1 w3_87 w1_5 (by decide +kernel) ⟨Nat.le_trans (by decide) hR.1, Nat.le_trans (by decide) hR.2⟩ w3_64 w3_67 w3_87 w3_65 w3_65 w3_86 rfl hst hW hcs hdg pq hq σ3 h3 st1 hs1 kk
  | 2, _, hx, hst => exact y_callU hC (x := ⟨"HalfByFive$Plain", "paysAtMost", "(II)I"⟩) (owner := "HalfByFive$Plain") (n := 2) 52 (hA 52 (by decide)) cl_way2 rfl (c_X1_paysAtMost hJ hA l σ0 2 (by decide) a1 a2 x hx) h1 w3_76 w1_7 (by decide +kernel) ⟨Nat.le_trans (by decide) hR.1, Nat.le_trans (by decide) hR.2⟩ w3_64 w3_67 w3_87 w3_65 w3_75 w3_74 rfl hst hW hcs hdg pq hq σ3 h3 st1 hs1 kk
  | 3, _, hx, hst => exact y_callU hC (x := ⟨"HalfByFive$Plain", "paysAtMost", "(II)I"⟩) (owner := "HalfByFive$Plain") (n := 2) 53 (hA 53 (by decide)) cl_way3 rfl (c_X7_paysAtMost hJ hA l σ0 3 (by decide) a1 a2 x hx) h1 w3_84 w1_8 (by decide +kernel) ⟨Nat.le_trans (by decide) hR.1, Nat.le_trans (by decide) hR.2⟩ w3_64 w3_67 w3_87 w3_65 w3_83 w3_82 rfl hst hW hcs hdg pq hq σ3 h3 st1 hs1 kk
  | 4, _, hx, hst => exact y_callU hC (x := ⟨"HalfByFive$Plain", "paysAtMost", "(II)I"⟩) (owner := "HalfByFive$Plain") (n := 2) 54 (hA 54 (by decide)) cl_way4 rfl (c_X0_paysAtMost hJ hA l σ0 4 (by decide) a1 a2 x hx) h1 w3_70 w1_9 (by decide +kernel) ⟨Nat.le_trans (by decide) hR.1, Nat.le_trans (by decide) hR.2⟩ w3_64 w3_67 w3_87 w3_65 w3_69 w3_68 rfl hst hW hcs hdg pq hq σ3 h3 st1 hs1 kk
  | 5, _, hx, hst => exact y_callU hC (x := ⟨"HalfByFive$Plain", "paysAtMost", "(II)I"⟩) (owner := "HalfByFive$Plain") (n := 2) 55 (hA 55 (by decide)) cl_way5 rfl (c_X4_paysAtMost hJ hA l σ0 5 (by decide) a1 a2 x hx) h1 w3_80 w1_10 (by decide +kernel) ⟨Nat.le_trans (by decide) hR.1, Nat.le_trans (by decide) hR.2⟩ w3_64 w3_67 w3_87 w3_65 w3_79 w3_78 rfl hst hW hcs hdg pq hq σ3 h3 st1 hs1 kk
  | wv + 6, hw, _, _ => exact absurd hw (by omega)
def f_way_carriesOff (wv : Nat) (a1 : Int32) : Option Int32 := match wv with
  | 0 => f_X5_carriesOff a1
  | 1 => f_X5_carriesOff a1
  | 2 => f_X5_carriesOff a1
  | 3 => f_X5_carriesOff a1
  | 4 => f_X0_carriesOff a1
  | _ => f_X4_carriesOff a1
set_option maxHeartbeats 4000000 in
theorem y_way_carriesOff {Γ : GC} {A : Nat → Prop} {p : Program} {l : Launch} {e : Env} {R : Room} {s : State} {m : MethodId} {args : Array Value} {below : List Frame} {meth : Method} {c : Code} {cells slots : Nat} {Q : State → Prop} {nL : Nat} {σ : GSt} {pc : Nat} {lv : List (Nat × Value)} {st : List Value} {cc : ByteArray} (hC : CX Γ A p s m args c "HalfByFive$Day" cc nL) (hJ : GJ Γ) (hA : ∀ i, i < 66 → act Γ i) (σ0 : GSt) (wv : Nat) (hw : wv < 6) (a1 : Int32) (x : Int32) (hx : f_way_carriesOff wv a1 = some x) (h1 : σ = σ0) {st0 : List Value} (hst : [.int a1].reverse ++ .ref (ad Γ (50 + wv)) :: st = st0) (hW : (st.map fun v => v.category).sum ≤ 8) (hR : 2 ≤ R.frames ∧ 42 ≤ R.locals) (hcs : cells ≤ R.cells ∧ slots ≤ R.slots) (hdg : decode cc pc = .ok (.invokevirtual 109, 3)) (pq : Nat) (hq : pc + 3 = pq) (σ3 : GSt) (h3 : σ0 = σ3) (st1 : List Value) (hs1 : .int x :: st = st1) (kk : Y Γ A p l e R s m args below meth c cells slots Q nL σ3 pq lv st1) : Y Γ A p l e R s m args below meth c cells slots Q nL σ pc lv st0 := by
  match wv, hw, hx, hst with
  | 0, _, hx, hst => exact y_callU hC (x := ⟨"HalfByFive$Plain", "carriesOff", "(I)I"⟩) (owner := "HalfByFive$Plain") (n := 1) 50 (hA 50 (by decide)) cl_way0 rfl (c_X5_carriesOff hJ hA l σ0 0 (by decide) a1 x hx) h1 w3_106 w1_5 (by decide +kernel) ⟨Nat.le_trans (by decide) hR.1, Nat.le_trans (by decide) hR.2⟩ w3_89 w3_92 w3_106 w3_90 w3_90 w3_91 rfl hst hW hcs hdg pq hq σ3 h3 st1 hs1 kk
  | 1, _, hx, hst => exact y_callU hC (x := ⟨"HalfByFive$Plain", "carriesOff", "(I)I"⟩) (owner := "HalfByFive$Plain") (n := 1) 51 (hA 51 (by decide)) cl_way1 rfl (c_X5_carriesOff hJ hA l σ0 1 (by decide) a1 x hx) h1 w3_106 w1_5 (by decide +kernel) ⟨Nat.le_trans (by decide) hR.1, Nat.le_trans (by decide) hR.2⟩ w3_89 w3_92 w3_106 w3_90 w3_90 w3_105 rfl hst hW hcs hdg pq hq σ3 h3 st1 hs1 kk
  | 2, _, hx, hst => exact y_callU hC (x := ⟨"HalfByFive$Plain", "carriesOff", "(I)I"⟩) (owner := "HalfByFive$Plain") (n := 1) 52 (hA 52 (by decide)) cl_way2 rfl (c_X5_carriesOff hJ hA l σ0 2 (by decide) a1 x hx) h1 w3_106 w1_5 (by decide +kernel) ⟨Nat.le_trans (by decide) hR.1, Nat.le_trans (by decide) hR.2⟩ w3_89 w3_92 w3_106 w3_90 w3_90 w3_99 rfl hst hW hcs hdg pq hq σ3 h3 st1 hs1 kk
  | 3, _, hx, hst => exact y_callU hC (x := ⟨"HalfByFive$Plain", "carriesOff", "(I)I"⟩) (owner := "HalfByFive$Plain") (n := 1) 53 (hA 53 (by decide)) cl_way3 rfl (c_X5_carriesOff hJ hA l σ0 3 (by decide) a1 x hx) h1 w3_106 w1_5 (by decide +kernel) ⟨Nat.le_trans (by decide) hR.1, Nat.le_trans (by decide) hR.2⟩ w3_89 w3_92 w3_106 w3_90 w3_90 w3_104 rfl hst hW hcs hdg pq hq σ3 h3 st1 hs1 kk
  | 4, _, hx, hst => exact y_callU hC (x := ⟨"HalfByFive$Plain", "carriesOff", "(I)I"⟩) (owner := "HalfByFive$Plain") (n := 1) 54 (hA 54 (by decide)) cl_way4 rfl (c_X0_carriesOff hJ hA l σ0 4 (by decide) a1 x hx) h1 w3_95 w1_9 (by decide +kernel) ⟨Nat.le_trans (by decide) hR.1, Nat.le_trans (by decide) hR.2⟩ w3_89 w3_92 w3_106 w3_90 w3_94 w3_93 rfl hst hW hcs hdg pq hq σ3 h3 st1 hs1 kk
  | 5, _, hx, hst => exact y_callU hC (x := ⟨"HalfByFive$Plain", "carriesOff", "(I)I"⟩) (owner := "HalfByFive$Plain") (n := 1) 55 (hA 55 (by decide)) cl_way5 rfl (c_X4_carriesOff hJ hA l σ0 5 (by decide) a1 x hx) h1 w3_102 w1_10 (by decide +kernel) ⟨Nat.le_trans (by decide) hR.1, Nat.le_trans (by decide) hR.2⟩ w3_89 w3_92 w3_106 w3_90 w3_101 w3_100 rfl hst hW hcs hdg pq hq σ3 h3 st1 hs1 kk
  | wv + 6, hw, _, _ => exact absurd hw (by omega)
def f_way_comesInRain (wv : Nat)  : Option Int32 := match wv with
  | 0 => f_X5_comesInRain 
  | 1 => f_X5_comesInRain 
  | 2 => f_X1_comesInRain 
  | 3 => f_X5_comesInRain 
  | 4 => f_X0_comesInRain 
  | _ => f_X5_comesInRain 
set_option maxHeartbeats 4000000 in
theorem y_way_comesInRain {Γ : GC} {A : Nat → Prop} {p : Program} {l : Launch} {e : Env} {R : Room} {s : State} {m : MethodId} {args : Array Value} {below : List Frame} {meth : Method} {c : Code} {cells slots : Nat} {Q : State → Prop} {nL : Nat} {σ : GSt} {pc : Nat} {lv : List (Nat × Value)} {st : List Value} {cc : ByteArray} (hC : CX Γ A p s m args c "HalfByFive$Day" cc nL) (hJ : GJ Γ) (hA : ∀ i, i < 66 → act Γ i) (σ0 : GSt) (wv : Nat) (hw : wv < 6)  (x : Int32) (hx : f_way_comesInRain wv  = some x) (h1 : σ = σ0) {st0 : List Value} (hst : [].reverse ++ .ref (ad Γ (50 + wv)) :: st = st0) (hW : (st.map fun v => v.category).sum ≤ 8) (hR : 1 ≤ R.frames ∧ 20 ≤ R.locals) (hcs : cells ≤ R.cells ∧ slots ≤ R.slots) (hdg : decode cc pc = .ok (.invokevirtual 117, 3)) (pq : Nat) (hq : pc + 3 = pq) (σ3 : GSt) (h3 : σ0 = σ3) (st1 : List Value) (hs1 : .int x :: st = st1) (kk : Y Γ A p l e R s m args below meth c cells slots Q nL σ3 pq lv st1) : Y Γ A p l e R s m args below meth c cells slots Q nL σ pc lv st0 := by
  match wv, hw, hx, hst with
  | 0, _, hx, hst => exact y_callU hC (x := ⟨"HalfByFive$Plain", "comesInRain", "()Z"⟩) (owner := "HalfByFive$Plain") (n := 0) 50 (hA 50 (by decide)) cl_way0 rfl (c_X5_comesInRain hJ hA l σ0 0 (by decide)  x hx) h1 w3_124 w1_5 (by decide +kernel) ⟨Nat.le_trans (by decide) hR.1, Nat.le_trans (by decide) hR.2⟩ w3_111 w3_114 w3_124 w3_112 w3_112 w3_113 rfl hst hW hcs hdg pq hq σ3 h3 st1 hs1 kk
  | 1, _, hx, hst => exact y_callU hC (x := ⟨"HalfByFive$Plain", "comesInRain", "()Z"⟩) (owner := "HalfByFive$Plain") (n := 0) 51 (hA 51 (by decide)) cl_way1 rfl (c_X5_comesInRain hJ hA l σ0 1 (by decide)  x hx) h1 w3_124 w1_5 (by decide +kernel) ⟨Nat.le_trans (by decide) hR.1, Nat.le_trans (by decide) hR.2⟩ w3_111 w3_114 w3_124 w3_112 w3_112 w3_123 rfl hst hW hcs hdg pq hq σ3 h3 st1 hs1 kk
  | 2, _, hx, hst => exact y_callU hC (x := ⟨"HalfByFive$Plain", "comesInRain", "()Z"⟩) (owner := "HalfByFive$Plain") (n := 0) 52 (hA 52 (by decide)) cl_way2 rfl (c_X1_comesInRain hJ hA l σ0 2 (by decide)  x hx) h1 w3_120 w1_7 (by decide +kernel) ⟨Nat.le_trans (by decide) hR.1, Nat.le_trans (by decide) hR.2⟩ w3_111 w3_114 w3_124 w3_112 w3_119 w3_118 rfl hst hW hcs hdg pq hq σ3 h3 st1 hs1 kk
  | 3, _, hx, hst => exact y_callU hC (x := ⟨"HalfByFive$Plain", "comesInRain", "()Z"⟩) (owner := "HalfByFive$Plain") (n := 0) 53 (hA 53 (by decide)) cl_way3 rfl (c_X5_comesInRain hJ hA l σ0 3 (by decide)  x hx) h1 w3_124 w1_5 (by decide +kernel) ⟨Nat.le_trans (by decide) hR.1, Nat.le_trans (by decide) hR.2⟩ w3_111 w3_114 w3_124 w3_112 w3_112 w3_122 rfl hst hW hcs hdg pq hq σ3 h3 st1 hs1 kk
  | 4, _, hx, hst => exact y_callU hC (x := ⟨"HalfByFive$Plain", "comesInRain", "()Z"⟩) (owner := "HalfByFive$Plain") (n := 0) 54 (hA 54 (by decide)) cl_way4 rfl (c_X0_comesInRain hJ hA l σ0 4 (by decide)  x hx) h1 w3_117 w1_9 (by decide +kernel) ⟨Nat.le_trans (by decide) hR.1, Nat.le_trans (by decide) hR.2⟩ w3_111 w3_114 w3_124 w3_112 w3_116 w3_115 rfl hst hW hcs hdg pq hq σ3 h3 st1 hs1 kk
  | 5, _, hx, hst => exact y_callU hC (x := ⟨"HalfByFive$Plain", "comesInRain", "()Z"⟩) (owner := "HalfByFive$Plain") (n := 0) 55 (hA 55 (by decide)) cl_way5 rfl (c_X5_comesInRain hJ hA l σ0 5 (by decide)  x hx) h1 w3_124 w1_5 (by decide +kernel) ⟨Nat.le_trans (by decide) hR.1, Nat.le_trans (by decide) hR.2⟩ w3_111 w3_114 w3_124 w3_112 w3_112 w3_121 rfl hst hW hcs hdg pq hq σ3 h3 st1 hs1 kk
  | wv + 6, hw, _, _ => exact absurd hw (by omega)
