def f_X3_startAnew (u : MSt) (a1 : Int32) (a2 : Int32) : Option (MSt) :=
  lt (sM_punnets u a1) fun g2 => 
    (lt (sM_heat g2 a2) fun g7 => 
    (lt (sM_rainHours g7 (0 : Int32)) fun g12 => 
    (lt (sM_size g12 (0 : Int32)) fun g17 => 
    (lt (sM_totalTakings g17 (0 : Int32)) fun g22 => 
    (lt (sM_totalThrown g22 (0 : Int32)) fun g27 => 
    (lt (sM_soldSize g27 (0 : Int32)) fun g32 => 
    (lt (sM_pastSize g32 (0 : Int32)) fun g37 => 
    ((f_J7_fill_53178 10 (40 : Int32) (pM_prices g37)).bind fun x46 => 
    (lt (sM_prices g37 x46) fun g46 => 
    ((f_J7_fill_53178 10 (0 : Int32) (pM_theirPrices g46)).bind fun x54 => 
    (lt (sM_theirPrices g46 x54) fun g54 => 
    (some g54))))))))))))
theorem cwd_X3_startAnew : yX3_startAnew.cls ≠ "java/lang/invoke/MethodHandle" ∧ yX3_startAnew.cls ≠ "java/lang/invoke/VarHandle" ∧ (parseMethodDescriptor yX3_startAnew.desc).map (fun d => d.parameters.length) = some 2 := by decide +kernel
set_option maxHeartbeats 4000000 in
set_option maxRecDepth 100000 in
theorem c_X3_startAnew {Γ : GC} (hJ : GJ Γ) (hA : ∀ i, i < 66 → act Γ i) (l : Launch) (σ : GSt) (k : Nat) (hk4 : k < 4) (u : MSt) (a1 : Int32) (a2 : Int32) (x : MSt) (hk : f_X3_startAnew u a1 a2 = some x) : Mt Γ l yX3_startAnew cX3_startAnew 3 none 1 23 [.ref (ad Γ (10 * k)), .int a1, .int a2] (gM k σ u) none (gM k σ x) := by
  refine y_enter (by decide) hJ (Nat.le_of_ble_eq_true rfl) [(0, .ref (ad Γ (10 * k))), (1, .int a1), (2, .int a2)] rfl ?_
  intro p e s' m args below meth c' hC hr hlk
  have hM : ∀ j, j < 10 → act Γ (10 * k + j) := fun j hj => hA _ (by omega)
  refine y_aload_n hC dX3_startAnew_0 0 rfl 1 rfl ?_
  refine y_iload_n hC dX3_startAnew_1 1 rfl 2 rfl ?_
  obtain ⟨g2, eg2, hk⟩ := ob_lt hk
  refine y_put hC (10 * k) (hM 0 (by decide)) (cl_M (k := k) (mm := σ.1.2.1) (u := u) hk4 rfl) rfl inU3 tyX3_ok nmX3 0 (by decide) w1_38 rfl rfl rfl rfl (Nat.le_of_ble_eq_true rfl) (gM k σ g2) (by subst eg2; exact (cu_M_punnets (v := a1) (k := k) (mm := σ.1.2.1) (u := u) hk4 rfl rfl)) dX3_startAnew_2 5 rfl ?_
  refine y_aload_n hC dX3_startAnew_5 0 rfl 6 rfl ?_
  refine y_iload_n hC dX3_startAnew_6 2 rfl 7 rfl ?_
  obtain ⟨g7, eg7, hk⟩ := ob_lt hk
  refine y_put hC (10 * k) (hM 0 (by decide)) (cl_M (k := k) (mm := σ.1.2.1) (u := g2) hk4 rfl) rfl inU3 tyX3_ok nmX3 1 (by decide) w1_41 rfl rfl rfl rfl (Nat.le_of_ble_eq_true rfl) (gM k σ g7) (by subst eg7; exact (cu_M_heat (v := a2) (k := k) (mm := σ.1.2.1) (u := g2) hk4 rfl rfl)) dX3_startAnew_7 10 rfl ?_
  refine y_aload_n hC dX3_startAnew_10 0 rfl 11 rfl ?_
  refine y_iconst hC dX3_startAnew_11 (v := (0 : Int32)) (by decide) 12 rfl ?_
  obtain ⟨g12, eg12, hk⟩ := ob_lt hk
  refine y_put hC (10 * k) (hM 0 (by decide)) (cl_M (k := k) (mm := σ.1.2.1) (u := g7) hk4 rfl) rfl inU3 tyX3_ok nmX3 2 (by decide) w1_44 rfl rfl rfl rfl (Nat.le_of_ble_eq_true rfl) (gM k σ g12) (by subst eg12; exact (cu_M_rainHours (v := (0 : Int32)) (k := k) (mm := σ.1.2.1) (u := g7) hk4 rfl rfl)) dX3_startAnew_12 15 rfl ?_
  refine y_aload_n hC dX3_startAnew_15 0 rfl 16 rfl ?_
  refine y_iconst hC dX3_startAnew_16 (v := (0 : Int32)) (by decide) 17 rfl ?_
  obtain ⟨g17, eg17, hk⟩ := ob_lt hk
  refine y_put hC (10 * k) (hM 0 (by decide)) (cl_M (k := k) (mm := σ.1.2.1) (u := g12) hk4 rfl) rfl inU3 tyX3_ok nmX3 3 (by decide) w1_47 rfl rfl rfl rfl (Nat.le_of_ble_eq_true rfl) (gM k σ g17) (by subst eg17; exact (cu_M_size (v := (0 : Int32)) (k := k) (mm := σ.1.2.1) (u := g12) hk4 rfl rfl)) dX3_startAnew_17 20 rfl ?_
  refine y_aload_n hC dX3_startAnew_20 0 rfl 21 rfl ?_
  refine y_iconst hC dX3_startAnew_21 (v := (0 : Int32)) (by decide) 22 rfl ?_
  obtain ⟨g22, eg22, hk⟩ := ob_lt hk
  refine y_put hC (10 * k) (hM 0 (by decide)) (cl_M (k := k) (mm := σ.1.2.1) (u := g17) hk4 rfl) rfl inU3 tyX3_ok nmX3 4 (by decide) w1_51 rfl rfl rfl rfl (Nat.le_of_ble_eq_true rfl) (gM k σ g22) (by subst eg22; exact (cu_M_totalTakings (v := (0 : Int32)) (k := k) (mm := σ.1.2.1) (u := g17) hk4 rfl rfl)) dX3_startAnew_22 25 rfl ?_
  refine y_aload_n hC dX3_startAnew_25 0 rfl 26 rfl ?_
  refine y_iconst hC dX3_startAnew_26 (v := (0 : Int32)) (by decide) 27 rfl ?_
  obtain ⟨g27, eg27, hk⟩ := ob_lt hk
  refine y_put hC (10 * k) (hM 0 (by decide)) (cl_M (k := k) (mm := σ.1.2.1) (u := g22) hk4 rfl) rfl inU3 tyX3_ok nmX3 5 (by decide) w1_53 rfl rfl rfl rfl (Nat.le_of_ble_eq_true rfl) (gM k σ g27) (by subst eg27; exact (cu_M_totalThrown (v := (0 : Int32)) (k := k) (mm := σ.1.2.1) (u := g22) hk4 rfl rfl)) dX3_startAnew_27 30 rfl ?_
  refine y_aload_n hC dX3_startAnew_30 0 rfl 31 rfl ?_
  refine y_iconst hC dX3_startAnew_31 (v := (0 : Int32)) (by decide) 32 rfl ?_
  obtain ⟨g32, eg32, hk⟩ := ob_lt hk
  refine y_put hC (10 * k) (hM 0 (by decide)) (cl_M (k := k) (mm := σ.1.2.1) (u := g27) hk4 rfl) rfl inU3 tyX3_ok nmX3 6 (by decide) w1_55 rfl rfl rfl rfl (Nat.le_of_ble_eq_true rfl) (gM k σ g32) (by subst eg32; exact (cu_M_soldSize (v := (0 : Int32)) (k := k) (mm := σ.1.2.1) (u := g27) hk4 rfl rfl)) dX3_startAnew_32 35 rfl ?_
  refine y_aload_n hC dX3_startAnew_35 0 rfl 36 rfl ?_
  refine y_iconst hC dX3_startAnew_36 (v := (0 : Int32)) (by decide) 37 rfl ?_
  obtain ⟨g37, eg37, hk⟩ := ob_lt hk
  refine y_put hC (10 * k) (hM 0 (by decide)) (cl_M (k := k) (mm := σ.1.2.1) (u := g32) hk4 rfl) rfl inU3 tyX3_ok nmX3 7 (by decide) w1_58 rfl rfl rfl rfl (Nat.le_of_ble_eq_true rfl) (gM k σ g37) (by subst eg37; exact (cu_M_pastSize (v := (0 : Int32)) (k := k) (mm := σ.1.2.1) (u := g32) hk4 rfl rfl)) dX3_startAnew_37 40 rfl ?_
  refine y_aload_n hC dX3_startAnew_40 0 rfl 41 rfl ?_
  refine y_get hC (10 * k) (hM 0 (by decide)) (cl_M (k := k) (mm := σ.1.2.1) (u := g37) hk4 rfl) rfl inU3 8 (by decide) w1_60 rfl dX3_startAnew_41 44 rfl ?_
  refine y_bipush hC dX3_startAnew_44 (v := (40 : Int32)) (by decide) 46 rfl ?_
  obtain ⟨x46, hx46, hk⟩ := ob_bind hk
  obtain ⟨g46, eg46, hk⟩ := ob_lt hk
  refine y_callS hC (c_J7_fill_53178 hJ l (fun z46 => (gM k σ (sM_prices g37 z46))) (10 * k + 1) (hM 1 (by decide)) 10 (fun z => (cl_M_prices (k := k) (mm := σ.1.2.1) (u := (sM_prices g37 z)) hk4 rfl)) (fun z z2 => (cuf_M_prices (k := k) (mm := σ.1.2.1) (u := g37) (z := z) (v := z2) hk4 rfl rfl)) (40 : Int32) (pM_prices g37) x46 hx46) (congrArg (fun zz => (gM k σ zz)) (eta_M_prices _).symm) ⟨w1_37, w1_3, cwd_J7_fill_53178, by decide, by decide⟩ w1_35 w1_36 rfl rfl (Nat.le_of_ble_eq_true rfl) (by decide) dX3_startAnew_46 49 rfl (gM k σ g46) (by subst eg46; rfl) [] rfl ?_
  refine y_aload_n hC dX3_startAnew_49 0 rfl 50 rfl ?_
  refine y_get hC (10 * k) (hM 0 (by decide)) (cl_M (k := k) (mm := σ.1.2.1) (u := g46) hk4 rfl) rfl inU3 9 (by decide) w1_61 rfl dX3_startAnew_50 53 rfl ?_
  refine y_iconst hC dX3_startAnew_53 (v := (0 : Int32)) (by decide) 54 rfl ?_
  obtain ⟨x54, hx54, hk⟩ := ob_bind hk
  obtain ⟨g54, eg54, hk⟩ := ob_lt hk
  refine y_callS hC (c_J7_fill_53178 hJ l (fun z54 => (gM k σ (sM_theirPrices g46 z54))) (10 * k + 2) (hM 2 (by decide)) 10 (fun z => (cl_M_theirPrices (k := k) (mm := σ.1.2.1) (u := (sM_theirPrices g46 z)) hk4 rfl)) (fun z z2 => (cuf_M_theirPrices (k := k) (mm := σ.1.2.1) (u := g46) (z := z) (v := z2) hk4 rfl rfl)) (0 : Int32) (pM_theirPrices g46) x54 hx54) (congrArg (fun zz => (gM k σ zz)) (eta_M_theirPrices _).symm) ⟨w1_37, w1_3, cwd_J7_fill_53178, by decide, by decide⟩ w1_35 w1_36 rfl rfl (Nat.le_of_ble_eq_true rfl) (by decide) dX3_startAnew_54 57 rfl (gM k σ g54) (by subst eg54; rfl) [] rfl ?_
  have e := Option.some.inj hk
  exact y_vret hC hr hlk (by rw [← e]) dX3_startAnew_57
def f_X3_priceIn (u : MSt) (a1 : Int32) : Option (Int32) :=
  if a1 < 0 then
    some (0 : Int32)
  else
    if (10 : Int32) ≤ a1 then
      some (0 : Int32)
    else
      if inb a1 10 then 
        (some (pM_prices u a1.toNatClampNeg))
      else none
theorem cwd_X3_priceIn : yX3_priceIn.cls ≠ "java/lang/invoke/MethodHandle" ∧ yX3_priceIn.cls ≠ "java/lang/invoke/VarHandle" ∧ (parseMethodDescriptor yX3_priceIn.desc).map (fun d => d.parameters.length) = some 1 := by decide +kernel
set_option maxHeartbeats 4000000 in
set_option maxRecDepth 100000 in
theorem c_X3_priceIn {Γ : GC} (hJ : GJ Γ) (hA : ∀ i, i < 66 → act Γ i) (l : Launch) (σ : GSt) (k : Nat) (hk4 : k < 4) (u : MSt) (a1 : Int32) (x : Int32) (hk : f_X3_priceIn u a1 = some x) : Mt Γ l yX3_priceIn cX3_priceIn 2 (some .int) 0 0 [.ref (ad Γ (10 * k)), .int a1] (gM k σ u) (some (.int x)) (gM k σ u) := by
  refine y_enter (by decide) hJ (Nat.le_of_ble_eq_true rfl) [(0, .ref (ad Γ (10 * k))), (1, .int a1)] rfl ?_
  intro p e s' m args below meth c' hC hr hlk
  have hM : ∀ j, j < 10 → act Γ (10 * k + j) := fun j hj => hA _ (by omega)
  refine y_iload_n hC dX3_priceIn_0 1 rfl 1 rfl ?_
  refine y_if_lt hC dX3_priceIn_1 19 (by decide) 4 rfl (fun h1 => ?_) (fun h1 => ?_)
  · have hk := ob_pos h1 hk
    refine y_iconst hC dX3_priceIn_19 (v := (0 : Int32)) (by decide) 20 rfl ?_
    have e := Option.some.inj hk
    exact y_iret hC hr hlk (by rw [← e]) (by first | rfl | rw [← e]) dX3_priceIn_20
  · have hk := ob_neg h1 hk
    refine y_iload_n hC dX3_priceIn_4 1 rfl 5 rfl ?_
    refine y_bipush hC dX3_priceIn_5 (v := (10 : Int32)) (by decide) 7 rfl ?_
    refine y_icmp_ge hC dX3_priceIn_7 19 (by decide) 10 rfl (fun h7 => ?_) (fun h7 => ?_)
    · have hk := ob_pos h7 hk
      refine y_iconst hC dX3_priceIn_19 (v := (0 : Int32)) (by decide) 20 rfl ?_
      have e := Option.some.inj hk
      exact y_iret hC hr hlk (by rw [← e]) (by first | rfl | rw [← e]) dX3_priceIn_20
    · have hk := ob_neg h7 hk
      refine y_aload_n hC dX3_priceIn_10 0 rfl 11 rfl ?_
      refine y_get hC (10 * k) (hM 0 (by decide)) (cl_M (k := k) (mm := σ.1.2.1) (u := u) hk4 rfl) rfl inU3 8 (by decide) w1_60 rfl dX3_priceIn_11 14 rfl ?_
      refine y_iload_n hC dX3_priceIn_14 1 rfl 15 rfl ?_
      obtain ⟨h15, hk⟩ := ob_if hk
      refine y_iald hC (10 * k + 1) (hM 1 (by decide)) (cl_M_prices (k := k) (mm := σ.1.2.1) (u := u) hk4 rfl) h15 dX3_priceIn_15 16 rfl ?_
      refine y_goto hC dX3_priceIn_16 20 (by decide) ?_
      have e := Option.some.inj hk
      exact y_iret hC hr hlk (by rw [← e]) (by first | rfl | rw [← e]) dX3_priceIn_20
def f_X3_setPricesFrom_s6 (a1 : Int32) (a2 : Int32) (K6 : (Int32 × MSt) → Option (MSt)) (q6 : Int32 × MSt) : Option (MSt) :=
  if (10 : Int32) ≤ q6.1 then
    some q6.2
  else
    if inb q6.1 10 then 
      (lt (sM_prices q6.2 (upd (pM_prices q6.2) q6.1.toNatClampNeg a2)) fun g18 => 
      (K6 ((q6.1 + (1 : Int32)), g18)))
    else none
def f_X3_setPricesFrom (u : MSt) (a1 : Int32) (a2 : Int32) : Option (MSt) :=
  lt (if (0 : Int32) < a1 then a1 else (0 : Int32)) fun n5 => 
    (lp (f_X3_setPricesFrom_s6 a1 a2) 1000 (n5, u))
theorem cwd_X3_setPricesFrom : yX3_setPricesFrom.cls ≠ "java/lang/invoke/MethodHandle" ∧ yX3_setPricesFrom.cls ≠ "java/lang/invoke/VarHandle" ∧ (parseMethodDescriptor yX3_setPricesFrom.desc).map (fun d => d.parameters.length) = some 2 := by decide +kernel
set_option maxHeartbeats 4000000 in
set_option maxRecDepth 100000 in
theorem c_X3_setPricesFrom {Γ : GC} (hJ : GJ Γ) (hA : ∀ i, i < 66 → act Γ i) (l : Launch) (σ : GSt) (k : Nat) (hk4 : k < 4) (u : MSt) (a1 : Int32) (a2 : Int32) (x : MSt) (hk : f_X3_setPricesFrom u a1 a2 = some x) : Mt Γ l yX3_setPricesFrom cX3_setPricesFrom 4 none 1 30 [.ref (ad Γ (10 * k)), .int a1, .int a2] (gM k σ u) none (gM k σ x) := by
  refine y_enter (by decide) hJ (Nat.le_of_ble_eq_true rfl) [(0, .ref (ad Γ (10 * k))), (1, .int a1), (2, .int a2)] rfl ?_
  intro p e s' m args below meth c' hC hr hlk
  have hM : ∀ j, j < 10 → act Γ (10 * k + j) := fun j hj => hA _ (by omega)
  have L6 : ∀ (n6 : Nat) (q6 : Int32 × MSt), lp (f_X3_setPricesFrom_s6 a1 a2) n6 q6 = some x → Y Γ (GA Γ) p l e ({ frames := 1, cells := 0, slots := 0, locals := 30 } : Room) s' m args below meth c' 0 0 (MQ below (Qg Γ none (gM k σ x)) args s' 0 0 (GA Γ)) 4 (gM k σ q6.2) 6 [(0, .ref (ad Γ (10 * k))), (1, .int a1), (2, .int a2), (3, .int q6.1)] [] := by
    intro n6
    induction n6 with
    | zero => intro q6 hk; exact (lp_zero hk).elim
    | succ n6 ih6 =>
      intro q6 hk
      have hk : f_X3_setPricesFrom_s6 a1 a2 (lp (f_X3_setPricesFrom_s6 a1 a2) n6) q6 = some x := (lp_succ _ _ _).symm.trans hk
      refine y_iload_n hC dX3_setPricesFrom_6 3 rfl 7 rfl ?_
      refine y_bipush hC dX3_setPricesFrom_7 (v := (10 : Int32)) (by decide) 9 rfl ?_
      refine y_icmp_ge hC dX3_setPricesFrom_9 25 (by decide) 12 rfl (fun h9 => ?_) (fun h9 => ?_)
      · have hk := ob_pos h9 hk
        have e := Option.some.inj hk
        exact y_vret hC hr hlk (by rw [← e]) dX3_setPricesFrom_25
      · have hk := ob_neg h9 hk
        refine y_aload_n hC dX3_setPricesFrom_12 0 rfl 13 rfl ?_
        refine y_get hC (10 * k) (hM 0 (by decide)) (cl_M (k := k) (mm := σ.1.2.1) (u := q6.2) hk4 rfl) rfl inU3 8 (by decide) w1_60 rfl dX3_setPricesFrom_13 16 rfl ?_
        refine y_iload_n hC dX3_setPricesFrom_16 3 rfl 17 rfl ?_
        refine y_iload_n hC dX3_setPricesFrom_17 2 rfl 18 rfl ?_
        obtain ⟨h18, hk⟩ := ob_if hk
        obtain ⟨g18, eg18, hk⟩ := ob_lt hk
        refine y_iast hC (10 * k + 1) (hM 1 (by decide)) (cl_M_prices (k := k) (mm := σ.1.2.1) (u := q6.2) hk4 rfl) h18 (gM k σ g18) (by subst eg18; exact (cu_M_prices (v := (upd (pM_prices q6.2) q6.1.toNatClampNeg a2)) (k := k) (mm := σ.1.2.1) (u := q6.2) hk4 rfl rfl)) dX3_setPricesFrom_18 19 rfl ?_
        refine y_iinc hC dX3_setPricesFrom_19 3 rfl (v := (q6.1 + (1 : Int32))) rfl (by decide) [(3, .int (q6.1 + (1 : Int32))), (0, .ref (ad Γ (10 * k))), (1, .int a1), (2, .int a2)] rfl 22 rfl ?_
        refine y_goto hC dX3_setPricesFrom_22 6 (by decide) ?_
        refine y_sub [1, 2, 3, 0] rfl ?_
        exact ih6 ((q6.1 + (1 : Int32)), g18) hk
  refine y_iconst hC dX3_setPricesFrom_0 (v := (0 : Int32)) (by decide) 1 rfl ?_
  refine y_iload_n hC dX3_setPricesFrom_1 1 rfl 2 rfl ?_
  refine y_max hC w2_98 w2_99 w1_14 w2_100 ⟨by decide, Nat.le_of_ble_eq_true rfl⟩ (by decide) dX3_setPricesFrom_2 5 rfl ?_
  obtain ⟨n5, en5, hk⟩ := ob_lt hk
  refine y_topi en5 ?_
  refine y_istore_n hC dX3_setPricesFrom_5 (by decide) [(3, .int n5), (0, .ref (ad Γ (10 * k))), (1, .int a1), (2, .int a2)] rfl 6 rfl ?_
  refine y_sub [1, 2, 3, 0] rfl ?_
  exact L6 1000 (n5, u) hk
def f_X3_theirPriceIn (u : MSt) (a1 : Int32) : Option (Int32) :=
  if a1 < 0 then
    some (0 : Int32)
  else
    if (10 : Int32) ≤ a1 then
      some (0 : Int32)
    else
      if inb a1 10 then 
        (some (pM_theirPrices u a1.toNatClampNeg))
      else none
theorem cwd_X3_theirPriceIn : yX3_theirPriceIn.cls ≠ "java/lang/invoke/MethodHandle" ∧ yX3_theirPriceIn.cls ≠ "java/lang/invoke/VarHandle" ∧ (parseMethodDescriptor yX3_theirPriceIn.desc).map (fun d => d.parameters.length) = some 1 := by decide +kernel
set_option maxHeartbeats 4000000 in
set_option maxRecDepth 100000 in
theorem c_X3_theirPriceIn {Γ : GC} (hJ : GJ Γ) (hA : ∀ i, i < 66 → act Γ i) (l : Launch) (σ : GSt) (k : Nat) (hk4 : k < 4) (u : MSt) (a1 : Int32) (x : Int32) (hk : f_X3_theirPriceIn u a1 = some x) : Mt Γ l yX3_theirPriceIn cX3_theirPriceIn 2 (some .int) 0 0 [.ref (ad Γ (10 * k)), .int a1] (gM k σ u) (some (.int x)) (gM k σ u) := by
  refine y_enter (by decide) hJ (Nat.le_of_ble_eq_true rfl) [(0, .ref (ad Γ (10 * k))), (1, .int a1)] rfl ?_
  intro p e s' m args below meth c' hC hr hlk
  have hM : ∀ j, j < 10 → act Γ (10 * k + j) := fun j hj => hA _ (by omega)
  refine y_iload_n hC dX3_theirPriceIn_0 1 rfl 1 rfl ?_
  refine y_if_lt hC dX3_theirPriceIn_1 19 (by decide) 4 rfl (fun h1 => ?_) (fun h1 => ?_)
  · have hk := ob_pos h1 hk
    refine y_iconst hC dX3_theirPriceIn_19 (v := (0 : Int32)) (by decide) 20 rfl ?_
    have e := Option.some.inj hk
    exact y_iret hC hr hlk (by rw [← e]) (by first | rfl | rw [← e]) dX3_theirPriceIn_20
  · have hk := ob_neg h1 hk
    refine y_iload_n hC dX3_theirPriceIn_4 1 rfl 5 rfl ?_
    refine y_bipush hC dX3_theirPriceIn_5 (v := (10 : Int32)) (by decide) 7 rfl ?_
    refine y_icmp_ge hC dX3_theirPriceIn_7 19 (by decide) 10 rfl (fun h7 => ?_) (fun h7 => ?_)
    · have hk := ob_pos h7 hk
      refine y_iconst hC dX3_theirPriceIn_19 (v := (0 : Int32)) (by decide) 20 rfl ?_
      have e := Option.some.inj hk
      exact y_iret hC hr hlk (by rw [← e]) (by first | rfl | rw [← e]) dX3_theirPriceIn_20
    · have hk := ob_neg h7 hk
      refine y_aload_n hC dX3_theirPriceIn_10 0 rfl 11 rfl ?_
      refine y_get hC (10 * k) (hM 0 (by decide)) (cl_M (k := k) (mm := σ.1.2.1) (u := u) hk4 rfl) rfl inU3 9 (by decide) w1_61 rfl dX3_theirPriceIn_11 14 rfl ?_
      refine y_iload_n hC dX3_theirPriceIn_14 1 rfl 15 rfl ?_
      obtain ⟨h15, hk⟩ := ob_if hk
      refine y_iald hC (10 * k + 2) (hM 2 (by decide)) (cl_M_theirPrices (k := k) (mm := σ.1.2.1) (u := u) hk4 rfl) h15 dX3_theirPriceIn_15 16 rfl ?_
      refine y_goto hC dX3_theirPriceIn_16 20 (by decide) ?_
      have e := Option.some.inj hk
      exact y_iret hC hr hlk (by rw [← e]) (by first | rfl | rw [← e]) dX3_theirPriceIn_20
def f_X3_setTheirPrice (u : MSt) (a1 : Int32) (a2 : Int32) : Option (MSt) :=
  if a1 < 0 then
    some u
  else
    if (10 : Int32) ≤ a1 then
      some u
    else
      if inb a1 10 then 
        (lt (sM_theirPrices u (upd (pM_theirPrices u) a1.toNatClampNeg a2)) fun g16 => 
        (some g16))
      else none
theorem cwd_X3_setTheirPrice : yX3_setTheirPrice.cls ≠ "java/lang/invoke/MethodHandle" ∧ yX3_setTheirPrice.cls ≠ "java/lang/invoke/VarHandle" ∧ (parseMethodDescriptor yX3_setTheirPrice.desc).map (fun d => d.parameters.length) = some 2 := by decide +kernel
set_option maxHeartbeats 4000000 in
set_option maxRecDepth 100000 in
theorem c_X3_setTheirPrice {Γ : GC} (hJ : GJ Γ) (hA : ∀ i, i < 66 → act Γ i) (l : Launch) (σ : GSt) (k : Nat) (hk4 : k < 4) (u : MSt) (a1 : Int32) (a2 : Int32) (x : MSt) (hk : f_X3_setTheirPrice u a1 a2 = some x) : Mt Γ l yX3_setTheirPrice cX3_setTheirPrice 3 none 0 0 [.ref (ad Γ (10 * k)), .int a1, .int a2] (gM k σ u) none (gM k σ x) := by
  refine y_enter (by decide) hJ (Nat.le_of_ble_eq_true rfl) [(0, .ref (ad Γ (10 * k))), (1, .int a1), (2, .int a2)] rfl ?_
  intro p e s' m args below meth c' hC hr hlk
  have hM : ∀ j, j < 10 → act Γ (10 * k + j) := fun j hj => hA _ (by omega)
  refine y_iload_n hC dX3_setTheirPrice_0 1 rfl 1 rfl ?_
  refine y_if_lt hC dX3_setTheirPrice_1 17 (by decide) 4 rfl (fun h1 => ?_) (fun h1 => ?_)
  · have hk := ob_pos h1 hk
    have e := Option.some.inj hk
    exact y_vret hC hr hlk (by rw [← e]) dX3_setTheirPrice_17
  · have hk := ob_neg h1 hk
    refine y_iload_n hC dX3_setTheirPrice_4 1 rfl 5 rfl ?_
    refine y_bipush hC dX3_setTheirPrice_5 (v := (10 : Int32)) (by decide) 7 rfl ?_
    refine y_icmp_ge hC dX3_setTheirPrice_7 17 (by decide) 10 rfl (fun h7 => ?_) (fun h7 => ?_)
    · have hk := ob_pos h7 hk
      have e := Option.some.inj hk
      exact y_vret hC hr hlk (by rw [← e]) dX3_setTheirPrice_17
    · have hk := ob_neg h7 hk
      refine y_aload_n hC dX3_setTheirPrice_10 0 rfl 11 rfl ?_
      refine y_get hC (10 * k) (hM 0 (by decide)) (cl_M (k := k) (mm := σ.1.2.1) (u := u) hk4 rfl) rfl inU3 9 (by decide) w1_61 rfl dX3_setTheirPrice_11 14 rfl ?_
      refine y_iload_n hC dX3_setTheirPrice_14 1 rfl 15 rfl ?_
      refine y_iload_n hC dX3_setTheirPrice_15 2 rfl 16 rfl ?_
      obtain ⟨h16, hk⟩ := ob_if hk
      obtain ⟨g16, eg16, hk⟩ := ob_lt hk
      refine y_iast hC (10 * k + 2) (hM 2 (by decide)) (cl_M_theirPrices (k := k) (mm := σ.1.2.1) (u := u) hk4 rfl) h16 (gM k σ g16) (by subst eg16; exact (cu_M_theirPrices (v := (upd (pM_theirPrices u) a1.toNatClampNeg a2)) (k := k) (mm := σ.1.2.1) (u := u) hk4 rfl rfl)) dX3_setTheirPrice_16 17 rfl ?_
      have e := Option.some.inj hk
      exact y_vret hC hr hlk (by rw [← e]) dX3_setTheirPrice_17
def f_X3_addBuyer (u : MSt) (a1 : Int32) (a2 : Int32) (a3 : Int32) (a4 : Int32) : Option (MSt) :=
  if (pM_size u) < 0 then
    some u
  else
    if (pM_size u) < (8 : Int32) then
      if inb (pM_size u) 8 then 
        (lt (sM_kinds u (upd (pM_kinds u) (pM_size u).toNatClampNeg a1)) fun g26 => 
        (if inb (pM_size g26) 8 then 
        (lt (sM_hours g26 (upd (pM_hours g26) (pM_size g26).toNatClampNeg a2)) fun g36 => 
        (if inb (pM_size g36) 8 then 
        (lt (sM_worths g36 (upd (pM_worths g36) (pM_size g36).toNatClampNeg a3)) fun g46 => 
        (if inb (pM_size g46) 8 then 
        (lt (sM_wants g46 (upd (pM_wants g46) (pM_size g46).toNatClampNeg a4)) fun g57 => 
        (lt (sM_size g57 ((pM_size g57) + (1 : Int32))) fun g65 => 
        (lt (sM_pastSize g65 (0 : Int32)) fun g70 => 
        (some g70))))
      else none))
      else none))
      else none))
      else none
    else
      some u
theorem cwd_X3_addBuyer : yX3_addBuyer.cls ≠ "java/lang/invoke/MethodHandle" ∧ yX3_addBuyer.cls ≠ "java/lang/invoke/VarHandle" ∧ (parseMethodDescriptor yX3_addBuyer.desc).map (fun d => d.parameters.length) = some 4 := by decide +kernel
set_option maxHeartbeats 4000000 in
set_option maxRecDepth 100000 in
theorem c_X3_addBuyer {Γ : GC} (hJ : GJ Γ) (hA : ∀ i, i < 66 → act Γ i) (l : Launch) (σ : GSt) (k : Nat) (hk4 : k < 4) (u : MSt) (a1 : Int32) (a2 : Int32) (a3 : Int32) (a4 : Int32) (x : MSt) (hk : f_X3_addBuyer u a1 a2 a3 a4 = some x) : Mt Γ l yX3_addBuyer cX3_addBuyer 5 none 0 0 [.ref (ad Γ (10 * k)), .int a1, .int a2, .int a3, .int a4] (gM k σ u) none (gM k σ x) := by
  refine y_enter (by decide) hJ (Nat.le_of_ble_eq_true rfl) [(0, .ref (ad Γ (10 * k))), (1, .int a1), (2, .int a2), (3, .int a3), (4, .int a4)] rfl ?_
  intro p e s' m args below meth c' hC hr hlk
  have hM : ∀ j, j < 10 → act Γ (10 * k + j) := fun j hj => hA _ (by omega)
  refine y_aload_n hC dX3_addBuyer_0 0 rfl 1 rfl ?_
  refine y_get hC (10 * k) (hM 0 (by decide)) (cl_M (k := k) (mm := σ.1.2.1) (u := u) hk4 rfl) rfl inU3 3 (by decide) w1_47 rfl dX3_addBuyer_1 4 rfl ?_
  refine y_if_lt hC dX3_addBuyer_4 16 (by decide) 7 rfl (fun h4 => ?_) (fun h4 => ?_)
  · have hk := ob_pos h4 hk
    have e := Option.some.inj hk
    exact y_vret hC hr hlk (by rw [← e]) dX3_addBuyer_16
  · have hk := ob_neg h4 hk
    refine y_aload_n hC dX3_addBuyer_7 0 rfl 8 rfl ?_
    refine y_get hC (10 * k) (hM 0 (by decide)) (cl_M (k := k) (mm := σ.1.2.1) (u := u) hk4 rfl) rfl inU3 3 (by decide) w1_47 rfl dX3_addBuyer_8 11 rfl ?_
    refine y_bipush hC dX3_addBuyer_11 (v := (8 : Int32)) (by decide) 13 rfl ?_
    refine y_icmp_lt hC dX3_addBuyer_13 17 (by decide) 16 rfl (fun h13 => ?_) (fun h13 => ?_)
    · have hk := ob_pos h13 hk
      refine y_aload_n hC dX3_addBuyer_17 0 rfl 18 rfl ?_
      refine y_get hC (10 * k) (hM 0 (by decide)) (cl_M (k := k) (mm := σ.1.2.1) (u := u) hk4 rfl) rfl inU3 10 (by decide) w1_62 rfl dX3_addBuyer_18 21 rfl ?_
      refine y_aload_n hC dX3_addBuyer_21 0 rfl 22 rfl ?_
      refine y_get hC (10 * k) (hM 0 (by decide)) (cl_M (k := k) (mm := σ.1.2.1) (u := u) hk4 rfl) rfl inU3 3 (by decide) w1_47 rfl dX3_addBuyer_22 25 rfl ?_
      refine y_iload_n hC dX3_addBuyer_25 1 rfl 26 rfl ?_
      obtain ⟨h26, hk⟩ := ob_if hk
      obtain ⟨g26, eg26, hk⟩ := ob_lt hk
      refine y_iast hC (10 * k + 3) (hM 3 (by decide)) (cl_M_kinds (k := k) (mm := σ.1.2.1) (u := u) hk4 rfl) h26 (gM k σ g26) (by subst eg26; exact (cu_M_kinds (v := (upd (pM_kinds u) (pM_size u).toNatClampNeg a1)) (k := k) (mm := σ.1.2.1) (u := u) hk4 rfl rfl)) dX3_addBuyer_26 27 rfl ?_
      refine y_aload_n hC dX3_addBuyer_27 0 rfl 28 rfl ?_
      refine y_get hC (10 * k) (hM 0 (by decide)) (cl_M (k := k) (mm := σ.1.2.1) (u := g26) hk4 rfl) rfl inU3 11 (by decide) w1_65 rfl dX3_addBuyer_28 31 rfl ?_
      refine y_aload_n hC dX3_addBuyer_31 0 rfl 32 rfl ?_
      refine y_get hC (10 * k) (hM 0 (by decide)) (cl_M (k := k) (mm := σ.1.2.1) (u := g26) hk4 rfl) rfl inU3 3 (by decide) w1_47 rfl dX3_addBuyer_32 35 rfl ?_
      refine y_iload_n hC dX3_addBuyer_35 2 rfl 36 rfl ?_
      obtain ⟨h36, hk⟩ := ob_if hk
      obtain ⟨g36, eg36, hk⟩ := ob_lt hk
      refine y_iast hC (10 * k + 4) (hM 4 (by decide)) (cl_M_hours (k := k) (mm := σ.1.2.1) (u := g26) hk4 rfl) h36 (gM k σ g36) (by subst eg36; exact (cu_M_hours (v := (upd (pM_hours g26) (pM_size g26).toNatClampNeg a2)) (k := k) (mm := σ.1.2.1) (u := g26) hk4 rfl rfl)) dX3_addBuyer_36 37 rfl ?_
      refine y_aload_n hC dX3_addBuyer_37 0 rfl 38 rfl ?_
      refine y_get hC (10 * k) (hM 0 (by decide)) (cl_M (k := k) (mm := σ.1.2.1) (u := g36) hk4 rfl) rfl inU3 12 (by decide) w1_68 rfl dX3_addBuyer_38 41 rfl ?_
      refine y_aload_n hC dX3_addBuyer_41 0 rfl 42 rfl ?_
      refine y_get hC (10 * k) (hM 0 (by decide)) (cl_M (k := k) (mm := σ.1.2.1) (u := g36) hk4 rfl) rfl inU3 3 (by decide) w1_47 rfl dX3_addBuyer_42 45 rfl ?_
      refine y_iload_n hC dX3_addBuyer_45 3 rfl 46 rfl ?_
      obtain ⟨h46, hk⟩ := ob_if hk
      obtain ⟨g46, eg46, hk⟩ := ob_lt hk
      refine y_iast hC (10 * k + 5) (hM 5 (by decide)) (cl_M_worths (k := k) (mm := σ.1.2.1) (u := g36) hk4 rfl) h46 (gM k σ g46) (by subst eg46; exact (cu_M_worths (v := (upd (pM_worths g36) (pM_size g36).toNatClampNeg a3)) (k := k) (mm := σ.1.2.1) (u := g36) hk4 rfl rfl)) dX3_addBuyer_46 47 rfl ?_
      refine y_aload_n hC dX3_addBuyer_47 0 rfl 48 rfl ?_
      refine y_get hC (10 * k) (hM 0 (by decide)) (cl_M (k := k) (mm := σ.1.2.1) (u := g46) hk4 rfl) rfl inU3 13 (by decide) w1_71 rfl dX3_addBuyer_48 51 rfl ?_
      refine y_aload_n hC dX3_addBuyer_51 0 rfl 52 rfl ?_
      refine y_get hC (10 * k) (hM 0 (by decide)) (cl_M (k := k) (mm := σ.1.2.1) (u := g46) hk4 rfl) rfl inU3 3 (by decide) w1_47 rfl dX3_addBuyer_52 55 rfl ?_
      refine y_iload hC dX3_addBuyer_55 4 rfl 57 rfl ?_
      obtain ⟨h57, hk⟩ := ob_if hk
      obtain ⟨g57, eg57, hk⟩ := ob_lt hk
      refine y_iast hC (10 * k + 6) (hM 6 (by decide)) (cl_M_wants (k := k) (mm := σ.1.2.1) (u := g46) hk4 rfl) h57 (gM k σ g57) (by subst eg57; exact (cu_M_wants (v := (upd (pM_wants g46) (pM_size g46).toNatClampNeg a4)) (k := k) (mm := σ.1.2.1) (u := g46) hk4 rfl rfl)) dX3_addBuyer_57 58 rfl ?_
      refine y_aload_n hC dX3_addBuyer_58 0 rfl 59 rfl ?_
      refine y_dup hC dX3_addBuyer_59 rfl 60 rfl ?_
      refine y_get hC (10 * k) (hM 0 (by decide)) (cl_M (k := k) (mm := σ.1.2.1) (u := g57) hk4 rfl) rfl inU3 3 (by decide) w1_47 rfl dX3_addBuyer_60 63 rfl ?_
      refine y_iconst hC dX3_addBuyer_63 (v := (1 : Int32)) (by decide) 64 rfl ?_
      refine y_iadd hC dX3_addBuyer_64 65 rfl ?_
      obtain ⟨g65, eg65, hk⟩ := ob_lt hk
      refine y_put hC (10 * k) (hM 0 (by decide)) (cl_M (k := k) (mm := σ.1.2.1) (u := g57) hk4 rfl) rfl inU3 tyX3_ok nmX3 3 (by decide) w1_47 rfl rfl rfl rfl (Nat.le_of_ble_eq_true rfl) (gM k σ g65) (by subst eg65; exact (cu_M_size (v := ((pM_size g57) + (1 : Int32))) (k := k) (mm := σ.1.2.1) (u := g57) hk4 rfl rfl)) dX3_addBuyer_65 68 rfl ?_
      refine y_aload_n hC dX3_addBuyer_68 0 rfl 69 rfl ?_
      refine y_iconst hC dX3_addBuyer_69 (v := (0 : Int32)) (by decide) 70 rfl ?_
      obtain ⟨g70, eg70, hk⟩ := ob_lt hk
      refine y_put hC (10 * k) (hM 0 (by decide)) (cl_M (k := k) (mm := σ.1.2.1) (u := g65) hk4 rfl) rfl inU3 tyX3_ok nmX3 7 (by decide) w1_58 rfl rfl rfl rfl (Nat.le_of_ble_eq_true rfl) (gM k σ g70) (by subst eg70; exact (cu_M_pastSize (v := (0 : Int32)) (k := k) (mm := σ.1.2.1) (u := g65) hk4 rfl rfl)) dX3_addBuyer_70 73 rfl ?_
      have e := Option.some.inj hk
      exact y_vret hC hr hlk (by rw [← e]) dX3_addBuyer_73
    · have hk := ob_neg h13 hk
      have e := Option.some.inj hk
      exact y_vret hC hr hlk (by rw [← e]) dX3_addBuyer_16
def f_X3_becomes (u : MSt) (v : MSt) : Option (MSt) :=
  lt (sM_punnets u (pM_punnets v)) fun g5 => 
    (lt (sM_heat g5 (pM_heat v)) fun g13 => 
    (lt (sM_rainHours g13 (pM_rainHours v)) fun g21 => 
    (lt (sM_size g21 (pM_size v)) fun g29 => 
    (lt (sM_totalTakings g29 (pM_totalTakings v)) fun g37 => 
    (lt (sM_totalThrown g37 (pM_totalThrown v)) fun g45 => 
    (lt (sM_soldSize g45 (pM_soldSize v)) fun g53 => 
    (lt (sM_pastSize g53 (pM_pastSize v)) fun g61 => 
    (if (¬ (0 : Int32) < 0 ∧ ¬ (0 : Int32) < 0 ∧ ¬ (10 : Int32) < 0) ∧ (0 : Int32).toNatClampNeg + (10 : Int32).toNatClampNeg ≤ 10 ∧ (0 : Int32).toNatClampNeg + (10 : Int32).toNatClampNeg ≤ 10 then 
    (lt (sM_prices g61 (va_cpy (pM_prices v) (pM_prices g61) (0 : Int32).toNatClampNeg (0 : Int32).toNatClampNeg (10 : Int32).toNatClampNeg)) fun g76 => 
    (if (¬ (0 : Int32) < 0 ∧ ¬ (0 : Int32) < 0 ∧ ¬ (10 : Int32) < 0) ∧ (0 : Int32).toNatClampNeg + (10 : Int32).toNatClampNeg ≤ 10 ∧ (0 : Int32).toNatClampNeg + (10 : Int32).toNatClampNeg ≤ 10 then 
    (lt (sM_theirPrices g76 (va_cpy (pM_theirPrices v) (pM_theirPrices g76) (0 : Int32).toNatClampNeg (0 : Int32).toNatClampNeg (10 : Int32).toNatClampNeg)) fun g91 => 
    (if (¬ (0 : Int32) < 0 ∧ ¬ (0 : Int32) < 0 ∧ ¬ (8 : Int32) < 0) ∧ (0 : Int32).toNatClampNeg + (8 : Int32).toNatClampNeg ≤ 8 ∧ (0 : Int32).toNatClampNeg + (8 : Int32).toNatClampNeg ≤ 8 then 
    (lt (sM_kinds g91 (va_cpy (pM_kinds v) (pM_kinds g91) (0 : Int32).toNatClampNeg (0 : Int32).toNatClampNeg (8 : Int32).toNatClampNeg)) fun g106 => 
    (if (¬ (0 : Int32) < 0 ∧ ¬ (0 : Int32) < 0 ∧ ¬ (8 : Int32) < 0) ∧ (0 : Int32).toNatClampNeg + (8 : Int32).toNatClampNeg ≤ 8 ∧ (0 : Int32).toNatClampNeg + (8 : Int32).toNatClampNeg ≤ 8 then 
    (lt (sM_hours g106 (va_cpy (pM_hours v) (pM_hours g106) (0 : Int32).toNatClampNeg (0 : Int32).toNatClampNeg (8 : Int32).toNatClampNeg)) fun g121 => 
    (if (¬ (0 : Int32) < 0 ∧ ¬ (0 : Int32) < 0 ∧ ¬ (8 : Int32) < 0) ∧ (0 : Int32).toNatClampNeg + (8 : Int32).toNatClampNeg ≤ 8 ∧ (0 : Int32).toNatClampNeg + (8 : Int32).toNatClampNeg ≤ 8 then 
    (lt (sM_worths g121 (va_cpy (pM_worths v) (pM_worths g121) (0 : Int32).toNatClampNeg (0 : Int32).toNatClampNeg (8 : Int32).toNatClampNeg)) fun g136 => 
    (if (¬ (0 : Int32) < 0 ∧ ¬ (0 : Int32) < 0 ∧ ¬ (8 : Int32) < 0) ∧ (0 : Int32).toNatClampNeg + (8 : Int32).toNatClampNeg ≤ 8 ∧ (0 : Int32).toNatClampNeg + (8 : Int32).toNatClampNeg ≤ 8 then 
    (lt (sM_wants g136 (va_cpy (pM_wants v) (pM_wants g136) (0 : Int32).toNatClampNeg (0 : Int32).toNatClampNeg (8 : Int32).toNatClampNeg)) fun g151 => 
    (if (¬ (0 : Int32) < 0 ∧ ¬ (0 : Int32) < 0 ∧ ¬ (6 : Int32) < 0) ∧ (0 : Int32).toNatClampNeg + (6 : Int32).toNatClampNeg ≤ 6 ∧ (0 : Int32).toNatClampNeg + (6 : Int32).toNatClampNeg ≤ 6 then 
    (lt (sM_soldHours g151 (va_cpy (pM_soldHours v) (pM_soldHours g151) (0 : Int32).toNatClampNeg (0 : Int32).toNatClampNeg (6 : Int32).toNatClampNeg)) fun g166 => 
    (if (¬ (0 : Int32) < 0 ∧ ¬ (0 : Int32) < 0 ∧ ¬ (6 : Int32) < 0) ∧ (0 : Int32).toNatClampNeg + (6 : Int32).toNatClampNeg ≤ 6 ∧ (0 : Int32).toNatClampNeg + (6 : Int32).toNatClampNeg ≤ 6 then 
    (lt (sM_soldNumbers g166 (va_cpy (pM_soldNumbers v) (pM_soldNumbers g166) (0 : Int32).toNatClampNeg (0 : Int32).toNatClampNeg (6 : Int32).toNatClampNeg)) fun g181 => 
    (if (¬ (0 : Int32) < 0 ∧ ¬ (0 : Int32) < 0 ∧ ¬ (80 : Int32) < 0) ∧ (0 : Int32).toNatClampNeg + (80 : Int32).toNatClampNeg ≤ 80 ∧ (0 : Int32).toNatClampNeg + (80 : Int32).toNatClampNeg ≤ 80 then 
    (lt (sM_past g181 (va_cpy (pM_past v) (pM_past g181) (0 : Int32).toNatClampNeg (0 : Int32).toNatClampNeg (80 : Int32).toNatClampNeg)) fun g196 => 
    (some g196))
  else none))
  else none))
  else none))
  else none))
  else none))
  else none))
  else none))
  else none))
  else none))))))))
theorem cwd_X3_becomes : yX3_becomes.cls ≠ "java/lang/invoke/MethodHandle" ∧ yX3_becomes.cls ≠ "java/lang/invoke/VarHandle" ∧ (parseMethodDescriptor yX3_becomes.desc).map (fun d => d.parameters.length) = some 1 := by decide +kernel
set_option maxHeartbeats 4000000 in
set_option maxRecDepth 100000 in
theorem c_X3_becomes {Γ : GC} (hJ : GJ Γ) (hA : ∀ i, i < 66 → act Γ i) (l : Launch) (σ : GSt) (k : Nat) (hk4 : k < 4) (k2 : Nat) (hk42 : k2 < 4) (hkk : k ≠ k2) (u : MSt) (v : MSt) (x : MSt) (hk : f_X3_becomes u v = some x) : Mt Γ l yX3_becomes cX3_becomes 2 none 1 40 [.ref (ad Γ (10 * k)), .ref (ad Γ (10 * k2))] (gM k (gM k2 σ v) u) none (gM k (gM k2 σ v) x) := by
  refine y_enter (by decide) hJ (Nat.le_of_ble_eq_true rfl) [(0, .ref (ad Γ (10 * k))), (1, .ref (ad Γ (10 * k2)))] rfl ?_
  intro p e s' m args below meth c' hC hr hlk
  have hM : ∀ j, j < 10 → act Γ (10 * k + j) := fun j hj => hA _ (by omega)
  have hN : ∀ j, j < 10 → act Γ (10 * k2 + j) := fun j hj => hA _ (by omega)
  refine y_aload_n hC dX3_becomes_0 0 rfl 1 rfl ?_
  refine y_aload_n hC dX3_becomes_1 1 rfl 2 rfl ?_
  refine y_get hC (10 * k2) (hN 0 (by decide)) (cl_M (k := k2) (mm := setM k σ.1.2.1 u) (u := v) hk42 (setM_comm hkk hk4 hk42 _ _ _)) rfl inU3 0 (by decide) w1_38 rfl dX3_becomes_2 5 rfl ?_
  obtain ⟨g5, eg5, hk⟩ := ob_lt hk
  refine y_put hC (10 * k) (hM 0 (by decide)) (cl_M (k := k) (mm := setM k2 σ.1.2.1 v) (u := u) hk4 rfl) rfl inU3 tyX3_ok nmX3 0 (by decide) w1_38 rfl rfl rfl rfl (Nat.le_of_ble_eq_true rfl) (gM k (gM k2 σ v) g5) (by subst eg5; exact (cu_M_punnets (v := (pM_punnets v)) (k := k) (mm := setM k2 σ.1.2.1 v) (u := u) hk4 rfl rfl)) dX3_becomes_5 8 rfl ?_
  refine y_aload_n hC dX3_becomes_8 0 rfl 9 rfl ?_
  refine y_aload_n hC dX3_becomes_9 1 rfl 10 rfl ?_
  refine y_get hC (10 * k2) (hN 0 (by decide)) (cl_M (k := k2) (mm := setM k σ.1.2.1 g5) (u := v) hk42 (setM_comm hkk hk4 hk42 _ _ _)) rfl inU3 1 (by decide) w1_41 rfl dX3_becomes_10 13 rfl ?_
  obtain ⟨g13, eg13, hk⟩ := ob_lt hk
  refine y_put hC (10 * k) (hM 0 (by decide)) (cl_M (k := k) (mm := setM k2 σ.1.2.1 v) (u := g5) hk4 rfl) rfl inU3 tyX3_ok nmX3 1 (by decide) w1_41 rfl rfl rfl rfl (Nat.le_of_ble_eq_true rfl) (gM k (gM k2 σ v) g13) (by subst eg13; exact (cu_M_heat (v := (pM_heat v)) (k := k) (mm := setM k2 σ.1.2.1 v) (u := g5) hk4 rfl rfl)) dX3_becomes_13 16 rfl ?_
  refine y_aload_n hC dX3_becomes_16 0 rfl 17 rfl ?_
  refine y_aload_n hC dX3_becomes_17 1 rfl 18 rfl ?_
  refine y_get hC (10 * k2) (hN 0 (by decide)) (cl_M (k := k2) (mm := setM k σ.1.2.1 g13) (u := v) hk42 (setM_comm hkk hk4 hk42 _ _ _)) rfl inU3 2 (by decide) w1_44 rfl dX3_becomes_18 21 rfl ?_
  obtain ⟨g21, eg21, hk⟩ := ob_lt hk
  refine y_put hC (10 * k) (hM 0 (by decide)) (cl_M (k := k) (mm := setM k2 σ.1.2.1 v) (u := g13) hk4 rfl) rfl inU3 tyX3_ok nmX3 2 (by decide) w1_44 rfl rfl rfl rfl (Nat.le_of_ble_eq_true rfl) (gM k (gM k2 σ v) g21) (by subst eg21; exact (cu_M_rainHours (v := (pM_rainHours v)) (k := k) (mm := setM k2 σ.1.2.1 v) (u := g13) hk4 rfl rfl)) dX3_becomes_21 24 rfl ?_
  refine y_aload_n hC dX3_becomes_24 0 rfl 25 rfl ?_
  refine y_aload_n hC dX3_becomes_25 1 rfl 26 rfl ?_
  refine y_get hC (10 * k2) (hN 0 (by decide)) (cl_M (k := k2) (mm := setM k σ.1.2.1 g21) (u := v) hk42 (setM_comm hkk hk4 hk42 _ _ _)) rfl inU3 3 (by decide) w1_47 rfl dX3_becomes_26 29 rfl ?_
  obtain ⟨g29, eg29, hk⟩ := ob_lt hk
  refine y_put hC (10 * k) (hM 0 (by decide)) (cl_M (k := k) (mm := setM k2 σ.1.2.1 v) (u := g21) hk4 rfl) rfl inU3 tyX3_ok nmX3 3 (by decide) w1_47 rfl rfl rfl rfl (Nat.le_of_ble_eq_true rfl) (gM k (gM k2 σ v) g29) (by subst eg29; exact (cu_M_size (v := (pM_size v)) (k := k) (mm := setM k2 σ.1.2.1 v) (u := g21) hk4 rfl rfl)) dX3_becomes_29 32 rfl ?_
  refine y_aload_n hC dX3_becomes_32 0 rfl 33 rfl ?_
  refine y_aload_n hC dX3_becomes_33 1 rfl 34 rfl ?_
  refine y_get hC (10 * k2) (hN 0 (by decide)) (cl_M (k := k2) (mm := setM k σ.1.2.1 g29) (u := v) hk42 (setM_comm hkk hk4 hk42 _ _ _)) rfl inU3 4 (by decide) w1_51 rfl dX3_becomes_34 37 rfl ?_
  obtain ⟨g37, eg37, hk⟩ := ob_lt hk
  refine y_put hC (10 * k) (hM 0 (by decide)) (cl_M (k := k) (mm := setM k2 σ.1.2.1 v) (u := g29) hk4 rfl) rfl inU3 tyX3_ok nmX3 4 (by decide) w1_51 rfl rfl rfl rfl (Nat.le_of_ble_eq_true rfl) (gM k (gM k2 σ v) g37) (by subst eg37; exact (cu_M_totalTakings (v := (pM_totalTakings v)) (k := k) (mm := setM k2 σ.1.2.1 v) (u := g29) hk4 rfl rfl)) dX3_becomes_37 40 rfl ?_
  refine y_aload_n hC dX3_becomes_40 0 rfl 41 rfl ?_
  refine y_aload_n hC dX3_becomes_41 1 rfl 42 rfl ?_
  refine y_get hC (10 * k2) (hN 0 (by decide)) (cl_M (k := k2) (mm := setM k σ.1.2.1 g37) (u := v) hk42 (setM_comm hkk hk4 hk42 _ _ _)) rfl inU3 5 (by decide) w1_53 rfl dX3_becomes_42 45 rfl ?_
  obtain ⟨g45, eg45, hk⟩ := ob_lt hk
  refine y_put hC (10 * k) (hM 0 (by decide)) (cl_M (k := k) (mm := setM k2 σ.1.2.1 v) (u := g37) hk4 rfl) rfl inU3 tyX3_ok nmX3 5 (by decide) w1_53 rfl rfl rfl rfl (Nat.le_of_ble_eq_true rfl) (gM k (gM k2 σ v) g45) (by subst eg45; exact (cu_M_totalThrown (v := (pM_totalThrown v)) (k := k) (mm := setM k2 σ.1.2.1 v) (u := g37) hk4 rfl rfl)) dX3_becomes_45 48 rfl ?_
  refine y_aload_n hC dX3_becomes_48 0 rfl 49 rfl ?_
  refine y_aload_n hC dX3_becomes_49 1 rfl 50 rfl ?_
  refine y_get hC (10 * k2) (hN 0 (by decide)) (cl_M (k := k2) (mm := setM k σ.1.2.1 g45) (u := v) hk42 (setM_comm hkk hk4 hk42 _ _ _)) rfl inU3 6 (by decide) w1_55 rfl dX3_becomes_50 53 rfl ?_
  obtain ⟨g53, eg53, hk⟩ := ob_lt hk
  refine y_put hC (10 * k) (hM 0 (by decide)) (cl_M (k := k) (mm := setM k2 σ.1.2.1 v) (u := g45) hk4 rfl) rfl inU3 tyX3_ok nmX3 6 (by decide) w1_55 rfl rfl rfl rfl (Nat.le_of_ble_eq_true rfl) (gM k (gM k2 σ v) g53) (by subst eg53; exact (cu_M_soldSize (v := (pM_soldSize v)) (k := k) (mm := setM k2 σ.1.2.1 v) (u := g45) hk4 rfl rfl)) dX3_becomes_53 56 rfl ?_
  refine y_aload_n hC dX3_becomes_56 0 rfl 57 rfl ?_
  refine y_aload_n hC dX3_becomes_57 1 rfl 58 rfl ?_
  refine y_get hC (10 * k2) (hN 0 (by decide)) (cl_M (k := k2) (mm := setM k σ.1.2.1 g53) (u := v) hk42 (setM_comm hkk hk4 hk42 _ _ _)) rfl inU3 7 (by decide) w1_58 rfl dX3_becomes_58 61 rfl ?_
  obtain ⟨g61, eg61, hk⟩ := ob_lt hk
  refine y_put hC (10 * k) (hM 0 (by decide)) (cl_M (k := k) (mm := setM k2 σ.1.2.1 v) (u := g53) hk4 rfl) rfl inU3 tyX3_ok nmX3 7 (by decide) w1_58 rfl rfl rfl rfl (Nat.le_of_ble_eq_true rfl) (gM k (gM k2 σ v) g61) (by subst eg61; exact (cu_M_pastSize (v := (pM_pastSize v)) (k := k) (mm := setM k2 σ.1.2.1 v) (u := g53) hk4 rfl rfl)) dX3_becomes_61 64 rfl ?_
  refine y_aload_n hC dX3_becomes_64 1 rfl 65 rfl ?_
  refine y_get hC (10 * k2) (hN 0 (by decide)) (cl_M (k := k2) (mm := setM k σ.1.2.1 g61) (u := v) hk42 (setM_comm hkk hk4 hk42 _ _ _)) rfl inU3 8 (by decide) w1_60 rfl dX3_becomes_65 68 rfl ?_
  refine y_iconst hC dX3_becomes_68 (v := (0 : Int32)) (by decide) 69 rfl ?_
  refine y_aload_n hC dX3_becomes_69 0 rfl 70 rfl ?_
  refine y_get hC (10 * k) (hM 0 (by decide)) (cl_M (k := k) (mm := setM k2 σ.1.2.1 v) (u := g61) hk4 rfl) rfl inU3 8 (by decide) w1_60 rfl dX3_becomes_70 73 rfl ?_
  refine y_iconst hC dX3_becomes_73 (v := (0 : Int32)) (by decide) 74 rfl ?_
  refine y_bipush hC dX3_becomes_74 (v := (10 : Int32)) (by decide) 76 rfl ?_
  obtain ⟨h76, hk⟩ := ob_if hk
  obtain ⟨g76, eg76, hk⟩ := ob_lt hk
  refine y_copy hC w3_17 w3_19 w3_18 w1_19 (10 * k2 + 1) (10 * k + 1) (hN 1 (by decide)) (hM 1 (by decide)) (cl_M_prices (k := k2) (mm := setM k σ.1.2.1 g61) (u := v) hk42 (setM_comm hkk hk4 hk42 _ _ _)) (cl_M_prices (k := k) (mm := setM k2 σ.1.2.1 v) (u := g61) hk4 rfl) h76 ⟨by decide, Nat.le_of_ble_eq_true rfl⟩ (gM k (gM k2 σ v) g76) (by subst eg76; exact (cu_M_prices (v := (va_cpy (pM_prices v) (pM_prices g61) (0 : Int32).toNatClampNeg (0 : Int32).toNatClampNeg (10 : Int32).toNatClampNeg)) (k := k) (mm := setM k2 σ.1.2.1 v) (u := g61) hk4 rfl rfl)) dX3_becomes_76 79 rfl ?_
  refine y_aload_n hC dX3_becomes_79 1 rfl 80 rfl ?_
  refine y_get hC (10 * k2) (hN 0 (by decide)) (cl_M (k := k2) (mm := setM k σ.1.2.1 g76) (u := v) hk42 (setM_comm hkk hk4 hk42 _ _ _)) rfl inU3 9 (by decide) w1_61 rfl dX3_becomes_80 83 rfl ?_
  refine y_iconst hC dX3_becomes_83 (v := (0 : Int32)) (by decide) 84 rfl ?_
  refine y_aload_n hC dX3_becomes_84 0 rfl 85 rfl ?_
  refine y_get hC (10 * k) (hM 0 (by decide)) (cl_M (k := k) (mm := setM k2 σ.1.2.1 v) (u := g76) hk4 rfl) rfl inU3 9 (by decide) w1_61 rfl dX3_becomes_85 88 rfl ?_
  refine y_iconst hC dX3_becomes_88 (v := (0 : Int32)) (by decide) 89 rfl ?_
  refine y_bipush hC dX3_becomes_89 (v := (10 : Int32)) (by decide) 91 rfl ?_
  obtain ⟨h91, hk⟩ := ob_if hk
  obtain ⟨g91, eg91, hk⟩ := ob_lt hk
  refine y_copy hC w3_17 w3_19 w3_18 w1_19 (10 * k2 + 2) (10 * k + 2) (hN 2 (by decide)) (hM 2 (by decide)) (cl_M_theirPrices (k := k2) (mm := setM k σ.1.2.1 g76) (u := v) hk42 (setM_comm hkk hk4 hk42 _ _ _)) (cl_M_theirPrices (k := k) (mm := setM k2 σ.1.2.1 v) (u := g76) hk4 rfl) h91 ⟨by decide, Nat.le_of_ble_eq_true rfl⟩ (gM k (gM k2 σ v) g91) (by subst eg91; exact (cu_M_theirPrices (v := (va_cpy (pM_theirPrices v) (pM_theirPrices g76) (0 : Int32).toNatClampNeg (0 : Int32).toNatClampNeg (10 : Int32).toNatClampNeg)) (k := k) (mm := setM k2 σ.1.2.1 v) (u := g76) hk4 rfl rfl)) dX3_becomes_91 94 rfl ?_
  refine y_aload_n hC dX3_becomes_94 1 rfl 95 rfl ?_
  refine y_get hC (10 * k2) (hN 0 (by decide)) (cl_M (k := k2) (mm := setM k σ.1.2.1 g91) (u := v) hk42 (setM_comm hkk hk4 hk42 _ _ _)) rfl inU3 10 (by decide) w1_62 rfl dX3_becomes_95 98 rfl ?_
  refine y_iconst hC dX3_becomes_98 (v := (0 : Int32)) (by decide) 99 rfl ?_
  refine y_aload_n hC dX3_becomes_99 0 rfl 100 rfl ?_
  refine y_get hC (10 * k) (hM 0 (by decide)) (cl_M (k := k) (mm := setM k2 σ.1.2.1 v) (u := g91) hk4 rfl) rfl inU3 10 (by decide) w1_62 rfl dX3_becomes_100 103 rfl ?_
  refine y_iconst hC dX3_becomes_103 (v := (0 : Int32)) (by decide) 104 rfl ?_
  refine y_bipush hC dX3_becomes_104 (v := (8 : Int32)) (by decide) 106 rfl ?_
  obtain ⟨h106, hk⟩ := ob_if hk
  obtain ⟨g106, eg106, hk⟩ := ob_lt hk
  refine y_copy hC w3_17 w3_19 w3_18 w1_19 (10 * k2 + 3) (10 * k + 3) (hN 3 (by decide)) (hM 3 (by decide)) (cl_M_kinds (k := k2) (mm := setM k σ.1.2.1 g91) (u := v) hk42 (setM_comm hkk hk4 hk42 _ _ _)) (cl_M_kinds (k := k) (mm := setM k2 σ.1.2.1 v) (u := g91) hk4 rfl) h106 ⟨by decide, Nat.le_of_ble_eq_true rfl⟩ (gM k (gM k2 σ v) g106) (by subst eg106; exact (cu_M_kinds (v := (va_cpy (pM_kinds v) (pM_kinds g91) (0 : Int32).toNatClampNeg (0 : Int32).toNatClampNeg (8 : Int32).toNatClampNeg)) (k := k) (mm := setM k2 σ.1.2.1 v) (u := g91) hk4 rfl rfl)) dX3_becomes_106 109 rfl ?_
  refine y_aload_n hC dX3_becomes_109 1 rfl 110 rfl ?_
  refine y_get hC (10 * k2) (hN 0 (by decide)) (cl_M (k := k2) (mm := setM k σ.1.2.1 g106) (u := v) hk42 (setM_comm hkk hk4 hk42 _ _ _)) rfl inU3 11 (by decide) w1_65 rfl dX3_becomes_110 113 rfl ?_
  refine y_iconst hC dX3_becomes_113 (v := (0 : Int32)) (by decide) 114 rfl ?_
  refine y_aload_n hC dX3_becomes_114 0 rfl 115 rfl ?_
  refine y_get hC (10 * k) (hM 0 (by decide)) (cl_M (k := k) (mm := setM k2 σ.1.2.1 v) (u := g106) hk4 rfl) rfl inU3 11 (by decide) w1_65 rfl dX3_becomes_115 118 rfl ?_
  refine y_iconst hC dX3_becomes_118 (v := (0 : Int32)) (by decide) 119 rfl ?_
  refine y_bipush hC dX3_becomes_119 (v := (8 : Int32)) (by decide) 121 rfl ?_
  obtain ⟨h121, hk⟩ := ob_if hk
  obtain ⟨g121, eg121, hk⟩ := ob_lt hk
  refine y_copy hC w3_17 w3_19 w3_18 w1_19 (10 * k2 + 4) (10 * k + 4) (hN 4 (by decide)) (hM 4 (by decide)) (cl_M_hours (k := k2) (mm := setM k σ.1.2.1 g106) (u := v) hk42 (setM_comm hkk hk4 hk42 _ _ _)) (cl_M_hours (k := k) (mm := setM k2 σ.1.2.1 v) (u := g106) hk4 rfl) h121 ⟨by decide, Nat.le_of_ble_eq_true rfl⟩ (gM k (gM k2 σ v) g121) (by subst eg121; exact (cu_M_hours (v := (va_cpy (pM_hours v) (pM_hours g106) (0 : Int32).toNatClampNeg (0 : Int32).toNatClampNeg (8 : Int32).toNatClampNeg)) (k := k) (mm := setM k2 σ.1.2.1 v) (u := g106) hk4 rfl rfl)) dX3_becomes_121 124 rfl ?_
  refine y_aload_n hC dX3_becomes_124 1 rfl 125 rfl ?_
  refine y_get hC (10 * k2) (hN 0 (by decide)) (cl_M (k := k2) (mm := setM k σ.1.2.1 g121) (u := v) hk42 (setM_comm hkk hk4 hk42 _ _ _)) rfl inU3 12 (by decide) w1_68 rfl dX3_becomes_125 128 rfl ?_
  refine y_iconst hC dX3_becomes_128 (v := (0 : Int32)) (by decide) 129 rfl ?_
  refine y_aload_n hC dX3_becomes_129 0 rfl 130 rfl ?_
  refine y_get hC (10 * k) (hM 0 (by decide)) (cl_M (k := k) (mm := setM k2 σ.1.2.1 v) (u := g121) hk4 rfl) rfl inU3 12 (by decide) w1_68 rfl dX3_becomes_130 133 rfl ?_
  refine y_iconst hC dX3_becomes_133 (v := (0 : Int32)) (by decide) 134 rfl ?_
  refine y_bipush hC dX3_becomes_134 (v := (8 : Int32)) (by decide) 136 rfl ?_
  obtain ⟨h136, hk⟩ := ob_if hk
  obtain ⟨g136, eg136, hk⟩ := ob_lt hk
  refine y_copy hC w3_17 w3_19 w3_18 w1_19 (10 * k2 + 5) (10 * k + 5) (hN 5 (by decide)) (hM 5 (by decide)) (cl_M_worths (k := k2) (mm := setM k σ.1.2.1 g121) (u := v) hk42 (setM_comm hkk hk4 hk42 _ _ _)) (cl_M_worths (k := k) (mm := setM k2 σ.1.2.1 v) (u := g121) hk4 rfl) h136 ⟨by decide, Nat.le_of_ble_eq_true rfl⟩ (gM k (gM k2 σ v) g136) (by subst eg136; exact (cu_M_worths (v := (va_cpy (pM_worths v) (pM_worths g121) (0 : Int32).toNatClampNeg (0 : Int32).toNatClampNeg (8 : Int32).toNatClampNeg)) (k := k) (mm := setM k2 σ.1.2.1 v) (u := g121) hk4 rfl rfl)) dX3_becomes_136 139 rfl ?_
  refine y_aload_n hC dX3_becomes_139 1 rfl 140 rfl ?_
  refine y_get hC (10 * k2) (hN 0 (by decide)) (cl_M (k := k2) (mm := setM k σ.1.2.1 g136) (u := v) hk42 (setM_comm hkk hk4 hk42 _ _ _)) rfl inU3 13 (by decide) w1_71 rfl dX3_becomes_140 143 rfl ?_
  refine y_iconst hC dX3_becomes_143 (v := (0 : Int32)) (by decide) 144 rfl ?_
  refine y_aload_n hC dX3_becomes_144 0 rfl 145 rfl ?_
  refine y_get hC (10 * k) (hM 0 (by decide)) (cl_M (k := k) (mm := setM k2 σ.1.2.1 v) (u := g136) hk4 rfl) rfl inU3 13 (by decide) w1_71 rfl dX3_becomes_145 148 rfl ?_
  refine y_iconst hC dX3_becomes_148 (v := (0 : Int32)) (by decide) 149 rfl ?_
  refine y_bipush hC dX3_becomes_149 (v := (8 : Int32)) (by decide) 151 rfl ?_
  obtain ⟨h151, hk⟩ := ob_if hk
  obtain ⟨g151, eg151, hk⟩ := ob_lt hk
  refine y_copy hC w3_17 w3_19 w3_18 w1_19 (10 * k2 + 6) (10 * k + 6) (hN 6 (by decide)) (hM 6 (by decide)) (cl_M_wants (k := k2) (mm := setM k σ.1.2.1 g136) (u := v) hk42 (setM_comm hkk hk4 hk42 _ _ _)) (cl_M_wants (k := k) (mm := setM k2 σ.1.2.1 v) (u := g136) hk4 rfl) h151 ⟨by decide, Nat.le_of_ble_eq_true rfl⟩ (gM k (gM k2 σ v) g151) (by subst eg151; exact (cu_M_wants (v := (va_cpy (pM_wants v) (pM_wants g136) (0 : Int32).toNatClampNeg (0 : Int32).toNatClampNeg (8 : Int32).toNatClampNeg)) (k := k) (mm := setM k2 σ.1.2.1 v) (u := g136) hk4 rfl rfl)) dX3_becomes_151 154 rfl ?_
  refine y_aload_n hC dX3_becomes_154 1 rfl 155 rfl ?_
  refine y_get hC (10 * k2) (hN 0 (by decide)) (cl_M (k := k2) (mm := setM k σ.1.2.1 g151) (u := v) hk42 (setM_comm hkk hk4 hk42 _ _ _)) rfl inU3 14 (by decide) w1_74 rfl dX3_becomes_155 158 rfl ?_
  refine y_iconst hC dX3_becomes_158 (v := (0 : Int32)) (by decide) 159 rfl ?_
  refine y_aload_n hC dX3_becomes_159 0 rfl 160 rfl ?_
  refine y_get hC (10 * k) (hM 0 (by decide)) (cl_M (k := k) (mm := setM k2 σ.1.2.1 v) (u := g151) hk4 rfl) rfl inU3 14 (by decide) w1_74 rfl dX3_becomes_160 163 rfl ?_
  refine y_iconst hC dX3_becomes_163 (v := (0 : Int32)) (by decide) 164 rfl ?_
  refine y_bipush hC dX3_becomes_164 (v := (6 : Int32)) (by decide) 166 rfl ?_
  obtain ⟨h166, hk⟩ := ob_if hk
  obtain ⟨g166, eg166, hk⟩ := ob_lt hk
  refine y_copy hC w3_17 w3_19 w3_18 w1_19 (10 * k2 + 7) (10 * k + 7) (hN 7 (by decide)) (hM 7 (by decide)) (cl_M_soldHours (k := k2) (mm := setM k σ.1.2.1 g151) (u := v) hk42 (setM_comm hkk hk4 hk42 _ _ _)) (cl_M_soldHours (k := k) (mm := setM k2 σ.1.2.1 v) (u := g151) hk4 rfl) h166 ⟨by decide, Nat.le_of_ble_eq_true rfl⟩ (gM k (gM k2 σ v) g166) (by subst eg166; exact (cu_M_soldHours (v := (va_cpy (pM_soldHours v) (pM_soldHours g151) (0 : Int32).toNatClampNeg (0 : Int32).toNatClampNeg (6 : Int32).toNatClampNeg)) (k := k) (mm := setM k2 σ.1.2.1 v) (u := g151) hk4 rfl rfl)) dX3_becomes_166 169 rfl ?_
  refine y_aload_n hC dX3_becomes_169 1 rfl 170 rfl ?_
  refine y_get hC (10 * k2) (hN 0 (by decide)) (cl_M (k := k2) (mm := setM k σ.1.2.1 g166) (u := v) hk42 (setM_comm hkk hk4 hk42 _ _ _)) rfl inU3 15 (by decide) w1_77 rfl dX3_becomes_170 173 rfl ?_
  refine y_iconst hC dX3_becomes_173 (v := (0 : Int32)) (by decide) 174 rfl ?_
  refine y_aload_n hC dX3_becomes_174 0 rfl 175 rfl ?_
  refine y_get hC (10 * k) (hM 0 (by decide)) (cl_M (k := k) (mm := setM k2 σ.1.2.1 v) (u := g166) hk4 rfl) rfl inU3 15 (by decide) w1_77 rfl dX3_becomes_175 178 rfl ?_
  refine y_iconst hC dX3_becomes_178 (v := (0 : Int32)) (by decide) 179 rfl ?_
  refine y_bipush hC dX3_becomes_179 (v := (6 : Int32)) (by decide) 181 rfl ?_
  obtain ⟨h181, hk⟩ := ob_if hk
  obtain ⟨g181, eg181, hk⟩ := ob_lt hk
  refine y_copy hC w3_17 w3_19 w3_18 w1_19 (10 * k2 + 8) (10 * k + 8) (hN 8 (by decide)) (hM 8 (by decide)) (cl_M_soldNumbers (k := k2) (mm := setM k σ.1.2.1 g166) (u := v) hk42 (setM_comm hkk hk4 hk42 _ _ _)) (cl_M_soldNumbers (k := k) (mm := setM k2 σ.1.2.1 v) (u := g166) hk4 rfl) h181 ⟨by decide, Nat.le_of_ble_eq_true rfl⟩ (gM k (gM k2 σ v) g181) (by subst eg181; exact (cu_M_soldNumbers (v := (va_cpy (pM_soldNumbers v) (pM_soldNumbers g166) (0 : Int32).toNatClampNeg (0 : Int32).toNatClampNeg (6 : Int32).toNatClampNeg)) (k := k) (mm := setM k2 σ.1.2.1 v) (u := g166) hk4 rfl rfl)) dX3_becomes_181 184 rfl ?_
  refine y_aload_n hC dX3_becomes_184 1 rfl 185 rfl ?_
  refine y_get hC (10 * k2) (hN 0 (by decide)) (cl_M (k := k2) (mm := setM k σ.1.2.1 g181) (u := v) hk42 (setM_comm hkk hk4 hk42 _ _ _)) rfl inU3 16 (by decide) w1_80 rfl dX3_becomes_185 188 rfl ?_
  refine y_iconst hC dX3_becomes_188 (v := (0 : Int32)) (by decide) 189 rfl ?_
  refine y_aload_n hC dX3_becomes_189 0 rfl 190 rfl ?_
  refine y_get hC (10 * k) (hM 0 (by decide)) (cl_M (k := k) (mm := setM k2 σ.1.2.1 v) (u := g181) hk4 rfl) rfl inU3 16 (by decide) w1_80 rfl dX3_becomes_190 193 rfl ?_
  refine y_iconst hC dX3_becomes_193 (v := (0 : Int32)) (by decide) 194 rfl ?_
  refine y_bipush hC dX3_becomes_194 (v := (80 : Int32)) (by decide) 196 rfl ?_
  obtain ⟨h196, hk⟩ := ob_if hk
  obtain ⟨g196, eg196, hk⟩ := ob_lt hk
  refine y_copy hC w3_17 w3_19 w3_18 w1_19 (10 * k2 + 9) (10 * k + 9) (hN 9 (by decide)) (hM 9 (by decide)) (cl_M_past (k := k2) (mm := setM k σ.1.2.1 g181) (u := v) hk42 (setM_comm hkk hk4 hk42 _ _ _)) (cl_M_past (k := k) (mm := setM k2 σ.1.2.1 v) (u := g181) hk4 rfl) h196 ⟨by decide, Nat.le_of_ble_eq_true rfl⟩ (gM k (gM k2 σ v) g196) (by subst eg196; exact (cu_M_past (v := (va_cpy (pM_past v) (pM_past g181) (0 : Int32).toNatClampNeg (0 : Int32).toNatClampNeg (80 : Int32).toNatClampNeg)) (k := k) (mm := setM k2 σ.1.2.1 v) (u := g181) hk4 rfl rfl)) dX3_becomes_196 199 rfl ?_
  have e := Option.some.inj hk
  exact y_vret hC hr hlk (by rw [← e]) dX3_becomes_199
def f_X3_keepPast_j31 (gu : MSt) : Option (MSt) :=
  lt ((if (0 : Int32) < (pM_pastSize gu) then (pM_pastSize gu) else (0 : Int32)) * (10 : Int32)) fun n42 => 
    (if (¬ (0 : Int32) < 0 ∧ ¬ n42 < 0 ∧ ¬ (8 : Int32) < 0) ∧ (0 : Int32).toNatClampNeg + (8 : Int32).toNatClampNeg ≤ 8 ∧ n42.toNatClampNeg + (8 : Int32).toNatClampNeg ≤ 80 then 
    (lt (sM_past gu (va_cpy (pM_kinds gu) (pM_past gu) (0 : Int32).toNatClampNeg n42.toNatClampNeg (8 : Int32).toNatClampNeg)) fun g55 => 
    (if inb (n42 + (8 : Int32)) 80 then 
    (lt (sM_past g55 (upd (pM_past g55) (n42 + (8 : Int32)).toNatClampNeg (pM_totalTakings g55))) fun g70 => 
    (if inb ((n42 + (8 : Int32)) + (1 : Int32)) 80 then 
    (lt (sM_past g70 (upd (pM_past g70) ((n42 + (8 : Int32)) + (1 : Int32)).toNatClampNeg (pM_totalThrown g70))) fun g85 => 
    (lt (sM_pastSize g85 ((pM_pastSize g85) + (1 : Int32))) fun g93 => 
    (some g93)))
  else none))
  else none))
  else none)
def f_X3_keepPast (u : MSt) : Option (MSt) :=
  if (pM_pastSize u) < (8 : Int32) then
    f_X3_keepPast_j31 u
  else
    if (¬ (10 : Int32) < 0 ∧ ¬ (0 : Int32) < 0 ∧ ¬ (70 : Int32) < 0) ∧ (10 : Int32).toNatClampNeg + (70 : Int32).toNatClampNeg ≤ 80 ∧ (0 : Int32).toNatClampNeg + (70 : Int32).toNatClampNeg ≤ 80 then 
      (lt (sM_past u (va_cpy (pM_past u) (pM_past u) (10 : Int32).toNatClampNeg (0 : Int32).toNatClampNeg (70 : Int32).toNatClampNeg)) fun g22 => 
      (lt (sM_pastSize g22 (7 : Int32)) fun g28 => 
      (f_X3_keepPast_j31 g28)))
    else none
theorem cwd_X3_keepPast : yX3_keepPast.cls ≠ "java/lang/invoke/MethodHandle" ∧ yX3_keepPast.cls ≠ "java/lang/invoke/VarHandle" ∧ (parseMethodDescriptor yX3_keepPast.desc).map (fun d => d.parameters.length) = some 0 := by decide +kernel
set_option maxHeartbeats 4000000 in
set_option maxRecDepth 100000 in
theorem c_X3_keepPast {Γ : GC} (hJ : GJ Γ) (hA : ∀ i, i < 66 → act Γ i) (l : Launch) (σ : GSt) (k : Nat) (hk4 : k < 4) (u : MSt) (x : MSt) (hk : f_X3_keepPast u = some x) : Mt Γ l yX3_keepPast cX3_keepPast 2 none 1 40 [.ref (ad Γ (10 * k))] (gM k σ u) none (gM k σ x) := by
  refine y_enter (by decide) hJ (Nat.le_of_ble_eq_true rfl) [(0, .ref (ad Γ (10 * k)))] rfl ?_
  intro p e s' m args below meth c' hC hr hlk
  have hM : ∀ j, j < 10 → act Γ (10 * k + j) := fun j hj => hA _ (by omega)
  have J31 : ∀ (gu : MSt), f_X3_keepPast_j31 gu = some x → Y Γ (GA Γ) p l e ({ frames := 1, cells := 0, slots := 0, locals := 40 } : Room) s' m args below meth c' 0 0 (MQ below (Qg Γ none (gM k σ x)) args s' 0 0 (GA Γ)) 2 (gM k σ gu) 31 [(0, .ref (ad Γ (10 * k)))] [] := by
    intro gu hk
    refine y_iconst hC dX3_keepPast_31 (v := (0 : Int32)) (by decide) 32 rfl ?_
    refine y_aload_n hC dX3_keepPast_32 0 rfl 33 rfl ?_
    refine y_get hC (10 * k) (hM 0 (by decide)) (cl_M (k := k) (mm := σ.1.2.1) (u := gu) hk4 rfl) rfl inU3 7 (by decide) w1_58 rfl dX3_keepPast_33 36 rfl ?_
    refine y_max hC w2_98 w2_99 w1_14 w2_100 ⟨by decide, Nat.le_of_ble_eq_true rfl⟩ (by decide) dX3_keepPast_36 39 rfl ?_
    refine y_bipush hC dX3_keepPast_39 (v := (10 : Int32)) (by decide) 41 rfl ?_
    refine y_imul hC dX3_keepPast_41 42 rfl ?_
    obtain ⟨n42, en42, hk⟩ := ob_lt hk
    refine y_topi en42 ?_
    refine y_istore_n hC dX3_keepPast_42 (by decide) [(1, .int n42), (0, .ref (ad Γ (10 * k)))] rfl 43 rfl ?_
    refine y_aload_n hC dX3_keepPast_43 1 rfl 44 rfl ?_
    refine y_get hC (10 * k) (hM 0 (by decide)) (cl_M (k := k) (mm := σ.1.2.1) (u := gu) hk4 rfl) rfl inU3 10 (by decide) w1_62 rfl dX3_keepPast_44 47 rfl ?_
    refine y_iconst hC dX3_keepPast_47 (v := (0 : Int32)) (by decide) 48 rfl ?_
    refine y_aload_n hC dX3_keepPast_48 1 rfl 49 rfl ?_
    refine y_get hC (10 * k) (hM 0 (by decide)) (cl_M (k := k) (mm := σ.1.2.1) (u := gu) hk4 rfl) rfl inU3 16 (by decide) w1_80 rfl dX3_keepPast_49 52 rfl ?_
    refine y_iload_n hC dX3_keepPast_52 0 rfl 53 rfl ?_
    refine y_bipush hC dX3_keepPast_53 (v := (8 : Int32)) (by decide) 55 rfl ?_
    obtain ⟨h55, hk⟩ := ob_if hk
    obtain ⟨g55, eg55, hk⟩ := ob_lt hk
    refine y_copy hC w3_17 w3_19 w3_18 w1_19 (10 * k + 3) (10 * k + 9) (hM 3 (by decide)) (hM 9 (by decide)) (cl_M_kinds (k := k) (mm := σ.1.2.1) (u := gu) hk4 rfl) (cl_M_past (k := k) (mm := σ.1.2.1) (u := gu) hk4 rfl) h55 ⟨by decide, Nat.le_of_ble_eq_true rfl⟩ (gM k σ g55) (by subst eg55; exact (cu_M_past (v := (va_cpy (pM_kinds gu) (pM_past gu) (0 : Int32).toNatClampNeg n42.toNatClampNeg (8 : Int32).toNatClampNeg)) (k := k) (mm := σ.1.2.1) (u := gu) hk4 rfl rfl)) dX3_keepPast_55 58 rfl ?_
    refine y_aload_n hC dX3_keepPast_58 1 rfl 59 rfl ?_
    refine y_get hC (10 * k) (hM 0 (by decide)) (cl_M (k := k) (mm := σ.1.2.1) (u := g55) hk4 rfl) rfl inU3 16 (by decide) w1_80 rfl dX3_keepPast_59 62 rfl ?_
    refine y_iload_n hC dX3_keepPast_62 0 rfl 63 rfl ?_
    refine y_bipush hC dX3_keepPast_63 (v := (8 : Int32)) (by decide) 65 rfl ?_
    refine y_iadd hC dX3_keepPast_65 66 rfl ?_
    refine y_aload_n hC dX3_keepPast_66 1 rfl 67 rfl ?_
    refine y_get hC (10 * k) (hM 0 (by decide)) (cl_M (k := k) (mm := σ.1.2.1) (u := g55) hk4 rfl) rfl inU3 4 (by decide) w1_51 rfl dX3_keepPast_67 70 rfl ?_
    obtain ⟨h70, hk⟩ := ob_if hk
    obtain ⟨g70, eg70, hk⟩ := ob_lt hk
    refine y_iast hC (10 * k + 9) (hM 9 (by decide)) (cl_M_past (k := k) (mm := σ.1.2.1) (u := g55) hk4 rfl) h70 (gM k σ g70) (by subst eg70; exact (cu_M_past (v := (upd (pM_past g55) (n42 + (8 : Int32)).toNatClampNeg (pM_totalTakings g55))) (k := k) (mm := σ.1.2.1) (u := g55) hk4 rfl rfl)) dX3_keepPast_70 71 rfl ?_
    refine y_aload_n hC dX3_keepPast_71 1 rfl 72 rfl ?_
    refine y_get hC (10 * k) (hM 0 (by decide)) (cl_M (k := k) (mm := σ.1.2.1) (u := g70) hk4 rfl) rfl inU3 16 (by decide) w1_80 rfl dX3_keepPast_72 75 rfl ?_
    refine y_iload_n hC dX3_keepPast_75 0 rfl 76 rfl ?_
    refine y_bipush hC dX3_keepPast_76 (v := (8 : Int32)) (by decide) 78 rfl ?_
    refine y_iadd hC dX3_keepPast_78 79 rfl ?_
    refine y_iconst hC dX3_keepPast_79 (v := (1 : Int32)) (by decide) 80 rfl ?_
    refine y_iadd hC dX3_keepPast_80 81 rfl ?_
    refine y_aload_n hC dX3_keepPast_81 1 rfl 82 rfl ?_
    refine y_get hC (10 * k) (hM 0 (by decide)) (cl_M (k := k) (mm := σ.1.2.1) (u := g70) hk4 rfl) rfl inU3 5 (by decide) w1_53 rfl dX3_keepPast_82 85 rfl ?_
    obtain ⟨h85, hk⟩ := ob_if hk
    obtain ⟨g85, eg85, hk⟩ := ob_lt hk
    refine y_iast hC (10 * k + 9) (hM 9 (by decide)) (cl_M_past (k := k) (mm := σ.1.2.1) (u := g70) hk4 rfl) h85 (gM k σ g85) (by subst eg85; exact (cu_M_past (v := (upd (pM_past g70) ((n42 + (8 : Int32)) + (1 : Int32)).toNatClampNeg (pM_totalThrown g70))) (k := k) (mm := σ.1.2.1) (u := g70) hk4 rfl rfl)) dX3_keepPast_85 86 rfl ?_
    refine y_aload_n hC dX3_keepPast_86 1 rfl 87 rfl ?_
    refine y_dup hC dX3_keepPast_87 rfl 88 rfl ?_
    refine y_get hC (10 * k) (hM 0 (by decide)) (cl_M (k := k) (mm := σ.1.2.1) (u := g85) hk4 rfl) rfl inU3 7 (by decide) w1_58 rfl dX3_keepPast_88 91 rfl ?_
    refine y_iconst hC dX3_keepPast_91 (v := (1 : Int32)) (by decide) 92 rfl ?_
    refine y_iadd hC dX3_keepPast_92 93 rfl ?_
    obtain ⟨g93, eg93, hk⟩ := ob_lt hk
    refine y_put hC (10 * k) (hM 0 (by decide)) (cl_M (k := k) (mm := σ.1.2.1) (u := g85) hk4 rfl) rfl inU3 tyX3_ok nmX3 7 (by decide) w1_58 rfl rfl rfl rfl (Nat.le_of_ble_eq_true rfl) (gM k σ g93) (by subst eg93; exact (cu_M_pastSize (v := ((pM_pastSize g85) + (1 : Int32))) (k := k) (mm := σ.1.2.1) (u := g85) hk4 rfl rfl)) dX3_keepPast_93 96 rfl ?_
    have e := Option.some.inj hk
    exact y_vret hC hr hlk (by rw [← e]) dX3_keepPast_96
  refine y_aload_n hC dX3_keepPast_0 0 rfl 1 rfl ?_
  refine y_get hC (10 * k) (hM 0 (by decide)) (cl_M (k := k) (mm := σ.1.2.1) (u := u) hk4 rfl) rfl inU3 7 (by decide) w1_58 rfl dX3_keepPast_1 4 rfl ?_
  refine y_bipush hC dX3_keepPast_4 (v := (8 : Int32)) (by decide) 6 rfl ?_
  refine y_icmp_lt hC dX3_keepPast_6 31 (by decide) 9 rfl (fun h6 => ?_) (fun h6 => ?_)
  · have hk := ob_pos h6 hk
    refine y_sub [0] rfl ?_
    exact J31 u hk
  · have hk := ob_neg h6 hk
    refine y_aload_n hC dX3_keepPast_9 0 rfl 10 rfl ?_
    refine y_get hC (10 * k) (hM 0 (by decide)) (cl_M (k := k) (mm := σ.1.2.1) (u := u) hk4 rfl) rfl inU3 16 (by decide) w1_80 rfl dX3_keepPast_10 13 rfl ?_
    refine y_bipush hC dX3_keepPast_13 (v := (10 : Int32)) (by decide) 15 rfl ?_
    refine y_aload_n hC dX3_keepPast_15 0 rfl 16 rfl ?_
    refine y_get hC (10 * k) (hM 0 (by decide)) (cl_M (k := k) (mm := σ.1.2.1) (u := u) hk4 rfl) rfl inU3 16 (by decide) w1_80 rfl dX3_keepPast_16 19 rfl ?_
    refine y_iconst hC dX3_keepPast_19 (v := (0 : Int32)) (by decide) 20 rfl ?_
    refine y_bipush hC dX3_keepPast_20 (v := (70 : Int32)) (by decide) 22 rfl ?_
    obtain ⟨h22, hk⟩ := ob_if hk
    obtain ⟨g22, eg22, hk⟩ := ob_lt hk
    refine y_copy hC w3_17 w3_19 w3_18 w1_19 (10 * k + 9) (10 * k + 9) (hM 9 (by decide)) (hM 9 (by decide)) (cl_M_past (k := k) (mm := σ.1.2.1) (u := u) hk4 rfl) (cl_M_past (k := k) (mm := σ.1.2.1) (u := u) hk4 rfl) h22 ⟨by decide, Nat.le_of_ble_eq_true rfl⟩ (gM k σ g22) (by subst eg22; exact (cu_M_past (v := (va_cpy (pM_past u) (pM_past u) (10 : Int32).toNatClampNeg (0 : Int32).toNatClampNeg (70 : Int32).toNatClampNeg)) (k := k) (mm := σ.1.2.1) (u := u) hk4 rfl rfl)) dX3_keepPast_22 25 rfl ?_
    refine y_aload_n hC dX3_keepPast_25 0 rfl 26 rfl ?_
    refine y_bipush hC dX3_keepPast_26 (v := (7 : Int32)) (by decide) 28 rfl ?_
    obtain ⟨g28, eg28, hk⟩ := ob_lt hk
    refine y_put hC (10 * k) (hM 0 (by decide)) (cl_M (k := k) (mm := σ.1.2.1) (u := g22) hk4 rfl) rfl inU3 tyX3_ok nmX3 7 (by decide) w1_58 rfl rfl rfl rfl (Nat.le_of_ble_eq_true rfl) (gM k σ g28) (by subst eg28; exact (cu_M_pastSize (v := (7 : Int32)) (k := k) (mm := σ.1.2.1) (u := g22) hk4 rfl rfl)) dX3_keepPast_28 31 rfl ?_
    refine y_sub [0] rfl ?_
    exact J31 g28 hk
def f_X3_rainsIn (u : MSt) (a1 : Int32) : Option (Int32) :=
  if (((pM_rainHours u) >>> (a1 &&& 31)) &&& (1 : Int32)) = (1 : Int32) then
    some (1 : Int32)
  else
    some (0 : Int32)
theorem cwd_X3_rainsIn : yX3_rainsIn.cls ≠ "java/lang/invoke/MethodHandle" ∧ yX3_rainsIn.cls ≠ "java/lang/invoke/VarHandle" ∧ (parseMethodDescriptor yX3_rainsIn.desc).map (fun d => d.parameters.length) = some 1 := by decide +kernel
set_option maxHeartbeats 4000000 in
set_option maxRecDepth 100000 in
theorem c_X3_rainsIn {Γ : GC} (hJ : GJ Γ) (hA : ∀ i, i < 66 → act Γ i) (l : Launch) (σ : GSt) (k : Nat) (hk4 : k < 4) (u : MSt) (a1 : Int32) (x : Int32) (hk : f_X3_rainsIn u a1 = some x) : Mt Γ l yX3_rainsIn cX3_rainsIn 2 (some .boolean) 0 0 [.ref (ad Γ (10 * k)), .int a1] (gM k σ u) (some (.int x)) (gM k σ u) := by
  refine y_enter (by decide) hJ (Nat.le_of_ble_eq_true rfl) [(0, .ref (ad Γ (10 * k))), (1, .int a1)] rfl ?_
  intro p e s' m args below meth c' hC hr hlk
  have hM : ∀ j, j < 10 → act Γ (10 * k + j) := fun j hj => hA _ (by omega)
  refine y_aload_n hC dX3_rainsIn_0 0 rfl 1 rfl ?_
  refine y_get hC (10 * k) (hM 0 (by decide)) (cl_M (k := k) (mm := σ.1.2.1) (u := u) hk4 rfl) rfl inU3 2 (by decide) w1_44 rfl dX3_rainsIn_1 4 rfl ?_
  refine y_iload_n hC dX3_rainsIn_4 1 rfl 5 rfl ?_
  refine y_ishr hC dX3_rainsIn_5 6 rfl ?_
  refine y_iconst hC dX3_rainsIn_6 (v := (1 : Int32)) (by decide) 7 rfl ?_
  refine y_iand hC dX3_rainsIn_7 8 rfl ?_
  refine y_iconst hC dX3_rainsIn_8 (v := (1 : Int32)) (by decide) 9 rfl ?_
  refine y_icmp_ne hC dX3_rainsIn_9 16 (by decide) 12 rfl (fun h9 => ?_) (fun h9 => ?_)
  · have hk := ob_neg h9 hk
    refine y_iconst hC dX3_rainsIn_16 (v := (0 : Int32)) (by decide) 17 rfl ?_
    have e := Option.some.inj hk
    exact y_zret hC hr hlk rfl (by rw [← e]) (by first | rfl | rw [← e]) dX3_rainsIn_17
  · have hk := ob_pos h9 hk
    refine y_iconst hC dX3_rainsIn_12 (v := (1 : Int32)) (by decide) 13 rfl ?_
    refine y_goto hC dX3_rainsIn_13 17 (by decide) ?_
    have e := Option.some.inj hk
    exact y_zret hC hr hlk rfl (by rw [← e]) (by first | rfl | rw [← e]) dX3_rainsIn_17
def f_X3_fallsBelowBehind_s8 (u : MSt) (a1 : Int32) (a2 : Int32) (K8 : (Int32) → Option (Int32)) (q8 : Int32) : Option (Int32) :=
  if (10 : Int32) ≤ q8 then
    some (0 : Int32)
  else
    if inb q8 10 then 
      (if a2 ≤ (pM_prices u q8.toNatClampNeg) then
        K8 (q8 + (1 : Int32))
      else
        some (1 : Int32))
    else none
def f_X3_fallsBelowBehind (u : MSt) (a1 : Int32) (a2 : Int32) : Option (Int32) :=
  lt (if (0 : Int32) < (a1 + (1 : Int32)) then (a1 + (1 : Int32)) else (0 : Int32)) fun n7 => 
    (lp (f_X3_fallsBelowBehind_s8 u a1 a2) 1000 n7)
theorem cwd_X3_fallsBelowBehind : yX3_fallsBelowBehind.cls ≠ "java/lang/invoke/MethodHandle" ∧ yX3_fallsBelowBehind.cls ≠ "java/lang/invoke/VarHandle" ∧ (parseMethodDescriptor yX3_fallsBelowBehind.desc).map (fun d => d.parameters.length) = some 2 := by decide +kernel
set_option maxHeartbeats 4000000 in
set_option maxRecDepth 100000 in
theorem c_X3_fallsBelowBehind {Γ : GC} (hJ : GJ Γ) (hA : ∀ i, i < 66 → act Γ i) (l : Launch) (σ : GSt) (k : Nat) (hk4 : k < 4) (u : MSt) (a1 : Int32) (a2 : Int32) (x : Int32) (hk : f_X3_fallsBelowBehind u a1 a2 = some x) : Mt Γ l yX3_fallsBelowBehind cX3_fallsBelowBehind 4 (some .boolean) 1 30 [.ref (ad Γ (10 * k)), .int a1, .int a2] (gM k σ u) (some (.int x)) (gM k σ u) := by
  refine y_enter (by decide) hJ (Nat.le_of_ble_eq_true rfl) [(0, .ref (ad Γ (10 * k))), (1, .int a1), (2, .int a2)] rfl ?_
  intro p e s' m args below meth c' hC hr hlk
  have hM : ∀ j, j < 10 → act Γ (10 * k + j) := fun j hj => hA _ (by omega)
  have L8 : ∀ (n8 : Nat) (q8 : Int32), lp (f_X3_fallsBelowBehind_s8 u a1 a2) n8 q8 = some x → Y Γ (GA Γ) p l e ({ frames := 1, cells := 0, slots := 0, locals := 30 } : Room) s' m args below meth c' 0 0 (MQ below (Qg Γ (some (.int x)) (gM k σ u)) args s' 0 0 (GA Γ)) 4 (gM k σ u) 8 [(0, .ref (ad Γ (10 * k))), (1, .int a1), (2, .int a2), (3, .int q8)] [] := by
    intro n8
    induction n8 with
    | zero => intro q8 hk; exact (lp_zero hk).elim
    | succ n8 ih8 =>
      intro q8 hk
      have hk : f_X3_fallsBelowBehind_s8 u a1 a2 (lp (f_X3_fallsBelowBehind_s8 u a1 a2) n8) q8 = some x := (lp_succ _ _ _).symm.trans hk
      refine y_iload_n hC dX3_fallsBelowBehind_8 3 rfl 9 rfl ?_
      refine y_bipush hC dX3_fallsBelowBehind_9 (v := (10 : Int32)) (by decide) 11 rfl ?_
      refine y_icmp_ge hC dX3_fallsBelowBehind_11 32 (by decide) 14 rfl (fun h11 => ?_) (fun h11 => ?_)
      · have hk := ob_pos h11 hk
        refine y_iconst hC dX3_fallsBelowBehind_32 (v := (0 : Int32)) (by decide) 33 rfl ?_
        have e := Option.some.inj hk
        exact y_zret hC hr hlk rfl (by rw [← e]) (by first | rfl | rw [← e]) dX3_fallsBelowBehind_33
      · have hk := ob_neg h11 hk
        refine y_aload_n hC dX3_fallsBelowBehind_14 0 rfl 15 rfl ?_
        refine y_get hC (10 * k) (hM 0 (by decide)) (cl_M (k := k) (mm := σ.1.2.1) (u := u) hk4 rfl) rfl inU3 8 (by decide) w1_60 rfl dX3_fallsBelowBehind_15 18 rfl ?_
        refine y_iload_n hC dX3_fallsBelowBehind_18 3 rfl 19 rfl ?_
        obtain ⟨h19, hk⟩ := ob_if hk
        refine y_iald hC (10 * k + 1) (hM 1 (by decide)) (cl_M_prices (k := k) (mm := σ.1.2.1) (u := u) hk4 rfl) h19 dX3_fallsBelowBehind_19 20 rfl ?_
        refine y_iload_n hC dX3_fallsBelowBehind_20 2 rfl 21 rfl ?_
        refine y_icmp_ge hC dX3_fallsBelowBehind_21 26 (by decide) 24 rfl (fun h21 => ?_) (fun h21 => ?_)
        · have hk := ob_pos h21 hk
          refine y_iinc hC dX3_fallsBelowBehind_26 3 rfl (v := (q8 + (1 : Int32))) rfl (by decide) [(3, .int (q8 + (1 : Int32))), (0, .ref (ad Γ (10 * k))), (1, .int a1), (2, .int a2)] rfl 29 rfl ?_
          refine y_goto hC dX3_fallsBelowBehind_29 8 (by decide) ?_
          refine y_sub [1, 2, 3, 0] rfl ?_
          exact ih8 (q8 + (1 : Int32)) hk
        · have hk := ob_neg h21 hk
          refine y_iconst hC dX3_fallsBelowBehind_24 (v := (1 : Int32)) (by decide) 25 rfl ?_
          have e := Option.some.inj hk
          exact y_zret hC hr hlk rfl (by rw [← e]) (by first | rfl | rw [← e]) dX3_fallsBelowBehind_25
  refine y_iconst hC dX3_fallsBelowBehind_0 (v := (0 : Int32)) (by decide) 1 rfl ?_
  refine y_iload_n hC dX3_fallsBelowBehind_1 1 rfl 2 rfl ?_
  refine y_iconst hC dX3_fallsBelowBehind_2 (v := (1 : Int32)) (by decide) 3 rfl ?_
  refine y_iadd hC dX3_fallsBelowBehind_3 4 rfl ?_
  refine y_max hC w2_98 w2_99 w1_14 w2_100 ⟨by decide, Nat.le_of_ble_eq_true rfl⟩ (by decide) dX3_fallsBelowBehind_4 7 rfl ?_
  obtain ⟨n7, en7, hk⟩ := ob_lt hk
  refine y_topi en7 ?_
  refine y_istore_n hC dX3_fallsBelowBehind_7 (by decide) [(3, .int n7), (0, .ref (ad Γ (10 * k))), (1, .int a1), (2, .int a2)] rfl 8 rfl ?_
  refine y_sub [1, 2, 3, 0] rfl ?_
  exact L8 1000 n7 hk
def f_X3_goBack (u : MSt) : Option (MSt) :=
  if (pM_pastSize u) ≤ 0 then
    some u
  else
    if (pM_pastSize u) ≤ (8 : Int32) then
      lt (sM_pastSize u ((pM_pastSize u) - (1 : Int32))) fun g24 => 
        (lt ((pM_pastSize g24) * (10 : Int32)) fun n34 => 
        (if (¬ n34 < 0 ∧ ¬ (0 : Int32) < 0 ∧ ¬ (8 : Int32) < 0) ∧ n34.toNatClampNeg + (8 : Int32).toNatClampNeg ≤ 80 ∧ (0 : Int32).toNatClampNeg + (8 : Int32).toNatClampNeg ≤ 8 then 
        (lt (sM_kinds g24 (va_cpy (pM_past g24) (pM_kinds g24) n34.toNatClampNeg (0 : Int32).toNatClampNeg (8 : Int32).toNatClampNeg)) fun g47 => 
        (if inb (n34 + (8 : Int32)) 80 then 
        (lt (sM_totalTakings g47 (pM_past g47 (n34 + (8 : Int32)).toNatClampNeg)) fun g60 => 
        (if inb ((n34 + (8 : Int32)) + (1 : Int32)) 80 then 
        (lt (sM_totalThrown g60 (pM_past g60 ((n34 + (8 : Int32)) + (1 : Int32)).toNatClampNeg)) fun g75 => 
        (some g75))
      else none))
      else none))
      else none))
    else
      some u
theorem cwd_X3_goBack : yX3_goBack.cls ≠ "java/lang/invoke/MethodHandle" ∧ yX3_goBack.cls ≠ "java/lang/invoke/VarHandle" ∧ (parseMethodDescriptor yX3_goBack.desc).map (fun d => d.parameters.length) = some 0 := by decide +kernel
set_option maxHeartbeats 4000000 in
set_option maxRecDepth 100000 in
theorem c_X3_goBack {Γ : GC} (hJ : GJ Γ) (hA : ∀ i, i < 66 → act Γ i) (l : Launch) (σ : GSt) (k : Nat) (hk4 : k < 4) (u : MSt) (x : MSt) (hk : f_X3_goBack u = some x) : Mt Γ l yX3_goBack cX3_goBack 2 none 1 40 [.ref (ad Γ (10 * k))] (gM k σ u) none (gM k σ x) := by
  refine y_enter (by decide) hJ (Nat.le_of_ble_eq_true rfl) [(0, .ref (ad Γ (10 * k)))] rfl ?_
  intro p e s' m args below meth c' hC hr hlk
  have hM : ∀ j, j < 10 → act Γ (10 * k + j) := fun j hj => hA _ (by omega)
  refine y_aload_n hC dX3_goBack_0 0 rfl 1 rfl ?_
  refine y_get hC (10 * k) (hM 0 (by decide)) (cl_M (k := k) (mm := σ.1.2.1) (u := u) hk4 rfl) rfl inU3 7 (by decide) w1_58 rfl dX3_goBack_1 4 rfl ?_
  refine y_if_le hC dX3_goBack_4 16 (by decide) 7 rfl (fun h4 => ?_) (fun h4 => ?_)
  · have hk := ob_pos h4 hk
    have e := Option.some.inj hk
    exact y_vret hC hr hlk (by rw [← e]) dX3_goBack_16
  · have hk := ob_neg h4 hk
    refine y_aload_n hC dX3_goBack_7 0 rfl 8 rfl ?_
    refine y_get hC (10 * k) (hM 0 (by decide)) (cl_M (k := k) (mm := σ.1.2.1) (u := u) hk4 rfl) rfl inU3 7 (by decide) w1_58 rfl dX3_goBack_8 11 rfl ?_
    refine y_bipush hC dX3_goBack_11 (v := (8 : Int32)) (by decide) 13 rfl ?_
    refine y_icmp_le hC dX3_goBack_13 17 (by decide) 16 rfl (fun h13 => ?_) (fun h13 => ?_)
    · have hk := ob_pos h13 hk
      refine y_aload_n hC dX3_goBack_17 0 rfl 18 rfl ?_
      refine y_dup hC dX3_goBack_18 rfl 19 rfl ?_
      refine y_get hC (10 * k) (hM 0 (by decide)) (cl_M (k := k) (mm := σ.1.2.1) (u := u) hk4 rfl) rfl inU3 7 (by decide) w1_58 rfl dX3_goBack_19 22 rfl ?_
      refine y_iconst hC dX3_goBack_22 (v := (1 : Int32)) (by decide) 23 rfl ?_
      refine y_isub hC dX3_goBack_23 24 rfl ?_
      obtain ⟨g24, eg24, hk⟩ := ob_lt hk
      refine y_put hC (10 * k) (hM 0 (by decide)) (cl_M (k := k) (mm := σ.1.2.1) (u := u) hk4 rfl) rfl inU3 tyX3_ok nmX3 7 (by decide) w1_58 rfl rfl rfl rfl (Nat.le_of_ble_eq_true rfl) (gM k σ g24) (by subst eg24; exact (cu_M_pastSize (v := ((pM_pastSize u) - (1 : Int32))) (k := k) (mm := σ.1.2.1) (u := u) hk4 rfl rfl)) dX3_goBack_24 27 rfl ?_
      refine y_aload_n hC dX3_goBack_27 0 rfl 28 rfl ?_
      refine y_get hC (10 * k) (hM 0 (by decide)) (cl_M (k := k) (mm := σ.1.2.1) (u := g24) hk4 rfl) rfl inU3 7 (by decide) w1_58 rfl dX3_goBack_28 31 rfl ?_
      refine y_bipush hC dX3_goBack_31 (v := (10 : Int32)) (by decide) 33 rfl ?_
      refine y_imul hC dX3_goBack_33 34 rfl ?_
      obtain ⟨n34, en34, hk⟩ := ob_lt hk
      refine y_topi en34 ?_
      refine y_istore_n hC dX3_goBack_34 (by decide) [(1, .int n34), (0, .ref (ad Γ (10 * k)))] rfl 35 rfl ?_
      refine y_aload_n hC dX3_goBack_35 1 rfl 36 rfl ?_
      refine y_get hC (10 * k) (hM 0 (by decide)) (cl_M (k := k) (mm := σ.1.2.1) (u := g24) hk4 rfl) rfl inU3 16 (by decide) w1_80 rfl dX3_goBack_36 39 rfl ?_
      refine y_iload_n hC dX3_goBack_39 0 rfl 40 rfl ?_
      refine y_aload_n hC dX3_goBack_40 1 rfl 41 rfl ?_
      refine y_get hC (10 * k) (hM 0 (by decide)) (cl_M (k := k) (mm := σ.1.2.1) (u := g24) hk4 rfl) rfl inU3 10 (by decide) w1_62 rfl dX3_goBack_41 44 rfl ?_
      refine y_iconst hC dX3_goBack_44 (v := (0 : Int32)) (by decide) 45 rfl ?_
      refine y_bipush hC dX3_goBack_45 (v := (8 : Int32)) (by decide) 47 rfl ?_
      obtain ⟨h47, hk⟩ := ob_if hk
      obtain ⟨g47, eg47, hk⟩ := ob_lt hk
      refine y_copy hC w3_17 w3_19 w3_18 w1_19 (10 * k + 9) (10 * k + 3) (hM 9 (by decide)) (hM 3 (by decide)) (cl_M_past (k := k) (mm := σ.1.2.1) (u := g24) hk4 rfl) (cl_M_kinds (k := k) (mm := σ.1.2.1) (u := g24) hk4 rfl) h47 ⟨by decide, Nat.le_of_ble_eq_true rfl⟩ (gM k σ g47) (by subst eg47; exact (cu_M_kinds (v := (va_cpy (pM_past g24) (pM_kinds g24) n34.toNatClampNeg (0 : Int32).toNatClampNeg (8 : Int32).toNatClampNeg)) (k := k) (mm := σ.1.2.1) (u := g24) hk4 rfl rfl)) dX3_goBack_47 50 rfl ?_
      refine y_aload_n hC dX3_goBack_50 1 rfl 51 rfl ?_
      refine y_aload_n hC dX3_goBack_51 1 rfl 52 rfl ?_
      refine y_get hC (10 * k) (hM 0 (by decide)) (cl_M (k := k) (mm := σ.1.2.1) (u := g47) hk4 rfl) rfl inU3 16 (by decide) w1_80 rfl dX3_goBack_52 55 rfl ?_
      refine y_iload_n hC dX3_goBack_55 0 rfl 56 rfl ?_
      refine y_bipush hC dX3_goBack_56 (v := (8 : Int32)) (by decide) 58 rfl ?_
      refine y_iadd hC dX3_goBack_58 59 rfl ?_
      obtain ⟨h59, hk⟩ := ob_if hk
      refine y_iald hC (10 * k + 9) (hM 9 (by decide)) (cl_M_past (k := k) (mm := σ.1.2.1) (u := g47) hk4 rfl) h59 dX3_goBack_59 60 rfl ?_
      obtain ⟨g60, eg60, hk⟩ := ob_lt hk
      refine y_put hC (10 * k) (hM 0 (by decide)) (cl_M (k := k) (mm := σ.1.2.1) (u := g47) hk4 rfl) rfl inU3 tyX3_ok nmX3 4 (by decide) w1_51 rfl rfl rfl rfl (Nat.le_of_ble_eq_true rfl) (gM k σ g60) (by subst eg60; exact (cu_M_totalTakings (v := (pM_past g47 (n34 + (8 : Int32)).toNatClampNeg)) (k := k) (mm := σ.1.2.1) (u := g47) hk4 rfl rfl)) dX3_goBack_60 63 rfl ?_
      refine y_aload_n hC dX3_goBack_63 1 rfl 64 rfl ?_
      refine y_aload_n hC dX3_goBack_64 1 rfl 65 rfl ?_
      refine y_get hC (10 * k) (hM 0 (by decide)) (cl_M (k := k) (mm := σ.1.2.1) (u := g60) hk4 rfl) rfl inU3 16 (by decide) w1_80 rfl dX3_goBack_65 68 rfl ?_
      refine y_iload_n hC dX3_goBack_68 0 rfl 69 rfl ?_
      refine y_bipush hC dX3_goBack_69 (v := (8 : Int32)) (by decide) 71 rfl ?_
      refine y_iadd hC dX3_goBack_71 72 rfl ?_
      refine y_iconst hC dX3_goBack_72 (v := (1 : Int32)) (by decide) 73 rfl ?_
      refine y_iadd hC dX3_goBack_73 74 rfl ?_
      obtain ⟨h74, hk⟩ := ob_if hk
      refine y_iald hC (10 * k + 9) (hM 9 (by decide)) (cl_M_past (k := k) (mm := σ.1.2.1) (u := g60) hk4 rfl) h74 dX3_goBack_74 75 rfl ?_
      obtain ⟨g75, eg75, hk⟩ := ob_lt hk
      refine y_put hC (10 * k) (hM 0 (by decide)) (cl_M (k := k) (mm := σ.1.2.1) (u := g60) hk4 rfl) rfl inU3 tyX3_ok nmX3 5 (by decide) w1_53 rfl rfl rfl rfl (Nat.le_of_ble_eq_true rfl) (gM k σ g75) (by subst eg75; exact (cu_M_totalThrown (v := (pM_past g60 ((n34 + (8 : Int32)) + (1 : Int32)).toNatClampNeg)) (k := k) (mm := σ.1.2.1) (u := g60) hk4 rfl rfl)) dX3_goBack_75 78 rfl ?_
      have e := Option.some.inj hk
      exact y_vret hC hr hlk (by rw [← e]) dX3_goBack_78
    · have hk := ob_neg h13 hk
      have e := Option.some.inj hk
      exact y_vret hC hr hlk (by rw [← e]) dX3_goBack_16
def f_X3_setTheirPricesFrom_s6 (a1 : Int32) (a2 : Int32) (K6 : (Int32 × MSt) → Option (MSt)) (q6 : Int32 × MSt) : Option (MSt) :=
  if (10 : Int32) ≤ q6.1 then
    some q6.2
  else
    if inb q6.1 10 then 
      (lt (sM_theirPrices q6.2 (upd (pM_theirPrices q6.2) q6.1.toNatClampNeg a2)) fun g18 => 
      (K6 ((q6.1 + (1 : Int32)), g18)))
    else none
def f_X3_setTheirPricesFrom (u : MSt) (a1 : Int32) (a2 : Int32) : Option (MSt) :=
  lt (if (0 : Int32) < a1 then a1 else (0 : Int32)) fun n5 => 
    (lp (f_X3_setTheirPricesFrom_s6 a1 a2) 1000 (n5, u))
theorem cwd_X3_setTheirPricesFrom : yX3_setTheirPricesFrom.cls ≠ "java/lang/invoke/MethodHandle" ∧ yX3_setTheirPricesFrom.cls ≠ "java/lang/invoke/VarHandle" ∧ (parseMethodDescriptor yX3_setTheirPricesFrom.desc).map (fun d => d.parameters.length) = some 2 := by decide +kernel
set_option maxHeartbeats 4000000 in
set_option maxRecDepth 100000 in
theorem c_X3_setTheirPricesFrom {Γ : GC} (hJ : GJ Γ) (hA : ∀ i, i < 66 → act Γ i) (l : Launch) (σ : GSt) (k : Nat) (hk4 : k < 4) (u : MSt) (a1 : Int32) (a2 : Int32) (x : MSt) (hk : f_X3_setTheirPricesFrom u a1 a2 = some x) : Mt Γ l yX3_setTheirPricesFrom cX3_setTheirPricesFrom 4 none 1 30 [.ref (ad Γ (10 * k)), .int a1, .int a2] (gM k σ u) none (gM k σ x) := by
  refine y_enter (by decide) hJ (Nat.le_of_ble_eq_true rfl) [(0, .ref (ad Γ (10 * k))), (1, .int a1), (2, .int a2)] rfl ?_
  intro p e s' m args below meth c' hC hr hlk
  have hM : ∀ j, j < 10 → act Γ (10 * k + j) := fun j hj => hA _ (by omega)
  have L6 : ∀ (n6 : Nat) (q6 : Int32 × MSt), lp (f_X3_setTheirPricesFrom_s6 a1 a2) n6 q6 = some x → Y Γ (GA Γ) p l e ({ frames := 1, cells := 0, slots := 0, locals := 30 } : Room) s' m args below meth c' 0 0 (MQ below (Qg Γ none (gM k σ x)) args s' 0 0 (GA Γ)) 4 (gM k σ q6.2) 6 [(0, .ref (ad Γ (10 * k))), (1, .int a1), (2, .int a2), (3, .int q6.1)] [] := by
    intro n6
    induction n6 with
    | zero => intro q6 hk; exact (lp_zero hk).elim
    | succ n6 ih6 =>
      intro q6 hk
      have hk : f_X3_setTheirPricesFrom_s6 a1 a2 (lp (f_X3_setTheirPricesFrom_s6 a1 a2) n6) q6 = some x := (lp_succ _ _ _).symm.trans hk
      refine y_iload_n hC dX3_setTheirPricesFrom_6 3 rfl 7 rfl ?_
      refine y_bipush hC dX3_setTheirPricesFrom_7 (v := (10 : Int32)) (by decide) 9 rfl ?_
      refine y_icmp_ge hC dX3_setTheirPricesFrom_9 25 (by decide) 12 rfl (fun h9 => ?_) (fun h9 => ?_)
      · have hk := ob_pos h9 hk
        have e := Option.some.inj hk
        exact y_vret hC hr hlk (by rw [← e]) dX3_setTheirPricesFrom_25
      · have hk := ob_neg h9 hk
        refine y_aload_n hC dX3_setTheirPricesFrom_12 0 rfl 13 rfl ?_
        refine y_get hC (10 * k) (hM 0 (by decide)) (cl_M (k := k) (mm := σ.1.2.1) (u := q6.2) hk4 rfl) rfl inU3 9 (by decide) w1_61 rfl dX3_setTheirPricesFrom_13 16 rfl ?_
        refine y_iload_n hC dX3_setTheirPricesFrom_16 3 rfl 17 rfl ?_
        refine y_iload_n hC dX3_setTheirPricesFrom_17 2 rfl 18 rfl ?_
        obtain ⟨h18, hk⟩ := ob_if hk
        obtain ⟨g18, eg18, hk⟩ := ob_lt hk
        refine y_iast hC (10 * k + 2) (hM 2 (by decide)) (cl_M_theirPrices (k := k) (mm := σ.1.2.1) (u := q6.2) hk4 rfl) h18 (gM k σ g18) (by subst eg18; exact (cu_M_theirPrices (v := (upd (pM_theirPrices q6.2) q6.1.toNatClampNeg a2)) (k := k) (mm := σ.1.2.1) (u := q6.2) hk4 rfl rfl)) dX3_setTheirPricesFrom_18 19 rfl ?_
        refine y_iinc hC dX3_setTheirPricesFrom_19 3 rfl (v := (q6.1 + (1 : Int32))) rfl (by decide) [(3, .int (q6.1 + (1 : Int32))), (0, .ref (ad Γ (10 * k))), (1, .int a1), (2, .int a2)] rfl 22 rfl ?_
        refine y_goto hC dX3_setTheirPricesFrom_22 6 (by decide) ?_
        refine y_sub [1, 2, 3, 0] rfl ?_
        exact ih6 ((q6.1 + (1 : Int32)), g18) hk
  refine y_iconst hC dX3_setTheirPricesFrom_0 (v := (0 : Int32)) (by decide) 1 rfl ?_
  refine y_iload_n hC dX3_setTheirPricesFrom_1 1 rfl 2 rfl ?_
  refine y_max hC w2_98 w2_99 w1_14 w2_100 ⟨by decide, Nat.le_of_ble_eq_true rfl⟩ (by decide) dX3_setTheirPricesFrom_2 5 rfl ?_
  obtain ⟨n5, en5, hk⟩ := ob_lt hk
  refine y_topi en5 ?_
  refine y_istore_n hC dX3_setTheirPricesFrom_5 (by decide) [(3, .int n5), (0, .ref (ad Γ (10 * k))), (1, .int a1), (2, .int a2)] rfl 6 rfl ?_
  refine y_sub [1, 2, 3, 0] rfl ?_
  exact L6 1000 (n5, u) hk
def f_X3_addSold (u : MSt) (a1 : Int32) (a2 : Int32) : Option (MSt) :=
  if (pM_soldSize u) < 0 then
    some u
  else
    if (pM_soldSize u) < (6 : Int32) then
      if inb (pM_soldSize u) 6 then 
        (lt (sM_soldHours u (upd (pM_soldHours u) (pM_soldSize u).toNatClampNeg a1)) fun g26 => 
        (if inb (pM_soldSize g26) 6 then 
        (lt (sM_soldNumbers g26 (upd (pM_soldNumbers g26) (pM_soldSize g26).toNatClampNeg a2)) fun g36 => 
        (lt (sM_soldSize g36 ((pM_soldSize g36) + (1 : Int32))) fun g44 => 
        (some g44)))
      else none))
      else none
    else
      some u
theorem cwd_X3_addSold : yX3_addSold.cls ≠ "java/lang/invoke/MethodHandle" ∧ yX3_addSold.cls ≠ "java/lang/invoke/VarHandle" ∧ (parseMethodDescriptor yX3_addSold.desc).map (fun d => d.parameters.length) = some 2 := by decide +kernel
set_option maxHeartbeats 4000000 in
set_option maxRecDepth 100000 in
theorem c_X3_addSold {Γ : GC} (hJ : GJ Γ) (hA : ∀ i, i < 66 → act Γ i) (l : Launch) (σ : GSt) (k : Nat) (hk4 : k < 4) (u : MSt) (a1 : Int32) (a2 : Int32) (x : MSt) (hk : f_X3_addSold u a1 a2 = some x) : Mt Γ l yX3_addSold cX3_addSold 3 none 0 0 [.ref (ad Γ (10 * k)), .int a1, .int a2] (gM k σ u) none (gM k σ x) := by
  refine y_enter (by decide) hJ (Nat.le_of_ble_eq_true rfl) [(0, .ref (ad Γ (10 * k))), (1, .int a1), (2, .int a2)] rfl ?_
  intro p e s' m args below meth c' hC hr hlk
  have hM : ∀ j, j < 10 → act Γ (10 * k + j) := fun j hj => hA _ (by omega)
  refine y_aload_n hC dX3_addSold_0 0 rfl 1 rfl ?_
  refine y_get hC (10 * k) (hM 0 (by decide)) (cl_M (k := k) (mm := σ.1.2.1) (u := u) hk4 rfl) rfl inU3 6 (by decide) w1_55 rfl dX3_addSold_1 4 rfl ?_
  refine y_if_lt hC dX3_addSold_4 16 (by decide) 7 rfl (fun h4 => ?_) (fun h4 => ?_)
  · have hk := ob_pos h4 hk
    have e := Option.some.inj hk
    exact y_vret hC hr hlk (by rw [← e]) dX3_addSold_16
  · have hk := ob_neg h4 hk
    refine y_aload_n hC dX3_addSold_7 0 rfl 8 rfl ?_
    refine y_get hC (10 * k) (hM 0 (by decide)) (cl_M (k := k) (mm := σ.1.2.1) (u := u) hk4 rfl) rfl inU3 6 (by decide) w1_55 rfl dX3_addSold_8 11 rfl ?_
    refine y_bipush hC dX3_addSold_11 (v := (6 : Int32)) (by decide) 13 rfl ?_
    refine y_icmp_lt hC dX3_addSold_13 17 (by decide) 16 rfl (fun h13 => ?_) (fun h13 => ?_)
    · have hk := ob_pos h13 hk
      refine y_aload_n hC dX3_addSold_17 0 rfl 18 rfl ?_
      refine y_get hC (10 * k) (hM 0 (by decide)) (cl_M (k := k) (mm := σ.1.2.1) (u := u) hk4 rfl) rfl inU3 14 (by decide) w1_74 rfl dX3_addSold_18 21 rfl ?_
      refine y_aload_n hC dX3_addSold_21 0 rfl 22 rfl ?_
      refine y_get hC (10 * k) (hM 0 (by decide)) (cl_M (k := k) (mm := σ.1.2.1) (u := u) hk4 rfl) rfl inU3 6 (by decide) w1_55 rfl dX3_addSold_22 25 rfl ?_
      refine y_iload_n hC dX3_addSold_25 1 rfl 26 rfl ?_
      obtain ⟨h26, hk⟩ := ob_if hk
      obtain ⟨g26, eg26, hk⟩ := ob_lt hk
      refine y_iast hC (10 * k + 7) (hM 7 (by decide)) (cl_M_soldHours (k := k) (mm := σ.1.2.1) (u := u) hk4 rfl) h26 (gM k σ g26) (by subst eg26; exact (cu_M_soldHours (v := (upd (pM_soldHours u) (pM_soldSize u).toNatClampNeg a1)) (k := k) (mm := σ.1.2.1) (u := u) hk4 rfl rfl)) dX3_addSold_26 27 rfl ?_
      refine y_aload_n hC dX3_addSold_27 0 rfl 28 rfl ?_
      refine y_get hC (10 * k) (hM 0 (by decide)) (cl_M (k := k) (mm := σ.1.2.1) (u := g26) hk4 rfl) rfl inU3 15 (by decide) w1_77 rfl dX3_addSold_28 31 rfl ?_
      refine y_aload_n hC dX3_addSold_31 0 rfl 32 rfl ?_
      refine y_get hC (10 * k) (hM 0 (by decide)) (cl_M (k := k) (mm := σ.1.2.1) (u := g26) hk4 rfl) rfl inU3 6 (by decide) w1_55 rfl dX3_addSold_32 35 rfl ?_
      refine y_iload_n hC dX3_addSold_35 2 rfl 36 rfl ?_
      obtain ⟨h36, hk⟩ := ob_if hk
      obtain ⟨g36, eg36, hk⟩ := ob_lt hk
      refine y_iast hC (10 * k + 8) (hM 8 (by decide)) (cl_M_soldNumbers (k := k) (mm := σ.1.2.1) (u := g26) hk4 rfl) h36 (gM k σ g36) (by subst eg36; exact (cu_M_soldNumbers (v := (upd (pM_soldNumbers g26) (pM_soldSize g26).toNatClampNeg a2)) (k := k) (mm := σ.1.2.1) (u := g26) hk4 rfl rfl)) dX3_addSold_36 37 rfl ?_
      refine y_aload_n hC dX3_addSold_37 0 rfl 38 rfl ?_
      refine y_dup hC dX3_addSold_38 rfl 39 rfl ?_
      refine y_get hC (10 * k) (hM 0 (by decide)) (cl_M (k := k) (mm := σ.1.2.1) (u := g36) hk4 rfl) rfl inU3 6 (by decide) w1_55 rfl dX3_addSold_39 42 rfl ?_
      refine y_iconst hC dX3_addSold_42 (v := (1 : Int32)) (by decide) 43 rfl ?_
      refine y_iadd hC dX3_addSold_43 44 rfl ?_
      obtain ⟨g44, eg44, hk⟩ := ob_lt hk
      refine y_put hC (10 * k) (hM 0 (by decide)) (cl_M (k := k) (mm := σ.1.2.1) (u := g36) hk4 rfl) rfl inU3 tyX3_ok nmX3 6 (by decide) w1_55 rfl rfl rfl rfl (Nat.le_of_ble_eq_true rfl) (gM k σ g44) (by subst eg44; exact (cu_M_soldSize (v := ((pM_soldSize g36) + (1 : Int32))) (k := k) (mm := σ.1.2.1) (u := g36) hk4 rfl rfl)) dX3_addSold_44 47 rfl ?_
      have e := Option.some.inj hk
      exact y_vret hC hr hlk (by rw [← e]) dX3_addSold_47
    · have hk := ob_neg h13 hk
      have e := Option.some.inj hk
      exact y_vret hC hr hlk (by rw [← e]) dX3_addSold_16
