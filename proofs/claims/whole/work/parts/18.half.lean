def f_X10_refuse (c : CSt) (a1 : Int32) : Option (Int32 × CSt) :=
  if a1 = (-2 : Int32) then
    lt (sc_h c (sH_refusedBad (c_h c) ((pH_refusedBad (c_h c)) + (1 : Int32)))) fun g13 => 
      (some (a1, g13))
  else
    if a1 = (-3 : Int32) then
      lt (sc_h c (sH_refusedNo (c_h c) ((pH_refusedNo (c_h c)) + (1 : Int32)))) fun g32 => 
        (some (a1, g32))
    else
      lt (sc_h c (sH_refusedFull (c_h c) ((pH_refusedFull (c_h c)) + (1 : Int32)))) fun g45 => 
        (some (a1, g45))
theorem cwd_X10_refuse : yX10_refuse.cls ≠ "java/lang/invoke/MethodHandle" ∧ yX10_refuse.cls ≠ "java/lang/invoke/VarHandle" ∧ (parseMethodDescriptor yX10_refuse.desc).map (fun d => d.parameters.length) = some 1 := by decide +kernel
set_option maxHeartbeats 4000000 in
set_option maxRecDepth 100000 in
theorem c_X10_refuse {Γ : GC} (hJ : GJ Γ) (hA : ∀ i, i < 66 → act Γ i) (l : Launch) (σ : GSt) (c : CSt) (a1 : Int32) (x : Int32 × CSt) (hk : f_X10_refuse c a1 = some x) : Mt Γ l yX10_refuse cX10_refuse 2 (some .int) 0 0 [.ref (ad Γ 63), .int a1] (gC σ c) (some (.int x.1)) (gC σ x.2) := by
  refine y_enter (by decide) hJ (Nat.le_of_ble_eq_true rfl) [(0, .ref (ad Γ 63)), (1, .int a1)] rfl ?_
  intro p e s' m args below meth c' hC hr hlk
  refine y_iload_n hC dX10_refuse_0 1 rfl 1 rfl ?_
  refine y_bipush hC dX10_refuse_1 (v := (-2 : Int32)) (by decide) 3 rfl ?_
  refine y_icmp_ne hC dX10_refuse_3 19 (by decide) 6 rfl (fun h3 => ?_) (fun h3 => ?_)
  · have hk := ob_neg h3 hk
    refine y_iload_n hC dX10_refuse_19 1 rfl 20 rfl ?_
    refine y_bipush hC dX10_refuse_20 (v := (-3 : Int32)) (by decide) 22 rfl ?_
    refine y_icmp_ne hC dX10_refuse_22 38 (by decide) 25 rfl (fun h22 => ?_) (fun h22 => ?_)
    · have hk := ob_neg h22 hk
      refine y_aload_n hC dX10_refuse_38 0 rfl 39 rfl ?_
      refine y_dup hC dX10_refuse_39 rfl 40 rfl ?_
      refine y_get hC 63 (hA 63 (by decide)) (cl_H (u := (c_h c)) rfl) rfl inU10 11 (by decide) w2_38 rfl dX10_refuse_40 43 rfl ?_
      refine y_iconst hC dX10_refuse_43 (v := (1 : Int32)) (by decide) 44 rfl ?_
      refine y_iadd hC dX10_refuse_44 45 rfl ?_
      obtain ⟨g45, eg45, hk⟩ := ob_lt hk
      refine y_put hC 63 (hA 63 (by decide)) (cl_H (u := (c_h c)) rfl) rfl inU10 tyX10_ok nmX10 11 (by decide) w2_38 rfl rfl rfl rfl (Nat.le_of_ble_eq_true rfl) (gC σ g45) (by subst eg45; exact (cu_H_refusedFull (u := (c_h c)) (v := ((pH_refusedFull (c_h c)) + (1 : Int32))) rfl rfl)) dX10_refuse_45 48 rfl ?_
      refine y_iload_n hC dX10_refuse_48 1 rfl 49 rfl ?_
      have e := Option.some.inj hk
      exact y_iret hC hr hlk (by rw [← e]) (by first | rfl | rw [← e]) dX10_refuse_49
    · have hk := ob_pos h22 hk
      refine y_aload_n hC dX10_refuse_25 0 rfl 26 rfl ?_
      refine y_dup hC dX10_refuse_26 rfl 27 rfl ?_
      refine y_get hC 63 (hA 63 (by decide)) (cl_H (u := (c_h c)) rfl) rfl inU10 10 (by decide) w2_37 rfl dX10_refuse_27 30 rfl ?_
      refine y_iconst hC dX10_refuse_30 (v := (1 : Int32)) (by decide) 31 rfl ?_
      refine y_iadd hC dX10_refuse_31 32 rfl ?_
      obtain ⟨g32, eg32, hk⟩ := ob_lt hk
      refine y_put hC 63 (hA 63 (by decide)) (cl_H (u := (c_h c)) rfl) rfl inU10 tyX10_ok nmX10 10 (by decide) w2_37 rfl rfl rfl rfl (Nat.le_of_ble_eq_true rfl) (gC σ g32) (by subst eg32; exact (cu_H_refusedNo (u := (c_h c)) (v := ((pH_refusedNo (c_h c)) + (1 : Int32))) rfl rfl)) dX10_refuse_32 35 rfl ?_
      refine y_goto hC dX10_refuse_35 48 (by decide) ?_
      refine y_iload_n hC dX10_refuse_48 1 rfl 49 rfl ?_
      have e := Option.some.inj hk
      exact y_iret hC hr hlk (by rw [← e]) (by first | rfl | rw [← e]) dX10_refuse_49
  · have hk := ob_pos h3 hk
    refine y_aload_n hC dX10_refuse_6 0 rfl 7 rfl ?_
    refine y_dup hC dX10_refuse_7 rfl 8 rfl ?_
    refine y_get hC 63 (hA 63 (by decide)) (cl_H (u := (c_h c)) rfl) rfl inU10 9 (by decide) w2_36 rfl dX10_refuse_8 11 rfl ?_
    refine y_iconst hC dX10_refuse_11 (v := (1 : Int32)) (by decide) 12 rfl ?_
    refine y_iadd hC dX10_refuse_12 13 rfl ?_
    obtain ⟨g13, eg13, hk⟩ := ob_lt hk
    refine y_put hC 63 (hA 63 (by decide)) (cl_H (u := (c_h c)) rfl) rfl inU10 tyX10_ok nmX10 9 (by decide) w2_36 rfl rfl rfl rfl (Nat.le_of_ble_eq_true rfl) (gC σ g13) (by subst eg13; exact (cu_H_refusedBad (u := (c_h c)) (v := ((pH_refusedBad (c_h c)) + (1 : Int32))) rfl rfl)) dX10_refuse_13 16 rfl ?_
    refine y_goto hC dX10_refuse_16 48 (by decide) ?_
    refine y_iload_n hC dX10_refuse_48 1 rfl 49 rfl ?_
    have e := Option.some.inj hk
    exact y_iret hC hr hlk (by rw [← e]) (by first | rfl | rw [← e]) dX10_refuse_49
def f_X10_market_j20 (a1 : Int32) (a2 : Int32) (gc : CSt) : Option (Int32 × CSt) :=
  (f_X10_refuse gc (-2 : Int32)).bind fun x23 => 
    (some (x23.1, x23.2))
def f_X10_market (c : CSt) (a1 : Int32) (a2 : Int32) : Option (Int32 × CSt) :=
  (f_X10_within a1 (0 : Int32) (99 : Int32)).bind fun x4 => 
    (if x4 = 0 then
      f_X10_market_j20 a1 a2 c
    else
      (f_X10_within a2 (0 : Int32) (9 : Int32)).bind fun x14 => 
        (if x14 = 0 then
          f_X10_market_j20 a1 a2 c
        else
          (f_X3_startAnew (c_m0 c) a1 a2).bind fun x41 => 
            (lt (sc_m0 c x41) fun g41 => 
            (some ((pM_size (c_m0 c)), g41)))))
theorem cwd_X10_market : yX10_market.cls ≠ "java/lang/invoke/MethodHandle" ∧ yX10_market.cls ≠ "java/lang/invoke/VarHandle" ∧ (parseMethodDescriptor yX10_market.desc).map (fun d => d.parameters.length) = some 2 := by decide +kernel
set_option maxHeartbeats 4000000 in
set_option maxRecDepth 100000 in
theorem c_X10_market {Γ : GC} (hJ : GJ Γ) (hA : ∀ i, i < 66 → act Γ i) (l : Launch) (σ : GSt) (c : CSt) (a1 : Int32) (a2 : Int32) (x : Int32 × CSt) (hk : f_X10_market c a1 a2 = some x) : Mt Γ l yX10_market cX10_market 4 (some .int) 2 45 [.ref (ad Γ 63), .int a1, .int a2] (gC σ c) (some (.int x.1)) (gC σ x.2) := by
  refine y_enter (by decide) hJ (Nat.le_of_ble_eq_true rfl) [(0, .ref (ad Γ 63)), (1, .int a1), (2, .int a2)] rfl ?_
  intro p e s' m args below meth c' hC hr hlk
  have J20 : ∀ (gc : CSt), f_X10_market_j20 a1 a2 gc = some x → Y Γ (GA Γ) p l e ({ frames := 2, cells := 0, slots := 0, locals := 45 } : Room) s' m args below meth c' 0 0 (MQ below (Qg Γ (some (.int x.1)) (gC σ x.2)) args s' 0 0 (GA Γ)) 4 (gC σ gc) 20 [(0, .ref (ad Γ 63)), (1, .int a1), (2, .int a2)] [] := by
    intro gc hk
    refine y_aload_n hC dX10_market_20 0 rfl 21 rfl ?_
    refine y_bipush hC dX10_market_21 (v := (-2 : Int32)) (by decide) 23 rfl ?_
    obtain ⟨x23, hx23, hk⟩ := ob_bind hk
    refine y_callV hC 63 (hA 63 (by decide)) (cl_H (u := (c_h gc)) rfl) rfl (c_X10_refuse hJ hA l σ gc (-2 : Int32) x23 hx23) rfl ⟨w2_74, w1_1, cwd_X10_refuse, by decide, by decide⟩ w2_71 w2_73 ws1_0 rfl rfl (Nat.le_of_ble_eq_true rfl) (by decide) dX10_market_23 26 rfl (gC σ x23.2) rfl [.int x23.1] rfl ?_
    have e := Option.some.inj hk
    exact y_iret hC hr hlk (by rw [← e]) (by first | rfl | rw [← e]) dX10_market_26
  refine y_iload_n hC dX10_market_0 1 rfl 1 rfl ?_
  refine y_iconst hC dX10_market_1 (v := (0 : Int32)) (by decide) 2 rfl ?_
  refine y_bipush hC dX10_market_2 (v := (99 : Int32)) (by decide) 4 rfl ?_
  obtain ⟨x4, hx4, hk⟩ := ob_bind hk
  refine y_callS hC (c_X10_within hJ l (gC σ c) a1 (0 : Int32) (99 : Int32) x4 hx4) rfl ⟨w2_70, w1_1, cwd_X10_within, by decide, by decide⟩ w2_68 w2_69 rfl rfl (Nat.le_of_ble_eq_true rfl) (by decide) dX10_market_4 7 rfl (gC σ c) rfl [.int x4] rfl ?_
  refine y_if_eq hC dX10_market_7 20 (by decide) 10 rfl (fun h7 => ?_) (fun h7 => ?_)
  · have hk := ob_pos h7 hk
    refine y_sub [0, 1, 2] rfl ?_
    exact J20 c hk
  · have hk := ob_neg h7 hk
    refine y_iload_n hC dX10_market_10 2 rfl 11 rfl ?_
    refine y_iconst hC dX10_market_11 (v := (0 : Int32)) (by decide) 12 rfl ?_
    refine y_bipush hC dX10_market_12 (v := (9 : Int32)) (by decide) 14 rfl ?_
    obtain ⟨x14, hx14, hk⟩ := ob_bind hk
    refine y_callS hC (c_X10_within hJ l (gC σ c) a2 (0 : Int32) (9 : Int32) x14 hx14) rfl ⟨w2_70, w1_1, cwd_X10_within, by decide, by decide⟩ w2_68 w2_69 rfl rfl (Nat.le_of_ble_eq_true rfl) (by decide) dX10_market_14 17 rfl (gC σ c) rfl [.int x14] rfl ?_
    refine y_if_ne hC dX10_market_17 27 (by decide) 20 rfl (fun h17 => ?_) (fun h17 => ?_)
    · have hk := ob_neg h17 hk
      refine y_aload_n hC dX10_market_27 0 rfl 28 rfl ?_
      refine y_get hC 63 (hA 63 (by decide)) (cl_H (u := (c_h c)) rfl) rfl inU10 0 (by decide) w2_27 rfl dX10_market_28 31 rfl ?_
      refine y_getN hC (10 * 0) (hA 0 (by decide)) (cl_M (k := 0) (mm := (c).2.1) (u := (c_m0 c)) (by decide) rfl) rfl inU3 3 (by decide) w1_48 rfl dX10_market_31 34 rfl ?_
      refine y_istore_n hC dX10_market_34 (by decide) [(3, .int (pM_size (c_m0 c))), (0, .ref (ad Γ 63)), (1, .int a1), (2, .int a2)] rfl 35 rfl ?_
      refine y_aload_n hC dX10_market_35 1 rfl 36 rfl ?_
      refine y_get hC 63 (hA 63 (by decide)) (cl_H (u := (c_h c)) rfl) rfl inU10 0 (by decide) w2_27 rfl dX10_market_36 39 rfl ?_
      refine y_iload_n hC dX10_market_39 2 rfl 40 rfl ?_
      refine y_iload_n hC dX10_market_40 3 rfl 41 rfl ?_
      obtain ⟨x41, hx41, hk⟩ := ob_bind hk
      obtain ⟨g41, eg41, hk⟩ := ob_lt hk
      refine y_callVN hC (10 * 0) (hA 0 (by decide)) (cl_M (k := 0) (mm := (c).2.1) (u := (c_m0 c)) (by decide) rfl) rfl (c_X3_startAnew hJ hA l (gC σ c) 0 (by decide) (c_m0 c) a1 a2 x41 hx41) rfl ⟨w2_78, w1_2, cwd_X3_startAnew, by decide, by decide⟩ w2_75 w2_77 ws1_1 rfl rfl (Nat.le_of_ble_eq_true rfl) (by decide) dX10_market_41 44 rfl (gC σ g41) (by subst eg41; rfl) [] rfl ?_
      refine y_iload_n hC dX10_market_44 0 rfl 45 rfl ?_
      have e := Option.some.inj hk
      exact y_iret hC hr hlk (by rw [← e]) (by first | rfl | rw [← e]) dX10_market_45
    · have hk := ob_pos h17 hk
      refine y_sub [0, 1, 2] rfl ?_
      exact J20 c hk
def f_X10_bring (c : CSt) (a1 : Int32) : Option (Int32 × CSt) :=
  (f_X10_within a1 (0 : Int32) (99 : Int32)).bind fun x4 => 
    (if x4 = 0 then
      (f_X10_refuse c (-2 : Int32)).bind fun x13 => 
        (some (x13.1, x13.2))
    else
      lt (sc_m0 c (sM_punnets (c_m0 c) a1)) fun g30 => 
        (some ((pM_punnets (c_m0 c)), g30)))
theorem cwd_X10_bring : yX10_bring.cls ≠ "java/lang/invoke/MethodHandle" ∧ yX10_bring.cls ≠ "java/lang/invoke/VarHandle" ∧ (parseMethodDescriptor yX10_bring.desc).map (fun d => d.parameters.length) = some 1 := by decide +kernel
set_option maxHeartbeats 4000000 in
set_option maxRecDepth 100000 in
theorem c_X10_bring {Γ : GC} (hJ : GJ Γ) (hA : ∀ i, i < 66 → act Γ i) (l : Launch) (σ : GSt) (c : CSt) (a1 : Int32) (x : Int32 × CSt) (hk : f_X10_bring c a1 = some x) : Mt Γ l yX10_bring cX10_bring 3 (some .int) 1 22 [.ref (ad Γ 63), .int a1] (gC σ c) (some (.int x.1)) (gC σ x.2) := by
  refine y_enter (by decide) hJ (Nat.le_of_ble_eq_true rfl) [(0, .ref (ad Γ 63)), (1, .int a1)] rfl ?_
  intro p e s' m args below meth c' hC hr hlk
  refine y_iload_n hC dX10_bring_0 1 rfl 1 rfl ?_
  refine y_iconst hC dX10_bring_1 (v := (0 : Int32)) (by decide) 2 rfl ?_
  refine y_bipush hC dX10_bring_2 (v := (99 : Int32)) (by decide) 4 rfl ?_
  obtain ⟨x4, hx4, hk⟩ := ob_bind hk
  refine y_callS hC (c_X10_within hJ l (gC σ c) a1 (0 : Int32) (99 : Int32) x4 hx4) rfl ⟨w2_70, w1_1, cwd_X10_within, by decide, by decide⟩ w2_68 w2_69 rfl rfl (Nat.le_of_ble_eq_true rfl) (by decide) dX10_bring_4 7 rfl (gC σ c) rfl [.int x4] rfl ?_
  refine y_if_ne hC dX10_bring_7 17 (by decide) 10 rfl (fun h7 => ?_) (fun h7 => ?_)
  · have hk := ob_neg h7 hk
    refine y_aload_n hC dX10_bring_17 0 rfl 18 rfl ?_
    refine y_get hC 63 (hA 63 (by decide)) (cl_H (u := (c_h c)) rfl) rfl inU10 0 (by decide) w2_27 rfl dX10_bring_18 21 rfl ?_
    refine y_getN hC (10 * 0) (hA 0 (by decide)) (cl_M (k := 0) (mm := (c).2.1) (u := (c_m0 c)) (by decide) rfl) rfl inU3 0 (by decide) w1_39 rfl dX10_bring_21 24 rfl ?_
    refine y_istore_n hC dX10_bring_24 (by decide) [(2, .int (pM_punnets (c_m0 c))), (0, .ref (ad Γ 63)), (1, .int a1)] rfl 25 rfl ?_
    refine y_aload_n hC dX10_bring_25 1 rfl 26 rfl ?_
    refine y_get hC 63 (hA 63 (by decide)) (cl_H (u := (c_h c)) rfl) rfl inU10 0 (by decide) w2_27 rfl dX10_bring_26 29 rfl ?_
    refine y_iload_n hC dX10_bring_29 2 rfl 30 rfl ?_
    obtain ⟨g30, eg30, hk⟩ := ob_lt hk
    refine y_putN hC (10 * 0) (hA 0 (by decide)) (cl_M (k := 0) (mm := (c).2.1) (u := (c_m0 c)) (by decide) rfl) rfl inU3 tyX3_ok nmX3 0 (by decide) w1_39 rfl rfl rfl rfl (Nat.le_of_ble_eq_true rfl) (gC σ g30) (by subst eg30; exact (cu_M_punnets (v := a1) (k := 0) (mm := (c).2.1) (u := (c_m0 c)) (by decide) rfl rfl)) dX10_bring_30 33 rfl ?_
    refine y_iload_n hC dX10_bring_33 0 rfl 34 rfl ?_
    have e := Option.some.inj hk
    exact y_iret hC hr hlk (by rw [← e]) (by first | rfl | rw [← e]) dX10_bring_34
  · have hk := ob_pos h7 hk
    refine y_aload_n hC dX10_bring_10 0 rfl 11 rfl ?_
    refine y_bipush hC dX10_bring_11 (v := (-2 : Int32)) (by decide) 13 rfl ?_
    obtain ⟨x13, hx13, hk⟩ := ob_bind hk
    refine y_callV hC 63 (hA 63 (by decide)) (cl_H (u := (c_h c)) rfl) rfl (c_X10_refuse hJ hA l σ c (-2 : Int32) x13 hx13) rfl ⟨w2_74, w1_1, cwd_X10_refuse, by decide, by decide⟩ w2_71 w2_73 ws1_0 rfl rfl (Nat.le_of_ble_eq_true rfl) (by decide) dX10_bring_13 16 rfl (gC σ x13.2) rfl [.int x13.1] rfl ?_
    have e := Option.some.inj hk
    exact y_iret hC hr hlk (by rw [← e]) (by first | rfl | rw [← e]) dX10_bring_16
def f_X10_price_j17 (a1 : Int32) (a2 : Int32) (gc : CSt) : Option (Int32 × CSt) :=
  (f_X10_refuse gc (-2 : Int32)).bind fun x20 => 
    (some (x20.1, x20.2))
def f_X10_price (c : CSt) (a1 : Int32) (a2 : Int32) : Option (Int32 × CSt) :=
  (f_X10_isHour a1).bind fun x1 => 
    (if x1 = 0 then
      f_X10_price_j17 a1 a2 c
    else
      (f_X10_within a2 (0 : Int32) (99 : Int32)).bind fun x11 => 
        (if x11 = 0 then
          f_X10_price_j17 a1 a2 c
        else
          (f_X3_priceIn (c_m0 c) a1).bind fun x29 => 
            ((f_X3_setPricesFrom (c_m0 c) a1 a2).bind fun x39 => 
            (lt (sc_m0 c x39) fun g39 => 
            (some (x29, g39))))))
theorem cwd_X10_price : yX10_price.cls ≠ "java/lang/invoke/MethodHandle" ∧ yX10_price.cls ≠ "java/lang/invoke/VarHandle" ∧ (parseMethodDescriptor yX10_price.desc).map (fun d => d.parameters.length) = some 2 := by decide +kernel
set_option maxHeartbeats 4000000 in
set_option maxRecDepth 100000 in
theorem c_X10_price {Γ : GC} (hJ : GJ Γ) (hA : ∀ i, i < 66 → act Γ i) (l : Launch) (σ : GSt) (c : CSt) (a1 : Int32) (a2 : Int32) (x : Int32 × CSt) (hk : f_X10_price c a1 a2 = some x) : Mt Γ l yX10_price cX10_price 4 (some .int) 2 53 [.ref (ad Γ 63), .int a1, .int a2] (gC σ c) (some (.int x.1)) (gC σ x.2) := by
  refine y_enter (by decide) hJ (Nat.le_of_ble_eq_true rfl) [(0, .ref (ad Γ 63)), (1, .int a1), (2, .int a2)] rfl ?_
  intro p e s' m args below meth c' hC hr hlk
  have J17 : ∀ (gc : CSt), f_X10_price_j17 a1 a2 gc = some x → Y Γ (GA Γ) p l e ({ frames := 2, cells := 0, slots := 0, locals := 53 } : Room) s' m args below meth c' 0 0 (MQ below (Qg Γ (some (.int x.1)) (gC σ x.2)) args s' 0 0 (GA Γ)) 4 (gC σ gc) 17 [(0, .ref (ad Γ 63)), (1, .int a1), (2, .int a2)] [] := by
    intro gc hk
    refine y_aload_n hC dX10_price_17 0 rfl 18 rfl ?_
    refine y_bipush hC dX10_price_18 (v := (-2 : Int32)) (by decide) 20 rfl ?_
    obtain ⟨x20, hx20, hk⟩ := ob_bind hk
    refine y_callV hC 63 (hA 63 (by decide)) (cl_H (u := (c_h gc)) rfl) rfl (c_X10_refuse hJ hA l σ gc (-2 : Int32) x20 hx20) rfl ⟨w2_74, w1_1, cwd_X10_refuse, by decide, by decide⟩ w2_71 w2_73 ws1_0 rfl rfl (Nat.le_of_ble_eq_true rfl) (by decide) dX10_price_20 23 rfl (gC σ x20.2) rfl [.int x20.1] rfl ?_
    have e := Option.some.inj hk
    exact y_iret hC hr hlk (by rw [← e]) (by first | rfl | rw [← e]) dX10_price_23
  refine y_iload_n hC dX10_price_0 1 rfl 1 rfl ?_
  obtain ⟨x1, hx1, hk⟩ := ob_bind hk
  refine y_callS hC (c_X10_isHour hJ l (gC σ c) a1 x1 hx1) rfl ⟨w2_89, w1_1, cwd_X10_isHour, by decide, by decide⟩ w2_87 w2_88 rfl rfl (Nat.le_of_ble_eq_true rfl) (by decide) dX10_price_1 4 rfl (gC σ c) rfl [.int x1] rfl ?_
  refine y_if_eq hC dX10_price_4 17 (by decide) 7 rfl (fun h4 => ?_) (fun h4 => ?_)
  · have hk := ob_pos h4 hk
    refine y_sub [0, 1, 2] rfl ?_
    exact J17 c hk
  · have hk := ob_neg h4 hk
    refine y_iload_n hC dX10_price_7 2 rfl 8 rfl ?_
    refine y_iconst hC dX10_price_8 (v := (0 : Int32)) (by decide) 9 rfl ?_
    refine y_bipush hC dX10_price_9 (v := (99 : Int32)) (by decide) 11 rfl ?_
    obtain ⟨x11, hx11, hk⟩ := ob_bind hk
    refine y_callS hC (c_X10_within hJ l (gC σ c) a2 (0 : Int32) (99 : Int32) x11 hx11) rfl ⟨w2_70, w1_1, cwd_X10_within, by decide, by decide⟩ w2_68 w2_69 rfl rfl (Nat.le_of_ble_eq_true rfl) (by decide) dX10_price_11 14 rfl (gC σ c) rfl [.int x11] rfl ?_
    refine y_if_ne hC dX10_price_14 24 (by decide) 17 rfl (fun h14 => ?_) (fun h14 => ?_)
    · have hk := ob_neg h14 hk
      refine y_aload_n hC dX10_price_24 0 rfl 25 rfl ?_
      refine y_get hC 63 (hA 63 (by decide)) (cl_H (u := (c_h c)) rfl) rfl inU10 0 (by decide) w2_27 rfl dX10_price_25 28 rfl ?_
      refine y_iload_n hC dX10_price_28 1 rfl 29 rfl ?_
      obtain ⟨x29, hx29, hk⟩ := ob_bind hk
      refine y_callVN hC (10 * 0) (hA 0 (by decide)) (cl_M (k := 0) (mm := (c).2.1) (u := (c_m0 c)) (by decide) rfl) rfl (c_X3_priceIn hJ hA l (gC σ c) 0 (by decide) (c_m0 c) a1 x29 hx29) rfl ⟨w2_93, w1_2, cwd_X3_priceIn, by decide, by decide⟩ w2_90 w2_92 ws1_2 rfl rfl (Nat.le_of_ble_eq_true rfl) (by decide) dX10_price_29 32 rfl (gC σ c) rfl [.int x29] rfl ?_
      refine y_istore_n hC dX10_price_32 (by decide) [(3, .int x29), (0, .ref (ad Γ 63)), (1, .int a1), (2, .int a2)] rfl 33 rfl ?_
      refine y_aload_n hC dX10_price_33 1 rfl 34 rfl ?_
      refine y_get hC 63 (hA 63 (by decide)) (cl_H (u := (c_h c)) rfl) rfl inU10 0 (by decide) w2_27 rfl dX10_price_34 37 rfl ?_
      refine y_iload_n hC dX10_price_37 2 rfl 38 rfl ?_
      refine y_iload_n hC dX10_price_38 3 rfl 39 rfl ?_
      obtain ⟨x39, hx39, hk⟩ := ob_bind hk
      obtain ⟨g39, eg39, hk⟩ := ob_lt hk
      refine y_callVN hC (10 * 0) (hA 0 (by decide)) (cl_M (k := 0) (mm := (c).2.1) (u := (c_m0 c)) (by decide) rfl) rfl (c_X3_setPricesFrom hJ hA l (gC σ c) 0 (by decide) (c_m0 c) a1 a2 x39 hx39) rfl ⟨w2_97, w1_2, cwd_X3_setPricesFrom, by decide, by decide⟩ w2_94 w2_96 ws1_3 rfl rfl (Nat.le_of_ble_eq_true rfl) (by decide) dX10_price_39 42 rfl (gC σ g39) (by subst eg39; rfl) [] rfl ?_
      refine y_iload_n hC dX10_price_42 0 rfl 43 rfl ?_
      have e := Option.some.inj hk
      exact y_iret hC hr hlk (by rw [← e]) (by first | rfl | rw [← e]) dX10_price_43
    · have hk := ob_pos h14 hk
      refine y_sub [0, 1, 2] rfl ?_
      exact J17 c hk
def f_X10_theirs_j17 (a1 : Int32) (a2 : Int32) (gc : CSt) : Option (Int32 × CSt) :=
  (f_X10_refuse gc (-2 : Int32)).bind fun x20 => 
    (some (x20.1, x20.2))
def f_X10_theirs (c : CSt) (a1 : Int32) (a2 : Int32) : Option (Int32 × CSt) :=
  (f_X10_isHour a1).bind fun x1 => 
    (if x1 = 0 then
      f_X10_theirs_j17 a1 a2 c
    else
      (f_X10_within a2 (0 : Int32) (99 : Int32)).bind fun x11 => 
        (if x11 = 0 then
          f_X10_theirs_j17 a1 a2 c
        else
          (f_X3_theirPriceIn (c_m0 c) a1).bind fun x29 => 
            ((f_X3_setTheirPrice (c_m0 c) a1 a2).bind fun x39 => 
            (lt (sc_m0 c x39) fun g39 => 
            (some (x29, g39))))))
theorem cwd_X10_theirs : yX10_theirs.cls ≠ "java/lang/invoke/MethodHandle" ∧ yX10_theirs.cls ≠ "java/lang/invoke/VarHandle" ∧ (parseMethodDescriptor yX10_theirs.desc).map (fun d => d.parameters.length) = some 2 := by decide +kernel
set_option maxHeartbeats 4000000 in
set_option maxRecDepth 100000 in
theorem c_X10_theirs {Γ : GC} (hJ : GJ Γ) (hA : ∀ i, i < 66 → act Γ i) (l : Launch) (σ : GSt) (c : CSt) (a1 : Int32) (a2 : Int32) (x : Int32 × CSt) (hk : f_X10_theirs c a1 a2 = some x) : Mt Γ l yX10_theirs cX10_theirs 4 (some .int) 1 22 [.ref (ad Γ 63), .int a1, .int a2] (gC σ c) (some (.int x.1)) (gC σ x.2) := by
  refine y_enter (by decide) hJ (Nat.le_of_ble_eq_true rfl) [(0, .ref (ad Γ 63)), (1, .int a1), (2, .int a2)] rfl ?_
  intro p e s' m args below meth c' hC hr hlk
  have J17 : ∀ (gc : CSt), f_X10_theirs_j17 a1 a2 gc = some x → Y Γ (GA Γ) p l e ({ frames := 1, cells := 0, slots := 0, locals := 22 } : Room) s' m args below meth c' 0 0 (MQ below (Qg Γ (some (.int x.1)) (gC σ x.2)) args s' 0 0 (GA Γ)) 4 (gC σ gc) 17 [(0, .ref (ad Γ 63)), (1, .int a1), (2, .int a2)] [] := by
    intro gc hk
    refine y_aload_n hC dX10_theirs_17 0 rfl 18 rfl ?_
    refine y_bipush hC dX10_theirs_18 (v := (-2 : Int32)) (by decide) 20 rfl ?_
    obtain ⟨x20, hx20, hk⟩ := ob_bind hk
    refine y_callV hC 63 (hA 63 (by decide)) (cl_H (u := (c_h gc)) rfl) rfl (c_X10_refuse hJ hA l σ gc (-2 : Int32) x20 hx20) rfl ⟨w2_74, w1_1, cwd_X10_refuse, by decide, by decide⟩ w2_71 w2_73 ws1_0 rfl rfl (Nat.le_of_ble_eq_true rfl) (by decide) dX10_theirs_20 23 rfl (gC σ x20.2) rfl [.int x20.1] rfl ?_
    have e := Option.some.inj hk
    exact y_iret hC hr hlk (by rw [← e]) (by first | rfl | rw [← e]) dX10_theirs_23
  refine y_iload_n hC dX10_theirs_0 1 rfl 1 rfl ?_
  obtain ⟨x1, hx1, hk⟩ := ob_bind hk
  refine y_callS hC (c_X10_isHour hJ l (gC σ c) a1 x1 hx1) rfl ⟨w2_89, w1_1, cwd_X10_isHour, by decide, by decide⟩ w2_87 w2_88 rfl rfl (Nat.le_of_ble_eq_true rfl) (by decide) dX10_theirs_1 4 rfl (gC σ c) rfl [.int x1] rfl ?_
  refine y_if_eq hC dX10_theirs_4 17 (by decide) 7 rfl (fun h4 => ?_) (fun h4 => ?_)
  · have hk := ob_pos h4 hk
    refine y_sub [0, 1, 2] rfl ?_
    exact J17 c hk
  · have hk := ob_neg h4 hk
    refine y_iload_n hC dX10_theirs_7 2 rfl 8 rfl ?_
    refine y_iconst hC dX10_theirs_8 (v := (0 : Int32)) (by decide) 9 rfl ?_
    refine y_bipush hC dX10_theirs_9 (v := (99 : Int32)) (by decide) 11 rfl ?_
    obtain ⟨x11, hx11, hk⟩ := ob_bind hk
    refine y_callS hC (c_X10_within hJ l (gC σ c) a2 (0 : Int32) (99 : Int32) x11 hx11) rfl ⟨w2_70, w1_1, cwd_X10_within, by decide, by decide⟩ w2_68 w2_69 rfl rfl (Nat.le_of_ble_eq_true rfl) (by decide) dX10_theirs_11 14 rfl (gC σ c) rfl [.int x11] rfl ?_
    refine y_if_ne hC dX10_theirs_14 24 (by decide) 17 rfl (fun h14 => ?_) (fun h14 => ?_)
    · have hk := ob_neg h14 hk
      refine y_aload_n hC dX10_theirs_24 0 rfl 25 rfl ?_
      refine y_get hC 63 (hA 63 (by decide)) (cl_H (u := (c_h c)) rfl) rfl inU10 0 (by decide) w2_27 rfl dX10_theirs_25 28 rfl ?_
      refine y_iload_n hC dX10_theirs_28 1 rfl 29 rfl ?_
      obtain ⟨x29, hx29, hk⟩ := ob_bind hk
      refine y_callVN hC (10 * 0) (hA 0 (by decide)) (cl_M (k := 0) (mm := (c).2.1) (u := (c_m0 c)) (by decide) rfl) rfl (c_X3_theirPriceIn hJ hA l (gC σ c) 0 (by decide) (c_m0 c) a1 x29 hx29) rfl ⟨w2_108, w1_2, cwd_X3_theirPriceIn, by decide, by decide⟩ w2_105 w2_107 ws1_4 rfl rfl (Nat.le_of_ble_eq_true rfl) (by decide) dX10_theirs_29 32 rfl (gC σ c) rfl [.int x29] rfl ?_
      refine y_istore_n hC dX10_theirs_32 (by decide) [(3, .int x29), (0, .ref (ad Γ 63)), (1, .int a1), (2, .int a2)] rfl 33 rfl ?_
      refine y_aload_n hC dX10_theirs_33 1 rfl 34 rfl ?_
      refine y_get hC 63 (hA 63 (by decide)) (cl_H (u := (c_h c)) rfl) rfl inU10 0 (by decide) w2_27 rfl dX10_theirs_34 37 rfl ?_
      refine y_iload_n hC dX10_theirs_37 2 rfl 38 rfl ?_
      refine y_iload_n hC dX10_theirs_38 3 rfl 39 rfl ?_
      obtain ⟨x39, hx39, hk⟩ := ob_bind hk
      obtain ⟨g39, eg39, hk⟩ := ob_lt hk
      refine y_callVN hC (10 * 0) (hA 0 (by decide)) (cl_M (k := 0) (mm := (c).2.1) (u := (c_m0 c)) (by decide) rfl) rfl (c_X3_setTheirPrice hJ hA l (gC σ c) 0 (by decide) (c_m0 c) a1 a2 x39 hx39) rfl ⟨w2_112, w1_2, cwd_X3_setTheirPrice, by decide, by decide⟩ w2_109 w2_111 ws1_5 rfl rfl (Nat.le_of_ble_eq_true rfl) (by decide) dX10_theirs_39 42 rfl (gC σ g39) (by subst eg39; rfl) [] rfl ?_
      refine y_iload_n hC dX10_theirs_42 0 rfl 43 rfl ?_
      have e := Option.some.inj hk
      exact y_iret hC hr hlk (by rw [← e]) (by first | rfl | rw [← e]) dX10_theirs_43
    · have hk := ob_pos h14 hk
      refine y_sub [0, 1, 2] rfl ?_
      exact J17 c hk
def f_X10_rain (c : CSt) (a1 : Int32) : Option (Int32 × CSt) :=
  (f_X10_within a1 (0 : Int32) (1023 : Int32)).bind fun x5 => 
    (if x5 = 0 then
      (f_X10_refuse c (-2 : Int32)).bind fun x14 => 
        (some (x14.1, x14.2))
    else
      lt (sc_m0 c (sM_rainHours (c_m0 c) a1)) fun g31 => 
        (some ((pM_rainHours (c_m0 c)), g31)))
theorem cwd_X10_rain : yX10_rain.cls ≠ "java/lang/invoke/MethodHandle" ∧ yX10_rain.cls ≠ "java/lang/invoke/VarHandle" ∧ (parseMethodDescriptor yX10_rain.desc).map (fun d => d.parameters.length) = some 1 := by decide +kernel
set_option maxHeartbeats 4000000 in
set_option maxRecDepth 100000 in
theorem c_X10_rain {Γ : GC} (hJ : GJ Γ) (hA : ∀ i, i < 66 → act Γ i) (l : Launch) (σ : GSt) (c : CSt) (a1 : Int32) (x : Int32 × CSt) (hk : f_X10_rain c a1 = some x) : Mt Γ l yX10_rain cX10_rain 3 (some .int) 1 22 [.ref (ad Γ 63), .int a1] (gC σ c) (some (.int x.1)) (gC σ x.2) := by
  refine y_enter (by decide) hJ (Nat.le_of_ble_eq_true rfl) [(0, .ref (ad Γ 63)), (1, .int a1)] rfl ?_
  intro p e s' m args below meth c' hC hr hlk
  refine y_iload_n hC dX10_rain_0 1 rfl 1 rfl ?_
  refine y_iconst hC dX10_rain_1 (v := (0 : Int32)) (by decide) 2 rfl ?_
  refine y_sipush hC dX10_rain_2 (v := (1023 : Int32)) (by decide) 5 rfl ?_
  obtain ⟨x5, hx5, hk⟩ := ob_bind hk
  refine y_callS hC (c_X10_within hJ l (gC σ c) a1 (0 : Int32) (1023 : Int32) x5 hx5) rfl ⟨w2_70, w1_1, cwd_X10_within, by decide, by decide⟩ w2_68 w2_69 rfl rfl (Nat.le_of_ble_eq_true rfl) (by decide) dX10_rain_5 8 rfl (gC σ c) rfl [.int x5] rfl ?_
  refine y_if_ne hC dX10_rain_8 18 (by decide) 11 rfl (fun h8 => ?_) (fun h8 => ?_)
  · have hk := ob_neg h8 hk
    refine y_aload_n hC dX10_rain_18 0 rfl 19 rfl ?_
    refine y_get hC 63 (hA 63 (by decide)) (cl_H (u := (c_h c)) rfl) rfl inU10 0 (by decide) w2_27 rfl dX10_rain_19 22 rfl ?_
    refine y_getN hC (10 * 0) (hA 0 (by decide)) (cl_M (k := 0) (mm := (c).2.1) (u := (c_m0 c)) (by decide) rfl) rfl inU3 2 (by decide) w1_45 rfl dX10_rain_22 25 rfl ?_
    refine y_istore_n hC dX10_rain_25 (by decide) [(2, .int (pM_rainHours (c_m0 c))), (0, .ref (ad Γ 63)), (1, .int a1)] rfl 26 rfl ?_
    refine y_aload_n hC dX10_rain_26 1 rfl 27 rfl ?_
    refine y_get hC 63 (hA 63 (by decide)) (cl_H (u := (c_h c)) rfl) rfl inU10 0 (by decide) w2_27 rfl dX10_rain_27 30 rfl ?_
    refine y_iload_n hC dX10_rain_30 2 rfl 31 rfl ?_
    obtain ⟨g31, eg31, hk⟩ := ob_lt hk
    refine y_putN hC (10 * 0) (hA 0 (by decide)) (cl_M (k := 0) (mm := (c).2.1) (u := (c_m0 c)) (by decide) rfl) rfl inU3 tyX3_ok nmX3 2 (by decide) w1_45 rfl rfl rfl rfl (Nat.le_of_ble_eq_true rfl) (gC σ g31) (by subst eg31; exact (cu_M_rainHours (v := a1) (k := 0) (mm := (c).2.1) (u := (c_m0 c)) (by decide) rfl rfl)) dX10_rain_31 34 rfl ?_
    refine y_iload_n hC dX10_rain_34 0 rfl 35 rfl ?_
    have e := Option.some.inj hk
    exact y_iret hC hr hlk (by rw [← e]) (by first | rfl | rw [← e]) dX10_rain_35
  · have hk := ob_pos h8 hk
    refine y_aload_n hC dX10_rain_11 0 rfl 12 rfl ?_
    refine y_bipush hC dX10_rain_12 (v := (-2 : Int32)) (by decide) 14 rfl ?_
    obtain ⟨x14, hx14, hk⟩ := ob_bind hk
    refine y_callV hC 63 (hA 63 (by decide)) (cl_H (u := (c_h c)) rfl) rfl (c_X10_refuse hJ hA l σ c (-2 : Int32) x14 hx14) rfl ⟨w2_74, w1_1, cwd_X10_refuse, by decide, by decide⟩ w2_71 w2_73 ws1_0 rfl rfl (Nat.le_of_ble_eq_true rfl) (by decide) dX10_rain_14 17 rfl (gC σ x14.2) rfl [.int x14.1] rfl ?_
    have e := Option.some.inj hk
    exact y_iret hC hr hlk (by rw [← e]) (by first | rfl | rw [← e]) dX10_rain_17
def f_X10_buyer_j43 (a1 : Int32) (a2 : Int32) (a3 : Int32) (a4 : Int32) (gc : CSt) : Option (Int32 × CSt) :=
  (f_X10_refuse gc (-2 : Int32)).bind fun x46 => 
    (some (x46.1, x46.2))
def f_X10_buyer_j16 (a1 : Int32) (a2 : Int32) (a3 : Int32) (a4 : Int32) (gc : CSt) : Option (Int32 × CSt) :=
  (f_X10_refuse gc (-2 : Int32)).bind fun x19 => 
    (some (x19.1, x19.2))
def f_X10_buyer (c : CSt) (a1 : Int32) (a2 : Int32) (a3 : Int32) (a4 : Int32) : Option (Int32 × CSt) :=
  (f_X10_within a1 (0 : Int32) (5 : Int32)).bind fun x3 => 
    (if x3 = 0 then
      f_X10_buyer_j16 a1 a2 a3 a4 c
    else
      (f_X10_isHour a2).bind fun x10 => 
        (if x10 = 0 then
          f_X10_buyer_j16 a1 a2 a3 a4 c
        else
          (f_X10_within a3 (0 : Int32) (99 : Int32)).bind fun x27 => 
            (if x27 = 0 then
              f_X10_buyer_j43 a1 a2 a3 a4 c
            else
              (f_X10_within a4 (1 : Int32) (3 : Int32)).bind fun x37 => 
                (if x37 = 0 then
                  f_X10_buyer_j43 a1 a2 a3 a4 c
                else
                  if (pM_size (c_m0 c)) < (8 : Int32) then
                    (f_X3_addBuyer (c_m0 c) a1 a2 a3 a4).bind fun x78 => 
                      (lt (sc_m0 c x78) fun g78 => 
                      (some (((pM_size (c_m0 g78)) - (1 : Int32)), g78)))
                  else
                    (f_X10_refuse c (-4 : Int32)).bind fun x65 => 
                      (some (x65.1, x65.2))))))
theorem cwd_X10_buyer : yX10_buyer.cls ≠ "java/lang/invoke/MethodHandle" ∧ yX10_buyer.cls ≠ "java/lang/invoke/VarHandle" ∧ (parseMethodDescriptor yX10_buyer.desc).map (fun d => d.parameters.length) = some 4 := by decide +kernel
set_option maxHeartbeats 4000000 in
set_option maxRecDepth 100000 in
theorem c_X10_buyer {Γ : GC} (hJ : GJ Γ) (hA : ∀ i, i < 66 → act Γ i) (l : Launch) (σ : GSt) (c : CSt) (a1 : Int32) (a2 : Int32) (a3 : Int32) (a4 : Int32) (x : Int32 × CSt) (hk : f_X10_buyer c a1 a2 a3 a4 = some x) : Mt Γ l yX10_buyer cX10_buyer 5 (some .int) 1 24 [.ref (ad Γ 63), .int a1, .int a2, .int a3, .int a4] (gC σ c) (some (.int x.1)) (gC σ x.2) := by
  refine y_enter (by decide) hJ (Nat.le_of_ble_eq_true rfl) [(0, .ref (ad Γ 63)), (1, .int a1), (2, .int a2), (3, .int a3), (4, .int a4)] rfl ?_
  intro p e s' m args below meth c' hC hr hlk
  have J43 : ∀ (gc : CSt), f_X10_buyer_j43 a1 a2 a3 a4 gc = some x → Y Γ (GA Γ) p l e ({ frames := 1, cells := 0, slots := 0, locals := 24 } : Room) s' m args below meth c' 0 0 (MQ below (Qg Γ (some (.int x.1)) (gC σ x.2)) args s' 0 0 (GA Γ)) 5 (gC σ gc) 43 [(0, .ref (ad Γ 63)), (1, .int a1), (2, .int a2), (3, .int a3), (4, .int a4)] [] := by
    intro gc hk
    refine y_aload_n hC dX10_buyer_43 0 rfl 44 rfl ?_
    refine y_bipush hC dX10_buyer_44 (v := (-2 : Int32)) (by decide) 46 rfl ?_
    obtain ⟨x46, hx46, hk⟩ := ob_bind hk
    refine y_callV hC 63 (hA 63 (by decide)) (cl_H (u := (c_h gc)) rfl) rfl (c_X10_refuse hJ hA l σ gc (-2 : Int32) x46 hx46) rfl ⟨w2_74, w1_1, cwd_X10_refuse, by decide, by decide⟩ w2_71 w2_73 ws1_0 rfl rfl (Nat.le_of_ble_eq_true rfl) (by decide) dX10_buyer_46 49 rfl (gC σ x46.2) rfl [.int x46.1] rfl ?_
    have e := Option.some.inj hk
    exact y_iret hC hr hlk (by rw [← e]) (by first | rfl | rw [← e]) dX10_buyer_49
  have J16 : ∀ (gc : CSt), f_X10_buyer_j16 a1 a2 a3 a4 gc = some x → Y Γ (GA Γ) p l e ({ frames := 1, cells := 0, slots := 0, locals := 24 } : Room) s' m args below meth c' 0 0 (MQ below (Qg Γ (some (.int x.1)) (gC σ x.2)) args s' 0 0 (GA Γ)) 5 (gC σ gc) 16 [(0, .ref (ad Γ 63)), (1, .int a1), (2, .int a2), (3, .int a3), (4, .int a4)] [] := by
    intro gc hk
    refine y_aload_n hC dX10_buyer_16 0 rfl 17 rfl ?_
    refine y_bipush hC dX10_buyer_17 (v := (-2 : Int32)) (by decide) 19 rfl ?_
    obtain ⟨x19, hx19, hk⟩ := ob_bind hk
    refine y_callV hC 63 (hA 63 (by decide)) (cl_H (u := (c_h gc)) rfl) rfl (c_X10_refuse hJ hA l σ gc (-2 : Int32) x19 hx19) rfl ⟨w2_74, w1_1, cwd_X10_refuse, by decide, by decide⟩ w2_71 w2_73 ws1_0 rfl rfl (Nat.le_of_ble_eq_true rfl) (by decide) dX10_buyer_19 22 rfl (gC σ x19.2) rfl [.int x19.1] rfl ?_
    have e := Option.some.inj hk
    exact y_iret hC hr hlk (by rw [← e]) (by first | rfl | rw [← e]) dX10_buyer_22
  refine y_iload_n hC dX10_buyer_0 1 rfl 1 rfl ?_
  refine y_iconst hC dX10_buyer_1 (v := (0 : Int32)) (by decide) 2 rfl ?_
  refine y_iconst hC dX10_buyer_2 (v := (5 : Int32)) (by decide) 3 rfl ?_
  obtain ⟨x3, hx3, hk⟩ := ob_bind hk
  refine y_callS hC (c_X10_within hJ l (gC σ c) a1 (0 : Int32) (5 : Int32) x3 hx3) rfl ⟨w2_70, w1_1, cwd_X10_within, by decide, by decide⟩ w2_68 w2_69 rfl rfl (Nat.le_of_ble_eq_true rfl) (by decide) dX10_buyer_3 6 rfl (gC σ c) rfl [.int x3] rfl ?_
  refine y_if_eq hC dX10_buyer_6 16 (by decide) 9 rfl (fun h6 => ?_) (fun h6 => ?_)
  · have hk := ob_pos h6 hk
    refine y_sub [0, 1, 2, 3, 4] rfl ?_
    exact J16 c hk
  · have hk := ob_neg h6 hk
    refine y_iload_n hC dX10_buyer_9 2 rfl 10 rfl ?_
    obtain ⟨x10, hx10, hk⟩ := ob_bind hk
    refine y_callS hC (c_X10_isHour hJ l (gC σ c) a2 x10 hx10) rfl ⟨w2_89, w1_1, cwd_X10_isHour, by decide, by decide⟩ w2_87 w2_88 rfl rfl (Nat.le_of_ble_eq_true rfl) (by decide) dX10_buyer_10 13 rfl (gC σ c) rfl [.int x10] rfl ?_
    refine y_if_ne hC dX10_buyer_13 23 (by decide) 16 rfl (fun h13 => ?_) (fun h13 => ?_)
    · have hk := ob_neg h13 hk
      refine y_iload_n hC dX10_buyer_23 3 rfl 24 rfl ?_
      refine y_iconst hC dX10_buyer_24 (v := (0 : Int32)) (by decide) 25 rfl ?_
      refine y_bipush hC dX10_buyer_25 (v := (99 : Int32)) (by decide) 27 rfl ?_
      obtain ⟨x27, hx27, hk⟩ := ob_bind hk
      refine y_callS hC (c_X10_within hJ l (gC σ c) a3 (0 : Int32) (99 : Int32) x27 hx27) rfl ⟨w2_70, w1_1, cwd_X10_within, by decide, by decide⟩ w2_68 w2_69 rfl rfl (Nat.le_of_ble_eq_true rfl) (by decide) dX10_buyer_27 30 rfl (gC σ c) rfl [.int x27] rfl ?_
      refine y_if_eq hC dX10_buyer_30 43 (by decide) 33 rfl (fun h30 => ?_) (fun h30 => ?_)
      · have hk := ob_pos h30 hk
        refine y_sub [0, 1, 2, 3, 4] rfl ?_
        exact J43 c hk
      · have hk := ob_neg h30 hk
        refine y_iload hC dX10_buyer_33 4 rfl 35 rfl ?_
        refine y_iconst hC dX10_buyer_35 (v := (1 : Int32)) (by decide) 36 rfl ?_
        refine y_iconst hC dX10_buyer_36 (v := (3 : Int32)) (by decide) 37 rfl ?_
        obtain ⟨x37, hx37, hk⟩ := ob_bind hk
        refine y_callS hC (c_X10_within hJ l (gC σ c) a4 (1 : Int32) (3 : Int32) x37 hx37) rfl ⟨w2_70, w1_1, cwd_X10_within, by decide, by decide⟩ w2_68 w2_69 rfl rfl (Nat.le_of_ble_eq_true rfl) (by decide) dX10_buyer_37 40 rfl (gC σ c) rfl [.int x37] rfl ?_
        refine y_if_ne hC dX10_buyer_40 50 (by decide) 43 rfl (fun h40 => ?_) (fun h40 => ?_)
        · have hk := ob_neg h40 hk
          refine y_aload_n hC dX10_buyer_50 0 rfl 51 rfl ?_
          refine y_get hC 63 (hA 63 (by decide)) (cl_H (u := (c_h c)) rfl) rfl inU10 0 (by decide) w2_27 rfl dX10_buyer_51 54 rfl ?_
          refine y_getN hC (10 * 0) (hA 0 (by decide)) (cl_M (k := 0) (mm := (c).2.1) (u := (c_m0 c)) (by decide) rfl) rfl inU3 3 (by decide) w1_48 rfl dX10_buyer_54 57 rfl ?_
          refine y_bipush hC dX10_buyer_57 (v := (8 : Int32)) (by decide) 59 rfl ?_
          refine y_icmp_lt hC dX10_buyer_59 69 (by decide) 62 rfl (fun h59 => ?_) (fun h59 => ?_)
          · have hk := ob_pos h59 hk
            refine y_aload_n hC dX10_buyer_69 0 rfl 70 rfl ?_
            refine y_get hC 63 (hA 63 (by decide)) (cl_H (u := (c_h c)) rfl) rfl inU10 0 (by decide) w2_27 rfl dX10_buyer_70 73 rfl ?_
            refine y_iload_n hC dX10_buyer_73 1 rfl 74 rfl ?_
            refine y_iload_n hC dX10_buyer_74 2 rfl 75 rfl ?_
            refine y_iload_n hC dX10_buyer_75 3 rfl 76 rfl ?_
            refine y_iload hC dX10_buyer_76 4 rfl 78 rfl ?_
            obtain ⟨x78, hx78, hk⟩ := ob_bind hk
            obtain ⟨g78, eg78, hk⟩ := ob_lt hk
            refine y_callVN hC (10 * 0) (hA 0 (by decide)) (cl_M (k := 0) (mm := (c).2.1) (u := (c_m0 c)) (by decide) rfl) rfl (c_X3_addBuyer hJ hA l (gC σ c) 0 (by decide) (c_m0 c) a1 a2 a3 a4 x78 hx78) rfl ⟨w2_124, w1_2, cwd_X3_addBuyer, by decide, by decide⟩ w2_121 w2_123 ws1_6 rfl rfl (Nat.le_of_ble_eq_true rfl) (by decide) dX10_buyer_78 81 rfl (gC σ g78) (by subst eg78; rfl) [] rfl ?_
            refine y_aload_n hC dX10_buyer_81 0 rfl 82 rfl ?_
            refine y_get hC 63 (hA 63 (by decide)) (cl_H (u := (c_h g78)) rfl) rfl inU10 0 (by decide) w2_27 rfl dX10_buyer_82 85 rfl ?_
            refine y_getN hC (10 * 0) (hA 0 (by decide)) (cl_M (k := 0) (mm := (g78).2.1) (u := (c_m0 g78)) (by decide) rfl) rfl inU3 3 (by decide) w1_48 rfl dX10_buyer_85 88 rfl ?_
            refine y_iconst hC dX10_buyer_88 (v := (1 : Int32)) (by decide) 89 rfl ?_
            refine y_isub hC dX10_buyer_89 90 rfl ?_
            have e := Option.some.inj hk
            exact y_iret hC hr hlk (by rw [← e]) (by first | rfl | rw [← e]) dX10_buyer_90
          · have hk := ob_neg h59 hk
            refine y_aload_n hC dX10_buyer_62 0 rfl 63 rfl ?_
            refine y_bipush hC dX10_buyer_63 (v := (-4 : Int32)) (by decide) 65 rfl ?_
            obtain ⟨x65, hx65, hk⟩ := ob_bind hk
            refine y_callV hC 63 (hA 63 (by decide)) (cl_H (u := (c_h c)) rfl) rfl (c_X10_refuse hJ hA l σ c (-4 : Int32) x65 hx65) rfl ⟨w2_74, w1_1, cwd_X10_refuse, by decide, by decide⟩ w2_71 w2_73 ws1_0 rfl rfl (Nat.le_of_ble_eq_true rfl) (by decide) dX10_buyer_65 68 rfl (gC σ x65.2) rfl [.int x65.1] rfl ?_
            have e := Option.some.inj hk
            exact y_iret hC hr hlk (by rw [← e]) (by first | rfl | rw [← e]) dX10_buyer_68
        · have hk := ob_pos h40 hk
          refine y_sub [0, 1, 2, 3, 4] rfl ?_
          exact J43 c hk
    · have hk := ob_pos h13 hk
      refine y_sub [0, 1, 2, 3, 4] rfl ?_
      exact J16 c hk
def f_X10_type (c : CSt) (a1 : Int32) : Option (Int32 × CSt) :=
  (f_X10_within a1 (0 : Int32) (127 : Int32)).bind fun x4 => 
    (if x4 = 0 then
      (f_X10_refuse c (-2 : Int32)).bind fun x13 => 
        (some (x13.1, x13.2))
    else
      if (pR_length (c_r c)) < (150 : Int32) then
        (f_X6_addByte (c_r c) a1).bind fun x42 => 
          (lt (sc_r c x42) fun g42 => 
          (some ((pR_length (c_r g42)), g42)))
      else
        (f_X10_refuse c (-4 : Int32)).bind fun x33 => 
          (some (x33.1, x33.2)))
theorem cwd_X10_type : yX10_type.cls ≠ "java/lang/invoke/MethodHandle" ∧ yX10_type.cls ≠ "java/lang/invoke/VarHandle" ∧ (parseMethodDescriptor yX10_type.desc).map (fun d => d.parameters.length) = some 1 := by decide +kernel
set_option maxHeartbeats 4000000 in
set_option maxRecDepth 100000 in
theorem c_X10_type {Γ : GC} (hJ : GJ Γ) (hA : ∀ i, i < 66 → act Γ i) (l : Launch) (σ : GSt) (c : CSt) (a1 : Int32) (x : Int32 × CSt) (hk : f_X10_type c a1 = some x) : Mt Γ l yX10_type cX10_type 2 (some .int) 1 22 [.ref (ad Γ 63), .int a1] (gC σ c) (some (.int x.1)) (gC σ x.2) := by
  refine y_enter (by decide) hJ (Nat.le_of_ble_eq_true rfl) [(0, .ref (ad Γ 63)), (1, .int a1)] rfl ?_
  intro p e s' m args below meth c' hC hr hlk
  refine y_iload_n hC dX10_type_0 1 rfl 1 rfl ?_
  refine y_iconst hC dX10_type_1 (v := (0 : Int32)) (by decide) 2 rfl ?_
  refine y_bipush hC dX10_type_2 (v := (127 : Int32)) (by decide) 4 rfl ?_
  obtain ⟨x4, hx4, hk⟩ := ob_bind hk
  refine y_callS hC (c_X10_within hJ l (gC σ c) a1 (0 : Int32) (127 : Int32) x4 hx4) rfl ⟨w2_70, w1_1, cwd_X10_within, by decide, by decide⟩ w2_68 w2_69 rfl rfl (Nat.le_of_ble_eq_true rfl) (by decide) dX10_type_4 7 rfl (gC σ c) rfl [.int x4] rfl ?_
  refine y_if_ne hC dX10_type_7 17 (by decide) 10 rfl (fun h7 => ?_) (fun h7 => ?_)
  · have hk := ob_neg h7 hk
    refine y_aload_n hC dX10_type_17 0 rfl 18 rfl ?_
    refine y_get hC 63 (hA 63 (by decide)) (cl_H (u := (c_h c)) rfl) rfl inU10 6 (by decide) w2_33 rfl dX10_type_18 21 rfl ?_
    refine y_getN hC 61 (hA 61 (by decide)) (cl_R (u := (c_r c)) rfl) rfl inU6 1 (by decide) w2_9 rfl dX10_type_21 24 rfl ?_
    refine y_sipush hC dX10_type_24 (v := (150 : Int32)) (by decide) 27 rfl ?_
    refine y_icmp_lt hC dX10_type_27 37 (by decide) 30 rfl (fun h27 => ?_) (fun h27 => ?_)
    · have hk := ob_pos h27 hk
      refine y_aload_n hC dX10_type_37 0 rfl 38 rfl ?_
      refine y_get hC 63 (hA 63 (by decide)) (cl_H (u := (c_h c)) rfl) rfl inU10 6 (by decide) w2_33 rfl dX10_type_38 41 rfl ?_
      refine y_iload_n hC dX10_type_41 1 rfl 42 rfl ?_
      obtain ⟨x42, hx42, hk⟩ := ob_bind hk
      obtain ⟨g42, eg42, hk⟩ := ob_lt hk
      refine y_callVN hC 61 (hA 61 (by decide)) (cl_R (u := (c_r c)) rfl) rfl (c_X6_addByte hJ hA l (gC σ c) (c_r c) a1 x42 hx42) rfl ⟨w2_132, w1_12, cwd_X6_addByte, by decide, by decide⟩ w2_129 w2_131 ws1_7 rfl rfl (Nat.le_of_ble_eq_true rfl) (by decide) dX10_type_42 45 rfl (gC σ g42) (by subst eg42; rfl) [] rfl ?_
      refine y_aload_n hC dX10_type_45 0 rfl 46 rfl ?_
      refine y_get hC 63 (hA 63 (by decide)) (cl_H (u := (c_h g42)) rfl) rfl inU10 6 (by decide) w2_33 rfl dX10_type_46 49 rfl ?_
      refine y_getN hC 61 (hA 61 (by decide)) (cl_R (u := (c_r g42)) rfl) rfl inU6 1 (by decide) w2_9 rfl dX10_type_49 52 rfl ?_
      have e := Option.some.inj hk
      exact y_iret hC hr hlk (by rw [← e]) (by first | rfl | rw [← e]) dX10_type_52
    · have hk := ob_neg h27 hk
      refine y_aload_n hC dX10_type_30 0 rfl 31 rfl ?_
      refine y_bipush hC dX10_type_31 (v := (-4 : Int32)) (by decide) 33 rfl ?_
      obtain ⟨x33, hx33, hk⟩ := ob_bind hk
      refine y_callV hC 63 (hA 63 (by decide)) (cl_H (u := (c_h c)) rfl) rfl (c_X10_refuse hJ hA l σ c (-4 : Int32) x33 hx33) rfl ⟨w2_74, w1_1, cwd_X10_refuse, by decide, by decide⟩ w2_71 w2_73 ws1_0 rfl rfl (Nat.le_of_ble_eq_true rfl) (by decide) dX10_type_33 36 rfl (gC σ x33.2) rfl [.int x33.1] rfl ?_
      have e := Option.some.inj hk
      exact y_iret hC hr hlk (by rw [← e]) (by first | rfl | rw [← e]) dX10_type_36
  · have hk := ob_pos h7 hk
    refine y_aload_n hC dX10_type_10 0 rfl 11 rfl ?_
    refine y_bipush hC dX10_type_11 (v := (-2 : Int32)) (by decide) 13 rfl ?_
    obtain ⟨x13, hx13, hk⟩ := ob_bind hk
    refine y_callV hC 63 (hA 63 (by decide)) (cl_H (u := (c_h c)) rfl) rfl (c_X10_refuse hJ hA l σ c (-2 : Int32) x13 hx13) rfl ⟨w2_74, w1_1, cwd_X10_refuse, by decide, by decide⟩ w2_71 w2_73 ws1_0 rfl rfl (Nat.le_of_ble_eq_true rfl) (by decide) dX10_type_13 16 rfl (gC σ x13.2) rfl [.int x13.1] rfl ?_
    have e := Option.some.inj hk
    exact y_iret hC hr hlk (by rw [← e]) (by first | rfl | rw [← e]) dX10_type_16
def f_X10_clear (c : CSt) : Option (Int32 × CSt) :=
  lt (sc_r c (sR_length (c_r c) (0 : Int32))) fun g13 => 
    (some ((pR_length (c_r c)), g13))
theorem cwd_X10_clear : yX10_clear.cls ≠ "java/lang/invoke/MethodHandle" ∧ yX10_clear.cls ≠ "java/lang/invoke/VarHandle" ∧ (parseMethodDescriptor yX10_clear.desc).map (fun d => d.parameters.length) = some 0 := by decide +kernel
set_option maxHeartbeats 4000000 in
set_option maxRecDepth 100000 in
theorem c_X10_clear {Γ : GC} (hJ : GJ Γ) (hA : ∀ i, i < 66 → act Γ i) (l : Launch) (σ : GSt) (c : CSt) (x : Int32 × CSt) (hk : f_X10_clear c = some x) : Mt Γ l yX10_clear cX10_clear 2 (some .int) 0 0 [.ref (ad Γ 63)] (gC σ c) (some (.int x.1)) (gC σ x.2) := by
  refine y_enter (by decide) hJ (Nat.le_of_ble_eq_true rfl) [(0, .ref (ad Γ 63))] rfl ?_
  intro p e s' m args below meth c' hC hr hlk
  refine y_aload_n hC dX10_clear_0 0 rfl 1 rfl ?_
  refine y_get hC 63 (hA 63 (by decide)) (cl_H (u := (c_h c)) rfl) rfl inU10 6 (by decide) w2_33 rfl dX10_clear_1 4 rfl ?_
  refine y_getN hC 61 (hA 61 (by decide)) (cl_R (u := (c_r c)) rfl) rfl inU6 1 (by decide) w2_9 rfl dX10_clear_4 7 rfl ?_
  refine y_istore_n hC dX10_clear_7 (by decide) [(1, .int (pR_length (c_r c))), (0, .ref (ad Γ 63))] rfl 8 rfl ?_
  refine y_aload_n hC dX10_clear_8 1 rfl 9 rfl ?_
  refine y_get hC 63 (hA 63 (by decide)) (cl_H (u := (c_h c)) rfl) rfl inU10 6 (by decide) w2_33 rfl dX10_clear_9 12 rfl ?_
  refine y_iconst hC dX10_clear_12 (v := (0 : Int32)) (by decide) 13 rfl ?_
  obtain ⟨g13, eg13, hk⟩ := ob_lt hk
  refine y_putN hC 61 (hA 61 (by decide)) (cl_R (u := (c_r c)) rfl) rfl inU6 tyX6_ok nmX6 1 (by decide) w2_9 rfl rfl rfl rfl (Nat.le_of_ble_eq_true rfl) (gC σ g13) (by subst eg13; exact (cu_R_length (u := (c_r c)) (v := (0 : Int32)) rfl rfl)) dX10_clear_13 16 rfl ?_
  refine y_iload_n hC dX10_clear_16 0 rfl 17 rfl ?_
  have e := Option.some.inj hk
  exact y_iret hC hr hlk (by rw [← e]) (by first | rfl | rw [← e]) dX10_clear_17
def f_X10_read (c : CSt) : Option (Int32 × CSt) :=
  (f_X6_readInto (c_r c) (c_m1 c)).bind fun x8 => 
    (lt (sc_m1 (sc_r c x8.2.1) x8.2.2) fun g8 => 
    (if x8.1 ≤ 0 then
      some (x8.1, g8)
    else
      (f_X3_becomes (c_m0 g8) (c_m1 g8)).bind fun x24 => 
        (lt (sc_m0 g8 x24) fun g24 => 
        (some (x8.1, g24)))))
theorem cwd_X10_read : yX10_read.cls ≠ "java/lang/invoke/MethodHandle" ∧ yX10_read.cls ≠ "java/lang/invoke/VarHandle" ∧ (parseMethodDescriptor yX10_read.desc).map (fun d => d.parameters.length) = some 0 := by decide +kernel
set_option maxHeartbeats 4000000 in
set_option maxRecDepth 100000 in
theorem c_X10_read {Γ : GC} (hJ : GJ Γ) (hA : ∀ i, i < 66 → act Γ i) (l : Launch) (σ : GSt) (c : CSt) (x : Int32 × CSt) (hk : f_X10_read c = some x) : Mt Γ l yX10_read cX10_read 2 (some .int) 7 153 [.ref (ad Γ 63)] (gC σ c) (some (.int x.1)) (gC σ x.2) := by
  refine y_enter (by decide) hJ (Nat.le_of_ble_eq_true rfl) [(0, .ref (ad Γ 63))] rfl ?_
  intro p e s' m args below meth c' hC hr hlk
  refine y_aload_n hC dX10_read_0 0 rfl 1 rfl ?_
  refine y_get hC 63 (hA 63 (by decide)) (cl_H (u := (c_h c)) rfl) rfl inU10 6 (by decide) w2_33 rfl dX10_read_1 4 rfl ?_
  refine y_aload_n hC dX10_read_4 0 rfl 5 rfl ?_
  refine y_get hC 63 (hA 63 (by decide)) (cl_H (u := (c_h c)) rfl) rfl inU10 1 (by decide) w2_28 rfl dX10_read_5 8 rfl ?_
  obtain ⟨x8, hx8, hk⟩ := ob_bind hk
  obtain ⟨g8, eg8, hk⟩ := ob_lt hk
  refine y_callVN hC 61 (hA 61 (by decide)) (cl_R (u := (c_r c)) rfl) rfl (c_X6_readInto hJ hA l (gC σ c) 1 (by decide) (c_r c) (c_m1 c) x8 hx8) rfl ⟨w2_144, w1_12, cwd_X6_readInto, by decide, by decide⟩ w2_141 w2_143 ws1_8 rfl rfl (Nat.le_of_ble_eq_true rfl) (by decide) dX10_read_8 11 rfl (gC σ g8) (by subst eg8; rfl) [.int x8.1] rfl ?_
  refine y_istore_n hC dX10_read_11 (by decide) [(1, .int x8.1), (0, .ref (ad Γ 63))] rfl 12 rfl ?_
  refine y_iload_n hC dX10_read_12 0 rfl 13 rfl ?_
  refine y_if_le hC dX10_read_13 27 (by decide) 16 rfl (fun h13 => ?_) (fun h13 => ?_)
  · have hk := ob_pos h13 hk
    refine y_iload_n hC dX10_read_27 0 rfl 28 rfl ?_
    have e := Option.some.inj hk
    exact y_iret hC hr hlk (by rw [← e]) (by first | rfl | rw [← e]) dX10_read_28
  · have hk := ob_neg h13 hk
    refine y_aload_n hC dX10_read_16 1 rfl 17 rfl ?_
    refine y_get hC 63 (hA 63 (by decide)) (cl_H (u := (c_h g8)) rfl) rfl inU10 0 (by decide) w2_27 rfl dX10_read_17 20 rfl ?_
    refine y_aload_n hC dX10_read_20 1 rfl 21 rfl ?_
    refine y_get hC 63 (hA 63 (by decide)) (cl_H (u := (c_h g8)) rfl) rfl inU10 1 (by decide) w2_28 rfl dX10_read_21 24 rfl ?_
    obtain ⟨x24, hx24, hk⟩ := ob_bind hk
    obtain ⟨g24, eg24, hk⟩ := ob_lt hk
    refine y_callVN hC (10 * 0) (hA 0 (by decide)) (cl_M (k := 0) (mm := (g8).2.1) (u := (c_m0 g8)) (by decide) rfl) rfl (c_X3_becomes hJ hA l (gC σ g8) 0 (by decide) 1 (by decide) (by decide) (c_m0 g8) (c_m1 g8) x24 hx24) rfl ⟨w3_16, w1_2, cwd_X3_becomes, by decide, by decide⟩ w3_13 w3_15 ws2_4 rfl rfl (Nat.le_of_ble_eq_true rfl) (by decide) dX10_read_24 27 rfl (gC σ g24) (by subst eg24; rfl) [] rfl ?_
    refine y_iload_n hC dX10_read_27 0 rfl 28 rfl ?_
    have e := Option.some.inj hk
    exact y_iret hC hr hlk (by rw [← e]) (by first | rfl | rw [← e]) dX10_read_28
def f_X10_day (c : CSt) : Option (Int32 × CSt) :=
  (f_X3_keepPast (c_m0 c)).bind fun x4 => 
    (lt (sc_m0 c x4) fun g4 => 
    ((f_X2_run (c_d g4) (c_m0 g4)).bind fun x15 => 
    (lt (sc_d g4 x15) fun g15 => 
    (lt (sc_m0 g15 (sM_totalTakings (c_m0 g15) ((pM_totalTakings (c_m0 g15)) + (pD_takings (c_d g15))))) fun g34 => 
    (lt (sc_m0 g34 (sM_totalThrown (c_m0 g34) ((pM_totalThrown (c_m0 g34)) + (pD_left (c_d g34))))) fun g53 => 
    ((f_X2_teach (c_d g53) (c_m0 g53)).bind fun x64 => 
    (lt (sc_m0 g53 x64) fun g64 => 
    (some ((pD_takings (c_d g64)), g64)))))))))
theorem cwd_X10_day : yX10_day.cls ≠ "java/lang/invoke/MethodHandle" ∧ yX10_day.cls ≠ "java/lang/invoke/VarHandle" ∧ (parseMethodDescriptor yX10_day.desc).map (fun d => d.parameters.length) = some 0 := by decide +kernel
set_option maxHeartbeats 4000000 in
set_option maxRecDepth 100000 in
theorem c_X10_day {Γ : GC} (hJ : GJ Γ) (hA : ∀ i, i < 66 → act Γ i) (l : Launch) (σ : GSt) (c : CSt) (x : Int32 × CSt) (hk : f_X10_day c = some x) : Mt Γ l yX10_day cX10_day 1 (some .int) 5 146 [.ref (ad Γ 63)] (gC σ c) (some (.int x.1)) (gC σ x.2) := by
  refine y_enter (by decide) hJ (Nat.le_of_ble_eq_true rfl) [(0, .ref (ad Γ 63))] rfl ?_
  intro p e s' m args below meth c' hC hr hlk
  refine y_aload_n hC dX10_day_0 0 rfl 1 rfl ?_
  refine y_get hC 63 (hA 63 (by decide)) (cl_H (u := (c_h c)) rfl) rfl inU10 0 (by decide) w2_27 rfl dX10_day_1 4 rfl ?_
  obtain ⟨x4, hx4, hk⟩ := ob_bind hk
  obtain ⟨g4, eg4, hk⟩ := ob_lt hk
  refine y_callVN hC (10 * 0) (hA 0 (by decide)) (cl_M (k := 0) (mm := (c).2.1) (u := (c_m0 c)) (by decide) rfl) rfl (c_X3_keepPast hJ hA l (gC σ c) 0 (by decide) (c_m0 c) x4 hx4) rfl ⟨w3_28, w1_2, cwd_X3_keepPast, by decide, by decide⟩ w3_25 w3_27 ws2_5 rfl rfl (Nat.le_of_ble_eq_true rfl) (by decide) dX10_day_4 7 rfl (gC σ g4) (by subst eg4; rfl) [] rfl ?_
  refine y_aload_n hC dX10_day_7 0 rfl 8 rfl ?_
  refine y_get hC 63 (hA 63 (by decide)) (cl_H (u := (c_h g4)) rfl) rfl inU10 4 (by decide) w2_31 rfl dX10_day_8 11 rfl ?_
  refine y_aload_n hC dX10_day_11 0 rfl 12 rfl ?_
  refine y_get hC 63 (hA 63 (by decide)) (cl_H (u := (c_h g4)) rfl) rfl inU10 0 (by decide) w2_27 rfl dX10_day_12 15 rfl ?_
  obtain ⟨x15, hx15, hk⟩ := ob_bind hk
  obtain ⟨g15, eg15, hk⟩ := ob_lt hk
  refine y_callVN hC 40 (hA 40 (by decide)) (cl_D (u := (c_d g4)) rfl) rfl (c_X2_run hJ hA l (gC σ g4) 0 (by decide) (c_d g4) (c_m0 g4) x15 hx15) rfl ⟨w3_32, w1_4, cwd_X2_run, by decide, by decide⟩ w3_29 w3_31 ws2_6 rfl rfl (Nat.le_of_ble_eq_true rfl) (by decide) dX10_day_15 18 rfl (gC σ g15) (by subst eg15; rfl) [] rfl ?_
  refine y_aload_n hC dX10_day_18 0 rfl 19 rfl ?_
  refine y_get hC 63 (hA 63 (by decide)) (cl_H (u := (c_h g15)) rfl) rfl inU10 0 (by decide) w2_27 rfl dX10_day_19 22 rfl ?_
  refine y_dup hC dX10_day_22 rfl 23 rfl ?_
  refine y_getN hC (10 * 0) (hA 0 (by decide)) (cl_M (k := 0) (mm := (g15).2.1) (u := (c_m0 g15)) (by decide) rfl) rfl inU3 4 (by decide) w1_52 rfl dX10_day_23 26 rfl ?_
  refine y_aload_n hC dX10_day_26 0 rfl 27 rfl ?_
  refine y_get hC 63 (hA 63 (by decide)) (cl_H (u := (c_h g15)) rfl) rfl inU10 4 (by decide) w2_31 rfl dX10_day_27 30 rfl ?_
  refine y_getN hC 40 (hA 40 (by decide)) (cl_D (u := (c_d g15)) rfl) rfl inU2 10 (by decide) w1_186 rfl dX10_day_30 33 rfl ?_
  refine y_iadd hC dX10_day_33 34 rfl ?_
  obtain ⟨g34, eg34, hk⟩ := ob_lt hk
  refine y_putN hC (10 * 0) (hA 0 (by decide)) (cl_M (k := 0) (mm := (g15).2.1) (u := (c_m0 g15)) (by decide) rfl) rfl inU3 tyX3_ok nmX3 4 (by decide) w1_52 rfl rfl rfl rfl (Nat.le_of_ble_eq_true rfl) (gC σ g34) (by subst eg34; exact (cu_M_totalTakings (v := ((pM_totalTakings (c_m0 g15)) + (pD_takings (c_d g15)))) (k := 0) (mm := (g15).2.1) (u := (c_m0 g15)) (by decide) rfl rfl)) dX10_day_34 37 rfl ?_
  refine y_aload_n hC dX10_day_37 0 rfl 38 rfl ?_
  refine y_get hC 63 (hA 63 (by decide)) (cl_H (u := (c_h g34)) rfl) rfl inU10 0 (by decide) w2_27 rfl dX10_day_38 41 rfl ?_
  refine y_dup hC dX10_day_41 rfl 42 rfl ?_
  refine y_getN hC (10 * 0) (hA 0 (by decide)) (cl_M (k := 0) (mm := (g34).2.1) (u := (c_m0 g34)) (by decide) rfl) rfl inU3 5 (by decide) w1_54 rfl dX10_day_42 45 rfl ?_
  refine y_aload_n hC dX10_day_45 0 rfl 46 rfl ?_
  refine y_get hC 63 (hA 63 (by decide)) (cl_H (u := (c_h g34)) rfl) rfl inU10 4 (by decide) w2_31 rfl dX10_day_46 49 rfl ?_
  refine y_getN hC 40 (hA 40 (by decide)) (cl_D (u := (c_d g34)) rfl) rfl inU2 9 (by decide) w1_183 rfl dX10_day_49 52 rfl ?_
  refine y_iadd hC dX10_day_52 53 rfl ?_
  obtain ⟨g53, eg53, hk⟩ := ob_lt hk
  refine y_putN hC (10 * 0) (hA 0 (by decide)) (cl_M (k := 0) (mm := (g34).2.1) (u := (c_m0 g34)) (by decide) rfl) rfl inU3 tyX3_ok nmX3 5 (by decide) w1_54 rfl rfl rfl rfl (Nat.le_of_ble_eq_true rfl) (gC σ g53) (by subst eg53; exact (cu_M_totalThrown (v := ((pM_totalThrown (c_m0 g34)) + (pD_left (c_d g34)))) (k := 0) (mm := (g34).2.1) (u := (c_m0 g34)) (by decide) rfl rfl)) dX10_day_53 56 rfl ?_
  refine y_aload_n hC dX10_day_56 0 rfl 57 rfl ?_
  refine y_get hC 63 (hA 63 (by decide)) (cl_H (u := (c_h g53)) rfl) rfl inU10 4 (by decide) w2_31 rfl dX10_day_57 60 rfl ?_
  refine y_aload_n hC dX10_day_60 0 rfl 61 rfl ?_
  refine y_get hC 63 (hA 63 (by decide)) (cl_H (u := (c_h g53)) rfl) rfl inU10 0 (by decide) w2_27 rfl dX10_day_61 64 rfl ?_
  obtain ⟨x64, hx64, hk⟩ := ob_bind hk
  obtain ⟨g64, eg64, hk⟩ := ob_lt hk
  refine y_callVN hC 40 (hA 40 (by decide)) (cl_D (u := (c_d g53)) rfl) rfl (c_X2_teach hJ hA l (gC σ g53) 0 (by decide) (c_d g53) (c_m0 g53) x64 hx64) rfl ⟨w3_152, w1_4, cwd_X2_teach, by decide, by decide⟩ w3_149 w3_151 ws2_15 rfl rfl (Nat.le_of_ble_eq_true rfl) (by decide) dX10_day_64 67 rfl (gC σ g64) (by subst eg64; rfl) [] rfl ?_
  refine y_aload_n hC dX10_day_67 0 rfl 68 rfl ?_
  refine y_get hC 63 (hA 63 (by decide)) (cl_H (u := (c_h g64)) rfl) rfl inU10 4 (by decide) w2_31 rfl dX10_day_68 71 rfl ?_
  refine y_getN hC 40 (hA 40 (by decide)) (cl_D (u := (c_d g64)) rfl) rfl inU2 10 (by decide) w1_186 rfl dX10_day_71 74 rfl ?_
  have e := Option.some.inj hk
  exact y_iret hC hr hlk (by rw [← e]) (by first | rfl | rw [← e]) dX10_day_74
def f_X10_undo (c : CSt) : Option (Int32 × CSt) :=
  if 0 < (pM_pastSize (c_m0 c)) then
    (f_X3_goBack (c_m0 c)).bind fun x21 => 
      (lt (sc_m0 c x21) fun g21 => 
      (some ((pM_totalTakings (c_m0 g21)), g21)))
  else
    (f_X10_refuse c (-3 : Int32)).bind fun x13 => 
      (some (x13.1, x13.2))
theorem cwd_X10_undo : yX10_undo.cls ≠ "java/lang/invoke/MethodHandle" ∧ yX10_undo.cls ≠ "java/lang/invoke/VarHandle" ∧ (parseMethodDescriptor yX10_undo.desc).map (fun d => d.parameters.length) = some 0 := by decide +kernel
set_option maxHeartbeats 4000000 in
set_option maxRecDepth 100000 in
theorem c_X10_undo {Γ : GC} (hJ : GJ Γ) (hA : ∀ i, i < 66 → act Γ i) (l : Launch) (σ : GSt) (c : CSt) (x : Int32 × CSt) (hk : f_X10_undo c = some x) : Mt Γ l yX10_undo cX10_undo 1 (some .int) 2 61 [.ref (ad Γ 63)] (gC σ c) (some (.int x.1)) (gC σ x.2) := by
  refine y_enter (by decide) hJ (Nat.le_of_ble_eq_true rfl) [(0, .ref (ad Γ 63))] rfl ?_
  intro p e s' m args below meth c' hC hr hlk
  refine y_aload_n hC dX10_undo_0 0 rfl 1 rfl ?_
  refine y_get hC 63 (hA 63 (by decide)) (cl_H (u := (c_h c)) rfl) rfl inU10 0 (by decide) w2_27 rfl dX10_undo_1 4 rfl ?_
  refine y_getN hC (10 * 0) (hA 0 (by decide)) (cl_M (k := 0) (mm := (c).2.1) (u := (c_m0 c)) (by decide) rfl) rfl inU3 7 (by decide) w1_59 rfl dX10_undo_4 7 rfl ?_
  refine y_if_gt hC dX10_undo_7 17 (by decide) 10 rfl (fun h7 => ?_) (fun h7 => ?_)
  · have hk := ob_pos h7 hk
    refine y_aload_n hC dX10_undo_17 0 rfl 18 rfl ?_
    refine y_get hC 63 (hA 63 (by decide)) (cl_H (u := (c_h c)) rfl) rfl inU10 0 (by decide) w2_27 rfl dX10_undo_18 21 rfl ?_
    obtain ⟨x21, hx21, hk⟩ := ob_bind hk
    obtain ⟨g21, eg21, hk⟩ := ob_lt hk
    refine y_callVN hC (10 * 0) (hA 0 (by decide)) (cl_M (k := 0) (mm := (c).2.1) (u := (c_m0 c)) (by decide) rfl) rfl (c_X3_goBack hJ hA l (gC σ c) 0 (by decide) (c_m0 c) x21 hx21) rfl ⟨w3_172, w1_2, cwd_X3_goBack, by decide, by decide⟩ w3_169 w3_171 ws3_3 rfl rfl (Nat.le_of_ble_eq_true rfl) (by decide) dX10_undo_21 24 rfl (gC σ g21) (by subst eg21; rfl) [] rfl ?_
    refine y_aload_n hC dX10_undo_24 0 rfl 25 rfl ?_
    refine y_get hC 63 (hA 63 (by decide)) (cl_H (u := (c_h g21)) rfl) rfl inU10 0 (by decide) w2_27 rfl dX10_undo_25 28 rfl ?_
    refine y_getN hC (10 * 0) (hA 0 (by decide)) (cl_M (k := 0) (mm := (g21).2.1) (u := (c_m0 g21)) (by decide) rfl) rfl inU3 4 (by decide) w1_52 rfl dX10_undo_28 31 rfl ?_
    have e := Option.some.inj hk
    exact y_iret hC hr hlk (by rw [← e]) (by first | rfl | rw [← e]) dX10_undo_31
  · have hk := ob_neg h7 hk
    refine y_aload_n hC dX10_undo_10 0 rfl 11 rfl ?_
    refine y_bipush hC dX10_undo_11 (v := (-3 : Int32)) (by decide) 13 rfl ?_
    obtain ⟨x13, hx13, hk⟩ := ob_bind hk
    refine y_callV hC 63 (hA 63 (by decide)) (cl_H (u := (c_h c)) rfl) rfl (c_X10_refuse hJ hA l σ c (-3 : Int32) x13 hx13) rfl ⟨w2_74, w1_1, cwd_X10_refuse, by decide, by decide⟩ w2_71 w2_73 ws1_0 rfl rfl (Nat.le_of_ble_eq_true rfl) (by decide) dX10_undo_13 16 rfl (gC σ x13.2) rfl [.int x13.1] rfl ?_
    have e := Option.some.inj hk
    exact y_iret hC hr hlk (by rw [← e]) (by first | rfl | rw [← e]) dX10_undo_16
def f_X10_of_j16 (a1 : Int32) (a2 : Int32) (gc : CSt) : Option (Int32 × CSt) :=
  (f_X10_refuse gc (-2 : Int32)).bind fun x19 => 
    (some (x19.1, x19.2))
def f_X10_of (c : CSt) (a1 : Int32) (a2 : Int32) : Option (Int32 × CSt) :=
  (f_X10_isHour a1).bind fun x1 => 
    (if x1 = 0 then
      f_X10_of_j16 a1 a2 c
    else
      (f_X10_within a2 (0 : Int32) (3 : Int32)).bind fun x10 => 
        (if x10 = 0 then
          f_X10_of_j16 a1 a2 c
        else
          if a2.toInt = 0 then
            (f_X3_priceIn (c_m0 c) a1).bind fun x57 => 
              (some (x57, c))
          else
            if a2.toInt = 1 then
              (f_X3_theirPriceIn (c_m0 c) a1).bind fun x66 => 
                (some (x66, c))
            else
              if a2.toInt = 2 then
                (f_X3_rainsIn (c_m0 c) a1).bind fun x75 => 
                  (if x75 = 0 then
                    some ((0 : Int32), c)
                  else
                    some ((1 : Int32), c))
              else
                (f_X2_run (c_d c) (c_m0 c)).bind fun x95 => 
                  (lt (sc_d c x95) fun g95 => 
                  ((f_X2_goneIn (c_d g95) a1).bind fun x103 => 
                  (some (x103, g95))))))
theorem cwd_X10_of : yX10_of.cls ≠ "java/lang/invoke/MethodHandle" ∧ yX10_of.cls ≠ "java/lang/invoke/VarHandle" ∧ (parseMethodDescriptor yX10_of.desc).map (fun d => d.parameters.length) = some 2 := by decide +kernel
set_option maxHeartbeats 4000000 in
set_option maxRecDepth 100000 in
theorem c_X10_of {Γ : GC} (hJ : GJ Γ) (hA : ∀ i, i < 66 → act Γ i) (l : Launch) (σ : GSt) (c : CSt) (a1 : Int32) (a2 : Int32) (x : Int32 × CSt) (hk : f_X10_of c a1 a2 = some x) : Mt Γ l yX10_of cX10_of 3 (some .int) 5 146 [.ref (ad Γ 63), .int a1, .int a2] (gC σ c) (some (.int x.1)) (gC σ x.2) := by
  refine y_enter (by decide) hJ (Nat.le_of_ble_eq_true rfl) [(0, .ref (ad Γ 63)), (1, .int a1), (2, .int a2)] rfl ?_
  intro p e s' m args below meth c' hC hr hlk
  have J16 : ∀ (gc : CSt), f_X10_of_j16 a1 a2 gc = some x → Y Γ (GA Γ) p l e ({ frames := 5, cells := 0, slots := 0, locals := 146 } : Room) s' m args below meth c' 0 0 (MQ below (Qg Γ (some (.int x.1)) (gC σ x.2)) args s' 0 0 (GA Γ)) 3 (gC σ gc) 16 [(0, .ref (ad Γ 63)), (1, .int a1), (2, .int a2)] [] := by
    intro gc hk
    refine y_aload_n hC dX10_of_16 0 rfl 17 rfl ?_
    refine y_bipush hC dX10_of_17 (v := (-2 : Int32)) (by decide) 19 rfl ?_
    obtain ⟨x19, hx19, hk⟩ := ob_bind hk
    refine y_callV hC 63 (hA 63 (by decide)) (cl_H (u := (c_h gc)) rfl) rfl (c_X10_refuse hJ hA l σ gc (-2 : Int32) x19 hx19) rfl ⟨w2_74, w1_1, cwd_X10_refuse, by decide, by decide⟩ w2_71 w2_73 ws1_0 rfl rfl (Nat.le_of_ble_eq_true rfl) (by decide) dX10_of_19 22 rfl (gC σ x19.2) rfl [.int x19.1] rfl ?_
    have e := Option.some.inj hk
    exact y_iret hC hr hlk (by rw [← e]) (by first | rfl | rw [← e]) dX10_of_22
  refine y_iload_n hC dX10_of_0 1 rfl 1 rfl ?_
  obtain ⟨x1, hx1, hk⟩ := ob_bind hk
  refine y_callS hC (c_X10_isHour hJ l (gC σ c) a1 x1 hx1) rfl ⟨w2_89, w1_1, cwd_X10_isHour, by decide, by decide⟩ w2_87 w2_88 rfl rfl (Nat.le_of_ble_eq_true rfl) (by decide) dX10_of_1 4 rfl (gC σ c) rfl [.int x1] rfl ?_
  refine y_if_eq hC dX10_of_4 16 (by decide) 7 rfl (fun h4 => ?_) (fun h4 => ?_)
  · have hk := ob_pos h4 hk
    refine y_sub [0, 1, 2] rfl ?_
    exact J16 c hk
  · have hk := ob_neg h4 hk
    refine y_iload_n hC dX10_of_7 2 rfl 8 rfl ?_
    refine y_iconst hC dX10_of_8 (v := (0 : Int32)) (by decide) 9 rfl ?_
    refine y_iconst hC dX10_of_9 (v := (3 : Int32)) (by decide) 10 rfl ?_
    obtain ⟨x10, hx10, hk⟩ := ob_bind hk
    refine y_callS hC (c_X10_within hJ l (gC σ c) a2 (0 : Int32) (3 : Int32) x10 hx10) rfl ⟨w2_70, w1_1, cwd_X10_within, by decide, by decide⟩ w2_68 w2_69 rfl rfl (Nat.le_of_ble_eq_true rfl) (by decide) dX10_of_10 13 rfl (gC σ c) rfl [.int x10] rfl ?_
    refine y_if_ne hC dX10_of_13 23 (by decide) 16 rfl (fun h13 => ?_) (fun h13 => ?_)
    · have hk := ob_neg h13 hk
      refine y_iload_n hC dX10_of_23 2 rfl 24 rfl ?_
      by_cases h24_0 : a2.toInt = 0
      · have hk := ob_pos h24_0 hk
        refine y_tabI hC dX10_of_24 h24_0 (by decide) (by decide) rfl 52 (by decide) ?_
        refine y_aload_n hC dX10_of_52 0 rfl 53 rfl ?_
        refine y_get hC 63 (hA 63 (by decide)) (cl_H (u := (c_h c)) rfl) rfl inU10 0 (by decide) w2_27 rfl dX10_of_53 56 rfl ?_
        refine y_iload_n hC dX10_of_56 1 rfl 57 rfl ?_
        obtain ⟨x57, hx57, hk⟩ := ob_bind hk
        refine y_callVN hC (10 * 0) (hA 0 (by decide)) (cl_M (k := 0) (mm := (c).2.1) (u := (c_m0 c)) (by decide) rfl) rfl (c_X3_priceIn hJ hA l (gC σ c) 0 (by decide) (c_m0 c) a1 x57 hx57) rfl ⟨w2_93, w1_2, cwd_X3_priceIn, by decide, by decide⟩ w2_90 w2_92 ws1_2 rfl rfl (Nat.le_of_ble_eq_true rfl) (by decide) dX10_of_57 60 rfl (gC σ c) rfl [.int x57] rfl ?_
        have e := Option.some.inj hk
        exact y_iret hC hr hlk (by rw [← e]) (by first | rfl | rw [← e]) dX10_of_60
      · have hk := ob_neg h24_0 hk
        by_cases h24_1 : a2.toInt = 1
        · have hk := ob_pos h24_1 hk
          refine y_tabI hC dX10_of_24 h24_1 (by decide) (by decide) rfl 61 (by decide) ?_
          refine y_aload_n hC dX10_of_61 0 rfl 62 rfl ?_
          refine y_get hC 63 (hA 63 (by decide)) (cl_H (u := (c_h c)) rfl) rfl inU10 0 (by decide) w2_27 rfl dX10_of_62 65 rfl ?_
          refine y_iload_n hC dX10_of_65 1 rfl 66 rfl ?_
          obtain ⟨x66, hx66, hk⟩ := ob_bind hk
          refine y_callVN hC (10 * 0) (hA 0 (by decide)) (cl_M (k := 0) (mm := (c).2.1) (u := (c_m0 c)) (by decide) rfl) rfl (c_X3_theirPriceIn hJ hA l (gC σ c) 0 (by decide) (c_m0 c) a1 x66 hx66) rfl ⟨w2_108, w1_2, cwd_X3_theirPriceIn, by decide, by decide⟩ w2_105 w2_107 ws1_4 rfl rfl (Nat.le_of_ble_eq_true rfl) (by decide) dX10_of_66 69 rfl (gC σ c) rfl [.int x66] rfl ?_
          have e := Option.some.inj hk
          exact y_iret hC hr hlk (by rw [← e]) (by first | rfl | rw [← e]) dX10_of_69
        · have hk := ob_neg h24_1 hk
          by_cases h24_2 : a2.toInt = 2
          · have hk := ob_pos h24_2 hk
            refine y_tabI hC dX10_of_24 h24_2 (by decide) (by decide) rfl 70 (by decide) ?_
            refine y_aload_n hC dX10_of_70 0 rfl 71 rfl ?_
            refine y_get hC 63 (hA 63 (by decide)) (cl_H (u := (c_h c)) rfl) rfl inU10 0 (by decide) w2_27 rfl dX10_of_71 74 rfl ?_
            refine y_iload_n hC dX10_of_74 1 rfl 75 rfl ?_
            obtain ⟨x75, hx75, hk⟩ := ob_bind hk
            refine y_callVN hC (10 * 0) (hA 0 (by decide)) (cl_M (k := 0) (mm := (c).2.1) (u := (c_m0 c)) (by decide) rfl) rfl (c_X3_rainsIn hJ hA l (gC σ c) 0 (by decide) (c_m0 c) a1 x75 hx75) rfl ⟨w3_110, w1_2, cwd_X3_rainsIn, by decide, by decide⟩ w3_177 w3_109 ws2_9 rfl rfl (Nat.le_of_ble_eq_true rfl) (by decide) dX10_of_75 78 rfl (gC σ c) rfl [.int x75] rfl ?_
            refine y_if_eq hC dX10_of_78 85 (by decide) 81 rfl (fun h78 => ?_) (fun h78 => ?_)
            · have hk := ob_pos h78 hk
              refine y_iconst hC dX10_of_85 (v := (0 : Int32)) (by decide) 86 rfl ?_
              have e := Option.some.inj hk
              exact y_iret hC hr hlk (by rw [← e]) (by first | rfl | rw [← e]) dX10_of_86
            · have hk := ob_neg h78 hk
              refine y_iconst hC dX10_of_81 (v := (1 : Int32)) (by decide) 82 rfl ?_
              refine y_goto hC dX10_of_82 86 (by decide) ?_
              have e := Option.some.inj hk
              exact y_iret hC hr hlk (by rw [← e]) (by first | rfl | rw [← e]) dX10_of_86
          · have hk := ob_neg h24_2 hk
            refine y_tabO hC dX10_of_24 (by omega) 87 (by decide) ?_
            refine y_aload_n hC dX10_of_87 0 rfl 88 rfl ?_
            refine y_get hC 63 (hA 63 (by decide)) (cl_H (u := (c_h c)) rfl) rfl inU10 4 (by decide) w2_31 rfl dX10_of_88 91 rfl ?_
            refine y_aload_n hC dX10_of_91 0 rfl 92 rfl ?_
            refine y_get hC 63 (hA 63 (by decide)) (cl_H (u := (c_h c)) rfl) rfl inU10 0 (by decide) w2_27 rfl dX10_of_92 95 rfl ?_
            obtain ⟨x95, hx95, hk⟩ := ob_bind hk
            obtain ⟨g95, eg95, hk⟩ := ob_lt hk
            refine y_callVN hC 40 (hA 40 (by decide)) (cl_D (u := (c_d c)) rfl) rfl (c_X2_run hJ hA l (gC σ c) 0 (by decide) (c_d c) (c_m0 c) x95 hx95) rfl ⟨w3_32, w1_4, cwd_X2_run, by decide, by decide⟩ w3_29 w3_31 ws2_6 rfl rfl (Nat.le_of_ble_eq_true rfl) (by decide) dX10_of_95 98 rfl (gC σ g95) (by subst eg95; rfl) [] rfl ?_
            refine y_aload_n hC dX10_of_98 0 rfl 99 rfl ?_
            refine y_get hC 63 (hA 63 (by decide)) (cl_H (u := (c_h g95)) rfl) rfl inU10 4 (by decide) w2_31 rfl dX10_of_99 102 rfl ?_
            refine y_iload_n hC dX10_of_102 1 rfl 103 rfl ?_
            obtain ⟨x103, hx103, hk⟩ := ob_bind hk
            refine y_callVN hC 40 (hA 40 (by decide)) (cl_D (u := (c_d g95)) rfl) rfl (c_X2_goneIn hJ hA l (gC σ g95) (c_d g95) a1 x103 hx103) rfl ⟨w3_181, w1_4, cwd_X2_goneIn, by decide, by decide⟩ w3_178 w3_180 ws3_4 rfl rfl (Nat.le_of_ble_eq_true rfl) (by decide) dX10_of_103 106 rfl (gC σ g95) rfl [.int x103] rfl ?_
            have e := Option.some.inj hk
            exact y_iret hC hr hlk (by rw [← e]) (by first | rfl | rw [← e]) dX10_of_106
    · have hk := ob_pos h13 hk
      refine y_sub [0, 1, 2] rfl ?_
      exact J16 c hk
def f_X10_isBuyer (c : CSt) (a1 : Int32) : Option (Int32) :=
  if a1 < 0 then
    some (0 : Int32)
  else
    if (pM_size (c_m0 c)) ≤ a1 then
      some (0 : Int32)
    else
      if (8 : Int32) ≤ a1 then
        some (0 : Int32)
      else
        some (1 : Int32)
theorem cwd_X10_isBuyer : yX10_isBuyer.cls ≠ "java/lang/invoke/MethodHandle" ∧ yX10_isBuyer.cls ≠ "java/lang/invoke/VarHandle" ∧ (parseMethodDescriptor yX10_isBuyer.desc).map (fun d => d.parameters.length) = some 1 := by decide +kernel
set_option maxHeartbeats 4000000 in
set_option maxRecDepth 100000 in
theorem c_X10_isBuyer {Γ : GC} (hJ : GJ Γ) (hA : ∀ i, i < 66 → act Γ i) (l : Launch) (σ : GSt) (c : CSt) (a1 : Int32) (x : Int32) (hk : f_X10_isBuyer c a1 = some x) : Mt Γ l yX10_isBuyer cX10_isBuyer 2 (some .boolean) 0 0 [.ref (ad Γ 63), .int a1] (gC σ c) (some (.int x)) (gC σ c) := by
  refine y_enter (by decide) hJ (Nat.le_of_ble_eq_true rfl) [(0, .ref (ad Γ 63)), (1, .int a1)] rfl ?_
  intro p e s' m args below meth c' hC hr hlk
  refine y_iload_n hC dX10_isBuyer_0 1 rfl 1 rfl ?_
  refine y_if_lt hC dX10_isBuyer_1 25 (by decide) 4 rfl (fun h1 => ?_) (fun h1 => ?_)
  · have hk := ob_pos h1 hk
    refine y_iconst hC dX10_isBuyer_25 (v := (0 : Int32)) (by decide) 26 rfl ?_
    have e := Option.some.inj hk
    exact y_zret hC hr hlk rfl (by rw [← e]) (by first | rfl | rw [← e]) dX10_isBuyer_26
  · have hk := ob_neg h1 hk
    refine y_iload_n hC dX10_isBuyer_4 1 rfl 5 rfl ?_
    refine y_aload_n hC dX10_isBuyer_5 0 rfl 6 rfl ?_
    refine y_get hC 63 (hA 63 (by decide)) (cl_H (u := (c_h c)) rfl) rfl inU10 0 (by decide) w2_27 rfl dX10_isBuyer_6 9 rfl ?_
    refine y_getN hC (10 * 0) (hA 0 (by decide)) (cl_M (k := 0) (mm := (c).2.1) (u := (c_m0 c)) (by decide) rfl) rfl inU3 3 (by decide) w1_48 rfl dX10_isBuyer_9 12 rfl ?_
    refine y_icmp_ge hC dX10_isBuyer_12 25 (by decide) 15 rfl (fun h12 => ?_) (fun h12 => ?_)
    · have hk := ob_pos h12 hk
      refine y_iconst hC dX10_isBuyer_25 (v := (0 : Int32)) (by decide) 26 rfl ?_
      have e := Option.some.inj hk
      exact y_zret hC hr hlk rfl (by rw [← e]) (by first | rfl | rw [← e]) dX10_isBuyer_26
    · have hk := ob_neg h12 hk
      refine y_iload_n hC dX10_isBuyer_15 1 rfl 16 rfl ?_
      refine y_bipush hC dX10_isBuyer_16 (v := (8 : Int32)) (by decide) 18 rfl ?_
      refine y_icmp_ge hC dX10_isBuyer_18 25 (by decide) 21 rfl (fun h18 => ?_) (fun h18 => ?_)
      · have hk := ob_pos h18 hk
        refine y_iconst hC dX10_isBuyer_25 (v := (0 : Int32)) (by decide) 26 rfl ?_
        have e := Option.some.inj hk
        exact y_zret hC hr hlk rfl (by rw [← e]) (by first | rfl | rw [← e]) dX10_isBuyer_26
      · have hk := ob_neg h18 hk
        refine y_iconst hC dX10_isBuyer_21 (v := (1 : Int32)) (by decide) 22 rfl ?_
        refine y_goto hC dX10_isBuyer_22 26 (by decide) ?_
        have e := Option.some.inj hk
        exact y_zret hC hr hlk rfl (by rw [← e]) (by first | rfl | rw [← e]) dX10_isBuyer_26
def f_X10_about_j17 (a1 : Int32) (a2 : Int32) (gc : CSt) : Option (Int32 × CSt) :=
  (f_X10_refuse gc (-2 : Int32)).bind fun x20 => 
    (some (x20.1, x20.2))
def f_X10_about (c : CSt) (a1 : Int32) (a2 : Int32) : Option (Int32 × CSt) :=
  (f_X10_isBuyer c a1).bind fun x2 => 
    (if x2 = 0 then
      f_X10_about_j17 a1 a2 c
    else
      (f_X10_within a2 (0 : Int32) (4 : Int32)).bind fun x11 => 
        (if x11 = 0 then
          f_X10_about_j17 a1 a2 c
        else
          if a2.toInt = 0 then
            if inb a1 8 then 
              (some ((pM_kinds (c_m0 c) a1.toNatClampNeg), c))
            else none
          else
            if a2.toInt = 1 then
              if inb a1 8 then 
                (some ((pM_hours (c_m0 c) a1.toNatClampNeg), c))
              else none
            else
              if a2.toInt = 2 then
                if inb a1 8 then 
                  (some ((pM_worths (c_m0 c) a1.toNatClampNeg), c))
                else none
              else
                if a2.toInt = 3 then
                  if inb a1 8 then 
                    (some ((pM_wants (c_m0 c) a1.toNatClampNeg), c))
                  else none
                else
                  (f_X2_plan (c_d c) (c_m0 c)).bind fun x104 => 
                    (lt (sc_d c x104) fun g104 => 
                    (if inb a1 8 then 
                    (some ((pD_carries (c_d g104) a1.toNatClampNeg), g104))
                  else none))))
theorem cwd_X10_about : yX10_about.cls ≠ "java/lang/invoke/MethodHandle" ∧ yX10_about.cls ≠ "java/lang/invoke/VarHandle" ∧ (parseMethodDescriptor yX10_about.desc).map (fun d => d.parameters.length) = some 2 := by decide +kernel
set_option maxHeartbeats 4000000 in
set_option maxRecDepth 100000 in
theorem c_X10_about {Γ : GC} (hJ : GJ Γ) (hA : ∀ i, i < 66 → act Γ i) (l : Launch) (σ : GSt) (c : CSt) (a1 : Int32) (a2 : Int32) (x : Int32 × CSt) (hk : f_X10_about c a1 a2 = some x) : Mt Γ l yX10_about cX10_about 3 (some .int) 4 125 [.ref (ad Γ 63), .int a1, .int a2] (gC σ c) (some (.int x.1)) (gC σ x.2) := by
  refine y_enter (by decide) hJ (Nat.le_of_ble_eq_true rfl) [(0, .ref (ad Γ 63)), (1, .int a1), (2, .int a2)] rfl ?_
  intro p e s' m args below meth c' hC hr hlk
  have J17 : ∀ (gc : CSt), f_X10_about_j17 a1 a2 gc = some x → Y Γ (GA Γ) p l e ({ frames := 4, cells := 0, slots := 0, locals := 125 } : Room) s' m args below meth c' 0 0 (MQ below (Qg Γ (some (.int x.1)) (gC σ x.2)) args s' 0 0 (GA Γ)) 3 (gC σ gc) 17 [(0, .ref (ad Γ 63)), (1, .int a1), (2, .int a2)] [] := by
    intro gc hk
    refine y_aload_n hC dX10_about_17 0 rfl 18 rfl ?_
    refine y_bipush hC dX10_about_18 (v := (-2 : Int32)) (by decide) 20 rfl ?_
    obtain ⟨x20, hx20, hk⟩ := ob_bind hk
    refine y_callV hC 63 (hA 63 (by decide)) (cl_H (u := (c_h gc)) rfl) rfl (c_X10_refuse hJ hA l σ gc (-2 : Int32) x20 hx20) rfl ⟨w2_74, w1_1, cwd_X10_refuse, by decide, by decide⟩ w2_71 w2_73 ws1_0 rfl rfl (Nat.le_of_ble_eq_true rfl) (by decide) dX10_about_20 23 rfl (gC σ x20.2) rfl [.int x20.1] rfl ?_
    have e := Option.some.inj hk
    exact y_iret hC hr hlk (by rw [← e]) (by first | rfl | rw [← e]) dX10_about_23
  refine y_aload_n hC dX10_about_0 0 rfl 1 rfl ?_
  refine y_iload_n hC dX10_about_1 1 rfl 2 rfl ?_
  obtain ⟨x2, hx2, hk⟩ := ob_bind hk
  refine y_callV hC 63 (hA 63 (by decide)) (cl_H (u := (c_h c)) rfl) rfl (c_X10_isBuyer hJ hA l σ c a1 x2 hx2) rfl ⟨w3_189, w1_1, cwd_X10_isBuyer, by decide, by decide⟩ w3_186 w3_188 ws3_5 rfl rfl (Nat.le_of_ble_eq_true rfl) (by decide) dX10_about_2 5 rfl (gC σ c) rfl [.int x2] rfl ?_
  refine y_if_eq hC dX10_about_5 17 (by decide) 8 rfl (fun h5 => ?_) (fun h5 => ?_)
  · have hk := ob_pos h5 hk
    refine y_sub [0, 1, 2] rfl ?_
    exact J17 c hk
  · have hk := ob_neg h5 hk
    refine y_iload_n hC dX10_about_8 2 rfl 9 rfl ?_
    refine y_iconst hC dX10_about_9 (v := (0 : Int32)) (by decide) 10 rfl ?_
    refine y_iconst hC dX10_about_10 (v := (4 : Int32)) (by decide) 11 rfl ?_
    obtain ⟨x11, hx11, hk⟩ := ob_bind hk
    refine y_callS hC (c_X10_within hJ l (gC σ c) a2 (0 : Int32) (4 : Int32) x11 hx11) rfl ⟨w2_70, w1_1, cwd_X10_within, by decide, by decide⟩ w2_68 w2_69 rfl rfl (Nat.le_of_ble_eq_true rfl) (by decide) dX10_about_11 14 rfl (gC σ c) rfl [.int x11] rfl ?_
    refine y_if_ne hC dX10_about_14 24 (by decide) 17 rfl (fun h14 => ?_) (fun h14 => ?_)
    · have hk := ob_neg h14 hk
      refine y_iload_n hC dX10_about_24 2 rfl 25 rfl ?_
      by_cases h25_0 : a2.toInt = 0
      · have hk := ob_pos h25_0 hk
        refine y_tabI hC dX10_about_25 h25_0 (by decide) (by decide) rfl 56 (by decide) ?_
        refine y_aload_n hC dX10_about_56 0 rfl 57 rfl ?_
        refine y_get hC 63 (hA 63 (by decide)) (cl_H (u := (c_h c)) rfl) rfl inU10 0 (by decide) w2_27 rfl dX10_about_57 60 rfl ?_
        refine y_getN hC (10 * 0) (hA 0 (by decide)) (cl_M (k := 0) (mm := (c).2.1) (u := (c_m0 c)) (by decide) rfl) rfl inU3 10 (by decide) w1_64 rfl dX10_about_60 63 rfl ?_
        refine y_iload_n hC dX10_about_63 1 rfl 64 rfl ?_
        obtain ⟨h64, hk⟩ := ob_if hk
        refine y_iald hC (10 * 0 + 3) (hA 3 (by decide)) (cl_M_kinds (k := 0) (mm := (c).2.1) (u := (c_m0 c)) (by decide) rfl) h64 dX10_about_64 65 rfl ?_
        have e := Option.some.inj hk
        exact y_iret hC hr hlk (by rw [← e]) (by first | rfl | rw [← e]) dX10_about_65
      · have hk := ob_neg h25_0 hk
        by_cases h25_1 : a2.toInt = 1
        · have hk := ob_pos h25_1 hk
          refine y_tabI hC dX10_about_25 h25_1 (by decide) (by decide) rfl 66 (by decide) ?_
          refine y_aload_n hC dX10_about_66 0 rfl 67 rfl ?_
          refine y_get hC 63 (hA 63 (by decide)) (cl_H (u := (c_h c)) rfl) rfl inU10 0 (by decide) w2_27 rfl dX10_about_67 70 rfl ?_
          refine y_getN hC (10 * 0) (hA 0 (by decide)) (cl_M (k := 0) (mm := (c).2.1) (u := (c_m0 c)) (by decide) rfl) rfl inU3 11 (by decide) w1_67 rfl dX10_about_70 73 rfl ?_
          refine y_iload_n hC dX10_about_73 1 rfl 74 rfl ?_
          obtain ⟨h74, hk⟩ := ob_if hk
          refine y_iald hC (10 * 0 + 4) (hA 4 (by decide)) (cl_M_hours (k := 0) (mm := (c).2.1) (u := (c_m0 c)) (by decide) rfl) h74 dX10_about_74 75 rfl ?_
          have e := Option.some.inj hk
          exact y_iret hC hr hlk (by rw [← e]) (by first | rfl | rw [← e]) dX10_about_75
        · have hk := ob_neg h25_1 hk
          by_cases h25_2 : a2.toInt = 2
          · have hk := ob_pos h25_2 hk
            refine y_tabI hC dX10_about_25 h25_2 (by decide) (by decide) rfl 76 (by decide) ?_
            refine y_aload_n hC dX10_about_76 0 rfl 77 rfl ?_
            refine y_get hC 63 (hA 63 (by decide)) (cl_H (u := (c_h c)) rfl) rfl inU10 0 (by decide) w2_27 rfl dX10_about_77 80 rfl ?_
            refine y_getN hC (10 * 0) (hA 0 (by decide)) (cl_M (k := 0) (mm := (c).2.1) (u := (c_m0 c)) (by decide) rfl) rfl inU3 12 (by decide) w1_70 rfl dX10_about_80 83 rfl ?_
            refine y_iload_n hC dX10_about_83 1 rfl 84 rfl ?_
            obtain ⟨h84, hk⟩ := ob_if hk
            refine y_iald hC (10 * 0 + 5) (hA 5 (by decide)) (cl_M_worths (k := 0) (mm := (c).2.1) (u := (c_m0 c)) (by decide) rfl) h84 dX10_about_84 85 rfl ?_
            have e := Option.some.inj hk
            exact y_iret hC hr hlk (by rw [← e]) (by first | rfl | rw [← e]) dX10_about_85
          · have hk := ob_neg h25_2 hk
            by_cases h25_3 : a2.toInt = 3
            · have hk := ob_pos h25_3 hk
              refine y_tabI hC dX10_about_25 h25_3 (by decide) (by decide) rfl 86 (by decide) ?_
              refine y_aload_n hC dX10_about_86 0 rfl 87 rfl ?_
              refine y_get hC 63 (hA 63 (by decide)) (cl_H (u := (c_h c)) rfl) rfl inU10 0 (by decide) w2_27 rfl dX10_about_87 90 rfl ?_
              refine y_getN hC (10 * 0) (hA 0 (by decide)) (cl_M (k := 0) (mm := (c).2.1) (u := (c_m0 c)) (by decide) rfl) rfl inU3 13 (by decide) w1_73 rfl dX10_about_90 93 rfl ?_
              refine y_iload_n hC dX10_about_93 1 rfl 94 rfl ?_
              obtain ⟨h94, hk⟩ := ob_if hk
              refine y_iald hC (10 * 0 + 6) (hA 6 (by decide)) (cl_M_wants (k := 0) (mm := (c).2.1) (u := (c_m0 c)) (by decide) rfl) h94 dX10_about_94 95 rfl ?_
              have e := Option.some.inj hk
              exact y_iret hC hr hlk (by rw [← e]) (by first | rfl | rw [← e]) dX10_about_95
            · have hk := ob_neg h25_3 hk
              refine y_tabO hC dX10_about_25 (by omega) 96 (by decide) ?_
              refine y_aload_n hC dX10_about_96 0 rfl 97 rfl ?_
              refine y_get hC 63 (hA 63 (by decide)) (cl_H (u := (c_h c)) rfl) rfl inU10 4 (by decide) w2_31 rfl dX10_about_97 100 rfl ?_
              refine y_aload_n hC dX10_about_100 0 rfl 101 rfl ?_
              refine y_get hC 63 (hA 63 (by decide)) (cl_H (u := (c_h c)) rfl) rfl inU10 0 (by decide) w2_27 rfl dX10_about_101 104 rfl ?_
              obtain ⟨x104, hx104, hk⟩ := ob_bind hk
              obtain ⟨g104, eg104, hk⟩ := ob_lt hk
              refine y_callVN hC 40 (hA 40 (by decide)) (cl_D (u := (c_d c)) rfl) rfl (c_X2_plan hJ hA l (gC σ c) 0 (by decide) (c_d c) (c_m0 c) x104 hx104) rfl ⟨w3_36, w1_4, cwd_X2_plan, by decide, by decide⟩ w3_190 w3_35 ws2_7 rfl rfl (Nat.le_of_ble_eq_true rfl) (by decide) dX10_about_104 107 rfl (gC σ g104) (by subst eg104; rfl) [] rfl ?_
              refine y_aload_n hC dX10_about_107 0 rfl 108 rfl ?_
              refine y_get hC 63 (hA 63 (by decide)) (cl_H (u := (c_h g104)) rfl) rfl inU10 4 (by decide) w2_31 rfl dX10_about_108 111 rfl ?_
              refine y_getN hC 40 (hA 40 (by decide)) (cl_D (u := (c_d g104)) rfl) rfl inU2 3 (by decide) w1_174 rfl dX10_about_111 114 rfl ?_
              refine y_iload_n hC dX10_about_114 1 rfl 115 rfl ?_
              obtain ⟨h115, hk⟩ := ob_if hk
              refine y_iald hC 43 (hA 43 (by decide)) (cl_D_carries (u := (c_d g104)) rfl) h115 dX10_about_115 116 rfl ?_
              have e := Option.some.inj hk
              exact y_iret hC hr hlk (by rw [← e]) (by first | rfl | rw [← e]) dX10_about_116
    · have hk := ob_pos h14 hk
      refine y_sub [0, 1, 2] rfl ?_
      exact J17 c hk
def f_X10_takes (c : CSt) (a1 : Int32) : Option (Int32 × CSt) :=
  (f_X10_within a1 (0 : Int32) (1 : Int32)).bind fun x3 => 
    (if x3 = 0 then
      (f_X10_refuse c (-2 : Int32)).bind fun x12 => 
        (some (x12.1, x12.2))
    else
      (f_X2_run (c_d c) (c_m0 c)).bind fun x24 => 
        (lt (sc_d c x24) fun g24 => 
        (if a1 = 0 then
          some ((pD_takings (c_d g24)), g24)
        else
          some ((pD_left (c_d g24)), g24))))
theorem cwd_X10_takes : yX10_takes.cls ≠ "java/lang/invoke/MethodHandle" ∧ yX10_takes.cls ≠ "java/lang/invoke/VarHandle" ∧ (parseMethodDescriptor yX10_takes.desc).map (fun d => d.parameters.length) = some 1 := by decide +kernel
set_option maxHeartbeats 4000000 in
set_option maxRecDepth 100000 in
theorem c_X10_takes {Γ : GC} (hJ : GJ Γ) (hA : ∀ i, i < 66 → act Γ i) (l : Launch) (σ : GSt) (c : CSt) (a1 : Int32) (x : Int32 × CSt) (hk : f_X10_takes c a1 = some x) : Mt Γ l yX10_takes cX10_takes 2 (some .int) 5 146 [.ref (ad Γ 63), .int a1] (gC σ c) (some (.int x.1)) (gC σ x.2) := by
  refine y_enter (by decide) hJ (Nat.le_of_ble_eq_true rfl) [(0, .ref (ad Γ 63)), (1, .int a1)] rfl ?_
  intro p e s' m args below meth c' hC hr hlk
  refine y_iload_n hC dX10_takes_0 1 rfl 1 rfl ?_
  refine y_iconst hC dX10_takes_1 (v := (0 : Int32)) (by decide) 2 rfl ?_
  refine y_iconst hC dX10_takes_2 (v := (1 : Int32)) (by decide) 3 rfl ?_
  obtain ⟨x3, hx3, hk⟩ := ob_bind hk
  refine y_callS hC (c_X10_within hJ l (gC σ c) a1 (0 : Int32) (1 : Int32) x3 hx3) rfl ⟨w2_70, w1_1, cwd_X10_within, by decide, by decide⟩ w2_68 w2_69 rfl rfl (Nat.le_of_ble_eq_true rfl) (by decide) dX10_takes_3 6 rfl (gC σ c) rfl [.int x3] rfl ?_
  refine y_if_ne hC dX10_takes_6 16 (by decide) 9 rfl (fun h6 => ?_) (fun h6 => ?_)
  · have hk := ob_neg h6 hk
    refine y_aload_n hC dX10_takes_16 0 rfl 17 rfl ?_
    refine y_get hC 63 (hA 63 (by decide)) (cl_H (u := (c_h c)) rfl) rfl inU10 4 (by decide) w2_31 rfl dX10_takes_17 20 rfl ?_
    refine y_aload_n hC dX10_takes_20 0 rfl 21 rfl ?_
    refine y_get hC 63 (hA 63 (by decide)) (cl_H (u := (c_h c)) rfl) rfl inU10 0 (by decide) w2_27 rfl dX10_takes_21 24 rfl ?_
    obtain ⟨x24, hx24, hk⟩ := ob_bind hk
    obtain ⟨g24, eg24, hk⟩ := ob_lt hk
    refine y_callVN hC 40 (hA 40 (by decide)) (cl_D (u := (c_d c)) rfl) rfl (c_X2_run hJ hA l (gC σ c) 0 (by decide) (c_d c) (c_m0 c) x24 hx24) rfl ⟨w3_32, w1_4, cwd_X2_run, by decide, by decide⟩ w3_29 w3_31 ws2_6 rfl rfl (Nat.le_of_ble_eq_true rfl) (by decide) dX10_takes_24 27 rfl (gC σ g24) (by subst eg24; rfl) [] rfl ?_
    refine y_iload_n hC dX10_takes_27 1 rfl 28 rfl ?_
    refine y_if_ne hC dX10_takes_28 41 (by decide) 31 rfl (fun h28 => ?_) (fun h28 => ?_)
    · have hk := ob_neg h28 hk
      refine y_aload_n hC dX10_takes_41 0 rfl 42 rfl ?_
      refine y_get hC 63 (hA 63 (by decide)) (cl_H (u := (c_h g24)) rfl) rfl inU10 4 (by decide) w2_31 rfl dX10_takes_42 45 rfl ?_
      refine y_getN hC 40 (hA 40 (by decide)) (cl_D (u := (c_d g24)) rfl) rfl inU2 9 (by decide) w1_183 rfl dX10_takes_45 48 rfl ?_
      have e := Option.some.inj hk
      exact y_iret hC hr hlk (by rw [← e]) (by first | rfl | rw [← e]) dX10_takes_48
    · have hk := ob_pos h28 hk
      refine y_aload_n hC dX10_takes_31 0 rfl 32 rfl ?_
      refine y_get hC 63 (hA 63 (by decide)) (cl_H (u := (c_h g24)) rfl) rfl inU10 4 (by decide) w2_31 rfl dX10_takes_32 35 rfl ?_
      refine y_getN hC 40 (hA 40 (by decide)) (cl_D (u := (c_d g24)) rfl) rfl inU2 10 (by decide) w1_186 rfl dX10_takes_35 38 rfl ?_
      refine y_goto hC dX10_takes_38 48 (by decide) ?_
      have e := Option.some.inj hk
      exact y_iret hC hr hlk (by rw [← e]) (by first | rfl | rw [← e]) dX10_takes_48
  · have hk := ob_pos h6 hk
    refine y_aload_n hC dX10_takes_9 0 rfl 10 rfl ?_
    refine y_bipush hC dX10_takes_10 (v := (-2 : Int32)) (by decide) 12 rfl ?_
    obtain ⟨x12, hx12, hk⟩ := ob_bind hk
    refine y_callV hC 63 (hA 63 (by decide)) (cl_H (u := (c_h c)) rfl) rfl (c_X10_refuse hJ hA l σ c (-2 : Int32) x12 hx12) rfl ⟨w2_74, w1_1, cwd_X10_refuse, by decide, by decide⟩ w2_71 w2_73 ws1_0 rfl rfl (Nat.le_of_ble_eq_true rfl) (by decide) dX10_takes_12 15 rfl (gC σ x12.2) rfl [.int x12.1] rfl ?_
    have e := Option.some.inj hk
    exact y_iret hC hr hlk (by rw [← e]) (by first | rfl | rw [← e]) dX10_takes_15
def f_X10_to_j17 (a1 : Int32) (a2 : Int32) (gc : CSt) : Option (Int32 × CSt) :=
  (f_X10_refuse gc (-2 : Int32)).bind fun x20 => 
    (some (x20.1, x20.2))
def f_X10_to (c : CSt) (a1 : Int32) (a2 : Int32) : Option (Int32 × CSt) :=
  (f_X10_isBuyer c a1).bind fun x2 => 
    (if x2 = 0 then
      f_X10_to_j17 a1 a2 c
    else
      (f_X10_within a2 (0 : Int32) (3 : Int32)).bind fun x11 => 
        (if x11 = 0 then
          f_X10_to_j17 a1 a2 c
        else
          (f_X2_run (c_d c) (c_m0 c)).bind fun x32 => 
            (lt (sc_d c x32) fun g32 => 
            (if a2.toInt = 0 then
              if inb a1 8 then 
                (some ((pD_when (c_d g32) a1.toNatClampNeg), g32))
              else none
            else
              if a2.toInt = 1 then
                if inb a1 8 then 
                  (some ((pD_pays (c_d g32) a1.toNatClampNeg), g32))
                else none
              else
                if a2.toInt = 2 then
                  if inb a1 8 then 
                    (some ((pD_got (c_d g32) a1.toNatClampNeg), g32))
                  else none
                else
                  if inb a1 8 then 
                    (some ((pD_served (c_d g32) a1.toNatClampNeg), g32))
                  else none))))
theorem cwd_X10_to : yX10_to.cls ≠ "java/lang/invoke/MethodHandle" ∧ yX10_to.cls ≠ "java/lang/invoke/VarHandle" ∧ (parseMethodDescriptor yX10_to.desc).map (fun d => d.parameters.length) = some 2 := by decide +kernel
set_option maxHeartbeats 4000000 in
set_option maxRecDepth 100000 in
theorem c_X10_to {Γ : GC} (hJ : GJ Γ) (hA : ∀ i, i < 66 → act Γ i) (l : Launch) (σ : GSt) (c : CSt) (a1 : Int32) (a2 : Int32) (x : Int32 × CSt) (hk : f_X10_to c a1 a2 = some x) : Mt Γ l yX10_to cX10_to 3 (some .int) 5 146 [.ref (ad Γ 63), .int a1, .int a2] (gC σ c) (some (.int x.1)) (gC σ x.2) := by
  refine y_enter (by decide) hJ (Nat.le_of_ble_eq_true rfl) [(0, .ref (ad Γ 63)), (1, .int a1), (2, .int a2)] rfl ?_
  intro p e s' m args below meth c' hC hr hlk
  have J17 : ∀ (gc : CSt), f_X10_to_j17 a1 a2 gc = some x → Y Γ (GA Γ) p l e ({ frames := 5, cells := 0, slots := 0, locals := 146 } : Room) s' m args below meth c' 0 0 (MQ below (Qg Γ (some (.int x.1)) (gC σ x.2)) args s' 0 0 (GA Γ)) 3 (gC σ gc) 17 [(0, .ref (ad Γ 63)), (1, .int a1), (2, .int a2)] [] := by
    intro gc hk
    refine y_aload_n hC dX10_to_17 0 rfl 18 rfl ?_
    refine y_bipush hC dX10_to_18 (v := (-2 : Int32)) (by decide) 20 rfl ?_
    obtain ⟨x20, hx20, hk⟩ := ob_bind hk
    refine y_callV hC 63 (hA 63 (by decide)) (cl_H (u := (c_h gc)) rfl) rfl (c_X10_refuse hJ hA l σ gc (-2 : Int32) x20 hx20) rfl ⟨w2_74, w1_1, cwd_X10_refuse, by decide, by decide⟩ w2_71 w2_73 ws1_0 rfl rfl (Nat.le_of_ble_eq_true rfl) (by decide) dX10_to_20 23 rfl (gC σ x20.2) rfl [.int x20.1] rfl ?_
    have e := Option.some.inj hk
    exact y_iret hC hr hlk (by rw [← e]) (by first | rfl | rw [← e]) dX10_to_23
  refine y_aload_n hC dX10_to_0 0 rfl 1 rfl ?_
  refine y_iload_n hC dX10_to_1 1 rfl 2 rfl ?_
  obtain ⟨x2, hx2, hk⟩ := ob_bind hk
  refine y_callV hC 63 (hA 63 (by decide)) (cl_H (u := (c_h c)) rfl) rfl (c_X10_isBuyer hJ hA l σ c a1 x2 hx2) rfl ⟨w3_189, w1_1, cwd_X10_isBuyer, by decide, by decide⟩ w3_186 w3_188 ws3_5 rfl rfl (Nat.le_of_ble_eq_true rfl) (by decide) dX10_to_2 5 rfl (gC σ c) rfl [.int x2] rfl ?_
  refine y_if_eq hC dX10_to_5 17 (by decide) 8 rfl (fun h5 => ?_) (fun h5 => ?_)
  · have hk := ob_pos h5 hk
    refine y_sub [0, 1, 2] rfl ?_
    exact J17 c hk
  · have hk := ob_neg h5 hk
    refine y_iload_n hC dX10_to_8 2 rfl 9 rfl ?_
    refine y_iconst hC dX10_to_9 (v := (0 : Int32)) (by decide) 10 rfl ?_
    refine y_iconst hC dX10_to_10 (v := (3 : Int32)) (by decide) 11 rfl ?_
    obtain ⟨x11, hx11, hk⟩ := ob_bind hk
    refine y_callS hC (c_X10_within hJ l (gC σ c) a2 (0 : Int32) (3 : Int32) x11 hx11) rfl ⟨w2_70, w1_1, cwd_X10_within, by decide, by decide⟩ w2_68 w2_69 rfl rfl (Nat.le_of_ble_eq_true rfl) (by decide) dX10_to_11 14 rfl (gC σ c) rfl [.int x11] rfl ?_
    refine y_if_ne hC dX10_to_14 24 (by decide) 17 rfl (fun h14 => ?_) (fun h14 => ?_)
    · have hk := ob_neg h14 hk
      refine y_aload_n hC dX10_to_24 0 rfl 25 rfl ?_
      refine y_get hC 63 (hA 63 (by decide)) (cl_H (u := (c_h c)) rfl) rfl inU10 4 (by decide) w2_31 rfl dX10_to_25 28 rfl ?_
      refine y_aload_n hC dX10_to_28 0 rfl 29 rfl ?_
      refine y_get hC 63 (hA 63 (by decide)) (cl_H (u := (c_h c)) rfl) rfl inU10 0 (by decide) w2_27 rfl dX10_to_29 32 rfl ?_
      obtain ⟨x32, hx32, hk⟩ := ob_bind hk
      obtain ⟨g32, eg32, hk⟩ := ob_lt hk
      refine y_callVN hC 40 (hA 40 (by decide)) (cl_D (u := (c_d c)) rfl) rfl (c_X2_run hJ hA l (gC σ c) 0 (by decide) (c_d c) (c_m0 c) x32 hx32) rfl ⟨w3_32, w1_4, cwd_X2_run, by decide, by decide⟩ w3_29 w3_31 ws2_6 rfl rfl (Nat.le_of_ble_eq_true rfl) (by decide) dX10_to_32 35 rfl (gC σ g32) (by subst eg32; rfl) [] rfl ?_
      refine y_iload_n hC dX10_to_35 2 rfl 36 rfl ?_
      by_cases h36_0 : a2.toInt = 0
      · have hk := ob_pos h36_0 hk
        refine y_tabI hC dX10_to_36 h36_0 (by decide) (by decide) rfl 64 (by decide) ?_
        refine y_aload_n hC dX10_to_64 0 rfl 65 rfl ?_
        refine y_get hC 63 (hA 63 (by decide)) (cl_H (u := (c_h g32)) rfl) rfl inU10 4 (by decide) w2_31 rfl dX10_to_65 68 rfl ?_
        refine y_getN hC 40 (hA 40 (by decide)) (cl_D (u := (c_d g32)) rfl) rfl inU2 1 (by decide) w1_170 rfl dX10_to_68 71 rfl ?_
        refine y_iload_n hC dX10_to_71 1 rfl 72 rfl ?_
        obtain ⟨h72, hk⟩ := ob_if hk
        refine y_iald hC 41 (hA 41 (by decide)) (cl_D_when (u := (c_d g32)) rfl) h72 dX10_to_72 73 rfl ?_
        have e := Option.some.inj hk
        exact y_iret hC hr hlk (by rw [← e]) (by first | rfl | rw [← e]) dX10_to_73
      · have hk := ob_neg h36_0 hk
        by_cases h36_1 : a2.toInt = 1
        · have hk := ob_pos h36_1 hk
          refine y_tabI hC dX10_to_36 h36_1 (by decide) (by decide) rfl 74 (by decide) ?_
          refine y_aload_n hC dX10_to_74 0 rfl 75 rfl ?_
          refine y_get hC 63 (hA 63 (by decide)) (cl_H (u := (c_h g32)) rfl) rfl inU10 4 (by decide) w2_31 rfl dX10_to_75 78 rfl ?_
          refine y_getN hC 40 (hA 40 (by decide)) (cl_D (u := (c_d g32)) rfl) rfl inU2 2 (by decide) w1_172 rfl dX10_to_78 81 rfl ?_
          refine y_iload_n hC dX10_to_81 1 rfl 82 rfl ?_
          obtain ⟨h82, hk⟩ := ob_if hk
          refine y_iald hC 42 (hA 42 (by decide)) (cl_D_pays (u := (c_d g32)) rfl) h82 dX10_to_82 83 rfl ?_
          have e := Option.some.inj hk
          exact y_iret hC hr hlk (by rw [← e]) (by first | rfl | rw [← e]) dX10_to_83
        · have hk := ob_neg h36_1 hk
          by_cases h36_2 : a2.toInt = 2
          · have hk := ob_pos h36_2 hk
            refine y_tabI hC dX10_to_36 h36_2 (by decide) (by decide) rfl 84 (by decide) ?_
            refine y_aload_n hC dX10_to_84 0 rfl 85 rfl ?_
            refine y_get hC 63 (hA 63 (by decide)) (cl_H (u := (c_h g32)) rfl) rfl inU10 4 (by decide) w2_31 rfl dX10_to_85 88 rfl ?_
            refine y_getN hC 40 (hA 40 (by decide)) (cl_D (u := (c_d g32)) rfl) rfl inU2 7 (by decide) w1_179 rfl dX10_to_88 91 rfl ?_
            refine y_iload_n hC dX10_to_91 1 rfl 92 rfl ?_
            obtain ⟨h92, hk⟩ := ob_if hk
            refine y_iald hC 47 (hA 47 (by decide)) (cl_D_got (u := (c_d g32)) rfl) h92 dX10_to_92 93 rfl ?_
            have e := Option.some.inj hk
            exact y_iret hC hr hlk (by rw [← e]) (by first | rfl | rw [← e]) dX10_to_93
          · have hk := ob_neg h36_2 hk
            refine y_tabO hC dX10_to_36 (by omega) 94 (by decide) ?_
            refine y_aload_n hC dX10_to_94 0 rfl 95 rfl ?_
            refine y_get hC 63 (hA 63 (by decide)) (cl_H (u := (c_h g32)) rfl) rfl inU10 4 (by decide) w2_31 rfl dX10_to_95 98 rfl ?_
            refine y_getN hC 40 (hA 40 (by decide)) (cl_D (u := (c_d g32)) rfl) rfl inU2 8 (by decide) w1_181 rfl dX10_to_98 101 rfl ?_
            refine y_iload_n hC dX10_to_101 1 rfl 102 rfl ?_
            obtain ⟨h102, hk⟩ := ob_if hk
            refine y_iald hC 48 (hA 48 (by decide)) (cl_D_served (u := (c_d g32)) rfl) h102 dX10_to_102 103 rfl ?_
            have e := Option.some.inj hk
            exact y_iret hC hr hlk (by rw [← e]) (by first | rfl | rw [← e]) dX10_to_103
    · have hk := ob_pos h14 hk
      refine y_sub [0, 1, 2] rfl ?_
      exact J17 c hk
def f_X10_best_j153 (a1 : Int32) (a2 : Int32) (a3 : Int32) (a4 : Int32) (v5 : Int32) (v6 : Int32) (gc : CSt) : Option (Int32 × CSt) :=
  if a4 = 0 then
    some (v5, gc)
  else
    some (v6, gc)
def f_X10_best_j147 (a1 : Int32) (a2 : Int32) (a3 : Int32) (a4 : Int32) (K53 : (Int32 × Int32 × Int32 × CSt) → Option (Int32 × CSt)) (v5 : Int32) (v6 : Int32) (v7 : Int32) (gc : CSt) : Option (Int32 × CSt) :=
  K53 (v5, v6, (v7 + (1 : Int32)), gc)
def f_X10_best_j141 (a1 : Int32) (a2 : Int32) (a3 : Int32) (a4 : Int32) (K53 : (Int32 × Int32 × Int32 × CSt) → Option (Int32 × CSt)) (K64 : (Int32 × Int32 × Int32 × Int32 × CSt) → Option (Int32 × CSt)) (v5 : Int32) (v6 : Int32) (v7 : Int32) (v8 : Int32) (gc : CSt) : Option (Int32 × CSt) :=
  K64 (v5, v6, v7, (v8 + (1 : Int32)), gc)
def f_X10_best_s64 (a1 : Int32) (a2 : Int32) (a3 : Int32) (a4 : Int32) (K53 : (Int32 × Int32 × Int32 × CSt) → Option (Int32 × CSt)) (K64 : (Int32 × Int32 × Int32 × Int32 × CSt) → Option (Int32 × CSt)) (q64 : Int32 × Int32 × Int32 × Int32 × CSt) : Option (Int32 × CSt) :=
  if (10 : Int32) < q64.2.2.2.1 then
    f_X10_best_j147 a1 a2 a3 a4 K53 q64.1 q64.2.1 q64.2.2.1 q64.2.2.2.2
  else
    (f_X3_setPricesFrom (c_m1 q64.2.2.2.2) (0 : Int32) a1).bind fun x77 => 
      (lt (sc_m1 q64.2.2.2.2 x77) fun g77 => 
      ((f_X3_setPricesFrom (c_m1 g77) q64.2.2.1 a2).bind fun x87 => 
      (lt (sc_m1 g77 x87) fun g87 => 
      ((f_X3_setPricesFrom (c_m1 g87) q64.2.2.2.1 a3).bind fun x97 => 
      (lt (sc_m1 g87 x97) fun g97 => 
      ((f_X2_run (c_d g97) (c_m1 g97)).bind fun x108 => 
      (lt (sc_d g97 x108) fun g108 => 
      (if (pD_takings (c_d g108)) ≤ q64.1 then
        f_X10_best_j141 a1 a2 a3 a4 K53 K64 q64.1 q64.2.1 q64.2.2.1 q64.2.2.2.1 g108
      else
        (f_X10_pairOf q64.2.2.1 q64.2.2.2.1).bind fun x136 => 
          (f_X10_best_j141 a1 a2 a3 a4 K53 K64 (pD_takings (c_d g108)) x136 q64.2.2.1 q64.2.2.2.1 g108)))))))))
def f_X10_best_s53 (a1 : Int32) (a2 : Int32) (a3 : Int32) (a4 : Int32) (K53 : (Int32 × Int32 × Int32 × CSt) → Option (Int32 × CSt)) (q53 : Int32 × Int32 × Int32 × CSt) : Option (Int32 × CSt) :=
  if (10 : Int32) < q53.2.2.1 then
    f_X10_best_j153 a1 a2 a3 a4 q53.1 q53.2.1 q53.2.2.2
  else
    lp (f_X10_best_s64 a1 a2 a3 a4 K53) 1000 (q53.1, q53.2.1, q53.2.2.1, q53.2.2.1, q53.2.2.2)
def f_X10_best_j26 (a1 : Int32) (a2 : Int32) (a3 : Int32) (a4 : Int32) (gc : CSt) : Option (Int32 × CSt) :=
  (f_X10_refuse gc (-2 : Int32)).bind fun x29 => 
    (some (x29.1, x29.2))
def f_X10_best (c : CSt) (a1 : Int32) (a2 : Int32) (a3 : Int32) (a4 : Int32) : Option (Int32 × CSt) :=
  (f_X10_fall a1 a2).bind fun x2 => 
    (if x2 = 0 then
      f_X10_best_j26 a1 a2 a3 a4 c
    else
      (f_X10_fall a2 a3).bind fun x10 => 
        (if x10 = 0 then
          f_X10_best_j26 a1 a2 a3 a4 c
        else
          (f_X10_within a4 (0 : Int32) (1 : Int32)).bind fun x20 => 
            (if x20 = 0 then
              f_X10_best_j26 a1 a2 a3 a4 c
            else
              (f_X3_becomes (c_m1 c) (c_m0 c)).bind fun x41 => 
                (lt (sc_m1 c x41) fun g41 => 
                (lp (f_X10_best_s53 a1 a2 a3 a4) 1000 ((-1 : Int32), (0 : Int32), (0 : Int32), g41))))))
theorem cwd_X10_best : yX10_best.cls ≠ "java/lang/invoke/MethodHandle" ∧ yX10_best.cls ≠ "java/lang/invoke/VarHandle" ∧ (parseMethodDescriptor yX10_best.desc).map (fun d => d.parameters.length) = some 4 := by decide +kernel
set_option maxHeartbeats 4000000 in
set_option maxRecDepth 100000 in
theorem c_X10_best {Γ : GC} (hJ : GJ Γ) (hA : ∀ i, i < 66 → act Γ i) (l : Launch) (σ : GSt) (c : CSt) (a1 : Int32) (a2 : Int32) (a3 : Int32) (a4 : Int32) (x : Int32 × CSt) (hk : f_X10_best c a1 a2 a3 a4 = some x) : Mt Γ l yX10_best cX10_best 9 (some .int) 5 146 [.ref (ad Γ 63), .int a1, .int a2, .int a3, .int a4] (gC σ c) (some (.int x.1)) (gC σ x.2) := by
  refine y_enter (by decide) hJ (Nat.le_of_ble_eq_true rfl) [(0, .ref (ad Γ 63)), (1, .int a1), (2, .int a2), (3, .int a3), (4, .int a4)] rfl ?_
  intro p e s' m args below meth c' hC hr hlk
  have J153 : ∀ (v5 : Int32) (v6 : Int32) (gc : CSt), f_X10_best_j153 a1 a2 a3 a4 v5 v6 gc = some x → Y Γ (GA Γ) p l e ({ frames := 5, cells := 0, slots := 0, locals := 146 } : Room) s' m args below meth c' 0 0 (MQ below (Qg Γ (some (.int x.1)) (gC σ x.2)) args s' 0 0 (GA Γ)) 9 (gC σ gc) 153 [(0, .ref (ad Γ 63)), (1, .int a1), (2, .int a2), (3, .int a3), (4, .int a4), (5, .int v5), (6, .int v6)] [] := by
    intro v5 v6 gc hk
    refine y_iload hC dX10_best_153 4 rfl 155 rfl ?_
    refine y_if_ne hC dX10_best_155 163 (by decide) 158 rfl (fun h155 => ?_) (fun h155 => ?_)
    · have hk := ob_neg h155 hk
      refine y_iload hC dX10_best_163 6 rfl 165 rfl ?_
      have e := Option.some.inj hk
      exact y_iret hC hr hlk (by rw [← e]) (by first | rfl | rw [← e]) dX10_best_165
    · have hk := ob_pos h155 hk
      refine y_iload hC dX10_best_158 5 rfl 160 rfl ?_
      refine y_goto hC dX10_best_160 165 (by decide) ?_
      have e := Option.some.inj hk
      exact y_iret hC hr hlk (by rw [← e]) (by first | rfl | rw [← e]) dX10_best_165
  have L53 : ∀ (n53 : Nat) (q53 : Int32 × Int32 × Int32 × CSt), lp (f_X10_best_s53 a1 a2 a3 a4) n53 q53 = some x → Y Γ (GA Γ) p l e ({ frames := 5, cells := 0, slots := 0, locals := 146 } : Room) s' m args below meth c' 0 0 (MQ below (Qg Γ (some (.int x.1)) (gC σ x.2)) args s' 0 0 (GA Γ)) 9 (gC σ q53.2.2.2) 53 [(0, .ref (ad Γ 63)), (1, .int a1), (2, .int a2), (3, .int a3), (4, .int a4), (5, .int q53.1), (6, .int q53.2.1), (7, .int q53.2.2.1)] [] := by
    intro n53
    induction n53 with
    | zero => intro q53 hk; exact (lp_zero hk).elim
    | succ n53 ih53 =>
      intro q53 hk
      have hk : f_X10_best_s53 a1 a2 a3 a4 (lp (f_X10_best_s53 a1 a2 a3 a4) n53) q53 = some x := (lp_succ _ _ _).symm.trans hk
      have J147 : ∀ (v5 : Int32) (v6 : Int32) (v7 : Int32) (gc : CSt), f_X10_best_j147 a1 a2 a3 a4 (lp (f_X10_best_s53 a1 a2 a3 a4) n53) v5 v6 v7 gc = some x → Y Γ (GA Γ) p l e ({ frames := 5, cells := 0, slots := 0, locals := 146 } : Room) s' m args below meth c' 0 0 (MQ below (Qg Γ (some (.int x.1)) (gC σ x.2)) args s' 0 0 (GA Γ)) 9 (gC σ gc) 147 [(0, .ref (ad Γ 63)), (1, .int a1), (2, .int a2), (3, .int a3), (4, .int a4), (5, .int v5), (6, .int v6), (7, .int v7)] [] := by
        intro v5 v6 v7 gc hk
        refine y_iinc hC dX10_best_147 7 rfl (v := (v7 + (1 : Int32))) rfl (by decide) [(7, .int (v7 + (1 : Int32))), (0, .ref (ad Γ 63)), (1, .int a1), (2, .int a2), (3, .int a3), (4, .int a4), (5, .int v5), (6, .int v6)] rfl 150 rfl ?_
        refine y_goto hC dX10_best_150 53 (by decide) ?_
        refine y_sub [1, 2, 3, 4, 5, 6, 7, 0] rfl ?_
        exact ih53 (v5, v6, (v7 + (1 : Int32)), gc) hk
      have L64 : ∀ (n64 : Nat) (q64 : Int32 × Int32 × Int32 × Int32 × CSt), lp (f_X10_best_s64 a1 a2 a3 a4 (lp (f_X10_best_s53 a1 a2 a3 a4) n53)) n64 q64 = some x → Y Γ (GA Γ) p l e ({ frames := 5, cells := 0, slots := 0, locals := 146 } : Room) s' m args below meth c' 0 0 (MQ below (Qg Γ (some (.int x.1)) (gC σ x.2)) args s' 0 0 (GA Γ)) 9 (gC σ q64.2.2.2.2) 64 [(0, .ref (ad Γ 63)), (1, .int a1), (2, .int a2), (3, .int a3), (4, .int a4), (5, .int q64.1), (6, .int q64.2.1), (7, .int q64.2.2.1), (8, .int q64.2.2.2.1)] [] := by
        intro n64
        induction n64 with
        | zero => intro q64 hk; exact (lp_zero hk).elim
        | succ n64 ih64 =>
          intro q64 hk
          have hk : f_X10_best_s64 a1 a2 a3 a4 (lp (f_X10_best_s53 a1 a2 a3 a4) n53) (lp (f_X10_best_s64 a1 a2 a3 a4 (lp (f_X10_best_s53 a1 a2 a3 a4) n53)) n64) q64 = some x := (lp_succ _ _ _).symm.trans hk
          have J141 : ∀ (v5 : Int32) (v6 : Int32) (v7 : Int32) (v8 : Int32) (gc : CSt), f_X10_best_j141 a1 a2 a3 a4 (lp (f_X10_best_s53 a1 a2 a3 a4) n53) (lp (f_X10_best_s64 a1 a2 a3 a4 (lp (f_X10_best_s53 a1 a2 a3 a4) n53)) n64) v5 v6 v7 v8 gc = some x → Y Γ (GA Γ) p l e ({ frames := 5, cells := 0, slots := 0, locals := 146 } : Room) s' m args below meth c' 0 0 (MQ below (Qg Γ (some (.int x.1)) (gC σ x.2)) args s' 0 0 (GA Γ)) 9 (gC σ gc) 141 [(0, .ref (ad Γ 63)), (1, .int a1), (2, .int a2), (3, .int a3), (4, .int a4), (5, .int v5), (6, .int v6), (7, .int v7), (8, .int v8)] [] := by
            intro v5 v6 v7 v8 gc hk
            refine y_iinc hC dX10_best_141 8 rfl (v := (v8 + (1 : Int32))) rfl (by decide) [(8, .int (v8 + (1 : Int32))), (0, .ref (ad Γ 63)), (1, .int a1), (2, .int a2), (3, .int a3), (4, .int a4), (5, .int v5), (6, .int v6), (7, .int v7)] rfl 144 rfl ?_
            refine y_goto hC dX10_best_144 64 (by decide) ?_
            refine y_sub [1, 2, 3, 4, 5, 6, 7, 8, 0] rfl ?_
            exact ih64 (v5, v6, v7, (v8 + (1 : Int32)), gc) hk
          refine y_iload hC dX10_best_64 8 rfl 66 rfl ?_
          refine y_bipush hC dX10_best_66 (v := (10 : Int32)) (by decide) 68 rfl ?_
          refine y_icmp_gt hC dX10_best_68 147 (by decide) 71 rfl (fun h68 => ?_) (fun h68 => ?_)
          · have hk := ob_pos h68 hk
            refine y_sub [0, 1, 2, 3, 4, 5, 6, 7] rfl ?_
            exact J147 q64.1 q64.2.1 q64.2.2.1 q64.2.2.2.2 hk
          · have hk := ob_neg h68 hk
            refine y_aload_n hC dX10_best_71 0 rfl 72 rfl ?_
            refine y_get hC 63 (hA 63 (by decide)) (cl_H (u := (c_h q64.2.2.2.2)) rfl) rfl inU10 1 (by decide) w2_28 rfl dX10_best_72 75 rfl ?_
            refine y_iconst hC dX10_best_75 (v := (0 : Int32)) (by decide) 76 rfl ?_
            refine y_iload_n hC dX10_best_76 1 rfl 77 rfl ?_
            obtain ⟨x77, hx77, hk⟩ := ob_bind hk
            obtain ⟨g77, eg77, hk⟩ := ob_lt hk
            refine y_callVN hC (10 * 1) (hA 10 (by decide)) (cl_M (k := 1) (mm := (q64.2.2.2.2).2.1) (u := (c_m1 q64.2.2.2.2)) (by decide) rfl) rfl (c_X3_setPricesFrom hJ hA l (gC σ q64.2.2.2.2) 1 (by decide) (c_m1 q64.2.2.2.2) (0 : Int32) a1 x77 hx77) rfl ⟨w2_97, w1_2, cwd_X3_setPricesFrom, by decide, by decide⟩ w2_94 w2_96 ws1_3 rfl rfl (Nat.le_of_ble_eq_true rfl) (by decide) dX10_best_77 80 rfl (gC σ g77) (by subst eg77; rfl) [] rfl ?_
            refine y_aload_n hC dX10_best_80 0 rfl 81 rfl ?_
            refine y_get hC 63 (hA 63 (by decide)) (cl_H (u := (c_h g77)) rfl) rfl inU10 1 (by decide) w2_28 rfl dX10_best_81 84 rfl ?_
            refine y_iload hC dX10_best_84 7 rfl 86 rfl ?_
            refine y_iload_n hC dX10_best_86 2 rfl 87 rfl ?_
            obtain ⟨x87, hx87, hk⟩ := ob_bind hk
            obtain ⟨g87, eg87, hk⟩ := ob_lt hk
            refine y_callVN hC (10 * 1) (hA 10 (by decide)) (cl_M (k := 1) (mm := (g77).2.1) (u := (c_m1 g77)) (by decide) rfl) rfl (c_X3_setPricesFrom hJ hA l (gC σ g77) 1 (by decide) (c_m1 g77) q64.2.2.1 a2 x87 hx87) rfl ⟨w2_97, w1_2, cwd_X3_setPricesFrom, by decide, by decide⟩ w2_94 w2_96 ws1_3 rfl rfl (Nat.le_of_ble_eq_true rfl) (by decide) dX10_best_87 90 rfl (gC σ g87) (by subst eg87; rfl) [] rfl ?_
            refine y_aload_n hC dX10_best_90 0 rfl 91 rfl ?_
            refine y_get hC 63 (hA 63 (by decide)) (cl_H (u := (c_h g87)) rfl) rfl inU10 1 (by decide) w2_28 rfl dX10_best_91 94 rfl ?_
            refine y_iload hC dX10_best_94 8 rfl 96 rfl ?_
            refine y_iload_n hC dX10_best_96 3 rfl 97 rfl ?_
            obtain ⟨x97, hx97, hk⟩ := ob_bind hk
            obtain ⟨g97, eg97, hk⟩ := ob_lt hk
            refine y_callVN hC (10 * 1) (hA 10 (by decide)) (cl_M (k := 1) (mm := (g87).2.1) (u := (c_m1 g87)) (by decide) rfl) rfl (c_X3_setPricesFrom hJ hA l (gC σ g87) 1 (by decide) (c_m1 g87) q64.2.2.2.1 a3 x97 hx97) rfl ⟨w2_97, w1_2, cwd_X3_setPricesFrom, by decide, by decide⟩ w2_94 w2_96 ws1_3 rfl rfl (Nat.le_of_ble_eq_true rfl) (by decide) dX10_best_97 100 rfl (gC σ g97) (by subst eg97; rfl) [] rfl ?_
            refine y_aload_n hC dX10_best_100 0 rfl 101 rfl ?_
            refine y_get hC 63 (hA 63 (by decide)) (cl_H (u := (c_h g97)) rfl) rfl inU10 4 (by decide) w2_31 rfl dX10_best_101 104 rfl ?_
            refine y_aload_n hC dX10_best_104 0 rfl 105 rfl ?_
            refine y_get hC 63 (hA 63 (by decide)) (cl_H (u := (c_h g97)) rfl) rfl inU10 1 (by decide) w2_28 rfl dX10_best_105 108 rfl ?_
            obtain ⟨x108, hx108, hk⟩ := ob_bind hk
            obtain ⟨g108, eg108, hk⟩ := ob_lt hk
            refine y_callVN hC 40 (hA 40 (by decide)) (cl_D (u := (c_d g97)) rfl) rfl (c_X2_run hJ hA l (gC σ g97) 1 (by decide) (c_d g97) (c_m1 g97) x108 hx108) rfl ⟨w3_32, w1_4, cwd_X2_run, by decide, by decide⟩ w3_29 w3_31 ws2_6 rfl rfl (Nat.le_of_ble_eq_true rfl) (by decide) dX10_best_108 111 rfl (gC σ g108) (by subst eg108; rfl) [] rfl ?_
            refine y_aload_n hC dX10_best_111 0 rfl 112 rfl ?_
            refine y_get hC 63 (hA 63 (by decide)) (cl_H (u := (c_h g108)) rfl) rfl inU10 4 (by decide) w2_31 rfl dX10_best_112 115 rfl ?_
            refine y_getN hC 40 (hA 40 (by decide)) (cl_D (u := (c_d g108)) rfl) rfl inU2 10 (by decide) w1_186 rfl dX10_best_115 118 rfl ?_
            refine y_iload hC dX10_best_118 5 rfl 120 rfl ?_
            refine y_icmp_le hC dX10_best_120 141 (by decide) 123 rfl (fun h120 => ?_) (fun h120 => ?_)
            · have hk := ob_pos h120 hk
              refine y_sub [0, 1, 2, 3, 4, 5, 6, 7, 8] rfl ?_
              exact J141 q64.1 q64.2.1 q64.2.2.1 q64.2.2.2.1 g108 hk
            · have hk := ob_neg h120 hk
              refine y_aload_n hC dX10_best_123 0 rfl 124 rfl ?_
              refine y_get hC 63 (hA 63 (by decide)) (cl_H (u := (c_h g108)) rfl) rfl inU10 4 (by decide) w2_31 rfl dX10_best_124 127 rfl ?_
              refine y_getN hC 40 (hA 40 (by decide)) (cl_D (u := (c_d g108)) rfl) rfl inU2 10 (by decide) w1_186 rfl dX10_best_127 130 rfl ?_
              refine y_istore hC dX10_best_130 (by decide) [(5, .int (pD_takings (c_d g108))), (0, .ref (ad Γ 63)), (1, .int a1), (2, .int a2), (3, .int a3), (4, .int a4), (6, .int q64.2.1), (7, .int q64.2.2.1), (8, .int q64.2.2.2.1)] rfl 132 rfl ?_
              refine y_iload hC dX10_best_132 7 rfl 134 rfl ?_
              refine y_iload hC dX10_best_134 8 rfl 136 rfl ?_
              obtain ⟨x136, hx136, hk⟩ := ob_bind hk
              refine y_callS hC (c_X10_pairOf hJ l (gC σ g108) q64.2.2.1 q64.2.2.2.1 x136 hx136) rfl ⟨w3_208, w1_1, cwd_X10_pairOf, by decide, by decide⟩ w3_206 w3_207 rfl rfl (Nat.le_of_ble_eq_true rfl) (by decide) dX10_best_136 139 rfl (gC σ g108) rfl [.int x136] rfl ?_
              refine y_istore hC dX10_best_139 (by decide) [(6, .int x136), (5, .int (pD_takings (c_d g108))), (0, .ref (ad Γ 63)), (1, .int a1), (2, .int a2), (3, .int a3), (4, .int a4), (7, .int q64.2.2.1), (8, .int q64.2.2.2.1)] rfl 141 rfl ?_
              refine y_sub [2, 3, 4, 5, 6, 1, 0, 7, 8] rfl ?_
              exact J141 (pD_takings (c_d g108)) x136 q64.2.2.1 q64.2.2.2.1 g108 hk
      refine y_iload hC dX10_best_53 7 rfl 55 rfl ?_
      refine y_bipush hC dX10_best_55 (v := (10 : Int32)) (by decide) 57 rfl ?_
      refine y_icmp_gt hC dX10_best_57 153 (by decide) 60 rfl (fun h57 => ?_) (fun h57 => ?_)
      · have hk := ob_pos h57 hk
        refine y_sub [0, 1, 2, 3, 4, 5, 6] rfl ?_
        exact J153 q53.1 q53.2.1 q53.2.2.2 hk
      · have hk := ob_neg h57 hk
        refine y_iload hC dX10_best_60 7 rfl 62 rfl ?_
        refine y_istore hC dX10_best_62 (by decide) [(8, .int q53.2.2.1), (0, .ref (ad Γ 63)), (1, .int a1), (2, .int a2), (3, .int a3), (4, .int a4), (5, .int q53.1), (6, .int q53.2.1), (7, .int q53.2.2.1)] rfl 64 rfl ?_
        refine y_sub [1, 2, 3, 4, 5, 6, 7, 8, 0] rfl ?_
        exact L64 1000 (q53.1, q53.2.1, q53.2.2.1, q53.2.2.1, q53.2.2.2) hk
  have J26 : ∀ (gc : CSt), f_X10_best_j26 a1 a2 a3 a4 gc = some x → Y Γ (GA Γ) p l e ({ frames := 5, cells := 0, slots := 0, locals := 146 } : Room) s' m args below meth c' 0 0 (MQ below (Qg Γ (some (.int x.1)) (gC σ x.2)) args s' 0 0 (GA Γ)) 9 (gC σ gc) 26 [(0, .ref (ad Γ 63)), (1, .int a1), (2, .int a2), (3, .int a3), (4, .int a4)] [] := by
    intro gc hk
    refine y_aload_n hC dX10_best_26 0 rfl 27 rfl ?_
    refine y_bipush hC dX10_best_27 (v := (-2 : Int32)) (by decide) 29 rfl ?_
    obtain ⟨x29, hx29, hk⟩ := ob_bind hk
    refine y_callV hC 63 (hA 63 (by decide)) (cl_H (u := (c_h gc)) rfl) rfl (c_X10_refuse hJ hA l σ gc (-2 : Int32) x29 hx29) rfl ⟨w2_74, w1_1, cwd_X10_refuse, by decide, by decide⟩ w2_71 w2_73 ws1_0 rfl rfl (Nat.le_of_ble_eq_true rfl) (by decide) dX10_best_29 32 rfl (gC σ x29.2) rfl [.int x29.1] rfl ?_
    have e := Option.some.inj hk
    exact y_iret hC hr hlk (by rw [← e]) (by first | rfl | rw [← e]) dX10_best_32
  refine y_iload_n hC dX10_best_0 1 rfl 1 rfl ?_
  refine y_iload_n hC dX10_best_1 2 rfl 2 rfl ?_
  obtain ⟨x2, hx2, hk⟩ := ob_bind hk
  refine y_callS hC (c_X10_fall hJ l (gC σ c) a1 a2 x2 hx2) rfl ⟨w3_205, w1_1, cwd_X10_fall, by decide, by decide⟩ w3_203 w3_204 rfl rfl (Nat.le_of_ble_eq_true rfl) (by decide) dX10_best_2 5 rfl (gC σ c) rfl [.int x2] rfl ?_
  refine y_if_eq hC dX10_best_5 26 (by decide) 8 rfl (fun h5 => ?_) (fun h5 => ?_)
  · have hk := ob_pos h5 hk
    refine y_sub [0, 1, 2, 3, 4] rfl ?_
    exact J26 c hk
  · have hk := ob_neg h5 hk
    refine y_iload_n hC dX10_best_8 2 rfl 9 rfl ?_
    refine y_iload_n hC dX10_best_9 3 rfl 10 rfl ?_
    obtain ⟨x10, hx10, hk⟩ := ob_bind hk
    refine y_callS hC (c_X10_fall hJ l (gC σ c) a2 a3 x10 hx10) rfl ⟨w3_205, w1_1, cwd_X10_fall, by decide, by decide⟩ w3_203 w3_204 rfl rfl (Nat.le_of_ble_eq_true rfl) (by decide) dX10_best_10 13 rfl (gC σ c) rfl [.int x10] rfl ?_
    refine y_if_eq hC dX10_best_13 26 (by decide) 16 rfl (fun h13 => ?_) (fun h13 => ?_)
    · have hk := ob_pos h13 hk
      refine y_sub [0, 1, 2, 3, 4] rfl ?_
      exact J26 c hk
    · have hk := ob_neg h13 hk
      refine y_iload hC dX10_best_16 4 rfl 18 rfl ?_
      refine y_iconst hC dX10_best_18 (v := (0 : Int32)) (by decide) 19 rfl ?_
      refine y_iconst hC dX10_best_19 (v := (1 : Int32)) (by decide) 20 rfl ?_
      obtain ⟨x20, hx20, hk⟩ := ob_bind hk
      refine y_callS hC (c_X10_within hJ l (gC σ c) a4 (0 : Int32) (1 : Int32) x20 hx20) rfl ⟨w2_70, w1_1, cwd_X10_within, by decide, by decide⟩ w2_68 w2_69 rfl rfl (Nat.le_of_ble_eq_true rfl) (by decide) dX10_best_20 23 rfl (gC σ c) rfl [.int x20] rfl ?_
      refine y_if_ne hC dX10_best_23 33 (by decide) 26 rfl (fun h23 => ?_) (fun h23 => ?_)
      · have hk := ob_neg h23 hk
        refine y_aload_n hC dX10_best_33 0 rfl 34 rfl ?_
        refine y_get hC 63 (hA 63 (by decide)) (cl_H (u := (c_h c)) rfl) rfl inU10 1 (by decide) w2_28 rfl dX10_best_34 37 rfl ?_
        refine y_aload_n hC dX10_best_37 0 rfl 38 rfl ?_
        refine y_get hC 63 (hA 63 (by decide)) (cl_H (u := (c_h c)) rfl) rfl inU10 0 (by decide) w2_27 rfl dX10_best_38 41 rfl ?_
        obtain ⟨x41, hx41, hk⟩ := ob_bind hk
        obtain ⟨g41, eg41, hk⟩ := ob_lt hk
        refine y_callVN hC (10 * 1) (hA 10 (by decide)) (cl_M (k := 1) (mm := (c).2.1) (u := (c_m1 c)) (by decide) rfl) rfl (c_X3_becomes hJ hA l (gC σ c) 1 (by decide) 0 (by decide) (by decide) (c_m1 c) (c_m0 c) x41 hx41) rfl ⟨w3_16, w1_2, cwd_X3_becomes, by decide, by decide⟩ w3_13 w3_15 ws2_4 rfl rfl (Nat.le_of_ble_eq_true rfl) (by decide) dX10_best_41 44 rfl (gC σ g41) (by subst eg41; rfl) [] rfl ?_
        refine y_iconst hC dX10_best_44 (v := (-1 : Int32)) (by decide) 45 rfl ?_
        refine y_istore hC dX10_best_45 (by decide) [(5, .int (-1 : Int32)), (0, .ref (ad Γ 63)), (1, .int a1), (2, .int a2), (3, .int a3), (4, .int a4)] rfl 47 rfl ?_
        refine y_iconst hC dX10_best_47 (v := (0 : Int32)) (by decide) 48 rfl ?_
        refine y_istore hC dX10_best_48 (by decide) [(6, .int (0 : Int32)), (5, .int (-1 : Int32)), (0, .ref (ad Γ 63)), (1, .int a1), (2, .int a2), (3, .int a3), (4, .int a4)] rfl 50 rfl ?_
        refine y_iconst hC dX10_best_50 (v := (0 : Int32)) (by decide) 51 rfl ?_
        refine y_istore hC dX10_best_51 (by decide) [(7, .int (0 : Int32)), (6, .int (0 : Int32)), (5, .int (-1 : Int32)), (0, .ref (ad Γ 63)), (1, .int a1), (2, .int a2), (3, .int a3), (4, .int a4)] rfl 53 rfl ?_
        refine y_sub [3, 4, 5, 6, 7, 2, 1, 0] rfl ?_
        exact L53 1000 ((-1 : Int32), (0 : Int32), (0 : Int32), g41) hk
      · have hk := ob_pos h23 hk
        refine y_sub [0, 1, 2, 3, 4] rfl ?_
        exact J26 c hk
def f_X10_brings_j102 (a1 : Int32) (K46 : (Int32 × Int32 × Int32 × CSt) → Option (Int32 × CSt)) (v2 : Int32) (v3 : Int32) (v4 : Int32) (gc : CSt) : Option (Int32 × CSt) :=
  K46 (v2, v3, (v4 + (1 : Int32)), gc)
def f_X10_brings_s46 (a1 : Int32) (K46 : (Int32 × Int32 × Int32 × CSt) → Option (Int32 × CSt)) (q46 : Int32 × Int32 × Int32 × CSt) : Option (Int32 × CSt) :=
  if (60 : Int32) < q46.2.2.1 then
    some (q46.1, q46.2.2.2)
  else
    lt (sc_m1 q46.2.2.2 (sM_punnets (c_m1 q46.2.2.2) q46.2.2.1)) fun g59 => 
      ((f_X2_walk (c_d g59) (c_m1 g59) (255 : Int32)).bind fun x73 => 
      (lt (sc_d g59 x73) fun g73 => 
      (lt ((pD_takings (c_d g73)) - (a1 * q46.2.2.1)) fun n88 => 
      (if n88 ≤ q46.2.1 then
        f_X10_brings_j102 a1 K46 q46.1 q46.2.1 q46.2.2.1 g73
      else
        f_X10_brings_j102 a1 K46 q46.2.2.1 n88 q46.2.2.1 g73))))
def f_X10_brings (c : CSt) (a1 : Int32) : Option (Int32 × CSt) :=
  (f_X10_within a1 (0 : Int32) (99 : Int32)).bind fun x4 => 
    (if x4 = 0 then
      (f_X10_refuse c (-2 : Int32)).bind fun x13 => 
        (some (x13.1, x13.2))
    else
      (f_X3_becomes (c_m1 c) (c_m0 c)).bind fun x25 => 
        (lt (sc_m1 c x25) fun g25 => 
        ((f_X2_plan (c_d g25) (c_m1 g25)).bind fun x36 => 
        (lt (sc_d g25 x36) fun g36 => 
        (lp (f_X10_brings_s46 a1) 1000 ((0 : Int32), (0 : Int32), (0 : Int32), g36))))))
theorem cwd_X10_brings : yX10_brings.cls ≠ "java/lang/invoke/MethodHandle" ∧ yX10_brings.cls ≠ "java/lang/invoke/VarHandle" ∧ (parseMethodDescriptor yX10_brings.desc).map (fun d => d.parameters.length) = some 1 := by decide +kernel
set_option maxHeartbeats 4000000 in
set_option maxRecDepth 100000 in
theorem c_X10_brings {Γ : GC} (hJ : GJ Γ) (hA : ∀ i, i < 66 → act Γ i) (l : Launch) (σ : GSt) (c : CSt) (a1 : Int32) (x : Int32 × CSt) (hk : f_X10_brings c a1 = some x) : Mt Γ l yX10_brings cX10_brings 6 (some .int) 4 125 [.ref (ad Γ 63), .int a1] (gC σ c) (some (.int x.1)) (gC σ x.2) := by
  refine y_enter (by decide) hJ (Nat.le_of_ble_eq_true rfl) [(0, .ref (ad Γ 63)), (1, .int a1)] rfl ?_
  intro p e s' m args below meth c' hC hr hlk
  have L46 : ∀ (n46 : Nat) (q46 : Int32 × Int32 × Int32 × CSt), lp (f_X10_brings_s46 a1) n46 q46 = some x → Y Γ (GA Γ) p l e ({ frames := 4, cells := 0, slots := 0, locals := 125 } : Room) s' m args below meth c' 0 0 (MQ below (Qg Γ (some (.int x.1)) (gC σ x.2)) args s' 0 0 (GA Γ)) 6 (gC σ q46.2.2.2) 46 [(0, .ref (ad Γ 63)), (1, .int a1), (2, .int q46.1), (3, .int q46.2.1), (4, .int q46.2.2.1)] [] := by
    intro n46
    induction n46 with
    | zero => intro q46 hk; exact (lp_zero hk).elim
    | succ n46 ih46 =>
      intro q46 hk
      have hk : f_X10_brings_s46 a1 (lp (f_X10_brings_s46 a1) n46) q46 = some x := (lp_succ _ _ _).symm.trans hk
      have J102 : ∀ (v2 : Int32) (v3 : Int32) (v4 : Int32) (gc : CSt), f_X10_brings_j102 a1 (lp (f_X10_brings_s46 a1) n46) v2 v3 v4 gc = some x → Y Γ (GA Γ) p l e ({ frames := 4, cells := 0, slots := 0, locals := 125 } : Room) s' m args below meth c' 0 0 (MQ below (Qg Γ (some (.int x.1)) (gC σ x.2)) args s' 0 0 (GA Γ)) 6 (gC σ gc) 102 [(0, .ref (ad Γ 63)), (1, .int a1), (2, .int v2), (3, .int v3), (4, .int v4)] [] := by
        intro v2 v3 v4 gc hk
        refine y_iinc hC dX10_brings_102 4 rfl (v := (v4 + (1 : Int32))) rfl (by decide) [(4, .int (v4 + (1 : Int32))), (0, .ref (ad Γ 63)), (1, .int a1), (2, .int v2), (3, .int v3)] rfl 105 rfl ?_
        refine y_goto hC dX10_brings_105 46 (by decide) ?_
        refine y_sub [1, 2, 3, 4, 0] rfl ?_
        exact ih46 (v2, v3, (v4 + (1 : Int32)), gc) hk
      refine y_iload hC dX10_brings_46 4 rfl 48 rfl ?_
      refine y_bipush hC dX10_brings_48 (v := (60 : Int32)) (by decide) 50 rfl ?_
      refine y_icmp_gt hC dX10_brings_50 108 (by decide) 53 rfl (fun h50 => ?_) (fun h50 => ?_)
      · have hk := ob_pos h50 hk
        refine y_iload_n hC dX10_brings_108 2 rfl 109 rfl ?_
        have e := Option.some.inj hk
        exact y_iret hC hr hlk (by rw [← e]) (by first | rfl | rw [← e]) dX10_brings_109
      · have hk := ob_neg h50 hk
        refine y_aload_n hC dX10_brings_53 0 rfl 54 rfl ?_
        refine y_get hC 63 (hA 63 (by decide)) (cl_H (u := (c_h q46.2.2.2)) rfl) rfl inU10 1 (by decide) w2_28 rfl dX10_brings_54 57 rfl ?_
        refine y_iload hC dX10_brings_57 4 rfl 59 rfl ?_
        obtain ⟨g59, eg59, hk⟩ := ob_lt hk
        refine y_putN hC (10 * 1) (hA 10 (by decide)) (cl_M (k := 1) (mm := (q46.2.2.2).2.1) (u := (c_m1 q46.2.2.2)) (by decide) rfl) rfl inU3 tyX3_ok nmX3 0 (by decide) w1_39 rfl rfl rfl rfl (Nat.le_of_ble_eq_true rfl) (gC σ g59) (by subst eg59; exact (cu_M_punnets (v := q46.2.2.1) (k := 1) (mm := (q46.2.2.2).2.1) (u := (c_m1 q46.2.2.2)) (by decide) rfl rfl)) dX10_brings_59 62 rfl ?_
        refine y_aload_n hC dX10_brings_62 0 rfl 63 rfl ?_
        refine y_get hC 63 (hA 63 (by decide)) (cl_H (u := (c_h g59)) rfl) rfl inU10 4 (by decide) w2_31 rfl dX10_brings_63 66 rfl ?_
        refine y_aload_n hC dX10_brings_66 0 rfl 67 rfl ?_
        refine y_get hC 63 (hA 63 (by decide)) (cl_H (u := (c_h g59)) rfl) rfl inU10 1 (by decide) w2_28 rfl dX10_brings_67 70 rfl ?_
        refine y_sipush hC dX10_brings_70 (v := (255 : Int32)) (by decide) 73 rfl ?_
        obtain ⟨x73, hx73, hk⟩ := ob_bind hk
        obtain ⟨g73, eg73, hk⟩ := ob_lt hk
        refine y_callVN hC 40 (hA 40 (by decide)) (cl_D (u := (c_d g59)) rfl) rfl (c_X2_walk hJ hA l (gC σ g59) 1 (by decide) (c_d g59) (c_m1 g59) (255 : Int32) x73 hx73) rfl ⟨w3_136, w1_4, cwd_X2_walk, by decide, by decide⟩ w3_213 w3_135 ws2_12 rfl rfl (Nat.le_of_ble_eq_true rfl) (by decide) dX10_brings_73 76 rfl (gC σ g73) (by subst eg73; rfl) [] rfl ?_
        refine y_aload_n hC dX10_brings_76 0 rfl 77 rfl ?_
        refine y_get hC 63 (hA 63 (by decide)) (cl_H (u := (c_h g73)) rfl) rfl inU10 4 (by decide) w2_31 rfl dX10_brings_77 80 rfl ?_
        refine y_getN hC 40 (hA 40 (by decide)) (cl_D (u := (c_d g73)) rfl) rfl inU2 10 (by decide) w1_186 rfl dX10_brings_80 83 rfl ?_
        refine y_iload_n hC dX10_brings_83 1 rfl 84 rfl ?_
        refine y_iload hC dX10_brings_84 4 rfl 86 rfl ?_
        refine y_imul hC dX10_brings_86 87 rfl ?_
        refine y_isub hC dX10_brings_87 88 rfl ?_
        obtain ⟨n88, en88, hk⟩ := ob_lt hk
        refine y_topi en88 ?_
        refine y_istore hC dX10_brings_88 (by decide) [(5, .int n88), (0, .ref (ad Γ 63)), (1, .int a1), (2, .int q46.1), (3, .int q46.2.1), (4, .int q46.2.2.1)] rfl 90 rfl ?_
        refine y_iload hC dX10_brings_90 0 rfl 92 rfl ?_
        refine y_iload_n hC dX10_brings_92 4 rfl 93 rfl ?_
        refine y_icmp_le hC dX10_brings_93 102 (by decide) 96 rfl (fun h93 => ?_) (fun h93 => ?_)
        · have hk := ob_pos h93 hk
          refine y_sub [1, 2, 3, 4, 5] rfl ?_
          exact J102 q46.1 q46.2.1 q46.2.2.1 g73 hk
        · have hk := ob_neg h93 hk
          refine y_iload hC dX10_brings_96 0 rfl 98 rfl ?_
          refine y_istore_n hC dX10_brings_98 (by decide) [(3, .int n88), (5, .int n88), (0, .ref (ad Γ 63)), (1, .int a1), (2, .int q46.1), (4, .int q46.2.2.1)] rfl 99 rfl ?_
          refine y_iload hC dX10_brings_99 5 rfl 101 rfl ?_
          refine y_istore_n hC dX10_brings_101 (by decide) [(2, .int q46.2.2.1), (3, .int n88), (5, .int n88), (0, .ref (ad Γ 63)), (1, .int a1), (4, .int q46.2.2.1)] rfl 102 rfl ?_
          refine y_sub [3, 4, 0, 1, 5] rfl ?_
          exact J102 q46.2.2.1 n88 q46.2.2.1 g73 hk
  refine y_iload_n hC dX10_brings_0 1 rfl 1 rfl ?_
  refine y_iconst hC dX10_brings_1 (v := (0 : Int32)) (by decide) 2 rfl ?_
  refine y_bipush hC dX10_brings_2 (v := (99 : Int32)) (by decide) 4 rfl ?_
  obtain ⟨x4, hx4, hk⟩ := ob_bind hk
  refine y_callS hC (c_X10_within hJ l (gC σ c) a1 (0 : Int32) (99 : Int32) x4 hx4) rfl ⟨w2_70, w1_1, cwd_X10_within, by decide, by decide⟩ w2_68 w2_69 rfl rfl (Nat.le_of_ble_eq_true rfl) (by decide) dX10_brings_4 7 rfl (gC σ c) rfl [.int x4] rfl ?_
  refine y_if_ne hC dX10_brings_7 17 (by decide) 10 rfl (fun h7 => ?_) (fun h7 => ?_)
  · have hk := ob_neg h7 hk
    refine y_aload_n hC dX10_brings_17 0 rfl 18 rfl ?_
    refine y_get hC 63 (hA 63 (by decide)) (cl_H (u := (c_h c)) rfl) rfl inU10 1 (by decide) w2_28 rfl dX10_brings_18 21 rfl ?_
    refine y_aload_n hC dX10_brings_21 0 rfl 22 rfl ?_
    refine y_get hC 63 (hA 63 (by decide)) (cl_H (u := (c_h c)) rfl) rfl inU10 0 (by decide) w2_27 rfl dX10_brings_22 25 rfl ?_
    obtain ⟨x25, hx25, hk⟩ := ob_bind hk
    obtain ⟨g25, eg25, hk⟩ := ob_lt hk
    refine y_callVN hC (10 * 1) (hA 10 (by decide)) (cl_M (k := 1) (mm := (c).2.1) (u := (c_m1 c)) (by decide) rfl) rfl (c_X3_becomes hJ hA l (gC σ c) 1 (by decide) 0 (by decide) (by decide) (c_m1 c) (c_m0 c) x25 hx25) rfl ⟨w3_16, w1_2, cwd_X3_becomes, by decide, by decide⟩ w3_13 w3_15 ws2_4 rfl rfl (Nat.le_of_ble_eq_true rfl) (by decide) dX10_brings_25 28 rfl (gC σ g25) (by subst eg25; rfl) [] rfl ?_
    refine y_aload_n hC dX10_brings_28 0 rfl 29 rfl ?_
    refine y_get hC 63 (hA 63 (by decide)) (cl_H (u := (c_h g25)) rfl) rfl inU10 4 (by decide) w2_31 rfl dX10_brings_29 32 rfl ?_
    refine y_aload_n hC dX10_brings_32 0 rfl 33 rfl ?_
    refine y_get hC 63 (hA 63 (by decide)) (cl_H (u := (c_h g25)) rfl) rfl inU10 1 (by decide) w2_28 rfl dX10_brings_33 36 rfl ?_
    obtain ⟨x36, hx36, hk⟩ := ob_bind hk
    obtain ⟨g36, eg36, hk⟩ := ob_lt hk
    refine y_callVN hC 40 (hA 40 (by decide)) (cl_D (u := (c_d g25)) rfl) rfl (c_X2_plan hJ hA l (gC σ g25) 1 (by decide) (c_d g25) (c_m1 g25) x36 hx36) rfl ⟨w3_36, w1_4, cwd_X2_plan, by decide, by decide⟩ w3_190 w3_35 ws2_7 rfl rfl (Nat.le_of_ble_eq_true rfl) (by decide) dX10_brings_36 39 rfl (gC σ g36) (by subst eg36; rfl) [] rfl ?_
    refine y_iconst hC dX10_brings_39 (v := (0 : Int32)) (by decide) 40 rfl ?_
    refine y_istore_n hC dX10_brings_40 (by decide) [(2, .int (0 : Int32)), (0, .ref (ad Γ 63)), (1, .int a1)] rfl 41 rfl ?_
    refine y_iconst hC dX10_brings_41 (v := (0 : Int32)) (by decide) 42 rfl ?_
    refine y_istore_n hC dX10_brings_42 (by decide) [(3, .int (0 : Int32)), (2, .int (0 : Int32)), (0, .ref (ad Γ 63)), (1, .int a1)] rfl 43 rfl ?_
    refine y_iconst hC dX10_brings_43 (v := (0 : Int32)) (by decide) 44 rfl ?_
    refine y_istore hC dX10_brings_44 (by decide) [(4, .int (0 : Int32)), (3, .int (0 : Int32)), (2, .int (0 : Int32)), (0, .ref (ad Γ 63)), (1, .int a1)] rfl 46 rfl ?_
    refine y_sub [3, 4, 2, 1, 0] rfl ?_
    exact L46 1000 ((0 : Int32), (0 : Int32), (0 : Int32), g36) hk
  · have hk := ob_pos h7 hk
    refine y_aload_n hC dX10_brings_10 0 rfl 11 rfl ?_
    refine y_bipush hC dX10_brings_11 (v := (-2 : Int32)) (by decide) 13 rfl ?_
    obtain ⟨x13, hx13, hk⟩ := ob_bind hk
    refine y_callV hC 63 (hA 63 (by decide)) (cl_H (u := (c_h c)) rfl) rfl (c_X10_refuse hJ hA l σ c (-2 : Int32) x13 hx13) rfl ⟨w2_74, w1_1, cwd_X10_refuse, by decide, by decide⟩ w2_71 w2_73 ws1_0 rfl rfl (Nat.le_of_ble_eq_true rfl) (by decide) dX10_brings_13 16 rfl (gC σ x13.2) rfl [.int x13.1] rfl ?_
    have e := Option.some.inj hk
    exact y_iret hC hr hlk (by rw [← e]) (by first | rfl | rw [← e]) dX10_brings_16
def f_X10_come_j133 (a1 : Int32) (K43 : (Int32 × Int32 × Int32 × CSt) → Option (Int32 × CSt)) (v2 : Int32) (v3 : Int32) (v4 : Int32) (gc : CSt) : Option (Int32 × CSt) :=
  K43 (v2, v3, (v4 + (1 : Int32)), gc)
def f_X10_come_j127 (a1 : Int32) (K43 : (Int32 × Int32 × Int32 × CSt) → Option (Int32 × CSt)) (v4 : Int32) (v5 : Int32) (gc : CSt) : Option (Int32 × CSt) :=
  f_X10_come_j133 a1 K43 v4 v5 v4 gc
def f_X10_come_j108 (a1 : Int32) (K43 : (Int32 × Int32 × Int32 × CSt) → Option (Int32 × CSt)) (v2 : Int32) (v3 : Int32) (v4 : Int32) (v5 : Int32) (t0 : Int32) (gc : CSt) : Option (Int32 × CSt) :=
  if v3 < v5 then
    f_X10_come_j127 a1 K43 v4 v5 gc
  else
    if v5 = v3 then
      if t0 = 0 then
        f_X10_come_j133 a1 K43 v2 v3 v4 gc
      else
        f_X10_come_j127 a1 K43 v4 v5 gc
    else
      f_X10_come_j133 a1 K43 v2 v3 v4 gc
def f_X10_come_s43 (a1 : Int32) (K43 : (Int32 × Int32 × Int32 × CSt) → Option (Int32 × CSt)) (q43 : Int32 × Int32 × Int32 × CSt) : Option (Int32 × CSt) :=
  if (10 : Int32) ≤ q43.2.2.1 then
    some (q43.1, q43.2.2.2)
  else
    if inb a1 8 then 
      (lt (sc_m1 q43.2.2.2 (sM_hours (c_m1 q43.2.2.2) (upd (pM_hours (c_m1 q43.2.2.2)) a1.toNatClampNeg q43.2.2.1))) fun g60 => 
      ((f_X2_run (c_d g60) (c_m1 g60)).bind fun x69 => 
      (lt (sc_d g60 x69) fun g69 => 
      (if inb a1 8 then 
      (lt (pD_got (c_d g69) a1.toNatClampNeg) fun n81 => 
      ((f_X3_priceIn (c_m1 g69) q43.2.2.1).bind fun x89 => 
      ((f_X3_priceIn (c_m1 g69) q43.1).bind fun x97 => 
      (if x97 ≤ x89 then
        f_X10_come_j108 a1 K43 q43.1 q43.2.1 q43.2.2.1 n81 (0 : Int32) g69
      else
        f_X10_come_j108 a1 K43 q43.1 q43.2.1 q43.2.2.1 n81 (1 : Int32) g69))))
    else none))))
    else none
def f_X10_come (c : CSt) (a1 : Int32) : Option (Int32 × CSt) :=
  (f_X10_isBuyer c a1).bind fun x2 => 
    (if x2 = 0 then
      (f_X10_refuse c (-2 : Int32)).bind fun x11 => 
        (some (x11.1, x11.2))
    else
      (f_X3_becomes (c_m1 c) (c_m0 c)).bind fun x23 => 
        (lt (sc_m1 c x23) fun g23 => 
        (if inb a1 8 then 
        (lt (sc_m1 g23 (sM_kinds (c_m1 g23) (upd (pM_kinds (c_m1 g23)) a1.toNatClampNeg (0 : Int32)))) fun g35 => 
        (lp (f_X10_come_s43 a1) 1000 ((0 : Int32), (-1 : Int32), (0 : Int32), g35)))
      else none)))
theorem cwd_X10_come : yX10_come.cls ≠ "java/lang/invoke/MethodHandle" ∧ yX10_come.cls ≠ "java/lang/invoke/VarHandle" ∧ (parseMethodDescriptor yX10_come.desc).map (fun d => d.parameters.length) = some 1 := by decide +kernel
set_option maxHeartbeats 4000000 in
set_option maxRecDepth 100000 in
theorem c_X10_come {Γ : GC} (hJ : GJ Γ) (hA : ∀ i, i < 66 → act Γ i) (l : Launch) (σ : GSt) (c : CSt) (a1 : Int32) (x : Int32 × CSt) (hk : f_X10_come c a1 = some x) : Mt Γ l yX10_come cX10_come 7 (some .int) 5 146 [.ref (ad Γ 63), .int a1] (gC σ c) (some (.int x.1)) (gC σ x.2) := by
  refine y_enter (by decide) hJ (Nat.le_of_ble_eq_true rfl) [(0, .ref (ad Γ 63)), (1, .int a1)] rfl ?_
  intro p e s' m args below meth c' hC hr hlk
  have L43 : ∀ (n43 : Nat) (q43 : Int32 × Int32 × Int32 × CSt), lp (f_X10_come_s43 a1) n43 q43 = some x → Y Γ (GA Γ) p l e ({ frames := 5, cells := 0, slots := 0, locals := 146 } : Room) s' m args below meth c' 0 0 (MQ below (Qg Γ (some (.int x.1)) (gC σ x.2)) args s' 0 0 (GA Γ)) 7 (gC σ q43.2.2.2) 43 [(0, .ref (ad Γ 63)), (1, .int a1), (2, .int q43.1), (3, .int q43.2.1), (4, .int q43.2.2.1)] [] := by
    intro n43
    induction n43 with
    | zero => intro q43 hk; exact (lp_zero hk).elim
    | succ n43 ih43 =>
      intro q43 hk
      have hk : f_X10_come_s43 a1 (lp (f_X10_come_s43 a1) n43) q43 = some x := (lp_succ _ _ _).symm.trans hk
      have J133 : ∀ (v2 : Int32) (v3 : Int32) (v4 : Int32) (gc : CSt), f_X10_come_j133 a1 (lp (f_X10_come_s43 a1) n43) v2 v3 v4 gc = some x → Y Γ (GA Γ) p l e ({ frames := 5, cells := 0, slots := 0, locals := 146 } : Room) s' m args below meth c' 0 0 (MQ below (Qg Γ (some (.int x.1)) (gC σ x.2)) args s' 0 0 (GA Γ)) 7 (gC σ gc) 133 [(0, .ref (ad Γ 63)), (1, .int a1), (2, .int v2), (3, .int v3), (4, .int v4)] [] := by
        intro v2 v3 v4 gc hk
        refine y_iinc hC dX10_come_133 4 rfl (v := (v4 + (1 : Int32))) rfl (by decide) [(4, .int (v4 + (1 : Int32))), (0, .ref (ad Γ 63)), (1, .int a1), (2, .int v2), (3, .int v3)] rfl 136 rfl ?_
        refine y_goto hC dX10_come_136 43 (by decide) ?_
        refine y_sub [1, 2, 3, 4, 0] rfl ?_
        exact ih43 (v2, v3, (v4 + (1 : Int32)), gc) hk
      have J127 : ∀ (v4 : Int32) (v5 : Int32) (gc : CSt), f_X10_come_j127 a1 (lp (f_X10_come_s43 a1) n43) v4 v5 gc = some x → Y Γ (GA Γ) p l e ({ frames := 5, cells := 0, slots := 0, locals := 146 } : Room) s' m args below meth c' 0 0 (MQ below (Qg Γ (some (.int x.1)) (gC σ x.2)) args s' 0 0 (GA Γ)) 7 (gC σ gc) 127 [(0, .ref (ad Γ 63)), (1, .int a1), (4, .int v4), (5, .int v5)] [] := by
        intro v4 v5 gc hk
        refine y_iload hC dX10_come_127 3 rfl 129 rfl ?_
        refine y_istore_n hC dX10_come_129 (by decide) [(3, .int v5), (0, .ref (ad Γ 63)), (1, .int a1), (4, .int v4), (5, .int v5)] rfl 130 rfl ?_
        refine y_iload hC dX10_come_130 3 rfl 132 rfl ?_
        refine y_istore_n hC dX10_come_132 (by decide) [(2, .int v4), (3, .int v5), (0, .ref (ad Γ 63)), (1, .int a1), (4, .int v4), (5, .int v5)] rfl 133 rfl ?_
        refine y_sub [2, 3, 0, 1, 4] rfl ?_
        exact J133 v4 v5 v4 gc hk
      have J108 : ∀ (v2 : Int32) (v3 : Int32) (v4 : Int32) (v5 : Int32) (t0 : Int32) (gc : CSt), f_X10_come_j108 a1 (lp (f_X10_come_s43 a1) n43) v2 v3 v4 v5 t0 gc = some x → Y Γ (GA Γ) p l e ({ frames := 5, cells := 0, slots := 0, locals := 146 } : Room) s' m args below meth c' 0 0 (MQ below (Qg Γ (some (.int x.1)) (gC σ x.2)) args s' 0 0 (GA Γ)) 7 (gC σ gc) 108 [(0, .ref (ad Γ 63)), (1, .int a1), (2, .int v2), (3, .int v3), (4, .int v4), (5, .int v5)] [.int t0] := by
        intro v2 v3 v4 v5 t0 gc hk
        refine y_istore hC dX10_come_108 (by decide) [(6, .int t0), (0, .ref (ad Γ 63)), (1, .int a1), (2, .int v2), (3, .int v3), (4, .int v4), (5, .int v5)] rfl 110 rfl ?_
        refine y_iload hC dX10_come_110 6 rfl 112 rfl ?_
        refine y_iload_n hC dX10_come_112 4 rfl 113 rfl ?_
        refine y_icmp_gt hC dX10_come_113 127 (by decide) 116 rfl (fun h113 => ?_) (fun h113 => ?_)
        · have hk := ob_pos h113 hk
          refine y_sub [1, 2, 5, 6] rfl ?_
          exact J127 v4 v5 gc hk
        · have hk := ob_neg h113 hk
          refine y_iload hC dX10_come_116 6 rfl 118 rfl ?_
          refine y_iload_n hC dX10_come_118 4 rfl 119 rfl ?_
          refine y_icmp_ne hC dX10_come_119 133 (by decide) 122 rfl (fun h119 => ?_) (fun h119 => ?_)
          · have hk := ob_neg h119 hk
            refine y_sub [1, 2, 3, 4, 5] rfl ?_
            exact J133 v2 v3 v4 gc hk
          · have hk := ob_pos h119 hk
            refine y_iload hC dX10_come_122 0 rfl 124 rfl ?_
            refine y_if_eq hC dX10_come_124 133 (by decide) 127 rfl (fun h124 => ?_) (fun h124 => ?_)
            · have hk := ob_pos h124 hk
              refine y_sub [1, 2, 3, 4, 5] rfl ?_
              exact J133 v2 v3 v4 gc hk
            · have hk := ob_neg h124 hk
              refine y_sub [1, 2, 5, 6] rfl ?_
              exact J127 v4 v5 gc hk
      refine y_iload hC dX10_come_43 4 rfl 45 rfl ?_
      refine y_bipush hC dX10_come_45 (v := (10 : Int32)) (by decide) 47 rfl ?_
      refine y_icmp_ge hC dX10_come_47 139 (by decide) 50 rfl (fun h47 => ?_) (fun h47 => ?_)
      · have hk := ob_pos h47 hk
        refine y_iload_n hC dX10_come_139 2 rfl 140 rfl ?_
        have e := Option.some.inj hk
        exact y_iret hC hr hlk (by rw [← e]) (by first | rfl | rw [← e]) dX10_come_140
      · have hk := ob_neg h47 hk
        refine y_aload_n hC dX10_come_50 0 rfl 51 rfl ?_
        refine y_get hC 63 (hA 63 (by decide)) (cl_H (u := (c_h q43.2.2.2)) rfl) rfl inU10 1 (by decide) w2_28 rfl dX10_come_51 54 rfl ?_
        refine y_getN hC (10 * 1) (hA 10 (by decide)) (cl_M (k := 1) (mm := (q43.2.2.2).2.1) (u := (c_m1 q43.2.2.2)) (by decide) rfl) rfl inU3 11 (by decide) w1_67 rfl dX10_come_54 57 rfl ?_
        refine y_iload_n hC dX10_come_57 1 rfl 58 rfl ?_
        refine y_iload hC dX10_come_58 4 rfl 60 rfl ?_
        obtain ⟨h60, hk⟩ := ob_if hk
        obtain ⟨g60, eg60, hk⟩ := ob_lt hk
        refine y_iast hC (10 * 1 + 4) (hA 14 (by decide)) (cl_M_hours (k := 1) (mm := (q43.2.2.2).2.1) (u := (c_m1 q43.2.2.2)) (by decide) rfl) h60 (gC σ g60) (by subst eg60; exact (cu_M_hours (v := (upd (pM_hours (c_m1 q43.2.2.2)) a1.toNatClampNeg q43.2.2.1)) (k := 1) (mm := (q43.2.2.2).2.1) (u := (c_m1 q43.2.2.2)) (by decide) rfl rfl)) dX10_come_60 61 rfl ?_
        refine y_aload_n hC dX10_come_61 0 rfl 62 rfl ?_
        refine y_get hC 63 (hA 63 (by decide)) (cl_H (u := (c_h g60)) rfl) rfl inU10 4 (by decide) w2_31 rfl dX10_come_62 65 rfl ?_
        refine y_aload_n hC dX10_come_65 0 rfl 66 rfl ?_
        refine y_get hC 63 (hA 63 (by decide)) (cl_H (u := (c_h g60)) rfl) rfl inU10 1 (by decide) w2_28 rfl dX10_come_66 69 rfl ?_
        obtain ⟨x69, hx69, hk⟩ := ob_bind hk
        obtain ⟨g69, eg69, hk⟩ := ob_lt hk
        refine y_callVN hC 40 (hA 40 (by decide)) (cl_D (u := (c_d g60)) rfl) rfl (c_X2_run hJ hA l (gC σ g60) 1 (by decide) (c_d g60) (c_m1 g60) x69 hx69) rfl ⟨w3_32, w1_4, cwd_X2_run, by decide, by decide⟩ w3_29 w3_31 ws2_6 rfl rfl (Nat.le_of_ble_eq_true rfl) (by decide) dX10_come_69 72 rfl (gC σ g69) (by subst eg69; rfl) [] rfl ?_
        refine y_aload_n hC dX10_come_72 0 rfl 73 rfl ?_
        refine y_get hC 63 (hA 63 (by decide)) (cl_H (u := (c_h g69)) rfl) rfl inU10 4 (by decide) w2_31 rfl dX10_come_73 76 rfl ?_
        refine y_getN hC 40 (hA 40 (by decide)) (cl_D (u := (c_d g69)) rfl) rfl inU2 7 (by decide) w1_179 rfl dX10_come_76 79 rfl ?_
        refine y_iload_n hC dX10_come_79 1 rfl 80 rfl ?_
        obtain ⟨h80, hk⟩ := ob_if hk
        refine y_iald hC 47 (hA 47 (by decide)) (cl_D_got (u := (c_d g69)) rfl) h80 dX10_come_80 81 rfl ?_
        obtain ⟨n81, en81, hk⟩ := ob_lt hk
        refine y_topi en81 ?_
        refine y_istore hC dX10_come_81 (by decide) [(5, .int n81), (0, .ref (ad Γ 63)), (1, .int a1), (2, .int q43.1), (3, .int q43.2.1), (4, .int q43.2.2.1)] rfl 83 rfl ?_
        refine y_aload_n hC dX10_come_83 1 rfl 84 rfl ?_
        refine y_get hC 63 (hA 63 (by decide)) (cl_H (u := (c_h g69)) rfl) rfl inU10 1 (by decide) w2_28 rfl dX10_come_84 87 rfl ?_
        refine y_iload hC dX10_come_87 5 rfl 89 rfl ?_
        obtain ⟨x89, hx89, hk⟩ := ob_bind hk
        refine y_callVN hC (10 * 1) (hA 10 (by decide)) (cl_M (k := 1) (mm := (g69).2.1) (u := (c_m1 g69)) (by decide) rfl) rfl (c_X3_priceIn hJ hA l (gC σ g69) 1 (by decide) (c_m1 g69) q43.2.2.1 x89 hx89) rfl ⟨w2_93, w1_2, cwd_X3_priceIn, by decide, by decide⟩ w2_90 w2_92 ws1_2 rfl rfl (Nat.le_of_ble_eq_true rfl) (by decide) dX10_come_89 92 rfl (gC σ g69) rfl [.int x89] rfl ?_
        refine y_aload_n hC dX10_come_92 1 rfl 93 rfl ?_
        refine y_get hC 63 (hA 63 (by decide)) (cl_H (u := (c_h g69)) rfl) rfl inU10 1 (by decide) w2_28 rfl dX10_come_93 96 rfl ?_
        refine y_iload_n hC dX10_come_96 3 rfl 97 rfl ?_
        obtain ⟨x97, hx97, hk⟩ := ob_bind hk
        refine y_callVN hC (10 * 1) (hA 10 (by decide)) (cl_M (k := 1) (mm := (g69).2.1) (u := (c_m1 g69)) (by decide) rfl) rfl (c_X3_priceIn hJ hA l (gC σ g69) 1 (by decide) (c_m1 g69) q43.1 x97 hx97) rfl ⟨w2_93, w1_2, cwd_X3_priceIn, by decide, by decide⟩ w2_90 w2_92 ws1_2 rfl rfl (Nat.le_of_ble_eq_true rfl) (by decide) dX10_come_97 100 rfl (gC σ g69) rfl [.int x97, .int x89] rfl ?_
        refine y_icmp_ge hC dX10_come_100 107 (by decide) 103 rfl (fun h100 => ?_) (fun h100 => ?_)
        · have hk := ob_pos h100 hk
          refine y_iconst hC dX10_come_107 (v := (0 : Int32)) (by decide) 108 rfl ?_
          refine y_sub [1, 2, 3, 4, 5, 0] rfl ?_
          exact J108 q43.1 q43.2.1 q43.2.2.1 n81 (0 : Int32) g69 hk
        · have hk := ob_neg h100 hk
          refine y_iconst hC dX10_come_103 (v := (1 : Int32)) (by decide) 104 rfl ?_
          refine y_goto hC dX10_come_104 108 (by decide) ?_
          refine y_sub [1, 2, 3, 4, 5, 0] rfl ?_
          exact J108 q43.1 q43.2.1 q43.2.2.1 n81 (1 : Int32) g69 hk
  refine y_aload_n hC dX10_come_0 0 rfl 1 rfl ?_
  refine y_iload_n hC dX10_come_1 1 rfl 2 rfl ?_
  obtain ⟨x2, hx2, hk⟩ := ob_bind hk
  refine y_callV hC 63 (hA 63 (by decide)) (cl_H (u := (c_h c)) rfl) rfl (c_X10_isBuyer hJ hA l σ c a1 x2 hx2) rfl ⟨w3_189, w1_1, cwd_X10_isBuyer, by decide, by decide⟩ w3_186 w3_188 ws3_5 rfl rfl (Nat.le_of_ble_eq_true rfl) (by decide) dX10_come_2 5 rfl (gC σ c) rfl [.int x2] rfl ?_
  refine y_if_ne hC dX10_come_5 15 (by decide) 8 rfl (fun h5 => ?_) (fun h5 => ?_)
  · have hk := ob_neg h5 hk
    refine y_aload_n hC dX10_come_15 0 rfl 16 rfl ?_
    refine y_get hC 63 (hA 63 (by decide)) (cl_H (u := (c_h c)) rfl) rfl inU10 1 (by decide) w2_28 rfl dX10_come_16 19 rfl ?_
    refine y_aload_n hC dX10_come_19 0 rfl 20 rfl ?_
    refine y_get hC 63 (hA 63 (by decide)) (cl_H (u := (c_h c)) rfl) rfl inU10 0 (by decide) w2_27 rfl dX10_come_20 23 rfl ?_
    obtain ⟨x23, hx23, hk⟩ := ob_bind hk
    obtain ⟨g23, eg23, hk⟩ := ob_lt hk
    refine y_callVN hC (10 * 1) (hA 10 (by decide)) (cl_M (k := 1) (mm := (c).2.1) (u := (c_m1 c)) (by decide) rfl) rfl (c_X3_becomes hJ hA l (gC σ c) 1 (by decide) 0 (by decide) (by decide) (c_m1 c) (c_m0 c) x23 hx23) rfl ⟨w3_16, w1_2, cwd_X3_becomes, by decide, by decide⟩ w3_13 w3_15 ws2_4 rfl rfl (Nat.le_of_ble_eq_true rfl) (by decide) dX10_come_23 26 rfl (gC σ g23) (by subst eg23; rfl) [] rfl ?_
    refine y_aload_n hC dX10_come_26 0 rfl 27 rfl ?_
    refine y_get hC 63 (hA 63 (by decide)) (cl_H (u := (c_h g23)) rfl) rfl inU10 1 (by decide) w2_28 rfl dX10_come_27 30 rfl ?_
    refine y_getN hC (10 * 1) (hA 10 (by decide)) (cl_M (k := 1) (mm := (g23).2.1) (u := (c_m1 g23)) (by decide) rfl) rfl inU3 10 (by decide) w1_64 rfl dX10_come_30 33 rfl ?_
    refine y_iload_n hC dX10_come_33 1 rfl 34 rfl ?_
    refine y_iconst hC dX10_come_34 (v := (0 : Int32)) (by decide) 35 rfl ?_
    obtain ⟨h35, hk⟩ := ob_if hk
    obtain ⟨g35, eg35, hk⟩ := ob_lt hk
    refine y_iast hC (10 * 1 + 3) (hA 13 (by decide)) (cl_M_kinds (k := 1) (mm := (g23).2.1) (u := (c_m1 g23)) (by decide) rfl) h35 (gC σ g35) (by subst eg35; exact (cu_M_kinds (v := (upd (pM_kinds (c_m1 g23)) a1.toNatClampNeg (0 : Int32))) (k := 1) (mm := (g23).2.1) (u := (c_m1 g23)) (by decide) rfl rfl)) dX10_come_35 36 rfl ?_
    refine y_iconst hC dX10_come_36 (v := (0 : Int32)) (by decide) 37 rfl ?_
    refine y_istore_n hC dX10_come_37 (by decide) [(2, .int (0 : Int32)), (0, .ref (ad Γ 63)), (1, .int a1)] rfl 38 rfl ?_
    refine y_iconst hC dX10_come_38 (v := (-1 : Int32)) (by decide) 39 rfl ?_
    refine y_istore_n hC dX10_come_39 (by decide) [(3, .int (-1 : Int32)), (2, .int (0 : Int32)), (0, .ref (ad Γ 63)), (1, .int a1)] rfl 40 rfl ?_
    refine y_iconst hC dX10_come_40 (v := (0 : Int32)) (by decide) 41 rfl ?_
    refine y_istore hC dX10_come_41 (by decide) [(4, .int (0 : Int32)), (3, .int (-1 : Int32)), (2, .int (0 : Int32)), (0, .ref (ad Γ 63)), (1, .int a1)] rfl 43 rfl ?_
    refine y_sub [3, 4, 2, 1, 0] rfl ?_
    exact L43 1000 ((0 : Int32), (-1 : Int32), (0 : Int32), g35) hk
  · have hk := ob_pos h5 hk
    refine y_aload_n hC dX10_come_8 0 rfl 9 rfl ?_
    refine y_bipush hC dX10_come_9 (v := (-2 : Int32)) (by decide) 11 rfl ?_
    obtain ⟨x11, hx11, hk⟩ := ob_bind hk
    refine y_callV hC 63 (hA 63 (by decide)) (cl_H (u := (c_h c)) rfl) rfl (c_X10_refuse hJ hA l σ c (-2 : Int32) x11 hx11) rfl ⟨w2_74, w1_1, cwd_X10_refuse, by decide, by decide⟩ w2_71 w2_73 ws1_0 rfl rfl (Nat.le_of_ble_eq_true rfl) (by decide) dX10_come_11 14 rfl (gC σ x11.2) rfl [.int x11.1] rfl ?_
    have e := Option.some.inj hk
    exact y_iret hC hr hlk (by rw [← e]) (by first | rfl | rw [← e]) dX10_come_14
def f_X10_stalls_j17 (a1 : Int32) (a2 : Int32) (a3 : Int32) (gc : CSt) : Option (Int32 × CSt) :=
  (f_X10_refuse gc (-2 : Int32)).bind fun x20 => 
    (some ((-10 : Int32), x20.2))
def f_X10_stalls (c : CSt) (a1 : Int32) (a2 : Int32) (a3 : Int32) : Option (Int32 × CSt) :=
  (f_X10_fall a1 a2).bind fun x2 => 
    (if x2 = 0 then
      f_X10_stalls_j17 a1 a2 a3 c
    else
      (f_X10_within a3 (0 : Int32) (1 : Int32)).bind fun x11 => 
        (if x11 = 0 then
          f_X10_stalls_j17 a1 a2 a3 c
        else
          (f_X3_becomes (c_m1 c) (c_m0 c)).bind fun x35 => 
            (lt (sc_m1 c x35) fun g35 => 
            ((f_X8_weigh (c_s g35) (c_d g35) (c_m1 g35) a1 a2).bind fun x52 => 
            (lt (sc_m1 (sc_d (sc_s g35 x52.1) x52.2.1) x52.2.2) fun g52 => 
            ((f_X8_findRests (c_s g52)).bind fun x59 => 
            (lt (sc_s g52 x59) fun g59 => 
            (if a3 = 0 then
              some ((pS_rests (c_s g59)), g59)
            else
              some ((pS_firstRest (c_s g59)), g59)))))))))
theorem cwd_X10_stalls : yX10_stalls.cls ≠ "java/lang/invoke/MethodHandle" ∧ yX10_stalls.cls ≠ "java/lang/invoke/VarHandle" ∧ (parseMethodDescriptor yX10_stalls.desc).map (fun d => d.parameters.length) = some 3 := by decide +kernel
set_option maxHeartbeats 4000000 in
set_option maxRecDepth 100000 in
theorem c_X10_stalls {Γ : GC} (hJ : GJ Γ) (hA : ∀ i, i < 66 → act Γ i) (l : Launch) (σ : GSt) (c : CSt) (a1 : Int32) (a2 : Int32) (a3 : Int32) (x : Int32 × CSt) (hk : f_X10_stalls c a1 a2 a3 = some x) : Mt Γ l yX10_stalls cX10_stalls 4 (some .int) 6 172 [.ref (ad Γ 63), .int a1, .int a2, .int a3] (gC σ c) (some (.int x.1)) (gC σ x.2) := by
  refine y_enter (by decide) hJ (Nat.le_of_ble_eq_true rfl) [(0, .ref (ad Γ 63)), (1, .int a1), (2, .int a2), (3, .int a3)] rfl ?_
  intro p e s' m args below meth c' hC hr hlk
  have J17 : ∀ (gc : CSt), f_X10_stalls_j17 a1 a2 a3 gc = some x → Y Γ (GA Γ) p l e ({ frames := 6, cells := 0, slots := 0, locals := 172 } : Room) s' m args below meth c' 0 0 (MQ below (Qg Γ (some (.int x.1)) (gC σ x.2)) args s' 0 0 (GA Γ)) 4 (gC σ gc) 17 [(0, .ref (ad Γ 63)), (1, .int a1), (2, .int a2), (3, .int a3)] [] := by
    intro gc hk
    refine y_aload_n hC dX10_stalls_17 0 rfl 18 rfl ?_
    refine y_bipush hC dX10_stalls_18 (v := (-2 : Int32)) (by decide) 20 rfl ?_
    obtain ⟨x20, hx20, hk⟩ := ob_bind hk
    refine y_callV hC 63 (hA 63 (by decide)) (cl_H (u := (c_h gc)) rfl) rfl (c_X10_refuse hJ hA l σ gc (-2 : Int32) x20 hx20) rfl ⟨w2_74, w1_1, cwd_X10_refuse, by decide, by decide⟩ w2_71 w2_73 ws1_0 rfl rfl (Nat.le_of_ble_eq_true rfl) (by decide) dX10_stalls_20 23 rfl (gC σ x20.2) rfl [.int x20.1] rfl ?_
    refine y_pop hC dX10_stalls_23 rfl 24 rfl ?_
    refine y_bipush hC dX10_stalls_24 (v := (-10 : Int32)) (by decide) 26 rfl ?_
    have e := Option.some.inj hk
    exact y_iret hC hr hlk (by rw [← e]) (by first | rfl | rw [← e]) dX10_stalls_26
  refine y_iload_n hC dX10_stalls_0 1 rfl 1 rfl ?_
  refine y_iload_n hC dX10_stalls_1 2 rfl 2 rfl ?_
  obtain ⟨x2, hx2, hk⟩ := ob_bind hk
  refine y_callS hC (c_X10_fall hJ l (gC σ c) a1 a2 x2 hx2) rfl ⟨w3_205, w1_1, cwd_X10_fall, by decide, by decide⟩ w3_203 w3_204 rfl rfl (Nat.le_of_ble_eq_true rfl) (by decide) dX10_stalls_2 5 rfl (gC σ c) rfl [.int x2] rfl ?_
  refine y_if_eq hC dX10_stalls_5 17 (by decide) 8 rfl (fun h5 => ?_) (fun h5 => ?_)
  · have hk := ob_pos h5 hk
    refine y_sub [0, 1, 2, 3] rfl ?_
    exact J17 c hk
  · have hk := ob_neg h5 hk
    refine y_iload_n hC dX10_stalls_8 3 rfl 9 rfl ?_
    refine y_iconst hC dX10_stalls_9 (v := (0 : Int32)) (by decide) 10 rfl ?_
    refine y_iconst hC dX10_stalls_10 (v := (1 : Int32)) (by decide) 11 rfl ?_
    obtain ⟨x11, hx11, hk⟩ := ob_bind hk
    refine y_callS hC (c_X10_within hJ l (gC σ c) a3 (0 : Int32) (1 : Int32) x11 hx11) rfl ⟨w2_70, w1_1, cwd_X10_within, by decide, by decide⟩ w2_68 w2_69 rfl rfl (Nat.le_of_ble_eq_true rfl) (by decide) dX10_stalls_11 14 rfl (gC σ c) rfl [.int x11] rfl ?_
    refine y_if_ne hC dX10_stalls_14 27 (by decide) 17 rfl (fun h14 => ?_) (fun h14 => ?_)
    · have hk := ob_neg h14 hk
      refine y_aload_n hC dX10_stalls_27 0 rfl 28 rfl ?_
      refine y_get hC 63 (hA 63 (by decide)) (cl_H (u := (c_h c)) rfl) rfl inU10 1 (by decide) w2_28 rfl dX10_stalls_28 31 rfl ?_
      refine y_aload_n hC dX10_stalls_31 0 rfl 32 rfl ?_
      refine y_get hC 63 (hA 63 (by decide)) (cl_H (u := (c_h c)) rfl) rfl inU10 0 (by decide) w2_27 rfl dX10_stalls_32 35 rfl ?_
      obtain ⟨x35, hx35, hk⟩ := ob_bind hk
      obtain ⟨g35, eg35, hk⟩ := ob_lt hk
      refine y_callVN hC (10 * 1) (hA 10 (by decide)) (cl_M (k := 1) (mm := (c).2.1) (u := (c_m1 c)) (by decide) rfl) rfl (c_X3_becomes hJ hA l (gC σ c) 1 (by decide) 0 (by decide) (by decide) (c_m1 c) (c_m0 c) x35 hx35) rfl ⟨w3_16, w1_2, cwd_X3_becomes, by decide, by decide⟩ w3_13 w3_15 ws2_4 rfl rfl (Nat.le_of_ble_eq_true rfl) (by decide) dX10_stalls_35 38 rfl (gC σ g35) (by subst eg35; rfl) [] rfl ?_
      refine y_aload_n hC dX10_stalls_38 0 rfl 39 rfl ?_
      refine y_get hC 63 (hA 63 (by decide)) (cl_H (u := (c_h g35)) rfl) rfl inU10 5 (by decide) w2_32 rfl dX10_stalls_39 42 rfl ?_
      refine y_aload_n hC dX10_stalls_42 0 rfl 43 rfl ?_
      refine y_get hC 63 (hA 63 (by decide)) (cl_H (u := (c_h g35)) rfl) rfl inU10 1 (by decide) w2_28 rfl dX10_stalls_43 46 rfl ?_
      refine y_aload_n hC dX10_stalls_46 0 rfl 47 rfl ?_
      refine y_get hC 63 (hA 63 (by decide)) (cl_H (u := (c_h g35)) rfl) rfl inU10 4 (by decide) w2_31 rfl dX10_stalls_47 50 rfl ?_
      refine y_iload_n hC dX10_stalls_50 1 rfl 51 rfl ?_
      refine y_iload_n hC dX10_stalls_51 2 rfl 52 rfl ?_
      obtain ⟨x52, hx52, hk⟩ := ob_bind hk
      obtain ⟨g52, eg52, hk⟩ := ob_lt hk
      refine y_callVN hC 56 (hA 56 (by decide)) (cl_S (u := (c_s g35)) rfl) rfl (c_X8_weigh hJ hA l (gC σ g35) 1 (by decide) (c_s g35) (c_d g35) (c_m1 g35) a1 a2 x52 hx52) rfl ⟨w3_225, w1_11, cwd_X8_weigh, by decide, by decide⟩ w3_222 w3_224 ws3_6 rfl rfl (Nat.le_of_ble_eq_true rfl) (by decide) dX10_stalls_52 55 rfl (gC σ g52) (by subst eg52; rfl) [] rfl ?_
      refine y_aload_n hC dX10_stalls_55 0 rfl 56 rfl ?_
      refine y_get hC 63 (hA 63 (by decide)) (cl_H (u := (c_h g52)) rfl) rfl inU10 5 (by decide) w2_32 rfl dX10_stalls_56 59 rfl ?_
      obtain ⟨x59, hx59, hk⟩ := ob_bind hk
      obtain ⟨g59, eg59, hk⟩ := ob_lt hk
      refine y_callVN hC 56 (hA 56 (by decide)) (cl_S (u := (c_s g52)) rfl) rfl (c_X8_findRests hJ hA l (gC σ g52) (c_s g52) x59 hx59) rfl ⟨w3_238, w1_11, cwd_X8_findRests, by decide, by decide⟩ w3_235 w3_237 ws3_8 rfl rfl (Nat.le_of_ble_eq_true rfl) (by decide) dX10_stalls_59 62 rfl (gC σ g59) (by subst eg59; rfl) [] rfl ?_
      refine y_iload_n hC dX10_stalls_62 3 rfl 63 rfl ?_
      refine y_if_ne hC dX10_stalls_63 76 (by decide) 66 rfl (fun h63 => ?_) (fun h63 => ?_)
      · have hk := ob_neg h63 hk
        refine y_aload_n hC dX10_stalls_76 0 rfl 77 rfl ?_
        refine y_get hC 63 (hA 63 (by decide)) (cl_H (u := (c_h g59)) rfl) rfl inU10 5 (by decide) w2_32 rfl dX10_stalls_77 80 rfl ?_
        refine y_getN hC 56 (hA 56 (by decide)) (cl_S (u := (c_s g59)) rfl) rfl inU8 5 (by decide) w1_227 rfl dX10_stalls_80 83 rfl ?_
        have e := Option.some.inj hk
        exact y_iret hC hr hlk (by rw [← e]) (by first | rfl | rw [← e]) dX10_stalls_83
      · have hk := ob_pos h63 hk
        refine y_aload_n hC dX10_stalls_66 0 rfl 67 rfl ?_
        refine y_get hC 63 (hA 63 (by decide)) (cl_H (u := (c_h g59)) rfl) rfl inU10 5 (by decide) w2_32 rfl dX10_stalls_67 70 rfl ?_
        refine y_getN hC 56 (hA 56 (by decide)) (cl_S (u := (c_s g59)) rfl) rfl inU8 4 (by decide) w1_225 rfl dX10_stalls_70 73 rfl ?_
        refine y_goto hC dX10_stalls_73 83 (by decide) ?_
        have e := Option.some.inj hk
        exact y_iret hC hr hlk (by rw [← e]) (by first | rfl | rw [← e]) dX10_stalls_83
    · have hk := ob_pos h14 hk
      refine y_sub [0, 1, 2, 3] rfl ?_
      exact J17 c hk
def f_X10_setFraction (c : CSt) (a1 : Int64) (a2 : Int64) : Option (CSt) :=
  (f_X10_commonDivisor a1 a2).bind fun x2 => 
    (if 0 < (lg_cmp x2 (0 : Int64)) then
      if x2 = 0 then none else 
        (lt (sc_h c (sH_above (c_h c) (a1 / x2))) fun g20 => 
        (if x2 = 0 then none else 
        (lt (sc_h g20 (sH_below (c_h g20) (a2 / x2))) fun g28 => 
        (some g28))))
    else
      some c)
theorem cwd_X10_setFraction : yX10_setFraction.cls ≠ "java/lang/invoke/MethodHandle" ∧ yX10_setFraction.cls ≠ "java/lang/invoke/VarHandle" ∧ (parseMethodDescriptor yX10_setFraction.desc).map (fun d => d.parameters.length) = some 2 := by decide +kernel
set_option maxHeartbeats 4000000 in
set_option maxRecDepth 100000 in
theorem c_X10_setFraction {Γ : GC} (hJ : GJ Γ) (hA : ∀ i, i < 66 → act Γ i) (l : Launch) (σ : GSt) (c : CSt) (a1 : Int64) (a2 : Int64) (x : CSt) (hk : f_X10_setFraction c a1 a2 = some x) : Mt Γ l yX10_setFraction cX10_setFraction 7 none 1 26 [.ref (ad Γ 63), .long a1, .long a2] (gC σ c) none (gC σ x) := by
  refine y_enter (by decide) hJ (Nat.le_of_ble_eq_true rfl) [(0, .ref (ad Γ 63)), (1, .long a1), (3, .long a2)] rfl ?_
  intro p e s' m args below meth c' hC hr hlk
  refine y_lload_n hC dX10_setFraction_0 1 rfl 1 rfl ?_
  refine y_lload_n hC dX10_setFraction_1 2 rfl 2 rfl ?_
  obtain ⟨x2, hx2, hk⟩ := ob_bind hk
  refine y_callS hC (c_X10_commonDivisor hJ l (gC σ c) a1 a2 x2 hx2) rfl ⟨w4_18, w1_1, cwd_X10_commonDivisor, by decide, by decide⟩ w4_16 w4_17 rfl rfl (Nat.le_of_ble_eq_true rfl) (by decide) dX10_setFraction_2 5 rfl (gC σ c) rfl [.long x2] rfl ?_
  refine y_lstore hC dX10_setFraction_5 (by decide) [(5, .long x2), (0, .ref (ad Γ 63)), (1, .long a1), (3, .long a2)] rfl 7 rfl ?_
  refine y_lload hC dX10_setFraction_7 0 rfl 9 rfl ?_
  refine y_lconst hC dX10_setFraction_9 (v := (0 : Int64)) (by decide) 10 rfl ?_
  refine y_lcmp hC dX10_setFraction_10 11 rfl ?_
  refine y_if_gt hC dX10_setFraction_11 15 (by decide) 14 rfl (fun h11 => ?_) (fun h11 => ?_)
  · have hk := ob_pos h11 hk
    refine y_aload_n hC dX10_setFraction_15 1 rfl 16 rfl ?_
    refine y_lload_n hC dX10_setFraction_16 2 rfl 17 rfl ?_
    refine y_lload hC dX10_setFraction_17 0 rfl 19 rfl ?_
    obtain ⟨h19, hk⟩ := ob_ifn hk
    refine y_ldiv hC dX10_setFraction_19 h19 20 rfl ?_
    obtain ⟨g20, eg20, hk⟩ := ob_lt hk
    refine y_put hC 63 (hA 63 (by decide)) (cl_H (u := (c_h c)) rfl) rfl inU10 tyX10_ok nmX10 7 (by decide) w2_34 rfl rfl rfl rfl (Nat.le_of_ble_eq_true rfl) (gC σ g20) (by subst eg20; exact (cu_H_above (u := (c_h c)) (v := (a1 / x2)) rfl rfl)) dX10_setFraction_20 23 rfl ?_
    refine y_aload_n hC dX10_setFraction_23 1 rfl 24 rfl ?_
    refine y_lload_n hC dX10_setFraction_24 3 rfl 25 rfl ?_
    refine y_lload hC dX10_setFraction_25 0 rfl 27 rfl ?_
    obtain ⟨h27, hk⟩ := ob_ifn hk
    refine y_ldiv hC dX10_setFraction_27 h27 28 rfl ?_
    obtain ⟨g28, eg28, hk⟩ := ob_lt hk
    refine y_put hC 63 (hA 63 (by decide)) (cl_H (u := (c_h g20)) rfl) rfl inU10 tyX10_ok nmX10 8 (by decide) w2_35 rfl rfl rfl rfl (Nat.le_of_ble_eq_true rfl) (gC σ g28) (by subst eg28; exact (cu_H_below (u := (c_h g20)) (v := (a2 / x2)) rfl rfl)) dX10_setFraction_28 31 rfl ?_
    have e := Option.some.inj hk
    exact y_vret hC hr hlk (by rw [← e]) dX10_setFraction_31
  · have hk := ob_neg h11 hk
    have e := Option.some.inj hk
    exact y_vret hC hr hlk (by rw [← e]) dX10_setFraction_14
def f_X10_mean_j131 (a1 : Int32) (v2 : Int64) (gc : CSt) : Option (Int32 × CSt) :=
  (f_X10_power (10 : Int32) (pM_size (c_m0 gc))).bind fun x142 => 
    ((f_X10_setFraction gc v2 x142).bind fun x145 => 
    (some ((1 : Int32), x145)))
def f_X10_mean_j125 (a1 : Int32) (K33 : (Int64 × Int32 × CSt) → Option (Int32 × CSt)) (v2 : Int64) (v4 : Int32) (gc : CSt) : Option (Int32 × CSt) :=
  K33 (v2, (v4 + (1 : Int32)), gc)
def f_X10_mean_s33 (a1 : Int32) (K33 : (Int64 × Int32 × CSt) → Option (Int32 × CSt)) (q33 : Int64 × Int32 × CSt) : Option (Int32 × CSt) :=
  if (255 : Int32) < q33.2.1 then
    f_X10_mean_j131 a1 q33.1 q33.2.2
  else
    if ((1 : Int32) <<< ((pM_size (c_m0 q33.2.2)) &&& 31)) ≤ q33.2.1 then
      f_X10_mean_j131 a1 q33.1 q33.2.2
    else
      (f_J6_bitCount_0f7a4 q33.2.1).bind fun x57 => 
        ((f_X10_power a1 x57).bind fun x65 => 
        ((f_X10_power ((10 : Int32) - a1) ((pM_size (c_m0 q33.2.2)) - x57)).bind fun x82 => 
        (if (lg_cmp (x65 * x82) (0 : Int64)) = 0 then
          f_X10_mean_j125 a1 K33 q33.1 q33.2.1 q33.2.2
        else
          (f_X2_walk (c_d q33.2.2) (c_m0 q33.2.2) q33.2.1).bind fun x108 => 
            (lt (sc_d q33.2.2 x108) fun g108 => 
            (lt (q33.1 + ((x65 * x82) * (pD_takings (c_d g108)).toInt64)) fun n124 => 
            (f_X10_mean_j125 a1 K33 n124 q33.2.1 g108))))))
def f_X10_mean (c : CSt) (a1 : Int32) : Option (Int32 × CSt) :=
  (f_X10_within a1 (0 : Int32) (10 : Int32)).bind fun x4 => 
    (if x4 = 0 then
      (f_X10_refuse c (-2 : Int32)).bind fun x13 => 
        (some (x13.1, x13.2))
    else
      (f_X2_plan (c_d c) (c_m0 c)).bind fun x25 => 
        (lt (sc_d c x25) fun g25 => 
        (lp (f_X10_mean_s33 a1) 1000 ((0 : Int64), (0 : Int32), g25))))
theorem cwd_X10_mean : yX10_mean.cls ≠ "java/lang/invoke/MethodHandle" ∧ yX10_mean.cls ≠ "java/lang/invoke/VarHandle" ∧ (parseMethodDescriptor yX10_mean.desc).map (fun d => d.parameters.length) = some 1 := by decide +kernel
set_option maxHeartbeats 4000000 in
set_option maxRecDepth 100000 in
theorem c_X10_mean {Γ : GC} (hJ : GJ Γ) (hA : ∀ i, i < 66 → act Γ i) (l : Launch) (σ : GSt) (c : CSt) (a1 : Int32) (x : Int32 × CSt) (hk : f_X10_mean c a1 = some x) : Mt Γ l yX10_mean cX10_mean 8 (some .int) 4 125 [.ref (ad Γ 63), .int a1] (gC σ c) (some (.int x.1)) (gC σ x.2) := by
  refine y_enter (by decide) hJ (Nat.le_of_ble_eq_true rfl) [(0, .ref (ad Γ 63)), (1, .int a1)] rfl ?_
  intro p e s' m args below meth c' hC hr hlk
  have J131 : ∀ (v2 : Int64) (gc : CSt), f_X10_mean_j131 a1 v2 gc = some x → Y Γ (GA Γ) p l e ({ frames := 4, cells := 0, slots := 0, locals := 125 } : Room) s' m args below meth c' 0 0 (MQ below (Qg Γ (some (.int x.1)) (gC σ x.2)) args s' 0 0 (GA Γ)) 8 (gC σ gc) 131 [(0, .ref (ad Γ 63)), (1, .int a1), (2, .long v2)] [] := by
    intro v2 gc hk
    refine y_aload_n hC dX10_mean_131 0 rfl 132 rfl ?_
    refine y_lload_n hC dX10_mean_132 2 rfl 133 rfl ?_
    refine y_bipush hC dX10_mean_133 (v := (10 : Int32)) (by decide) 135 rfl ?_
    refine y_aload_n hC dX10_mean_135 0 rfl 136 rfl ?_
    refine y_get hC 63 (hA 63 (by decide)) (cl_H (u := (c_h gc)) rfl) rfl inU10 0 (by decide) w2_27 rfl dX10_mean_136 139 rfl ?_
    refine y_getN hC (10 * 0) (hA 0 (by decide)) (cl_M (k := 0) (mm := (gc).2.1) (u := (c_m0 gc)) (by decide) rfl) rfl inU3 3 (by decide) w1_48 rfl dX10_mean_139 142 rfl ?_
    obtain ⟨x142, hx142, hk⟩ := ob_bind hk
    refine y_callS hC (c_X10_power hJ l (gC σ gc) (10 : Int32) (pM_size (c_m0 gc)) x142 hx142) rfl ⟨w4_11, w1_1, cwd_X10_power, by decide, by decide⟩ w4_9 w4_10 rfl rfl (Nat.le_of_ble_eq_true rfl) (by decide) dX10_mean_142 145 rfl (gC σ gc) rfl [.long x142, .long v2, .ref (ad Γ 63)] rfl ?_
    obtain ⟨x145, hx145, hk⟩ := ob_bind hk
    refine y_callV hC 63 (hA 63 (by decide)) (cl_H (u := (c_h gc)) rfl) rfl (c_X10_setFraction hJ hA l σ gc v2 x142 x145 hx145) rfl ⟨w4_15, w1_1, cwd_X10_setFraction, by decide, by decide⟩ w4_12 w4_14 ws3_9 rfl rfl (Nat.le_of_ble_eq_true rfl) (by decide) dX10_mean_145 148 rfl (gC σ x145) rfl [] rfl ?_
    refine y_iconst hC dX10_mean_148 (v := (1 : Int32)) (by decide) 149 rfl ?_
    have e := Option.some.inj hk
    exact y_iret hC hr hlk (by rw [← e]) (by first | rfl | rw [← e]) dX10_mean_149
  have L33 : ∀ (n33 : Nat) (q33 : Int64 × Int32 × CSt), lp (f_X10_mean_s33 a1) n33 q33 = some x → Y Γ (GA Γ) p l e ({ frames := 4, cells := 0, slots := 0, locals := 125 } : Room) s' m args below meth c' 0 0 (MQ below (Qg Γ (some (.int x.1)) (gC σ x.2)) args s' 0 0 (GA Γ)) 8 (gC σ q33.2.2) 33 [(0, .ref (ad Γ 63)), (1, .int a1), (2, .long q33.1), (4, .int q33.2.1)] [] := by
    intro n33
    induction n33 with
    | zero => intro q33 hk; exact (lp_zero hk).elim
    | succ n33 ih33 =>
      intro q33 hk
      have hk : f_X10_mean_s33 a1 (lp (f_X10_mean_s33 a1) n33) q33 = some x := (lp_succ _ _ _).symm.trans hk
      have J125 : ∀ (v2 : Int64) (v4 : Int32) (gc : CSt), f_X10_mean_j125 a1 (lp (f_X10_mean_s33 a1) n33) v2 v4 gc = some x → Y Γ (GA Γ) p l e ({ frames := 4, cells := 0, slots := 0, locals := 125 } : Room) s' m args below meth c' 0 0 (MQ below (Qg Γ (some (.int x.1)) (gC σ x.2)) args s' 0 0 (GA Γ)) 8 (gC σ gc) 125 [(0, .ref (ad Γ 63)), (1, .int a1), (2, .long v2), (4, .int v4)] [] := by
        intro v2 v4 gc hk
        refine y_iinc hC dX10_mean_125 3 rfl (v := (v4 + (1 : Int32))) rfl (by decide) [(4, .int (v4 + (1 : Int32))), (0, .ref (ad Γ 63)), (1, .int a1), (2, .long v2)] rfl 128 rfl ?_
        refine y_goto hC dX10_mean_128 33 (by decide) ?_
        refine y_sub [1, 2, 3, 0] rfl ?_
        exact ih33 (v2, (v4 + (1 : Int32)), gc) hk
      refine y_iload hC dX10_mean_33 3 rfl 35 rfl ?_
      refine y_sipush hC dX10_mean_35 (v := (255 : Int32)) (by decide) 38 rfl ?_
      refine y_icmp_gt hC dX10_mean_38 131 (by decide) 41 rfl (fun h38 => ?_) (fun h38 => ?_)
      · have hk := ob_pos h38 hk
        refine y_sub [0, 1, 2] rfl ?_
        exact J131 q33.1 q33.2.2 hk
      · have hk := ob_neg h38 hk
        refine y_iload hC dX10_mean_41 3 rfl 43 rfl ?_
        refine y_iconst hC dX10_mean_43 (v := (1 : Int32)) (by decide) 44 rfl ?_
        refine y_aload_n hC dX10_mean_44 0 rfl 45 rfl ?_
        refine y_get hC 63 (hA 63 (by decide)) (cl_H (u := (c_h q33.2.2)) rfl) rfl inU10 0 (by decide) w2_27 rfl dX10_mean_45 48 rfl ?_
        refine y_getN hC (10 * 0) (hA 0 (by decide)) (cl_M (k := 0) (mm := (q33.2.2).2.1) (u := (c_m0 q33.2.2)) (by decide) rfl) rfl inU3 3 (by decide) w1_48 rfl dX10_mean_48 51 rfl ?_
        refine y_ishl hC dX10_mean_51 52 rfl ?_
        refine y_icmp_ge hC dX10_mean_52 131 (by decide) 55 rfl (fun h52 => ?_) (fun h52 => ?_)
        · have hk := ob_pos h52 hk
          refine y_sub [0, 1, 2] rfl ?_
          exact J131 q33.1 q33.2.2 hk
        · have hk := ob_neg h52 hk
          refine y_iload hC dX10_mean_55 3 rfl 57 rfl ?_
          obtain ⟨x57, hx57, hk⟩ := ob_bind hk
          refine y_callS hC (c_J6_bitCount_0f7a4 hJ l (gC σ q33.2.2) q33.2.1 x57 hx57) rfl ⟨w4_5, w1_20, cwd_J6_bitCount_0f7a4, by decide, by decide⟩ w4_3 w4_4 rfl rfl (Nat.le_of_ble_eq_true rfl) (by decide) dX10_mean_57 60 rfl (gC σ q33.2.2) rfl [.int x57] rfl ?_
          refine y_istore hC dX10_mean_60 (by decide) [(5, .int x57), (0, .ref (ad Γ 63)), (1, .int a1), (2, .long q33.1), (4, .int q33.2.1)] rfl 62 rfl ?_
          refine y_iload_n hC dX10_mean_62 2 rfl 63 rfl ?_
          refine y_iload hC dX10_mean_63 0 rfl 65 rfl ?_
          obtain ⟨x65, hx65, hk⟩ := ob_bind hk
          refine y_callS hC (c_X10_power hJ l (gC σ q33.2.2) a1 x57 x65 hx65) rfl ⟨w4_11, w1_1, cwd_X10_power, by decide, by decide⟩ w4_9 w4_10 rfl rfl (Nat.le_of_ble_eq_true rfl) (by decide) dX10_mean_65 68 rfl (gC σ q33.2.2) rfl [.long x65] rfl ?_
          refine y_bipush hC dX10_mean_68 (v := (10 : Int32)) (by decide) 70 rfl ?_
          refine y_iload_n hC dX10_mean_70 2 rfl 71 rfl ?_
          refine y_isub hC dX10_mean_71 72 rfl ?_
          refine y_aload_n hC dX10_mean_72 1 rfl 73 rfl ?_
          refine y_get hC 63 (hA 63 (by decide)) (cl_H (u := (c_h q33.2.2)) rfl) rfl inU10 0 (by decide) w2_27 rfl dX10_mean_73 76 rfl ?_
          refine y_getN hC (10 * 0) (hA 0 (by decide)) (cl_M (k := 0) (mm := (q33.2.2).2.1) (u := (c_m0 q33.2.2)) (by decide) rfl) rfl inU3 3 (by decide) w1_48 rfl dX10_mean_76 79 rfl ?_
          refine y_iload hC dX10_mean_79 0 rfl 81 rfl ?_
          refine y_isub hC dX10_mean_81 82 rfl ?_
          obtain ⟨x82, hx82, hk⟩ := ob_bind hk
          refine y_callS hC (c_X10_power hJ l (gC σ q33.2.2) ((10 : Int32) - a1) ((pM_size (c_m0 q33.2.2)) - x57) x82 hx82) rfl ⟨w4_11, w1_1, cwd_X10_power, by decide, by decide⟩ w4_9 w4_10 rfl rfl (Nat.le_of_ble_eq_true rfl) (by decide) dX10_mean_82 85 rfl (gC σ q33.2.2) rfl [.long x82, .long x65] rfl ?_
          refine y_lmul hC dX10_mean_85 86 rfl ?_
          refine y_lstore hC dX10_mean_86 (by decide) [(6, .long (x65 * x82)), (5, .int x57), (0, .ref (ad Γ 63)), (1, .int a1), (2, .long q33.1), (4, .int q33.2.1)] rfl 88 rfl ?_
          refine y_lload hC dX10_mean_88 0 rfl 90 rfl ?_
          refine y_lconst hC dX10_mean_90 (v := (0 : Int64)) (by decide) 91 rfl ?_
          refine y_lcmp hC dX10_mean_91 92 rfl ?_
          refine y_if_ne hC dX10_mean_92 98 (by decide) 95 rfl (fun h92 => ?_) (fun h92 => ?_)
          · have hk := ob_neg h92 hk
            refine y_aload_n hC dX10_mean_98 2 rfl 99 rfl ?_
            refine y_get hC 63 (hA 63 (by decide)) (cl_H (u := (c_h q33.2.2)) rfl) rfl inU10 4 (by decide) w2_31 rfl dX10_mean_99 102 rfl ?_
            refine y_aload_n hC dX10_mean_102 2 rfl 103 rfl ?_
            refine y_get hC 63 (hA 63 (by decide)) (cl_H (u := (c_h q33.2.2)) rfl) rfl inU10 0 (by decide) w2_27 rfl dX10_mean_103 106 rfl ?_
            refine y_iload hC dX10_mean_106 5 rfl 108 rfl ?_
            obtain ⟨x108, hx108, hk⟩ := ob_bind hk
            obtain ⟨g108, eg108, hk⟩ := ob_lt hk
            refine y_callVN hC 40 (hA 40 (by decide)) (cl_D (u := (c_d q33.2.2)) rfl) rfl (c_X2_walk hJ hA l (gC σ q33.2.2) 0 (by decide) (c_d q33.2.2) (c_m0 q33.2.2) q33.2.1 x108 hx108) rfl ⟨w3_136, w1_4, cwd_X2_walk, by decide, by decide⟩ w3_213 w3_135 ws2_12 rfl rfl (Nat.le_of_ble_eq_true rfl) (by decide) dX10_mean_108 111 rfl (gC σ g108) (by subst eg108; rfl) [] rfl ?_
            refine y_lload_n hC dX10_mean_111 4 rfl 112 rfl ?_
            refine y_lload hC dX10_mean_112 0 rfl 114 rfl ?_
            refine y_aload_n hC dX10_mean_114 2 rfl 115 rfl ?_
            refine y_get hC 63 (hA 63 (by decide)) (cl_H (u := (c_h g108)) rfl) rfl inU10 4 (by decide) w2_31 rfl dX10_mean_115 118 rfl ?_
            refine y_getN hC 40 (hA 40 (by decide)) (cl_D (u := (c_d g108)) rfl) rfl inU2 10 (by decide) w1_186 rfl dX10_mean_118 121 rfl ?_
            refine y_i2l hC dX10_mean_121 122 rfl ?_
            refine y_lmul hC dX10_mean_122 123 rfl ?_
            refine y_ladd hC dX10_mean_123 124 rfl ?_
            obtain ⟨n124, en124, hk⟩ := ob_lt hk
            refine y_topl en124 ?_
            refine y_lstore_n hC dX10_mean_124 (by decide) [(2, .long n124), (6, .long (x65 * x82)), (5, .int x57), (0, .ref (ad Γ 63)), (1, .int a1), (4, .int q33.2.1)] rfl 125 rfl ?_
            refine y_sub [3, 4, 0, 5] rfl ?_
            exact J125 n124 q33.2.1 g108 hk
          · have hk := ob_pos h92 hk
            refine y_goto hC dX10_mean_95 125 (by decide) ?_
            refine y_sub [2, 3, 4, 5] rfl ?_
            exact J125 q33.1 q33.2.1 q33.2.2 hk
  refine y_iload_n hC dX10_mean_0 1 rfl 1 rfl ?_
  refine y_iconst hC dX10_mean_1 (v := (0 : Int32)) (by decide) 2 rfl ?_
  refine y_bipush hC dX10_mean_2 (v := (10 : Int32)) (by decide) 4 rfl ?_
  obtain ⟨x4, hx4, hk⟩ := ob_bind hk
  refine y_callS hC (c_X10_within hJ l (gC σ c) a1 (0 : Int32) (10 : Int32) x4 hx4) rfl ⟨w2_70, w1_1, cwd_X10_within, by decide, by decide⟩ w2_68 w2_69 rfl rfl (Nat.le_of_ble_eq_true rfl) (by decide) dX10_mean_4 7 rfl (gC σ c) rfl [.int x4] rfl ?_
  refine y_if_ne hC dX10_mean_7 17 (by decide) 10 rfl (fun h7 => ?_) (fun h7 => ?_)
  · have hk := ob_neg h7 hk
    refine y_aload_n hC dX10_mean_17 0 rfl 18 rfl ?_
    refine y_get hC 63 (hA 63 (by decide)) (cl_H (u := (c_h c)) rfl) rfl inU10 4 (by decide) w2_31 rfl dX10_mean_18 21 rfl ?_
    refine y_aload_n hC dX10_mean_21 0 rfl 22 rfl ?_
    refine y_get hC 63 (hA 63 (by decide)) (cl_H (u := (c_h c)) rfl) rfl inU10 0 (by decide) w2_27 rfl dX10_mean_22 25 rfl ?_
    obtain ⟨x25, hx25, hk⟩ := ob_bind hk
    obtain ⟨g25, eg25, hk⟩ := ob_lt hk
    refine y_callVN hC 40 (hA 40 (by decide)) (cl_D (u := (c_d c)) rfl) rfl (c_X2_plan hJ hA l (gC σ c) 0 (by decide) (c_d c) (c_m0 c) x25 hx25) rfl ⟨w3_36, w1_4, cwd_X2_plan, by decide, by decide⟩ w3_190 w3_35 ws2_7 rfl rfl (Nat.le_of_ble_eq_true rfl) (by decide) dX10_mean_25 28 rfl (gC σ g25) (by subst eg25; rfl) [] rfl ?_
    refine y_lconst hC dX10_mean_28 (v := (0 : Int64)) (by decide) 29 rfl ?_
    refine y_lstore_n hC dX10_mean_29 (by decide) [(2, .long (0 : Int64)), (0, .ref (ad Γ 63)), (1, .int a1)] rfl 30 rfl ?_
    refine y_iconst hC dX10_mean_30 (v := (0 : Int32)) (by decide) 31 rfl ?_
    refine y_istore hC dX10_mean_31 (by decide) [(4, .int (0 : Int32)), (2, .long (0 : Int64)), (0, .ref (ad Γ 63)), (1, .int a1)] rfl 33 rfl ?_
    refine y_sub [2, 3, 1, 0] rfl ?_
    exact L33 1000 ((0 : Int64), (0 : Int32), g25) hk
  · have hk := ob_pos h7 hk
    refine y_aload_n hC dX10_mean_10 0 rfl 11 rfl ?_
    refine y_bipush hC dX10_mean_11 (v := (-2 : Int32)) (by decide) 13 rfl ?_
    obtain ⟨x13, hx13, hk⟩ := ob_bind hk
    refine y_callV hC 63 (hA 63 (by decide)) (cl_H (u := (c_h c)) rfl) rfl (c_X10_refuse hJ hA l σ c (-2 : Int32) x13 hx13) rfl ⟨w2_74, w1_1, cwd_X10_refuse, by decide, by decide⟩ w2_71 w2_73 ws1_0 rfl rfl (Nat.le_of_ble_eq_true rfl) (by decide) dX10_mean_13 16 rfl (gC σ x13.2) rfl [.int x13.1] rfl ?_
    have e := Option.some.inj hk
    exact y_iret hC hr hlk (by rw [← e]) (by first | rfl | rw [← e]) dX10_mean_16
def f_X10_shout (c : CSt) (a1 : Int32) : Option (Int32 × CSt) :=
  (f_X10_isHour a1).bind fun x1 => 
    (if x1 = 0 then
      (f_X10_refuse c (-2 : Int32)).bind fun x10 => 
        (some ((-10000 : Int32), x10.2))
    else
      (f_X2_run (c_d c) (c_m0 c)).bind fun x26 => 
        (lt (sc_d c x26) fun g26 => 
        ((f_X2_payMore (c_d g26) a1 (5 : Int32)).bind fun x43 => 
        (lt (sc_d g26 x43) fun g43 => 
        ((f_X2_walk (c_d g43) (c_m0 g43) (255 : Int32)).bind fun x57 => 
        (lt (sc_d g43 x57) fun g57 => 
        (some (((pD_takings (c_d g57)) - (pD_takings (c_d g26))), g57))))))))
theorem cwd_X10_shout : yX10_shout.cls ≠ "java/lang/invoke/MethodHandle" ∧ yX10_shout.cls ≠ "java/lang/invoke/VarHandle" ∧ (parseMethodDescriptor yX10_shout.desc).map (fun d => d.parameters.length) = some 1 := by decide +kernel
set_option maxHeartbeats 4000000 in
set_option maxRecDepth 100000 in
theorem c_X10_shout {Γ : GC} (hJ : GJ Γ) (hA : ∀ i, i < 66 → act Γ i) (l : Launch) (σ : GSt) (c : CSt) (a1 : Int32) (x : Int32 × CSt) (hk : f_X10_shout c a1 = some x) : Mt Γ l yX10_shout cX10_shout 3 (some .int) 5 146 [.ref (ad Γ 63), .int a1] (gC σ c) (some (.int x.1)) (gC σ x.2) := by
  refine y_enter (by decide) hJ (Nat.le_of_ble_eq_true rfl) [(0, .ref (ad Γ 63)), (1, .int a1)] rfl ?_
  intro p e s' m args below meth c' hC hr hlk
  refine y_iload_n hC dX10_shout_0 1 rfl 1 rfl ?_
  obtain ⟨x1, hx1, hk⟩ := ob_bind hk
  refine y_callS hC (c_X10_isHour hJ l (gC σ c) a1 x1 hx1) rfl ⟨w2_89, w1_1, cwd_X10_isHour, by decide, by decide⟩ w2_87 w2_88 rfl rfl (Nat.le_of_ble_eq_true rfl) (by decide) dX10_shout_1 4 rfl (gC σ c) rfl [.int x1] rfl ?_
  refine y_if_ne hC dX10_shout_4 18 (by decide) 7 rfl (fun h4 => ?_) (fun h4 => ?_)
  · have hk := ob_neg h4 hk
    refine y_aload_n hC dX10_shout_18 0 rfl 19 rfl ?_
    refine y_get hC 63 (hA 63 (by decide)) (cl_H (u := (c_h c)) rfl) rfl inU10 4 (by decide) w2_31 rfl dX10_shout_19 22 rfl ?_
    refine y_aload_n hC dX10_shout_22 0 rfl 23 rfl ?_
    refine y_get hC 63 (hA 63 (by decide)) (cl_H (u := (c_h c)) rfl) rfl inU10 0 (by decide) w2_27 rfl dX10_shout_23 26 rfl ?_
    obtain ⟨x26, hx26, hk⟩ := ob_bind hk
    obtain ⟨g26, eg26, hk⟩ := ob_lt hk
    refine y_callVN hC 40 (hA 40 (by decide)) (cl_D (u := (c_d c)) rfl) rfl (c_X2_run hJ hA l (gC σ c) 0 (by decide) (c_d c) (c_m0 c) x26 hx26) rfl ⟨w3_32, w1_4, cwd_X2_run, by decide, by decide⟩ w3_29 w3_31 ws2_6 rfl rfl (Nat.le_of_ble_eq_true rfl) (by decide) dX10_shout_26 29 rfl (gC σ g26) (by subst eg26; rfl) [] rfl ?_
    refine y_aload_n hC dX10_shout_29 0 rfl 30 rfl ?_
    refine y_get hC 63 (hA 63 (by decide)) (cl_H (u := (c_h g26)) rfl) rfl inU10 4 (by decide) w2_31 rfl dX10_shout_30 33 rfl ?_
    refine y_getN hC 40 (hA 40 (by decide)) (cl_D (u := (c_d g26)) rfl) rfl inU2 10 (by decide) w1_186 rfl dX10_shout_33 36 rfl ?_
    refine y_istore_n hC dX10_shout_36 (by decide) [(2, .int (pD_takings (c_d g26))), (0, .ref (ad Γ 63)), (1, .int a1)] rfl 37 rfl ?_
    refine y_aload_n hC dX10_shout_37 1 rfl 38 rfl ?_
    refine y_get hC 63 (hA 63 (by decide)) (cl_H (u := (c_h g26)) rfl) rfl inU10 4 (by decide) w2_31 rfl dX10_shout_38 41 rfl ?_
    refine y_iload_n hC dX10_shout_41 2 rfl 42 rfl ?_
    refine y_iconst hC dX10_shout_42 (v := (5 : Int32)) (by decide) 43 rfl ?_
    obtain ⟨x43, hx43, hk⟩ := ob_bind hk
    obtain ⟨g43, eg43, hk⟩ := ob_lt hk
    refine y_callVN hC 40 (hA 40 (by decide)) (cl_D (u := (c_d g26)) rfl) rfl (c_X2_payMore hJ hA l (gC σ g26) (c_d g26) a1 (5 : Int32) x43 hx43) rfl ⟨w4_26, w1_4, cwd_X2_payMore, by decide, by decide⟩ w4_23 w4_25 ws3_10 rfl rfl (Nat.le_of_ble_eq_true rfl) (by decide) dX10_shout_43 46 rfl (gC σ g43) (by subst eg43; rfl) [] rfl ?_
    refine y_aload_n hC dX10_shout_46 1 rfl 47 rfl ?_
    refine y_get hC 63 (hA 63 (by decide)) (cl_H (u := (c_h g43)) rfl) rfl inU10 4 (by decide) w2_31 rfl dX10_shout_47 50 rfl ?_
    refine y_aload_n hC dX10_shout_50 1 rfl 51 rfl ?_
    refine y_get hC 63 (hA 63 (by decide)) (cl_H (u := (c_h g43)) rfl) rfl inU10 0 (by decide) w2_27 rfl dX10_shout_51 54 rfl ?_
    refine y_sipush hC dX10_shout_54 (v := (255 : Int32)) (by decide) 57 rfl ?_
    obtain ⟨x57, hx57, hk⟩ := ob_bind hk
    obtain ⟨g57, eg57, hk⟩ := ob_lt hk
    refine y_callVN hC 40 (hA 40 (by decide)) (cl_D (u := (c_d g43)) rfl) rfl (c_X2_walk hJ hA l (gC σ g43) 0 (by decide) (c_d g43) (c_m0 g43) (255 : Int32) x57 hx57) rfl ⟨w3_136, w1_4, cwd_X2_walk, by decide, by decide⟩ w3_213 w3_135 ws2_12 rfl rfl (Nat.le_of_ble_eq_true rfl) (by decide) dX10_shout_57 60 rfl (gC σ g57) (by subst eg57; rfl) [] rfl ?_
    refine y_aload_n hC dX10_shout_60 1 rfl 61 rfl ?_
    refine y_get hC 63 (hA 63 (by decide)) (cl_H (u := (c_h g57)) rfl) rfl inU10 4 (by decide) w2_31 rfl dX10_shout_61 64 rfl ?_
    refine y_getN hC 40 (hA 40 (by decide)) (cl_D (u := (c_d g57)) rfl) rfl inU2 10 (by decide) w1_186 rfl dX10_shout_64 67 rfl ?_
    refine y_iload_n hC dX10_shout_67 0 rfl 68 rfl ?_
    refine y_isub hC dX10_shout_68 69 rfl ?_
    have e := Option.some.inj hk
    exact y_iret hC hr hlk (by rw [← e]) (by first | rfl | rw [← e]) dX10_shout_69
  · have hk := ob_pos h4 hk
    refine y_aload_n hC dX10_shout_7 0 rfl 8 rfl ?_
    refine y_bipush hC dX10_shout_8 (v := (-2 : Int32)) (by decide) 10 rfl ?_
    obtain ⟨x10, hx10, hk⟩ := ob_bind hk
    refine y_callV hC 63 (hA 63 (by decide)) (cl_H (u := (c_h c)) rfl) rfl (c_X10_refuse hJ hA l σ c (-2 : Int32) x10 hx10) rfl ⟨w2_74, w1_1, cwd_X10_refuse, by decide, by decide⟩ w2_71 w2_73 ws1_0 rfl rfl (Nat.le_of_ble_eq_true rfl) (by decide) dX10_shout_10 13 rfl (gC σ x10.2) rfl [.int x10.1] rfl ?_
    refine y_pop hC dX10_shout_13 rfl 14 rfl ?_
    refine y_sipush hC dX10_shout_14 (v := (-10000 : Int32)) (by decide) 17 rfl ?_
    have e := Option.some.inj hk
    exact y_iret hC hr hlk (by rw [← e]) (by first | rfl | rw [← e]) dX10_shout_17
def f_X10_sold_j17 (a1 : Int32) (a2 : Int32) (gc : CSt) : Option (Int32 × CSt) :=
  (f_X10_refuse gc (-2 : Int32)).bind fun x20 => 
    (some (x20.1, x20.2))
def f_X10_sold (c : CSt) (a1 : Int32) (a2 : Int32) : Option (Int32 × CSt) :=
  (f_X10_isHour a1).bind fun x1 => 
    (if x1 = 0 then
      f_X10_sold_j17 a1 a2 c
    else
      (f_X10_within a2 (0 : Int32) (99 : Int32)).bind fun x11 => 
        (if x11 = 0 then
          f_X10_sold_j17 a1 a2 c
        else
          if (pM_soldSize (c_m0 c)) < (6 : Int32) then
            (f_X3_addSold (c_m0 c) a1 a2).bind fun x49 => 
              (lt (sc_m0 c x49) fun g49 => 
              (some ((pM_soldSize (c_m0 g49)), g49)))
          else
            (f_X10_refuse c (-4 : Int32)).bind fun x39 => 
              (some (x39.1, x39.2))))
theorem cwd_X10_sold : yX10_sold.cls ≠ "java/lang/invoke/MethodHandle" ∧ yX10_sold.cls ≠ "java/lang/invoke/VarHandle" ∧ (parseMethodDescriptor yX10_sold.desc).map (fun d => d.parameters.length) = some 2 := by decide +kernel
set_option maxHeartbeats 4000000 in
set_option maxRecDepth 100000 in
theorem c_X10_sold {Γ : GC} (hJ : GJ Γ) (hA : ∀ i, i < 66 → act Γ i) (l : Launch) (σ : GSt) (c : CSt) (a1 : Int32) (a2 : Int32) (x : Int32 × CSt) (hk : f_X10_sold c a1 a2 = some x) : Mt Γ l yX10_sold cX10_sold 3 (some .int) 1 22 [.ref (ad Γ 63), .int a1, .int a2] (gC σ c) (some (.int x.1)) (gC σ x.2) := by
  refine y_enter (by decide) hJ (Nat.le_of_ble_eq_true rfl) [(0, .ref (ad Γ 63)), (1, .int a1), (2, .int a2)] rfl ?_
  intro p e s' m args below meth c' hC hr hlk
  have J17 : ∀ (gc : CSt), f_X10_sold_j17 a1 a2 gc = some x → Y Γ (GA Γ) p l e ({ frames := 1, cells := 0, slots := 0, locals := 22 } : Room) s' m args below meth c' 0 0 (MQ below (Qg Γ (some (.int x.1)) (gC σ x.2)) args s' 0 0 (GA Γ)) 3 (gC σ gc) 17 [(0, .ref (ad Γ 63)), (1, .int a1), (2, .int a2)] [] := by
    intro gc hk
    refine y_aload_n hC dX10_sold_17 0 rfl 18 rfl ?_
    refine y_bipush hC dX10_sold_18 (v := (-2 : Int32)) (by decide) 20 rfl ?_
    obtain ⟨x20, hx20, hk⟩ := ob_bind hk
    refine y_callV hC 63 (hA 63 (by decide)) (cl_H (u := (c_h gc)) rfl) rfl (c_X10_refuse hJ hA l σ gc (-2 : Int32) x20 hx20) rfl ⟨w2_74, w1_1, cwd_X10_refuse, by decide, by decide⟩ w2_71 w2_73 ws1_0 rfl rfl (Nat.le_of_ble_eq_true rfl) (by decide) dX10_sold_20 23 rfl (gC σ x20.2) rfl [.int x20.1] rfl ?_
    have e := Option.some.inj hk
    exact y_iret hC hr hlk (by rw [← e]) (by first | rfl | rw [← e]) dX10_sold_23
  refine y_iload_n hC dX10_sold_0 1 rfl 1 rfl ?_
  obtain ⟨x1, hx1, hk⟩ := ob_bind hk
  refine y_callS hC (c_X10_isHour hJ l (gC σ c) a1 x1 hx1) rfl ⟨w2_89, w1_1, cwd_X10_isHour, by decide, by decide⟩ w2_87 w2_88 rfl rfl (Nat.le_of_ble_eq_true rfl) (by decide) dX10_sold_1 4 rfl (gC σ c) rfl [.int x1] rfl ?_
  refine y_if_eq hC dX10_sold_4 17 (by decide) 7 rfl (fun h4 => ?_) (fun h4 => ?_)
  · have hk := ob_pos h4 hk
    refine y_sub [0, 1, 2] rfl ?_
    exact J17 c hk
  · have hk := ob_neg h4 hk
    refine y_iload_n hC dX10_sold_7 2 rfl 8 rfl ?_
    refine y_iconst hC dX10_sold_8 (v := (0 : Int32)) (by decide) 9 rfl ?_
    refine y_bipush hC dX10_sold_9 (v := (99 : Int32)) (by decide) 11 rfl ?_
    obtain ⟨x11, hx11, hk⟩ := ob_bind hk
    refine y_callS hC (c_X10_within hJ l (gC σ c) a2 (0 : Int32) (99 : Int32) x11 hx11) rfl ⟨w2_70, w1_1, cwd_X10_within, by decide, by decide⟩ w2_68 w2_69 rfl rfl (Nat.le_of_ble_eq_true rfl) (by decide) dX10_sold_11 14 rfl (gC σ c) rfl [.int x11] rfl ?_
    refine y_if_ne hC dX10_sold_14 24 (by decide) 17 rfl (fun h14 => ?_) (fun h14 => ?_)
    · have hk := ob_neg h14 hk
      refine y_aload_n hC dX10_sold_24 0 rfl 25 rfl ?_
      refine y_get hC 63 (hA 63 (by decide)) (cl_H (u := (c_h c)) rfl) rfl inU10 0 (by decide) w2_27 rfl dX10_sold_25 28 rfl ?_
      refine y_getN hC (10 * 0) (hA 0 (by decide)) (cl_M (k := 0) (mm := (c).2.1) (u := (c_m0 c)) (by decide) rfl) rfl inU3 6 (by decide) w1_57 rfl dX10_sold_28 31 rfl ?_
      refine y_bipush hC dX10_sold_31 (v := (6 : Int32)) (by decide) 33 rfl ?_
      refine y_icmp_lt hC dX10_sold_33 43 (by decide) 36 rfl (fun h33 => ?_) (fun h33 => ?_)
      · have hk := ob_pos h33 hk
        refine y_aload_n hC dX10_sold_43 0 rfl 44 rfl ?_
        refine y_get hC 63 (hA 63 (by decide)) (cl_H (u := (c_h c)) rfl) rfl inU10 0 (by decide) w2_27 rfl dX10_sold_44 47 rfl ?_
        refine y_iload_n hC dX10_sold_47 1 rfl 48 rfl ?_
        refine y_iload_n hC dX10_sold_48 2 rfl 49 rfl ?_
        obtain ⟨x49, hx49, hk⟩ := ob_bind hk
        obtain ⟨g49, eg49, hk⟩ := ob_lt hk
        refine y_callVN hC (10 * 0) (hA 0 (by decide)) (cl_M (k := 0) (mm := (c).2.1) (u := (c_m0 c)) (by decide) rfl) rfl (c_X3_addSold hJ hA l (gC σ c) 0 (by decide) (c_m0 c) a1 a2 x49 hx49) rfl ⟨w4_34, w1_2, cwd_X3_addSold, by decide, by decide⟩ w4_31 w4_33 ws3_11 rfl rfl (Nat.le_of_ble_eq_true rfl) (by decide) dX10_sold_49 52 rfl (gC σ g49) (by subst eg49; rfl) [] rfl ?_
        refine y_aload_n hC dX10_sold_52 0 rfl 53 rfl ?_
        refine y_get hC 63 (hA 63 (by decide)) (cl_H (u := (c_h g49)) rfl) rfl inU10 0 (by decide) w2_27 rfl dX10_sold_53 56 rfl ?_
        refine y_getN hC (10 * 0) (hA 0 (by decide)) (cl_M (k := 0) (mm := (g49).2.1) (u := (c_m0 g49)) (by decide) rfl) rfl inU3 6 (by decide) w1_57 rfl dX10_sold_56 59 rfl ?_
        have e := Option.some.inj hk
        exact y_iret hC hr hlk (by rw [← e]) (by first | rfl | rw [← e]) dX10_sold_59
      · have hk := ob_neg h33 hk
        refine y_aload_n hC dX10_sold_36 0 rfl 37 rfl ?_
        refine y_bipush hC dX10_sold_37 (v := (-4 : Int32)) (by decide) 39 rfl ?_
        obtain ⟨x39, hx39, hk⟩ := ob_bind hk
        refine y_callV hC 63 (hA 63 (by decide)) (cl_H (u := (c_h c)) rfl) rfl (c_X10_refuse hJ hA l σ c (-4 : Int32) x39 hx39) rfl ⟨w2_74, w1_1, cwd_X10_refuse, by decide, by decide⟩ w2_71 w2_73 ws1_0 rfl rfl (Nat.le_of_ble_eq_true rfl) (by decide) dX10_sold_39 42 rfl (gC σ x39.2) rfl [.int x39.1] rfl ?_
        have e := Option.some.inj hk
        exact y_iret hC hr hlk (by rw [← e]) (by first | rfl | rw [← e]) dX10_sold_42
    · have hk := ob_pos h14 hk
      refine y_sub [0, 1, 2] rfl ?_
      exact J17 c hk
def f_X10_forget (c : CSt) : Option (Int32 × CSt) :=
  lt (sc_m0 c (sM_soldSize (c_m0 c) (0 : Int32))) fun g13 => 
    (some ((pM_soldSize (c_m0 c)), g13))
theorem cwd_X10_forget : yX10_forget.cls ≠ "java/lang/invoke/MethodHandle" ∧ yX10_forget.cls ≠ "java/lang/invoke/VarHandle" ∧ (parseMethodDescriptor yX10_forget.desc).map (fun d => d.parameters.length) = some 0 := by decide +kernel
set_option maxHeartbeats 4000000 in
set_option maxRecDepth 100000 in
theorem c_X10_forget {Γ : GC} (hJ : GJ Γ) (hA : ∀ i, i < 66 → act Γ i) (l : Launch) (σ : GSt) (c : CSt) (x : Int32 × CSt) (hk : f_X10_forget c = some x) : Mt Γ l yX10_forget cX10_forget 2 (some .int) 0 0 [.ref (ad Γ 63)] (gC σ c) (some (.int x.1)) (gC σ x.2) := by
  refine y_enter (by decide) hJ (Nat.le_of_ble_eq_true rfl) [(0, .ref (ad Γ 63))] rfl ?_
  intro p e s' m args below meth c' hC hr hlk
  refine y_aload_n hC dX10_forget_0 0 rfl 1 rfl ?_
  refine y_get hC 63 (hA 63 (by decide)) (cl_H (u := (c_h c)) rfl) rfl inU10 0 (by decide) w2_27 rfl dX10_forget_1 4 rfl ?_
  refine y_getN hC (10 * 0) (hA 0 (by decide)) (cl_M (k := 0) (mm := (c).2.1) (u := (c_m0 c)) (by decide) rfl) rfl inU3 6 (by decide) w1_57 rfl dX10_forget_4 7 rfl ?_
  refine y_istore_n hC dX10_forget_7 (by decide) [(1, .int (pM_soldSize (c_m0 c))), (0, .ref (ad Γ 63))] rfl 8 rfl ?_
  refine y_aload_n hC dX10_forget_8 1 rfl 9 rfl ?_
  refine y_get hC 63 (hA 63 (by decide)) (cl_H (u := (c_h c)) rfl) rfl inU10 0 (by decide) w2_27 rfl dX10_forget_9 12 rfl ?_
  refine y_iconst hC dX10_forget_12 (v := (0 : Int32)) (by decide) 13 rfl ?_
  obtain ⟨g13, eg13, hk⟩ := ob_lt hk
  refine y_putN hC (10 * 0) (hA 0 (by decide)) (cl_M (k := 0) (mm := (c).2.1) (u := (c_m0 c)) (by decide) rfl) rfl inU3 tyX3_ok nmX3 6 (by decide) w1_57 rfl rfl rfl rfl (Nat.le_of_ble_eq_true rfl) (gC σ g13) (by subst eg13; exact (cu_M_soldSize (v := (0 : Int32)) (k := 0) (mm := (c).2.1) (u := (c_m0 c)) (by decide) rfl rfl)) dX10_forget_13 16 rfl ?_
  refine y_iload_n hC dX10_forget_16 0 rfl 17 rfl ?_
  have e := Option.some.inj hk
  exact y_iret hC hr hlk (by rw [← e]) (by first | rfl | rw [← e]) dX10_forget_17
def f_X10_may_j77 (a1 : Int32) (K30 : (Int32 × Int32 × CSt) → Option (Int32 × CSt)) (v2 : Int32) (v3 : Int32) (gc : CSt) : Option (Int32 × CSt) :=
  K30 (v2, (v3 + (1 : Int32)), gc)
def f_X10_may_s30 (a1 : Int32) (K30 : (Int32 × Int32 × CSt) → Option (Int32 × CSt)) (q30 : Int32 × Int32 × CSt) : Option (Int32 × CSt) :=
  if (6 : Int32) ≤ q30.2.1 then
    some (q30.1, q30.2.2)
  else
    if inb a1 8 then 
      (lt (sc_m1 q30.2.2 (sM_kinds (c_m1 q30.2.2) (upd (pM_kinds (c_m1 q30.2.2)) a1.toNatClampNeg q30.2.1))) fun g45 => 
      ((f_X2_run (c_d g45) (c_m1 g45)).bind fun x54 => 
      (lt (sc_d g45 x54) fun g54 => 
      ((f_X2_agreesWithSold (c_d g54) (c_m1 g54)).bind fun x65 => 
      (if x65 = 0 then
        f_X10_may_j77 a1 K30 q30.1 q30.2.1 g54
      else
        lt (q30.1 ||| ((1 : Int32) <<< (q30.2.1 &&& 31))) fun n76 => 
          (f_X10_may_j77 a1 K30 n76 q30.2.1 g54))))))
    else none
def f_X10_may (c : CSt) (a1 : Int32) : Option (Int32 × CSt) :=
  (f_X10_isBuyer c a1).bind fun x2 => 
    (if x2 = 0 then
      (f_X10_refuse c (-2 : Int32)).bind fun x11 => 
        (some (x11.1, x11.2))
    else
      (f_X3_becomes (c_m1 c) (c_m0 c)).bind fun x23 => 
        (lt (sc_m1 c x23) fun g23 => 
        (lp (f_X10_may_s30 a1) 1000 ((0 : Int32), (0 : Int32), g23))))
theorem cwd_X10_may : yX10_may.cls ≠ "java/lang/invoke/MethodHandle" ∧ yX10_may.cls ≠ "java/lang/invoke/VarHandle" ∧ (parseMethodDescriptor yX10_may.desc).map (fun d => d.parameters.length) = some 1 := by decide +kernel
set_option maxHeartbeats 4000000 in
set_option maxRecDepth 100000 in
theorem c_X10_may {Γ : GC} (hJ : GJ Γ) (hA : ∀ i, i < 66 → act Γ i) (l : Launch) (σ : GSt) (c : CSt) (a1 : Int32) (x : Int32 × CSt) (hk : f_X10_may c a1 = some x) : Mt Γ l yX10_may cX10_may 4 (some .int) 5 146 [.ref (ad Γ 63), .int a1] (gC σ c) (some (.int x.1)) (gC σ x.2) := by
  refine y_enter (by decide) hJ (Nat.le_of_ble_eq_true rfl) [(0, .ref (ad Γ 63)), (1, .int a1)] rfl ?_
  intro p e s' m args below meth c' hC hr hlk
  have L30 : ∀ (n30 : Nat) (q30 : Int32 × Int32 × CSt), lp (f_X10_may_s30 a1) n30 q30 = some x → Y Γ (GA Γ) p l e ({ frames := 5, cells := 0, slots := 0, locals := 146 } : Room) s' m args below meth c' 0 0 (MQ below (Qg Γ (some (.int x.1)) (gC σ x.2)) args s' 0 0 (GA Γ)) 4 (gC σ q30.2.2) 30 [(0, .ref (ad Γ 63)), (1, .int a1), (2, .int q30.1), (3, .int q30.2.1)] [] := by
    intro n30
    induction n30 with
    | zero => intro q30 hk; exact (lp_zero hk).elim
    | succ n30 ih30 =>
      intro q30 hk
      have hk : f_X10_may_s30 a1 (lp (f_X10_may_s30 a1) n30) q30 = some x := (lp_succ _ _ _).symm.trans hk
      have J77 : ∀ (v2 : Int32) (v3 : Int32) (gc : CSt), f_X10_may_j77 a1 (lp (f_X10_may_s30 a1) n30) v2 v3 gc = some x → Y Γ (GA Γ) p l e ({ frames := 5, cells := 0, slots := 0, locals := 146 } : Room) s' m args below meth c' 0 0 (MQ below (Qg Γ (some (.int x.1)) (gC σ x.2)) args s' 0 0 (GA Γ)) 4 (gC σ gc) 77 [(0, .ref (ad Γ 63)), (1, .int a1), (2, .int v2), (3, .int v3)] [] := by
        intro v2 v3 gc hk
        refine y_iinc hC dX10_may_77 3 rfl (v := (v3 + (1 : Int32))) rfl (by decide) [(3, .int (v3 + (1 : Int32))), (0, .ref (ad Γ 63)), (1, .int a1), (2, .int v2)] rfl 80 rfl ?_
        refine y_goto hC dX10_may_80 30 (by decide) ?_
        refine y_sub [1, 2, 3, 0] rfl ?_
        exact ih30 (v2, (v3 + (1 : Int32)), gc) hk
      refine y_iload_n hC dX10_may_30 3 rfl 31 rfl ?_
      refine y_bipush hC dX10_may_31 (v := (6 : Int32)) (by decide) 33 rfl ?_
      refine y_icmp_ge hC dX10_may_33 83 (by decide) 36 rfl (fun h33 => ?_) (fun h33 => ?_)
      · have hk := ob_pos h33 hk
        refine y_iload_n hC dX10_may_83 2 rfl 84 rfl ?_
        have e := Option.some.inj hk
        exact y_iret hC hr hlk (by rw [← e]) (by first | rfl | rw [← e]) dX10_may_84
      · have hk := ob_neg h33 hk
        refine y_aload_n hC dX10_may_36 0 rfl 37 rfl ?_
        refine y_get hC 63 (hA 63 (by decide)) (cl_H (u := (c_h q30.2.2)) rfl) rfl inU10 1 (by decide) w2_28 rfl dX10_may_37 40 rfl ?_
        refine y_getN hC (10 * 1) (hA 10 (by decide)) (cl_M (k := 1) (mm := (q30.2.2).2.1) (u := (c_m1 q30.2.2)) (by decide) rfl) rfl inU3 10 (by decide) w1_64 rfl dX10_may_40 43 rfl ?_
        refine y_iload_n hC dX10_may_43 1 rfl 44 rfl ?_
        refine y_iload_n hC dX10_may_44 3 rfl 45 rfl ?_
        obtain ⟨h45, hk⟩ := ob_if hk
        obtain ⟨g45, eg45, hk⟩ := ob_lt hk
        refine y_iast hC (10 * 1 + 3) (hA 13 (by decide)) (cl_M_kinds (k := 1) (mm := (q30.2.2).2.1) (u := (c_m1 q30.2.2)) (by decide) rfl) h45 (gC σ g45) (by subst eg45; exact (cu_M_kinds (v := (upd (pM_kinds (c_m1 q30.2.2)) a1.toNatClampNeg q30.2.1)) (k := 1) (mm := (q30.2.2).2.1) (u := (c_m1 q30.2.2)) (by decide) rfl rfl)) dX10_may_45 46 rfl ?_
        refine y_aload_n hC dX10_may_46 0 rfl 47 rfl ?_
        refine y_get hC 63 (hA 63 (by decide)) (cl_H (u := (c_h g45)) rfl) rfl inU10 4 (by decide) w2_31 rfl dX10_may_47 50 rfl ?_
        refine y_aload_n hC dX10_may_50 0 rfl 51 rfl ?_
        refine y_get hC 63 (hA 63 (by decide)) (cl_H (u := (c_h g45)) rfl) rfl inU10 1 (by decide) w2_28 rfl dX10_may_51 54 rfl ?_
        obtain ⟨x54, hx54, hk⟩ := ob_bind hk
        obtain ⟨g54, eg54, hk⟩ := ob_lt hk
        refine y_callVN hC 40 (hA 40 (by decide)) (cl_D (u := (c_d g45)) rfl) rfl (c_X2_run hJ hA l (gC σ g45) 1 (by decide) (c_d g45) (c_m1 g45) x54 hx54) rfl ⟨w3_32, w1_4, cwd_X2_run, by decide, by decide⟩ w3_29 w3_31 ws2_6 rfl rfl (Nat.le_of_ble_eq_true rfl) (by decide) dX10_may_54 57 rfl (gC σ g54) (by subst eg54; rfl) [] rfl ?_
        refine y_aload_n hC dX10_may_57 0 rfl 58 rfl ?_
        refine y_get hC 63 (hA 63 (by decide)) (cl_H (u := (c_h g54)) rfl) rfl inU10 4 (by decide) w2_31 rfl dX10_may_58 61 rfl ?_
        refine y_aload_n hC dX10_may_61 0 rfl 62 rfl ?_
        refine y_get hC 63 (hA 63 (by decide)) (cl_H (u := (c_h g54)) rfl) rfl inU10 1 (by decide) w2_28 rfl dX10_may_62 65 rfl ?_
        obtain ⟨x65, hx65, hk⟩ := ob_bind hk
        refine y_callVN hC 40 (hA 40 (by decide)) (cl_D (u := (c_d g54)) rfl) rfl (c_X2_agreesWithSold hJ hA l (gC σ g54) 1 (by decide) (c_d g54) (c_m1 g54) x65 hx65) rfl ⟨w4_46, w1_4, cwd_X2_agreesWithSold, by decide, by decide⟩ w4_43 w4_45 ws3_12 rfl rfl (Nat.le_of_ble_eq_true rfl) (by decide) dX10_may_65 68 rfl (gC σ g54) rfl [.int x65] rfl ?_
        refine y_if_eq hC dX10_may_68 77 (by decide) 71 rfl (fun h68 => ?_) (fun h68 => ?_)
        · have hk := ob_pos h68 hk
          refine y_sub [0, 1, 2, 3] rfl ?_
          exact J77 q30.1 q30.2.1 g54 hk
        · have hk := ob_neg h68 hk
          refine y_iload_n hC dX10_may_71 2 rfl 72 rfl ?_
          refine y_iconst hC dX10_may_72 (v := (1 : Int32)) (by decide) 73 rfl ?_
          refine y_iload_n hC dX10_may_73 3 rfl 74 rfl ?_
          refine y_ishl hC dX10_may_74 75 rfl ?_
          refine y_ior hC dX10_may_75 76 rfl ?_
          obtain ⟨n76, en76, hk⟩ := ob_lt hk
          refine y_topi en76 ?_
          refine y_istore_n hC dX10_may_76 (by decide) [(2, .int n76), (0, .ref (ad Γ 63)), (1, .int a1), (3, .int q30.2.1)] rfl 77 rfl ?_
          refine y_sub [1, 2, 0, 3] rfl ?_
          exact J77 n76 q30.2.1 g54 hk
  refine y_aload_n hC dX10_may_0 0 rfl 1 rfl ?_
  refine y_iload_n hC dX10_may_1 1 rfl 2 rfl ?_
  obtain ⟨x2, hx2, hk⟩ := ob_bind hk
  refine y_callV hC 63 (hA 63 (by decide)) (cl_H (u := (c_h c)) rfl) rfl (c_X10_isBuyer hJ hA l σ c a1 x2 hx2) rfl ⟨w3_189, w1_1, cwd_X10_isBuyer, by decide, by decide⟩ w3_186 w3_188 ws3_5 rfl rfl (Nat.le_of_ble_eq_true rfl) (by decide) dX10_may_2 5 rfl (gC σ c) rfl [.int x2] rfl ?_
  refine y_if_ne hC dX10_may_5 15 (by decide) 8 rfl (fun h5 => ?_) (fun h5 => ?_)
  · have hk := ob_neg h5 hk
    refine y_aload_n hC dX10_may_15 0 rfl 16 rfl ?_
    refine y_get hC 63 (hA 63 (by decide)) (cl_H (u := (c_h c)) rfl) rfl inU10 1 (by decide) w2_28 rfl dX10_may_16 19 rfl ?_
    refine y_aload_n hC dX10_may_19 0 rfl 20 rfl ?_
    refine y_get hC 63 (hA 63 (by decide)) (cl_H (u := (c_h c)) rfl) rfl inU10 0 (by decide) w2_27 rfl dX10_may_20 23 rfl ?_
    obtain ⟨x23, hx23, hk⟩ := ob_bind hk
    obtain ⟨g23, eg23, hk⟩ := ob_lt hk
    refine y_callVN hC (10 * 1) (hA 10 (by decide)) (cl_M (k := 1) (mm := (c).2.1) (u := (c_m1 c)) (by decide) rfl) rfl (c_X3_becomes hJ hA l (gC σ c) 1 (by decide) 0 (by decide) (by decide) (c_m1 c) (c_m0 c) x23 hx23) rfl ⟨w3_16, w1_2, cwd_X3_becomes, by decide, by decide⟩ w3_13 w3_15 ws2_4 rfl rfl (Nat.le_of_ble_eq_true rfl) (by decide) dX10_may_23 26 rfl (gC σ g23) (by subst eg23; rfl) [] rfl ?_
    refine y_iconst hC dX10_may_26 (v := (0 : Int32)) (by decide) 27 rfl ?_
    refine y_istore_n hC dX10_may_27 (by decide) [(2, .int (0 : Int32)), (0, .ref (ad Γ 63)), (1, .int a1)] rfl 28 rfl ?_
    refine y_iconst hC dX10_may_28 (v := (0 : Int32)) (by decide) 29 rfl ?_
    refine y_istore_n hC dX10_may_29 (by decide) [(3, .int (0 : Int32)), (2, .int (0 : Int32)), (0, .ref (ad Γ 63)), (1, .int a1)] rfl 30 rfl ?_
    refine y_sub [2, 3, 1, 0] rfl ?_
    exact L30 1000 ((0 : Int32), (0 : Int32), g23) hk
  · have hk := ob_pos h5 hk
    refine y_aload_n hC dX10_may_8 0 rfl 9 rfl ?_
    refine y_bipush hC dX10_may_9 (v := (-2 : Int32)) (by decide) 11 rfl ?_
    obtain ⟨x11, hx11, hk⟩ := ob_bind hk
    refine y_callV hC 63 (hA 63 (by decide)) (cl_H (u := (c_h c)) rfl) rfl (c_X10_refuse hJ hA l σ c (-2 : Int32) x11 hx11) rfl ⟨w2_74, w1_1, cwd_X10_refuse, by decide, by decide⟩ w2_71 w2_73 ws1_0 rfl rfl (Nat.le_of_ble_eq_true rfl) (by decide) dX10_may_11 14 rfl (gC σ x11.2) rfl [.int x11.1] rfl ?_
    have e := Option.some.inj hk
    exact y_iret hC hr hlk (by rw [← e]) (by first | rfl | rw [← e]) dX10_may_14
def f_X10_drawn_j136 (a1 : Int32) (a2 : Int32) (a3 : Int32) (K58 : (Int64 × Int32 × Int32 × CSt) → Option (Int32 × CSt)) (v4 : Int64) (v6 : Int32) (v7 : Int32) (v8 : Int32) (gc : CSt) : Option (Int32 × CSt) :=
  (f_X2_walk (c_d gc) (c_m0 gc) v8).bind fun x146 => 
    (lt (sc_d gc x146) fun g146 => 
    (lt (v6 + (pD_takings (c_d g146))) fun n159 => 
    (K58 (v4, n159, (v7 + (1 : Int32)), g146))))
def f_X10_drawn_j130 (a1 : Int32) (a2 : Int32) (a3 : Int32) (K58 : (Int64 × Int32 × Int32 × CSt) → Option (Int32 × CSt)) (K70 : (Int64 × Int32 × Int32 × Int32 × Int32 × CSt) → Option (Int32 × CSt)) (v4 : Int64) (v6 : Int32) (v7 : Int32) (v8 : Int32) (v9 : Int32) (gc : CSt) : Option (Int32 × CSt) :=
  K70 (v4, v6, v7, v8, (v9 + (1 : Int32)), gc)
def f_X10_drawn_s70 (a1 : Int32) (a2 : Int32) (a3 : Int32) (K58 : (Int64 × Int32 × Int32 × CSt) → Option (Int32 × CSt)) (K70 : (Int64 × Int32 × Int32 × Int32 × Int32 × CSt) → Option (Int32 × CSt)) (q70 : Int64 × Int32 × Int32 × Int32 × Int32 × CSt) : Option (Int32 × CSt) :=
  if (pM_size (c_m0 q70.2.2.2.2.2)) ≤ q70.2.2.2.2.1 then
    f_X10_drawn_j136 a1 a2 a3 K58 q70.1 q70.2.1 q70.2.2.1 q70.2.2.2.1 q70.2.2.2.2.2
  else
    if (8 : Int32) ≤ q70.2.2.2.2.1 then
      f_X10_drawn_j136 a1 a2 a3 K58 q70.1 q70.2.1 q70.2.2.1 q70.2.2.2.1 q70.2.2.2.2.2
    else
      lt (((q70.1 * (1103515245 : Int64)) + (12345 : Int64)) - ((q70.1 * (1103515245 : Int64)) + (12345 : Int64)) / (2147483648 : Int64) * (2147483648 : Int64)) fun n103 => 
        (if 0 ≤ (lg_cmp ((n103 / (65536 : Int64)) - (n103 / (65536 : Int64)) / (100 : Int64) * (100 : Int64)) a3.toInt64) then
          f_X10_drawn_j130 a1 a2 a3 K58 K70 n103 q70.2.1 q70.2.2.1 q70.2.2.2.1 q70.2.2.2.2.1 q70.2.2.2.2.2
        else
          lt (q70.2.2.2.1 ||| ((1 : Int32) <<< (q70.2.2.2.2.1 &&& 31))) fun n128 => 
            (f_X10_drawn_j130 a1 a2 a3 K58 K70 n103 q70.2.1 q70.2.2.1 n128 q70.2.2.2.2.1 q70.2.2.2.2.2))
def f_X10_drawn_s58 (a1 : Int32) (a2 : Int32) (a3 : Int32) (K58 : (Int64 × Int32 × Int32 × CSt) → Option (Int32 × CSt)) (q58 : Int64 × Int32 × Int32 × CSt) : Option (Int32 × CSt) :=
  if a2 ≤ q58.2.2.1 then
    some (q58.2.1, q58.2.2.2)
  else
    lp (f_X10_drawn_s70 a1 a2 a3 K58) 1000 (q58.1, q58.2.1, q58.2.2.1, (0 : Int32), (0 : Int32), q58.2.2.2)
def f_X10_drawn_j30 (a1 : Int32) (a2 : Int32) (a3 : Int32) (gc : CSt) : Option (Int32 × CSt) :=
  (f_X10_refuse gc (-2 : Int32)).bind fun x33 => 
    (some (x33.1, x33.2))
def f_X10_drawn (c : CSt) (a1 : Int32) (a2 : Int32) (a3 : Int32) : Option (Int32 × CSt) :=
  (f_X10_within a1 (0 : Int32) (999999 : Int32)).bind fun x4 => 
    (if x4 = 0 then
      f_X10_drawn_j30 a1 a2 a3 c
    else
      (f_X10_within a2 (0 : Int32) (30 : Int32)).bind fun x14 => 
        (if x14 = 0 then
          f_X10_drawn_j30 a1 a2 a3 c
        else
          (f_X10_within a3 (0 : Int32) (100 : Int32)).bind fun x24 => 
            (if x24 = 0 then
              f_X10_drawn_j30 a1 a2 a3 c
            else
              (f_X2_plan (c_d c) (c_m0 c)).bind fun x45 => 
                (lt (sc_d c x45) fun g45 => 
                (lp (f_X10_drawn_s58 a1 a2 a3) 1000 (a1.toInt64, (0 : Int32), (0 : Int32), g45))))))
theorem cwd_X10_drawn : yX10_drawn.cls ≠ "java/lang/invoke/MethodHandle" ∧ yX10_drawn.cls ≠ "java/lang/invoke/VarHandle" ∧ (parseMethodDescriptor yX10_drawn.desc).map (fun d => d.parameters.length) = some 3 := by decide +kernel
set_option maxHeartbeats 4000000 in
set_option maxRecDepth 100000 in
theorem c_X10_drawn {Γ : GC} (hJ : GJ Γ) (hA : ∀ i, i < 66 → act Γ i) (l : Launch) (σ : GSt) (c : CSt) (a1 : Int32) (a2 : Int32) (a3 : Int32) (x : Int32 × CSt) (hk : f_X10_drawn c a1 a2 a3 = some x) : Mt Γ l yX10_drawn cX10_drawn 10 (some .int) 4 125 [.ref (ad Γ 63), .int a1, .int a2, .int a3] (gC σ c) (some (.int x.1)) (gC σ x.2) := by
  refine y_enter (by decide) hJ (Nat.le_of_ble_eq_true rfl) [(0, .ref (ad Γ 63)), (1, .int a1), (2, .int a2), (3, .int a3)] rfl ?_
  intro p e s' m args below meth c' hC hr hlk
  have L58 : ∀ (n58 : Nat) (q58 : Int64 × Int32 × Int32 × CSt), lp (f_X10_drawn_s58 a1 a2 a3) n58 q58 = some x → Y Γ (GA Γ) p l e ({ frames := 4, cells := 0, slots := 0, locals := 125 } : Room) s' m args below meth c' 0 0 (MQ below (Qg Γ (some (.int x.1)) (gC σ x.2)) args s' 0 0 (GA Γ)) 10 (gC σ q58.2.2.2) 58 [(0, .ref (ad Γ 63)), (1, .int a1), (2, .int a2), (3, .int a3), (4, .long q58.1), (6, .int q58.2.1), (7, .int q58.2.2.1)] [] := by
    intro n58
    induction n58 with
    | zero => intro q58 hk; exact (lp_zero hk).elim
    | succ n58 ih58 =>
      intro q58 hk
      have hk : f_X10_drawn_s58 a1 a2 a3 (lp (f_X10_drawn_s58 a1 a2 a3) n58) q58 = some x := (lp_succ _ _ _).symm.trans hk
      have J136 : ∀ (v4 : Int64) (v6 : Int32) (v7 : Int32) (v8 : Int32) (gc : CSt), f_X10_drawn_j136 a1 a2 a3 (lp (f_X10_drawn_s58 a1 a2 a3) n58) v4 v6 v7 v8 gc = some x → Y Γ (GA Γ) p l e ({ frames := 4, cells := 0, slots := 0, locals := 125 } : Room) s' m args below meth c' 0 0 (MQ below (Qg Γ (some (.int x.1)) (gC σ x.2)) args s' 0 0 (GA Γ)) 10 (gC σ gc) 136 [(0, .ref (ad Γ 63)), (1, .int a1), (2, .int a2), (3, .int a3), (4, .long v4), (6, .int v6), (7, .int v7), (8, .int v8)] [] := by
        intro v4 v6 v7 v8 gc hk
        refine y_aload_n hC dX10_drawn_136 0 rfl 137 rfl ?_
        refine y_get hC 63 (hA 63 (by decide)) (cl_H (u := (c_h gc)) rfl) rfl inU10 4 (by decide) w2_31 rfl dX10_drawn_137 140 rfl ?_
        refine y_aload_n hC dX10_drawn_140 0 rfl 141 rfl ?_
        refine y_get hC 63 (hA 63 (by decide)) (cl_H (u := (c_h gc)) rfl) rfl inU10 0 (by decide) w2_27 rfl dX10_drawn_141 144 rfl ?_
        refine y_iload hC dX10_drawn_144 7 rfl 146 rfl ?_
        obtain ⟨x146, hx146, hk⟩ := ob_bind hk
        obtain ⟨g146, eg146, hk⟩ := ob_lt hk
        refine y_callVN hC 40 (hA 40 (by decide)) (cl_D (u := (c_d gc)) rfl) rfl (c_X2_walk hJ hA l (gC σ gc) 0 (by decide) (c_d gc) (c_m0 gc) v8 x146 hx146) rfl ⟨w3_136, w1_4, cwd_X2_walk, by decide, by decide⟩ w3_213 w3_135 ws2_12 rfl rfl (Nat.le_of_ble_eq_true rfl) (by decide) dX10_drawn_146 149 rfl (gC σ g146) (by subst eg146; rfl) [] rfl ?_
        refine y_iload hC dX10_drawn_149 5 rfl 151 rfl ?_
        refine y_aload_n hC dX10_drawn_151 0 rfl 152 rfl ?_
        refine y_get hC 63 (hA 63 (by decide)) (cl_H (u := (c_h g146)) rfl) rfl inU10 4 (by decide) w2_31 rfl dX10_drawn_152 155 rfl ?_
        refine y_getN hC 40 (hA 40 (by decide)) (cl_D (u := (c_d g146)) rfl) rfl inU2 10 (by decide) w1_186 rfl dX10_drawn_155 158 rfl ?_
        refine y_iadd hC dX10_drawn_158 159 rfl ?_
        obtain ⟨n159, en159, hk⟩ := ob_lt hk
        refine y_topi en159 ?_
        refine y_istore hC dX10_drawn_159 (by decide) [(6, .int n159), (0, .ref (ad Γ 63)), (1, .int a1), (2, .int a2), (3, .int a3), (4, .long v4), (7, .int v7), (8, .int v8)] rfl 161 rfl ?_
        refine y_iinc hC dX10_drawn_161 6 rfl (v := (v7 + (1 : Int32))) rfl (by decide) [(7, .int (v7 + (1 : Int32))), (6, .int n159), (0, .ref (ad Γ 63)), (1, .int a1), (2, .int a2), (3, .int a3), (4, .long v4), (8, .int v8)] rfl 164 rfl ?_
        refine y_goto hC dX10_drawn_164 58 (by decide) ?_
        refine y_sub [2, 3, 4, 5, 6, 1, 0] rfl ?_
        exact ih58 (v4, n159, (v7 + (1 : Int32)), g146) hk
      have L70 : ∀ (n70 : Nat) (q70 : Int64 × Int32 × Int32 × Int32 × Int32 × CSt), lp (f_X10_drawn_s70 a1 a2 a3 (lp (f_X10_drawn_s58 a1 a2 a3) n58)) n70 q70 = some x → Y Γ (GA Γ) p l e ({ frames := 4, cells := 0, slots := 0, locals := 125 } : Room) s' m args below meth c' 0 0 (MQ below (Qg Γ (some (.int x.1)) (gC σ x.2)) args s' 0 0 (GA Γ)) 10 (gC σ q70.2.2.2.2.2) 70 [(0, .ref (ad Γ 63)), (1, .int a1), (2, .int a2), (3, .int a3), (4, .long q70.1), (6, .int q70.2.1), (7, .int q70.2.2.1), (8, .int q70.2.2.2.1), (9, .int q70.2.2.2.2.1)] [] := by
        intro n70
        induction n70 with
        | zero => intro q70 hk; exact (lp_zero hk).elim
        | succ n70 ih70 =>
          intro q70 hk
          have hk : f_X10_drawn_s70 a1 a2 a3 (lp (f_X10_drawn_s58 a1 a2 a3) n58) (lp (f_X10_drawn_s70 a1 a2 a3 (lp (f_X10_drawn_s58 a1 a2 a3) n58)) n70) q70 = some x := (lp_succ _ _ _).symm.trans hk
          have J130 : ∀ (v4 : Int64) (v6 : Int32) (v7 : Int32) (v8 : Int32) (v9 : Int32) (gc : CSt), f_X10_drawn_j130 a1 a2 a3 (lp (f_X10_drawn_s58 a1 a2 a3) n58) (lp (f_X10_drawn_s70 a1 a2 a3 (lp (f_X10_drawn_s58 a1 a2 a3) n58)) n70) v4 v6 v7 v8 v9 gc = some x → Y Γ (GA Γ) p l e ({ frames := 4, cells := 0, slots := 0, locals := 125 } : Room) s' m args below meth c' 0 0 (MQ below (Qg Γ (some (.int x.1)) (gC σ x.2)) args s' 0 0 (GA Γ)) 10 (gC σ gc) 130 [(0, .ref (ad Γ 63)), (1, .int a1), (2, .int a2), (3, .int a3), (4, .long v4), (6, .int v6), (7, .int v7), (8, .int v8), (9, .int v9)] [] := by
            intro v4 v6 v7 v8 v9 gc hk
            refine y_iinc hC dX10_drawn_130 8 rfl (v := (v9 + (1 : Int32))) rfl (by decide) [(9, .int (v9 + (1 : Int32))), (0, .ref (ad Γ 63)), (1, .int a1), (2, .int a2), (3, .int a3), (4, .long v4), (6, .int v6), (7, .int v7), (8, .int v8)] rfl 133 rfl ?_
            refine y_goto hC dX10_drawn_133 70 (by decide) ?_
            refine y_sub [1, 2, 3, 4, 5, 6, 7, 8, 0] rfl ?_
            exact ih70 (v4, v6, v7, v8, (v9 + (1 : Int32)), gc) hk
          refine y_iload hC dX10_drawn_70 8 rfl 72 rfl ?_
          refine y_aload_n hC dX10_drawn_72 0 rfl 73 rfl ?_
          refine y_get hC 63 (hA 63 (by decide)) (cl_H (u := (c_h q70.2.2.2.2.2)) rfl) rfl inU10 0 (by decide) w2_27 rfl dX10_drawn_73 76 rfl ?_
          refine y_getN hC (10 * 0) (hA 0 (by decide)) (cl_M (k := 0) (mm := (q70.2.2.2.2.2).2.1) (u := (c_m0 q70.2.2.2.2.2)) (by decide) rfl) rfl inU3 3 (by decide) w1_48 rfl dX10_drawn_76 79 rfl ?_
          refine y_icmp_ge hC dX10_drawn_79 136 (by decide) 82 rfl (fun h79 => ?_) (fun h79 => ?_)
          · have hk := ob_pos h79 hk
            refine y_sub [0, 1, 2, 3, 4, 5, 6, 7] rfl ?_
            exact J136 q70.1 q70.2.1 q70.2.2.1 q70.2.2.2.1 q70.2.2.2.2.2 hk
          · have hk := ob_neg h79 hk
            refine y_iload hC dX10_drawn_82 8 rfl 84 rfl ?_
            refine y_bipush hC dX10_drawn_84 (v := (8 : Int32)) (by decide) 86 rfl ?_
            refine y_icmp_ge hC dX10_drawn_86 136 (by decide) 89 rfl (fun h86 => ?_) (fun h86 => ?_)
            · have hk := ob_pos h86 hk
              refine y_sub [0, 1, 2, 3, 4, 5, 6, 7] rfl ?_
              exact J136 q70.1 q70.2.1 q70.2.2.1 q70.2.2.2.1 q70.2.2.2.2.2 hk
            · have hk := ob_neg h86 hk
              refine y_lload hC dX10_drawn_89 4 rfl 91 rfl ?_
              refine y_ldc2 hC (v := (1103515245 : Int64)) w4_53 dX10_drawn_91 94 rfl ?_
              refine y_lmul hC dX10_drawn_94 95 rfl ?_
              refine y_ldc2 hC (v := (12345 : Int64)) w4_54 dX10_drawn_95 98 rfl ?_
              refine y_ladd hC dX10_drawn_98 99 rfl ?_
              refine y_ldc2 hC (v := (2147483648 : Int64)) w4_55 dX10_drawn_99 102 rfl ?_
              refine y_lrem hC dX10_drawn_102 (by decide) 103 rfl ?_
              obtain ⟨n103, en103, hk⟩ := ob_lt hk
              refine y_topl en103 ?_
              refine y_lstore hC dX10_drawn_103 (by decide) [(4, .long n103), (0, .ref (ad Γ 63)), (1, .int a1), (2, .int a2), (3, .int a3), (6, .int q70.2.1), (7, .int q70.2.2.1), (8, .int q70.2.2.2.1), (9, .int q70.2.2.2.2.1)] rfl 105 rfl ?_
              refine y_lload hC dX10_drawn_105 0 rfl 107 rfl ?_
              refine y_ldc2 hC (v := (65536 : Int64)) w4_56 dX10_drawn_107 110 rfl ?_
              refine y_ldiv hC dX10_drawn_110 (by decide) 111 rfl ?_
              refine y_ldc2 hC (v := (100 : Int64)) w4_57 dX10_drawn_111 114 rfl ?_
              refine y_lrem hC dX10_drawn_114 (by decide) 115 rfl ?_
              refine y_iload_n hC dX10_drawn_115 4 rfl 116 rfl ?_
              refine y_i2l hC dX10_drawn_116 117 rfl ?_
              refine y_lcmp hC dX10_drawn_117 118 rfl ?_
              refine y_if_ge hC dX10_drawn_118 130 (by decide) 121 rfl (fun h118 => ?_) (fun h118 => ?_)
              · have hk := ob_pos h118 hk
                refine y_sub [1, 2, 3, 4, 0, 5, 6, 7, 8] rfl ?_
                exact J130 n103 q70.2.1 q70.2.2.1 q70.2.2.2.1 q70.2.2.2.2.1 q70.2.2.2.2.2 hk
              · have hk := ob_neg h118 hk
                refine y_iload hC dX10_drawn_121 7 rfl 123 rfl ?_
                refine y_iconst hC dX10_drawn_123 (v := (1 : Int32)) (by decide) 124 rfl ?_
                refine y_iload hC dX10_drawn_124 8 rfl 126 rfl ?_
                refine y_ishl hC dX10_drawn_126 127 rfl ?_
                refine y_ior hC dX10_drawn_127 128 rfl ?_
                obtain ⟨n128, en128, hk⟩ := ob_lt hk
                refine y_topi en128 ?_
                refine y_istore hC dX10_drawn_128 (by decide) [(8, .int n128), (4, .long n103), (0, .ref (ad Γ 63)), (1, .int a1), (2, .int a2), (3, .int a3), (6, .int q70.2.1), (7, .int q70.2.2.1), (9, .int q70.2.2.2.2.1)] rfl 130 rfl ?_
                refine y_sub [2, 3, 4, 5, 1, 6, 7, 0, 8] rfl ?_
                exact J130 n103 q70.2.1 q70.2.2.1 n128 q70.2.2.2.2.1 q70.2.2.2.2.2 hk
      refine y_iload hC dX10_drawn_58 6 rfl 60 rfl ?_
      refine y_iload_n hC dX10_drawn_60 2 rfl 61 rfl ?_
      refine y_icmp_ge hC dX10_drawn_61 167 (by decide) 64 rfl (fun h61 => ?_) (fun h61 => ?_)
      · have hk := ob_pos h61 hk
        refine y_iload hC dX10_drawn_167 5 rfl 169 rfl ?_
        have e := Option.some.inj hk
        exact y_iret hC hr hlk (by rw [← e]) (by first | rfl | rw [← e]) dX10_drawn_169
      · have hk := ob_neg h61 hk
        refine y_iconst hC dX10_drawn_64 (v := (0 : Int32)) (by decide) 65 rfl ?_
        refine y_istore hC dX10_drawn_65 (by decide) [(8, .int (0 : Int32)), (0, .ref (ad Γ 63)), (1, .int a1), (2, .int a2), (3, .int a3), (4, .long q58.1), (6, .int q58.2.1), (7, .int q58.2.2.1)] rfl 67 rfl ?_
        refine y_iconst hC dX10_drawn_67 (v := (0 : Int32)) (by decide) 68 rfl ?_
        refine y_istore hC dX10_drawn_68 (by decide) [(9, .int (0 : Int32)), (8, .int (0 : Int32)), (0, .ref (ad Γ 63)), (1, .int a1), (2, .int a2), (3, .int a3), (4, .long q58.1), (6, .int q58.2.1), (7, .int q58.2.2.1)] rfl 70 rfl ?_
        refine y_sub [2, 3, 4, 5, 6, 7, 8, 1, 0] rfl ?_
        exact L70 1000 (q58.1, q58.2.1, q58.2.2.1, (0 : Int32), (0 : Int32), q58.2.2.2) hk
  have J30 : ∀ (gc : CSt), f_X10_drawn_j30 a1 a2 a3 gc = some x → Y Γ (GA Γ) p l e ({ frames := 4, cells := 0, slots := 0, locals := 125 } : Room) s' m args below meth c' 0 0 (MQ below (Qg Γ (some (.int x.1)) (gC σ x.2)) args s' 0 0 (GA Γ)) 10 (gC σ gc) 30 [(0, .ref (ad Γ 63)), (1, .int a1), (2, .int a2), (3, .int a3)] [] := by
    intro gc hk
    refine y_aload_n hC dX10_drawn_30 0 rfl 31 rfl ?_
    refine y_bipush hC dX10_drawn_31 (v := (-2 : Int32)) (by decide) 33 rfl ?_
    obtain ⟨x33, hx33, hk⟩ := ob_bind hk
    refine y_callV hC 63 (hA 63 (by decide)) (cl_H (u := (c_h gc)) rfl) rfl (c_X10_refuse hJ hA l σ gc (-2 : Int32) x33 hx33) rfl ⟨w2_74, w1_1, cwd_X10_refuse, by decide, by decide⟩ w2_71 w2_73 ws1_0 rfl rfl (Nat.le_of_ble_eq_true rfl) (by decide) dX10_drawn_33 36 rfl (gC σ x33.2) rfl [.int x33.1] rfl ?_
    have e := Option.some.inj hk
    exact y_iret hC hr hlk (by rw [← e]) (by first | rfl | rw [← e]) dX10_drawn_36
  refine y_iload_n hC dX10_drawn_0 1 rfl 1 rfl ?_
  refine y_iconst hC dX10_drawn_1 (v := (0 : Int32)) (by decide) 2 rfl ?_
  refine y_ldc hC (v := (999999 : Int32)) w4_52 dX10_drawn_2 4 rfl ?_
  obtain ⟨x4, hx4, hk⟩ := ob_bind hk
  refine y_callS hC (c_X10_within hJ l (gC σ c) a1 (0 : Int32) (999999 : Int32) x4 hx4) rfl ⟨w2_70, w1_1, cwd_X10_within, by decide, by decide⟩ w2_68 w2_69 rfl rfl (Nat.le_of_ble_eq_true rfl) (by decide) dX10_drawn_4 7 rfl (gC σ c) rfl [.int x4] rfl ?_
  refine y_if_eq hC dX10_drawn_7 30 (by decide) 10 rfl (fun h7 => ?_) (fun h7 => ?_)
  · have hk := ob_pos h7 hk
    refine y_sub [0, 1, 2, 3] rfl ?_
    exact J30 c hk
  · have hk := ob_neg h7 hk
    refine y_iload_n hC dX10_drawn_10 2 rfl 11 rfl ?_
    refine y_iconst hC dX10_drawn_11 (v := (0 : Int32)) (by decide) 12 rfl ?_
    refine y_bipush hC dX10_drawn_12 (v := (30 : Int32)) (by decide) 14 rfl ?_
    obtain ⟨x14, hx14, hk⟩ := ob_bind hk
    refine y_callS hC (c_X10_within hJ l (gC σ c) a2 (0 : Int32) (30 : Int32) x14 hx14) rfl ⟨w2_70, w1_1, cwd_X10_within, by decide, by decide⟩ w2_68 w2_69 rfl rfl (Nat.le_of_ble_eq_true rfl) (by decide) dX10_drawn_14 17 rfl (gC σ c) rfl [.int x14] rfl ?_
    refine y_if_eq hC dX10_drawn_17 30 (by decide) 20 rfl (fun h17 => ?_) (fun h17 => ?_)
    · have hk := ob_pos h17 hk
      refine y_sub [0, 1, 2, 3] rfl ?_
      exact J30 c hk
    · have hk := ob_neg h17 hk
      refine y_iload_n hC dX10_drawn_20 3 rfl 21 rfl ?_
      refine y_iconst hC dX10_drawn_21 (v := (0 : Int32)) (by decide) 22 rfl ?_
      refine y_bipush hC dX10_drawn_22 (v := (100 : Int32)) (by decide) 24 rfl ?_
      obtain ⟨x24, hx24, hk⟩ := ob_bind hk
      refine y_callS hC (c_X10_within hJ l (gC σ c) a3 (0 : Int32) (100 : Int32) x24 hx24) rfl ⟨w2_70, w1_1, cwd_X10_within, by decide, by decide⟩ w2_68 w2_69 rfl rfl (Nat.le_of_ble_eq_true rfl) (by decide) dX10_drawn_24 27 rfl (gC σ c) rfl [.int x24] rfl ?_
      refine y_if_ne hC dX10_drawn_27 37 (by decide) 30 rfl (fun h27 => ?_) (fun h27 => ?_)
      · have hk := ob_neg h27 hk
        refine y_aload_n hC dX10_drawn_37 0 rfl 38 rfl ?_
        refine y_get hC 63 (hA 63 (by decide)) (cl_H (u := (c_h c)) rfl) rfl inU10 4 (by decide) w2_31 rfl dX10_drawn_38 41 rfl ?_
        refine y_aload_n hC dX10_drawn_41 0 rfl 42 rfl ?_
        refine y_get hC 63 (hA 63 (by decide)) (cl_H (u := (c_h c)) rfl) rfl inU10 0 (by decide) w2_27 rfl dX10_drawn_42 45 rfl ?_
        obtain ⟨x45, hx45, hk⟩ := ob_bind hk
        obtain ⟨g45, eg45, hk⟩ := ob_lt hk
        refine y_callVN hC 40 (hA 40 (by decide)) (cl_D (u := (c_d c)) rfl) rfl (c_X2_plan hJ hA l (gC σ c) 0 (by decide) (c_d c) (c_m0 c) x45 hx45) rfl ⟨w3_36, w1_4, cwd_X2_plan, by decide, by decide⟩ w3_190 w3_35 ws2_7 rfl rfl (Nat.le_of_ble_eq_true rfl) (by decide) dX10_drawn_45 48 rfl (gC σ g45) (by subst eg45; rfl) [] rfl ?_
        refine y_iload_n hC dX10_drawn_48 1 rfl 49 rfl ?_
        refine y_i2l hC dX10_drawn_49 50 rfl ?_
        refine y_lstore hC dX10_drawn_50 (by decide) [(4, .long a1.toInt64), (0, .ref (ad Γ 63)), (1, .int a1), (2, .int a2), (3, .int a3)] rfl 52 rfl ?_
        refine y_iconst hC dX10_drawn_52 (v := (0 : Int32)) (by decide) 53 rfl ?_
        refine y_istore hC dX10_drawn_53 (by decide) [(6, .int (0 : Int32)), (4, .long a1.toInt64), (0, .ref (ad Γ 63)), (1, .int a1), (2, .int a2), (3, .int a3)] rfl 55 rfl ?_
        refine y_iconst hC dX10_drawn_55 (v := (0 : Int32)) (by decide) 56 rfl ?_
        refine y_istore hC dX10_drawn_56 (by decide) [(7, .int (0 : Int32)), (6, .int (0 : Int32)), (4, .long a1.toInt64), (0, .ref (ad Γ 63)), (1, .int a1), (2, .int a2), (3, .int a3)] rfl 58 rfl ?_
        refine y_sub [3, 4, 5, 6, 2, 1, 0] rfl ?_
        exact L58 1000 (a1.toInt64, (0 : Int32), (0 : Int32), g45) hk
      · have hk := ob_pos h27 hk
        refine y_sub [0, 1, 2, 3] rfl ?_
        exact J30 c hk
def f_X10_part (c : CSt) (a1 : Int32) : Option (Int64 × CSt) :=
  (f_X10_within a1 (0 : Int32) (1 : Int32)).bind fun x3 => 
    (if x3 = 0 then
      (f_X10_refuse c (-2 : Int32)).bind fun x12 => 
        (some (x12.1.toInt64, x12.2))
    else
      if a1 = 0 then
        some ((pH_above (c_h c)), c)
      else
        some ((pH_below (c_h c)), c))
theorem cwd_X10_part : yX10_part.cls ≠ "java/lang/invoke/MethodHandle" ∧ yX10_part.cls ≠ "java/lang/invoke/VarHandle" ∧ (parseMethodDescriptor yX10_part.desc).map (fun d => d.parameters.length) = some 1 := by decide +kernel
set_option maxHeartbeats 4000000 in
set_option maxRecDepth 100000 in
theorem c_X10_part {Γ : GC} (hJ : GJ Γ) (hA : ∀ i, i < 66 → act Γ i) (l : Launch) (σ : GSt) (c : CSt) (a1 : Int32) (x : Int64 × CSt) (hk : f_X10_part c a1 = some x) : Mt Γ l yX10_part cX10_part 2 (some .long) 1 22 [.ref (ad Γ 63), .int a1] (gC σ c) (some (.long x.1)) (gC σ x.2) := by
  refine y_enter (by decide) hJ (Nat.le_of_ble_eq_true rfl) [(0, .ref (ad Γ 63)), (1, .int a1)] rfl ?_
  intro p e s' m args below meth c' hC hr hlk
  refine y_iload_n hC dX10_part_0 1 rfl 1 rfl ?_
  refine y_iconst hC dX10_part_1 (v := (0 : Int32)) (by decide) 2 rfl ?_
  refine y_iconst hC dX10_part_2 (v := (1 : Int32)) (by decide) 3 rfl ?_
  obtain ⟨x3, hx3, hk⟩ := ob_bind hk
  refine y_callS hC (c_X10_within hJ l (gC σ c) a1 (0 : Int32) (1 : Int32) x3 hx3) rfl ⟨w2_70, w1_1, cwd_X10_within, by decide, by decide⟩ w2_68 w2_69 rfl rfl (Nat.le_of_ble_eq_true rfl) (by decide) dX10_part_3 6 rfl (gC σ c) rfl [.int x3] rfl ?_
  refine y_if_ne hC dX10_part_6 17 (by decide) 9 rfl (fun h6 => ?_) (fun h6 => ?_)
  · have hk := ob_neg h6 hk
    refine y_iload_n hC dX10_part_17 1 rfl 18 rfl ?_
    refine y_if_ne hC dX10_part_18 28 (by decide) 21 rfl (fun h18 => ?_) (fun h18 => ?_)
    · have hk := ob_neg h18 hk
      refine y_aload_n hC dX10_part_28 0 rfl 29 rfl ?_
      refine y_get hC 63 (hA 63 (by decide)) (cl_H (u := (c_h c)) rfl) rfl inU10 8 (by decide) w2_35 rfl dX10_part_29 32 rfl ?_
      have e := Option.some.inj hk
      exact y_lret hC hr hlk (by rw [← e]) (by first | rfl | rw [← e]) dX10_part_32
    · have hk := ob_pos h18 hk
      refine y_aload_n hC dX10_part_21 0 rfl 22 rfl ?_
      refine y_get hC 63 (hA 63 (by decide)) (cl_H (u := (c_h c)) rfl) rfl inU10 7 (by decide) w2_34 rfl dX10_part_22 25 rfl ?_
      refine y_goto hC dX10_part_25 32 (by decide) ?_
      have e := Option.some.inj hk
      exact y_lret hC hr hlk (by rw [← e]) (by first | rfl | rw [← e]) dX10_part_32
  · have hk := ob_pos h6 hk
    refine y_aload_n hC dX10_part_9 0 rfl 10 rfl ?_
    refine y_bipush hC dX10_part_10 (v := (-2 : Int32)) (by decide) 12 rfl ?_
    obtain ⟨x12, hx12, hk⟩ := ob_bind hk
    refine y_callV hC 63 (hA 63 (by decide)) (cl_H (u := (c_h c)) rfl) rfl (c_X10_refuse hJ hA l σ c (-2 : Int32) x12 hx12) rfl ⟨w2_74, w1_1, cwd_X10_refuse, by decide, by decide⟩ w2_71 w2_73 ws1_0 rfl rfl (Nat.le_of_ble_eq_true rfl) (by decide) dX10_part_12 15 rfl (gC σ x12.2) rfl [.int x12.1] rfl ?_
    refine y_i2l hC dX10_part_15 16 rfl ?_
    have e := Option.some.inj hk
    exact y_lret hC hr hlk (by rw [← e]) (by first | rfl | rw [← e]) dX10_part_16
def f_X10_image (c : CSt) (a1 : Int32) : Option (Int32 × CSt) :=
  (f_X10_within a1 (0 : Int32) (1 : Int32)).bind fun x3 => 
    (if x3 = 0 then
      (f_X10_refuse c (-2 : Int32)).bind fun x12 => 
        (some (x12.1, x12.2))
    else
      if inb a1 2 then 
        ((f_X3_becomes (getM (2 + a1.toNatClampNeg) (c).2.1) (c_m0 c)).bind fun x26 => 
        (lt (sc_k (2 + a1.toNatClampNeg) c x26) fun g26 => 
        (if inb a1 2 then 
        (lt (sc_h g26 (sH_kept (c_h g26) (upd (pH_kept (c_h g26)) a1.toNatClampNeg (vp_nar .boolean (1 : Int32))))) fun g35 => 
        (some ((1 : Int32), g35)))
      else none)))
      else none)
theorem cwd_X10_image : yX10_image.cls ≠ "java/lang/invoke/MethodHandle" ∧ yX10_image.cls ≠ "java/lang/invoke/VarHandle" ∧ (parseMethodDescriptor yX10_image.desc).map (fun d => d.parameters.length) = some 1 := by decide +kernel
set_option maxHeartbeats 4000000 in
set_option maxRecDepth 100000 in
theorem c_X10_image {Γ : GC} (hJ : GJ Γ) (hA : ∀ i, i < 66 → act Γ i) (l : Launch) (σ : GSt) (c : CSt) (a1 : Int32) (x : Int32 × CSt) (hk : f_X10_image c a1 = some x) : Mt Γ l yX10_image cX10_image 2 (some .int) 2 61 [.ref (ad Γ 63), .int a1] (gC σ c) (some (.int x.1)) (gC σ x.2) := by
  refine y_enter (by decide) hJ (Nat.le_of_ble_eq_true rfl) [(0, .ref (ad Γ 63)), (1, .int a1)] rfl ?_
  intro p e s' m args below meth c' hC hr hlk
  refine y_iload_n hC dX10_image_0 1 rfl 1 rfl ?_
  refine y_iconst hC dX10_image_1 (v := (0 : Int32)) (by decide) 2 rfl ?_
  refine y_iconst hC dX10_image_2 (v := (1 : Int32)) (by decide) 3 rfl ?_
  obtain ⟨x3, hx3, hk⟩ := ob_bind hk
  refine y_callS hC (c_X10_within hJ l (gC σ c) a1 (0 : Int32) (1 : Int32) x3 hx3) rfl ⟨w2_70, w1_1, cwd_X10_within, by decide, by decide⟩ w2_68 w2_69 rfl rfl (Nat.le_of_ble_eq_true rfl) (by decide) dX10_image_3 6 rfl (gC σ c) rfl [.int x3] rfl ?_
  refine y_if_ne hC dX10_image_6 16 (by decide) 9 rfl (fun h6 => ?_) (fun h6 => ?_)
  · have hk := ob_neg h6 hk
    refine y_aload_n hC dX10_image_16 0 rfl 17 rfl ?_
    refine y_get hC 63 (hA 63 (by decide)) (cl_H (u := (c_h c)) rfl) rfl inU10 2 (by decide) w2_29 rfl dX10_image_17 20 rfl ?_
    refine y_iload_n hC dX10_image_20 1 rfl 21 rfl ?_
    obtain ⟨h21, hk⟩ := ob_if hk
    have hk4 := inb_k h21
    refine y_aald hC 64 3 (hA 64 (by decide)) cl_images rfl h21 dX10_image_21 rfl 22 rfl ?_
    refine y_aload_n hC dX10_image_22 0 rfl 23 rfl ?_
    refine y_get hC 63 (hA 63 (by decide)) (cl_H (u := (c_h c)) rfl) rfl inU10 0 (by decide) w2_27 rfl dX10_image_23 26 rfl ?_
    obtain ⟨x26, hx26, hk⟩ := ob_bind hk
    obtain ⟨g26, eg26, hk⟩ := ob_lt hk
    refine y_callVN hC (10 * (2 + a1.toNatClampNeg)) (hA (10 * (2 + a1.toNatClampNeg)) (by omega)) (cl_M (k := (2 + a1.toNatClampNeg)) (mm := (c).2.1) (u := (getM (2 + a1.toNatClampNeg) (c).2.1)) hk4 (setM_get _ _).symm) rfl (c_X3_becomes hJ hA l (gC σ c) (2 + a1.toNatClampNeg) hk4 0 (by decide) (by omega) (getM (2 + a1.toNatClampNeg) (c).2.1) (c_m0 c) x26 hx26) (img_pre (gC σ c) (2 + a1.toNatClampNeg) 0) ⟨w3_16, w1_2, cwd_X3_becomes, by decide, by decide⟩ w3_13 w3_15 ws2_4 rfl rfl (Nat.le_of_ble_eq_true rfl) (by decide) dX10_image_26 29 rfl (gC σ g26) (by subst eg26; exact img_post σ c (2 + a1.toNatClampNeg) 0 x26) [] rfl ?_
    refine y_aload_n hC dX10_image_29 0 rfl 30 rfl ?_
    refine y_get hC 63 (hA 63 (by decide)) (cl_H (u := (c_h g26)) rfl) rfl inU10 3 (by decide) w2_30 rfl dX10_image_30 33 rfl ?_
    refine y_iload_n hC dX10_image_33 1 rfl 34 rfl ?_
    refine y_iconst hC dX10_image_34 (v := (1 : Int32)) (by decide) 35 rfl ?_
    obtain ⟨h35, hk⟩ := ob_if hk
    obtain ⟨g35, eg35, hk⟩ := ob_lt hk
    refine y_zast hC 65 (hA 65 (by decide)) (cl_H_kept (u := (c_h g26)) rfl) h35 (gC σ g35) (by subst eg35; exact (cu_H_kept (u := (c_h g26)) (v := (upd (pH_kept (c_h g26)) a1.toNatClampNeg (vp_nar .boolean (1 : Int32)))) rfl rfl)) dX10_image_35 36 rfl ?_
    refine y_iconst hC dX10_image_36 (v := (1 : Int32)) (by decide) 37 rfl ?_
    have e := Option.some.inj hk
    exact y_iret hC hr hlk (by rw [← e]) (by first | rfl | rw [← e]) dX10_image_37
  · have hk := ob_pos h6 hk
    refine y_aload_n hC dX10_image_9 0 rfl 10 rfl ?_
    refine y_bipush hC dX10_image_10 (v := (-2 : Int32)) (by decide) 12 rfl ?_
    obtain ⟨x12, hx12, hk⟩ := ob_bind hk
    refine y_callV hC 63 (hA 63 (by decide)) (cl_H (u := (c_h c)) rfl) rfl (c_X10_refuse hJ hA l σ c (-2 : Int32) x12 hx12) rfl ⟨w2_74, w1_1, cwd_X10_refuse, by decide, by decide⟩ w2_71 w2_73 ws1_0 rfl rfl (Nat.le_of_ble_eq_true rfl) (by decide) dX10_image_12 15 rfl (gC σ x12.2) rfl [.int x12.1] rfl ?_
    have e := Option.some.inj hk
    exact y_iret hC hr hlk (by rw [← e]) (by first | rfl | rw [← e]) dX10_image_15
def f_X10_from (c : CSt) (a1 : Int32) : Option (Int32 × CSt) :=
  (f_X10_within a1 (0 : Int32) (1 : Int32)).bind fun x3 => 
    (if x3 = 0 then
      (f_X10_refuse c (-2 : Int32)).bind fun x12 => 
        (some (x12.1, x12.2))
    else
      if inb a1 2 then 
        (if (pH_kept (c_h c) a1.toNatClampNeg) = 0 then
          (f_X10_refuse c (-3 : Int32)).bind fun x28 => 
            (some (x28.1, x28.2))
        else
          if inb a1 2 then 
            ((f_X3_becomes (c_m0 c) (getM (2 + a1.toNatClampNeg) (c).2.1)).bind fun x42 => 
            (lt (sc_m0 c x42) fun g42 => 
            (some ((1 : Int32), g42))))
          else none)
      else none)
theorem cwd_X10_from : yX10_from.cls ≠ "java/lang/invoke/MethodHandle" ∧ yX10_from.cls ≠ "java/lang/invoke/VarHandle" ∧ (parseMethodDescriptor yX10_from.desc).map (fun d => d.parameters.length) = some 1 := by decide +kernel
set_option maxHeartbeats 4000000 in
set_option maxRecDepth 100000 in
theorem c_X10_from {Γ : GC} (hJ : GJ Γ) (hA : ∀ i, i < 66 → act Γ i) (l : Launch) (σ : GSt) (c : CSt) (a1 : Int32) (x : Int32 × CSt) (hk : f_X10_from c a1 = some x) : Mt Γ l yX10_from cX10_from 2 (some .int) 2 61 [.ref (ad Γ 63), .int a1] (gC σ c) (some (.int x.1)) (gC σ x.2) := by
  refine y_enter (by decide) hJ (Nat.le_of_ble_eq_true rfl) [(0, .ref (ad Γ 63)), (1, .int a1)] rfl ?_
  intro p e s' m args below meth c' hC hr hlk
  refine y_iload_n hC dX10_from_0 1 rfl 1 rfl ?_
  refine y_iconst hC dX10_from_1 (v := (0 : Int32)) (by decide) 2 rfl ?_
  refine y_iconst hC dX10_from_2 (v := (1 : Int32)) (by decide) 3 rfl ?_
  obtain ⟨x3, hx3, hk⟩ := ob_bind hk
  refine y_callS hC (c_X10_within hJ l (gC σ c) a1 (0 : Int32) (1 : Int32) x3 hx3) rfl ⟨w2_70, w1_1, cwd_X10_within, by decide, by decide⟩ w2_68 w2_69 rfl rfl (Nat.le_of_ble_eq_true rfl) (by decide) dX10_from_3 6 rfl (gC σ c) rfl [.int x3] rfl ?_
  refine y_if_ne hC dX10_from_6 16 (by decide) 9 rfl (fun h6 => ?_) (fun h6 => ?_)
  · have hk := ob_neg h6 hk
    refine y_aload_n hC dX10_from_16 0 rfl 17 rfl ?_
    refine y_get hC 63 (hA 63 (by decide)) (cl_H (u := (c_h c)) rfl) rfl inU10 3 (by decide) w2_30 rfl dX10_from_17 20 rfl ?_
    refine y_iload_n hC dX10_from_20 1 rfl 21 rfl ?_
    obtain ⟨h21, hk⟩ := ob_if hk
    refine y_zald hC 65 (hA 65 (by decide)) (cl_H_kept (u := (c_h c)) rfl) h21 dX10_from_21 22 rfl ?_
    refine y_if_ne hC dX10_from_22 32 (by decide) 25 rfl (fun h22 => ?_) (fun h22 => ?_)
    · have hk := ob_neg h22 hk
      refine y_aload_n hC dX10_from_32 0 rfl 33 rfl ?_
      refine y_get hC 63 (hA 63 (by decide)) (cl_H (u := (c_h c)) rfl) rfl inU10 0 (by decide) w2_27 rfl dX10_from_33 36 rfl ?_
      refine y_aload_n hC dX10_from_36 0 rfl 37 rfl ?_
      refine y_get hC 63 (hA 63 (by decide)) (cl_H (u := (c_h c)) rfl) rfl inU10 2 (by decide) w2_29 rfl dX10_from_37 40 rfl ?_
      refine y_iload_n hC dX10_from_40 1 rfl 41 rfl ?_
      obtain ⟨h41, hk⟩ := ob_if hk
      have hk4 := inb_k h41
      refine y_aald hC 64 3 (hA 64 (by decide)) cl_images rfl h41 dX10_from_41 rfl 42 rfl ?_
      obtain ⟨x42, hx42, hk⟩ := ob_bind hk
      obtain ⟨g42, eg42, hk⟩ := ob_lt hk
      refine y_callVN hC (10 * 0) (hA 0 (by decide)) (cl_M (k := 0) (mm := (c).2.1) (u := (c_m0 c)) (by decide) rfl) rfl (c_X3_becomes hJ hA l (gC σ c) 0 (by decide) (2 + a1.toNatClampNeg) hk4 (by omega) (c_m0 c) (getM (2 + a1.toNatClampNeg) (c).2.1) x42 hx42) (img_pre (gC σ c) 0 (2 + a1.toNatClampNeg)) ⟨w3_16, w1_2, cwd_X3_becomes, by decide, by decide⟩ w3_13 w3_15 ws2_4 rfl rfl (Nat.le_of_ble_eq_true rfl) (by decide) dX10_from_42 45 rfl (gC σ g42) (by subst eg42; exact img_post σ c 0 (2 + a1.toNatClampNeg) x42) [] rfl ?_
      refine y_iconst hC dX10_from_45 (v := (1 : Int32)) (by decide) 46 rfl ?_
      have e := Option.some.inj hk
      exact y_iret hC hr hlk (by rw [← e]) (by first | rfl | rw [← e]) dX10_from_46
    · have hk := ob_pos h22 hk
      refine y_aload_n hC dX10_from_25 0 rfl 26 rfl ?_
      refine y_bipush hC dX10_from_26 (v := (-3 : Int32)) (by decide) 28 rfl ?_
      obtain ⟨x28, hx28, hk⟩ := ob_bind hk
      refine y_callV hC 63 (hA 63 (by decide)) (cl_H (u := (c_h c)) rfl) rfl (c_X10_refuse hJ hA l σ c (-3 : Int32) x28 hx28) rfl ⟨w2_74, w1_1, cwd_X10_refuse, by decide, by decide⟩ w2_71 w2_73 ws1_0 rfl rfl (Nat.le_of_ble_eq_true rfl) (by decide) dX10_from_28 31 rfl (gC σ x28.2) rfl [.int x28.1] rfl ?_
      have e := Option.some.inj hk
      exact y_iret hC hr hlk (by rw [← e]) (by first | rfl | rw [← e]) dX10_from_31
  · have hk := ob_pos h6 hk
    refine y_aload_n hC dX10_from_9 0 rfl 10 rfl ?_
    refine y_bipush hC dX10_from_10 (v := (-2 : Int32)) (by decide) 12 rfl ?_
    obtain ⟨x12, hx12, hk⟩ := ob_bind hk
    refine y_callV hC 63 (hA 63 (by decide)) (cl_H (u := (c_h c)) rfl) rfl (c_X10_refuse hJ hA l σ c (-2 : Int32) x12 hx12) rfl ⟨w2_74, w1_1, cwd_X10_refuse, by decide, by decide⟩ w2_71 w2_73 ws1_0 rfl rfl (Nat.le_of_ble_eq_true rfl) (by decide) dX10_from_12 15 rfl (gC σ x12.2) rfl [.int x12.1] rfl ?_
    have e := Option.some.inj hk
    exact y_iret hC hr hlk (by rw [← e]) (by first | rfl | rw [← e]) dX10_from_15
def f_X10_status (c : CSt) (a1 : Int32) : Option (Int32 × CSt) :=
  if a1.toInt = 0 then
    some ((pH_refusedBad (c_h c)), c)
  else
    if a1.toInt = 1 then
      some ((pH_refusedNo (c_h c)), c)
    else
      if a1.toInt = 2 then
        some ((pH_refusedFull (c_h c)), c)
      else
        (f_X10_refuse c (-2 : Int32)).bind fun x46 => 
          (some ((-1 : Int32), x46.2))
theorem cwd_X10_status : yX10_status.cls ≠ "java/lang/invoke/MethodHandle" ∧ yX10_status.cls ≠ "java/lang/invoke/VarHandle" ∧ (parseMethodDescriptor yX10_status.desc).map (fun d => d.parameters.length) = some 1 := by decide +kernel
set_option maxHeartbeats 4000000 in
set_option maxRecDepth 100000 in
theorem c_X10_status {Γ : GC} (hJ : GJ Γ) (hA : ∀ i, i < 66 → act Γ i) (l : Launch) (σ : GSt) (c : CSt) (a1 : Int32) (x : Int32 × CSt) (hk : f_X10_status c a1 = some x) : Mt Γ l yX10_status cX10_status 2 (some .int) 1 21 [.ref (ad Γ 63), .int a1] (gC σ c) (some (.int x.1)) (gC σ x.2) := by
  refine y_enter (by decide) hJ (Nat.le_of_ble_eq_true rfl) [(0, .ref (ad Γ 63)), (1, .int a1)] rfl ?_
  intro p e s' m args below meth c' hC hr hlk
  refine y_iload_n hC dX10_status_0 1 rfl 1 rfl ?_
  by_cases h1_0 : a1.toInt = 0
  · have hk := ob_pos h1_0 hk
    refine y_tabI hC dX10_status_1 h1_0 (by decide) (by decide) rfl 28 (by decide) ?_
    refine y_aload_n hC dX10_status_28 0 rfl 29 rfl ?_
    refine y_get hC 63 (hA 63 (by decide)) (cl_H (u := (c_h c)) rfl) rfl inU10 9 (by decide) w2_36 rfl dX10_status_29 32 rfl ?_
    have e := Option.some.inj hk
    exact y_iret hC hr hlk (by rw [← e]) (by first | rfl | rw [← e]) dX10_status_32
  · have hk := ob_neg h1_0 hk
    by_cases h1_1 : a1.toInt = 1
    · have hk := ob_pos h1_1 hk
      refine y_tabI hC dX10_status_1 h1_1 (by decide) (by decide) rfl 33 (by decide) ?_
      refine y_aload_n hC dX10_status_33 0 rfl 34 rfl ?_
      refine y_get hC 63 (hA 63 (by decide)) (cl_H (u := (c_h c)) rfl) rfl inU10 10 (by decide) w2_37 rfl dX10_status_34 37 rfl ?_
      have e := Option.some.inj hk
      exact y_iret hC hr hlk (by rw [← e]) (by first | rfl | rw [← e]) dX10_status_37
    · have hk := ob_neg h1_1 hk
      by_cases h1_2 : a1.toInt = 2
      · have hk := ob_pos h1_2 hk
        refine y_tabI hC dX10_status_1 h1_2 (by decide) (by decide) rfl 38 (by decide) ?_
        refine y_aload_n hC dX10_status_38 0 rfl 39 rfl ?_
        refine y_get hC 63 (hA 63 (by decide)) (cl_H (u := (c_h c)) rfl) rfl inU10 11 (by decide) w2_38 rfl dX10_status_39 42 rfl ?_
        have e := Option.some.inj hk
        exact y_iret hC hr hlk (by rw [← e]) (by first | rfl | rw [← e]) dX10_status_42
      · have hk := ob_neg h1_2 hk
        refine y_tabO hC dX10_status_1 (by omega) 43 (by decide) ?_
        refine y_aload_n hC dX10_status_43 0 rfl 44 rfl ?_
        refine y_bipush hC dX10_status_44 (v := (-2 : Int32)) (by decide) 46 rfl ?_
        obtain ⟨x46, hx46, hk⟩ := ob_bind hk
        refine y_callV hC 63 (hA 63 (by decide)) (cl_H (u := (c_h c)) rfl) rfl (c_X10_refuse hJ hA l σ c (-2 : Int32) x46 hx46) rfl ⟨w2_74, w1_1, cwd_X10_refuse, by decide, by decide⟩ w2_71 w2_73 ws1_0 rfl rfl (Nat.le_of_ble_eq_true rfl) (by decide) dX10_status_46 49 rfl (gC σ x46.2) rfl [.int x46.1] rfl ?_
        refine y_pop hC dX10_status_49 rfl 50 rfl ?_
        refine y_iconst hC dX10_status_50 (v := (-1 : Int32)) (by decide) 51 rfl ?_
        have e := Option.some.inj hk
        exact y_iret hC hr hlk (by rw [← e]) (by first | rfl | rw [← e]) dX10_status_51
def f_X10_howMany (c : CSt) (a1 : Int32) : Option (Int32) :=
  if a1.toInt = 0 then
    some (pM_punnets (c_m0 c))
  else
    if a1.toInt = 1 then
      some (pM_heat (c_m0 c))
    else
      if a1.toInt = 2 then
        some (pM_size (c_m0 c))
      else
        if a1.toInt = 3 then
          some (pM_totalTakings (c_m0 c))
        else
          if a1.toInt = 4 then
            some (pM_totalThrown (c_m0 c))
          else
            if a1.toInt = 5 then
              some (pM_soldSize (c_m0 c))
            else
              if a1.toInt = 6 then
                some (pM_pastSize (c_m0 c))
              else
                some (pR_length (c_r c))
theorem cwd_X10_howMany : yX10_howMany.cls ≠ "java/lang/invoke/MethodHandle" ∧ yX10_howMany.cls ≠ "java/lang/invoke/VarHandle" ∧ (parseMethodDescriptor yX10_howMany.desc).map (fun d => d.parameters.length) = some 1 := by decide +kernel
set_option maxHeartbeats 4000000 in
set_option maxRecDepth 100000 in
theorem c_X10_howMany {Γ : GC} (hJ : GJ Γ) (hA : ∀ i, i < 66 → act Γ i) (l : Launch) (σ : GSt) (c : CSt) (a1 : Int32) (x : Int32) (hk : f_X10_howMany c a1 = some x) : Mt Γ l yX10_howMany cX10_howMany 2 (some .int) 0 0 [.ref (ad Γ 63), .int a1] (gC σ c) (some (.int x)) (gC σ c) := by
  refine y_enter (by decide) hJ (Nat.le_of_ble_eq_true rfl) [(0, .ref (ad Γ 63)), (1, .int a1)] rfl ?_
  intro p e s' m args below meth c' hC hr hlk
  refine y_iload_n hC dX10_howMany_0 1 rfl 1 rfl ?_
  by_cases h1_0 : a1.toInt = 0
  · have hk := ob_pos h1_0 hk
    refine y_tabI hC dX10_howMany_1 h1_0 (by decide) (by decide) rfl 44 (by decide) ?_
    refine y_aload_n hC dX10_howMany_44 0 rfl 45 rfl ?_
    refine y_get hC 63 (hA 63 (by decide)) (cl_H (u := (c_h c)) rfl) rfl inU10 0 (by decide) w2_27 rfl dX10_howMany_45 48 rfl ?_
    refine y_getN hC (10 * 0) (hA 0 (by decide)) (cl_M (k := 0) (mm := (c).2.1) (u := (c_m0 c)) (by decide) rfl) rfl inU3 0 (by decide) w1_39 rfl dX10_howMany_48 51 rfl ?_
    have e := Option.some.inj hk
    exact y_iret hC hr hlk (by rw [← e]) (by first | rfl | rw [← e]) dX10_howMany_51
  · have hk := ob_neg h1_0 hk
    by_cases h1_1 : a1.toInt = 1
    · have hk := ob_pos h1_1 hk
      refine y_tabI hC dX10_howMany_1 h1_1 (by decide) (by decide) rfl 52 (by decide) ?_
      refine y_aload_n hC dX10_howMany_52 0 rfl 53 rfl ?_
      refine y_get hC 63 (hA 63 (by decide)) (cl_H (u := (c_h c)) rfl) rfl inU10 0 (by decide) w2_27 rfl dX10_howMany_53 56 rfl ?_
      refine y_getN hC (10 * 0) (hA 0 (by decide)) (cl_M (k := 0) (mm := (c).2.1) (u := (c_m0 c)) (by decide) rfl) rfl inU3 1 (by decide) w1_43 rfl dX10_howMany_56 59 rfl ?_
      have e := Option.some.inj hk
      exact y_iret hC hr hlk (by rw [← e]) (by first | rfl | rw [← e]) dX10_howMany_59
    · have hk := ob_neg h1_1 hk
      by_cases h1_2 : a1.toInt = 2
      · have hk := ob_pos h1_2 hk
        refine y_tabI hC dX10_howMany_1 h1_2 (by decide) (by decide) rfl 60 (by decide) ?_
        refine y_aload_n hC dX10_howMany_60 0 rfl 61 rfl ?_
        refine y_get hC 63 (hA 63 (by decide)) (cl_H (u := (c_h c)) rfl) rfl inU10 0 (by decide) w2_27 rfl dX10_howMany_61 64 rfl ?_
        refine y_getN hC (10 * 0) (hA 0 (by decide)) (cl_M (k := 0) (mm := (c).2.1) (u := (c_m0 c)) (by decide) rfl) rfl inU3 3 (by decide) w1_48 rfl dX10_howMany_64 67 rfl ?_
        have e := Option.some.inj hk
        exact y_iret hC hr hlk (by rw [← e]) (by first | rfl | rw [← e]) dX10_howMany_67
      · have hk := ob_neg h1_2 hk
        by_cases h1_3 : a1.toInt = 3
        · have hk := ob_pos h1_3 hk
          refine y_tabI hC dX10_howMany_1 h1_3 (by decide) (by decide) rfl 68 (by decide) ?_
          refine y_aload_n hC dX10_howMany_68 0 rfl 69 rfl ?_
          refine y_get hC 63 (hA 63 (by decide)) (cl_H (u := (c_h c)) rfl) rfl inU10 0 (by decide) w2_27 rfl dX10_howMany_69 72 rfl ?_
          refine y_getN hC (10 * 0) (hA 0 (by decide)) (cl_M (k := 0) (mm := (c).2.1) (u := (c_m0 c)) (by decide) rfl) rfl inU3 4 (by decide) w1_52 rfl dX10_howMany_72 75 rfl ?_
          have e := Option.some.inj hk
          exact y_iret hC hr hlk (by rw [← e]) (by first | rfl | rw [← e]) dX10_howMany_75
        · have hk := ob_neg h1_3 hk
          by_cases h1_4 : a1.toInt = 4
          · have hk := ob_pos h1_4 hk
            refine y_tabI hC dX10_howMany_1 h1_4 (by decide) (by decide) rfl 76 (by decide) ?_
            refine y_aload_n hC dX10_howMany_76 0 rfl 77 rfl ?_
            refine y_get hC 63 (hA 63 (by decide)) (cl_H (u := (c_h c)) rfl) rfl inU10 0 (by decide) w2_27 rfl dX10_howMany_77 80 rfl ?_
            refine y_getN hC (10 * 0) (hA 0 (by decide)) (cl_M (k := 0) (mm := (c).2.1) (u := (c_m0 c)) (by decide) rfl) rfl inU3 5 (by decide) w1_54 rfl dX10_howMany_80 83 rfl ?_
            have e := Option.some.inj hk
            exact y_iret hC hr hlk (by rw [← e]) (by first | rfl | rw [← e]) dX10_howMany_83
          · have hk := ob_neg h1_4 hk
            by_cases h1_5 : a1.toInt = 5
            · have hk := ob_pos h1_5 hk
              refine y_tabI hC dX10_howMany_1 h1_5 (by decide) (by decide) rfl 84 (by decide) ?_
              refine y_aload_n hC dX10_howMany_84 0 rfl 85 rfl ?_
              refine y_get hC 63 (hA 63 (by decide)) (cl_H (u := (c_h c)) rfl) rfl inU10 0 (by decide) w2_27 rfl dX10_howMany_85 88 rfl ?_
              refine y_getN hC (10 * 0) (hA 0 (by decide)) (cl_M (k := 0) (mm := (c).2.1) (u := (c_m0 c)) (by decide) rfl) rfl inU3 6 (by decide) w1_57 rfl dX10_howMany_88 91 rfl ?_
              have e := Option.some.inj hk
              exact y_iret hC hr hlk (by rw [← e]) (by first | rfl | rw [← e]) dX10_howMany_91
            · have hk := ob_neg h1_5 hk
              by_cases h1_6 : a1.toInt = 6
              · have hk := ob_pos h1_6 hk
                refine y_tabI hC dX10_howMany_1 h1_6 (by decide) (by decide) rfl 92 (by decide) ?_
                refine y_aload_n hC dX10_howMany_92 0 rfl 93 rfl ?_
                refine y_get hC 63 (hA 63 (by decide)) (cl_H (u := (c_h c)) rfl) rfl inU10 0 (by decide) w2_27 rfl dX10_howMany_93 96 rfl ?_
                refine y_getN hC (10 * 0) (hA 0 (by decide)) (cl_M (k := 0) (mm := (c).2.1) (u := (c_m0 c)) (by decide) rfl) rfl inU3 7 (by decide) w1_59 rfl dX10_howMany_96 99 rfl ?_
                have e := Option.some.inj hk
                exact y_iret hC hr hlk (by rw [← e]) (by first | rfl | rw [← e]) dX10_howMany_99
              · have hk := ob_neg h1_6 hk
                refine y_tabO hC dX10_howMany_1 (by omega) 100 (by decide) ?_
                refine y_aload_n hC dX10_howMany_100 0 rfl 101 rfl ?_
                refine y_get hC 63 (hA 63 (by decide)) (cl_H (u := (c_h c)) rfl) rfl inU10 6 (by decide) w2_33 rfl dX10_howMany_101 104 rfl ?_
                refine y_getN hC 61 (hA 61 (by decide)) (cl_R (u := (c_r c)) rfl) rfl inU6 1 (by decide) w2_9 rfl dX10_howMany_104 107 rfl ?_
                have e := Option.some.inj hk
                exact y_iret hC hr hlk (by rw [← e]) (by first | rfl | rw [← e]) dX10_howMany_107
def f_X10_count (c : CSt) (a1 : Int32) : Option (Int32 × CSt) :=
  (f_X10_within a1 (0 : Int32) (7 : Int32)).bind fun x4 => 
    (if x4 = 0 then
      (f_X10_refuse c (-2 : Int32)).bind fun x13 => 
        (some (x13.1, x13.2))
    else
      (f_X10_howMany c a1).bind fun x19 => 
        (some (x19, c)))
theorem cwd_X10_count : yX10_count.cls ≠ "java/lang/invoke/MethodHandle" ∧ yX10_count.cls ≠ "java/lang/invoke/VarHandle" ∧ (parseMethodDescriptor yX10_count.desc).map (fun d => d.parameters.length) = some 1 := by decide +kernel
set_option maxHeartbeats 4000000 in
set_option maxRecDepth 100000 in
theorem c_X10_count {Γ : GC} (hJ : GJ Γ) (hA : ∀ i, i < 66 → act Γ i) (l : Launch) (σ : GSt) (c : CSt) (a1 : Int32) (x : Int32 × CSt) (hk : f_X10_count c a1 = some x) : Mt Γ l yX10_count cX10_count 2 (some .int) 1 22 [.ref (ad Γ 63), .int a1] (gC σ c) (some (.int x.1)) (gC σ x.2) := by
  refine y_enter (by decide) hJ (Nat.le_of_ble_eq_true rfl) [(0, .ref (ad Γ 63)), (1, .int a1)] rfl ?_
  intro p e s' m args below meth c' hC hr hlk
  refine y_iload_n hC dX10_count_0 1 rfl 1 rfl ?_
  refine y_iconst hC dX10_count_1 (v := (0 : Int32)) (by decide) 2 rfl ?_
  refine y_bipush hC dX10_count_2 (v := (7 : Int32)) (by decide) 4 rfl ?_
  obtain ⟨x4, hx4, hk⟩ := ob_bind hk
  refine y_callS hC (c_X10_within hJ l (gC σ c) a1 (0 : Int32) (7 : Int32) x4 hx4) rfl ⟨w2_70, w1_1, cwd_X10_within, by decide, by decide⟩ w2_68 w2_69 rfl rfl (Nat.le_of_ble_eq_true rfl) (by decide) dX10_count_4 7 rfl (gC σ c) rfl [.int x4] rfl ?_
  refine y_if_ne hC dX10_count_7 17 (by decide) 10 rfl (fun h7 => ?_) (fun h7 => ?_)
  · have hk := ob_neg h7 hk
    refine y_aload_n hC dX10_count_17 0 rfl 18 rfl ?_
    refine y_iload_n hC dX10_count_18 1 rfl 19 rfl ?_
    obtain ⟨x19, hx19, hk⟩ := ob_bind hk
    refine y_callV hC 63 (hA 63 (by decide)) (cl_H (u := (c_h c)) rfl) rfl (c_X10_howMany hJ hA l σ c a1 x19 hx19) rfl ⟨w4_81, w1_1, cwd_X10_howMany, by decide, by decide⟩ w4_78 w4_80 ws3_13 rfl rfl (Nat.le_of_ble_eq_true rfl) (by decide) dX10_count_19 22 rfl (gC σ c) rfl [.int x19] rfl ?_
    have e := Option.some.inj hk
    exact y_iret hC hr hlk (by rw [← e]) (by first | rfl | rw [← e]) dX10_count_22
  · have hk := ob_pos h7 hk
    refine y_aload_n hC dX10_count_10 0 rfl 11 rfl ?_
    refine y_bipush hC dX10_count_11 (v := (-2 : Int32)) (by decide) 13 rfl ?_
    obtain ⟨x13, hx13, hk⟩ := ob_bind hk
    refine y_callV hC 63 (hA 63 (by decide)) (cl_H (u := (c_h c)) rfl) rfl (c_X10_refuse hJ hA l σ c (-2 : Int32) x13 hx13) rfl ⟨w2_74, w1_1, cwd_X10_refuse, by decide, by decide⟩ w2_71 w2_73 ws1_0 rfl rfl (Nat.le_of_ble_eq_true rfl) (by decide) dX10_count_13 16 rfl (gC σ x13.2) rfl [.int x13.1] rfl ?_
    have e := Option.some.inj hk
    exact y_iret hC hr hlk (by rw [← e]) (by first | rfl | rw [← e]) dX10_count_16
def f_X10_digest_j258 (c : CSt) (v1 : Int64) : Option (Int64) :=
  lt (((31 : Int64) * v1) + (pH_above (c_h c))) fun n268 => 
    (some (((31 : Int64) * n268) + (pH_below (c_h c))))
def f_X10_digest_s201 (c : CSt) (K201 : (Int64 × Int32) → Option (Int64)) (q201 : Int64 × Int32) : Option (Int64) :=
  if (pM_soldSize (c_m0 c)) ≤ q201.2 then
    f_X10_digest_j258 c q201.1
  else
    if (6 : Int32) ≤ q201.2 then
      f_X10_digest_j258 c q201.1
    else
      if inb q201.2 6 then 
        (lt (((31 : Int64) * q201.1) + (pM_soldHours (c_m0 c) q201.2.toNatClampNeg).toInt64) fun n234 => 
        (if inb q201.2 6 then 
        (lt (((31 : Int64) * n234) + (pM_soldNumbers (c_m0 c) q201.2.toNatClampNeg).toInt64) fun n251 => 
        (K201 (n251, (q201.2 + (1 : Int32)))))
      else none))
      else none
def f_X10_digest_j199 (c : CSt) (v1 : Int64) : Option (Int64) :=
  lp (f_X10_digest_s201 c) 1000 (v1, (0 : Int32))
def f_X10_digest_s108 (c : CSt) (K108 : (Int64 × Int32) → Option (Int64)) (q108 : Int64 × Int32) : Option (Int64) :=
  if (pM_size (c_m0 c)) ≤ q108.2 then
    f_X10_digest_j199 c q108.1
  else
    if (8 : Int32) ≤ q108.2 then
      f_X10_digest_j199 c q108.1
    else
      if inb q108.2 8 then 
        (lt (((31 : Int64) * q108.1) + (pM_kinds (c_m0 c) q108.2.toNatClampNeg).toInt64) fun n141 => 
        (if inb q108.2 8 then 
        (lt (((31 : Int64) * n141) + (pM_hours (c_m0 c) q108.2.toNatClampNeg).toInt64) fun n158 => 
        (if inb q108.2 8 then 
        (lt (((31 : Int64) * n158) + (pM_worths (c_m0 c) q108.2.toNatClampNeg).toInt64) fun n175 => 
        (if inb q108.2 8 then 
        (lt (((31 : Int64) * n175) + (pM_wants (c_m0 c) q108.2.toNatClampNeg).toInt64) fun n192 => 
        (K108 (n192, (q108.2 + (1 : Int32)))))
      else none))
      else none))
      else none))
      else none
def f_X10_digest_j91 (c : CSt) (v1 : Int64) : Option (Int64) :=
  lt (((31 : Int64) * v1) + (pM_rainHours (c_m0 c)).toInt64) fun n105 => 
    (lp (f_X10_digest_s108 c) 1000 (n105, (0 : Int32)))
def f_X10_digest_s63 (c : CSt) (K63 : (Int64 × Int32) → Option (Int64)) (q63 : Int64 × Int32) : Option (Int64) :=
  if (10 : Int32) ≤ q63.2 then
    f_X10_digest_j91 c q63.1
  else
    (f_X3_theirPriceIn (c_m0 c) q63.2).bind fun x79 => 
      (lt (((31 : Int64) * q63.1) + x79.toInt64) fun n84 => 
      (K63 (n84, (q63.2 + (1 : Int32)))))
def f_X10_digest_j61 (c : CSt) (v1 : Int64) : Option (Int64) :=
  lp (f_X10_digest_s63 c) 1000 (v1, (0 : Int32))
def f_X10_digest_s33 (c : CSt) (K33 : (Int64 × Int32) → Option (Int64)) (q33 : Int64 × Int32) : Option (Int64) :=
  if (10 : Int32) ≤ q33.2 then
    f_X10_digest_j61 c q33.1
  else
    (f_X3_priceIn (c_m0 c) q33.2).bind fun x49 => 
      (lt (((31 : Int64) * q33.1) + x49.toInt64) fun n54 => 
      (K33 (n54, (q33.2 + (1 : Int32)))))
def f_X10_digest_j31 (c : CSt) (v1 : Int64) : Option (Int64) :=
  lp (f_X10_digest_s33 c) 1000 (v1, (0 : Int32))
def f_X10_digest_s6 (c : CSt) (K6 : (Int64 × Int32) → Option (Int64)) (q6 : Int64 × Int32) : Option (Int64) :=
  if (7 : Int32) < q6.2 then
    f_X10_digest_j31 c q6.1
  else
    (f_X10_howMany c q6.2).bind fun x19 => 
      (lt (((31 : Int64) * q6.1) + x19.toInt64) fun n24 => 
      (K6 (n24, (q6.2 + (1 : Int32)))))
def f_X10_digest (c : CSt) : Option (Int64) :=
  lp (f_X10_digest_s6 c) 1000 ((967 : Int64), (0 : Int32))
theorem cwd_X10_digest : yX10_digest.cls ≠ "java/lang/invoke/MethodHandle" ∧ yX10_digest.cls ≠ "java/lang/invoke/VarHandle" ∧ (parseMethodDescriptor yX10_digest.desc).map (fun d => d.parameters.length) = some 0 := by decide +kernel
set_option maxHeartbeats 4000000 in
set_option maxRecDepth 100000 in
theorem c_X10_digest {Γ : GC} (hJ : GJ Γ) (hA : ∀ i, i < 66 → act Γ i) (l : Launch) (σ : GSt) (c : CSt) (x : Int64) (hk : f_X10_digest c = some x) : Mt Γ l yX10_digest cX10_digest 4 (some .long) 1 21 [.ref (ad Γ 63)] (gC σ c) (some (.long x)) (gC σ c) := by
  refine y_enter (by decide) hJ (Nat.le_of_ble_eq_true rfl) [(0, .ref (ad Γ 63))] rfl ?_
  intro p e s' m args below meth c' hC hr hlk
  have J258 : ∀ (v1 : Int64), f_X10_digest_j258 c v1 = some x → Y Γ (GA Γ) p l e ({ frames := 1, cells := 0, slots := 0, locals := 21 } : Room) s' m args below meth c' 0 0 (MQ below (Qg Γ (some (.long x)) (gC σ c)) args s' 0 0 (GA Γ)) 4 (gC σ c) 258 [(0, .ref (ad Γ 63)), (1, .long v1)] [] := by
    intro v1 hk
    refine y_ldc2 hC (v := (31 : Int64)) w4_87 dX10_digest_258 261 rfl ?_
    refine y_lload_n hC dX10_digest_261 1 rfl 262 rfl ?_
    refine y_lmul hC dX10_digest_262 263 rfl ?_
    refine y_aload_n hC dX10_digest_263 0 rfl 264 rfl ?_
    refine y_get hC 63 (hA 63 (by decide)) (cl_H (u := (c_h c)) rfl) rfl inU10 7 (by decide) w2_34 rfl dX10_digest_264 267 rfl ?_
    refine y_ladd hC dX10_digest_267 268 rfl ?_
    obtain ⟨n268, en268, hk⟩ := ob_lt hk
    refine y_topl en268 ?_
    refine y_lstore_n hC dX10_digest_268 (by decide) [(1, .long n268), (0, .ref (ad Γ 63))] rfl 269 rfl ?_
    refine y_ldc2 hC (v := (31 : Int64)) w4_87 dX10_digest_269 272 rfl ?_
    refine y_lload_n hC dX10_digest_272 0 rfl 273 rfl ?_
    refine y_lmul hC dX10_digest_273 274 rfl ?_
    refine y_aload_n hC dX10_digest_274 1 rfl 275 rfl ?_
    refine y_get hC 63 (hA 63 (by decide)) (cl_H (u := (c_h c)) rfl) rfl inU10 8 (by decide) w2_35 rfl dX10_digest_275 278 rfl ?_
    refine y_ladd hC dX10_digest_278 279 rfl ?_
    have e := Option.some.inj hk
    exact y_lret hC hr hlk (by rw [← e]) (by first | rfl | rw [← e]) dX10_digest_279
  have L201 : ∀ (n201 : Nat) (q201 : Int64 × Int32), lp (f_X10_digest_s201 c) n201 q201 = some x → Y Γ (GA Γ) p l e ({ frames := 1, cells := 0, slots := 0, locals := 21 } : Room) s' m args below meth c' 0 0 (MQ below (Qg Γ (some (.long x)) (gC σ c)) args s' 0 0 (GA Γ)) 4 (gC σ c) 201 [(0, .ref (ad Γ 63)), (1, .long q201.1), (3, .int q201.2)] [] := by
    intro n201
    induction n201 with
    | zero => intro q201 hk; exact (lp_zero hk).elim
    | succ n201 ih201 =>
      intro q201 hk
      have hk : f_X10_digest_s201 c (lp (f_X10_digest_s201 c) n201) q201 = some x := (lp_succ _ _ _).symm.trans hk
      refine y_iload_n hC dX10_digest_201 2 rfl 202 rfl ?_
      refine y_aload_n hC dX10_digest_202 0 rfl 203 rfl ?_
      refine y_get hC 63 (hA 63 (by decide)) (cl_H (u := (c_h c)) rfl) rfl inU10 0 (by decide) w2_27 rfl dX10_digest_203 206 rfl ?_
      refine y_getN hC (10 * 0) (hA 0 (by decide)) (cl_M (k := 0) (mm := (c).2.1) (u := (c_m0 c)) (by decide) rfl) rfl inU3 6 (by decide) w1_57 rfl dX10_digest_206 209 rfl ?_
      refine y_icmp_ge hC dX10_digest_209 258 (by decide) 212 rfl (fun h209 => ?_) (fun h209 => ?_)
      · have hk := ob_pos h209 hk
        refine y_sub [0, 1] rfl ?_
        exact J258 q201.1 hk
      · have hk := ob_neg h209 hk
        refine y_iload_n hC dX10_digest_212 2 rfl 213 rfl ?_
        refine y_bipush hC dX10_digest_213 (v := (6 : Int32)) (by decide) 215 rfl ?_
        refine y_icmp_ge hC dX10_digest_215 258 (by decide) 218 rfl (fun h215 => ?_) (fun h215 => ?_)
        · have hk := ob_pos h215 hk
          refine y_sub [0, 1] rfl ?_
          exact J258 q201.1 hk
        · have hk := ob_neg h215 hk
          refine y_ldc2 hC (v := (31 : Int64)) w4_87 dX10_digest_218 221 rfl ?_
          refine y_lload_n hC dX10_digest_221 1 rfl 222 rfl ?_
          refine y_lmul hC dX10_digest_222 223 rfl ?_
          refine y_aload_n hC dX10_digest_223 0 rfl 224 rfl ?_
          refine y_get hC 63 (hA 63 (by decide)) (cl_H (u := (c_h c)) rfl) rfl inU10 0 (by decide) w2_27 rfl dX10_digest_224 227 rfl ?_
          refine y_getN hC (10 * 0) (hA 0 (by decide)) (cl_M (k := 0) (mm := (c).2.1) (u := (c_m0 c)) (by decide) rfl) rfl inU3 14 (by decide) w1_76 rfl dX10_digest_227 230 rfl ?_
          refine y_iload_n hC dX10_digest_230 2 rfl 231 rfl ?_
          obtain ⟨h231, hk⟩ := ob_if hk
          refine y_iald hC (10 * 0 + 7) (hA 7 (by decide)) (cl_M_soldHours (k := 0) (mm := (c).2.1) (u := (c_m0 c)) (by decide) rfl) h231 dX10_digest_231 232 rfl ?_
          refine y_i2l hC dX10_digest_232 233 rfl ?_
          refine y_ladd hC dX10_digest_233 234 rfl ?_
          obtain ⟨n234, en234, hk⟩ := ob_lt hk
          refine y_topl en234 ?_
          refine y_lstore_n hC dX10_digest_234 (by decide) [(1, .long n234), (0, .ref (ad Γ 63)), (3, .int q201.2)] rfl 235 rfl ?_
          refine y_ldc2 hC (v := (31 : Int64)) w4_87 dX10_digest_235 238 rfl ?_
          refine y_lload_n hC dX10_digest_238 0 rfl 239 rfl ?_
          refine y_lmul hC dX10_digest_239 240 rfl ?_
          refine y_aload_n hC dX10_digest_240 1 rfl 241 rfl ?_
          refine y_get hC 63 (hA 63 (by decide)) (cl_H (u := (c_h c)) rfl) rfl inU10 0 (by decide) w2_27 rfl dX10_digest_241 244 rfl ?_
          refine y_getN hC (10 * 0) (hA 0 (by decide)) (cl_M (k := 0) (mm := (c).2.1) (u := (c_m0 c)) (by decide) rfl) rfl inU3 15 (by decide) w1_79 rfl dX10_digest_244 247 rfl ?_
          refine y_iload_n hC dX10_digest_247 2 rfl 248 rfl ?_
          obtain ⟨h248, hk⟩ := ob_if hk
          refine y_iald hC (10 * 0 + 8) (hA 8 (by decide)) (cl_M_soldNumbers (k := 0) (mm := (c).2.1) (u := (c_m0 c)) (by decide) rfl) h248 dX10_digest_248 249 rfl ?_
          refine y_i2l hC dX10_digest_249 250 rfl ?_
          refine y_ladd hC dX10_digest_250 251 rfl ?_
          obtain ⟨n251, en251, hk⟩ := ob_lt hk
          refine y_topl en251 ?_
          refine y_lstore_n hC dX10_digest_251 (by decide) [(1, .long n251), (0, .ref (ad Γ 63)), (3, .int q201.2)] rfl 252 rfl ?_
          refine y_iinc hC dX10_digest_252 2 rfl (v := (q201.2 + (1 : Int32))) rfl (by decide) [(3, .int (q201.2 + (1 : Int32))), (1, .long n251), (0, .ref (ad Γ 63))] rfl 255 rfl ?_
          refine y_goto hC dX10_digest_255 201 (by decide) ?_
          refine y_sub [2, 1, 0] rfl ?_
          exact ih201 (n251, (q201.2 + (1 : Int32))) hk
  have J199 : ∀ (v1 : Int64), f_X10_digest_j199 c v1 = some x → Y Γ (GA Γ) p l e ({ frames := 1, cells := 0, slots := 0, locals := 21 } : Room) s' m args below meth c' 0 0 (MQ below (Qg Γ (some (.long x)) (gC σ c)) args s' 0 0 (GA Γ)) 4 (gC σ c) 199 [(0, .ref (ad Γ 63)), (1, .long v1)] [] := by
    intro v1 hk
    refine y_iconst hC dX10_digest_199 (v := (0 : Int32)) (by decide) 200 rfl ?_
    refine y_istore_n hC dX10_digest_200 (by decide) [(3, .int (0 : Int32)), (0, .ref (ad Γ 63)), (1, .long v1)] rfl 201 rfl ?_
    refine y_sub [1, 2, 0] rfl ?_
    exact L201 1000 (v1, (0 : Int32)) hk
  have L108 : ∀ (n108 : Nat) (q108 : Int64 × Int32), lp (f_X10_digest_s108 c) n108 q108 = some x → Y Γ (GA Γ) p l e ({ frames := 1, cells := 0, slots := 0, locals := 21 } : Room) s' m args below meth c' 0 0 (MQ below (Qg Γ (some (.long x)) (gC σ c)) args s' 0 0 (GA Γ)) 4 (gC σ c) 108 [(0, .ref (ad Γ 63)), (1, .long q108.1), (3, .int q108.2)] [] := by
    intro n108
    induction n108 with
    | zero => intro q108 hk; exact (lp_zero hk).elim
    | succ n108 ih108 =>
      intro q108 hk
      have hk : f_X10_digest_s108 c (lp (f_X10_digest_s108 c) n108) q108 = some x := (lp_succ _ _ _).symm.trans hk
      refine y_iload_n hC dX10_digest_108 2 rfl 109 rfl ?_
      refine y_aload_n hC dX10_digest_109 0 rfl 110 rfl ?_
      refine y_get hC 63 (hA 63 (by decide)) (cl_H (u := (c_h c)) rfl) rfl inU10 0 (by decide) w2_27 rfl dX10_digest_110 113 rfl ?_
      refine y_getN hC (10 * 0) (hA 0 (by decide)) (cl_M (k := 0) (mm := (c).2.1) (u := (c_m0 c)) (by decide) rfl) rfl inU3 3 (by decide) w1_48 rfl dX10_digest_113 116 rfl ?_
      refine y_icmp_ge hC dX10_digest_116 199 (by decide) 119 rfl (fun h116 => ?_) (fun h116 => ?_)
      · have hk := ob_pos h116 hk
        refine y_sub [0, 1] rfl ?_
        exact J199 q108.1 hk
      · have hk := ob_neg h116 hk
        refine y_iload_n hC dX10_digest_119 2 rfl 120 rfl ?_
        refine y_bipush hC dX10_digest_120 (v := (8 : Int32)) (by decide) 122 rfl ?_
        refine y_icmp_ge hC dX10_digest_122 199 (by decide) 125 rfl (fun h122 => ?_) (fun h122 => ?_)
        · have hk := ob_pos h122 hk
          refine y_sub [0, 1] rfl ?_
          exact J199 q108.1 hk
        · have hk := ob_neg h122 hk
          refine y_ldc2 hC (v := (31 : Int64)) w4_87 dX10_digest_125 128 rfl ?_
          refine y_lload_n hC dX10_digest_128 1 rfl 129 rfl ?_
          refine y_lmul hC dX10_digest_129 130 rfl ?_
          refine y_aload_n hC dX10_digest_130 0 rfl 131 rfl ?_
          refine y_get hC 63 (hA 63 (by decide)) (cl_H (u := (c_h c)) rfl) rfl inU10 0 (by decide) w2_27 rfl dX10_digest_131 134 rfl ?_
          refine y_getN hC (10 * 0) (hA 0 (by decide)) (cl_M (k := 0) (mm := (c).2.1) (u := (c_m0 c)) (by decide) rfl) rfl inU3 10 (by decide) w1_64 rfl dX10_digest_134 137 rfl ?_
          refine y_iload_n hC dX10_digest_137 2 rfl 138 rfl ?_
          obtain ⟨h138, hk⟩ := ob_if hk
          refine y_iald hC (10 * 0 + 3) (hA 3 (by decide)) (cl_M_kinds (k := 0) (mm := (c).2.1) (u := (c_m0 c)) (by decide) rfl) h138 dX10_digest_138 139 rfl ?_
          refine y_i2l hC dX10_digest_139 140 rfl ?_
          refine y_ladd hC dX10_digest_140 141 rfl ?_
          obtain ⟨n141, en141, hk⟩ := ob_lt hk
          refine y_topl en141 ?_
          refine y_lstore_n hC dX10_digest_141 (by decide) [(1, .long n141), (0, .ref (ad Γ 63)), (3, .int q108.2)] rfl 142 rfl ?_
          refine y_ldc2 hC (v := (31 : Int64)) w4_87 dX10_digest_142 145 rfl ?_
          refine y_lload_n hC dX10_digest_145 0 rfl 146 rfl ?_
          refine y_lmul hC dX10_digest_146 147 rfl ?_
          refine y_aload_n hC dX10_digest_147 1 rfl 148 rfl ?_
          refine y_get hC 63 (hA 63 (by decide)) (cl_H (u := (c_h c)) rfl) rfl inU10 0 (by decide) w2_27 rfl dX10_digest_148 151 rfl ?_
          refine y_getN hC (10 * 0) (hA 0 (by decide)) (cl_M (k := 0) (mm := (c).2.1) (u := (c_m0 c)) (by decide) rfl) rfl inU3 11 (by decide) w1_67 rfl dX10_digest_151 154 rfl ?_
          refine y_iload_n hC dX10_digest_154 2 rfl 155 rfl ?_
          obtain ⟨h155, hk⟩ := ob_if hk
          refine y_iald hC (10 * 0 + 4) (hA 4 (by decide)) (cl_M_hours (k := 0) (mm := (c).2.1) (u := (c_m0 c)) (by decide) rfl) h155 dX10_digest_155 156 rfl ?_
          refine y_i2l hC dX10_digest_156 157 rfl ?_
          refine y_ladd hC dX10_digest_157 158 rfl ?_
          obtain ⟨n158, en158, hk⟩ := ob_lt hk
          refine y_topl en158 ?_
          refine y_lstore_n hC dX10_digest_158 (by decide) [(1, .long n158), (0, .ref (ad Γ 63)), (3, .int q108.2)] rfl 159 rfl ?_
          refine y_ldc2 hC (v := (31 : Int64)) w4_87 dX10_digest_159 162 rfl ?_
          refine y_lload_n hC dX10_digest_162 0 rfl 163 rfl ?_
          refine y_lmul hC dX10_digest_163 164 rfl ?_
          refine y_aload_n hC dX10_digest_164 1 rfl 165 rfl ?_
          refine y_get hC 63 (hA 63 (by decide)) (cl_H (u := (c_h c)) rfl) rfl inU10 0 (by decide) w2_27 rfl dX10_digest_165 168 rfl ?_
          refine y_getN hC (10 * 0) (hA 0 (by decide)) (cl_M (k := 0) (mm := (c).2.1) (u := (c_m0 c)) (by decide) rfl) rfl inU3 12 (by decide) w1_70 rfl dX10_digest_168 171 rfl ?_
          refine y_iload_n hC dX10_digest_171 2 rfl 172 rfl ?_
          obtain ⟨h172, hk⟩ := ob_if hk
          refine y_iald hC (10 * 0 + 5) (hA 5 (by decide)) (cl_M_worths (k := 0) (mm := (c).2.1) (u := (c_m0 c)) (by decide) rfl) h172 dX10_digest_172 173 rfl ?_
          refine y_i2l hC dX10_digest_173 174 rfl ?_
          refine y_ladd hC dX10_digest_174 175 rfl ?_
          obtain ⟨n175, en175, hk⟩ := ob_lt hk
          refine y_topl en175 ?_
          refine y_lstore_n hC dX10_digest_175 (by decide) [(1, .long n175), (0, .ref (ad Γ 63)), (3, .int q108.2)] rfl 176 rfl ?_
          refine y_ldc2 hC (v := (31 : Int64)) w4_87 dX10_digest_176 179 rfl ?_
          refine y_lload_n hC dX10_digest_179 0 rfl 180 rfl ?_
          refine y_lmul hC dX10_digest_180 181 rfl ?_
          refine y_aload_n hC dX10_digest_181 1 rfl 182 rfl ?_
          refine y_get hC 63 (hA 63 (by decide)) (cl_H (u := (c_h c)) rfl) rfl inU10 0 (by decide) w2_27 rfl dX10_digest_182 185 rfl ?_
          refine y_getN hC (10 * 0) (hA 0 (by decide)) (cl_M (k := 0) (mm := (c).2.1) (u := (c_m0 c)) (by decide) rfl) rfl inU3 13 (by decide) w1_73 rfl dX10_digest_185 188 rfl ?_
          refine y_iload_n hC dX10_digest_188 2 rfl 189 rfl ?_
          obtain ⟨h189, hk⟩ := ob_if hk
          refine y_iald hC (10 * 0 + 6) (hA 6 (by decide)) (cl_M_wants (k := 0) (mm := (c).2.1) (u := (c_m0 c)) (by decide) rfl) h189 dX10_digest_189 190 rfl ?_
          refine y_i2l hC dX10_digest_190 191 rfl ?_
          refine y_ladd hC dX10_digest_191 192 rfl ?_
          obtain ⟨n192, en192, hk⟩ := ob_lt hk
          refine y_topl en192 ?_
          refine y_lstore_n hC dX10_digest_192 (by decide) [(1, .long n192), (0, .ref (ad Γ 63)), (3, .int q108.2)] rfl 193 rfl ?_
          refine y_iinc hC dX10_digest_193 2 rfl (v := (q108.2 + (1 : Int32))) rfl (by decide) [(3, .int (q108.2 + (1 : Int32))), (1, .long n192), (0, .ref (ad Γ 63))] rfl 196 rfl ?_
          refine y_goto hC dX10_digest_196 108 (by decide) ?_
          refine y_sub [2, 1, 0] rfl ?_
          exact ih108 (n192, (q108.2 + (1 : Int32))) hk
  have J91 : ∀ (v1 : Int64), f_X10_digest_j91 c v1 = some x → Y Γ (GA Γ) p l e ({ frames := 1, cells := 0, slots := 0, locals := 21 } : Room) s' m args below meth c' 0 0 (MQ below (Qg Γ (some (.long x)) (gC σ c)) args s' 0 0 (GA Γ)) 4 (gC σ c) 91 [(0, .ref (ad Γ 63)), (1, .long v1)] [] := by
    intro v1 hk
    refine y_ldc2 hC (v := (31 : Int64)) w4_87 dX10_digest_91 94 rfl ?_
    refine y_lload_n hC dX10_digest_94 1 rfl 95 rfl ?_
    refine y_lmul hC dX10_digest_95 96 rfl ?_
    refine y_aload_n hC dX10_digest_96 0 rfl 97 rfl ?_
    refine y_get hC 63 (hA 63 (by decide)) (cl_H (u := (c_h c)) rfl) rfl inU10 0 (by decide) w2_27 rfl dX10_digest_97 100 rfl ?_
    refine y_getN hC (10 * 0) (hA 0 (by decide)) (cl_M (k := 0) (mm := (c).2.1) (u := (c_m0 c)) (by decide) rfl) rfl inU3 2 (by decide) w1_45 rfl dX10_digest_100 103 rfl ?_
    refine y_i2l hC dX10_digest_103 104 rfl ?_
    refine y_ladd hC dX10_digest_104 105 rfl ?_
    obtain ⟨n105, en105, hk⟩ := ob_lt hk
    refine y_topl en105 ?_
    refine y_lstore_n hC dX10_digest_105 (by decide) [(1, .long n105), (0, .ref (ad Γ 63))] rfl 106 rfl ?_
    refine y_iconst hC dX10_digest_106 (v := (0 : Int32)) (by decide) 107 rfl ?_
    refine y_istore_n hC dX10_digest_107 (by decide) [(3, .int (0 : Int32)), (1, .long n105), (0, .ref (ad Γ 63))] rfl 108 rfl ?_
    refine y_sub [2, 1, 0] rfl ?_
    exact L108 1000 (n105, (0 : Int32)) hk
  have L63 : ∀ (n63 : Nat) (q63 : Int64 × Int32), lp (f_X10_digest_s63 c) n63 q63 = some x → Y Γ (GA Γ) p l e ({ frames := 1, cells := 0, slots := 0, locals := 21 } : Room) s' m args below meth c' 0 0 (MQ below (Qg Γ (some (.long x)) (gC σ c)) args s' 0 0 (GA Γ)) 4 (gC σ c) 63 [(0, .ref (ad Γ 63)), (1, .long q63.1), (3, .int q63.2)] [] := by
    intro n63
    induction n63 with
    | zero => intro q63 hk; exact (lp_zero hk).elim
    | succ n63 ih63 =>
      intro q63 hk
      have hk : f_X10_digest_s63 c (lp (f_X10_digest_s63 c) n63) q63 = some x := (lp_succ _ _ _).symm.trans hk
      refine y_iload_n hC dX10_digest_63 2 rfl 64 rfl ?_
      refine y_bipush hC dX10_digest_64 (v := (10 : Int32)) (by decide) 66 rfl ?_
      refine y_icmp_ge hC dX10_digest_66 91 (by decide) 69 rfl (fun h66 => ?_) (fun h66 => ?_)
      · have hk := ob_pos h66 hk
        refine y_sub [0, 1] rfl ?_
        exact J91 q63.1 hk
      · have hk := ob_neg h66 hk
        refine y_ldc2 hC (v := (31 : Int64)) w4_87 dX10_digest_69 72 rfl ?_
        refine y_lload_n hC dX10_digest_72 1 rfl 73 rfl ?_
        refine y_lmul hC dX10_digest_73 74 rfl ?_
        refine y_aload_n hC dX10_digest_74 0 rfl 75 rfl ?_
        refine y_get hC 63 (hA 63 (by decide)) (cl_H (u := (c_h c)) rfl) rfl inU10 0 (by decide) w2_27 rfl dX10_digest_75 78 rfl ?_
        refine y_iload_n hC dX10_digest_78 2 rfl 79 rfl ?_
        obtain ⟨x79, hx79, hk⟩ := ob_bind hk
        refine y_callVN hC (10 * 0) (hA 0 (by decide)) (cl_M (k := 0) (mm := (c).2.1) (u := (c_m0 c)) (by decide) rfl) rfl (c_X3_theirPriceIn hJ hA l (gC σ c) 0 (by decide) (c_m0 c) q63.2 x79 hx79) rfl ⟨w2_108, w1_2, cwd_X3_theirPriceIn, by decide, by decide⟩ w2_105 w2_107 ws1_4 rfl rfl (Nat.le_of_ble_eq_true rfl) (by decide) dX10_digest_79 82 rfl (gC σ c) rfl [.int x79, .long ((31 : Int64) * q63.1)] rfl ?_
        refine y_i2l hC dX10_digest_82 83 rfl ?_
        refine y_ladd hC dX10_digest_83 84 rfl ?_
        obtain ⟨n84, en84, hk⟩ := ob_lt hk
        refine y_topl en84 ?_
        refine y_lstore_n hC dX10_digest_84 (by decide) [(1, .long n84), (0, .ref (ad Γ 63)), (3, .int q63.2)] rfl 85 rfl ?_
        refine y_iinc hC dX10_digest_85 2 rfl (v := (q63.2 + (1 : Int32))) rfl (by decide) [(3, .int (q63.2 + (1 : Int32))), (1, .long n84), (0, .ref (ad Γ 63))] rfl 88 rfl ?_
        refine y_goto hC dX10_digest_88 63 (by decide) ?_
        refine y_sub [2, 1, 0] rfl ?_
        exact ih63 (n84, (q63.2 + (1 : Int32))) hk
  have J61 : ∀ (v1 : Int64), f_X10_digest_j61 c v1 = some x → Y Γ (GA Γ) p l e ({ frames := 1, cells := 0, slots := 0, locals := 21 } : Room) s' m args below meth c' 0 0 (MQ below (Qg Γ (some (.long x)) (gC σ c)) args s' 0 0 (GA Γ)) 4 (gC σ c) 61 [(0, .ref (ad Γ 63)), (1, .long v1)] [] := by
    intro v1 hk
    refine y_iconst hC dX10_digest_61 (v := (0 : Int32)) (by decide) 62 rfl ?_
    refine y_istore_n hC dX10_digest_62 (by decide) [(3, .int (0 : Int32)), (0, .ref (ad Γ 63)), (1, .long v1)] rfl 63 rfl ?_
    refine y_sub [1, 2, 0] rfl ?_
    exact L63 1000 (v1, (0 : Int32)) hk
  have L33 : ∀ (n33 : Nat) (q33 : Int64 × Int32), lp (f_X10_digest_s33 c) n33 q33 = some x → Y Γ (GA Γ) p l e ({ frames := 1, cells := 0, slots := 0, locals := 21 } : Room) s' m args below meth c' 0 0 (MQ below (Qg Γ (some (.long x)) (gC σ c)) args s' 0 0 (GA Γ)) 4 (gC σ c) 33 [(0, .ref (ad Γ 63)), (1, .long q33.1), (3, .int q33.2)] [] := by
    intro n33
    induction n33 with
    | zero => intro q33 hk; exact (lp_zero hk).elim
    | succ n33 ih33 =>
      intro q33 hk
      have hk : f_X10_digest_s33 c (lp (f_X10_digest_s33 c) n33) q33 = some x := (lp_succ _ _ _).symm.trans hk
      refine y_iload_n hC dX10_digest_33 2 rfl 34 rfl ?_
      refine y_bipush hC dX10_digest_34 (v := (10 : Int32)) (by decide) 36 rfl ?_
      refine y_icmp_ge hC dX10_digest_36 61 (by decide) 39 rfl (fun h36 => ?_) (fun h36 => ?_)
      · have hk := ob_pos h36 hk
        refine y_sub [0, 1] rfl ?_
        exact J61 q33.1 hk
      · have hk := ob_neg h36 hk
        refine y_ldc2 hC (v := (31 : Int64)) w4_87 dX10_digest_39 42 rfl ?_
        refine y_lload_n hC dX10_digest_42 1 rfl 43 rfl ?_
        refine y_lmul hC dX10_digest_43 44 rfl ?_
        refine y_aload_n hC dX10_digest_44 0 rfl 45 rfl ?_
        refine y_get hC 63 (hA 63 (by decide)) (cl_H (u := (c_h c)) rfl) rfl inU10 0 (by decide) w2_27 rfl dX10_digest_45 48 rfl ?_
        refine y_iload_n hC dX10_digest_48 2 rfl 49 rfl ?_
        obtain ⟨x49, hx49, hk⟩ := ob_bind hk
        refine y_callVN hC (10 * 0) (hA 0 (by decide)) (cl_M (k := 0) (mm := (c).2.1) (u := (c_m0 c)) (by decide) rfl) rfl (c_X3_priceIn hJ hA l (gC σ c) 0 (by decide) (c_m0 c) q33.2 x49 hx49) rfl ⟨w2_93, w1_2, cwd_X3_priceIn, by decide, by decide⟩ w2_90 w2_92 ws1_2 rfl rfl (Nat.le_of_ble_eq_true rfl) (by decide) dX10_digest_49 52 rfl (gC σ c) rfl [.int x49, .long ((31 : Int64) * q33.1)] rfl ?_
        refine y_i2l hC dX10_digest_52 53 rfl ?_
        refine y_ladd hC dX10_digest_53 54 rfl ?_
        obtain ⟨n54, en54, hk⟩ := ob_lt hk
        refine y_topl en54 ?_
        refine y_lstore_n hC dX10_digest_54 (by decide) [(1, .long n54), (0, .ref (ad Γ 63)), (3, .int q33.2)] rfl 55 rfl ?_
        refine y_iinc hC dX10_digest_55 2 rfl (v := (q33.2 + (1 : Int32))) rfl (by decide) [(3, .int (q33.2 + (1 : Int32))), (1, .long n54), (0, .ref (ad Γ 63))] rfl 58 rfl ?_
        refine y_goto hC dX10_digest_58 33 (by decide) ?_
        refine y_sub [2, 1, 0] rfl ?_
        exact ih33 (n54, (q33.2 + (1 : Int32))) hk
  have J31 : ∀ (v1 : Int64), f_X10_digest_j31 c v1 = some x → Y Γ (GA Γ) p l e ({ frames := 1, cells := 0, slots := 0, locals := 21 } : Room) s' m args below meth c' 0 0 (MQ below (Qg Γ (some (.long x)) (gC σ c)) args s' 0 0 (GA Γ)) 4 (gC σ c) 31 [(0, .ref (ad Γ 63)), (1, .long v1)] [] := by
    intro v1 hk
    refine y_iconst hC dX10_digest_31 (v := (0 : Int32)) (by decide) 32 rfl ?_
    refine y_istore_n hC dX10_digest_32 (by decide) [(3, .int (0 : Int32)), (0, .ref (ad Γ 63)), (1, .long v1)] rfl 33 rfl ?_
    refine y_sub [1, 2, 0] rfl ?_
    exact L33 1000 (v1, (0 : Int32)) hk
  have L6 : ∀ (n6 : Nat) (q6 : Int64 × Int32), lp (f_X10_digest_s6 c) n6 q6 = some x → Y Γ (GA Γ) p l e ({ frames := 1, cells := 0, slots := 0, locals := 21 } : Room) s' m args below meth c' 0 0 (MQ below (Qg Γ (some (.long x)) (gC σ c)) args s' 0 0 (GA Γ)) 4 (gC σ c) 6 [(0, .ref (ad Γ 63)), (1, .long q6.1), (3, .int q6.2)] [] := by
    intro n6
    induction n6 with
    | zero => intro q6 hk; exact (lp_zero hk).elim
    | succ n6 ih6 =>
      intro q6 hk
      have hk : f_X10_digest_s6 c (lp (f_X10_digest_s6 c) n6) q6 = some x := (lp_succ _ _ _).symm.trans hk
      refine y_iload_n hC dX10_digest_6 2 rfl 7 rfl ?_
      refine y_bipush hC dX10_digest_7 (v := (7 : Int32)) (by decide) 9 rfl ?_
      refine y_icmp_gt hC dX10_digest_9 31 (by decide) 12 rfl (fun h9 => ?_) (fun h9 => ?_)
      · have hk := ob_pos h9 hk
        refine y_sub [0, 1] rfl ?_
        exact J31 q6.1 hk
      · have hk := ob_neg h9 hk
        refine y_ldc2 hC (v := (31 : Int64)) w4_87 dX10_digest_12 15 rfl ?_
        refine y_lload_n hC dX10_digest_15 1 rfl 16 rfl ?_
        refine y_lmul hC dX10_digest_16 17 rfl ?_
        refine y_aload_n hC dX10_digest_17 0 rfl 18 rfl ?_
        refine y_iload_n hC dX10_digest_18 2 rfl 19 rfl ?_
        obtain ⟨x19, hx19, hk⟩ := ob_bind hk
        refine y_callV hC 63 (hA 63 (by decide)) (cl_H (u := (c_h c)) rfl) rfl (c_X10_howMany hJ hA l σ c q6.2 x19 hx19) rfl ⟨w4_81, w1_1, cwd_X10_howMany, by decide, by decide⟩ w4_78 w4_80 ws3_13 rfl rfl (Nat.le_of_ble_eq_true rfl) (by decide) dX10_digest_19 22 rfl (gC σ c) rfl [.int x19, .long ((31 : Int64) * q6.1)] rfl ?_
        refine y_i2l hC dX10_digest_22 23 rfl ?_
        refine y_ladd hC dX10_digest_23 24 rfl ?_
        obtain ⟨n24, en24, hk⟩ := ob_lt hk
        refine y_topl en24 ?_
        refine y_lstore_n hC dX10_digest_24 (by decide) [(1, .long n24), (0, .ref (ad Γ 63)), (3, .int q6.2)] rfl 25 rfl ?_
        refine y_iinc hC dX10_digest_25 2 rfl (v := (q6.2 + (1 : Int32))) rfl (by decide) [(3, .int (q6.2 + (1 : Int32))), (1, .long n24), (0, .ref (ad Γ 63))] rfl 28 rfl ?_
        refine y_goto hC dX10_digest_28 6 (by decide) ?_
        refine y_sub [2, 1, 0] rfl ?_
        exact ih6 (n24, (q6.2 + (1 : Int32))) hk
  refine y_ldc2 hC (v := (967 : Int64)) w4_86 dX10_digest_0 3 rfl ?_
  refine y_lstore_n hC dX10_digest_3 (by decide) [(1, .long (967 : Int64)), (0, .ref (ad Γ 63))] rfl 4 rfl ?_
  refine y_iconst hC dX10_digest_4 (v := (0 : Int32)) (by decide) 5 rfl ?_
  refine y_istore_n hC dX10_digest_5 (by decide) [(3, .int (0 : Int32)), (1, .long (967 : Int64)), (0, .ref (ad Γ 63))] rfl 6 rfl ?_
  refine y_sub [2, 1, 0] rfl ?_
  exact L6 1000 ((967 : Int64), (0 : Int32)) hk
