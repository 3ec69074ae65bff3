def f_X10_within (a1 : Int32) (a2 : Int32) (a3 : Int32) : Option (Int32) :=
  if a1 < a2 then
    some (0 : Int32)
  else
    if a3 < a1 then
      some (0 : Int32)
    else
      some (1 : Int32)
theorem cwd_X10_within : yX10_within.cls ≠ "java/lang/invoke/MethodHandle" ∧ yX10_within.cls ≠ "java/lang/invoke/VarHandle" ∧ (parseMethodDescriptor yX10_within.desc).map (fun d => d.parameters.length) = some 3 := by decide +kernel
set_option maxHeartbeats 4000000 in
set_option maxRecDepth 100000 in
theorem c_X10_within {Γ : GC} (hJ : GJ Γ) (l : Launch) (σ : GSt) (a1 : Int32) (a2 : Int32) (a3 : Int32) (x : Int32) (hk : f_X10_within a1 a2 a3 = some x) : Mt Γ l yX10_within cX10_within 3 (some .boolean) 0 0 [.int a1, .int a2, .int a3] σ (some (.int x)) σ := by
  refine y_enter (by decide) hJ (Nat.le_of_ble_eq_true rfl) [(0, .int a1), (1, .int a2), (2, .int a3)] rfl ?_
  intro p e s' m args below meth c' hC hr hlk
  refine y_iload_n hC dX10_within_0 0 rfl 1 rfl ?_
  refine y_iload_n hC dX10_within_1 1 rfl 2 rfl ?_
  refine y_icmp_lt hC dX10_within_2 14 (by decide) 5 rfl (fun h2 => ?_) (fun h2 => ?_)
  · have hk := ob_pos h2 hk
    refine y_iconst hC dX10_within_14 (v := (0 : Int32)) (by decide) 15 rfl ?_
    have e := Option.some.inj hk
    exact y_zret hC hr hlk rfl (by rw [← e]) (by first | rfl | rw [← e]) dX10_within_15
  · have hk := ob_neg h2 hk
    refine y_iload_n hC dX10_within_5 0 rfl 6 rfl ?_
    refine y_iload_n hC dX10_within_6 2 rfl 7 rfl ?_
    refine y_icmp_gt hC dX10_within_7 14 (by decide) 10 rfl (fun h7 => ?_) (fun h7 => ?_)
    · have hk := ob_pos h7 hk
      refine y_iconst hC dX10_within_14 (v := (0 : Int32)) (by decide) 15 rfl ?_
      have e := Option.some.inj hk
      exact y_zret hC hr hlk rfl (by rw [← e]) (by first | rfl | rw [← e]) dX10_within_15
    · have hk := ob_neg h7 hk
      refine y_iconst hC dX10_within_10 (v := (1 : Int32)) (by decide) 11 rfl ?_
      refine y_goto hC dX10_within_11 15 (by decide) ?_
      have e := Option.some.inj hk
      exact y_zret hC hr hlk rfl (by rw [← e]) (by first | rfl | rw [← e]) dX10_within_15
def f_X10_isHour (a1 : Int32) : Option (Int32) :=
  if a1 < 0 then
    some (0 : Int32)
  else
    if (10 : Int32) ≤ a1 then
      some (0 : Int32)
    else
      some (1 : Int32)
theorem cwd_X10_isHour : yX10_isHour.cls ≠ "java/lang/invoke/MethodHandle" ∧ yX10_isHour.cls ≠ "java/lang/invoke/VarHandle" ∧ (parseMethodDescriptor yX10_isHour.desc).map (fun d => d.parameters.length) = some 1 := by decide +kernel
set_option maxHeartbeats 4000000 in
set_option maxRecDepth 100000 in
theorem c_X10_isHour {Γ : GC} (hJ : GJ Γ) (l : Launch) (σ : GSt) (a1 : Int32) (x : Int32) (hk : f_X10_isHour a1 = some x) : Mt Γ l yX10_isHour cX10_isHour 1 (some .boolean) 0 0 [.int a1] σ (some (.int x)) σ := by
  refine y_enter (by decide) hJ (Nat.le_of_ble_eq_true rfl) [(0, .int a1)] rfl ?_
  intro p e s' m args below meth c' hC hr hlk
  refine y_iload_n hC dX10_isHour_0 0 rfl 1 rfl ?_
  refine y_if_lt hC dX10_isHour_1 14 (by decide) 4 rfl (fun h1 => ?_) (fun h1 => ?_)
  · have hk := ob_pos h1 hk
    refine y_iconst hC dX10_isHour_14 (v := (0 : Int32)) (by decide) 15 rfl ?_
    have e := Option.some.inj hk
    exact y_zret hC hr hlk rfl (by rw [← e]) (by first | rfl | rw [← e]) dX10_isHour_15
  · have hk := ob_neg h1 hk
    refine y_iload_n hC dX10_isHour_4 0 rfl 5 rfl ?_
    refine y_bipush hC dX10_isHour_5 (v := (10 : Int32)) (by decide) 7 rfl ?_
    refine y_icmp_ge hC dX10_isHour_7 14 (by decide) 10 rfl (fun h7 => ?_) (fun h7 => ?_)
    · have hk := ob_pos h7 hk
      refine y_iconst hC dX10_isHour_14 (v := (0 : Int32)) (by decide) 15 rfl ?_
      have e := Option.some.inj hk
      exact y_zret hC hr hlk rfl (by rw [← e]) (by first | rfl | rw [← e]) dX10_isHour_15
    · have hk := ob_neg h7 hk
      refine y_iconst hC dX10_isHour_10 (v := (1 : Int32)) (by decide) 11 rfl ?_
      refine y_goto hC dX10_isHour_11 15 (by decide) ?_
      have e := Option.some.inj hk
      exact y_zret hC hr hlk rfl (by rw [← e]) (by first | rfl | rw [← e]) dX10_isHour_15
def f_X10_fall (a1 : Int32) (a2 : Int32) : Option (Int32) :=
  (f_X10_within a1 (0 : Int32) (99 : Int32)).bind fun x4 => 
    (if x4 = 0 then
      some (0 : Int32)
    else
      (f_X10_within a2 (0 : Int32) a1).bind fun x13 => 
        (if x13 = 0 then
          some (0 : Int32)
        else
          some (1 : Int32)))
theorem cwd_X10_fall : yX10_fall.cls ≠ "java/lang/invoke/MethodHandle" ∧ yX10_fall.cls ≠ "java/lang/invoke/VarHandle" ∧ (parseMethodDescriptor yX10_fall.desc).map (fun d => d.parameters.length) = some 2 := by decide +kernel
set_option maxHeartbeats 4000000 in
set_option maxRecDepth 100000 in
theorem c_X10_fall {Γ : GC} (hJ : GJ Γ) (l : Launch) (σ : GSt) (a1 : Int32) (a2 : Int32) (x : Int32) (hk : f_X10_fall a1 a2 = some x) : Mt Γ l yX10_fall cX10_fall 2 (some .boolean) 1 22 [.int a1, .int a2] σ (some (.int x)) σ := by
  refine y_enter (by decide) hJ (Nat.le_of_ble_eq_true rfl) [(0, .int a1), (1, .int a2)] rfl ?_
  intro p e s' m args below meth c' hC hr hlk
  refine y_iload_n hC dX10_fall_0 0 rfl 1 rfl ?_
  refine y_iconst hC dX10_fall_1 (v := (0 : Int32)) (by decide) 2 rfl ?_
  refine y_bipush hC dX10_fall_2 (v := (99 : Int32)) (by decide) 4 rfl ?_
  obtain ⟨x4, hx4, hk⟩ := ob_bind hk
  refine y_callS hC (c_X10_within hJ l σ a1 (0 : Int32) (99 : Int32) x4 hx4) rfl ⟨w2_70, w1_1, cwd_X10_within, by decide, by decide⟩ w2_68 w2_69 rfl rfl (Nat.le_of_ble_eq_true rfl) (by decide) dX10_fall_4 7 rfl σ rfl [.int x4] rfl ?_
  refine y_if_eq hC dX10_fall_7 23 (by decide) 10 rfl (fun h7 => ?_) (fun h7 => ?_)
  · have hk := ob_pos h7 hk
    refine y_iconst hC dX10_fall_23 (v := (0 : Int32)) (by decide) 24 rfl ?_
    have e := Option.some.inj hk
    exact y_zret hC hr hlk rfl (by rw [← e]) (by first | rfl | rw [← e]) dX10_fall_24
  · have hk := ob_neg h7 hk
    refine y_iload_n hC dX10_fall_10 1 rfl 11 rfl ?_
    refine y_iconst hC dX10_fall_11 (v := (0 : Int32)) (by decide) 12 rfl ?_
    refine y_iload_n hC dX10_fall_12 0 rfl 13 rfl ?_
    obtain ⟨x13, hx13, hk⟩ := ob_bind hk
    refine y_callS hC (c_X10_within hJ l σ a2 (0 : Int32) a1 x13 hx13) rfl ⟨w2_70, w1_1, cwd_X10_within, by decide, by decide⟩ w2_68 w2_69 rfl rfl (Nat.le_of_ble_eq_true rfl) (by decide) dX10_fall_13 16 rfl σ rfl [.int x13] rfl ?_
    refine y_if_eq hC dX10_fall_16 23 (by decide) 19 rfl (fun h16 => ?_) (fun h16 => ?_)
    · have hk := ob_pos h16 hk
      refine y_iconst hC dX10_fall_23 (v := (0 : Int32)) (by decide) 24 rfl ?_
      have e := Option.some.inj hk
      exact y_zret hC hr hlk rfl (by rw [← e]) (by first | rfl | rw [← e]) dX10_fall_24
    · have hk := ob_neg h16 hk
      refine y_iconst hC dX10_fall_19 (v := (1 : Int32)) (by decide) 20 rfl ?_
      refine y_goto hC dX10_fall_20 24 (by decide) ?_
      have e := Option.some.inj hk
      exact y_zret hC hr hlk rfl (by rw [← e]) (by first | rfl | rw [← e]) dX10_fall_24
def f_X10_pairOf (a1 : Int32) (a2 : Int32) : Option (Int32) :=
  some (((11 : Int32) * a1) + a2)
theorem cwd_X10_pairOf : yX10_pairOf.cls ≠ "java/lang/invoke/MethodHandle" ∧ yX10_pairOf.cls ≠ "java/lang/invoke/VarHandle" ∧ (parseMethodDescriptor yX10_pairOf.desc).map (fun d => d.parameters.length) = some 2 := by decide +kernel
set_option maxHeartbeats 4000000 in
set_option maxRecDepth 100000 in
theorem c_X10_pairOf {Γ : GC} (hJ : GJ Γ) (l : Launch) (σ : GSt) (a1 : Int32) (a2 : Int32) (x : Int32) (hk : f_X10_pairOf a1 a2 = some x) : Mt Γ l yX10_pairOf cX10_pairOf 2 (some .int) 0 0 [.int a1, .int a2] σ (some (.int x)) σ := by
  refine y_enter (by decide) hJ (Nat.le_of_ble_eq_true rfl) [(0, .int a1), (1, .int a2)] rfl ?_
  intro p e s' m args below meth c' hC hr hlk
  refine y_bipush hC dX10_pairOf_0 (v := (11 : Int32)) (by decide) 2 rfl ?_
  refine y_iload_n hC dX10_pairOf_2 0 rfl 3 rfl ?_
  refine y_imul hC dX10_pairOf_3 4 rfl ?_
  refine y_iload_n hC dX10_pairOf_4 1 rfl 5 rfl ?_
  refine y_iadd hC dX10_pairOf_5 6 rfl ?_
  have e := Option.some.inj hk
  exact y_iret hC hr hlk (by rw [← e]) (by first | rfl | rw [← e]) dX10_pairOf_6
def f_X10_power_s5 (a1 : Int32) (a2 : Int32) (K5 : (Int64 × Int32) → Option (Int64)) (q5 : Int64 × Int32) : Option (Int64) :=
  if a2 ≤ q5.2 then
    some q5.1
  else
    K5 ((q5.1 * a1.toInt64), (q5.2 + (1 : Int32)))
def f_X10_power (a1 : Int32) (a2 : Int32) : Option (Int64) :=
  lp (f_X10_power_s5 a1 a2) 1000 ((1 : Int64), (0 : Int32))
theorem cwd_X10_power : yX10_power.cls ≠ "java/lang/invoke/MethodHandle" ∧ yX10_power.cls ≠ "java/lang/invoke/VarHandle" ∧ (parseMethodDescriptor yX10_power.desc).map (fun d => d.parameters.length) = some 2 := by decide +kernel
set_option maxHeartbeats 4000000 in
set_option maxRecDepth 100000 in
theorem c_X10_power {Γ : GC} (hJ : GJ Γ) (l : Launch) (σ : GSt) (a1 : Int32) (a2 : Int32) (x : Int64) (hk : f_X10_power a1 a2 = some x) : Mt Γ l yX10_power cX10_power 5 (some .long) 0 0 [.int a1, .int a2] σ (some (.long x)) σ := by
  refine y_enter (by decide) hJ (Nat.le_of_ble_eq_true rfl) [(0, .int a1), (1, .int a2)] rfl ?_
  intro p e s' m args below meth c' hC hr hlk
  have L5 : ∀ (n5 : Nat) (q5 : Int64 × Int32), lp (f_X10_power_s5 a1 a2) n5 q5 = some x → Y Γ (GA Γ) p l e ({ frames := 0, cells := 0, slots := 0, locals := 0 } : Room) s' m args below meth c' 0 0 (MQ below (Qg Γ (some (.long x)) σ) args s' 0 0 (GA Γ)) 5 σ 5 [(0, .int a1), (1, .int a2), (2, .long q5.1), (4, .int q5.2)] [] := by
    intro n5
    induction n5 with
    | zero => intro q5 hk; exact (lp_zero hk).elim
    | succ n5 ih5 =>
      intro q5 hk
      have hk : f_X10_power_s5 a1 a2 (lp (f_X10_power_s5 a1 a2) n5) q5 = some x := (lp_succ _ _ _).symm.trans hk
      refine y_iload hC dX10_power_5 3 rfl 7 rfl ?_
      refine y_iload_n hC dX10_power_7 1 rfl 8 rfl ?_
      refine y_icmp_ge hC dX10_power_8 22 (by decide) 11 rfl (fun h8 => ?_) (fun h8 => ?_)
      · have hk := ob_pos h8 hk
        refine y_lload_n hC dX10_power_22 2 rfl 23 rfl ?_
        have e := Option.some.inj hk
        exact y_lret hC hr hlk (by rw [← e]) (by first | rfl | rw [← e]) dX10_power_23
      · have hk := ob_neg h8 hk
        refine y_lload_n hC dX10_power_11 2 rfl 12 rfl ?_
        refine y_iload_n hC dX10_power_12 0 rfl 13 rfl ?_
        refine y_i2l hC dX10_power_13 14 rfl ?_
        refine y_lmul hC dX10_power_14 15 rfl ?_
        refine y_lstore_n hC dX10_power_15 (by decide) [(2, .long (q5.1 * a1.toInt64)), (0, .int a1), (1, .int a2), (4, .int q5.2)] rfl 16 rfl ?_
        refine y_iinc hC dX10_power_16 3 rfl (v := (q5.2 + (1 : Int32))) rfl (by decide) [(4, .int (q5.2 + (1 : Int32))), (2, .long (q5.1 * a1.toInt64)), (0, .int a1), (1, .int a2)] rfl 19 rfl ?_
        refine y_goto hC dX10_power_19 5 (by decide) ?_
        refine y_sub [2, 3, 1, 0] rfl ?_
        exact ih5 ((q5.1 * a1.toInt64), (q5.2 + (1 : Int32))) hk
  refine y_lconst hC dX10_power_0 (v := (1 : Int64)) (by decide) 1 rfl ?_
  refine y_lstore_n hC dX10_power_1 (by decide) [(2, .long (1 : Int64)), (0, .int a1), (1, .int a2)] rfl 2 rfl ?_
  refine y_iconst hC dX10_power_2 (v := (0 : Int32)) (by decide) 3 rfl ?_
  refine y_istore hC dX10_power_3 (by decide) [(4, .int (0 : Int32)), (2, .long (1 : Int64)), (0, .int a1), (1, .int a2)] rfl 5 rfl ?_
  refine y_sub [2, 3, 1, 0] rfl ?_
  exact L5 1000 ((1 : Int64), (0 : Int32)) hk
def f_X10_commonDivisor_s3 (K3 : (Int64 × Int64 × Int32) → Option (Int64)) (q3 : Int64 × Int64 × Int32) : Option (Int64) :=
  if (100 : Int32) ≤ q3.2.2 then
    some q3.1
  else
    if (lg_cmp q3.2.1 (0 : Int64)) = 0 then
      some q3.1
    else
      if q3.2.1 = 0 then none else 
        (lt (q3.1 - q3.1 / q3.2.1 * q3.2.1) fun n19 => 
        (K3 (q3.2.1, n19, (q3.2.2 + (1 : Int32)))))
def f_X10_commonDivisor (a1 : Int64) (a2 : Int64) : Option (Int64) :=
  lp (f_X10_commonDivisor_s3) 1000 (a1, a2, (0 : Int32))
theorem cwd_X10_commonDivisor : yX10_commonDivisor.cls ≠ "java/lang/invoke/MethodHandle" ∧ yX10_commonDivisor.cls ≠ "java/lang/invoke/VarHandle" ∧ (parseMethodDescriptor yX10_commonDivisor.desc).map (fun d => d.parameters.length) = some 2 := by decide +kernel
set_option maxHeartbeats 4000000 in
set_option maxRecDepth 100000 in
theorem c_X10_commonDivisor {Γ : GC} (hJ : GJ Γ) (l : Launch) (σ : GSt) (a1 : Int64) (a2 : Int64) (x : Int64) (hk : f_X10_commonDivisor a1 a2 = some x) : Mt Γ l yX10_commonDivisor cX10_commonDivisor 7 (some .long) 0 0 [.long a1, .long a2] σ (some (.long x)) σ := by
  refine y_enter (by decide) hJ (Nat.le_of_ble_eq_true rfl) [(0, .long a1), (2, .long a2)] rfl ?_
  intro p e s' m args below meth c' hC hr hlk
  have L3 : ∀ (n3 : Nat) (q3 : Int64 × Int64 × Int32), lp (f_X10_commonDivisor_s3) n3 q3 = some x → Y Γ (GA Γ) p l e ({ frames := 0, cells := 0, slots := 0, locals := 0 } : Room) s' m args below meth c' 0 0 (MQ below (Qg Γ (some (.long x)) σ) args s' 0 0 (GA Γ)) 7 σ 3 [(0, .long q3.1), (2, .long q3.2.1), (4, .int q3.2.2)] [] := by
    intro n3
    induction n3 with
    | zero => intro q3 hk; exact (lp_zero hk).elim
    | succ n3 ih3 =>
      intro q3 hk
      have hk : f_X10_commonDivisor_s3 (lp (f_X10_commonDivisor_s3) n3) q3 = some x := (lp_succ _ _ _).symm.trans hk
      refine y_iload hC dX10_commonDivisor_3 2 rfl 5 rfl ?_
      refine y_bipush hC dX10_commonDivisor_5 (v := (100 : Int32)) (by decide) 7 rfl ?_
      refine y_icmp_ge hC dX10_commonDivisor_7 32 (by decide) 10 rfl (fun h7 => ?_) (fun h7 => ?_)
      · have hk := ob_pos h7 hk
        refine y_lload_n hC dX10_commonDivisor_32 0 rfl 33 rfl ?_
        have e := Option.some.inj hk
        exact y_lret hC hr hlk (by rw [← e]) (by first | rfl | rw [← e]) dX10_commonDivisor_33
      · have hk := ob_neg h7 hk
        refine y_lload_n hC dX10_commonDivisor_10 1 rfl 11 rfl ?_
        refine y_lconst hC dX10_commonDivisor_11 (v := (0 : Int64)) (by decide) 12 rfl ?_
        refine y_lcmp hC dX10_commonDivisor_12 13 rfl ?_
        refine y_if_eq hC dX10_commonDivisor_13 32 (by decide) 16 rfl (fun h13 => ?_) (fun h13 => ?_)
        · have hk := ob_pos h13 hk
          refine y_lload_n hC dX10_commonDivisor_32 0 rfl 33 rfl ?_
          have e := Option.some.inj hk
          exact y_lret hC hr hlk (by rw [← e]) (by first | rfl | rw [← e]) dX10_commonDivisor_33
        · have hk := ob_neg h13 hk
          refine y_lload_n hC dX10_commonDivisor_16 0 rfl 17 rfl ?_
          refine y_lload_n hC dX10_commonDivisor_17 1 rfl 18 rfl ?_
          obtain ⟨h18, hk⟩ := ob_ifn hk
          refine y_lrem hC dX10_commonDivisor_18 h18 19 rfl ?_
          obtain ⟨n19, en19, hk⟩ := ob_lt hk
          refine y_topl en19 ?_
          refine y_lstore hC dX10_commonDivisor_19 (by decide) [(5, .long n19), (0, .long q3.1), (2, .long q3.2.1), (4, .int q3.2.2)] rfl 21 rfl ?_
          refine y_lload_n hC dX10_commonDivisor_21 2 rfl 22 rfl ?_
          refine y_lstore_n hC dX10_commonDivisor_22 (by decide) [(0, .long q3.2.1), (5, .long n19), (2, .long q3.2.1), (4, .int q3.2.2)] rfl 23 rfl ?_
          refine y_lload hC dX10_commonDivisor_23 1 rfl 25 rfl ?_
          refine y_lstore_n hC dX10_commonDivisor_25 (by decide) [(2, .long n19), (0, .long q3.2.1), (5, .long n19), (4, .int q3.2.2)] rfl 26 rfl ?_
          refine y_iinc hC dX10_commonDivisor_26 3 rfl (v := (q3.2.2 + (1 : Int32))) rfl (by decide) [(4, .int (q3.2.2 + (1 : Int32))), (2, .long n19), (0, .long q3.2.1), (5, .long n19)] rfl 29 rfl ?_
          refine y_goto hC dX10_commonDivisor_29 3 (by decide) ?_
          refine y_sub [2, 1, 0] rfl ?_
          exact ih3 (q3.2.1, n19, (q3.2.2 + (1 : Int32))) hk
  refine y_iconst hC dX10_commonDivisor_0 (v := (0 : Int32)) (by decide) 1 rfl ?_
  refine y_istore hC dX10_commonDivisor_1 (by decide) [(4, .int (0 : Int32)), (0, .long a1), (2, .long a2)] rfl 3 rfl ?_
  refine y_sub [1, 2, 0] rfl ?_
  exact L3 1000 (a1, a2, (0 : Int32)) hk
