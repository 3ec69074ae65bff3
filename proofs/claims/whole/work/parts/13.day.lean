def f_X2_wayOf_j19 (d : DSt) (a1 : Int32) : Option (Nat) :=
  if inb (0 : Int32) 6 then 
    (some (0 : Int32).toNatClampNeg)
  else none
def f_X2_wayOf (d : DSt) (a1 : Int32) : Option (Nat) :=
  if a1 < 0 then
    f_X2_wayOf_j19 d a1
  else
    if (6 : Int32) ≤ a1 then
      f_X2_wayOf_j19 d a1
    else
      if inb a1 6 then 
        (some a1.toNatClampNeg)
      else none
theorem cwd_X2_wayOf : yX2_wayOf.cls ≠ "java/lang/invoke/MethodHandle" ∧ yX2_wayOf.cls ≠ "java/lang/invoke/VarHandle" ∧ (parseMethodDescriptor yX2_wayOf.desc).map (fun d => d.parameters.length) = some 1 := by decide +kernel
set_option maxHeartbeats 4000000 in
set_option maxRecDepth 100000 in
theorem c_X2_wayOf {Γ : GC} (hJ : GJ Γ) (hA : ∀ i, i < 66 → act Γ i) (l : Launch) (σ : GSt) (d : DSt) (a1 : Int32) (x : Nat) (hk : f_X2_wayOf d a1 = some x) : Mt Γ l yX2_wayOf cX2_wayOf 2 (some (.object "HalfByFive$Plain")) 0 0 [.ref (ad Γ 40), .int a1] (gD σ d) (some (.ref (ad Γ (50 + x)))) (gD σ d) := by
  refine y_enter (by decide) hJ (Nat.le_of_ble_eq_true rfl) [(0, .ref (ad Γ 40)), (1, .int a1)] rfl ?_
  intro p e s' m args below meth c' hC hr hlk
  have J19 : ∀ (_ : Unit), f_X2_wayOf_j19 d a1 = some x → Y Γ (GA Γ) p l e ({ frames := 0, cells := 0, slots := 0, locals := 0 } : Room) s' m args below meth c' 0 0 (MQ below (Qg Γ (some (.ref (ad Γ (50 + x)))) (gD σ d)) args s' 0 0 (GA Γ)) 2 (gD σ d) 19 [(0, .ref (ad Γ 40)), (1, .int a1)] [] := by
    intro _ hk
    refine y_aload_n hC dX2_wayOf_19 0 rfl 20 rfl ?_
    refine y_get hC 40 (hA 40 (by decide)) (cl_D (u := d) rfl) rfl inU2 0 (by decide) w1_168 rfl dX2_wayOf_20 23 rfl ?_
    refine y_iconst hC dX2_wayOf_23 (v := (0 : Int32)) (by decide) 24 rfl ?_
    obtain ⟨h24, hk⟩ := ob_if hk
    refine y_aald hC 49 2 (hA 49 (by decide)) cl_ways rfl h24 dX2_wayOf_24 rfl 25 rfl ?_
    have e := Option.some.inj hk
    exact y_aret hC hr hlk (by rw [← e]) (by first | rfl | rw [← e]) dX2_wayOf_25
  refine y_iload_n hC dX2_wayOf_0 1 rfl 1 rfl ?_
  refine y_if_lt hC dX2_wayOf_1 19 (by decide) 4 rfl (fun h1 => ?_) (fun h1 => ?_)
  · have hk := ob_pos h1 hk
    refine y_sub [0, 1] rfl ?_
    exact J19 () hk
  · have hk := ob_neg h1 hk
    refine y_iload_n hC dX2_wayOf_4 1 rfl 5 rfl ?_
    refine y_bipush hC dX2_wayOf_5 (v := (6 : Int32)) (by decide) 7 rfl ?_
    refine y_icmp_ge hC dX2_wayOf_7 19 (by decide) 10 rfl (fun h7 => ?_) (fun h7 => ?_)
    · have hk := ob_pos h7 hk
      refine y_sub [0, 1] rfl ?_
      exact J19 () hk
    · have hk := ob_neg h7 hk
      refine y_aload_n hC dX2_wayOf_10 0 rfl 11 rfl ?_
      refine y_get hC 40 (hA 40 (by decide)) (cl_D (u := d) rfl) rfl inU2 0 (by decide) w1_168 rfl dX2_wayOf_11 14 rfl ?_
      refine y_iload_n hC dX2_wayOf_14 1 rfl 15 rfl ?_
      obtain ⟨h15, hk⟩ := ob_if hk
      refine y_aald hC 49 2 (hA 49 (by decide)) cl_ways rfl h15 dX2_wayOf_15 rfl 16 rfl ?_
      refine y_goto hC dX2_wayOf_16 25 (by decide) ?_
      have e := Option.some.inj hk
      exact y_aret hC hr hlk (by rw [← e]) (by first | rfl | rw [← e]) dX2_wayOf_25
def f_X2_hourOf (d : DSt) (a1 : Int32) : Option (Int32) :=
  if a1 < 0 then
    some (0 : Int32)
  else
    if (8 : Int32) ≤ a1 then
      some (0 : Int32)
    else
      if inb a1 8 then 
        (some (pD_when d a1.toNatClampNeg))
      else none
theorem cwd_X2_hourOf : yX2_hourOf.cls ≠ "java/lang/invoke/MethodHandle" ∧ yX2_hourOf.cls ≠ "java/lang/invoke/VarHandle" ∧ (parseMethodDescriptor yX2_hourOf.desc).map (fun d => d.parameters.length) = some 1 := by decide +kernel
set_option maxHeartbeats 4000000 in
set_option maxRecDepth 100000 in
theorem c_X2_hourOf {Γ : GC} (hJ : GJ Γ) (hA : ∀ i, i < 66 → act Γ i) (l : Launch) (σ : GSt) (d : DSt) (a1 : Int32) (x : Int32) (hk : f_X2_hourOf d a1 = some x) : Mt Γ l yX2_hourOf cX2_hourOf 2 (some .int) 0 0 [.ref (ad Γ 40), .int a1] (gD σ d) (some (.int x)) (gD σ d) := by
  refine y_enter (by decide) hJ (Nat.le_of_ble_eq_true rfl) [(0, .ref (ad Γ 40)), (1, .int a1)] rfl ?_
  intro p e s' m args below meth c' hC hr hlk
  refine y_iload_n hC dX2_hourOf_0 1 rfl 1 rfl ?_
  refine y_if_lt hC dX2_hourOf_1 19 (by decide) 4 rfl (fun h1 => ?_) (fun h1 => ?_)
  · have hk := ob_pos h1 hk
    refine y_iconst hC dX2_hourOf_19 (v := (0 : Int32)) (by decide) 20 rfl ?_
    have e := Option.some.inj hk
    exact y_iret hC hr hlk (by rw [← e]) (by first | rfl | rw [← e]) dX2_hourOf_20
  · have hk := ob_neg h1 hk
    refine y_iload_n hC dX2_hourOf_4 1 rfl 5 rfl ?_
    refine y_bipush hC dX2_hourOf_5 (v := (8 : Int32)) (by decide) 7 rfl ?_
    refine y_icmp_ge hC dX2_hourOf_7 19 (by decide) 10 rfl (fun h7 => ?_) (fun h7 => ?_)
    · have hk := ob_pos h7 hk
      refine y_iconst hC dX2_hourOf_19 (v := (0 : Int32)) (by decide) 20 rfl ?_
      have e := Option.some.inj hk
      exact y_iret hC hr hlk (by rw [← e]) (by first | rfl | rw [← e]) dX2_hourOf_20
    · have hk := ob_neg h7 hk
      refine y_aload_n hC dX2_hourOf_10 0 rfl 11 rfl ?_
      refine y_get hC 40 (hA 40 (by decide)) (cl_D (u := d) rfl) rfl inU2 1 (by decide) w1_169 rfl dX2_hourOf_11 14 rfl ?_
      refine y_iload_n hC dX2_hourOf_14 1 rfl 15 rfl ?_
      obtain ⟨h15, hk⟩ := ob_if hk
      refine y_iald hC 41 (hA 41 (by decide)) (cl_D_when (u := d) rfl) h15 dX2_hourOf_15 16 rfl ?_
      refine y_goto hC dX2_hourOf_16 20 (by decide) ?_
      have e := Option.some.inj hk
      exact y_iret hC hr hlk (by rw [← e]) (by first | rfl | rw [← e]) dX2_hourOf_20
def f_X2_lineUp_j46 (a1 : Int32) (v2 : Int32) (gd : DSt) : Option (DSt) :=
  if inb v2 8 then 
    (lt (sD_order gd (upd (pD_order gd) v2.toNatClampNeg a1)) fun g52 => 
    (some g52))
  else none
def f_X2_lineUp_s2 (a1 : Int32) (K2 : (Int32 × DSt) → Option (DSt)) (q2 : Int32 × DSt) : Option (DSt) :=
  if q2.1 ≤ 0 then
    f_X2_lineUp_j46 a1 q2.1 q2.2
  else
    if inb (q2.1 - (1 : Int32)) 8 then 
      ((f_X2_hourOf q2.2 (pD_order q2.2 (q2.1 - (1 : Int32)).toNatClampNeg)).bind fun x15 => 
      ((f_X2_hourOf q2.2 a1).bind fun x20 => 
      (if x15 ≤ x20 then
        f_X2_lineUp_j46 a1 q2.1 q2.2
      else
        if inb (q2.1 - (1 : Int32)) 8 then 
          (if inb q2.1 8 then 
          (lt (sD_order q2.2 (upd (pD_order q2.2) q2.1.toNatClampNeg (pD_order q2.2 (q2.1 - (1 : Int32)).toNatClampNeg))) fun g39 => 
          (K2 ((q2.1 + (-1 : Int32)), g39)))
        else none)
        else none)))
    else none
def f_X2_lineUp (d : DSt) (a1 : Int32) : Option (DSt) :=
  lp (f_X2_lineUp_s2 a1) 1000 (a1, d)
theorem cwd_X2_lineUp : yX2_lineUp.cls ≠ "java/lang/invoke/MethodHandle" ∧ yX2_lineUp.cls ≠ "java/lang/invoke/VarHandle" ∧ (parseMethodDescriptor yX2_lineUp.desc).map (fun d => d.parameters.length) = some 1 := by decide +kernel
set_option maxHeartbeats 4000000 in
set_option maxRecDepth 100000 in
theorem c_X2_lineUp {Γ : GC} (hJ : GJ Γ) (hA : ∀ i, i < 66 → act Γ i) (l : Launch) (σ : GSt) (d : DSt) (a1 : Int32) (x : DSt) (hk : f_X2_lineUp d a1 = some x) : Mt Γ l yX2_lineUp cX2_lineUp 3 none 1 21 [.ref (ad Γ 40), .int a1] (gD σ d) none (gD σ x) := by
  refine y_enter (by decide) hJ (Nat.le_of_ble_eq_true rfl) [(0, .ref (ad Γ 40)), (1, .int a1)] rfl ?_
  intro p e s' m args below meth c' hC hr hlk
  have J46 : ∀ (v2 : Int32) (gd : DSt), f_X2_lineUp_j46 a1 v2 gd = some x → Y Γ (GA Γ) p l e ({ frames := 1, cells := 0, slots := 0, locals := 21 } : Room) s' m args below meth c' 0 0 (MQ below (Qg Γ none (gD σ x)) args s' 0 0 (GA Γ)) 3 (gD σ gd) 46 [(0, .ref (ad Γ 40)), (1, .int a1), (2, .int v2)] [] := by
    intro v2 gd hk
    refine y_aload_n hC dX2_lineUp_46 0 rfl 47 rfl ?_
    refine y_get hC 40 (hA 40 (by decide)) (cl_D (u := gd) rfl) rfl inU2 5 (by decide) w1_176 rfl dX2_lineUp_47 50 rfl ?_
    refine y_iload_n hC dX2_lineUp_50 2 rfl 51 rfl ?_
    refine y_iload_n hC dX2_lineUp_51 1 rfl 52 rfl ?_
    obtain ⟨h52, hk⟩ := ob_if hk
    obtain ⟨g52, eg52, hk⟩ := ob_lt hk
    refine y_iast hC 45 (hA 45 (by decide)) (cl_D_order (u := gd) rfl) h52 (gD σ g52) (by subst eg52; exact (cu_D_order (u := gd) (v := (upd (pD_order gd) v2.toNatClampNeg a1)) rfl rfl)) dX2_lineUp_52 53 rfl ?_
    have e := Option.some.inj hk
    exact y_vret hC hr hlk (by rw [← e]) dX2_lineUp_53
  have L2 : ∀ (n2 : Nat) (q2 : Int32 × DSt), lp (f_X2_lineUp_s2 a1) n2 q2 = some x → Y Γ (GA Γ) p l e ({ frames := 1, cells := 0, slots := 0, locals := 21 } : Room) s' m args below meth c' 0 0 (MQ below (Qg Γ none (gD σ x)) args s' 0 0 (GA Γ)) 3 (gD σ q2.2) 2 [(0, .ref (ad Γ 40)), (1, .int a1), (2, .int q2.1)] [] := by
    intro n2
    induction n2 with
    | zero => intro q2 hk; exact (lp_zero hk).elim
    | succ n2 ih2 =>
      intro q2 hk
      have hk : f_X2_lineUp_s2 a1 (lp (f_X2_lineUp_s2 a1) n2) q2 = some x := (lp_succ _ _ _).symm.trans hk
      refine y_iload_n hC dX2_lineUp_2 2 rfl 3 rfl ?_
      refine y_if_le hC dX2_lineUp_3 46 (by decide) 6 rfl (fun h3 => ?_) (fun h3 => ?_)
      · have hk := ob_pos h3 hk
        refine y_sub [0, 1, 2] rfl ?_
        exact J46 q2.1 q2.2 hk
      · have hk := ob_neg h3 hk
        refine y_aload_n hC dX2_lineUp_6 0 rfl 7 rfl ?_
        refine y_aload_n hC dX2_lineUp_7 0 rfl 8 rfl ?_
        refine y_get hC 40 (hA 40 (by decide)) (cl_D (u := q2.2) rfl) rfl inU2 5 (by decide) w1_176 rfl dX2_lineUp_8 11 rfl ?_
        refine y_iload_n hC dX2_lineUp_11 2 rfl 12 rfl ?_
        refine y_iconst hC dX2_lineUp_12 (v := (1 : Int32)) (by decide) 13 rfl ?_
        refine y_isub hC dX2_lineUp_13 14 rfl ?_
        obtain ⟨h14, hk⟩ := ob_if hk
        refine y_iald hC 45 (hA 45 (by decide)) (cl_D_order (u := q2.2) rfl) h14 dX2_lineUp_14 15 rfl ?_
        obtain ⟨x15, hx15, hk⟩ := ob_bind hk
        refine y_callV hC 40 (hA 40 (by decide)) (cl_D (u := q2.2) rfl) rfl (c_X2_hourOf hJ hA l σ q2.2 (pD_order q2.2 (q2.1 - (1 : Int32)).toNatClampNeg) x15 hx15) rfl ⟨w3_132, w1_4, cwd_X2_hourOf, by decide, by decide⟩ w3_129 w3_131 ws2_11 rfl rfl (Nat.le_of_ble_eq_true rfl) (by decide) dX2_lineUp_15 18 rfl (gD σ q2.2) rfl [.int x15] rfl ?_
        refine y_aload_n hC dX2_lineUp_18 0 rfl 19 rfl ?_
        refine y_iload_n hC dX2_lineUp_19 1 rfl 20 rfl ?_
        obtain ⟨x20, hx20, hk⟩ := ob_bind hk
        refine y_callV hC 40 (hA 40 (by decide)) (cl_D (u := q2.2) rfl) rfl (c_X2_hourOf hJ hA l σ q2.2 a1 x20 hx20) rfl ⟨w3_132, w1_4, cwd_X2_hourOf, by decide, by decide⟩ w3_129 w3_131 ws2_11 rfl rfl (Nat.le_of_ble_eq_true rfl) (by decide) dX2_lineUp_20 23 rfl (gD σ q2.2) rfl [.int x20, .int x15] rfl ?_
        refine y_icmp_le hC dX2_lineUp_23 46 (by decide) 26 rfl (fun h23 => ?_) (fun h23 => ?_)
        · have hk := ob_pos h23 hk
          refine y_sub [0, 1, 2] rfl ?_
          exact J46 q2.1 q2.2 hk
        · have hk := ob_neg h23 hk
          refine y_aload_n hC dX2_lineUp_26 0 rfl 27 rfl ?_
          refine y_get hC 40 (hA 40 (by decide)) (cl_D (u := q2.2) rfl) rfl inU2 5 (by decide) w1_176 rfl dX2_lineUp_27 30 rfl ?_
          refine y_iload_n hC dX2_lineUp_30 2 rfl 31 rfl ?_
          refine y_aload_n hC dX2_lineUp_31 0 rfl 32 rfl ?_
          refine y_get hC 40 (hA 40 (by decide)) (cl_D (u := q2.2) rfl) rfl inU2 5 (by decide) w1_176 rfl dX2_lineUp_32 35 rfl ?_
          refine y_iload_n hC dX2_lineUp_35 2 rfl 36 rfl ?_
          refine y_iconst hC dX2_lineUp_36 (v := (1 : Int32)) (by decide) 37 rfl ?_
          refine y_isub hC dX2_lineUp_37 38 rfl ?_
          obtain ⟨h38, hk⟩ := ob_if hk
          refine y_iald hC 45 (hA 45 (by decide)) (cl_D_order (u := q2.2) rfl) h38 dX2_lineUp_38 39 rfl ?_
          obtain ⟨h39, hk⟩ := ob_if hk
          obtain ⟨g39, eg39, hk⟩ := ob_lt hk
          refine y_iast hC 45 (hA 45 (by decide)) (cl_D_order (u := q2.2) rfl) h39 (gD σ g39) (by subst eg39; exact (cu_D_order (u := q2.2) (v := (upd (pD_order q2.2) q2.1.toNatClampNeg (pD_order q2.2 (q2.1 - (1 : Int32)).toNatClampNeg))) rfl rfl)) dX2_lineUp_39 40 rfl ?_
          refine y_iinc hC dX2_lineUp_40 2 rfl (v := (q2.1 + (-1 : Int32))) rfl (by decide) [(2, .int (q2.1 + (-1 : Int32))), (0, .ref (ad Γ 40)), (1, .int a1)] rfl 43 rfl ?_
          refine y_goto hC dX2_lineUp_43 2 (by decide) ?_
          refine y_sub [1, 2, 0] rfl ?_
          exact ih2 ((q2.1 + (-1 : Int32)), g39) hk
  refine y_iload_n hC dX2_lineUp_0 1 rfl 1 rfl ?_
  refine y_istore_n hC dX2_lineUp_1 (by decide) [(2, .int a1), (0, .ref (ad Γ 40)), (1, .int a1)] rfl 2 rfl ?_
  refine y_sub [1, 2, 0] rfl ?_
  exact L2 1000 (a1, d) hk
def f_X2_plan_j113 (u : MSt) (K2 : (Int32 × DSt) → Option (DSt)) (v2 : Int32) (t0 : Int32) (t1 : Int32) (gd : DSt) : Option (DSt) :=
  if inb t1 8 then 
    (lt (sD_staysAway gd (upd (pD_staysAway gd) t1.toNatClampNeg (vp_nar .boolean t0))) fun g113 => 
    ((f_X2_lineUp g113 v2).bind fun x116 => 
    (K2 ((v2 + (1 : Int32)), x116))))
  else none
def f_X2_plan_j112 (u : MSt) (K2 : (Int32 × DSt) → Option (DSt)) (v2 : Int32) (t0 : Int32) (gd : DSt) : Option (DSt) :=
  f_X2_plan_j113 u K2 v2 (0 : Int32) t0 gd
def f_X2_plan_s2 (u : MSt) (K2 : (Int32 × DSt) → Option (DSt)) (q2 : Int32 × DSt) : Option (DSt) :=
  if (pM_size u) ≤ q2.1 then
    some q2.2
  else
    if (8 : Int32) ≤ q2.1 then
      some q2.2
    else
      if inb q2.1 8 then 
        ((f_X2_wayOf q2.2 (pM_kinds u q2.1.toNatClampNeg)).bind fun x23 => 
        (if inb q2.1 8 then 
        (if x23 < 6 then 
        ((f_way_buysIn x23 u (pM_hours u q2.1.toNatClampNeg)).bind fun x35 => 
        (if inb q2.1 8 then 
        (lt (sD_when q2.2 (upd (pD_when q2.2) q2.1.toNatClampNeg x35)) fun g47 => 
        (if inb q2.1 8 then 
        (if x23 < 6 then 
        ((f_way_paysAtMost x23 (pM_worths u q2.1.toNatClampNeg) ((pM_heat u) * x35)).bind fun x67 => 
        (if inb q2.1 8 then 
        (lt (sD_pays g47 (upd (pD_pays g47) q2.1.toNatClampNeg x67)) fun g70 => 
        (if inb q2.1 8 then 
        (if x23 < 6 then 
        ((f_way_carriesOff x23 (pM_wants u q2.1.toNatClampNeg)).bind fun x83 => 
        (if inb q2.1 8 then 
        (lt (sD_carries g70 (upd (pD_carries g70) q2.1.toNatClampNeg x83)) fun g86 => 
        ((f_X3_rainsIn u x35).bind fun x95 => 
        (if x95 = 0 then
          f_X2_plan_j112 u K2 q2.1 q2.1 g86
        else
          if x23 < 6 then 
            ((f_way_comesInRain x23).bind fun x102 => 
            (if x102 = 0 then
              f_X2_plan_j113 u K2 q2.1 (1 : Int32) q2.1 g86
            else
              f_X2_plan_j112 u K2 q2.1 q2.1 g86))
          else none)))
      else none))
      else none)
      else none))
      else none))
      else none)
      else none))
      else none))
      else none)
      else none))
      else none
def f_X2_plan (d : DSt) (u : MSt) : Option (DSt) :=
  lp (f_X2_plan_s2 u) 1000 ((0 : Int32), d)
theorem cwd_X2_plan : yX2_plan.cls ≠ "java/lang/invoke/MethodHandle" ∧ yX2_plan.cls ≠ "java/lang/invoke/VarHandle" ∧ (parseMethodDescriptor yX2_plan.desc).map (fun d => d.parameters.length) = some 1 := by decide +kernel
set_option maxHeartbeats 4000000 in
set_option maxRecDepth 100000 in
theorem c_X2_plan {Γ : GC} (hJ : GJ Γ) (hA : ∀ i, i < 66 → act Γ i) (l : Launch) (σ : GSt) (k : Nat) (hk4 : k < 4) (d : DSt) (u : MSt) (x : DSt) (hk : f_X2_plan d u = some x) : Mt Γ l yX2_plan cX2_plan 5 none 3 101 [.ref (ad Γ 40), .ref (ad Γ (10 * k))] (gD (gM k σ u) d) none (gD (gM k σ u) x) := by
  refine y_enter (by decide) hJ (Nat.le_of_ble_eq_true rfl) [(0, .ref (ad Γ 40)), (1, .ref (ad Γ (10 * k)))] rfl ?_
  intro p e s' m args below meth c' hC hr hlk
  have hM : ∀ j, j < 10 → act Γ (10 * k + j) := fun j hj => hA _ (by omega)
  have L2 : ∀ (n2 : Nat) (q2 : Int32 × DSt), lp (f_X2_plan_s2 u) n2 q2 = some x → Y Γ (GA Γ) p l e ({ frames := 3, cells := 0, slots := 0, locals := 101 } : Room) s' m args below meth c' 0 0 (MQ below (Qg Γ none (gD (gM k σ u) x)) args s' 0 0 (GA Γ)) 5 (gD (gM k σ u) q2.2) 2 [(0, .ref (ad Γ 40)), (1, .ref (ad Γ (10 * k))), (2, .int q2.1)] [] := by
    intro n2
    induction n2 with
    | zero => intro q2 hk; exact (lp_zero hk).elim
    | succ n2 ih2 =>
      intro q2 hk
      have hk : f_X2_plan_s2 u (lp (f_X2_plan_s2 u) n2) q2 = some x := (lp_succ _ _ _).symm.trans hk
      have J113 : ∀ (v2 : Int32) (t0 : Int32) (t1 : Int32) (gd : DSt), f_X2_plan_j113 u (lp (f_X2_plan_s2 u) n2) v2 t0 t1 gd = some x → Y Γ (GA Γ) p l e ({ frames := 3, cells := 0, slots := 0, locals := 101 } : Room) s' m args below meth c' 0 0 (MQ below (Qg Γ none (gD (gM k σ u) x)) args s' 0 0 (GA Γ)) 5 (gD (gM k σ u) gd) 113 [(0, .ref (ad Γ 40)), (1, .ref (ad Γ (10 * k))), (2, .int v2)] [.int t0, .int t1, .ref (ad Γ 44)] := by
        intro v2 t0 t1 gd hk
        obtain ⟨h113, hk⟩ := ob_if hk
        obtain ⟨g113, eg113, hk⟩ := ob_lt hk
        refine y_zast hC 44 (hA 44 (by decide)) (cl_D_staysAway (u := gd) rfl) h113 (gD (gM k σ u) g113) (by subst eg113; exact (cu_D_staysAway (u := gd) (v := (upd (pD_staysAway gd) t1.toNatClampNeg (vp_nar .boolean t0))) rfl rfl)) dX2_plan_113 114 rfl ?_
        refine y_aload_n hC dX2_plan_114 0 rfl 115 rfl ?_
        refine y_iload_n hC dX2_plan_115 2 rfl 116 rfl ?_
        obtain ⟨x116, hx116, hk⟩ := ob_bind hk
        refine y_callV hC 40 (hA 40 (by decide)) (cl_D (u := g113) rfl) rfl (c_X2_lineUp hJ hA l (gM k σ u) g113 v2 x116 hx116) rfl ⟨w3_128, w1_4, cwd_X2_lineUp, by decide, by decide⟩ w3_125 w3_127 ws2_10 rfl rfl (Nat.le_of_ble_eq_true rfl) (by decide) dX2_plan_116 119 rfl (gD (gM k σ u) x116) rfl [] rfl ?_
        refine y_iinc hC dX2_plan_119 2 rfl (v := (v2 + (1 : Int32))) rfl (by decide) [(2, .int (v2 + (1 : Int32))), (0, .ref (ad Γ 40)), (1, .ref (ad Γ (10 * k)))] rfl 122 rfl ?_
        refine y_goto hC dX2_plan_122 2 (by decide) ?_
        refine y_sub [1, 2, 0] rfl ?_
        exact ih2 ((v2 + (1 : Int32)), x116) hk
      have J112 : ∀ (v2 : Int32) (t0 : Int32) (gd : DSt), f_X2_plan_j112 u (lp (f_X2_plan_s2 u) n2) v2 t0 gd = some x → Y Γ (GA Γ) p l e ({ frames := 3, cells := 0, slots := 0, locals := 101 } : Room) s' m args below meth c' 0 0 (MQ below (Qg Γ none (gD (gM k σ u) x)) args s' 0 0 (GA Γ)) 5 (gD (gM k σ u) gd) 112 [(0, .ref (ad Γ 40)), (1, .ref (ad Γ (10 * k))), (2, .int v2)] [.int t0, .ref (ad Γ 44)] := by
        intro v2 t0 gd hk
        refine y_iconst hC dX2_plan_112 (v := (0 : Int32)) (by decide) 113 rfl ?_
        refine y_sub [0, 1, 2] rfl ?_
        exact J113 v2 (0 : Int32) t0 gd hk
      refine y_iload_n hC dX2_plan_2 2 rfl 3 rfl ?_
      refine y_aload_n hC dX2_plan_3 1 rfl 4 rfl ?_
      refine y_getN hC (10 * k) (hM 0 (by decide)) (cl_M (k := k) (mm := σ.1.2.1) (u := u) hk4 rfl) rfl inU3 3 (by decide) w1_49 rfl dX2_plan_4 7 rfl ?_
      refine y_icmp_ge hC dX2_plan_7 125 (by decide) 10 rfl (fun h7 => ?_) (fun h7 => ?_)
      · have hk := ob_pos h7 hk
        have e := Option.some.inj hk
        exact y_vret hC hr hlk (by rw [← e]) dX2_plan_125
      · have hk := ob_neg h7 hk
        refine y_iload_n hC dX2_plan_10 2 rfl 11 rfl ?_
        refine y_bipush hC dX2_plan_11 (v := (8 : Int32)) (by decide) 13 rfl ?_
        refine y_icmp_ge hC dX2_plan_13 125 (by decide) 16 rfl (fun h13 => ?_) (fun h13 => ?_)
        · have hk := ob_pos h13 hk
          have e := Option.some.inj hk
          exact y_vret hC hr hlk (by rw [← e]) dX2_plan_125
        · have hk := ob_neg h13 hk
          refine y_aload_n hC dX2_plan_16 0 rfl 17 rfl ?_
          refine y_aload_n hC dX2_plan_17 1 rfl 18 rfl ?_
          refine y_getN hC (10 * k) (hM 0 (by decide)) (cl_M (k := k) (mm := σ.1.2.1) (u := u) hk4 rfl) rfl inU3 10 (by decide) w1_63 rfl dX2_plan_18 21 rfl ?_
          refine y_iload_n hC dX2_plan_21 2 rfl 22 rfl ?_
          obtain ⟨h22, hk⟩ := ob_if hk
          refine y_iald hC (10 * k + 3) (hM 3 (by decide)) (cl_M_kinds (k := k) (mm := σ.1.2.1) (u := u) hk4 rfl) h22 dX2_plan_22 23 rfl ?_
          obtain ⟨x23, hx23, hk⟩ := ob_bind hk
          refine y_callV hC 40 (hA 40 (by decide)) (cl_D (u := q2.2) rfl) rfl (c_X2_wayOf hJ hA l (gM k σ u) q2.2 (pM_kinds u q2.1.toNatClampNeg) x23 hx23) rfl ⟨w3_40, w1_4, cwd_X2_wayOf, by decide, by decide⟩ w3_37 w3_39 ws2_8 rfl rfl (Nat.le_of_ble_eq_true rfl) (by decide) dX2_plan_23 26 rfl (gD (gM k σ u) q2.2) rfl [.ref (ad Γ (50 + x23))] rfl ?_
          refine y_astore_n hC dX2_plan_26 (by decide) [(3, .ref (ad Γ (50 + x23))), (0, .ref (ad Γ 40)), (1, .ref (ad Γ (10 * k))), (2, .int q2.1)] rfl 27 rfl ?_
          refine y_aload_n hC dX2_plan_27 0 rfl 28 rfl ?_
          refine y_aload_n hC dX2_plan_28 2 rfl 29 rfl ?_
          refine y_aload_n hC dX2_plan_29 2 rfl 30 rfl ?_
          refine y_getN hC (10 * k) (hM 0 (by decide)) (cl_M (k := k) (mm := σ.1.2.1) (u := u) hk4 rfl) rfl inU3 11 (by decide) w1_66 rfl dX2_plan_30 33 rfl ?_
          refine y_iload_n hC dX2_plan_33 3 rfl 34 rfl ?_
          obtain ⟨h34, hk⟩ := ob_if hk
          refine y_iald hC (10 * k + 4) (hM 4 (by decide)) (cl_M_hours (k := k) (mm := σ.1.2.1) (u := u) hk4 rfl) h34 dX2_plan_34 35 rfl ?_
          obtain ⟨hw35, hk⟩ := ob_if hk
          obtain ⟨x35, hx35, hk⟩ := ob_bind hk
          refine y_way_buysIn hC hJ hA (gD σ q2.2) k hk4 x23 hw35 u (pM_hours u q2.1.toNatClampNeg) x35 hx35 rfl rfl (Nat.le_of_ble_eq_true rfl) (by decide) (by decide) dX2_plan_35 38 rfl (gD (gM k σ u) q2.2) rfl [.int x35] rfl ?_
          refine y_istore hC dX2_plan_38 (by decide) [(4, .int x35), (3, .ref (ad Γ (50 + x23))), (0, .ref (ad Γ 40)), (1, .ref (ad Γ (10 * k))), (2, .int q2.1)] rfl 40 rfl ?_
          refine y_aload_n hC dX2_plan_40 2 rfl 41 rfl ?_
          refine y_get hC 40 (hA 40 (by decide)) (cl_D (u := q2.2) rfl) rfl inU2 1 (by decide) w1_169 rfl dX2_plan_41 44 rfl ?_
          refine y_iload_n hC dX2_plan_44 4 rfl 45 rfl ?_
          refine y_iload hC dX2_plan_45 0 rfl 47 rfl ?_
          obtain ⟨h47, hk⟩ := ob_if hk
          obtain ⟨g47, eg47, hk⟩ := ob_lt hk
          refine y_iast hC 41 (hA 41 (by decide)) (cl_D_when (u := q2.2) rfl) h47 (gD (gM k σ u) g47) (by subst eg47; exact (cu_D_when (u := q2.2) (v := (upd (pD_when q2.2) q2.1.toNatClampNeg x35)) rfl rfl)) dX2_plan_47 48 rfl ?_
          refine y_aload_n hC dX2_plan_48 2 rfl 49 rfl ?_
          refine y_get hC 40 (hA 40 (by decide)) (cl_D (u := g47) rfl) rfl inU2 2 (by decide) w1_171 rfl dX2_plan_49 52 rfl ?_
          refine y_iload_n hC dX2_plan_52 4 rfl 53 rfl ?_
          refine y_aload_n hC dX2_plan_53 1 rfl 54 rfl ?_
          refine y_aload_n hC dX2_plan_54 3 rfl 55 rfl ?_
          refine y_getN hC (10 * k) (hM 0 (by decide)) (cl_M (k := k) (mm := σ.1.2.1) (u := u) hk4 rfl) rfl inU3 12 (by decide) w1_69 rfl dX2_plan_55 58 rfl ?_
          refine y_iload_n hC dX2_plan_58 4 rfl 59 rfl ?_
          obtain ⟨h59, hk⟩ := ob_if hk
          refine y_iald hC (10 * k + 5) (hM 5 (by decide)) (cl_M_worths (k := k) (mm := σ.1.2.1) (u := u) hk4 rfl) h59 dX2_plan_59 60 rfl ?_
          refine y_aload_n hC dX2_plan_60 3 rfl 61 rfl ?_
          refine y_getN hC (10 * k) (hM 0 (by decide)) (cl_M (k := k) (mm := σ.1.2.1) (u := u) hk4 rfl) rfl inU3 1 (by decide) w1_42 rfl dX2_plan_61 64 rfl ?_
          refine y_iload hC dX2_plan_64 0 rfl 66 rfl ?_
          refine y_imul hC dX2_plan_66 67 rfl ?_
          obtain ⟨hw67, hk⟩ := ob_if hk
          obtain ⟨x67, hx67, hk⟩ := ob_bind hk
          refine y_way_paysAtMost hC hJ hA (gD (gM k σ u) g47) x23 hw67 (pM_worths u q2.1.toNatClampNeg) ((pM_heat u) * x35) x67 hx67 rfl rfl (Nat.le_of_ble_eq_true rfl) (by decide) (by decide) dX2_plan_67 70 rfl (gD (gM k σ u) g47) rfl [.int x67, .int q2.1, .ref (ad Γ 42)] rfl ?_
          obtain ⟨h70, hk⟩ := ob_if hk
          obtain ⟨g70, eg70, hk⟩ := ob_lt hk
          refine y_iast hC 42 (hA 42 (by decide)) (cl_D_pays (u := g47) rfl) h70 (gD (gM k σ u) g70) (by subst eg70; exact (cu_D_pays (u := g47) (v := (upd (pD_pays g47) q2.1.toNatClampNeg x67)) rfl rfl)) dX2_plan_70 71 rfl ?_
          refine y_aload_n hC dX2_plan_71 2 rfl 72 rfl ?_
          refine y_get hC 40 (hA 40 (by decide)) (cl_D (u := g70) rfl) rfl inU2 3 (by decide) w1_173 rfl dX2_plan_72 75 rfl ?_
          refine y_iload_n hC dX2_plan_75 4 rfl 76 rfl ?_
          refine y_aload_n hC dX2_plan_76 1 rfl 77 rfl ?_
          refine y_aload_n hC dX2_plan_77 3 rfl 78 rfl ?_
          refine y_getN hC (10 * k) (hM 0 (by decide)) (cl_M (k := k) (mm := σ.1.2.1) (u := u) hk4 rfl) rfl inU3 13 (by decide) w1_72 rfl dX2_plan_78 81 rfl ?_
          refine y_iload_n hC dX2_plan_81 4 rfl 82 rfl ?_
          obtain ⟨h82, hk⟩ := ob_if hk
          refine y_iald hC (10 * k + 6) (hM 6 (by decide)) (cl_M_wants (k := k) (mm := σ.1.2.1) (u := u) hk4 rfl) h82 dX2_plan_82 83 rfl ?_
          obtain ⟨hw83, hk⟩ := ob_if hk
          obtain ⟨x83, hx83, hk⟩ := ob_bind hk
          refine y_way_carriesOff hC hJ hA (gD (gM k σ u) g70) x23 hw83 (pM_wants u q2.1.toNatClampNeg) x83 hx83 rfl rfl (Nat.le_of_ble_eq_true rfl) (by decide) (by decide) dX2_plan_83 86 rfl (gD (gM k σ u) g70) rfl [.int x83, .int q2.1, .ref (ad Γ 43)] rfl ?_
          obtain ⟨h86, hk⟩ := ob_if hk
          obtain ⟨g86, eg86, hk⟩ := ob_lt hk
          refine y_iast hC 43 (hA 43 (by decide)) (cl_D_carries (u := g70) rfl) h86 (gD (gM k σ u) g86) (by subst eg86; exact (cu_D_carries (u := g70) (v := (upd (pD_carries g70) q2.1.toNatClampNeg x83)) rfl rfl)) dX2_plan_86 87 rfl ?_
          refine y_aload_n hC dX2_plan_87 2 rfl 88 rfl ?_
          refine y_get hC 40 (hA 40 (by decide)) (cl_D (u := g86) rfl) rfl inU2 4 (by decide) w1_175 rfl dX2_plan_88 91 rfl ?_
          refine y_iload_n hC dX2_plan_91 4 rfl 92 rfl ?_
          refine y_aload_n hC dX2_plan_92 3 rfl 93 rfl ?_
          refine y_iload hC dX2_plan_93 0 rfl 95 rfl ?_
          obtain ⟨x95, hx95, hk⟩ := ob_bind hk
          refine y_callVN hC (10 * k) (hM 0 (by decide)) (cl_M (k := k) (mm := σ.1.2.1) (u := u) hk4 rfl) rfl (c_X3_rainsIn hJ hA l (gD σ g86) k hk4 u x35 x95 hx95) rfl ⟨w3_110, w1_2, cwd_X3_rainsIn, by decide, by decide⟩ w3_107 w3_109 ws2_9 rfl rfl (Nat.le_of_ble_eq_true rfl) (by decide) dX2_plan_95 98 rfl (gD (gM k σ u) g86) rfl [.int x95, .int q2.1, .ref (ad Γ 44)] rfl ?_
          refine y_if_eq hC dX2_plan_98 112 (by decide) 101 rfl (fun h98 => ?_) (fun h98 => ?_)
          · have hk := ob_pos h98 hk
            refine y_sub [2, 3, 4] rfl ?_
            exact J112 q2.1 q2.1 g86 hk
          · have hk := ob_neg h98 hk
            refine y_aload_n hC dX2_plan_101 1 rfl 102 rfl ?_
            obtain ⟨hw102, hk⟩ := ob_if hk
            obtain ⟨x102, hx102, hk⟩ := ob_bind hk
            refine y_way_comesInRain hC hJ hA (gD (gM k σ u) g86) x23 hw102  x102 hx102 rfl rfl (Nat.le_of_ble_eq_true rfl) (by decide) (by decide) dX2_plan_102 105 rfl (gD (gM k σ u) g86) rfl [.int x102, .int q2.1, .ref (ad Γ 44)] rfl ?_
            refine y_if_ne hC dX2_plan_105 112 (by decide) 108 rfl (fun h105 => ?_) (fun h105 => ?_)
            · have hk := ob_neg h105 hk
              refine y_sub [2, 3, 4] rfl ?_
              exact J112 q2.1 q2.1 g86 hk
            · have hk := ob_pos h105 hk
              refine y_iconst hC dX2_plan_108 (v := (1 : Int32)) (by decide) 109 rfl ?_
              refine y_goto hC dX2_plan_109 113 (by decide) ?_
              refine y_sub [2, 3, 4] rfl ?_
              exact J113 q2.1 (1 : Int32) q2.1 g86 hk
  refine y_iconst hC dX2_plan_0 (v := (0 : Int32)) (by decide) 1 rfl ?_
  refine y_istore_n hC dX2_plan_1 (by decide) [(2, .int (0 : Int32)), (0, .ref (ad Γ 40)), (1, .ref (ad Γ (10 * k)))] rfl 2 rfl ?_
  refine y_sub [1, 2, 0] rfl ?_
  exact L2 1000 ((0 : Int32), d) hk
def f_X2_sell (d : DSt) (a1 : Int32) (a2 : Int32) : Option (DSt) :=
  if inb a1 8 then 
    (lt (if (pD_left d) < (pD_carries d a1.toNatClampNeg) then (pD_left d) else (pD_carries d a1.toNatClampNeg)) fun n13 => 
    (if 0 < n13 then
      lt (sD_left d ((pD_left d) - n13)) fun g26 => 
        (lt (sD_takings g26 ((pD_takings g26) + (n13 * a2))) fun g38 => 
        (if inb a1 8 then 
        (lt (sD_got g38 (upd (pD_got g38) a1.toNatClampNeg n13)) fun g47 => 
        (if inb a1 8 then 
        (lt (sD_served g47 (upd (pD_served g47) a1.toNatClampNeg (1 : Int32))) fun g54 => 
        (if inb a1 8 then 
        (lt (pD_when g54 a1.toNatClampNeg) fun n61 => 
        (if n61 < 0 then
          some g54
        else
          if (10 : Int32) ≤ n61 then
            some g54
          else
            if inb n61 10 then 
              (if inb n61 10 then 
              (lt (sD_gone g54 (upd (pD_gone g54) n61.toNatClampNeg ((pD_gone g54 n61.toNatClampNeg) + n13))) fun g85 => 
              (some g85))
            else none)
            else none))
      else none))
      else none))
      else none))
    else
      some d))
  else none
theorem cwd_X2_sell : yX2_sell.cls ≠ "java/lang/invoke/MethodHandle" ∧ yX2_sell.cls ≠ "java/lang/invoke/VarHandle" ∧ (parseMethodDescriptor yX2_sell.desc).map (fun d => d.parameters.length) = some 2 := by decide +kernel
set_option maxHeartbeats 4000000 in
set_option maxRecDepth 100000 in
theorem c_X2_sell {Γ : GC} (hJ : GJ Γ) (hA : ∀ i, i < 66 → act Γ i) (l : Launch) (σ : GSt) (d : DSt) (a1 : Int32) (a2 : Int32) (x : DSt) (hk : f_X2_sell d a1 a2 = some x) : Mt Γ l yX2_sell cX2_sell 5 none 1 30 [.ref (ad Γ 40), .int a1, .int a2] (gD σ d) none (gD σ x) := by
  refine y_enter (by decide) hJ (Nat.le_of_ble_eq_true rfl) [(0, .ref (ad Γ 40)), (1, .int a1), (2, .int a2)] rfl ?_
  intro p e s' m args below meth c' hC hr hlk
  refine y_aload_n hC dX2_sell_0 0 rfl 1 rfl ?_
  refine y_get hC 40 (hA 40 (by decide)) (cl_D (u := d) rfl) rfl inU2 3 (by decide) w1_173 rfl dX2_sell_1 4 rfl ?_
  refine y_iload_n hC dX2_sell_4 1 rfl 5 rfl ?_
  obtain ⟨h5, hk⟩ := ob_if hk
  refine y_iald hC 43 (hA 43 (by decide)) (cl_D_carries (u := d) rfl) h5 dX2_sell_5 6 rfl ?_
  refine y_aload_n hC dX2_sell_6 0 rfl 7 rfl ?_
  refine y_get hC 40 (hA 40 (by decide)) (cl_D (u := d) rfl) rfl inU2 9 (by decide) w1_182 rfl dX2_sell_7 10 rfl ?_
  refine y_min hC w3_148 w3_58 w1_14 w3_59 ⟨by decide, Nat.le_of_ble_eq_true rfl⟩ (by decide) dX2_sell_10 13 rfl ?_
  obtain ⟨n13, en13, hk⟩ := ob_lt hk
  refine y_topi en13 ?_
  refine y_istore_n hC dX2_sell_13 (by decide) [(3, .int n13), (0, .ref (ad Γ 40)), (1, .int a1), (2, .int a2)] rfl 14 rfl ?_
  refine y_iload_n hC dX2_sell_14 0 rfl 15 rfl ?_
  refine y_if_gt hC dX2_sell_15 19 (by decide) 18 rfl (fun h15 => ?_) (fun h15 => ?_)
  · have hk := ob_pos h15 hk
    refine y_aload_n hC dX2_sell_19 1 rfl 20 rfl ?_
    refine y_dup hC dX2_sell_20 rfl 21 rfl ?_
    refine y_get hC 40 (hA 40 (by decide)) (cl_D (u := d) rfl) rfl inU2 9 (by decide) w1_182 rfl dX2_sell_21 24 rfl ?_
    refine y_iload_n hC dX2_sell_24 0 rfl 25 rfl ?_
    refine y_isub hC dX2_sell_25 26 rfl ?_
    obtain ⟨g26, eg26, hk⟩ := ob_lt hk
    refine y_put hC 40 (hA 40 (by decide)) (cl_D (u := d) rfl) rfl inU2 tyX2_ok nmX2 9 (by decide) w1_182 rfl rfl rfl rfl (Nat.le_of_ble_eq_true rfl) (gD σ g26) (by subst eg26; exact (cu_D_left (u := d) (v := ((pD_left d) - n13)) rfl rfl)) dX2_sell_26 29 rfl ?_
    refine y_aload_n hC dX2_sell_29 1 rfl 30 rfl ?_
    refine y_dup hC dX2_sell_30 rfl 31 rfl ?_
    refine y_get hC 40 (hA 40 (by decide)) (cl_D (u := g26) rfl) rfl inU2 10 (by decide) w1_184 rfl dX2_sell_31 34 rfl ?_
    refine y_iload_n hC dX2_sell_34 0 rfl 35 rfl ?_
    refine y_iload_n hC dX2_sell_35 3 rfl 36 rfl ?_
    refine y_imul hC dX2_sell_36 37 rfl ?_
    refine y_iadd hC dX2_sell_37 38 rfl ?_
    obtain ⟨g38, eg38, hk⟩ := ob_lt hk
    refine y_put hC 40 (hA 40 (by decide)) (cl_D (u := g26) rfl) rfl inU2 tyX2_ok nmX2 10 (by decide) w1_184 rfl rfl rfl rfl (Nat.le_of_ble_eq_true rfl) (gD σ g38) (by subst eg38; exact (cu_D_takings (u := g26) (v := ((pD_takings g26) + (n13 * a2))) rfl rfl)) dX2_sell_38 41 rfl ?_
    refine y_aload_n hC dX2_sell_41 1 rfl 42 rfl ?_
    refine y_get hC 40 (hA 40 (by decide)) (cl_D (u := g38) rfl) rfl inU2 7 (by decide) w1_178 rfl dX2_sell_42 45 rfl ?_
    refine y_iload_n hC dX2_sell_45 2 rfl 46 rfl ?_
    refine y_iload_n hC dX2_sell_46 0 rfl 47 rfl ?_
    obtain ⟨h47, hk⟩ := ob_if hk
    obtain ⟨g47, eg47, hk⟩ := ob_lt hk
    refine y_iast hC 47 (hA 47 (by decide)) (cl_D_got (u := g38) rfl) h47 (gD σ g47) (by subst eg47; exact (cu_D_got (u := g38) (v := (upd (pD_got g38) a1.toNatClampNeg n13)) rfl rfl)) dX2_sell_47 48 rfl ?_
    refine y_aload_n hC dX2_sell_48 1 rfl 49 rfl ?_
    refine y_get hC 40 (hA 40 (by decide)) (cl_D (u := g47) rfl) rfl inU2 8 (by decide) w1_180 rfl dX2_sell_49 52 rfl ?_
    refine y_iload_n hC dX2_sell_52 2 rfl 53 rfl ?_
    refine y_iconst hC dX2_sell_53 (v := (1 : Int32)) (by decide) 54 rfl ?_
    obtain ⟨h54, hk⟩ := ob_if hk
    obtain ⟨g54, eg54, hk⟩ := ob_lt hk
    refine y_iast hC 48 (hA 48 (by decide)) (cl_D_served (u := g47) rfl) h54 (gD σ g54) (by subst eg54; exact (cu_D_served (u := g47) (v := (upd (pD_served g47) a1.toNatClampNeg (1 : Int32))) rfl rfl)) dX2_sell_54 55 rfl ?_
    refine y_aload_n hC dX2_sell_55 1 rfl 56 rfl ?_
    refine y_get hC 40 (hA 40 (by decide)) (cl_D (u := g54) rfl) rfl inU2 1 (by decide) w1_169 rfl dX2_sell_56 59 rfl ?_
    refine y_iload_n hC dX2_sell_59 2 rfl 60 rfl ?_
    obtain ⟨h60, hk⟩ := ob_if hk
    refine y_iald hC 41 (hA 41 (by decide)) (cl_D_when (u := g54) rfl) h60 dX2_sell_60 61 rfl ?_
    obtain ⟨n61, en61, hk⟩ := ob_lt hk
    refine y_topi en61 ?_
    refine y_istore hC dX2_sell_61 (by decide) [(4, .int n61), (3, .int n13), (0, .ref (ad Γ 40)), (1, .int a1), (2, .int a2)] rfl 63 rfl ?_
    refine y_iload hC dX2_sell_63 0 rfl 65 rfl ?_
    refine y_if_lt hC dX2_sell_65 86 (by decide) 68 rfl (fun h65 => ?_) (fun h65 => ?_)
    · have hk := ob_pos h65 hk
      have e := Option.some.inj hk
      exact y_vret hC hr hlk (by rw [← e]) dX2_sell_86
    · have hk := ob_neg h65 hk
      refine y_iload hC dX2_sell_68 0 rfl 70 rfl ?_
      refine y_bipush hC dX2_sell_70 (v := (10 : Int32)) (by decide) 72 rfl ?_
      refine y_icmp_ge hC dX2_sell_72 86 (by decide) 75 rfl (fun h72 => ?_) (fun h72 => ?_)
      · have hk := ob_pos h72 hk
        have e := Option.some.inj hk
        exact y_vret hC hr hlk (by rw [← e]) dX2_sell_86
      · have hk := ob_neg h72 hk
        refine y_aload_n hC dX2_sell_75 2 rfl 76 rfl ?_
        refine y_get hC 40 (hA 40 (by decide)) (cl_D (u := g54) rfl) rfl inU2 6 (by decide) w1_177 rfl dX2_sell_76 79 rfl ?_
        refine y_iload hC dX2_sell_79 0 rfl 81 rfl ?_
        refine y_dup2 hC dX2_sell_81 rfl rfl 82 rfl ?_
        obtain ⟨h82, hk⟩ := ob_if hk
        refine y_iald hC 46 (hA 46 (by decide)) (cl_D_gone (u := g54) rfl) h82 dX2_sell_82 83 rfl ?_
        refine y_iload_n hC dX2_sell_83 1 rfl 84 rfl ?_
        refine y_iadd hC dX2_sell_84 85 rfl ?_
        obtain ⟨h85, hk⟩ := ob_if hk
        obtain ⟨g85, eg85, hk⟩ := ob_lt hk
        refine y_iast hC 46 (hA 46 (by decide)) (cl_D_gone (u := g54) rfl) h85 (gD σ g85) (by subst eg85; exact (cu_D_gone (u := g54) (v := (upd (pD_gone g54) n61.toNatClampNeg ((pD_gone g54 n61.toNatClampNeg) + n13))) rfl rfl)) dX2_sell_85 86 rfl ?_
        have e := Option.some.inj hk
        exact y_vret hC hr hlk (by rw [← e]) dX2_sell_86
  · have hk := ob_neg h15 hk
    have e := Option.some.inj hk
    exact y_vret hC hr hlk (by rw [← e]) dX2_sell_18
def f_X2_meet_j73 (u : MSt) (a1 : Int32) (v3 : Int32) (gd : DSt) : Option (DSt) :=
  if inb a1 8 then 
    (if (pD_pays gd a1.toNatClampNeg) < v3 then
      some gd
    else
      (f_X2_sell gd a1 v3).bind fun x86 => 
        (some x86))
  else none
def f_X2_meet (d : DSt) (u : MSt) (a1 : Int32) : Option (DSt) :=
  if inb a1 8 then 
    ((f_X3_priceIn u (pD_when d a1.toNatClampNeg)).bind fun x7 => 
    (if inb a1 8 then 
    ((f_X3_theirPriceIn u (pD_when d a1.toNatClampNeg)).bind fun x18 => 
    (if x18 ≤ 0 then
      f_X2_meet_j73 u a1 x7 d
    else
      if x7 ≤ x18 then
        f_X2_meet_j73 u a1 x7 d
      else
        if inb a1 8 then 
          (if (pD_pays d a1.toNatClampNeg) < x18 then
            f_X2_meet_j73 u a1 x7 d
          else
            if inb a1 8 then 
              (lt (sD_theirTakings d ((pD_theirTakings d) + (x18 * (pD_carries d a1.toNatClampNeg)))) fun g60 => 
              (if inb a1 8 then 
              (lt (sD_served g60 (upd (pD_served g60) a1.toNatClampNeg (1 : Int32))) fun g69 => 
              (some g69))
            else none))
            else none)
        else none))
  else none))
  else none
theorem cwd_X2_meet : yX2_meet.cls ≠ "java/lang/invoke/MethodHandle" ∧ yX2_meet.cls ≠ "java/lang/invoke/VarHandle" ∧ (parseMethodDescriptor yX2_meet.desc).map (fun d => d.parameters.length) = some 2 := by decide +kernel
set_option maxHeartbeats 4000000 in
set_option maxRecDepth 100000 in
theorem c_X2_meet {Γ : GC} (hJ : GJ Γ) (hA : ∀ i, i < 66 → act Γ i) (l : Launch) (σ : GSt) (k : Nat) (hk4 : k < 4) (d : DSt) (u : MSt) (a1 : Int32) (x : DSt) (hk : f_X2_meet d u a1 = some x) : Mt Γ l yX2_meet cX2_meet 5 none 2 54 [.ref (ad Γ 40), .ref (ad Γ (10 * k)), .int a1] (gD (gM k σ u) d) none (gD (gM k σ u) x) := by
  refine y_enter (by decide) hJ (Nat.le_of_ble_eq_true rfl) [(0, .ref (ad Γ 40)), (1, .ref (ad Γ (10 * k))), (2, .int a1)] rfl ?_
  intro p e s' m args below meth c' hC hr hlk
  have hM : ∀ j, j < 10 → act Γ (10 * k + j) := fun j hj => hA _ (by omega)
  have J73 : ∀ (v3 : Int32) (gd : DSt), f_X2_meet_j73 u a1 v3 gd = some x → Y Γ (GA Γ) p l e ({ frames := 2, cells := 0, slots := 0, locals := 54 } : Room) s' m args below meth c' 0 0 (MQ below (Qg Γ none (gD (gM k σ u) x)) args s' 0 0 (GA Γ)) 5 (gD (gM k σ u) gd) 73 [(0, .ref (ad Γ 40)), (1, .ref (ad Γ (10 * k))), (2, .int a1), (3, .int v3)] [] := by
    intro v3 gd hk
    refine y_iload_n hC dX2_meet_73 3 rfl 74 rfl ?_
    refine y_aload_n hC dX2_meet_74 0 rfl 75 rfl ?_
    refine y_get hC 40 (hA 40 (by decide)) (cl_D (u := gd) rfl) rfl inU2 2 (by decide) w1_171 rfl dX2_meet_75 78 rfl ?_
    refine y_iload_n hC dX2_meet_78 2 rfl 79 rfl ?_
    obtain ⟨h79, hk⟩ := ob_if hk
    refine y_iald hC 42 (hA 42 (by decide)) (cl_D_pays (u := gd) rfl) h79 dX2_meet_79 80 rfl ?_
    refine y_icmp_gt hC dX2_meet_80 89 (by decide) 83 rfl (fun h80 => ?_) (fun h80 => ?_)
    · have hk := ob_pos h80 hk
      have e := Option.some.inj hk
      exact y_vret hC hr hlk (by rw [← e]) dX2_meet_89
    · have hk := ob_neg h80 hk
      refine y_aload_n hC dX2_meet_83 0 rfl 84 rfl ?_
      refine y_iload_n hC dX2_meet_84 2 rfl 85 rfl ?_
      refine y_iload_n hC dX2_meet_85 3 rfl 86 rfl ?_
      obtain ⟨x86, hx86, hk⟩ := ob_bind hk
      refine y_callV hC 40 (hA 40 (by decide)) (cl_D (u := gd) rfl) rfl (c_X2_sell hJ hA l (gM k σ u) gd a1 v3 x86 hx86) rfl ⟨w3_147, w1_4, cwd_X2_sell, by decide, by decide⟩ w3_144 w3_146 ws2_14 rfl rfl (Nat.le_of_ble_eq_true rfl) (by decide) dX2_meet_86 89 rfl (gD (gM k σ u) x86) rfl [] rfl ?_
      have e := Option.some.inj hk
      exact y_vret hC hr hlk (by rw [← e]) dX2_meet_89
  refine y_aload_n hC dX2_meet_0 1 rfl 1 rfl ?_
  refine y_aload_n hC dX2_meet_1 0 rfl 2 rfl ?_
  refine y_get hC 40 (hA 40 (by decide)) (cl_D (u := d) rfl) rfl inU2 1 (by decide) w1_169 rfl dX2_meet_2 5 rfl ?_
  refine y_iload_n hC dX2_meet_5 2 rfl 6 rfl ?_
  obtain ⟨h6, hk⟩ := ob_if hk
  refine y_iald hC 41 (hA 41 (by decide)) (cl_D_when (u := d) rfl) h6 dX2_meet_6 7 rfl ?_
  obtain ⟨x7, hx7, hk⟩ := ob_bind hk
  refine y_callVN hC (10 * k) (hM 0 (by decide)) (cl_M (k := k) (mm := σ.1.2.1) (u := u) hk4 rfl) rfl (c_X3_priceIn hJ hA l (gD σ d) k hk4 u (pD_when d a1.toNatClampNeg) x7 hx7) rfl ⟨w2_93, w1_2, cwd_X3_priceIn, by decide, by decide⟩ w3_142 w2_92 ws1_2 rfl rfl (Nat.le_of_ble_eq_true rfl) (by decide) dX2_meet_7 10 rfl (gD (gM k σ u) d) rfl [.int x7] rfl ?_
  refine y_istore_n hC dX2_meet_10 (by decide) [(3, .int x7), (0, .ref (ad Γ 40)), (1, .ref (ad Γ (10 * k))), (2, .int a1)] rfl 11 rfl ?_
  refine y_aload_n hC dX2_meet_11 2 rfl 12 rfl ?_
  refine y_aload_n hC dX2_meet_12 1 rfl 13 rfl ?_
  refine y_get hC 40 (hA 40 (by decide)) (cl_D (u := d) rfl) rfl inU2 1 (by decide) w1_169 rfl dX2_meet_13 16 rfl ?_
  refine y_iload_n hC dX2_meet_16 3 rfl 17 rfl ?_
  obtain ⟨h17, hk⟩ := ob_if hk
  refine y_iald hC 41 (hA 41 (by decide)) (cl_D_when (u := d) rfl) h17 dX2_meet_17 18 rfl ?_
  obtain ⟨x18, hx18, hk⟩ := ob_bind hk
  refine y_callVN hC (10 * k) (hM 0 (by decide)) (cl_M (k := k) (mm := σ.1.2.1) (u := u) hk4 rfl) rfl (c_X3_theirPriceIn hJ hA l (gD σ d) k hk4 u (pD_when d a1.toNatClampNeg) x18 hx18) rfl ⟨w2_108, w1_2, cwd_X3_theirPriceIn, by decide, by decide⟩ w3_143 w2_107 ws1_4 rfl rfl (Nat.le_of_ble_eq_true rfl) (by decide) dX2_meet_18 21 rfl (gD (gM k σ u) d) rfl [.int x18] rfl ?_
  refine y_istore hC dX2_meet_21 (by decide) [(4, .int x18), (3, .int x7), (0, .ref (ad Γ 40)), (1, .ref (ad Γ (10 * k))), (2, .int a1)] rfl 23 rfl ?_
  refine y_iload hC dX2_meet_23 0 rfl 25 rfl ?_
  refine y_if_le hC dX2_meet_25 73 (by decide) 28 rfl (fun h25 => ?_) (fun h25 => ?_)
  · have hk := ob_pos h25 hk
    refine y_sub [2, 3, 4, 1] rfl ?_
    exact J73 x7 d hk
  · have hk := ob_neg h25 hk
    refine y_iload hC dX2_meet_28 0 rfl 30 rfl ?_
    refine y_iload_n hC dX2_meet_30 1 rfl 31 rfl ?_
    refine y_icmp_ge hC dX2_meet_31 73 (by decide) 34 rfl (fun h31 => ?_) (fun h31 => ?_)
    · have hk := ob_pos h31 hk
      refine y_sub [2, 3, 4, 1] rfl ?_
      exact J73 x7 d hk
    · have hk := ob_neg h31 hk
      refine y_aload_n hC dX2_meet_34 2 rfl 35 rfl ?_
      refine y_get hC 40 (hA 40 (by decide)) (cl_D (u := d) rfl) rfl inU2 2 (by decide) w1_171 rfl dX2_meet_35 38 rfl ?_
      refine y_iload_n hC dX2_meet_38 4 rfl 39 rfl ?_
      obtain ⟨h39, hk⟩ := ob_if hk
      refine y_iald hC 42 (hA 42 (by decide)) (cl_D_pays (u := d) rfl) h39 dX2_meet_39 40 rfl ?_
      refine y_iload hC dX2_meet_40 0 rfl 42 rfl ?_
      refine y_icmp_lt hC dX2_meet_42 73 (by decide) 45 rfl (fun h42 => ?_) (fun h42 => ?_)
      · have hk := ob_pos h42 hk
        refine y_sub [2, 3, 4, 1] rfl ?_
        exact J73 x7 d hk
      · have hk := ob_neg h42 hk
        refine y_aload_n hC dX2_meet_45 2 rfl 46 rfl ?_
        refine y_dup hC dX2_meet_46 rfl 47 rfl ?_
        refine y_get hC 40 (hA 40 (by decide)) (cl_D (u := d) rfl) rfl inU2 11 (by decide) w1_187 rfl dX2_meet_47 50 rfl ?_
        refine y_iload hC dX2_meet_50 0 rfl 52 rfl ?_
        refine y_aload_n hC dX2_meet_52 2 rfl 53 rfl ?_
        refine y_get hC 40 (hA 40 (by decide)) (cl_D (u := d) rfl) rfl inU2 3 (by decide) w1_173 rfl dX2_meet_53 56 rfl ?_
        refine y_iload_n hC dX2_meet_56 4 rfl 57 rfl ?_
        obtain ⟨h57, hk⟩ := ob_if hk
        refine y_iald hC 43 (hA 43 (by decide)) (cl_D_carries (u := d) rfl) h57 dX2_meet_57 58 rfl ?_
        refine y_imul hC dX2_meet_58 59 rfl ?_
        refine y_iadd hC dX2_meet_59 60 rfl ?_
        obtain ⟨g60, eg60, hk⟩ := ob_lt hk
        refine y_put hC 40 (hA 40 (by decide)) (cl_D (u := d) rfl) rfl inU2 tyX2_ok nmX2 11 (by decide) w1_187 rfl rfl rfl rfl (Nat.le_of_ble_eq_true rfl) (gD (gM k σ u) g60) (by subst eg60; exact (cu_D_theirTakings (u := d) (v := ((pD_theirTakings d) + (x18 * (pD_carries d a1.toNatClampNeg)))) rfl rfl)) dX2_meet_60 63 rfl ?_
        refine y_aload_n hC dX2_meet_63 2 rfl 64 rfl ?_
        refine y_get hC 40 (hA 40 (by decide)) (cl_D (u := g60) rfl) rfl inU2 8 (by decide) w1_180 rfl dX2_meet_64 67 rfl ?_
        refine y_iload_n hC dX2_meet_67 4 rfl 68 rfl ?_
        refine y_iconst hC dX2_meet_68 (v := (1 : Int32)) (by decide) 69 rfl ?_
        obtain ⟨h69, hk⟩ := ob_if hk
        obtain ⟨g69, eg69, hk⟩ := ob_lt hk
        refine y_iast hC 48 (hA 48 (by decide)) (cl_D_served (u := g60) rfl) h69 (gD (gM k σ u) g69) (by subst eg69; exact (cu_D_served (u := g60) (v := (upd (pD_served g60) a1.toNatClampNeg (1 : Int32))) rfl rfl)) dX2_meet_69 70 rfl ?_
        refine y_goto hC dX2_meet_70 89 (by decide) ?_
        have e := Option.some.inj hk
        exact y_vret hC hr hlk (by rw [← e]) dX2_meet_89
def f_X2_walk_j108 (u : MSt) (a1 : Int32) (K44 : (Int32 × DSt) → Option (DSt)) (v3 : Int32) (gd : DSt) : Option (DSt) :=
  K44 ((v3 + (1 : Int32)), gd)
def f_X2_walk_s44 (u : MSt) (a1 : Int32) (K44 : (Int32 × DSt) → Option (DSt)) (q44 : Int32 × DSt) : Option (DSt) :=
  if (pM_size u) ≤ q44.1 then
    some q44.2
  else
    if (8 : Int32) ≤ q44.1 then
      some q44.2
    else
      if inb q44.1 8 then 
        (lt (pD_order q44.2 q44.1.toNatClampNeg) fun n64 => 
        (if n64 < 0 then
          f_X2_walk_j108 u a1 K44 q44.1 q44.2
        else
          if n64 < (8 : Int32) then
            if ((a1 >>> (n64 &&& 31)) &&& (1 : Int32)) = (1 : Int32) then
              if inb n64 8 then 
                (if (pD_staysAway q44.2 n64.toNatClampNeg) = 0 then
                  (f_X2_meet q44.2 u n64).bind fun x105 => 
                    (f_X2_walk_j108 u a1 K44 q44.1 x105)
                else
                  f_X2_walk_j108 u a1 K44 q44.1 q44.2)
              else none
            else
              f_X2_walk_j108 u a1 K44 q44.1 q44.2
          else
            f_X2_walk_j108 u a1 K44 q44.1 q44.2))
      else none
def f_X2_walk (d : DSt) (u : MSt) (a1 : Int32) : Option (DSt) :=
  lt (sD_left d (pM_punnets u)) fun g5 => 
    (lt (sD_takings g5 (0 : Int32)) fun g10 => 
    (lt (sD_theirTakings g10 (0 : Int32)) fun g15 => 
    ((f_J7_fill_53178 10 (0 : Int32) (pD_gone g15)).bind fun x23 => 
    (lt (sD_gone g15 x23) fun g23 => 
    ((f_J7_fill_53178 8 (0 : Int32) (pD_got g23)).bind fun x31 => 
    (lt (sD_got g23 x31) fun g31 => 
    ((f_J7_fill_53178 8 (0 : Int32) (pD_served g31)).bind fun x39 => 
    (lt (sD_served g31 x39) fun g39 => 
    (lp (f_X2_walk_s44 u a1) 1000 ((0 : Int32), g39))))))))))
theorem cwd_X2_walk : yX2_walk.cls ≠ "java/lang/invoke/MethodHandle" ∧ yX2_walk.cls ≠ "java/lang/invoke/VarHandle" ∧ (parseMethodDescriptor yX2_walk.desc).map (fun d => d.parameters.length) = some 2 := by decide +kernel
set_option maxHeartbeats 4000000 in
set_option maxRecDepth 100000 in
theorem c_X2_walk {Γ : GC} (hJ : GJ Γ) (hA : ∀ i, i < 66 → act Γ i) (l : Launch) (σ : GSt) (k : Nat) (hk4 : k < 4) (d : DSt) (u : MSt) (a1 : Int32) (x : DSt) (hk : f_X2_walk d u a1 = some x) : Mt Γ l yX2_walk cX2_walk 5 none 3 78 [.ref (ad Γ 40), .ref (ad Γ (10 * k)), .int a1] (gD (gM k σ u) d) none (gD (gM k σ u) x) := by
  refine y_enter (by decide) hJ (Nat.le_of_ble_eq_true rfl) [(0, .ref (ad Γ 40)), (1, .ref (ad Γ (10 * k))), (2, .int a1)] rfl ?_
  intro p e s' m args below meth c' hC hr hlk
  have hM : ∀ j, j < 10 → act Γ (10 * k + j) := fun j hj => hA _ (by omega)
  have L44 : ∀ (n44 : Nat) (q44 : Int32 × DSt), lp (f_X2_walk_s44 u a1) n44 q44 = some x → Y Γ (GA Γ) p l e ({ frames := 3, cells := 0, slots := 0, locals := 78 } : Room) s' m args below meth c' 0 0 (MQ below (Qg Γ none (gD (gM k σ u) x)) args s' 0 0 (GA Γ)) 5 (gD (gM k σ u) q44.2) 44 [(0, .ref (ad Γ 40)), (1, .ref (ad Γ (10 * k))), (2, .int a1), (3, .int q44.1)] [] := by
    intro n44
    induction n44 with
    | zero => intro q44 hk; exact (lp_zero hk).elim
    | succ n44 ih44 =>
      intro q44 hk
      have hk : f_X2_walk_s44 u a1 (lp (f_X2_walk_s44 u a1) n44) q44 = some x := (lp_succ _ _ _).symm.trans hk
      have J108 : ∀ (v3 : Int32) (gd : DSt), f_X2_walk_j108 u a1 (lp (f_X2_walk_s44 u a1) n44) v3 gd = some x → Y Γ (GA Γ) p l e ({ frames := 3, cells := 0, slots := 0, locals := 78 } : Room) s' m args below meth c' 0 0 (MQ below (Qg Γ none (gD (gM k σ u) x)) args s' 0 0 (GA Γ)) 5 (gD (gM k σ u) gd) 108 [(0, .ref (ad Γ 40)), (1, .ref (ad Γ (10 * k))), (2, .int a1), (3, .int v3)] [] := by
        intro v3 gd hk
        refine y_iinc hC dX2_walk_108 3 rfl (v := (v3 + (1 : Int32))) rfl (by decide) [(3, .int (v3 + (1 : Int32))), (0, .ref (ad Γ 40)), (1, .ref (ad Γ (10 * k))), (2, .int a1)] rfl 111 rfl ?_
        refine y_goto hC dX2_walk_111 44 (by decide) ?_
        refine y_sub [1, 2, 3, 0] rfl ?_
        exact ih44 ((v3 + (1 : Int32)), gd) hk
      refine y_iload_n hC dX2_walk_44 3 rfl 45 rfl ?_
      refine y_aload_n hC dX2_walk_45 1 rfl 46 rfl ?_
      refine y_getN hC (10 * k) (hM 0 (by decide)) (cl_M (k := k) (mm := σ.1.2.1) (u := u) hk4 rfl) rfl inU3 3 (by decide) w1_49 rfl dX2_walk_46 49 rfl ?_
      refine y_icmp_ge hC dX2_walk_49 114 (by decide) 52 rfl (fun h49 => ?_) (fun h49 => ?_)
      · have hk := ob_pos h49 hk
        have e := Option.some.inj hk
        exact y_vret hC hr hlk (by rw [← e]) dX2_walk_114
      · have hk := ob_neg h49 hk
        refine y_iload_n hC dX2_walk_52 3 rfl 53 rfl ?_
        refine y_bipush hC dX2_walk_53 (v := (8 : Int32)) (by decide) 55 rfl ?_
        refine y_icmp_ge hC dX2_walk_55 114 (by decide) 58 rfl (fun h55 => ?_) (fun h55 => ?_)
        · have hk := ob_pos h55 hk
          have e := Option.some.inj hk
          exact y_vret hC hr hlk (by rw [← e]) dX2_walk_114
        · have hk := ob_neg h55 hk
          refine y_aload_n hC dX2_walk_58 0 rfl 59 rfl ?_
          refine y_get hC 40 (hA 40 (by decide)) (cl_D (u := q44.2) rfl) rfl inU2 5 (by decide) w1_176 rfl dX2_walk_59 62 rfl ?_
          refine y_iload_n hC dX2_walk_62 3 rfl 63 rfl ?_
          obtain ⟨h63, hk⟩ := ob_if hk
          refine y_iald hC 45 (hA 45 (by decide)) (cl_D_order (u := q44.2) rfl) h63 dX2_walk_63 64 rfl ?_
          obtain ⟨n64, en64, hk⟩ := ob_lt hk
          refine y_topi en64 ?_
          refine y_istore hC dX2_walk_64 (by decide) [(4, .int n64), (0, .ref (ad Γ 40)), (1, .ref (ad Γ (10 * k))), (2, .int a1), (3, .int q44.1)] rfl 66 rfl ?_
          refine y_iload hC dX2_walk_66 0 rfl 68 rfl ?_
          refine y_if_lt hC dX2_walk_68 108 (by decide) 71 rfl (fun h68 => ?_) (fun h68 => ?_)
          · have hk := ob_pos h68 hk
            refine y_sub [1, 2, 3, 4] rfl ?_
            exact J108 q44.1 q44.2 hk
          · have hk := ob_neg h68 hk
            refine y_iload hC dX2_walk_71 0 rfl 73 rfl ?_
            refine y_bipush hC dX2_walk_73 (v := (8 : Int32)) (by decide) 75 rfl ?_
            refine y_icmp_lt hC dX2_walk_75 81 (by decide) 78 rfl (fun h75 => ?_) (fun h75 => ?_)
            · have hk := ob_pos h75 hk
              refine y_iload_n hC dX2_walk_81 3 rfl 82 rfl ?_
              refine y_iload hC dX2_walk_82 0 rfl 84 rfl ?_
              refine y_ishr hC dX2_walk_84 85 rfl ?_
              refine y_iconst hC dX2_walk_85 (v := (1 : Int32)) (by decide) 86 rfl ?_
              refine y_iand hC dX2_walk_86 87 rfl ?_
              refine y_iconst hC dX2_walk_87 (v := (1 : Int32)) (by decide) 88 rfl ?_
              refine y_icmp_ne hC dX2_walk_88 108 (by decide) 91 rfl (fun h88 => ?_) (fun h88 => ?_)
              · have hk := ob_neg h88 hk
                refine y_sub [1, 2, 3, 4] rfl ?_
                exact J108 q44.1 q44.2 hk
              · have hk := ob_pos h88 hk
                refine y_aload_n hC dX2_walk_91 1 rfl 92 rfl ?_
                refine y_get hC 40 (hA 40 (by decide)) (cl_D (u := q44.2) rfl) rfl inU2 4 (by decide) w1_175 rfl dX2_walk_92 95 rfl ?_
                refine y_iload hC dX2_walk_95 0 rfl 97 rfl ?_
                obtain ⟨h97, hk⟩ := ob_if hk
                refine y_zald hC 44 (hA 44 (by decide)) (cl_D_staysAway (u := q44.2) rfl) h97 dX2_walk_97 98 rfl ?_
                refine y_if_ne hC dX2_walk_98 108 (by decide) 101 rfl (fun h98 => ?_) (fun h98 => ?_)
                · have hk := ob_neg h98 hk
                  refine y_sub [1, 2, 3, 4] rfl ?_
                  exact J108 q44.1 q44.2 hk
                · have hk := ob_pos h98 hk
                  refine y_aload_n hC dX2_walk_101 1 rfl 102 rfl ?_
                  refine y_aload_n hC dX2_walk_102 2 rfl 103 rfl ?_
                  refine y_iload hC dX2_walk_103 0 rfl 105 rfl ?_
                  obtain ⟨x105, hx105, hk⟩ := ob_bind hk
                  refine y_callV hC 40 (hA 40 (by decide)) (cl_D (u := q44.2) rfl) rfl (c_X2_meet hJ hA l σ k hk4 q44.2 u n64 x105 hx105) rfl ⟨w3_141, w1_4, cwd_X2_meet, by decide, by decide⟩ w3_138 w3_140 ws2_13 rfl rfl (Nat.le_of_ble_eq_true rfl) (by decide) dX2_walk_105 108 rfl (gD (gM k σ u) x105) rfl [] rfl ?_
                  refine y_sub [1, 2, 3, 4] rfl ?_
                  exact J108 q44.1 x105 hk
            · have hk := ob_neg h75 hk
              refine y_goto hC dX2_walk_78 108 (by decide) ?_
              refine y_sub [1, 2, 3, 4] rfl ?_
              exact J108 q44.1 q44.2 hk
  refine y_aload_n hC dX2_walk_0 0 rfl 1 rfl ?_
  refine y_aload_n hC dX2_walk_1 1 rfl 2 rfl ?_
  refine y_getN hC (10 * k) (hM 0 (by decide)) (cl_M (k := k) (mm := σ.1.2.1) (u := u) hk4 rfl) rfl inU3 0 (by decide) w1_40 rfl dX2_walk_2 5 rfl ?_
  obtain ⟨g5, eg5, hk⟩ := ob_lt hk
  refine y_put hC 40 (hA 40 (by decide)) (cl_D (u := d) rfl) rfl inU2 tyX2_ok nmX2 9 (by decide) w1_182 rfl rfl rfl rfl (Nat.le_of_ble_eq_true rfl) (gD (gM k σ u) g5) (by subst eg5; exact (cu_D_left (u := d) (v := (pM_punnets u)) rfl rfl)) dX2_walk_5 8 rfl ?_
  refine y_aload_n hC dX2_walk_8 0 rfl 9 rfl ?_
  refine y_iconst hC dX2_walk_9 (v := (0 : Int32)) (by decide) 10 rfl ?_
  obtain ⟨g10, eg10, hk⟩ := ob_lt hk
  refine y_put hC 40 (hA 40 (by decide)) (cl_D (u := g5) rfl) rfl inU2 tyX2_ok nmX2 10 (by decide) w1_184 rfl rfl rfl rfl (Nat.le_of_ble_eq_true rfl) (gD (gM k σ u) g10) (by subst eg10; exact (cu_D_takings (u := g5) (v := (0 : Int32)) rfl rfl)) dX2_walk_10 13 rfl ?_
  refine y_aload_n hC dX2_walk_13 0 rfl 14 rfl ?_
  refine y_iconst hC dX2_walk_14 (v := (0 : Int32)) (by decide) 15 rfl ?_
  obtain ⟨g15, eg15, hk⟩ := ob_lt hk
  refine y_put hC 40 (hA 40 (by decide)) (cl_D (u := g10) rfl) rfl inU2 tyX2_ok nmX2 11 (by decide) w1_187 rfl rfl rfl rfl (Nat.le_of_ble_eq_true rfl) (gD (gM k σ u) g15) (by subst eg15; exact (cu_D_theirTakings (u := g10) (v := (0 : Int32)) rfl rfl)) dX2_walk_15 18 rfl ?_
  refine y_aload_n hC dX2_walk_18 0 rfl 19 rfl ?_
  refine y_get hC 40 (hA 40 (by decide)) (cl_D (u := g15) rfl) rfl inU2 6 (by decide) w1_177 rfl dX2_walk_19 22 rfl ?_
  refine y_iconst hC dX2_walk_22 (v := (0 : Int32)) (by decide) 23 rfl ?_
  obtain ⟨x23, hx23, hk⟩ := ob_bind hk
  obtain ⟨g23, eg23, hk⟩ := ob_lt hk
  refine y_callS hC (c_J7_fill_53178 hJ l (fun z23 => (gD (gM k σ u) (sD_gone g15 z23))) 46 (hA 46 (by decide)) 10 (fun z => (cl_D_gone (u := (sD_gone g15 z)) rfl)) (fun z z2 => (cuf_D_gone (u := g15) (z := z) (v := z2) rfl rfl)) (0 : Int32) (pD_gone g15) x23 hx23) (congrArg (fun zz => (gD (gM k σ u) zz)) (eta_D_gone _).symm) ⟨w1_37, w1_3, cwd_J7_fill_53178, by decide, by decide⟩ w3_137 w1_36 rfl rfl (Nat.le_of_ble_eq_true rfl) (by decide) dX2_walk_23 26 rfl (gD (gM k σ u) g23) (by subst eg23; rfl) [] rfl ?_
  refine y_aload_n hC dX2_walk_26 0 rfl 27 rfl ?_
  refine y_get hC 40 (hA 40 (by decide)) (cl_D (u := g23) rfl) rfl inU2 7 (by decide) w1_178 rfl dX2_walk_27 30 rfl ?_
  refine y_iconst hC dX2_walk_30 (v := (0 : Int32)) (by decide) 31 rfl ?_
  obtain ⟨x31, hx31, hk⟩ := ob_bind hk
  obtain ⟨g31, eg31, hk⟩ := ob_lt hk
  refine y_callS hC (c_J7_fill_53178 hJ l (fun z31 => (gD (gM k σ u) (sD_got g23 z31))) 47 (hA 47 (by decide)) 8 (fun z => (cl_D_got (u := (sD_got g23 z)) rfl)) (fun z z2 => (cuf_D_got (u := g23) (z := z) (v := z2) rfl rfl)) (0 : Int32) (pD_got g23) x31 hx31) (congrArg (fun zz => (gD (gM k σ u) zz)) (eta_D_got _).symm) ⟨w1_37, w1_3, cwd_J7_fill_53178, by decide, by decide⟩ w3_137 w1_36 rfl rfl (Nat.le_of_ble_eq_true rfl) (by decide) dX2_walk_31 34 rfl (gD (gM k σ u) g31) (by subst eg31; rfl) [] rfl ?_
  refine y_aload_n hC dX2_walk_34 0 rfl 35 rfl ?_
  refine y_get hC 40 (hA 40 (by decide)) (cl_D (u := g31) rfl) rfl inU2 8 (by decide) w1_180 rfl dX2_walk_35 38 rfl ?_
  refine y_iconst hC dX2_walk_38 (v := (0 : Int32)) (by decide) 39 rfl ?_
  obtain ⟨x39, hx39, hk⟩ := ob_bind hk
  obtain ⟨g39, eg39, hk⟩ := ob_lt hk
  refine y_callS hC (c_J7_fill_53178 hJ l (fun z39 => (gD (gM k σ u) (sD_served g31 z39))) 48 (hA 48 (by decide)) 8 (fun z => (cl_D_served (u := (sD_served g31 z)) rfl)) (fun z z2 => (cuf_D_served (u := g31) (z := z) (v := z2) rfl rfl)) (0 : Int32) (pD_served g31) x39 hx39) (congrArg (fun zz => (gD (gM k σ u) zz)) (eta_D_served _).symm) ⟨w1_37, w1_3, cwd_J7_fill_53178, by decide, by decide⟩ w3_137 w1_36 rfl rfl (Nat.le_of_ble_eq_true rfl) (by decide) dX2_walk_39 42 rfl (gD (gM k σ u) g39) (by subst eg39; rfl) [] rfl ?_
  refine y_iconst hC dX2_walk_42 (v := (0 : Int32)) (by decide) 43 rfl ?_
  refine y_istore_n hC dX2_walk_43 (by decide) [(3, .int (0 : Int32)), (0, .ref (ad Γ 40)), (1, .ref (ad Γ (10 * k))), (2, .int a1)] rfl 44 rfl ?_
  refine y_sub [1, 2, 3, 0] rfl ?_
  exact L44 1000 ((0 : Int32), g39) hk
def f_X2_run (d : DSt) (u : MSt) : Option (DSt) :=
  (f_X2_plan d u).bind fun x2 => 
    ((f_X2_walk x2 u (255 : Int32)).bind fun x10 => 
    (some x10))
theorem cwd_X2_run : yX2_run.cls ≠ "java/lang/invoke/MethodHandle" ∧ yX2_run.cls ≠ "java/lang/invoke/VarHandle" ∧ (parseMethodDescriptor yX2_run.desc).map (fun d => d.parameters.length) = some 1 := by decide +kernel
set_option maxHeartbeats 4000000 in
set_option maxRecDepth 100000 in
theorem c_X2_run {Γ : GC} (hJ : GJ Γ) (hA : ∀ i, i < 66 → act Γ i) (l : Launch) (σ : GSt) (k : Nat) (hk4 : k < 4) (d : DSt) (u : MSt) (x : DSt) (hk : f_X2_run d u = some x) : Mt Γ l yX2_run cX2_run 2 none 4 125 [.ref (ad Γ 40), .ref (ad Γ (10 * k))] (gD (gM k σ u) d) none (gD (gM k σ u) x) := by
  refine y_enter (by decide) hJ (Nat.le_of_ble_eq_true rfl) [(0, .ref (ad Γ 40)), (1, .ref (ad Γ (10 * k)))] rfl ?_
  intro p e s' m args below meth c' hC hr hlk
  have hM : ∀ j, j < 10 → act Γ (10 * k + j) := fun j hj => hA _ (by omega)
  refine y_aload_n hC dX2_run_0 0 rfl 1 rfl ?_
  refine y_aload_n hC dX2_run_1 1 rfl 2 rfl ?_
  obtain ⟨x2, hx2, hk⟩ := ob_bind hk
  refine y_callV hC 40 (hA 40 (by decide)) (cl_D (u := d) rfl) rfl (c_X2_plan hJ hA l σ k hk4 d u x2 hx2) rfl ⟨w3_36, w1_4, cwd_X2_plan, by decide, by decide⟩ w3_33 w3_35 ws2_7 rfl rfl (Nat.le_of_ble_eq_true rfl) (by decide) dX2_run_2 5 rfl (gD (gM k σ u) x2) rfl [] rfl ?_
  refine y_aload_n hC dX2_run_5 0 rfl 6 rfl ?_
  refine y_aload_n hC dX2_run_6 1 rfl 7 rfl ?_
  refine y_sipush hC dX2_run_7 (v := (255 : Int32)) (by decide) 10 rfl ?_
  obtain ⟨x10, hx10, hk⟩ := ob_bind hk
  refine y_callV hC 40 (hA 40 (by decide)) (cl_D (u := x2) rfl) rfl (c_X2_walk hJ hA l σ k hk4 x2 u (255 : Int32) x10 hx10) rfl ⟨w3_136, w1_4, cwd_X2_walk, by decide, by decide⟩ w3_133 w3_135 ws2_12 rfl rfl (Nat.le_of_ble_eq_true rfl) (by decide) dX2_run_10 13 rfl (gD (gM k σ u) x10) rfl [] rfl ?_
  have e := Option.some.inj hk
  exact y_vret hC hr hlk (by rw [← e]) dX2_run_13
def f_X2_mayLearnToWait_j14 (d : DSt) (a1 : Int32) : Option (Int32) :=
  some (1 : Int32)
def f_X2_mayLearnToWait (d : DSt) (a1 : Int32) : Option (Int32) :=
  if a1 = 0 then
    f_X2_mayLearnToWait_j14 d a1
  else
    if a1 = (2 : Int32) then
      f_X2_mayLearnToWait_j14 d a1
    else
      if a1 = (5 : Int32) then
        f_X2_mayLearnToWait_j14 d a1
      else
        some (0 : Int32)
theorem cwd_X2_mayLearnToWait : yX2_mayLearnToWait.cls ≠ "java/lang/invoke/MethodHandle" ∧ yX2_mayLearnToWait.cls ≠ "java/lang/invoke/VarHandle" ∧ (parseMethodDescriptor yX2_mayLearnToWait.desc).map (fun d => d.parameters.length) = some 1 := by decide +kernel
set_option maxHeartbeats 4000000 in
set_option maxRecDepth 100000 in
theorem c_X2_mayLearnToWait {Γ : GC} (hJ : GJ Γ) (hA : ∀ i, i < 66 → act Γ i) (l : Launch) (σ : GSt) (d : DSt) (a1 : Int32) (x : Int32) (hk : f_X2_mayLearnToWait d a1 = some x) : Mt Γ l yX2_mayLearnToWait cX2_mayLearnToWait 2 (some .boolean) 0 0 [.ref (ad Γ 40), .int a1] (gD σ d) (some (.int x)) (gD σ d) := by
  refine y_enter (by decide) hJ (Nat.le_of_ble_eq_true rfl) [(0, .ref (ad Γ 40)), (1, .int a1)] rfl ?_
  intro p e s' m args below meth c' hC hr hlk
  have J14 : ∀ (_ : Unit), f_X2_mayLearnToWait_j14 d a1 = some x → Y Γ (GA Γ) p l e ({ frames := 0, cells := 0, slots := 0, locals := 0 } : Room) s' m args below meth c' 0 0 (MQ below (Qg Γ (some (.int x)) (gD σ d)) args s' 0 0 (GA Γ)) 2 (gD σ d) 14 [(0, .ref (ad Γ 40)), (1, .int a1)] [] := by
    intro _ hk
    refine y_iconst hC dX2_mayLearnToWait_14 (v := (1 : Int32)) (by decide) 15 rfl ?_
    refine y_goto hC dX2_mayLearnToWait_15 19 (by decide) ?_
    have e := Option.some.inj hk
    exact y_zret hC hr hlk rfl (by rw [← e]) (by first | rfl | rw [← e]) dX2_mayLearnToWait_19
  refine y_iload_n hC dX2_mayLearnToWait_0 1 rfl 1 rfl ?_
  refine y_if_eq hC dX2_mayLearnToWait_1 14 (by decide) 4 rfl (fun h1 => ?_) (fun h1 => ?_)
  · have hk := ob_pos h1 hk
    refine y_sub [0, 1] rfl ?_
    exact J14 () hk
  · have hk := ob_neg h1 hk
    refine y_iload_n hC dX2_mayLearnToWait_4 1 rfl 5 rfl ?_
    refine y_iconst hC dX2_mayLearnToWait_5 (v := (2 : Int32)) (by decide) 6 rfl ?_
    refine y_icmp_eq hC dX2_mayLearnToWait_6 14 (by decide) 9 rfl (fun h6 => ?_) (fun h6 => ?_)
    · have hk := ob_pos h6 hk
      refine y_sub [0, 1] rfl ?_
      exact J14 () hk
    · have hk := ob_neg h6 hk
      refine y_iload_n hC dX2_mayLearnToWait_9 1 rfl 10 rfl ?_
      refine y_iconst hC dX2_mayLearnToWait_10 (v := (5 : Int32)) (by decide) 11 rfl ?_
      refine y_icmp_ne hC dX2_mayLearnToWait_11 18 (by decide) 14 rfl (fun h11 => ?_) (fun h11 => ?_)
      · have hk := ob_neg h11 hk
        refine y_iconst hC dX2_mayLearnToWait_18 (v := (0 : Int32)) (by decide) 19 rfl ?_
        have e := Option.some.inj hk
        exact y_zret hC hr hlk rfl (by rw [← e]) (by first | rfl | rw [← e]) dX2_mayLearnToWait_19
      · have hk := ob_pos h11 hk
        refine y_sub [0, 1] rfl ?_
        exact J14 () hk
def f_X2_paidTooMuch (d : DSt) (u : MSt) (a1 : Int32) : Option (Int32) :=
  if inb a1 8 then 
    (if (pD_got d a1.toNatClampNeg) ≤ 0 then
      some (0 : Int32)
    else
      if inb a1 8 then 
        (if inb a1 8 then 
        ((f_X3_priceIn u (pD_when d a1.toNatClampNeg)).bind fun x23 => 
        ((f_X3_fallsBelowBehind u (pD_when d a1.toNatClampNeg) (x23 / (2 : Int32))).bind fun x28 => 
        (if x28 = 0 then
          some (0 : Int32)
        else
          some (1 : Int32))))
      else none)
      else none)
  else none
theorem cwd_X2_paidTooMuch : yX2_paidTooMuch.cls ≠ "java/lang/invoke/MethodHandle" ∧ yX2_paidTooMuch.cls ≠ "java/lang/invoke/VarHandle" ∧ (parseMethodDescriptor yX2_paidTooMuch.desc).map (fun d => d.parameters.length) = some 2 := by decide +kernel
set_option maxHeartbeats 4000000 in
set_option maxRecDepth 100000 in
theorem c_X2_paidTooMuch {Γ : GC} (hJ : GJ Γ) (hA : ∀ i, i < 66 → act Γ i) (l : Launch) (σ : GSt) (k : Nat) (hk4 : k < 4) (d : DSt) (u : MSt) (a1 : Int32) (x : Int32) (hk : f_X2_paidTooMuch d u a1 = some x) : Mt Γ l yX2_paidTooMuch cX2_paidTooMuch 3 (some .boolean) 2 53 [.ref (ad Γ 40), .ref (ad Γ (10 * k)), .int a1] (gD (gM k σ u) d) (some (.int x)) (gD (gM k σ u) d) := by
  refine y_enter (by decide) hJ (Nat.le_of_ble_eq_true rfl) [(0, .ref (ad Γ 40)), (1, .ref (ad Γ (10 * k))), (2, .int a1)] rfl ?_
  intro p e s' m args below meth c' hC hr hlk
  have hM : ∀ j, j < 10 → act Γ (10 * k + j) := fun j hj => hA _ (by omega)
  refine y_aload_n hC dX2_paidTooMuch_0 0 rfl 1 rfl ?_
  refine y_get hC 40 (hA 40 (by decide)) (cl_D (u := d) rfl) rfl inU2 7 (by decide) w1_178 rfl dX2_paidTooMuch_1 4 rfl ?_
  refine y_iload_n hC dX2_paidTooMuch_4 2 rfl 5 rfl ?_
  obtain ⟨h5, hk⟩ := ob_if hk
  refine y_iald hC 47 (hA 47 (by decide)) (cl_D_got (u := d) rfl) h5 dX2_paidTooMuch_5 6 rfl ?_
  refine y_if_le hC dX2_paidTooMuch_6 38 (by decide) 9 rfl (fun h6 => ?_) (fun h6 => ?_)
  · have hk := ob_pos h6 hk
    refine y_iconst hC dX2_paidTooMuch_38 (v := (0 : Int32)) (by decide) 39 rfl ?_
    have e := Option.some.inj hk
    exact y_zret hC hr hlk rfl (by rw [← e]) (by first | rfl | rw [← e]) dX2_paidTooMuch_39
  · have hk := ob_neg h6 hk
    refine y_aload_n hC dX2_paidTooMuch_9 1 rfl 10 rfl ?_
    refine y_aload_n hC dX2_paidTooMuch_10 0 rfl 11 rfl ?_
    refine y_get hC 40 (hA 40 (by decide)) (cl_D (u := d) rfl) rfl inU2 1 (by decide) w1_169 rfl dX2_paidTooMuch_11 14 rfl ?_
    refine y_iload_n hC dX2_paidTooMuch_14 2 rfl 15 rfl ?_
    obtain ⟨h15, hk⟩ := ob_if hk
    refine y_iald hC 41 (hA 41 (by decide)) (cl_D_when (u := d) rfl) h15 dX2_paidTooMuch_15 16 rfl ?_
    refine y_aload_n hC dX2_paidTooMuch_16 1 rfl 17 rfl ?_
    refine y_aload_n hC dX2_paidTooMuch_17 0 rfl 18 rfl ?_
    refine y_get hC 40 (hA 40 (by decide)) (cl_D (u := d) rfl) rfl inU2 1 (by decide) w1_169 rfl dX2_paidTooMuch_18 21 rfl ?_
    refine y_iload_n hC dX2_paidTooMuch_21 2 rfl 22 rfl ?_
    obtain ⟨h22, hk⟩ := ob_if hk
    refine y_iald hC 41 (hA 41 (by decide)) (cl_D_when (u := d) rfl) h22 dX2_paidTooMuch_22 23 rfl ?_
    obtain ⟨x23, hx23, hk⟩ := ob_bind hk
    refine y_callVN hC (10 * k) (hM 0 (by decide)) (cl_M (k := k) (mm := σ.1.2.1) (u := u) hk4 rfl) rfl (c_X3_priceIn hJ hA l (gD σ d) k hk4 u (pD_when d a1.toNatClampNeg) x23 hx23) rfl ⟨w2_93, w1_2, cwd_X3_priceIn, by decide, by decide⟩ w3_142 w2_92 ws1_2 rfl rfl (Nat.le_of_ble_eq_true rfl) (by decide) dX2_paidTooMuch_23 26 rfl (gD (gM k σ u) d) rfl [.int x23, .int (pD_when d a1.toNatClampNeg), .ref (ad Γ (10 * k))] rfl ?_
    refine y_iconst hC dX2_paidTooMuch_26 (v := (2 : Int32)) (by decide) 27 rfl ?_
    refine y_idiv hC dX2_paidTooMuch_27 (by decide) 28 rfl ?_
    obtain ⟨x28, hx28, hk⟩ := ob_bind hk
    refine y_callVN hC (10 * k) (hM 0 (by decide)) (cl_M (k := k) (mm := σ.1.2.1) (u := u) hk4 rfl) rfl (c_X3_fallsBelowBehind hJ hA l (gD σ d) k hk4 u (pD_when d a1.toNatClampNeg) (x23 / (2 : Int32)) x28 hx28) rfl ⟨w3_164, w1_2, cwd_X3_fallsBelowBehind, by decide, by decide⟩ w3_161 w3_163 ws3_2 rfl rfl (Nat.le_of_ble_eq_true rfl) (by decide) dX2_paidTooMuch_28 31 rfl (gD (gM k σ u) d) rfl [.int x28] rfl ?_
    refine y_if_eq hC dX2_paidTooMuch_31 38 (by decide) 34 rfl (fun h31 => ?_) (fun h31 => ?_)
    · have hk := ob_pos h31 hk
      refine y_iconst hC dX2_paidTooMuch_38 (v := (0 : Int32)) (by decide) 39 rfl ?_
      have e := Option.some.inj hk
      exact y_zret hC hr hlk rfl (by rw [← e]) (by first | rfl | rw [← e]) dX2_paidTooMuch_39
    · have hk := ob_neg h31 hk
      refine y_iconst hC dX2_paidTooMuch_34 (v := (1 : Int32)) (by decide) 35 rfl ?_
      refine y_goto hC dX2_paidTooMuch_35 39 (by decide) ?_
      have e := Option.some.inj hk
      exact y_zret hC hr hlk rfl (by rw [← e]) (by first | rfl | rw [← e]) dX2_paidTooMuch_39
def f_X2_teach_j68 (d : DSt) (K2 : (Int32 × MSt) → Option (MSt)) (v2 : Int32) (gu : MSt) : Option (MSt) :=
  K2 ((v2 + (1 : Int32)), gu)
def f_X2_teach_j44 (d : DSt) (K2 : (Int32 × MSt) → Option (MSt)) (v2 : Int32) (v3 : Int32) (gu : MSt) : Option (MSt) :=
  (f_X2_mayLearnToWait d v3).bind fun x46 => 
    (if x46 = 0 then
      f_X2_teach_j68 d K2 v2 gu
    else
      (f_X2_paidTooMuch d gu v2).bind fun x55 => 
        (if x55 = 0 then
          f_X2_teach_j68 d K2 v2 gu
        else
          if inb v2 8 then 
            (lt (sM_kinds gu (upd (pM_kinds gu) v2.toNatClampNeg (1 : Int32))) fun g67 => 
            (f_X2_teach_j68 d K2 v2 g67))
          else none))
def f_X2_teach_s2 (d : DSt) (K2 : (Int32 × MSt) → Option (MSt)) (q2 : Int32 × MSt) : Option (MSt) :=
  if (pM_size q2.2) ≤ q2.1 then
    some q2.2
  else
    if (8 : Int32) ≤ q2.1 then
      some q2.2
    else
      if inb q2.1 8 then 
        (lt (pM_kinds q2.2 q2.1.toNatClampNeg) fun n22 => 
        (if n22 = (1 : Int32) then
          if inb q2.1 8 then 
            (if (pD_served d q2.1.toNatClampNeg) = 0 then
              if inb q2.1 8 then 
                (lt (sM_kinds q2.2 (upd (pM_kinds q2.2) q2.1.toNatClampNeg (0 : Int32))) fun g43 => 
                (f_X2_teach_j44 d K2 q2.1 n22 g43))
              else none
            else
              f_X2_teach_j44 d K2 q2.1 n22 q2.2)
          else none
        else
          f_X2_teach_j44 d K2 q2.1 n22 q2.2))
      else none
def f_X2_teach (d : DSt) (u : MSt) : Option (MSt) :=
  lp (f_X2_teach_s2 d) 1000 ((0 : Int32), u)
theorem cwd_X2_teach : yX2_teach.cls ≠ "java/lang/invoke/MethodHandle" ∧ yX2_teach.cls ≠ "java/lang/invoke/VarHandle" ∧ (parseMethodDescriptor yX2_teach.desc).map (fun d => d.parameters.length) = some 1 := by decide +kernel
set_option maxHeartbeats 4000000 in
set_option maxRecDepth 100000 in
theorem c_X2_teach {Γ : GC} (hJ : GJ Γ) (hA : ∀ i, i < 66 → act Γ i) (l : Launch) (σ : GSt) (k : Nat) (hk4 : k < 4) (d : DSt) (u : MSt) (x : MSt) (hk : f_X2_teach d u = some x) : Mt Γ l yX2_teach cX2_teach 4 none 3 75 [.ref (ad Γ 40), .ref (ad Γ (10 * k))] (gD (gM k σ u) d) none (gD (gM k σ x) d) := by
  refine y_enter (by decide) hJ (Nat.le_of_ble_eq_true rfl) [(0, .ref (ad Γ 40)), (1, .ref (ad Γ (10 * k)))] rfl ?_
  intro p e s' m args below meth c' hC hr hlk
  have hM : ∀ j, j < 10 → act Γ (10 * k + j) := fun j hj => hA _ (by omega)
  have L2 : ∀ (n2 : Nat) (q2 : Int32 × MSt), lp (f_X2_teach_s2 d) n2 q2 = some x → Y Γ (GA Γ) p l e ({ frames := 3, cells := 0, slots := 0, locals := 75 } : Room) s' m args below meth c' 0 0 (MQ below (Qg Γ none (gD (gM k σ x) d)) args s' 0 0 (GA Γ)) 4 (gD (gM k σ q2.2) d) 2 [(0, .ref (ad Γ 40)), (1, .ref (ad Γ (10 * k))), (2, .int q2.1)] [] := by
    intro n2
    induction n2 with
    | zero => intro q2 hk; exact (lp_zero hk).elim
    | succ n2 ih2 =>
      intro q2 hk
      have hk : f_X2_teach_s2 d (lp (f_X2_teach_s2 d) n2) q2 = some x := (lp_succ _ _ _).symm.trans hk
      have J68 : ∀ (v2 : Int32) (gu : MSt), f_X2_teach_j68 d (lp (f_X2_teach_s2 d) n2) v2 gu = some x → Y Γ (GA Γ) p l e ({ frames := 3, cells := 0, slots := 0, locals := 75 } : Room) s' m args below meth c' 0 0 (MQ below (Qg Γ none (gD (gM k σ x) d)) args s' 0 0 (GA Γ)) 4 (gD (gM k σ gu) d) 68 [(0, .ref (ad Γ 40)), (1, .ref (ad Γ (10 * k))), (2, .int v2)] [] := by
        intro v2 gu hk
        refine y_iinc hC dX2_teach_68 2 rfl (v := (v2 + (1 : Int32))) rfl (by decide) [(2, .int (v2 + (1 : Int32))), (0, .ref (ad Γ 40)), (1, .ref (ad Γ (10 * k)))] rfl 71 rfl ?_
        refine y_goto hC dX2_teach_71 2 (by decide) ?_
        refine y_sub [1, 2, 0] rfl ?_
        exact ih2 ((v2 + (1 : Int32)), gu) hk
      have J44 : ∀ (v2 : Int32) (v3 : Int32) (gu : MSt), f_X2_teach_j44 d (lp (f_X2_teach_s2 d) n2) v2 v3 gu = some x → Y Γ (GA Γ) p l e ({ frames := 3, cells := 0, slots := 0, locals := 75 } : Room) s' m args below meth c' 0 0 (MQ below (Qg Γ none (gD (gM k σ x) d)) args s' 0 0 (GA Γ)) 4 (gD (gM k σ gu) d) 44 [(0, .ref (ad Γ 40)), (1, .ref (ad Γ (10 * k))), (2, .int v2), (3, .int v3)] [] := by
        intro v2 v3 gu hk
        refine y_aload_n hC dX2_teach_44 0 rfl 45 rfl ?_
        refine y_iload_n hC dX2_teach_45 3 rfl 46 rfl ?_
        obtain ⟨x46, hx46, hk⟩ := ob_bind hk
        refine y_callV hC 40 (hA 40 (by decide)) (cl_D (u := d) rfl) rfl (c_X2_mayLearnToWait hJ hA l (gM k σ gu) d v3 x46 hx46) rfl ⟨w3_156, w1_4, cwd_X2_mayLearnToWait, by decide, by decide⟩ w3_153 w3_155 ws3_0 rfl rfl (Nat.le_of_ble_eq_true rfl) (by decide) dX2_teach_46 49 rfl (gD (gM k σ gu) d) rfl [.int x46] rfl ?_
        refine y_if_eq hC dX2_teach_49 68 (by decide) 52 rfl (fun h49 => ?_) (fun h49 => ?_)
        · have hk := ob_pos h49 hk
          refine y_sub [0, 1, 2] rfl ?_
          exact J68 v2 gu hk
        · have hk := ob_neg h49 hk
          refine y_aload_n hC dX2_teach_52 0 rfl 53 rfl ?_
          refine y_aload_n hC dX2_teach_53 1 rfl 54 rfl ?_
          refine y_iload_n hC dX2_teach_54 2 rfl 55 rfl ?_
          obtain ⟨x55, hx55, hk⟩ := ob_bind hk
          refine y_callV hC 40 (hA 40 (by decide)) (cl_D (u := d) rfl) rfl (c_X2_paidTooMuch hJ hA l σ k hk4 d gu v2 x55 hx55) rfl ⟨w3_160, w1_4, cwd_X2_paidTooMuch, by decide, by decide⟩ w3_157 w3_159 ws3_1 rfl rfl (Nat.le_of_ble_eq_true rfl) (by decide) dX2_teach_55 58 rfl (gD (gM k σ gu) d) rfl [.int x55] rfl ?_
          refine y_if_eq hC dX2_teach_58 68 (by decide) 61 rfl (fun h58 => ?_) (fun h58 => ?_)
          · have hk := ob_pos h58 hk
            refine y_sub [0, 1, 2] rfl ?_
            exact J68 v2 gu hk
          · have hk := ob_neg h58 hk
            refine y_aload_n hC dX2_teach_61 1 rfl 62 rfl ?_
            refine y_getN hC (10 * k) (hM 0 (by decide)) (cl_M (k := k) (mm := σ.1.2.1) (u := gu) hk4 rfl) rfl inU3 10 (by decide) w1_63 rfl dX2_teach_62 65 rfl ?_
            refine y_iload_n hC dX2_teach_65 2 rfl 66 rfl ?_
            refine y_iconst hC dX2_teach_66 (v := (1 : Int32)) (by decide) 67 rfl ?_
            obtain ⟨h67, hk⟩ := ob_if hk
            obtain ⟨g67, eg67, hk⟩ := ob_lt hk
            refine y_iast hC (10 * k + 3) (hM 3 (by decide)) (cl_M_kinds (k := k) (mm := σ.1.2.1) (u := gu) hk4 rfl) h67 (gD (gM k σ g67) d) (by subst eg67; exact (cu_M_kinds (v := (upd (pM_kinds gu) v2.toNatClampNeg (1 : Int32))) (k := k) (mm := σ.1.2.1) (u := gu) hk4 rfl rfl)) dX2_teach_67 68 rfl ?_
            refine y_sub [0, 1, 2] rfl ?_
            exact J68 v2 g67 hk
      refine y_iload_n hC dX2_teach_2 2 rfl 3 rfl ?_
      refine y_aload_n hC dX2_teach_3 1 rfl 4 rfl ?_
      refine y_getN hC (10 * k) (hM 0 (by decide)) (cl_M (k := k) (mm := σ.1.2.1) (u := q2.2) hk4 rfl) rfl inU3 3 (by decide) w1_49 rfl dX2_teach_4 7 rfl ?_
      refine y_icmp_ge hC dX2_teach_7 74 (by decide) 10 rfl (fun h7 => ?_) (fun h7 => ?_)
      · have hk := ob_pos h7 hk
        have e := Option.some.inj hk
        exact y_vret hC hr hlk (by rw [← e]) dX2_teach_74
      · have hk := ob_neg h7 hk
        refine y_iload_n hC dX2_teach_10 2 rfl 11 rfl ?_
        refine y_bipush hC dX2_teach_11 (v := (8 : Int32)) (by decide) 13 rfl ?_
        refine y_icmp_ge hC dX2_teach_13 74 (by decide) 16 rfl (fun h13 => ?_) (fun h13 => ?_)
        · have hk := ob_pos h13 hk
          have e := Option.some.inj hk
          exact y_vret hC hr hlk (by rw [← e]) dX2_teach_74
        · have hk := ob_neg h13 hk
          refine y_aload_n hC dX2_teach_16 1 rfl 17 rfl ?_
          refine y_getN hC (10 * k) (hM 0 (by decide)) (cl_M (k := k) (mm := σ.1.2.1) (u := q2.2) hk4 rfl) rfl inU3 10 (by decide) w1_63 rfl dX2_teach_17 20 rfl ?_
          refine y_iload_n hC dX2_teach_20 2 rfl 21 rfl ?_
          obtain ⟨h21, hk⟩ := ob_if hk
          refine y_iald hC (10 * k + 3) (hM 3 (by decide)) (cl_M_kinds (k := k) (mm := σ.1.2.1) (u := q2.2) hk4 rfl) h21 dX2_teach_21 22 rfl ?_
          obtain ⟨n22, en22, hk⟩ := ob_lt hk
          refine y_topi en22 ?_
          refine y_istore_n hC dX2_teach_22 (by decide) [(3, .int n22), (0, .ref (ad Γ 40)), (1, .ref (ad Γ (10 * k))), (2, .int q2.1)] rfl 23 rfl ?_
          refine y_iload_n hC dX2_teach_23 0 rfl 24 rfl ?_
          refine y_iconst hC dX2_teach_24 (v := (1 : Int32)) (by decide) 25 rfl ?_
          refine y_icmp_ne hC dX2_teach_25 44 (by decide) 28 rfl (fun h25 => ?_) (fun h25 => ?_)
          · have hk := ob_neg h25 hk
            refine y_sub [1, 2, 3, 0] rfl ?_
            exact J44 q2.1 n22 q2.2 hk
          · have hk := ob_pos h25 hk
            refine y_aload_n hC dX2_teach_28 1 rfl 29 rfl ?_
            refine y_get hC 40 (hA 40 (by decide)) (cl_D (u := d) rfl) rfl inU2 8 (by decide) w1_180 rfl dX2_teach_29 32 rfl ?_
            refine y_iload_n hC dX2_teach_32 3 rfl 33 rfl ?_
            obtain ⟨h33, hk⟩ := ob_if hk
            refine y_iald hC 48 (hA 48 (by decide)) (cl_D_served (u := d) rfl) h33 dX2_teach_33 34 rfl ?_
            refine y_if_ne hC dX2_teach_34 44 (by decide) 37 rfl (fun h34 => ?_) (fun h34 => ?_)
            · have hk := ob_neg h34 hk
              refine y_sub [1, 2, 3, 0] rfl ?_
              exact J44 q2.1 n22 q2.2 hk
            · have hk := ob_pos h34 hk
              refine y_aload_n hC dX2_teach_37 2 rfl 38 rfl ?_
              refine y_getN hC (10 * k) (hM 0 (by decide)) (cl_M (k := k) (mm := σ.1.2.1) (u := q2.2) hk4 rfl) rfl inU3 10 (by decide) w1_63 rfl dX2_teach_38 41 rfl ?_
              refine y_iload_n hC dX2_teach_41 3 rfl 42 rfl ?_
              refine y_iconst hC dX2_teach_42 (v := (0 : Int32)) (by decide) 43 rfl ?_
              obtain ⟨h43, hk⟩ := ob_if hk
              obtain ⟨g43, eg43, hk⟩ := ob_lt hk
              refine y_iast hC (10 * k + 3) (hM 3 (by decide)) (cl_M_kinds (k := k) (mm := σ.1.2.1) (u := q2.2) hk4 rfl) h43 (gD (gM k σ g43) d) (by subst eg43; exact (cu_M_kinds (v := (upd (pM_kinds q2.2) q2.1.toNatClampNeg (0 : Int32))) (k := k) (mm := σ.1.2.1) (u := q2.2) hk4 rfl rfl)) dX2_teach_43 44 rfl ?_
              refine y_sub [1, 2, 3, 0] rfl ?_
              exact J44 q2.1 n22 g43 hk
  refine y_iconst hC dX2_teach_0 (v := (0 : Int32)) (by decide) 1 rfl ?_
  refine y_istore_n hC dX2_teach_1 (by decide) [(2, .int (0 : Int32)), (0, .ref (ad Γ 40)), (1, .ref (ad Γ (10 * k)))] rfl 2 rfl ?_
  refine y_sub [1, 2, 0] rfl ?_
  exact L2 1000 ((0 : Int32), u) hk
def f_X2_goneIn (d : DSt) (a1 : Int32) : Option (Int32) :=
  if a1 < 0 then
    some (0 : Int32)
  else
    if (10 : Int32) ≤ a1 then
      some (0 : Int32)
    else
      if inb a1 10 then 
        (some (pD_gone d a1.toNatClampNeg))
      else none
theorem cwd_X2_goneIn : yX2_goneIn.cls ≠ "java/lang/invoke/MethodHandle" ∧ yX2_goneIn.cls ≠ "java/lang/invoke/VarHandle" ∧ (parseMethodDescriptor yX2_goneIn.desc).map (fun d => d.parameters.length) = some 1 := by decide +kernel
set_option maxHeartbeats 4000000 in
set_option maxRecDepth 100000 in
theorem c_X2_goneIn {Γ : GC} (hJ : GJ Γ) (hA : ∀ i, i < 66 → act Γ i) (l : Launch) (σ : GSt) (d : DSt) (a1 : Int32) (x : Int32) (hk : f_X2_goneIn d a1 = some x) : Mt Γ l yX2_goneIn cX2_goneIn 2 (some .int) 0 0 [.ref (ad Γ 40), .int a1] (gD σ d) (some (.int x)) (gD σ d) := by
  refine y_enter (by decide) hJ (Nat.le_of_ble_eq_true rfl) [(0, .ref (ad Γ 40)), (1, .int a1)] rfl ?_
  intro p e s' m args below meth c' hC hr hlk
  refine y_iload_n hC dX2_goneIn_0 1 rfl 1 rfl ?_
  refine y_if_lt hC dX2_goneIn_1 19 (by decide) 4 rfl (fun h1 => ?_) (fun h1 => ?_)
  · have hk := ob_pos h1 hk
    refine y_iconst hC dX2_goneIn_19 (v := (0 : Int32)) (by decide) 20 rfl ?_
    have e := Option.some.inj hk
    exact y_iret hC hr hlk (by rw [← e]) (by first | rfl | rw [← e]) dX2_goneIn_20
  · have hk := ob_neg h1 hk
    refine y_iload_n hC dX2_goneIn_4 1 rfl 5 rfl ?_
    refine y_bipush hC dX2_goneIn_5 (v := (10 : Int32)) (by decide) 7 rfl ?_
    refine y_icmp_ge hC dX2_goneIn_7 19 (by decide) 10 rfl (fun h7 => ?_) (fun h7 => ?_)
    · have hk := ob_pos h7 hk
      refine y_iconst hC dX2_goneIn_19 (v := (0 : Int32)) (by decide) 20 rfl ?_
      have e := Option.some.inj hk
      exact y_iret hC hr hlk (by rw [← e]) (by first | rfl | rw [← e]) dX2_goneIn_20
    · have hk := ob_neg h7 hk
      refine y_aload_n hC dX2_goneIn_10 0 rfl 11 rfl ?_
      refine y_get hC 40 (hA 40 (by decide)) (cl_D (u := d) rfl) rfl inU2 6 (by decide) w1_177 rfl dX2_goneIn_11 14 rfl ?_
      refine y_iload_n hC dX2_goneIn_14 1 rfl 15 rfl ?_
      obtain ⟨h15, hk⟩ := ob_if hk
      refine y_iald hC 46 (hA 46 (by decide)) (cl_D_gone (u := d) rfl) h15 dX2_goneIn_15 16 rfl ?_
      refine y_goto hC dX2_goneIn_16 20 (by decide) ?_
      have e := Option.some.inj hk
      exact y_iret hC hr hlk (by rw [← e]) (by first | rfl | rw [← e]) dX2_goneIn_20
def f_X2_payMore_j28 (a1 : Int32) (a2 : Int32) (K2 : (Int32 × DSt) → Option (DSt)) (v3 : Int32) (gd : DSt) : Option (DSt) :=
  K2 ((v3 + (1 : Int32)), gd)
def f_X2_payMore_s2 (a1 : Int32) (a2 : Int32) (K2 : (Int32 × DSt) → Option (DSt)) (q2 : Int32 × DSt) : Option (DSt) :=
  if (8 : Int32) ≤ q2.1 then
    some q2.2
  else
    if inb q2.1 8 then 
      (if (pD_when q2.2 q2.1.toNatClampNeg) = a1 then
        if inb q2.1 8 then 
          (if inb q2.1 8 then 
          (lt (sD_pays q2.2 (upd (pD_pays q2.2) q2.1.toNatClampNeg ((pD_pays q2.2 q2.1.toNatClampNeg) + a2))) fun g27 => 
          (f_X2_payMore_j28 a1 a2 K2 q2.1 g27))
        else none)
        else none
      else
        f_X2_payMore_j28 a1 a2 K2 q2.1 q2.2)
    else none
def f_X2_payMore (d : DSt) (a1 : Int32) (a2 : Int32) : Option (DSt) :=
  lp (f_X2_payMore_s2 a1 a2) 1000 ((0 : Int32), d)
theorem cwd_X2_payMore : yX2_payMore.cls ≠ "java/lang/invoke/MethodHandle" ∧ yX2_payMore.cls ≠ "java/lang/invoke/VarHandle" ∧ (parseMethodDescriptor yX2_payMore.desc).map (fun d => d.parameters.length) = some 2 := by decide +kernel
set_option maxHeartbeats 4000000 in
set_option maxRecDepth 100000 in
theorem c_X2_payMore {Γ : GC} (hJ : GJ Γ) (hA : ∀ i, i < 66 → act Γ i) (l : Launch) (σ : GSt) (d : DSt) (a1 : Int32) (a2 : Int32) (x : DSt) (hk : f_X2_payMore d a1 a2 = some x) : Mt Γ l yX2_payMore cX2_payMore 4 none 0 0 [.ref (ad Γ 40), .int a1, .int a2] (gD σ d) none (gD σ x) := by
  refine y_enter (by decide) hJ (Nat.le_of_ble_eq_true rfl) [(0, .ref (ad Γ 40)), (1, .int a1), (2, .int a2)] rfl ?_
  intro p e s' m args below meth c' hC hr hlk
  have L2 : ∀ (n2 : Nat) (q2 : Int32 × DSt), lp (f_X2_payMore_s2 a1 a2) n2 q2 = some x → Y Γ (GA Γ) p l e ({ frames := 0, cells := 0, slots := 0, locals := 0 } : Room) s' m args below meth c' 0 0 (MQ below (Qg Γ none (gD σ x)) args s' 0 0 (GA Γ)) 4 (gD σ q2.2) 2 [(0, .ref (ad Γ 40)), (1, .int a1), (2, .int a2), (3, .int q2.1)] [] := by
    intro n2
    induction n2 with
    | zero => intro q2 hk; exact (lp_zero hk).elim
    | succ n2 ih2 =>
      intro q2 hk
      have hk : f_X2_payMore_s2 a1 a2 (lp (f_X2_payMore_s2 a1 a2) n2) q2 = some x := (lp_succ _ _ _).symm.trans hk
      have J28 : ∀ (v3 : Int32) (gd : DSt), f_X2_payMore_j28 a1 a2 (lp (f_X2_payMore_s2 a1 a2) n2) v3 gd = some x → Y Γ (GA Γ) p l e ({ frames := 0, cells := 0, slots := 0, locals := 0 } : Room) s' m args below meth c' 0 0 (MQ below (Qg Γ none (gD σ x)) args s' 0 0 (GA Γ)) 4 (gD σ gd) 28 [(0, .ref (ad Γ 40)), (1, .int a1), (2, .int a2), (3, .int v3)] [] := by
        intro v3 gd hk
        refine y_iinc hC dX2_payMore_28 3 rfl (v := (v3 + (1 : Int32))) rfl (by decide) [(3, .int (v3 + (1 : Int32))), (0, .ref (ad Γ 40)), (1, .int a1), (2, .int a2)] rfl 31 rfl ?_
        refine y_goto hC dX2_payMore_31 2 (by decide) ?_
        refine y_sub [1, 2, 3, 0] rfl ?_
        exact ih2 ((v3 + (1 : Int32)), gd) hk
      refine y_iload_n hC dX2_payMore_2 3 rfl 3 rfl ?_
      refine y_bipush hC dX2_payMore_3 (v := (8 : Int32)) (by decide) 5 rfl ?_
      refine y_icmp_ge hC dX2_payMore_5 34 (by decide) 8 rfl (fun h5 => ?_) (fun h5 => ?_)
      · have hk := ob_pos h5 hk
        have e := Option.some.inj hk
        exact y_vret hC hr hlk (by rw [← e]) dX2_payMore_34
      · have hk := ob_neg h5 hk
        refine y_aload_n hC dX2_payMore_8 0 rfl 9 rfl ?_
        refine y_get hC 40 (hA 40 (by decide)) (cl_D (u := q2.2) rfl) rfl inU2 1 (by decide) w1_169 rfl dX2_payMore_9 12 rfl ?_
        refine y_iload_n hC dX2_payMore_12 3 rfl 13 rfl ?_
        obtain ⟨h13, hk⟩ := ob_if hk
        refine y_iald hC 41 (hA 41 (by decide)) (cl_D_when (u := q2.2) rfl) h13 dX2_payMore_13 14 rfl ?_
        refine y_iload_n hC dX2_payMore_14 1 rfl 15 rfl ?_
        refine y_icmp_ne hC dX2_payMore_15 28 (by decide) 18 rfl (fun h15 => ?_) (fun h15 => ?_)
        · have hk := ob_neg h15 hk
          refine y_sub [0, 1, 2, 3] rfl ?_
          exact J28 q2.1 q2.2 hk
        · have hk := ob_pos h15 hk
          refine y_aload_n hC dX2_payMore_18 0 rfl 19 rfl ?_
          refine y_get hC 40 (hA 40 (by decide)) (cl_D (u := q2.2) rfl) rfl inU2 2 (by decide) w1_171 rfl dX2_payMore_19 22 rfl ?_
          refine y_iload_n hC dX2_payMore_22 3 rfl 23 rfl ?_
          refine y_dup2 hC dX2_payMore_23 rfl rfl 24 rfl ?_
          obtain ⟨h24, hk⟩ := ob_if hk
          refine y_iald hC 42 (hA 42 (by decide)) (cl_D_pays (u := q2.2) rfl) h24 dX2_payMore_24 25 rfl ?_
          refine y_iload_n hC dX2_payMore_25 2 rfl 26 rfl ?_
          refine y_iadd hC dX2_payMore_26 27 rfl ?_
          obtain ⟨h27, hk⟩ := ob_if hk
          obtain ⟨g27, eg27, hk⟩ := ob_lt hk
          refine y_iast hC 42 (hA 42 (by decide)) (cl_D_pays (u := q2.2) rfl) h27 (gD σ g27) (by subst eg27; exact (cu_D_pays (u := q2.2) (v := (upd (pD_pays q2.2) q2.1.toNatClampNeg ((pD_pays q2.2 q2.1.toNatClampNeg) + a2))) rfl rfl)) dX2_payMore_27 28 rfl ?_
          refine y_sub [0, 1, 2, 3] rfl ?_
          exact J28 q2.1 g27 hk
  refine y_iconst hC dX2_payMore_0 (v := (0 : Int32)) (by decide) 1 rfl ?_
  refine y_istore_n hC dX2_payMore_1 (by decide) [(3, .int (0 : Int32)), (0, .ref (ad Γ 40)), (1, .int a1), (2, .int a2)] rfl 2 rfl ?_
  refine y_sub [1, 2, 3, 0] rfl ?_
  exact L2 1000 ((0 : Int32), d) hk
def f_X2_agreesWithSold_s2 (d : DSt) (u : MSt) (K2 : (Int32) → Option (Int32)) (q2 : Int32) : Option (Int32) :=
  if (pM_soldSize u) ≤ q2 then
    some (1 : Int32)
  else
    if (6 : Int32) ≤ q2 then
      some (1 : Int32)
    else
      if inb q2 6 then 
        ((f_X2_goneIn d (pM_soldHours u q2.toNatClampNeg)).bind fun x23 => 
        (if inb q2 6 then 
        (if x23 = (pM_soldNumbers u q2.toNatClampNeg) then
          K2 (q2 + (1 : Int32))
        else
          some (0 : Int32))
      else none))
      else none
def f_X2_agreesWithSold (d : DSt) (u : MSt) : Option (Int32) :=
  lp (f_X2_agreesWithSold_s2 d u) 1000 (0 : Int32)
theorem cwd_X2_agreesWithSold : yX2_agreesWithSold.cls ≠ "java/lang/invoke/MethodHandle" ∧ yX2_agreesWithSold.cls ≠ "java/lang/invoke/VarHandle" ∧ (parseMethodDescriptor yX2_agreesWithSold.desc).map (fun d => d.parameters.length) = some 1 := by decide +kernel
set_option maxHeartbeats 4000000 in
set_option maxRecDepth 100000 in
theorem c_X2_agreesWithSold {Γ : GC} (hJ : GJ Γ) (hA : ∀ i, i < 66 → act Γ i) (l : Launch) (σ : GSt) (k : Nat) (hk4 : k < 4) (d : DSt) (u : MSt) (x : Int32) (hk : f_X2_agreesWithSold d u = some x) : Mt Γ l yX2_agreesWithSold cX2_agreesWithSold 3 (some .boolean) 1 21 [.ref (ad Γ 40), .ref (ad Γ (10 * k))] (gD (gM k σ u) d) (some (.int x)) (gD (gM k σ u) d) := by
  refine y_enter (by decide) hJ (Nat.le_of_ble_eq_true rfl) [(0, .ref (ad Γ 40)), (1, .ref (ad Γ (10 * k)))] rfl ?_
  intro p e s' m args below meth c' hC hr hlk
  have hM : ∀ j, j < 10 → act Γ (10 * k + j) := fun j hj => hA _ (by omega)
  have L2 : ∀ (n2 : Nat) (q2 : Int32), lp (f_X2_agreesWithSold_s2 d u) n2 q2 = some x → Y Γ (GA Γ) p l e ({ frames := 1, cells := 0, slots := 0, locals := 21 } : Room) s' m args below meth c' 0 0 (MQ below (Qg Γ (some (.int x)) (gD (gM k σ u) d)) args s' 0 0 (GA Γ)) 3 (gD (gM k σ u) d) 2 [(0, .ref (ad Γ 40)), (1, .ref (ad Γ (10 * k))), (2, .int q2)] [] := by
    intro n2
    induction n2 with
    | zero => intro q2 hk; exact (lp_zero hk).elim
    | succ n2 ih2 =>
      intro q2 hk
      have hk : f_X2_agreesWithSold_s2 d u (lp (f_X2_agreesWithSold_s2 d u) n2) q2 = some x := (lp_succ _ _ _).symm.trans hk
      refine y_iload_n hC dX2_agreesWithSold_2 2 rfl 3 rfl ?_
      refine y_aload_n hC dX2_agreesWithSold_3 1 rfl 4 rfl ?_
      refine y_getN hC (10 * k) (hM 0 (by decide)) (cl_M (k := k) (mm := σ.1.2.1) (u := u) hk4 rfl) rfl inU3 6 (by decide) w1_56 rfl dX2_agreesWithSold_4 7 rfl ?_
      refine y_icmp_ge hC dX2_agreesWithSold_7 43 (by decide) 10 rfl (fun h7 => ?_) (fun h7 => ?_)
      · have hk := ob_pos h7 hk
        refine y_iconst hC dX2_agreesWithSold_43 (v := (1 : Int32)) (by decide) 44 rfl ?_
        have e := Option.some.inj hk
        exact y_zret hC hr hlk rfl (by rw [← e]) (by first | rfl | rw [← e]) dX2_agreesWithSold_44
      · have hk := ob_neg h7 hk
        refine y_iload_n hC dX2_agreesWithSold_10 2 rfl 11 rfl ?_
        refine y_bipush hC dX2_agreesWithSold_11 (v := (6 : Int32)) (by decide) 13 rfl ?_
        refine y_icmp_ge hC dX2_agreesWithSold_13 43 (by decide) 16 rfl (fun h13 => ?_) (fun h13 => ?_)
        · have hk := ob_pos h13 hk
          refine y_iconst hC dX2_agreesWithSold_43 (v := (1 : Int32)) (by decide) 44 rfl ?_
          have e := Option.some.inj hk
          exact y_zret hC hr hlk rfl (by rw [← e]) (by first | rfl | rw [← e]) dX2_agreesWithSold_44
        · have hk := ob_neg h13 hk
          refine y_aload_n hC dX2_agreesWithSold_16 0 rfl 17 rfl ?_
          refine y_aload_n hC dX2_agreesWithSold_17 1 rfl 18 rfl ?_
          refine y_getN hC (10 * k) (hM 0 (by decide)) (cl_M (k := k) (mm := σ.1.2.1) (u := u) hk4 rfl) rfl inU3 14 (by decide) w1_75 rfl dX2_agreesWithSold_18 21 rfl ?_
          refine y_iload_n hC dX2_agreesWithSold_21 2 rfl 22 rfl ?_
          obtain ⟨h22, hk⟩ := ob_if hk
          refine y_iald hC (10 * k + 7) (hM 7 (by decide)) (cl_M_soldHours (k := k) (mm := σ.1.2.1) (u := u) hk4 rfl) h22 dX2_agreesWithSold_22 23 rfl ?_
          obtain ⟨x23, hx23, hk⟩ := ob_bind hk
          refine y_callV hC 40 (hA 40 (by decide)) (cl_D (u := d) rfl) rfl (c_X2_goneIn hJ hA l (gM k σ u) d (pM_soldHours u q2.toNatClampNeg) x23 hx23) rfl ⟨w3_181, w1_4, cwd_X2_goneIn, by decide, by decide⟩ w4_47 w3_180 ws3_4 rfl rfl (Nat.le_of_ble_eq_true rfl) (by decide) dX2_agreesWithSold_23 26 rfl (gD (gM k σ u) d) rfl [.int x23] rfl ?_
          refine y_aload_n hC dX2_agreesWithSold_26 1 rfl 27 rfl ?_
          refine y_getN hC (10 * k) (hM 0 (by decide)) (cl_M (k := k) (mm := σ.1.2.1) (u := u) hk4 rfl) rfl inU3 15 (by decide) w1_78 rfl dX2_agreesWithSold_27 30 rfl ?_
          refine y_iload_n hC dX2_agreesWithSold_30 2 rfl 31 rfl ?_
          obtain ⟨h31, hk⟩ := ob_if hk
          refine y_iald hC (10 * k + 8) (hM 8 (by decide)) (cl_M_soldNumbers (k := k) (mm := σ.1.2.1) (u := u) hk4 rfl) h31 dX2_agreesWithSold_31 32 rfl ?_
          refine y_icmp_eq hC dX2_agreesWithSold_32 37 (by decide) 35 rfl (fun h32 => ?_) (fun h32 => ?_)
          · have hk := ob_pos h32 hk
            refine y_iinc hC dX2_agreesWithSold_37 2 rfl (v := (q2 + (1 : Int32))) rfl (by decide) [(2, .int (q2 + (1 : Int32))), (0, .ref (ad Γ 40)), (1, .ref (ad Γ (10 * k)))] rfl 40 rfl ?_
            refine y_goto hC dX2_agreesWithSold_40 2 (by decide) ?_
            refine y_sub [1, 2, 0] rfl ?_
            exact ih2 (q2 + (1 : Int32)) hk
          · have hk := ob_neg h32 hk
            refine y_iconst hC dX2_agreesWithSold_35 (v := (0 : Int32)) (by decide) 36 rfl ?_
            have e := Option.some.inj hk
            exact y_zret hC hr hlk rfl (by rw [← e]) (by first | rfl | rw [← e]) dX2_agreesWithSold_36
  refine y_iconst hC dX2_agreesWithSold_0 (v := (0 : Int32)) (by decide) 1 rfl ?_
  refine y_istore_n hC dX2_agreesWithSold_1 (by decide) [(2, .int (0 : Int32)), (0, .ref (ad Γ 40)), (1, .ref (ad Γ (10 * k)))] rfl 2 rfl ?_
  refine y_sub [1, 2, 0] rfl ?_
  exact L2 1000 (0 : Int32) hk
