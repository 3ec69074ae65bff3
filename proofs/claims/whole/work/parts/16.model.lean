def f_X11_begins_s48 (a1 : Int32) (a2 : Int32) (a3 : Int32) (K48 : (Int32 × LSt) → Option (LSt)) (q48 : Int32 × LSt) : Option (LSt) :=
  if (10 : Int32) ≤ q48.1 then
    some q48.2
  else
    if inb ((a1 + (8 : Int32)) + q48.1) 608 then 
      (lt (sL_w q48.2 (upd (pL_w q48.2) ((a1 + (8 : Int32)) + q48.1).toNatClampNeg (40 : Int32))) fun g68 => 
      (K48 ((q48.1 + (1 : Int32)), g68)))
    else none
def f_X11_begins_j27 (a1 : Int32) (a2 : Int32) (a3 : Int32) (gw : LSt) : Option (LSt) :=
  if inb (a1 + (0 : Int32)) 608 then 
    (lt (sL_w gw (upd (pL_w gw) (a1 + (0 : Int32)).toNatClampNeg a2)) fun g35 => 
    (if inb (a1 + (1 : Int32)) 608 then 
    (lt (sL_w g35 (upd (pL_w g35) (a1 + (1 : Int32)).toNatClampNeg a3)) fun g44 => 
    (lp (f_X11_begins_s48 a1 a2 a3) 1000 ((0 : Int32), g44)))
  else none))
  else none
def f_X11_begins_s3 (a1 : Int32) (a2 : Int32) (a3 : Int32) (K3 : (Int32 × LSt) → Option (LSt)) (q3 : Int32 × LSt) : Option (LSt) :=
  if (152 : Int32) ≤ q3.1 then
    f_X11_begins_j27 a1 a2 a3 q3.2
  else
    if inb (a1 + q3.1) 608 then 
      (lt (sL_w q3.2 (upd (pL_w q3.2) (a1 + q3.1).toNatClampNeg (0 : Int32))) fun g20 => 
      (K3 ((q3.1 + (1 : Int32)), g20)))
    else none
def f_X11_begins (w : LSt) (a1 : Int32) (a2 : Int32) (a3 : Int32) : Option (LSt) :=
  lp (f_X11_begins_s3 a1 a2 a3) 1000 ((0 : Int32), w)
theorem cwd_X11_begins : yX11_begins.cls ≠ "java/lang/invoke/MethodHandle" ∧ yX11_begins.cls ≠ "java/lang/invoke/VarHandle" ∧ (parseMethodDescriptor yX11_begins.desc).map (fun d => d.parameters.length) = some 3 := by decide +kernel
set_option maxHeartbeats 4000000 in
set_option maxRecDepth 100000 in
theorem c_X11_begins {Γ : GC} (hJ : GJ Γ) (hB : ∀ i, 66 ≤ i → i < 77 → act Γ i) (l : Launch) (σ : GSt) (w : LSt) (a1 : Int32) (a2 : Int32) (a3 : Int32) (x : LSt) (hk : f_X11_begins w a1 a2 a3 = some x) : Mt Γ l yX11_begins cX11_begins 5 none 0 0 [.ref (ad Γ 66), .int a1, .int a2, .int a3] (gL σ w) none (gL σ x) := by
  refine y_enter (by decide) hJ (Nat.le_of_ble_eq_true rfl) [(0, .ref (ad Γ 66)), (1, .int a1), (2, .int a2), (3, .int a3)] rfl ?_
  intro p e s' m args below meth c' hC hr hlk
  have L48 : ∀ (n48 : Nat) (q48 : Int32 × LSt), lp (f_X11_begins_s48 a1 a2 a3) n48 q48 = some x → Y Γ (GA Γ) p l e ({ frames := 0, cells := 0, slots := 0, locals := 0 } : Room) s' m args below meth c' 0 0 (MQ below (Qg Γ none (gL σ x)) args s' 0 0 (GA Γ)) 5 (gL σ q48.2) 48 [(0, .ref (ad Γ 66)), (1, .int a1), (2, .int a2), (3, .int a3), (4, .int q48.1)] [] := by
    intro n48
    induction n48 with
    | zero => intro q48 hk; exact (lp_zero hk).elim
    | succ n48 ih48 =>
      intro q48 hk
      have hk : f_X11_begins_s48 a1 a2 a3 (lp (f_X11_begins_s48 a1 a2 a3) n48) q48 = some x := (lp_succ _ _ _).symm.trans hk
      refine y_iload hC dX11_begins_48 4 rfl 50 rfl ?_
      refine y_bipush hC dX11_begins_50 (v := (10 : Int32)) (by decide) 52 rfl ?_
      refine y_icmp_ge hC dX11_begins_52 75 (by decide) 55 rfl (fun h52 => ?_) (fun h52 => ?_)
      · have hk := ob_pos h52 hk
        have e := Option.some.inj hk
        exact y_vret hC hr hlk (by rw [← e]) dX11_begins_75
      · have hk := ob_neg h52 hk
        refine y_aload_n hC dX11_begins_55 0 rfl 56 rfl ?_
        refine y_get hC 66 (hB 66 (by decide) (by decide)) (cl_L (u := q48.2) rfl) rfl inU11 0 (by decide) w4_98 rfl dX11_begins_56 59 rfl ?_
        refine y_iload_n hC dX11_begins_59 1 rfl 60 rfl ?_
        refine y_bipush hC dX11_begins_60 (v := (8 : Int32)) (by decide) 62 rfl ?_
        refine y_iadd hC dX11_begins_62 63 rfl ?_
        refine y_iload hC dX11_begins_63 4 rfl 65 rfl ?_
        refine y_iadd hC dX11_begins_65 66 rfl ?_
        refine y_bipush hC dX11_begins_66 (v := (40 : Int32)) (by decide) 68 rfl ?_
        obtain ⟨h68, hk⟩ := ob_if hk
        obtain ⟨g68, eg68, hk⟩ := ob_lt hk
        refine y_iast hC 67 (hB 67 (by decide) (by decide)) (cl_L_w (u := q48.2) rfl) h68 (gL σ g68) (by subst eg68; exact (cu_L_w (u := q48.2) (v := (upd (pL_w q48.2) ((a1 + (8 : Int32)) + q48.1).toNatClampNeg (40 : Int32))) rfl rfl)) dX11_begins_68 69 rfl ?_
        refine y_iinc hC dX11_begins_69 4 rfl (v := (q48.1 + (1 : Int32))) rfl (by decide) [(4, .int (q48.1 + (1 : Int32))), (0, .ref (ad Γ 66)), (1, .int a1), (2, .int a2), (3, .int a3)] rfl 72 rfl ?_
        refine y_goto hC dX11_begins_72 48 (by decide) ?_
        refine y_sub [1, 2, 3, 4, 0] rfl ?_
        exact ih48 ((q48.1 + (1 : Int32)), g68) hk
  have J27 : ∀ (gw : LSt), f_X11_begins_j27 a1 a2 a3 gw = some x → Y Γ (GA Γ) p l e ({ frames := 0, cells := 0, slots := 0, locals := 0 } : Room) s' m args below meth c' 0 0 (MQ below (Qg Γ none (gL σ x)) args s' 0 0 (GA Γ)) 5 (gL σ gw) 27 [(0, .ref (ad Γ 66)), (1, .int a1), (2, .int a2), (3, .int a3)] [] := by
    intro gw hk
    refine y_aload_n hC dX11_begins_27 0 rfl 28 rfl ?_
    refine y_get hC 66 (hB 66 (by decide) (by decide)) (cl_L (u := gw) rfl) rfl inU11 0 (by decide) w4_98 rfl dX11_begins_28 31 rfl ?_
    refine y_iload_n hC dX11_begins_31 1 rfl 32 rfl ?_
    refine y_iconst hC dX11_begins_32 (v := (0 : Int32)) (by decide) 33 rfl ?_
    refine y_iadd hC dX11_begins_33 34 rfl ?_
    refine y_iload_n hC dX11_begins_34 2 rfl 35 rfl ?_
    obtain ⟨h35, hk⟩ := ob_if hk
    obtain ⟨g35, eg35, hk⟩ := ob_lt hk
    refine y_iast hC 67 (hB 67 (by decide) (by decide)) (cl_L_w (u := gw) rfl) h35 (gL σ g35) (by subst eg35; exact (cu_L_w (u := gw) (v := (upd (pL_w gw) (a1 + (0 : Int32)).toNatClampNeg a2)) rfl rfl)) dX11_begins_35 36 rfl ?_
    refine y_aload_n hC dX11_begins_36 0 rfl 37 rfl ?_
    refine y_get hC 66 (hB 66 (by decide) (by decide)) (cl_L (u := g35) rfl) rfl inU11 0 (by decide) w4_98 rfl dX11_begins_37 40 rfl ?_
    refine y_iload_n hC dX11_begins_40 1 rfl 41 rfl ?_
    refine y_iconst hC dX11_begins_41 (v := (1 : Int32)) (by decide) 42 rfl ?_
    refine y_iadd hC dX11_begins_42 43 rfl ?_
    refine y_iload_n hC dX11_begins_43 3 rfl 44 rfl ?_
    obtain ⟨h44, hk⟩ := ob_if hk
    obtain ⟨g44, eg44, hk⟩ := ob_lt hk
    refine y_iast hC 67 (hB 67 (by decide) (by decide)) (cl_L_w (u := g35) rfl) h44 (gL σ g44) (by subst eg44; exact (cu_L_w (u := g35) (v := (upd (pL_w g35) (a1 + (1 : Int32)).toNatClampNeg a3)) rfl rfl)) dX11_begins_44 45 rfl ?_
    refine y_iconst hC dX11_begins_45 (v := (0 : Int32)) (by decide) 46 rfl ?_
    refine y_istore hC dX11_begins_46 (by decide) [(4, .int (0 : Int32)), (0, .ref (ad Γ 66)), (1, .int a1), (2, .int a2), (3, .int a3)] rfl 48 rfl ?_
    refine y_sub [1, 2, 3, 4, 0] rfl ?_
    exact L48 1000 ((0 : Int32), g44) hk
  have L3 : ∀ (n3 : Nat) (q3 : Int32 × LSt), lp (f_X11_begins_s3 a1 a2 a3) n3 q3 = some x → Y Γ (GA Γ) p l e ({ frames := 0, cells := 0, slots := 0, locals := 0 } : Room) s' m args below meth c' 0 0 (MQ below (Qg Γ none (gL σ x)) args s' 0 0 (GA Γ)) 5 (gL σ q3.2) 3 [(0, .ref (ad Γ 66)), (1, .int a1), (2, .int a2), (3, .int a3), (4, .int q3.1)] [] := by
    intro n3
    induction n3 with
    | zero => intro q3 hk; exact (lp_zero hk).elim
    | succ n3 ih3 =>
      intro q3 hk
      have hk : f_X11_begins_s3 a1 a2 a3 (lp (f_X11_begins_s3 a1 a2 a3) n3) q3 = some x := (lp_succ _ _ _).symm.trans hk
      refine y_iload hC dX11_begins_3 4 rfl 5 rfl ?_
      refine y_sipush hC dX11_begins_5 (v := (152 : Int32)) (by decide) 8 rfl ?_
      refine y_icmp_ge hC dX11_begins_8 27 (by decide) 11 rfl (fun h8 => ?_) (fun h8 => ?_)
      · have hk := ob_pos h8 hk
        refine y_sub [0, 1, 2, 3] rfl ?_
        exact J27 q3.2 hk
      · have hk := ob_neg h8 hk
        refine y_aload_n hC dX11_begins_11 0 rfl 12 rfl ?_
        refine y_get hC 66 (hB 66 (by decide) (by decide)) (cl_L (u := q3.2) rfl) rfl inU11 0 (by decide) w4_98 rfl dX11_begins_12 15 rfl ?_
        refine y_iload_n hC dX11_begins_15 1 rfl 16 rfl ?_
        refine y_iload hC dX11_begins_16 4 rfl 18 rfl ?_
        refine y_iadd hC dX11_begins_18 19 rfl ?_
        refine y_iconst hC dX11_begins_19 (v := (0 : Int32)) (by decide) 20 rfl ?_
        obtain ⟨h20, hk⟩ := ob_if hk
        obtain ⟨g20, eg20, hk⟩ := ob_lt hk
        refine y_iast hC 67 (hB 67 (by decide) (by decide)) (cl_L_w (u := q3.2) rfl) h20 (gL σ g20) (by subst eg20; exact (cu_L_w (u := q3.2) (v := (upd (pL_w q3.2) (a1 + q3.1).toNatClampNeg (0 : Int32))) rfl rfl)) dX11_begins_20 21 rfl ?_
        refine y_iinc hC dX11_begins_21 4 rfl (v := (q3.1 + (1 : Int32))) rfl (by decide) [(4, .int (q3.1 + (1 : Int32))), (0, .ref (ad Γ 66)), (1, .int a1), (2, .int a2), (3, .int a3)] rfl 24 rfl ?_
        refine y_goto hC dX11_begins_24 3 (by decide) ?_
        refine y_sub [1, 2, 3, 4, 0] rfl ?_
        exact ih3 ((q3.1 + (1 : Int32)), g20) hk
  refine y_iconst hC dX11_begins_0 (v := (0 : Int32)) (by decide) 1 rfl ?_
  refine y_istore hC dX11_begins_1 (by decide) [(4, .int (0 : Int32)), (0, .ref (ad Γ 66)), (1, .int a1), (2, .int a2), (3, .int a3)] rfl 3 rfl ?_
  refine y_sub [1, 2, 3, 4, 0] rfl ?_
  exact L3 1000 ((0 : Int32), w) hk
def f_X11_in (a1 : Int64) (a2 : Int64) (a3 : Int64) : Option (Int32) :=
  if (lg_cmp a1 a2) < 0 then
    some (0 : Int32)
  else
    if 0 < (lg_cmp a1 a3) then
      some (0 : Int32)
    else
      some (1 : Int32)
theorem cwd_X11_in : yX11_in.cls ≠ "java/lang/invoke/MethodHandle" ∧ yX11_in.cls ≠ "java/lang/invoke/VarHandle" ∧ (parseMethodDescriptor yX11_in.desc).map (fun d => d.parameters.length) = some 3 := by decide +kernel
set_option maxHeartbeats 4000000 in
set_option maxRecDepth 100000 in
theorem c_X11_in {Γ : GC} (hJ : GJ Γ) (l : Launch) (σ : GSt) (a1 : Int64) (a2 : Int64) (a3 : Int64) (x : Int32) (hk : f_X11_in a1 a2 a3 = some x) : Mt Γ l yX11_in cX11_in 6 (some .boolean) 0 0 [.long a1, .long a2, .long a3] σ (some (.int x)) σ := by
  refine y_enter (by decide) hJ (Nat.le_of_ble_eq_true rfl) [(0, .long a1), (2, .long a2), (4, .long a3)] rfl ?_
  intro p e s' m args below meth c' hC hr hlk
  refine y_lload_n hC dX11_in_0 0 rfl 1 rfl ?_
  refine y_lload_n hC dX11_in_1 1 rfl 2 rfl ?_
  refine y_lcmp hC dX11_in_2 3 rfl ?_
  refine y_if_lt hC dX11_in_3 17 (by decide) 6 rfl (fun h3 => ?_) (fun h3 => ?_)
  · have hk := ob_pos h3 hk
    refine y_iconst hC dX11_in_17 (v := (0 : Int32)) (by decide) 18 rfl ?_
    have e := Option.some.inj hk
    exact y_zret hC hr hlk rfl (by rw [← e]) (by first | rfl | rw [← e]) dX11_in_18
  · have hk := ob_neg h3 hk
    refine y_lload_n hC dX11_in_6 0 rfl 7 rfl ?_
    refine y_lload hC dX11_in_7 2 rfl 9 rfl ?_
    refine y_lcmp hC dX11_in_9 10 rfl ?_
    refine y_if_gt hC dX11_in_10 17 (by decide) 13 rfl (fun h10 => ?_) (fun h10 => ?_)
    · have hk := ob_pos h10 hk
      refine y_iconst hC dX11_in_17 (v := (0 : Int32)) (by decide) 18 rfl ?_
      have e := Option.some.inj hk
      exact y_zret hC hr hlk rfl (by rw [← e]) (by first | rfl | rw [← e]) dX11_in_18
    · have hk := ob_neg h10 hk
      refine y_iconst hC dX11_in_13 (v := (1 : Int32)) (by decide) 14 rfl ?_
      refine y_goto hC dX11_in_14 18 (by decide) ?_
      have e := Option.some.inj hk
      exact y_zret hC hr hlk rfl (by rw [← e]) (by first | rfl | rw [← e]) dX11_in_18
def f_X11_isPrice (a1 : Int32) : Option (Int32) :=
  (f_X11_in a1.toInt64 (0 : Int64) (99 : Int64)).bind fun x6 => 
    (if x6 = 0 ∨ x6 = 1 then 
    (some x6)
  else none)
theorem cwd_X11_isPrice : yX11_isPrice.cls ≠ "java/lang/invoke/MethodHandle" ∧ yX11_isPrice.cls ≠ "java/lang/invoke/VarHandle" ∧ (parseMethodDescriptor yX11_isPrice.desc).map (fun d => d.parameters.length) = some 1 := by decide +kernel
set_option maxHeartbeats 4000000 in
set_option maxRecDepth 100000 in
theorem c_X11_isPrice {Γ : GC} (hJ : GJ Γ) (l : Launch) (σ : GSt) (a1 : Int32) (x : Int32) (hk : f_X11_isPrice a1 = some x) : Mt Γ l yX11_isPrice cX11_isPrice 1 (some .boolean) 1 25 [.int a1] σ (some (.int x)) σ := by
  refine y_enter (by decide) hJ (Nat.le_of_ble_eq_true rfl) [(0, .int a1)] rfl ?_
  intro p e s' m args below meth c' hC hr hlk
  refine y_iload_n hC dX11_isPrice_0 0 rfl 1 rfl ?_
  refine y_i2l hC dX11_isPrice_1 2 rfl ?_
  refine y_lconst hC dX11_isPrice_2 (v := (0 : Int64)) (by decide) 3 rfl ?_
  refine y_ldc2 hC (v := (99 : Int64)) w4_178 dX11_isPrice_3 6 rfl ?_
  obtain ⟨x6, hx6, hk⟩ := ob_bind hk
  refine y_callS hC (c_X11_in hJ l σ a1.toInt64 (0 : Int64) (99 : Int64) x6 hx6) rfl ⟨w4_181, w1_13, cwd_X11_in, by decide, by decide⟩ w4_179 w4_180 rfl rfl (Nat.le_of_ble_eq_true rfl) (by decide) dX11_isPrice_6 9 rfl σ rfl [.int x6] rfl ?_
  obtain ⟨h9, hk⟩ := ob_if hk
  have e := Option.some.inj hk
  exact y_zret hC hr hlk (nz_bool h9) (by rw [← e]) (by first | rfl | rw [← e]) dX11_isPrice_9
def f_X11_bad (w : LSt) : Option (Int32 × LSt) :=
  if inb (0 : Int32) 3 then 
    (if inb (0 : Int32) 3 then 
    (lt (sL_refused w (upd (pL_refused w) (0 : Int32).toNatClampNeg ((pL_refused w (0 : Int32).toNatClampNeg) + (1 : Int32)))) fun g9 => 
    (some ((-2 : Int32), g9)))
  else none)
  else none
theorem cwd_X11_bad : yX11_bad.cls ≠ "java/lang/invoke/MethodHandle" ∧ yX11_bad.cls ≠ "java/lang/invoke/VarHandle" ∧ (parseMethodDescriptor yX11_bad.desc).map (fun d => d.parameters.length) = some 0 := by decide +kernel
set_option maxHeartbeats 4000000 in
set_option maxRecDepth 100000 in
theorem c_X11_bad {Γ : GC} (hJ : GJ Γ) (hB : ∀ i, 66 ≤ i → i < 77 → act Γ i) (l : Launch) (σ : GSt) (w : LSt) (x : Int32 × LSt) (hk : f_X11_bad w = some x) : Mt Γ l yX11_bad cX11_bad 1 (some .int) 0 0 [.ref (ad Γ 66)] (gL σ w) (some (.int x.1)) (gL σ x.2) := by
  refine y_enter (by decide) hJ (Nat.le_of_ble_eq_true rfl) [(0, .ref (ad Γ 66))] rfl ?_
  intro p e s' m args below meth c' hC hr hlk
  refine y_aload_n hC dX11_bad_0 0 rfl 1 rfl ?_
  refine y_get hC 66 (hB 66 (by decide) (by decide)) (cl_L (u := w) rfl) rfl inU11 4 (by decide) w4_102 rfl dX11_bad_1 4 rfl ?_
  refine y_iconst hC dX11_bad_4 (v := (0 : Int32)) (by decide) 5 rfl ?_
  refine y_dup2 hC dX11_bad_5 rfl rfl 6 rfl ?_
  obtain ⟨h6, hk⟩ := ob_if hk
  refine y_iald hC 70 (hB 70 (by decide) (by decide)) (cl_L_refused (u := w) rfl) h6 dX11_bad_6 7 rfl ?_
  refine y_iconst hC dX11_bad_7 (v := (1 : Int32)) (by decide) 8 rfl ?_
  refine y_iadd hC dX11_bad_8 9 rfl ?_
  obtain ⟨h9, hk⟩ := ob_if hk
  obtain ⟨g9, eg9, hk⟩ := ob_lt hk
  refine y_iast hC 70 (hB 70 (by decide) (by decide)) (cl_L_refused (u := w) rfl) h9 (gL σ g9) (by subst eg9; exact (cu_L_refused (u := w) (v := (upd (pL_refused w) (0 : Int32).toNatClampNeg ((pL_refused w (0 : Int32).toNatClampNeg) + (1 : Int32)))) rfl rfl)) dX11_bad_9 10 rfl ?_
  refine y_bipush hC dX11_bad_10 (v := (-2 : Int32)) (by decide) 12 rfl ?_
  have e := Option.some.inj hk
  exact y_iret hC hr hlk (by rw [← e]) (by first | rfl | rw [← e]) dX11_bad_12
def f_X11_market_j19 (a1 : Int32) (a2 : Int32) (gw : LSt) : Option (Int32 × LSt) :=
  (f_X11_bad gw).bind fun x20 => 
    (some (x20.1, x20.2))
def f_X11_market (w : LSt) (a1 : Int32) (a2 : Int32) : Option (Int32 × LSt) :=
  (f_X11_isPrice a1).bind fun x1 => 
    (if x1 = 0 then
      f_X11_market_j19 a1 a2 w
    else
      (f_X11_in a2.toInt64 (0 : Int64) (9 : Int64)).bind fun x13 => 
        (if x13 = 0 then
          f_X11_market_j19 a1 a2 w
        else
          if inb (3 : Int32) 608 then 
            (lt (pL_w w (3 : Int32).toNatClampNeg) fun n30 => 
            ((f_X11_begins w (0 : Int32) a1 a2).bind fun x35 => 
            (some (n30, x35))))
          else none))
theorem cwd_X11_market : yX11_market.cls ≠ "java/lang/invoke/MethodHandle" ∧ yX11_market.cls ≠ "java/lang/invoke/VarHandle" ∧ (parseMethodDescriptor yX11_market.desc).map (fun d => d.parameters.length) = some 2 := by decide +kernel
set_option maxHeartbeats 4000000 in
set_option maxRecDepth 100000 in
theorem c_X11_market {Γ : GC} (hJ : GJ Γ) (hB : ∀ i, 66 ≤ i → i < 77 → act Γ i) (l : Launch) (σ : GSt) (w : LSt) (a1 : Int32) (a2 : Int32) (x : Int32 × LSt) (hk : f_X11_market w a1 a2 = some x) : Mt Γ l yX11_market cX11_market 4 (some .int) 2 45 [.ref (ad Γ 66), .int a1, .int a2] (gL σ w) (some (.int x.1)) (gL σ x.2) := by
  refine y_enter (by decide) hJ (Nat.le_of_ble_eq_true rfl) [(0, .ref (ad Γ 66)), (1, .int a1), (2, .int a2)] rfl ?_
  intro p e s' m args below meth c' hC hr hlk
  have J19 : ∀ (gw : LSt), f_X11_market_j19 a1 a2 gw = some x → Y Γ (GA Γ) p l e ({ frames := 2, cells := 0, slots := 0, locals := 45 } : Room) s' m args below meth c' 0 0 (MQ below (Qg Γ (some (.int x.1)) (gL σ x.2)) args s' 0 0 (GA Γ)) 4 (gL σ gw) 19 [(0, .ref (ad Γ 66)), (1, .int a1), (2, .int a2)] [] := by
    intro gw hk
    refine y_aload_n hC dX11_market_19 0 rfl 20 rfl ?_
    obtain ⟨x20, hx20, hk⟩ := ob_bind hk
    refine y_callV hC 66 (hB 66 (by decide) (by decide)) (cl_L (u := gw) rfl) rfl (c_X11_bad hJ hB l σ gw x20 hx20) rfl ⟨w4_186, w1_13, cwd_X11_bad, by decide, by decide⟩ w4_183 w4_185 ws3_15 rfl rfl (Nat.le_of_ble_eq_true rfl) (by decide) dX11_market_20 23 rfl (gL σ x20.2) rfl [.int x20.1] rfl ?_
    have e := Option.some.inj hk
    exact y_iret hC hr hlk (by rw [← e]) (by first | rfl | rw [← e]) dX11_market_23
  refine y_iload_n hC dX11_market_0 1 rfl 1 rfl ?_
  obtain ⟨x1, hx1, hk⟩ := ob_bind hk
  refine y_callS hC (c_X11_isPrice hJ l (gL σ w) a1 x1 hx1) rfl ⟨w4_177, w1_13, cwd_X11_isPrice, by decide, by decide⟩ w4_175 w4_176 rfl rfl (Nat.le_of_ble_eq_true rfl) (by decide) dX11_market_1 4 rfl (gL σ w) rfl [.int x1] rfl ?_
  refine y_if_eq hC dX11_market_4 19 (by decide) 7 rfl (fun h4 => ?_) (fun h4 => ?_)
  · have hk := ob_pos h4 hk
    refine y_sub [0, 1, 2] rfl ?_
    exact J19 w hk
  · have hk := ob_neg h4 hk
    refine y_iload_n hC dX11_market_7 2 rfl 8 rfl ?_
    refine y_i2l hC dX11_market_8 9 rfl ?_
    refine y_lconst hC dX11_market_9 (v := (0 : Int64)) (by decide) 10 rfl ?_
    refine y_ldc2 hC (v := (9 : Int64)) w4_182 dX11_market_10 13 rfl ?_
    obtain ⟨x13, hx13, hk⟩ := ob_bind hk
    refine y_callS hC (c_X11_in hJ l (gL σ w) a2.toInt64 (0 : Int64) (9 : Int64) x13 hx13) rfl ⟨w4_181, w1_13, cwd_X11_in, by decide, by decide⟩ w4_179 w4_180 rfl rfl (Nat.le_of_ble_eq_true rfl) (by decide) dX11_market_13 16 rfl (gL σ w) rfl [.int x13] rfl ?_
    refine y_if_ne hC dX11_market_16 24 (by decide) 19 rfl (fun h16 => ?_) (fun h16 => ?_)
    · have hk := ob_neg h16 hk
      refine y_aload_n hC dX11_market_24 0 rfl 25 rfl ?_
      refine y_get hC 66 (hB 66 (by decide) (by decide)) (cl_L (u := w) rfl) rfl inU11 0 (by decide) w4_98 rfl dX11_market_25 28 rfl ?_
      refine y_iconst hC dX11_market_28 (v := (3 : Int32)) (by decide) 29 rfl ?_
      obtain ⟨h29, hk⟩ := ob_if hk
      refine y_iald hC 67 (hB 67 (by decide) (by decide)) (cl_L_w (u := w) rfl) h29 dX11_market_29 30 rfl ?_
      obtain ⟨n30, en30, hk⟩ := ob_lt hk
      refine y_topi en30 ?_
      refine y_istore_n hC dX11_market_30 (by decide) [(3, .int n30), (0, .ref (ad Γ 66)), (1, .int a1), (2, .int a2)] rfl 31 rfl ?_
      refine y_aload_n hC dX11_market_31 1 rfl 32 rfl ?_
      refine y_iconst hC dX11_market_32 (v := (0 : Int32)) (by decide) 33 rfl ?_
      refine y_iload_n hC dX11_market_33 2 rfl 34 rfl ?_
      refine y_iload_n hC dX11_market_34 3 rfl 35 rfl ?_
      obtain ⟨x35, hx35, hk⟩ := ob_bind hk
      refine y_callV hC 66 (hB 66 (by decide) (by decide)) (cl_L (u := w) rfl) rfl (c_X11_begins hJ hB l σ w (0 : Int32) a1 a2 x35 hx35) rfl ⟨w4_97, w1_13, cwd_X11_begins, by decide, by decide⟩ w4_94 w4_96 ws3_14 rfl rfl (Nat.le_of_ble_eq_true rfl) (by decide) dX11_market_35 38 rfl (gL σ x35) rfl [] rfl ?_
      refine y_iload_n hC dX11_market_38 0 rfl 39 rfl ?_
      have e := Option.some.inj hk
      exact y_iret hC hr hlk (by rw [← e]) (by first | rfl | rw [← e]) dX11_market_39
    · have hk := ob_pos h16 hk
      refine y_sub [0, 1, 2] rfl ?_
      exact J19 w hk
def f_X11_becomes (w : LSt) (a1 : Int32) (a2 : Int32) : Option (Int32 × LSt) :=
  if inb a1 608 then 
    (lt (pL_w w a1.toNatClampNeg) fun n6 => 
    (if inb a1 608 then 
    (lt (sL_w w (upd (pL_w w) a1.toNatClampNeg a2)) fun g13 => 
    (some (n6, g13)))
  else none))
  else none
theorem cwd_X11_becomes : yX11_becomes.cls ≠ "java/lang/invoke/MethodHandle" ∧ yX11_becomes.cls ≠ "java/lang/invoke/VarHandle" ∧ (parseMethodDescriptor yX11_becomes.desc).map (fun d => d.parameters.length) = some 2 := by decide +kernel
set_option maxHeartbeats 4000000 in
set_option maxRecDepth 100000 in
theorem c_X11_becomes {Γ : GC} (hJ : GJ Γ) (hB : ∀ i, 66 ≤ i → i < 77 → act Γ i) (l : Launch) (σ : GSt) (w : LSt) (a1 : Int32) (a2 : Int32) (x : Int32 × LSt) (hk : f_X11_becomes w a1 a2 = some x) : Mt Γ l yX11_becomes cX11_becomes 4 (some .int) 0 0 [.ref (ad Γ 66), .int a1, .int a2] (gL σ w) (some (.int x.1)) (gL σ x.2) := by
  refine y_enter (by decide) hJ (Nat.le_of_ble_eq_true rfl) [(0, .ref (ad Γ 66)), (1, .int a1), (2, .int a2)] rfl ?_
  intro p e s' m args below meth c' hC hr hlk
  refine y_aload_n hC dX11_becomes_0 0 rfl 1 rfl ?_
  refine y_get hC 66 (hB 66 (by decide) (by decide)) (cl_L (u := w) rfl) rfl inU11 0 (by decide) w4_98 rfl dX11_becomes_1 4 rfl ?_
  refine y_iload_n hC dX11_becomes_4 1 rfl 5 rfl ?_
  obtain ⟨h5, hk⟩ := ob_if hk
  refine y_iald hC 67 (hB 67 (by decide) (by decide)) (cl_L_w (u := w) rfl) h5 dX11_becomes_5 6 rfl ?_
  obtain ⟨n6, en6, hk⟩ := ob_lt hk
  refine y_topi en6 ?_
  refine y_istore_n hC dX11_becomes_6 (by decide) [(3, .int n6), (0, .ref (ad Γ 66)), (1, .int a1), (2, .int a2)] rfl 7 rfl ?_
  refine y_aload_n hC dX11_becomes_7 1 rfl 8 rfl ?_
  refine y_get hC 66 (hB 66 (by decide) (by decide)) (cl_L (u := w) rfl) rfl inU11 0 (by decide) w4_98 rfl dX11_becomes_8 11 rfl ?_
  refine y_iload_n hC dX11_becomes_11 2 rfl 12 rfl ?_
  refine y_iload_n hC dX11_becomes_12 3 rfl 13 rfl ?_
  obtain ⟨h13, hk⟩ := ob_if hk
  obtain ⟨g13, eg13, hk⟩ := ob_lt hk
  refine y_iast hC 67 (hB 67 (by decide) (by decide)) (cl_L_w (u := w) rfl) h13 (gL σ g13) (by subst eg13; exact (cu_L_w (u := w) (v := (upd (pL_w w) a1.toNatClampNeg a2)) rfl rfl)) dX11_becomes_13 14 rfl ?_
  refine y_iload_n hC dX11_becomes_14 0 rfl 15 rfl ?_
  have e := Option.some.inj hk
  exact y_iret hC hr hlk (by rw [← e]) (by first | rfl | rw [← e]) dX11_becomes_15
def f_X11_bring (w : LSt) (a1 : Int32) : Option (Int32 × LSt) :=
  (f_X11_isPrice a1).bind fun x1 => 
    (if x1 = 0 then
      (f_X11_bad w).bind fun x17 => 
        (some (x17.1, x17.2))
    else
      (f_X11_becomes w (0 : Int32) a1).bind fun x10 => 
        (some (x10.1, x10.2)))
theorem cwd_X11_bring : yX11_bring.cls ≠ "java/lang/invoke/MethodHandle" ∧ yX11_bring.cls ≠ "java/lang/invoke/VarHandle" ∧ (parseMethodDescriptor yX11_bring.desc).map (fun d => d.parameters.length) = some 1 := by decide +kernel
set_option maxHeartbeats 4000000 in
set_option maxRecDepth 100000 in
theorem c_X11_bring {Γ : GC} (hJ : GJ Γ) (hB : ∀ i, 66 ≤ i → i < 77 → act Γ i) (l : Launch) (σ : GSt) (w : LSt) (a1 : Int32) (x : Int32 × LSt) (hk : f_X11_bring w a1 = some x) : Mt Γ l yX11_bring cX11_bring 2 (some .int) 2 45 [.ref (ad Γ 66), .int a1] (gL σ w) (some (.int x.1)) (gL σ x.2) := by
  refine y_enter (by decide) hJ (Nat.le_of_ble_eq_true rfl) [(0, .ref (ad Γ 66)), (1, .int a1)] rfl ?_
  intro p e s' m args below meth c' hC hr hlk
  refine y_iload_n hC dX11_bring_0 1 rfl 1 rfl ?_
  obtain ⟨x1, hx1, hk⟩ := ob_bind hk
  refine y_callS hC (c_X11_isPrice hJ l (gL σ w) a1 x1 hx1) rfl ⟨w4_177, w1_13, cwd_X11_isPrice, by decide, by decide⟩ w4_175 w4_176 rfl rfl (Nat.le_of_ble_eq_true rfl) (by decide) dX11_bring_1 4 rfl (gL σ w) rfl [.int x1] rfl ?_
  refine y_if_eq hC dX11_bring_4 16 (by decide) 7 rfl (fun h4 => ?_) (fun h4 => ?_)
  · have hk := ob_pos h4 hk
    refine y_aload_n hC dX11_bring_16 0 rfl 17 rfl ?_
    obtain ⟨x17, hx17, hk⟩ := ob_bind hk
    refine y_callV hC 66 (hB 66 (by decide) (by decide)) (cl_L (u := w) rfl) rfl (c_X11_bad hJ hB l σ w x17 hx17) rfl ⟨w4_186, w1_13, cwd_X11_bad, by decide, by decide⟩ w4_183 w4_185 ws3_15 rfl rfl (Nat.le_of_ble_eq_true rfl) (by decide) dX11_bring_17 20 rfl (gL σ x17.2) rfl [.int x17.1] rfl ?_
    have e := Option.some.inj hk
    exact y_iret hC hr hlk (by rw [← e]) (by first | rfl | rw [← e]) dX11_bring_20
  · have hk := ob_neg h4 hk
    refine y_aload_n hC dX11_bring_7 0 rfl 8 rfl ?_
    refine y_iconst hC dX11_bring_8 (v := (0 : Int32)) (by decide) 9 rfl ?_
    refine y_iload_n hC dX11_bring_9 1 rfl 10 rfl ?_
    obtain ⟨x10, hx10, hk⟩ := ob_bind hk
    refine y_callV hC 66 (hB 66 (by decide) (by decide)) (cl_L (u := w) rfl) rfl (c_X11_becomes hJ hB l σ w (0 : Int32) a1 x10 hx10) rfl ⟨w4_194, w1_13, cwd_X11_becomes, by decide, by decide⟩ w4_191 w4_193 ws4_0 rfl rfl (Nat.le_of_ble_eq_true rfl) (by decide) dX11_bring_10 13 rfl (gL σ x10.2) rfl [.int x10.1] rfl ?_
    refine y_goto hC dX11_bring_13 20 (by decide) ?_
    have e := Option.some.inj hk
    exact y_iret hC hr hlk (by rw [← e]) (by first | rfl | rw [← e]) dX11_bring_20
def f_X11_isHour (a1 : Int32) : Option (Int32) :=
  (f_X11_in a1.toInt64 (0 : Int64) (9 : Int64)).bind fun x6 => 
    (if x6 = 0 ∨ x6 = 1 then 
    (some x6)
  else none)
theorem cwd_X11_isHour : yX11_isHour.cls ≠ "java/lang/invoke/MethodHandle" ∧ yX11_isHour.cls ≠ "java/lang/invoke/VarHandle" ∧ (parseMethodDescriptor yX11_isHour.desc).map (fun d => d.parameters.length) = some 1 := by decide +kernel
set_option maxHeartbeats 4000000 in
set_option maxRecDepth 100000 in
theorem c_X11_isHour {Γ : GC} (hJ : GJ Γ) (l : Launch) (σ : GSt) (a1 : Int32) (x : Int32) (hk : f_X11_isHour a1 = some x) : Mt Γ l yX11_isHour cX11_isHour 1 (some .boolean) 1 25 [.int a1] σ (some (.int x)) σ := by
  refine y_enter (by decide) hJ (Nat.le_of_ble_eq_true rfl) [(0, .int a1)] rfl ?_
  intro p e s' m args below meth c' hC hr hlk
  refine y_iload_n hC dX11_isHour_0 0 rfl 1 rfl ?_
  refine y_i2l hC dX11_isHour_1 2 rfl ?_
  refine y_lconst hC dX11_isHour_2 (v := (0 : Int64)) (by decide) 3 rfl ?_
  refine y_ldc2 hC (v := (9 : Int64)) w4_182 dX11_isHour_3 6 rfl ?_
  obtain ⟨x6, hx6, hk⟩ := ob_bind hk
  refine y_callS hC (c_X11_in hJ l σ a1.toInt64 (0 : Int64) (9 : Int64) x6 hx6) rfl ⟨w4_181, w1_13, cwd_X11_in, by decide, by decide⟩ w4_179 w4_180 rfl rfl (Nat.le_of_ble_eq_true rfl) (by decide) dX11_isHour_6 9 rfl σ rfl [.int x6] rfl ?_
  obtain ⟨h9, hk⟩ := ob_if hk
  have e := Option.some.inj hk
  exact y_zret hC hr hlk (nz_bool h9) (by rw [← e]) (by first | rfl | rw [← e]) dX11_isHour_9
def f_X11_pricesFrom_s3 (a1 : Int32) (a2 : Int32) (a3 : Int32) (K3 : (Int32 × LSt) → Option (LSt)) (q3 : Int32 × LSt) : Option (LSt) :=
  if (10 : Int32) ≤ q3.1 then
    some q3.2
  else
    if inb ((a1 + (8 : Int32)) + q3.1) 608 then 
      (lt (sL_w q3.2 (upd (pL_w q3.2) ((a1 + (8 : Int32)) + q3.1).toNatClampNeg a3)) fun g22 => 
      (K3 ((q3.1 + (1 : Int32)), g22)))
    else none
def f_X11_pricesFrom (w : LSt) (a1 : Int32) (a2 : Int32) (a3 : Int32) : Option (LSt) :=
  lp (f_X11_pricesFrom_s3 a1 a2 a3) 1000 (a2, w)
theorem cwd_X11_pricesFrom : yX11_pricesFrom.cls ≠ "java/lang/invoke/MethodHandle" ∧ yX11_pricesFrom.cls ≠ "java/lang/invoke/VarHandle" ∧ (parseMethodDescriptor yX11_pricesFrom.desc).map (fun d => d.parameters.length) = some 3 := by decide +kernel
set_option maxHeartbeats 4000000 in
set_option maxRecDepth 100000 in
theorem c_X11_pricesFrom {Γ : GC} (hJ : GJ Γ) (hB : ∀ i, 66 ≤ i → i < 77 → act Γ i) (l : Launch) (σ : GSt) (w : LSt) (a1 : Int32) (a2 : Int32) (a3 : Int32) (x : LSt) (hk : f_X11_pricesFrom w a1 a2 a3 = some x) : Mt Γ l yX11_pricesFrom cX11_pricesFrom 5 none 0 0 [.ref (ad Γ 66), .int a1, .int a2, .int a3] (gL σ w) none (gL σ x) := by
  refine y_enter (by decide) hJ (Nat.le_of_ble_eq_true rfl) [(0, .ref (ad Γ 66)), (1, .int a1), (2, .int a2), (3, .int a3)] rfl ?_
  intro p e s' m args below meth c' hC hr hlk
  have L3 : ∀ (n3 : Nat) (q3 : Int32 × LSt), lp (f_X11_pricesFrom_s3 a1 a2 a3) n3 q3 = some x → Y Γ (GA Γ) p l e ({ frames := 0, cells := 0, slots := 0, locals := 0 } : Room) s' m args below meth c' 0 0 (MQ below (Qg Γ none (gL σ x)) args s' 0 0 (GA Γ)) 5 (gL σ q3.2) 3 [(0, .ref (ad Γ 66)), (1, .int a1), (2, .int a2), (3, .int a3), (4, .int q3.1)] [] := by
    intro n3
    induction n3 with
    | zero => intro q3 hk; exact (lp_zero hk).elim
    | succ n3 ih3 =>
      intro q3 hk
      have hk : f_X11_pricesFrom_s3 a1 a2 a3 (lp (f_X11_pricesFrom_s3 a1 a2 a3) n3) q3 = some x := (lp_succ _ _ _).symm.trans hk
      refine y_iload hC dX11_pricesFrom_3 4 rfl 5 rfl ?_
      refine y_bipush hC dX11_pricesFrom_5 (v := (10 : Int32)) (by decide) 7 rfl ?_
      refine y_icmp_ge hC dX11_pricesFrom_7 29 (by decide) 10 rfl (fun h7 => ?_) (fun h7 => ?_)
      · have hk := ob_pos h7 hk
        have e := Option.some.inj hk
        exact y_vret hC hr hlk (by rw [← e]) dX11_pricesFrom_29
      · have hk := ob_neg h7 hk
        refine y_aload_n hC dX11_pricesFrom_10 0 rfl 11 rfl ?_
        refine y_get hC 66 (hB 66 (by decide) (by decide)) (cl_L (u := q3.2) rfl) rfl inU11 0 (by decide) w4_98 rfl dX11_pricesFrom_11 14 rfl ?_
        refine y_iload_n hC dX11_pricesFrom_14 1 rfl 15 rfl ?_
        refine y_bipush hC dX11_pricesFrom_15 (v := (8 : Int32)) (by decide) 17 rfl ?_
        refine y_iadd hC dX11_pricesFrom_17 18 rfl ?_
        refine y_iload hC dX11_pricesFrom_18 4 rfl 20 rfl ?_
        refine y_iadd hC dX11_pricesFrom_20 21 rfl ?_
        refine y_iload_n hC dX11_pricesFrom_21 3 rfl 22 rfl ?_
        obtain ⟨h22, hk⟩ := ob_if hk
        obtain ⟨g22, eg22, hk⟩ := ob_lt hk
        refine y_iast hC 67 (hB 67 (by decide) (by decide)) (cl_L_w (u := q3.2) rfl) h22 (gL σ g22) (by subst eg22; exact (cu_L_w (u := q3.2) (v := (upd (pL_w q3.2) ((a1 + (8 : Int32)) + q3.1).toNatClampNeg a3)) rfl rfl)) dX11_pricesFrom_22 23 rfl ?_
        refine y_iinc hC dX11_pricesFrom_23 4 rfl (v := (q3.1 + (1 : Int32))) rfl (by decide) [(4, .int (q3.1 + (1 : Int32))), (0, .ref (ad Γ 66)), (1, .int a1), (2, .int a2), (3, .int a3)] rfl 26 rfl ?_
        refine y_goto hC dX11_pricesFrom_26 3 (by decide) ?_
        refine y_sub [1, 2, 3, 4, 0] rfl ?_
        exact ih3 ((q3.1 + (1 : Int32)), g22) hk
  refine y_iload_n hC dX11_pricesFrom_0 2 rfl 1 rfl ?_
  refine y_istore hC dX11_pricesFrom_1 (by decide) [(4, .int a2), (0, .ref (ad Γ 66)), (1, .int a1), (2, .int a2), (3, .int a3)] rfl 3 rfl ?_
  refine y_sub [1, 2, 3, 4, 0] rfl ?_
  exact L3 1000 (a2, w) hk
def f_X11_price_j14 (a1 : Int32) (a2 : Int32) (gw : LSt) : Option (Int32 × LSt) :=
  (f_X11_bad gw).bind fun x15 => 
    (some (x15.1, x15.2))
def f_X11_price (w : LSt) (a1 : Int32) (a2 : Int32) : Option (Int32 × LSt) :=
  (f_X11_isHour a1).bind fun x1 => 
    (if x1 = 0 then
      f_X11_price_j14 a1 a2 w
    else
      (f_X11_isPrice a2).bind fun x8 => 
        (if x8 = 0 then
          f_X11_price_j14 a1 a2 w
        else
          if inb ((8 : Int32) + a1) 608 then 
            (lt (pL_w w ((8 : Int32) + a1).toNatClampNeg) fun n28 => 
            ((f_X11_pricesFrom w (0 : Int32) a1 a2).bind fun x33 => 
            (some (n28, x33))))
          else none))
theorem cwd_X11_price : yX11_price.cls ≠ "java/lang/invoke/MethodHandle" ∧ yX11_price.cls ≠ "java/lang/invoke/VarHandle" ∧ (parseMethodDescriptor yX11_price.desc).map (fun d => d.parameters.length) = some 2 := by decide +kernel
set_option maxHeartbeats 4000000 in
set_option maxRecDepth 100000 in
theorem c_X11_price {Γ : GC} (hJ : GJ Γ) (hB : ∀ i, 66 ≤ i → i < 77 → act Γ i) (l : Launch) (σ : GSt) (w : LSt) (a1 : Int32) (a2 : Int32) (x : Int32 × LSt) (hk : f_X11_price w a1 a2 = some x) : Mt Γ l yX11_price cX11_price 4 (some .int) 2 45 [.ref (ad Γ 66), .int a1, .int a2] (gL σ w) (some (.int x.1)) (gL σ x.2) := by
  refine y_enter (by decide) hJ (Nat.le_of_ble_eq_true rfl) [(0, .ref (ad Γ 66)), (1, .int a1), (2, .int a2)] rfl ?_
  intro p e s' m args below meth c' hC hr hlk
  have J14 : ∀ (gw : LSt), f_X11_price_j14 a1 a2 gw = some x → Y Γ (GA Γ) p l e ({ frames := 2, cells := 0, slots := 0, locals := 45 } : Room) s' m args below meth c' 0 0 (MQ below (Qg Γ (some (.int x.1)) (gL σ x.2)) args s' 0 0 (GA Γ)) 4 (gL σ gw) 14 [(0, .ref (ad Γ 66)), (1, .int a1), (2, .int a2)] [] := by
    intro gw hk
    refine y_aload_n hC dX11_price_14 0 rfl 15 rfl ?_
    obtain ⟨x15, hx15, hk⟩ := ob_bind hk
    refine y_callV hC 66 (hB 66 (by decide) (by decide)) (cl_L (u := gw) rfl) rfl (c_X11_bad hJ hB l σ gw x15 hx15) rfl ⟨w4_186, w1_13, cwd_X11_bad, by decide, by decide⟩ w4_183 w4_185 ws3_15 rfl rfl (Nat.le_of_ble_eq_true rfl) (by decide) dX11_price_15 18 rfl (gL σ x15.2) rfl [.int x15.1] rfl ?_
    have e := Option.some.inj hk
    exact y_iret hC hr hlk (by rw [← e]) (by first | rfl | rw [← e]) dX11_price_18
  refine y_iload_n hC dX11_price_0 1 rfl 1 rfl ?_
  obtain ⟨x1, hx1, hk⟩ := ob_bind hk
  refine y_callS hC (c_X11_isHour hJ l (gL σ w) a1 x1 hx1) rfl ⟨w4_201, w1_13, cwd_X11_isHour, by decide, by decide⟩ w4_199 w4_200 rfl rfl (Nat.le_of_ble_eq_true rfl) (by decide) dX11_price_1 4 rfl (gL σ w) rfl [.int x1] rfl ?_
  refine y_if_eq hC dX11_price_4 14 (by decide) 7 rfl (fun h4 => ?_) (fun h4 => ?_)
  · have hk := ob_pos h4 hk
    refine y_sub [0, 1, 2] rfl ?_
    exact J14 w hk
  · have hk := ob_neg h4 hk
    refine y_iload_n hC dX11_price_7 2 rfl 8 rfl ?_
    obtain ⟨x8, hx8, hk⟩ := ob_bind hk
    refine y_callS hC (c_X11_isPrice hJ l (gL σ w) a2 x8 hx8) rfl ⟨w4_177, w1_13, cwd_X11_isPrice, by decide, by decide⟩ w4_175 w4_176 rfl rfl (Nat.le_of_ble_eq_true rfl) (by decide) dX11_price_8 11 rfl (gL σ w) rfl [.int x8] rfl ?_
    refine y_if_ne hC dX11_price_11 19 (by decide) 14 rfl (fun h11 => ?_) (fun h11 => ?_)
    · have hk := ob_neg h11 hk
      refine y_aload_n hC dX11_price_19 0 rfl 20 rfl ?_
      refine y_get hC 66 (hB 66 (by decide) (by decide)) (cl_L (u := w) rfl) rfl inU11 0 (by decide) w4_98 rfl dX11_price_20 23 rfl ?_
      refine y_bipush hC dX11_price_23 (v := (8 : Int32)) (by decide) 25 rfl ?_
      refine y_iload_n hC dX11_price_25 1 rfl 26 rfl ?_
      refine y_iadd hC dX11_price_26 27 rfl ?_
      obtain ⟨h27, hk⟩ := ob_if hk
      refine y_iald hC 67 (hB 67 (by decide) (by decide)) (cl_L_w (u := w) rfl) h27 dX11_price_27 28 rfl ?_
      obtain ⟨n28, en28, hk⟩ := ob_lt hk
      refine y_topi en28 ?_
      refine y_istore_n hC dX11_price_28 (by decide) [(3, .int n28), (0, .ref (ad Γ 66)), (1, .int a1), (2, .int a2)] rfl 29 rfl ?_
      refine y_aload_n hC dX11_price_29 1 rfl 30 rfl ?_
      refine y_iconst hC dX11_price_30 (v := (0 : Int32)) (by decide) 31 rfl ?_
      refine y_iload_n hC dX11_price_31 2 rfl 32 rfl ?_
      refine y_iload_n hC dX11_price_32 3 rfl 33 rfl ?_
      obtain ⟨x33, hx33, hk⟩ := ob_bind hk
      refine y_callV hC 66 (hB 66 (by decide) (by decide)) (cl_L (u := w) rfl) rfl (c_X11_pricesFrom hJ hB l σ w (0 : Int32) a1 a2 x33 hx33) rfl ⟨w4_205, w1_13, cwd_X11_pricesFrom, by decide, by decide⟩ w4_202 w4_204 ws4_1 rfl rfl (Nat.le_of_ble_eq_true rfl) (by decide) dX11_price_33 36 rfl (gL σ x33) rfl [] rfl ?_
      refine y_iload_n hC dX11_price_36 0 rfl 37 rfl ?_
      have e := Option.some.inj hk
      exact y_iret hC hr hlk (by rw [← e]) (by first | rfl | rw [← e]) dX11_price_37
    · have hk := ob_pos h11 hk
      refine y_sub [0, 1, 2] rfl ?_
      exact J14 w hk
def f_X11_theirs_j26 (a1 : Int32) (a2 : Int32) (gw : LSt) : Option (Int32 × LSt) :=
  (f_X11_bad gw).bind fun x27 => 
    (some (x27.1, x27.2))
def f_X11_theirs (w : LSt) (a1 : Int32) (a2 : Int32) : Option (Int32 × LSt) :=
  (f_X11_isHour a1).bind fun x1 => 
    (if x1 = 0 then
      f_X11_theirs_j26 a1 a2 w
    else
      (f_X11_isPrice a2).bind fun x8 => 
        (if x8 = 0 then
          f_X11_theirs_j26 a1 a2 w
        else
          (f_X11_becomes w ((18 : Int32) + a1) a2).bind fun x20 => 
            (some (x20.1, x20.2))))
theorem cwd_X11_theirs : yX11_theirs.cls ≠ "java/lang/invoke/MethodHandle" ∧ yX11_theirs.cls ≠ "java/lang/invoke/VarHandle" ∧ (parseMethodDescriptor yX11_theirs.desc).map (fun d => d.parameters.length) = some 2 := by decide +kernel
set_option maxHeartbeats 4000000 in
set_option maxRecDepth 100000 in
theorem c_X11_theirs {Γ : GC} (hJ : GJ Γ) (hB : ∀ i, 66 ≤ i → i < 77 → act Γ i) (l : Launch) (σ : GSt) (w : LSt) (a1 : Int32) (a2 : Int32) (x : Int32 × LSt) (hk : f_X11_theirs w a1 a2 = some x) : Mt Γ l yX11_theirs cX11_theirs 3 (some .int) 2 45 [.ref (ad Γ 66), .int a1, .int a2] (gL σ w) (some (.int x.1)) (gL σ x.2) := by
  refine y_enter (by decide) hJ (Nat.le_of_ble_eq_true rfl) [(0, .ref (ad Γ 66)), (1, .int a1), (2, .int a2)] rfl ?_
  intro p e s' m args below meth c' hC hr hlk
  have J26 : ∀ (gw : LSt), f_X11_theirs_j26 a1 a2 gw = some x → Y Γ (GA Γ) p l e ({ frames := 2, cells := 0, slots := 0, locals := 45 } : Room) s' m args below meth c' 0 0 (MQ below (Qg Γ (some (.int x.1)) (gL σ x.2)) args s' 0 0 (GA Γ)) 3 (gL σ gw) 26 [(0, .ref (ad Γ 66)), (1, .int a1), (2, .int a2)] [] := by
    intro gw hk
    refine y_aload_n hC dX11_theirs_26 0 rfl 27 rfl ?_
    obtain ⟨x27, hx27, hk⟩ := ob_bind hk
    refine y_callV hC 66 (hB 66 (by decide) (by decide)) (cl_L (u := gw) rfl) rfl (c_X11_bad hJ hB l σ gw x27 hx27) rfl ⟨w4_186, w1_13, cwd_X11_bad, by decide, by decide⟩ w4_183 w4_185 ws3_15 rfl rfl (Nat.le_of_ble_eq_true rfl) (by decide) dX11_theirs_27 30 rfl (gL σ x27.2) rfl [.int x27.1] rfl ?_
    have e := Option.some.inj hk
    exact y_iret hC hr hlk (by rw [← e]) (by first | rfl | rw [← e]) dX11_theirs_30
  refine y_iload_n hC dX11_theirs_0 1 rfl 1 rfl ?_
  obtain ⟨x1, hx1, hk⟩ := ob_bind hk
  refine y_callS hC (c_X11_isHour hJ l (gL σ w) a1 x1 hx1) rfl ⟨w4_201, w1_13, cwd_X11_isHour, by decide, by decide⟩ w4_199 w4_200 rfl rfl (Nat.le_of_ble_eq_true rfl) (by decide) dX11_theirs_1 4 rfl (gL σ w) rfl [.int x1] rfl ?_
  refine y_if_eq hC dX11_theirs_4 26 (by decide) 7 rfl (fun h4 => ?_) (fun h4 => ?_)
  · have hk := ob_pos h4 hk
    refine y_sub [0, 1, 2] rfl ?_
    exact J26 w hk
  · have hk := ob_neg h4 hk
    refine y_iload_n hC dX11_theirs_7 2 rfl 8 rfl ?_
    obtain ⟨x8, hx8, hk⟩ := ob_bind hk
    refine y_callS hC (c_X11_isPrice hJ l (gL σ w) a2 x8 hx8) rfl ⟨w4_177, w1_13, cwd_X11_isPrice, by decide, by decide⟩ w4_175 w4_176 rfl rfl (Nat.le_of_ble_eq_true rfl) (by decide) dX11_theirs_8 11 rfl (gL σ w) rfl [.int x8] rfl ?_
    refine y_if_eq hC dX11_theirs_11 26 (by decide) 14 rfl (fun h11 => ?_) (fun h11 => ?_)
    · have hk := ob_pos h11 hk
      refine y_sub [0, 1, 2] rfl ?_
      exact J26 w hk
    · have hk := ob_neg h11 hk
      refine y_aload_n hC dX11_theirs_14 0 rfl 15 rfl ?_
      refine y_bipush hC dX11_theirs_15 (v := (18 : Int32)) (by decide) 17 rfl ?_
      refine y_iload_n hC dX11_theirs_17 1 rfl 18 rfl ?_
      refine y_iadd hC dX11_theirs_18 19 rfl ?_
      refine y_iload_n hC dX11_theirs_19 2 rfl 20 rfl ?_
      obtain ⟨x20, hx20, hk⟩ := ob_bind hk
      refine y_callV hC 66 (hB 66 (by decide) (by decide)) (cl_L (u := w) rfl) rfl (c_X11_becomes hJ hB l σ w ((18 : Int32) + a1) a2 x20 hx20) rfl ⟨w4_194, w1_13, cwd_X11_becomes, by decide, by decide⟩ w4_191 w4_193 ws4_0 rfl rfl (Nat.le_of_ble_eq_true rfl) (by decide) dX11_theirs_20 23 rfl (gL σ x20.2) rfl [.int x20.1] rfl ?_
      refine y_goto hC dX11_theirs_23 30 (by decide) ?_
      have e := Option.some.inj hk
      exact y_iret hC hr hlk (by rw [← e]) (by first | rfl | rw [← e]) dX11_theirs_30
def f_X11_rain (w : LSt) (a1 : Int32) : Option (Int32 × LSt) :=
  (f_X11_in a1.toInt64 (0 : Int64) (1023 : Int64)).bind fun x6 => 
    (if x6 = 0 then
      (f_X11_bad w).bind fun x22 => 
        (some (x22.1, x22.2))
    else
      (f_X11_becomes w (2 : Int32) a1).bind fun x15 => 
        (some (x15.1, x15.2)))
theorem cwd_X11_rain : yX11_rain.cls ≠ "java/lang/invoke/MethodHandle" ∧ yX11_rain.cls ≠ "java/lang/invoke/VarHandle" ∧ (parseMethodDescriptor yX11_rain.desc).map (fun d => d.parameters.length) = some 1 := by decide +kernel
set_option maxHeartbeats 4000000 in
set_option maxRecDepth 100000 in
theorem c_X11_rain {Γ : GC} (hJ : GJ Γ) (hB : ∀ i, 66 ≤ i → i < 77 → act Γ i) (l : Launch) (σ : GSt) (w : LSt) (a1 : Int32) (x : Int32 × LSt) (hk : f_X11_rain w a1 = some x) : Mt Γ l yX11_rain cX11_rain 2 (some .int) 1 25 [.ref (ad Γ 66), .int a1] (gL σ w) (some (.int x.1)) (gL σ x.2) := by
  refine y_enter (by decide) hJ (Nat.le_of_ble_eq_true rfl) [(0, .ref (ad Γ 66)), (1, .int a1)] rfl ?_
  intro p e s' m args below meth c' hC hr hlk
  refine y_iload_n hC dX11_rain_0 1 rfl 1 rfl ?_
  refine y_i2l hC dX11_rain_1 2 rfl ?_
  refine y_lconst hC dX11_rain_2 (v := (0 : Int64)) (by decide) 3 rfl ?_
  refine y_ldc2 hC (v := (1023 : Int64)) w4_214 dX11_rain_3 6 rfl ?_
  obtain ⟨x6, hx6, hk⟩ := ob_bind hk
  refine y_callS hC (c_X11_in hJ l (gL σ w) a1.toInt64 (0 : Int64) (1023 : Int64) x6 hx6) rfl ⟨w4_181, w1_13, cwd_X11_in, by decide, by decide⟩ w4_179 w4_180 rfl rfl (Nat.le_of_ble_eq_true rfl) (by decide) dX11_rain_6 9 rfl (gL σ w) rfl [.int x6] rfl ?_
  refine y_if_eq hC dX11_rain_9 21 (by decide) 12 rfl (fun h9 => ?_) (fun h9 => ?_)
  · have hk := ob_pos h9 hk
    refine y_aload_n hC dX11_rain_21 0 rfl 22 rfl ?_
    obtain ⟨x22, hx22, hk⟩ := ob_bind hk
    refine y_callV hC 66 (hB 66 (by decide) (by decide)) (cl_L (u := w) rfl) rfl (c_X11_bad hJ hB l σ w x22 hx22) rfl ⟨w4_186, w1_13, cwd_X11_bad, by decide, by decide⟩ w4_183 w4_185 ws3_15 rfl rfl (Nat.le_of_ble_eq_true rfl) (by decide) dX11_rain_22 25 rfl (gL σ x22.2) rfl [.int x22.1] rfl ?_
    have e := Option.some.inj hk
    exact y_iret hC hr hlk (by rw [← e]) (by first | rfl | rw [← e]) dX11_rain_25
  · have hk := ob_neg h9 hk
    refine y_aload_n hC dX11_rain_12 0 rfl 13 rfl ?_
    refine y_iconst hC dX11_rain_13 (v := (2 : Int32)) (by decide) 14 rfl ?_
    refine y_iload_n hC dX11_rain_14 1 rfl 15 rfl ?_
    obtain ⟨x15, hx15, hk⟩ := ob_bind hk
    refine y_callV hC 66 (hB 66 (by decide) (by decide)) (cl_L (u := w) rfl) rfl (c_X11_becomes hJ hB l σ w (2 : Int32) a1 x15 hx15) rfl ⟨w4_194, w1_13, cwd_X11_becomes, by decide, by decide⟩ w4_191 w4_193 ws4_0 rfl rfl (Nat.le_of_ble_eq_true rfl) (by decide) dX11_rain_15 18 rfl (gL σ x15.2) rfl [.int x15.1] rfl ?_
    refine y_goto hC dX11_rain_18 25 (by decide) ?_
    have e := Option.some.inj hk
    exact y_iret hC hr hlk (by rw [← e]) (by first | rfl | rw [← e]) dX11_rain_25
def f_X11_full (w : LSt) : Option (Int32 × LSt) :=
  if inb (2 : Int32) 3 then 
    (if inb (2 : Int32) 3 then 
    (lt (sL_refused w (upd (pL_refused w) (2 : Int32).toNatClampNeg ((pL_refused w (2 : Int32).toNatClampNeg) + (1 : Int32)))) fun g9 => 
    (some ((-4 : Int32), g9)))
  else none)
  else none
theorem cwd_X11_full : yX11_full.cls ≠ "java/lang/invoke/MethodHandle" ∧ yX11_full.cls ≠ "java/lang/invoke/VarHandle" ∧ (parseMethodDescriptor yX11_full.desc).map (fun d => d.parameters.length) = some 0 := by decide +kernel
set_option maxHeartbeats 4000000 in
set_option maxRecDepth 100000 in
theorem c_X11_full {Γ : GC} (hJ : GJ Γ) (hB : ∀ i, 66 ≤ i → i < 77 → act Γ i) (l : Launch) (σ : GSt) (w : LSt) (x : Int32 × LSt) (hk : f_X11_full w = some x) : Mt Γ l yX11_full cX11_full 1 (some .int) 0 0 [.ref (ad Γ 66)] (gL σ w) (some (.int x.1)) (gL σ x.2) := by
  refine y_enter (by decide) hJ (Nat.le_of_ble_eq_true rfl) [(0, .ref (ad Γ 66))] rfl ?_
  intro p e s' m args below meth c' hC hr hlk
  refine y_aload_n hC dX11_full_0 0 rfl 1 rfl ?_
  refine y_get hC 66 (hB 66 (by decide) (by decide)) (cl_L (u := w) rfl) rfl inU11 4 (by decide) w4_102 rfl dX11_full_1 4 rfl ?_
  refine y_iconst hC dX11_full_4 (v := (2 : Int32)) (by decide) 5 rfl ?_
  refine y_dup2 hC dX11_full_5 rfl rfl 6 rfl ?_
  obtain ⟨h6, hk⟩ := ob_if hk
  refine y_iald hC 70 (hB 70 (by decide) (by decide)) (cl_L_refused (u := w) rfl) h6 dX11_full_6 7 rfl ?_
  refine y_iconst hC dX11_full_7 (v := (1 : Int32)) (by decide) 8 rfl ?_
  refine y_iadd hC dX11_full_8 9 rfl ?_
  obtain ⟨h9, hk⟩ := ob_if hk
  obtain ⟨g9, eg9, hk⟩ := ob_lt hk
  refine y_iast hC 70 (hB 70 (by decide) (by decide)) (cl_L_refused (u := w) rfl) h9 (gL σ g9) (by subst eg9; exact (cu_L_refused (u := w) (v := (upd (pL_refused w) (2 : Int32).toNatClampNeg ((pL_refused w (2 : Int32).toNatClampNeg) + (1 : Int32)))) rfl rfl)) dX11_full_9 10 rfl ?_
  refine y_bipush hC dX11_full_10 (v := (-4 : Int32)) (by decide) 12 rfl ?_
  have e := Option.some.inj hk
  exact y_iret hC hr hlk (by rw [← e]) (by first | rfl | rw [← e]) dX11_full_12
def f_X11_adds (w : LSt) (a1 : Int32) (a2 : Int32) (a3 : Int32) (a4 : Int32) (a5 : Int32) : Option (Int32 × LSt) :=
  if inb (a1 + (3 : Int32)) 608 then 
    (lt (pL_w w (a1 + (3 : Int32)).toNatClampNeg) fun n8 => 
    (if inb ((a1 + (28 : Int32)) + n8) 608 then 
    (lt (sL_w w (upd (pL_w w) ((a1 + (28 : Int32)) + n8).toNatClampNeg a2)) fun g22 => 
    (if inb ((a1 + (36 : Int32)) + n8) 608 then 
    (lt (sL_w g22 (upd (pL_w g22) ((a1 + (36 : Int32)) + n8).toNatClampNeg a3)) fun g35 => 
    (if inb ((a1 + (44 : Int32)) + n8) 608 then 
    (lt (sL_w g35 (upd (pL_w g35) ((a1 + (44 : Int32)) + n8).toNatClampNeg a4)) fun g49 => 
    (if inb ((a1 + (52 : Int32)) + n8) 608 then 
    (lt (sL_w g49 (upd (pL_w g49) ((a1 + (52 : Int32)) + n8).toNatClampNeg a5)) fun g63 => 
    (if inb (a1 + (3 : Int32)) 608 then 
    (if inb (a1 + (3 : Int32)) 608 then 
    (lt (sL_w g63 (upd (pL_w g63) (a1 + (3 : Int32)).toNatClampNeg ((pL_w g63 (a1 + (3 : Int32)).toNatClampNeg) + (1 : Int32)))) fun g75 => 
    (if inb (a1 + (7 : Int32)) 608 then 
    (lt (sL_w g75 (upd (pL_w g75) (a1 + (7 : Int32)).toNatClampNeg (0 : Int32))) fun g85 => 
    (some (n8, g85)))
  else none))
  else none)
  else none))
  else none))
  else none))
  else none))
  else none))
  else none
theorem cwd_X11_adds : yX11_adds.cls ≠ "java/lang/invoke/MethodHandle" ∧ yX11_adds.cls ≠ "java/lang/invoke/VarHandle" ∧ (parseMethodDescriptor yX11_adds.desc).map (fun d => d.parameters.length) = some 5 := by decide +kernel
set_option maxHeartbeats 4000000 in
set_option maxRecDepth 100000 in
theorem c_X11_adds {Γ : GC} (hJ : GJ Γ) (hB : ∀ i, 66 ≤ i → i < 77 → act Γ i) (l : Launch) (σ : GSt) (w : LSt) (a1 : Int32) (a2 : Int32) (a3 : Int32) (a4 : Int32) (a5 : Int32) (x : Int32 × LSt) (hk : f_X11_adds w a1 a2 a3 a4 a5 = some x) : Mt Γ l yX11_adds cX11_adds 7 (some .int) 0 0 [.ref (ad Γ 66), .int a1, .int a2, .int a3, .int a4, .int a5] (gL σ w) (some (.int x.1)) (gL σ x.2) := by
  refine y_enter (by decide) hJ (Nat.le_of_ble_eq_true rfl) [(0, .ref (ad Γ 66)), (1, .int a1), (2, .int a2), (3, .int a3), (4, .int a4), (5, .int a5)] rfl ?_
  intro p e s' m args below meth c' hC hr hlk
  refine y_aload_n hC dX11_adds_0 0 rfl 1 rfl ?_
  refine y_get hC 66 (hB 66 (by decide) (by decide)) (cl_L (u := w) rfl) rfl inU11 0 (by decide) w4_98 rfl dX11_adds_1 4 rfl ?_
  refine y_iload_n hC dX11_adds_4 1 rfl 5 rfl ?_
  refine y_iconst hC dX11_adds_5 (v := (3 : Int32)) (by decide) 6 rfl ?_
  refine y_iadd hC dX11_adds_6 7 rfl ?_
  obtain ⟨h7, hk⟩ := ob_if hk
  refine y_iald hC 67 (hB 67 (by decide) (by decide)) (cl_L_w (u := w) rfl) h7 dX11_adds_7 8 rfl ?_
  obtain ⟨n8, en8, hk⟩ := ob_lt hk
  refine y_topi en8 ?_
  refine y_istore hC dX11_adds_8 (by decide) [(6, .int n8), (0, .ref (ad Γ 66)), (1, .int a1), (2, .int a2), (3, .int a3), (4, .int a4), (5, .int a5)] rfl 10 rfl ?_
  refine y_aload_n hC dX11_adds_10 1 rfl 11 rfl ?_
  refine y_get hC 66 (hB 66 (by decide) (by decide)) (cl_L (u := w) rfl) rfl inU11 0 (by decide) w4_98 rfl dX11_adds_11 14 rfl ?_
  refine y_iload_n hC dX11_adds_14 2 rfl 15 rfl ?_
  refine y_bipush hC dX11_adds_15 (v := (28 : Int32)) (by decide) 17 rfl ?_
  refine y_iadd hC dX11_adds_17 18 rfl ?_
  refine y_iload hC dX11_adds_18 0 rfl 20 rfl ?_
  refine y_iadd hC dX11_adds_20 21 rfl ?_
  refine y_iload_n hC dX11_adds_21 3 rfl 22 rfl ?_
  obtain ⟨h22, hk⟩ := ob_if hk
  obtain ⟨g22, eg22, hk⟩ := ob_lt hk
  refine y_iast hC 67 (hB 67 (by decide) (by decide)) (cl_L_w (u := w) rfl) h22 (gL σ g22) (by subst eg22; exact (cu_L_w (u := w) (v := (upd (pL_w w) ((a1 + (28 : Int32)) + n8).toNatClampNeg a2)) rfl rfl)) dX11_adds_22 23 rfl ?_
  refine y_aload_n hC dX11_adds_23 1 rfl 24 rfl ?_
  refine y_get hC 66 (hB 66 (by decide) (by decide)) (cl_L (u := g22) rfl) rfl inU11 0 (by decide) w4_98 rfl dX11_adds_24 27 rfl ?_
  refine y_iload_n hC dX11_adds_27 2 rfl 28 rfl ?_
  refine y_bipush hC dX11_adds_28 (v := (36 : Int32)) (by decide) 30 rfl ?_
  refine y_iadd hC dX11_adds_30 31 rfl ?_
  refine y_iload hC dX11_adds_31 0 rfl 33 rfl ?_
  refine y_iadd hC dX11_adds_33 34 rfl ?_
  refine y_iload_n hC dX11_adds_34 4 rfl 35 rfl ?_
  obtain ⟨h35, hk⟩ := ob_if hk
  obtain ⟨g35, eg35, hk⟩ := ob_lt hk
  refine y_iast hC 67 (hB 67 (by decide) (by decide)) (cl_L_w (u := g22) rfl) h35 (gL σ g35) (by subst eg35; exact (cu_L_w (u := g22) (v := (upd (pL_w g22) ((a1 + (36 : Int32)) + n8).toNatClampNeg a3)) rfl rfl)) dX11_adds_35 36 rfl ?_
  refine y_aload_n hC dX11_adds_36 1 rfl 37 rfl ?_
  refine y_get hC 66 (hB 66 (by decide) (by decide)) (cl_L (u := g35) rfl) rfl inU11 0 (by decide) w4_98 rfl dX11_adds_37 40 rfl ?_
  refine y_iload_n hC dX11_adds_40 2 rfl 41 rfl ?_
  refine y_bipush hC dX11_adds_41 (v := (44 : Int32)) (by decide) 43 rfl ?_
  refine y_iadd hC dX11_adds_43 44 rfl ?_
  refine y_iload hC dX11_adds_44 0 rfl 46 rfl ?_
  refine y_iadd hC dX11_adds_46 47 rfl ?_
  refine y_iload hC dX11_adds_47 5 rfl 49 rfl ?_
  obtain ⟨h49, hk⟩ := ob_if hk
  obtain ⟨g49, eg49, hk⟩ := ob_lt hk
  refine y_iast hC 67 (hB 67 (by decide) (by decide)) (cl_L_w (u := g35) rfl) h49 (gL σ g49) (by subst eg49; exact (cu_L_w (u := g35) (v := (upd (pL_w g35) ((a1 + (44 : Int32)) + n8).toNatClampNeg a4)) rfl rfl)) dX11_adds_49 50 rfl ?_
  refine y_aload_n hC dX11_adds_50 1 rfl 51 rfl ?_
  refine y_get hC 66 (hB 66 (by decide) (by decide)) (cl_L (u := g49) rfl) rfl inU11 0 (by decide) w4_98 rfl dX11_adds_51 54 rfl ?_
  refine y_iload_n hC dX11_adds_54 2 rfl 55 rfl ?_
  refine y_bipush hC dX11_adds_55 (v := (52 : Int32)) (by decide) 57 rfl ?_
  refine y_iadd hC dX11_adds_57 58 rfl ?_
  refine y_iload hC dX11_adds_58 0 rfl 60 rfl ?_
  refine y_iadd hC dX11_adds_60 61 rfl ?_
  refine y_iload hC dX11_adds_61 6 rfl 63 rfl ?_
  obtain ⟨h63, hk⟩ := ob_if hk
  obtain ⟨g63, eg63, hk⟩ := ob_lt hk
  refine y_iast hC 67 (hB 67 (by decide) (by decide)) (cl_L_w (u := g49) rfl) h63 (gL σ g63) (by subst eg63; exact (cu_L_w (u := g49) (v := (upd (pL_w g49) ((a1 + (52 : Int32)) + n8).toNatClampNeg a5)) rfl rfl)) dX11_adds_63 64 rfl ?_
  refine y_aload_n hC dX11_adds_64 1 rfl 65 rfl ?_
  refine y_get hC 66 (hB 66 (by decide) (by decide)) (cl_L (u := g63) rfl) rfl inU11 0 (by decide) w4_98 rfl dX11_adds_65 68 rfl ?_
  refine y_iload_n hC dX11_adds_68 2 rfl 69 rfl ?_
  refine y_iconst hC dX11_adds_69 (v := (3 : Int32)) (by decide) 70 rfl ?_
  refine y_iadd hC dX11_adds_70 71 rfl ?_
  refine y_dup2 hC dX11_adds_71 rfl rfl 72 rfl ?_
  obtain ⟨h72, hk⟩ := ob_if hk
  refine y_iald hC 67 (hB 67 (by decide) (by decide)) (cl_L_w (u := g63) rfl) h72 dX11_adds_72 73 rfl ?_
  refine y_iconst hC dX11_adds_73 (v := (1 : Int32)) (by decide) 74 rfl ?_
  refine y_iadd hC dX11_adds_74 75 rfl ?_
  obtain ⟨h75, hk⟩ := ob_if hk
  obtain ⟨g75, eg75, hk⟩ := ob_lt hk
  refine y_iast hC 67 (hB 67 (by decide) (by decide)) (cl_L_w (u := g63) rfl) h75 (gL σ g75) (by subst eg75; exact (cu_L_w (u := g63) (v := (upd (pL_w g63) (a1 + (3 : Int32)).toNatClampNeg ((pL_w g63 (a1 + (3 : Int32)).toNatClampNeg) + (1 : Int32)))) rfl rfl)) dX11_adds_75 76 rfl ?_
  refine y_aload_n hC dX11_adds_76 1 rfl 77 rfl ?_
  refine y_get hC 66 (hB 66 (by decide) (by decide)) (cl_L (u := g75) rfl) rfl inU11 0 (by decide) w4_98 rfl dX11_adds_77 80 rfl ?_
  refine y_iload_n hC dX11_adds_80 2 rfl 81 rfl ?_
  refine y_bipush hC dX11_adds_81 (v := (7 : Int32)) (by decide) 83 rfl ?_
  refine y_iadd hC dX11_adds_83 84 rfl ?_
  refine y_iconst hC dX11_adds_84 (v := (0 : Int32)) (by decide) 85 rfl ?_
  obtain ⟨h85, hk⟩ := ob_if hk
  obtain ⟨g85, eg85, hk⟩ := ob_lt hk
  refine y_iast hC 67 (hB 67 (by decide) (by decide)) (cl_L_w (u := g75) rfl) h85 (gL σ g85) (by subst eg85; exact (cu_L_w (u := g75) (v := (upd (pL_w g75) (a1 + (7 : Int32)).toNatClampNeg (0 : Int32))) rfl rfl)) dX11_adds_85 86 rfl ?_
  refine y_iload hC dX11_adds_86 0 rfl 88 rfl ?_
  have e := Option.some.inj hk
  exact y_iret hC hr hlk (by rw [← e]) (by first | rfl | rw [← e]) dX11_adds_88
def f_X11_buyer_j39 (a1 : Int32) (a2 : Int32) (a3 : Int32) (a4 : Int32) (gw : LSt) : Option (Int32 × LSt) :=
  (f_X11_bad gw).bind fun x40 => 
    (some (x40.1, x40.2))
def f_X11_buyer (w : LSt) (a1 : Int32) (a2 : Int32) (a3 : Int32) (a4 : Int32) : Option (Int32 × LSt) :=
  (f_X11_in a1.toInt64 (0 : Int64) (5 : Int64)).bind fun x6 => 
    (if x6 = 0 then
      f_X11_buyer_j39 a1 a2 a3 a4 w
    else
      (f_X11_isHour a2).bind fun x13 => 
        (if x13 = 0 then
          f_X11_buyer_j39 a1 a2 a3 a4 w
        else
          (f_X11_isPrice a3).bind fun x20 => 
            (if x20 = 0 then
              f_X11_buyer_j39 a1 a2 a3 a4 w
            else
              (f_X11_in a4.toInt64 (1 : Int64) (3 : Int64)).bind fun x33 => 
                (if x33 = 0 then
                  f_X11_buyer_j39 a1 a2 a3 a4 w
                else
                  if inb (3 : Int32) 608 then 
                    (if (pL_w w (3 : Int32).toNatClampNeg) = (8 : Int32) then
                      (f_X11_full w).bind fun x56 => 
                        (some (x56.1, x56.2))
                    else
                      (f_X11_adds w (0 : Int32) a1 a2 a3 a4).bind fun x69 => 
                        (some (x69.1, x69.2)))
                  else none))))
theorem cwd_X11_buyer : yX11_buyer.cls ≠ "java/lang/invoke/MethodHandle" ∧ yX11_buyer.cls ≠ "java/lang/invoke/VarHandle" ∧ (parseMethodDescriptor yX11_buyer.desc).map (fun d => d.parameters.length) = some 4 := by decide +kernel
set_option maxHeartbeats 4000000 in
set_option maxRecDepth 100000 in
theorem c_X11_buyer {Γ : GC} (hJ : GJ Γ) (hB : ∀ i, 66 ≤ i → i < 77 → act Γ i) (l : Launch) (σ : GSt) (w : LSt) (a1 : Int32) (a2 : Int32) (a3 : Int32) (a4 : Int32) (x : Int32 × LSt) (hk : f_X11_buyer w a1 a2 a3 a4 = some x) : Mt Γ l yX11_buyer cX11_buyer 5 (some .int) 2 45 [.ref (ad Γ 66), .int a1, .int a2, .int a3, .int a4] (gL σ w) (some (.int x.1)) (gL σ x.2) := by
  refine y_enter (by decide) hJ (Nat.le_of_ble_eq_true rfl) [(0, .ref (ad Γ 66)), (1, .int a1), (2, .int a2), (3, .int a3), (4, .int a4)] rfl ?_
  intro p e s' m args below meth c' hC hr hlk
  have J39 : ∀ (gw : LSt), f_X11_buyer_j39 a1 a2 a3 a4 gw = some x → Y Γ (GA Γ) p l e ({ frames := 2, cells := 0, slots := 0, locals := 45 } : Room) s' m args below meth c' 0 0 (MQ below (Qg Γ (some (.int x.1)) (gL σ x.2)) args s' 0 0 (GA Γ)) 5 (gL σ gw) 39 [(0, .ref (ad Γ 66)), (1, .int a1), (2, .int a2), (3, .int a3), (4, .int a4)] [] := by
    intro gw hk
    refine y_aload_n hC dX11_buyer_39 0 rfl 40 rfl ?_
    obtain ⟨x40, hx40, hk⟩ := ob_bind hk
    refine y_callV hC 66 (hB 66 (by decide) (by decide)) (cl_L (u := gw) rfl) rfl (c_X11_bad hJ hB l σ gw x40 hx40) rfl ⟨w4_186, w1_13, cwd_X11_bad, by decide, by decide⟩ w4_183 w4_185 ws3_15 rfl rfl (Nat.le_of_ble_eq_true rfl) (by decide) dX11_buyer_40 43 rfl (gL σ x40.2) rfl [.int x40.1] rfl ?_
    have e := Option.some.inj hk
    exact y_iret hC hr hlk (by rw [← e]) (by first | rfl | rw [← e]) dX11_buyer_43
  refine y_iload_n hC dX11_buyer_0 1 rfl 1 rfl ?_
  refine y_i2l hC dX11_buyer_1 2 rfl ?_
  refine y_lconst hC dX11_buyer_2 (v := (0 : Int64)) (by decide) 3 rfl ?_
  refine y_ldc2 hC (v := (5 : Int64)) w4_219 dX11_buyer_3 6 rfl ?_
  obtain ⟨x6, hx6, hk⟩ := ob_bind hk
  refine y_callS hC (c_X11_in hJ l (gL σ w) a1.toInt64 (0 : Int64) (5 : Int64) x6 hx6) rfl ⟨w4_181, w1_13, cwd_X11_in, by decide, by decide⟩ w4_179 w4_180 rfl rfl (Nat.le_of_ble_eq_true rfl) (by decide) dX11_buyer_6 9 rfl (gL σ w) rfl [.int x6] rfl ?_
  refine y_if_eq hC dX11_buyer_9 39 (by decide) 12 rfl (fun h9 => ?_) (fun h9 => ?_)
  · have hk := ob_pos h9 hk
    refine y_sub [0, 1, 2, 3, 4] rfl ?_
    exact J39 w hk
  · have hk := ob_neg h9 hk
    refine y_iload_n hC dX11_buyer_12 2 rfl 13 rfl ?_
    obtain ⟨x13, hx13, hk⟩ := ob_bind hk
    refine y_callS hC (c_X11_isHour hJ l (gL σ w) a2 x13 hx13) rfl ⟨w4_201, w1_13, cwd_X11_isHour, by decide, by decide⟩ w4_199 w4_200 rfl rfl (Nat.le_of_ble_eq_true rfl) (by decide) dX11_buyer_13 16 rfl (gL σ w) rfl [.int x13] rfl ?_
    refine y_if_eq hC dX11_buyer_16 39 (by decide) 19 rfl (fun h16 => ?_) (fun h16 => ?_)
    · have hk := ob_pos h16 hk
      refine y_sub [0, 1, 2, 3, 4] rfl ?_
      exact J39 w hk
    · have hk := ob_neg h16 hk
      refine y_iload_n hC dX11_buyer_19 3 rfl 20 rfl ?_
      obtain ⟨x20, hx20, hk⟩ := ob_bind hk
      refine y_callS hC (c_X11_isPrice hJ l (gL σ w) a3 x20 hx20) rfl ⟨w4_177, w1_13, cwd_X11_isPrice, by decide, by decide⟩ w4_175 w4_176 rfl rfl (Nat.le_of_ble_eq_true rfl) (by decide) dX11_buyer_20 23 rfl (gL σ w) rfl [.int x20] rfl ?_
      refine y_if_eq hC dX11_buyer_23 39 (by decide) 26 rfl (fun h23 => ?_) (fun h23 => ?_)
      · have hk := ob_pos h23 hk
        refine y_sub [0, 1, 2, 3, 4] rfl ?_
        exact J39 w hk
      · have hk := ob_neg h23 hk
        refine y_iload hC dX11_buyer_26 4 rfl 28 rfl ?_
        refine y_i2l hC dX11_buyer_28 29 rfl ?_
        refine y_lconst hC dX11_buyer_29 (v := (1 : Int64)) (by decide) 30 rfl ?_
        refine y_ldc2 hC (v := (3 : Int64)) w4_220 dX11_buyer_30 33 rfl ?_
        obtain ⟨x33, hx33, hk⟩ := ob_bind hk
        refine y_callS hC (c_X11_in hJ l (gL σ w) a4.toInt64 (1 : Int64) (3 : Int64) x33 hx33) rfl ⟨w4_181, w1_13, cwd_X11_in, by decide, by decide⟩ w4_179 w4_180 rfl rfl (Nat.le_of_ble_eq_true rfl) (by decide) dX11_buyer_33 36 rfl (gL σ w) rfl [.int x33] rfl ?_
        refine y_if_ne hC dX11_buyer_36 44 (by decide) 39 rfl (fun h36 => ?_) (fun h36 => ?_)
        · have hk := ob_neg h36 hk
          refine y_aload_n hC dX11_buyer_44 0 rfl 45 rfl ?_
          refine y_get hC 66 (hB 66 (by decide) (by decide)) (cl_L (u := w) rfl) rfl inU11 0 (by decide) w4_98 rfl dX11_buyer_45 48 rfl ?_
          refine y_iconst hC dX11_buyer_48 (v := (3 : Int32)) (by decide) 49 rfl ?_
          obtain ⟨h49, hk⟩ := ob_if hk
          refine y_iald hC 67 (hB 67 (by decide) (by decide)) (cl_L_w (u := w) rfl) h49 dX11_buyer_49 50 rfl ?_
          refine y_bipush hC dX11_buyer_50 (v := (8 : Int32)) (by decide) 52 rfl ?_
          refine y_icmp_ne hC dX11_buyer_52 62 (by decide) 55 rfl (fun h52 => ?_) (fun h52 => ?_)
          · have hk := ob_neg h52 hk
            refine y_aload_n hC dX11_buyer_62 0 rfl 63 rfl ?_
            refine y_iconst hC dX11_buyer_63 (v := (0 : Int32)) (by decide) 64 rfl ?_
            refine y_iload_n hC dX11_buyer_64 1 rfl 65 rfl ?_
            refine y_iload_n hC dX11_buyer_65 2 rfl 66 rfl ?_
            refine y_iload_n hC dX11_buyer_66 3 rfl 67 rfl ?_
            refine y_iload hC dX11_buyer_67 4 rfl 69 rfl ?_
            obtain ⟨x69, hx69, hk⟩ := ob_bind hk
            refine y_callV hC 66 (hB 66 (by decide) (by decide)) (cl_L (u := w) rfl) rfl (c_X11_adds hJ hB l σ w (0 : Int32) a1 a2 a3 a4 x69 hx69) rfl ⟨w4_228, w1_13, cwd_X11_adds, by decide, by decide⟩ w4_225 w4_227 ws4_3 rfl rfl (Nat.le_of_ble_eq_true rfl) (by decide) dX11_buyer_69 72 rfl (gL σ x69.2) rfl [.int x69.1] rfl ?_
            have e := Option.some.inj hk
            exact y_iret hC hr hlk (by rw [← e]) (by first | rfl | rw [← e]) dX11_buyer_72
          · have hk := ob_pos h52 hk
            refine y_aload_n hC dX11_buyer_55 0 rfl 56 rfl ?_
            obtain ⟨x56, hx56, hk⟩ := ob_bind hk
            refine y_callV hC 66 (hB 66 (by decide) (by decide)) (cl_L (u := w) rfl) rfl (c_X11_full hJ hB l σ w x56 hx56) rfl ⟨w4_224, w1_13, cwd_X11_full, by decide, by decide⟩ w4_221 w4_223 ws4_2 rfl rfl (Nat.le_of_ble_eq_true rfl) (by decide) dX11_buyer_56 59 rfl (gL σ x56.2) rfl [.int x56.1] rfl ?_
            refine y_goto hC dX11_buyer_59 72 (by decide) ?_
            have e := Option.some.inj hk
            exact y_iret hC hr hlk (by rw [← e]) (by first | rfl | rw [← e]) dX11_buyer_72
        · have hk := ob_pos h36 hk
          refine y_sub [0, 1, 2, 3, 4] rfl ?_
          exact J39 w hk
def f_X11_type (w : LSt) (a1 : Int32) : Option (Int32 × LSt) :=
  (f_X11_in a1.toInt64 (0 : Int64) (127 : Int64)).bind fun x6 => 
    (if x6 = 0 then
      (f_X11_bad w).bind fun x13 => 
        (some (x13.1, x13.2))
    else
      if (pL_texted w) = (150 : Int32) then
        (f_X11_full w).bind fun x28 => 
          (some (x28.1, x28.2))
      else
        if inb (pL_texted w) 150 then 
          (lt (sL_text w (upd (pL_text w) (pL_texted w).toNatClampNeg a1)) fun g41 => 
          (lt (sL_texted g41 ((pL_texted g41) + (1 : Int32))) fun g49 => 
          (some ((pL_texted g49), g49))))
        else none)
theorem cwd_X11_type : yX11_type.cls ≠ "java/lang/invoke/MethodHandle" ∧ yX11_type.cls ≠ "java/lang/invoke/VarHandle" ∧ (parseMethodDescriptor yX11_type.desc).map (fun d => d.parameters.length) = some 1 := by decide +kernel
set_option maxHeartbeats 4000000 in
set_option maxRecDepth 100000 in
theorem c_X11_type {Γ : GC} (hJ : GJ Γ) (hB : ∀ i, 66 ≤ i → i < 77 → act Γ i) (l : Launch) (σ : GSt) (w : LSt) (a1 : Int32) (x : Int32 × LSt) (hk : f_X11_type w a1 = some x) : Mt Γ l yX11_type cX11_type 2 (some .int) 1 25 [.ref (ad Γ 66), .int a1] (gL σ w) (some (.int x.1)) (gL σ x.2) := by
  refine y_enter (by decide) hJ (Nat.le_of_ble_eq_true rfl) [(0, .ref (ad Γ 66)), (1, .int a1)] rfl ?_
  intro p e s' m args below meth c' hC hr hlk
  refine y_iload_n hC dX11_type_0 1 rfl 1 rfl ?_
  refine y_i2l hC dX11_type_1 2 rfl ?_
  refine y_lconst hC dX11_type_2 (v := (0 : Int64)) (by decide) 3 rfl ?_
  refine y_ldc2 hC (v := (127 : Int64)) w4_233 dX11_type_3 6 rfl ?_
  obtain ⟨x6, hx6, hk⟩ := ob_bind hk
  refine y_callS hC (c_X11_in hJ l (gL σ w) a1.toInt64 (0 : Int64) (127 : Int64) x6 hx6) rfl ⟨w4_181, w1_13, cwd_X11_in, by decide, by decide⟩ w4_179 w4_180 rfl rfl (Nat.le_of_ble_eq_true rfl) (by decide) dX11_type_6 9 rfl (gL σ w) rfl [.int x6] rfl ?_
  refine y_if_ne hC dX11_type_9 17 (by decide) 12 rfl (fun h9 => ?_) (fun h9 => ?_)
  · have hk := ob_neg h9 hk
    refine y_aload_n hC dX11_type_17 0 rfl 18 rfl ?_
    refine y_get hC 66 (hB 66 (by decide) (by decide)) (cl_L (u := w) rfl) rfl inU11 3 (by decide) w4_101 rfl dX11_type_18 21 rfl ?_
    refine y_sipush hC dX11_type_21 (v := (150 : Int32)) (by decide) 24 rfl ?_
    refine y_icmp_ne hC dX11_type_24 32 (by decide) 27 rfl (fun h24 => ?_) (fun h24 => ?_)
    · have hk := ob_neg h24 hk
      refine y_aload_n hC dX11_type_32 0 rfl 33 rfl ?_
      refine y_get hC 66 (hB 66 (by decide) (by decide)) (cl_L (u := w) rfl) rfl inU11 2 (by decide) w4_100 rfl dX11_type_33 36 rfl ?_
      refine y_aload_n hC dX11_type_36 0 rfl 37 rfl ?_
      refine y_get hC 66 (hB 66 (by decide) (by decide)) (cl_L (u := w) rfl) rfl inU11 3 (by decide) w4_101 rfl dX11_type_37 40 rfl ?_
      refine y_iload_n hC dX11_type_40 1 rfl 41 rfl ?_
      obtain ⟨h41, hk⟩ := ob_if hk
      obtain ⟨g41, eg41, hk⟩ := ob_lt hk
      refine y_iast hC 69 (hB 69 (by decide) (by decide)) (cl_L_text (u := w) rfl) h41 (gL σ g41) (by subst eg41; exact (cu_L_text (u := w) (v := (upd (pL_text w) (pL_texted w).toNatClampNeg a1)) rfl rfl)) dX11_type_41 42 rfl ?_
      refine y_aload_n hC dX11_type_42 0 rfl 43 rfl ?_
      refine y_dup hC dX11_type_43 rfl 44 rfl ?_
      refine y_get hC 66 (hB 66 (by decide) (by decide)) (cl_L (u := g41) rfl) rfl inU11 3 (by decide) w4_101 rfl dX11_type_44 47 rfl ?_
      refine y_iconst hC dX11_type_47 (v := (1 : Int32)) (by decide) 48 rfl ?_
      refine y_iadd hC dX11_type_48 49 rfl ?_
      obtain ⟨g49, eg49, hk⟩ := ob_lt hk
      refine y_put hC 66 (hB 66 (by decide) (by decide)) (cl_L (u := g41) rfl) rfl inU11 tyX11_ok nmX11 3 (by decide) w4_101 rfl rfl rfl rfl (Nat.le_of_ble_eq_true rfl) (gL σ g49) (by subst eg49; exact (cu_L_texted (u := g41) (v := ((pL_texted g41) + (1 : Int32))) rfl rfl)) dX11_type_49 52 rfl ?_
      refine y_aload_n hC dX11_type_52 0 rfl 53 rfl ?_
      refine y_get hC 66 (hB 66 (by decide) (by decide)) (cl_L (u := g49) rfl) rfl inU11 3 (by decide) w4_101 rfl dX11_type_53 56 rfl ?_
      have e := Option.some.inj hk
      exact y_iret hC hr hlk (by rw [← e]) (by first | rfl | rw [← e]) dX11_type_56
    · have hk := ob_pos h24 hk
      refine y_aload_n hC dX11_type_27 0 rfl 28 rfl ?_
      obtain ⟨x28, hx28, hk⟩ := ob_bind hk
      refine y_callV hC 66 (hB 66 (by decide) (by decide)) (cl_L (u := w) rfl) rfl (c_X11_full hJ hB l σ w x28 hx28) rfl ⟨w4_224, w1_13, cwd_X11_full, by decide, by decide⟩ w4_221 w4_223 ws4_2 rfl rfl (Nat.le_of_ble_eq_true rfl) (by decide) dX11_type_28 31 rfl (gL σ x28.2) rfl [.int x28.1] rfl ?_
      have e := Option.some.inj hk
      exact y_iret hC hr hlk (by rw [← e]) (by first | rfl | rw [← e]) dX11_type_31
  · have hk := ob_pos h9 hk
    refine y_aload_n hC dX11_type_12 0 rfl 13 rfl ?_
    obtain ⟨x13, hx13, hk⟩ := ob_bind hk
    refine y_callV hC 66 (hB 66 (by decide) (by decide)) (cl_L (u := w) rfl) rfl (c_X11_bad hJ hB l σ w x13 hx13) rfl ⟨w4_186, w1_13, cwd_X11_bad, by decide, by decide⟩ w4_183 w4_185 ws3_15 rfl rfl (Nat.le_of_ble_eq_true rfl) (by decide) dX11_type_13 16 rfl (gL σ x13.2) rfl [.int x13.1] rfl ?_
    have e := Option.some.inj hk
    exact y_iret hC hr hlk (by rw [← e]) (by first | rfl | rw [← e]) dX11_type_16
def f_X11_clear (w : LSt) : Option (Int32 × LSt) :=
  lt (sL_texted w (0 : Int32)) fun g7 => 
    (some ((pL_texted w), g7))
theorem cwd_X11_clear : yX11_clear.cls ≠ "java/lang/invoke/MethodHandle" ∧ yX11_clear.cls ≠ "java/lang/invoke/VarHandle" ∧ (parseMethodDescriptor yX11_clear.desc).map (fun d => d.parameters.length) = some 0 := by decide +kernel
set_option maxHeartbeats 4000000 in
set_option maxRecDepth 100000 in
theorem c_X11_clear {Γ : GC} (hJ : GJ Γ) (hB : ∀ i, 66 ≤ i → i < 77 → act Γ i) (l : Launch) (σ : GSt) (w : LSt) (x : Int32 × LSt) (hk : f_X11_clear w = some x) : Mt Γ l yX11_clear cX11_clear 2 (some .int) 0 0 [.ref (ad Γ 66)] (gL σ w) (some (.int x.1)) (gL σ x.2) := by
  refine y_enter (by decide) hJ (Nat.le_of_ble_eq_true rfl) [(0, .ref (ad Γ 66))] rfl ?_
  intro p e s' m args below meth c' hC hr hlk
  refine y_aload_n hC dX11_clear_0 0 rfl 1 rfl ?_
  refine y_get hC 66 (hB 66 (by decide) (by decide)) (cl_L (u := w) rfl) rfl inU11 3 (by decide) w4_101 rfl dX11_clear_1 4 rfl ?_
  refine y_istore_n hC dX11_clear_4 (by decide) [(1, .int (pL_texted w)), (0, .ref (ad Γ 66))] rfl 5 rfl ?_
  refine y_aload_n hC dX11_clear_5 1 rfl 6 rfl ?_
  refine y_iconst hC dX11_clear_6 (v := (0 : Int32)) (by decide) 7 rfl ?_
  obtain ⟨g7, eg7, hk⟩ := ob_lt hk
  refine y_put hC 66 (hB 66 (by decide) (by decide)) (cl_L (u := w) rfl) rfl inU11 tyX11_ok nmX11 3 (by decide) w4_101 rfl rfl rfl rfl (Nat.le_of_ble_eq_true rfl) (gL σ g7) (by subst eg7; exact (cu_L_texted (u := w) (v := (0 : Int32)) rfl rfl)) dX11_clear_7 10 rfl ?_
  refine y_iload_n hC dX11_clear_10 0 rfl 11 rfl ?_
  have e := Option.some.inj hk
  exact y_iret hC hr hlk (by rw [← e]) (by first | rfl | rw [← e]) dX11_clear_11
def f_X11_byteAt (w : LSt) (a1 : Int32) : Option (Int32) :=
  if (pL_texted w) ≤ a1 then
    some (-1 : Int32)
  else
    if inb a1 150 then 
      (some (pL_text w a1.toNatClampNeg))
    else none
theorem cwd_X11_byteAt : yX11_byteAt.cls ≠ "java/lang/invoke/MethodHandle" ∧ yX11_byteAt.cls ≠ "java/lang/invoke/VarHandle" ∧ (parseMethodDescriptor yX11_byteAt.desc).map (fun d => d.parameters.length) = some 1 := by decide +kernel
set_option maxHeartbeats 4000000 in
set_option maxRecDepth 100000 in
theorem c_X11_byteAt {Γ : GC} (hJ : GJ Γ) (hB : ∀ i, 66 ≤ i → i < 77 → act Γ i) (l : Launch) (σ : GSt) (w : LSt) (a1 : Int32) (x : Int32) (hk : f_X11_byteAt w a1 = some x) : Mt Γ l yX11_byteAt cX11_byteAt 2 (some .int) 0 0 [.ref (ad Γ 66), .int a1] (gL σ w) (some (.int x)) (gL σ w) := by
  refine y_enter (by decide) hJ (Nat.le_of_ble_eq_true rfl) [(0, .ref (ad Γ 66)), (1, .int a1)] rfl ?_
  intro p e s' m args below meth c' hC hr hlk
  refine y_iload_n hC dX11_byteAt_0 1 rfl 1 rfl ?_
  refine y_aload_n hC dX11_byteAt_1 0 rfl 2 rfl ?_
  refine y_get hC 66 (hB 66 (by decide) (by decide)) (cl_L (u := w) rfl) rfl inU11 3 (by decide) w4_101 rfl dX11_byteAt_2 5 rfl ?_
  refine y_icmp_ge hC dX11_byteAt_5 17 (by decide) 8 rfl (fun h5 => ?_) (fun h5 => ?_)
  · have hk := ob_pos h5 hk
    refine y_iconst hC dX11_byteAt_17 (v := (-1 : Int32)) (by decide) 18 rfl ?_
    have e := Option.some.inj hk
    exact y_iret hC hr hlk (by rw [← e]) (by first | rfl | rw [← e]) dX11_byteAt_18
  · have hk := ob_neg h5 hk
    refine y_aload_n hC dX11_byteAt_8 0 rfl 9 rfl ?_
    refine y_get hC 66 (hB 66 (by decide) (by decide)) (cl_L (u := w) rfl) rfl inU11 2 (by decide) w4_100 rfl dX11_byteAt_9 12 rfl ?_
    refine y_iload_n hC dX11_byteAt_12 1 rfl 13 rfl ?_
    obtain ⟨h13, hk⟩ := ob_if hk
    refine y_iald hC 69 (hB 69 (by decide) (by decide)) (cl_L_text (u := w) rfl) h13 dX11_byteAt_13 14 rfl ?_
    refine y_goto hC dX11_byteAt_14 18 (by decide) ?_
    have e := Option.some.inj hk
    exact y_iret hC hr hlk (by rw [← e]) (by first | rfl | rw [← e]) dX11_byteAt_18
def f_X11_token_j159 (K103 : (LSt) → Option (LSt)) (gw : LSt) : Option (LSt) :=
  lt (sL_at gw ((pL_at gw) + (1 : Int32))) fun g166 => 
    (K103 g166)
def f_X11_token_j131 (K103 : (LSt) → Option (LSt)) (gw : LSt) : Option (LSt) :=
  if (pL_isFigures gw) = 0 then
    some gw
  else
    (f_X11_byteAt gw (pL_at gw)).bind fun x143 => 
      ((f_X11_in x143.toInt64 (48 : Int64) (57 : Int64)).bind fun x153 => 
      (if x153 = 0 then
        some gw
      else
        f_X11_token_j159 K103 gw))
def f_X11_token_s103 (K103 : (LSt) → Option (LSt)) (q103 : LSt) : Option (LSt) :=
  if (pL_isWord q103) = 0 then
    f_X11_token_j131 K103 q103
  else
    (f_X11_byteAt q103 (pL_at q103)).bind fun x115 => 
      ((f_X11_in x115.toInt64 (97 : Int64) (122 : Int64)).bind fun x125 => 
      (if x125 = 0 then
        f_X11_token_j131 K103 q103
      else
        f_X11_token_j159 K103 q103))
def f_X11_token_j99 (t0 : Int32) (t1 : Int32) (gw : LSt) : Option (LSt) :=
  lt (sL_at gw (t1 + t0)) fun g100 => 
    (lp (f_X11_token_s103) 1000 g100)
def f_X11_token_j26 (gw : LSt) : Option (LSt) :=
  lt (sL_start gw (pL_at gw)) fun g31 => 
    ((f_X11_byteAt g31 (pL_at g31)).bind fun x40 => 
    ((f_X11_in x40.toInt64 (97 : Int64) (122 : Int64)).bind fun x50 => 
    (if x50 = 0 ∨ x50 = 1 then 
    (lt (sL_isWord g31 x50) fun g53 => 
    ((f_X11_byteAt g53 (pL_at g53)).bind fun x62 => 
    ((f_X11_in x62.toInt64 (48 : Int64) (57 : Int64)).bind fun x72 => 
    (if x72 = 0 ∨ x72 = 1 then 
    (lt (sL_isFigures g53 x72) fun g75 => 
    (if (pL_texted g75) ≤ (pL_at g75) then
      f_X11_token_j99 (0 : Int32) (pL_at g75) g75
    else
      f_X11_token_j99 (1 : Int32) (pL_at g75) g75))
  else none))))
  else none)))
def f_X11_token_s0 (K0 : (LSt) → Option (LSt)) (q0 : LSt) : Option (LSt) :=
  (f_X11_byteAt q0 (pL_at q0)).bind fun x5 => 
    (if x5 = (32 : Int32) then
      lt (sL_at q0 ((pL_at q0) + (1 : Int32))) fun g20 => 
        (K0 g20)
    else
      f_X11_token_j26 q0)
def f_X11_token (w : LSt) : Option (LSt) :=
  lp (f_X11_token_s0) 1000 w
theorem cwd_X11_token : yX11_token.cls ≠ "java/lang/invoke/MethodHandle" ∧ yX11_token.cls ≠ "java/lang/invoke/VarHandle" ∧ (parseMethodDescriptor yX11_token.desc).map (fun d => d.parameters.length) = some 0 := by decide +kernel
set_option maxHeartbeats 4000000 in
set_option maxRecDepth 100000 in
theorem c_X11_token {Γ : GC} (hJ : GJ Γ) (hB : ∀ i, 66 ≤ i → i < 77 → act Γ i) (l : Launch) (σ : GSt) (w : LSt) (x : LSt) (hk : f_X11_token w = some x) : Mt Γ l yX11_token cX11_token 1 none 1 25 [.ref (ad Γ 66)] (gL σ w) none (gL σ x) := by
  refine y_enter (by decide) hJ (Nat.le_of_ble_eq_true rfl) [(0, .ref (ad Γ 66))] rfl ?_
  intro p e s' m args below meth c' hC hr hlk
  have L103 : ∀ (n103 : Nat) (q103 : LSt), lp (f_X11_token_s103) n103 q103 = some x → Y Γ (GA Γ) p l e ({ frames := 1, cells := 0, slots := 0, locals := 25 } : Room) s' m args below meth c' 0 0 (MQ below (Qg Γ none (gL σ x)) args s' 0 0 (GA Γ)) 1 (gL σ q103) 103 [(0, .ref (ad Γ 66))] [] := by
    intro n103
    induction n103 with
    | zero => intro q103 hk; exact (lp_zero hk).elim
    | succ n103 ih103 =>
      intro q103 hk
      have hk : f_X11_token_s103 (lp (f_X11_token_s103) n103) q103 = some x := (lp_succ _ _ _).symm.trans hk
      have J159 : ∀ (gw : LSt), f_X11_token_j159 (lp (f_X11_token_s103) n103) gw = some x → Y Γ (GA Γ) p l e ({ frames := 1, cells := 0, slots := 0, locals := 25 } : Room) s' m args below meth c' 0 0 (MQ below (Qg Γ none (gL σ x)) args s' 0 0 (GA Γ)) 1 (gL σ gw) 159 [(0, .ref (ad Γ 66))] [] := by
        intro gw hk
        refine y_aload_n hC dX11_token_159 0 rfl 160 rfl ?_
        refine y_dup hC dX11_token_160 rfl 161 rfl ?_
        refine y_get hC 66 (hB 66 (by decide) (by decide)) (cl_L (u := gw) rfl) rfl inU11 7 (by decide) w4_105 rfl dX11_token_161 164 rfl ?_
        refine y_iconst hC dX11_token_164 (v := (1 : Int32)) (by decide) 165 rfl ?_
        refine y_iadd hC dX11_token_165 166 rfl ?_
        obtain ⟨g166, eg166, hk⟩ := ob_lt hk
        refine y_put hC 66 (hB 66 (by decide) (by decide)) (cl_L (u := gw) rfl) rfl inU11 tyX11_ok nmX11 7 (by decide) w4_105 rfl rfl rfl rfl (Nat.le_of_ble_eq_true rfl) (gL σ g166) (by subst eg166; exact (cu_L_at (u := gw) (v := ((pL_at gw) + (1 : Int32))) rfl rfl)) dX11_token_166 169 rfl ?_
        refine y_goto hC dX11_token_169 103 (by decide) ?_
        refine y_sub [0] rfl ?_
        exact ih103 g166 hk
      have J131 : ∀ (gw : LSt), f_X11_token_j131 (lp (f_X11_token_s103) n103) gw = some x → Y Γ (GA Γ) p l e ({ frames := 1, cells := 0, slots := 0, locals := 25 } : Room) s' m args below meth c' 0 0 (MQ below (Qg Γ none (gL σ x)) args s' 0 0 (GA Γ)) 1 (gL σ gw) 131 [(0, .ref (ad Γ 66))] [] := by
        intro gw hk
        refine y_aload_n hC dX11_token_131 0 rfl 132 rfl ?_
        refine y_get hC 66 (hB 66 (by decide) (by decide)) (cl_L (u := gw) rfl) rfl inU11 10 (by decide) w4_108 rfl dX11_token_132 135 rfl ?_
        refine y_if_eq hC dX11_token_135 172 (by decide) 138 rfl (fun h135 => ?_) (fun h135 => ?_)
        · have hk := ob_pos h135 hk
          have e := Option.some.inj hk
          exact y_vret hC hr hlk (by rw [← e]) dX11_token_172
        · have hk := ob_neg h135 hk
          refine y_aload_n hC dX11_token_138 0 rfl 139 rfl ?_
          refine y_aload_n hC dX11_token_139 0 rfl 140 rfl ?_
          refine y_get hC 66 (hB 66 (by decide) (by decide)) (cl_L (u := gw) rfl) rfl inU11 7 (by decide) w4_105 rfl dX11_token_140 143 rfl ?_
          obtain ⟨x143, hx143, hk⟩ := ob_bind hk
          refine y_callV hC 66 (hB 66 (by decide) (by decide)) (cl_L (u := gw) rfl) rfl (c_X11_byteAt hJ hB l σ gw (pL_at gw) x143 hx143) rfl ⟨w5_9, w1_13, cwd_X11_byteAt, by decide, by decide⟩ w5_6 w5_8 ws4_5 rfl rfl (Nat.le_of_ble_eq_true rfl) (by decide) dX11_token_143 146 rfl (gL σ gw) rfl [.int x143] rfl ?_
          refine y_i2l hC dX11_token_146 147 rfl ?_
          refine y_ldc2 hC (v := (48 : Int64)) w5_12 dX11_token_147 150 rfl ?_
          refine y_ldc2 hC (v := (57 : Int64)) w5_13 dX11_token_150 153 rfl ?_
          obtain ⟨x153, hx153, hk⟩ := ob_bind hk
          refine y_callS hC (c_X11_in hJ l (gL σ gw) x143.toInt64 (48 : Int64) (57 : Int64) x153 hx153) rfl ⟨w4_181, w1_13, cwd_X11_in, by decide, by decide⟩ w4_179 w4_180 rfl rfl (Nat.le_of_ble_eq_true rfl) (by decide) dX11_token_153 156 rfl (gL σ gw) rfl [.int x153] rfl ?_
          refine y_if_eq hC dX11_token_156 172 (by decide) 159 rfl (fun h156 => ?_) (fun h156 => ?_)
          · have hk := ob_pos h156 hk
            have e := Option.some.inj hk
            exact y_vret hC hr hlk (by rw [← e]) dX11_token_172
          · have hk := ob_neg h156 hk
            refine y_sub [0] rfl ?_
            exact J159 gw hk
      refine y_aload_n hC dX11_token_103 0 rfl 104 rfl ?_
      refine y_get hC 66 (hB 66 (by decide) (by decide)) (cl_L (u := q103) rfl) rfl inU11 9 (by decide) w4_107 rfl dX11_token_104 107 rfl ?_
      refine y_if_eq hC dX11_token_107 131 (by decide) 110 rfl (fun h107 => ?_) (fun h107 => ?_)
      · have hk := ob_pos h107 hk
        refine y_sub [0] rfl ?_
        exact J131 q103 hk
      · have hk := ob_neg h107 hk
        refine y_aload_n hC dX11_token_110 0 rfl 111 rfl ?_
        refine y_aload_n hC dX11_token_111 0 rfl 112 rfl ?_
        refine y_get hC 66 (hB 66 (by decide) (by decide)) (cl_L (u := q103) rfl) rfl inU11 7 (by decide) w4_105 rfl dX11_token_112 115 rfl ?_
        obtain ⟨x115, hx115, hk⟩ := ob_bind hk
        refine y_callV hC 66 (hB 66 (by decide) (by decide)) (cl_L (u := q103) rfl) rfl (c_X11_byteAt hJ hB l σ q103 (pL_at q103) x115 hx115) rfl ⟨w5_9, w1_13, cwd_X11_byteAt, by decide, by decide⟩ w5_6 w5_8 ws4_5 rfl rfl (Nat.le_of_ble_eq_true rfl) (by decide) dX11_token_115 118 rfl (gL σ q103) rfl [.int x115] rfl ?_
        refine y_i2l hC dX11_token_118 119 rfl ?_
        refine y_ldc2 hC (v := (97 : Int64)) w5_10 dX11_token_119 122 rfl ?_
        refine y_ldc2 hC (v := (122 : Int64)) w5_11 dX11_token_122 125 rfl ?_
        obtain ⟨x125, hx125, hk⟩ := ob_bind hk
        refine y_callS hC (c_X11_in hJ l (gL σ q103) x115.toInt64 (97 : Int64) (122 : Int64) x125 hx125) rfl ⟨w4_181, w1_13, cwd_X11_in, by decide, by decide⟩ w4_179 w4_180 rfl rfl (Nat.le_of_ble_eq_true rfl) (by decide) dX11_token_125 128 rfl (gL σ q103) rfl [.int x125] rfl ?_
        refine y_if_ne hC dX11_token_128 159 (by decide) 131 rfl (fun h128 => ?_) (fun h128 => ?_)
        · have hk := ob_neg h128 hk
          refine y_sub [0] rfl ?_
          exact J159 q103 hk
        · have hk := ob_pos h128 hk
          refine y_sub [0] rfl ?_
          exact J131 q103 hk
  have J99 : ∀ (t0 : Int32) (t1 : Int32) (gw : LSt), f_X11_token_j99 t0 t1 gw = some x → Y Γ (GA Γ) p l e ({ frames := 1, cells := 0, slots := 0, locals := 25 } : Room) s' m args below meth c' 0 0 (MQ below (Qg Γ none (gL σ x)) args s' 0 0 (GA Γ)) 1 (gL σ gw) 99 [(0, .ref (ad Γ 66))] [.int t0, .int t1, .ref (ad Γ 66)] := by
    intro t0 t1 gw hk
    refine y_iadd hC dX11_token_99 100 rfl ?_
    obtain ⟨g100, eg100, hk⟩ := ob_lt hk
    refine y_put hC 66 (hB 66 (by decide) (by decide)) (cl_L (u := gw) rfl) rfl inU11 tyX11_ok nmX11 7 (by decide) w4_105 rfl rfl rfl rfl (Nat.le_of_ble_eq_true rfl) (gL σ g100) (by subst eg100; exact (cu_L_at (u := gw) (v := (t1 + t0)) rfl rfl)) dX11_token_100 103 rfl ?_
    refine y_sub [0] rfl ?_
    exact L103 1000 g100 hk
  have J26 : ∀ (gw : LSt), f_X11_token_j26 gw = some x → Y Γ (GA Γ) p l e ({ frames := 1, cells := 0, slots := 0, locals := 25 } : Room) s' m args below meth c' 0 0 (MQ below (Qg Γ none (gL σ x)) args s' 0 0 (GA Γ)) 1 (gL σ gw) 26 [(0, .ref (ad Γ 66))] [] := by
    intro gw hk
    refine y_aload_n hC dX11_token_26 0 rfl 27 rfl ?_
    refine y_aload_n hC dX11_token_27 0 rfl 28 rfl ?_
    refine y_get hC 66 (hB 66 (by decide) (by decide)) (cl_L (u := gw) rfl) rfl inU11 7 (by decide) w4_105 rfl dX11_token_28 31 rfl ?_
    obtain ⟨g31, eg31, hk⟩ := ob_lt hk
    refine y_put hC 66 (hB 66 (by decide) (by decide)) (cl_L (u := gw) rfl) rfl inU11 tyX11_ok nmX11 8 (by decide) w4_106 rfl rfl rfl rfl (Nat.le_of_ble_eq_true rfl) (gL σ g31) (by subst eg31; exact (cu_L_start (u := gw) (v := (pL_at gw)) rfl rfl)) dX11_token_31 34 rfl ?_
    refine y_aload_n hC dX11_token_34 0 rfl 35 rfl ?_
    refine y_aload_n hC dX11_token_35 0 rfl 36 rfl ?_
    refine y_aload_n hC dX11_token_36 0 rfl 37 rfl ?_
    refine y_get hC 66 (hB 66 (by decide) (by decide)) (cl_L (u := g31) rfl) rfl inU11 7 (by decide) w4_105 rfl dX11_token_37 40 rfl ?_
    obtain ⟨x40, hx40, hk⟩ := ob_bind hk
    refine y_callV hC 66 (hB 66 (by decide) (by decide)) (cl_L (u := g31) rfl) rfl (c_X11_byteAt hJ hB l σ g31 (pL_at g31) x40 hx40) rfl ⟨w5_9, w1_13, cwd_X11_byteAt, by decide, by decide⟩ w5_6 w5_8 ws4_5 rfl rfl (Nat.le_of_ble_eq_true rfl) (by decide) dX11_token_40 43 rfl (gL σ g31) rfl [.int x40, .ref (ad Γ 66)] rfl ?_
    refine y_i2l hC dX11_token_43 44 rfl ?_
    refine y_ldc2 hC (v := (97 : Int64)) w5_10 dX11_token_44 47 rfl ?_
    refine y_ldc2 hC (v := (122 : Int64)) w5_11 dX11_token_47 50 rfl ?_
    obtain ⟨x50, hx50, hk⟩ := ob_bind hk
    refine y_callS hC (c_X11_in hJ l (gL σ g31) x40.toInt64 (97 : Int64) (122 : Int64) x50 hx50) rfl ⟨w4_181, w1_13, cwd_X11_in, by decide, by decide⟩ w4_179 w4_180 rfl rfl (Nat.le_of_ble_eq_true rfl) (by decide) dX11_token_50 53 rfl (gL σ g31) rfl [.int x50, .ref (ad Γ 66)] rfl ?_
    obtain ⟨h53, hk⟩ := ob_if hk
    obtain ⟨g53, eg53, hk⟩ := ob_lt hk
    refine y_put hC 66 (hB 66 (by decide) (by decide)) (cl_L (u := g31) rfl) rfl inU11 tyX11_ok nmX11 9 (by decide) w4_107 rfl rfl (nz_bool h53) (fz_bool h53) (Nat.le_of_ble_eq_true rfl) (gL σ g53) (by subst eg53; exact (cu_L_isWord (u := g31) (v := x50) rfl rfl)) dX11_token_53 56 rfl ?_
    refine y_aload_n hC dX11_token_56 0 rfl 57 rfl ?_
    refine y_aload_n hC dX11_token_57 0 rfl 58 rfl ?_
    refine y_aload_n hC dX11_token_58 0 rfl 59 rfl ?_
    refine y_get hC 66 (hB 66 (by decide) (by decide)) (cl_L (u := g53) rfl) rfl inU11 7 (by decide) w4_105 rfl dX11_token_59 62 rfl ?_
    obtain ⟨x62, hx62, hk⟩ := ob_bind hk
    refine y_callV hC 66 (hB 66 (by decide) (by decide)) (cl_L (u := g53) rfl) rfl (c_X11_byteAt hJ hB l σ g53 (pL_at g53) x62 hx62) rfl ⟨w5_9, w1_13, cwd_X11_byteAt, by decide, by decide⟩ w5_6 w5_8 ws4_5 rfl rfl (Nat.le_of_ble_eq_true rfl) (by decide) dX11_token_62 65 rfl (gL σ g53) rfl [.int x62, .ref (ad Γ 66)] rfl ?_
    refine y_i2l hC dX11_token_65 66 rfl ?_
    refine y_ldc2 hC (v := (48 : Int64)) w5_12 dX11_token_66 69 rfl ?_
    refine y_ldc2 hC (v := (57 : Int64)) w5_13 dX11_token_69 72 rfl ?_
    obtain ⟨x72, hx72, hk⟩ := ob_bind hk
    refine y_callS hC (c_X11_in hJ l (gL σ g53) x62.toInt64 (48 : Int64) (57 : Int64) x72 hx72) rfl ⟨w4_181, w1_13, cwd_X11_in, by decide, by decide⟩ w4_179 w4_180 rfl rfl (Nat.le_of_ble_eq_true rfl) (by decide) dX11_token_72 75 rfl (gL σ g53) rfl [.int x72, .ref (ad Γ 66)] rfl ?_
    obtain ⟨h75, hk⟩ := ob_if hk
    obtain ⟨g75, eg75, hk⟩ := ob_lt hk
    refine y_put hC 66 (hB 66 (by decide) (by decide)) (cl_L (u := g53) rfl) rfl inU11 tyX11_ok nmX11 10 (by decide) w4_108 rfl rfl (nz_bool h75) (fz_bool h75) (Nat.le_of_ble_eq_true rfl) (gL σ g75) (by subst eg75; exact (cu_L_isFigures (u := g53) (v := x72) rfl rfl)) dX11_token_75 78 rfl ?_
    refine y_aload_n hC dX11_token_78 0 rfl 79 rfl ?_
    refine y_dup hC dX11_token_79 rfl 80 rfl ?_
    refine y_get hC 66 (hB 66 (by decide) (by decide)) (cl_L (u := g75) rfl) rfl inU11 7 (by decide) w4_105 rfl dX11_token_80 83 rfl ?_
    refine y_aload_n hC dX11_token_83 0 rfl 84 rfl ?_
    refine y_get hC 66 (hB 66 (by decide) (by decide)) (cl_L (u := g75) rfl) rfl inU11 7 (by decide) w4_105 rfl dX11_token_84 87 rfl ?_
    refine y_aload_n hC dX11_token_87 0 rfl 88 rfl ?_
    refine y_get hC 66 (hB 66 (by decide) (by decide)) (cl_L (u := g75) rfl) rfl inU11 3 (by decide) w4_101 rfl dX11_token_88 91 rfl ?_
    refine y_icmp_ge hC dX11_token_91 98 (by decide) 94 rfl (fun h91 => ?_) (fun h91 => ?_)
    · have hk := ob_pos h91 hk
      refine y_iconst hC dX11_token_98 (v := (0 : Int32)) (by decide) 99 rfl ?_
      refine y_sub [0] rfl ?_
      exact J99 (0 : Int32) (pL_at g75) g75 hk
    · have hk := ob_neg h91 hk
      refine y_iconst hC dX11_token_94 (v := (1 : Int32)) (by decide) 95 rfl ?_
      refine y_goto hC dX11_token_95 99 (by decide) ?_
      refine y_sub [0] rfl ?_
      exact J99 (1 : Int32) (pL_at g75) g75 hk
  have L0 : ∀ (n0 : Nat) (q0 : LSt), lp (f_X11_token_s0) n0 q0 = some x → Y Γ (GA Γ) p l e ({ frames := 1, cells := 0, slots := 0, locals := 25 } : Room) s' m args below meth c' 0 0 (MQ below (Qg Γ none (gL σ x)) args s' 0 0 (GA Γ)) 1 (gL σ q0) 0 [(0, .ref (ad Γ 66))] [] := by
    intro n0
    induction n0 with
    | zero => intro q0 hk; exact (lp_zero hk).elim
    | succ n0 ih0 =>
      intro q0 hk
      have hk : f_X11_token_s0 (lp (f_X11_token_s0) n0) q0 = some x := (lp_succ _ _ _).symm.trans hk
      refine y_aload_n hC dX11_token_0 0 rfl 1 rfl ?_
      refine y_aload_n hC dX11_token_1 0 rfl 2 rfl ?_
      refine y_get hC 66 (hB 66 (by decide) (by decide)) (cl_L (u := q0) rfl) rfl inU11 7 (by decide) w4_105 rfl dX11_token_2 5 rfl ?_
      obtain ⟨x5, hx5, hk⟩ := ob_bind hk
      refine y_callV hC 66 (hB 66 (by decide) (by decide)) (cl_L (u := q0) rfl) rfl (c_X11_byteAt hJ hB l σ q0 (pL_at q0) x5 hx5) rfl ⟨w5_9, w1_13, cwd_X11_byteAt, by decide, by decide⟩ w5_6 w5_8 ws4_5 rfl rfl (Nat.le_of_ble_eq_true rfl) (by decide) dX11_token_5 8 rfl (gL σ q0) rfl [.int x5] rfl ?_
      refine y_bipush hC dX11_token_8 (v := (32 : Int32)) (by decide) 10 rfl ?_
      refine y_icmp_ne hC dX11_token_10 26 (by decide) 13 rfl (fun h10 => ?_) (fun h10 => ?_)
      · have hk := ob_neg h10 hk
        refine y_sub [0] rfl ?_
        exact J26 q0 hk
      · have hk := ob_pos h10 hk
        refine y_aload_n hC dX11_token_13 0 rfl 14 rfl ?_
        refine y_dup hC dX11_token_14 rfl 15 rfl ?_
        refine y_get hC 66 (hB 66 (by decide) (by decide)) (cl_L (u := q0) rfl) rfl inU11 7 (by decide) w4_105 rfl dX11_token_15 18 rfl ?_
        refine y_iconst hC dX11_token_18 (v := (1 : Int32)) (by decide) 19 rfl ?_
        refine y_iadd hC dX11_token_19 20 rfl ?_
        obtain ⟨g20, eg20, hk⟩ := ob_lt hk
        refine y_put hC 66 (hB 66 (by decide) (by decide)) (cl_L (u := q0) rfl) rfl inU11 tyX11_ok nmX11 7 (by decide) w4_105 rfl rfl rfl rfl (Nat.le_of_ble_eq_true rfl) (gL σ g20) (by subst eg20; exact (cu_L_at (u := q0) (v := ((pL_at q0) + (1 : Int32))) rfl rfl)) dX11_token_20 23 rfl ?_
        refine y_goto hC dX11_token_23 0 (by decide) ?_
        refine y_sub [0] rfl ?_
        exact ih0 g20 hk
  refine y_sub [0] rfl ?_
  exact L0 1000 w hk
def f_X11_isNamed_j150 (w : LSt) (a1 : Int32) (a2 : Int32) (a3 : Int32) (a4 : Int32) (a5 : Int32) (a6 : Int32) : Option (Int32) :=
  some (1 : Int32)
def f_X11_isNamed_j130 (w : LSt) (a1 : Int32) (a2 : Int32) (a3 : Int32) (a4 : Int32) (a5 : Int32) (a6 : Int32) : Option (Int32) :=
  if a6 = 0 then
    f_X11_isNamed_j150 w a1 a2 a3 a4 a5 a6
  else
    (f_X11_byteAt w ((pL_start w) + (5 : Int32))).bind fun x142 => 
      (if x142 = a6 then
        f_X11_isNamed_j150 w a1 a2 a3 a4 a5 a6
      else
        some (0 : Int32))
def f_X11_isNamed_j103 (w : LSt) (a1 : Int32) (a2 : Int32) (a3 : Int32) (a4 : Int32) (a5 : Int32) (a6 : Int32) (t0 : Int32) : Option (Int32) :=
  if t0 = 0 then
    some (0 : Int32)
  else
    if a5 = 0 then
      f_X11_isNamed_j130 w a1 a2 a3 a4 a5 a6
    else
      (f_X11_byteAt w ((pL_start w) + (4 : Int32))).bind fun x122 => 
        (if x122 = a5 then
          f_X11_isNamed_j130 w a1 a2 a3 a4 a5 a6
        else
          some (0 : Int32))
def f_X11_isNamed_j102 (w : LSt) (a1 : Int32) (a2 : Int32) (a3 : Int32) (a4 : Int32) (a5 : Int32) (a6 : Int32) : Option (Int32) :=
  f_X11_isNamed_j103 w a1 a2 a3 a4 a5 a6 (0 : Int32)
def f_X11_isNamed_j20 (w : LSt) (a1 : Int32) (a2 : Int32) (a3 : Int32) (a4 : Int32) (a5 : Int32) (a6 : Int32) (t0 : Int32) : Option (Int32) :=
  if (pL_isWord w) = 0 then
    f_X11_isNamed_j102 w a1 a2 a3 a4 a5 a6
  else
    if ((pL_at w) - (pL_start w)) = t0 then
      (f_X11_byteAt w (pL_start w)).bind fun x48 => 
        (if x48 = a1 then
          (f_X11_byteAt w ((pL_start w) + (1 : Int32))).bind fun x62 => 
            (if x62 = a2 then
              (f_X11_byteAt w ((pL_start w) + (2 : Int32))).bind fun x76 => 
                (if x76 = a3 then
                  (f_X11_byteAt w ((pL_start w) + (3 : Int32))).bind fun x90 => 
                    (if x90 = a4 then
                      f_X11_isNamed_j103 w a1 a2 a3 a4 a5 a6 (1 : Int32)
                    else
                      f_X11_isNamed_j102 w a1 a2 a3 a4 a5 a6)
                else
                  f_X11_isNamed_j102 w a1 a2 a3 a4 a5 a6)
            else
              f_X11_isNamed_j102 w a1 a2 a3 a4 a5 a6)
        else
          f_X11_isNamed_j102 w a1 a2 a3 a4 a5 a6)
    else
      f_X11_isNamed_j102 w a1 a2 a3 a4 a5 a6
def f_X11_isNamed (w : LSt) (a1 : Int32) (a2 : Int32) (a3 : Int32) (a4 : Int32) (a5 : Int32) (a6 : Int32) : Option (Int32) :=
  if a5 = 0 then
    f_X11_isNamed_j20 w a1 a2 a3 a4 a5 a6 (4 : Int32)
  else
    if a6 = 0 then
      f_X11_isNamed_j20 w a1 a2 a3 a4 a5 a6 (5 : Int32)
    else
      f_X11_isNamed_j20 w a1 a2 a3 a4 a5 a6 (6 : Int32)
theorem cwd_X11_isNamed : yX11_isNamed.cls ≠ "java/lang/invoke/MethodHandle" ∧ yX11_isNamed.cls ≠ "java/lang/invoke/VarHandle" ∧ (parseMethodDescriptor yX11_isNamed.desc).map (fun d => d.parameters.length) = some 6 := by decide +kernel
set_option maxHeartbeats 4000000 in
set_option maxRecDepth 100000 in
theorem c_X11_isNamed {Γ : GC} (hJ : GJ Γ) (hB : ∀ i, 66 ≤ i → i < 77 → act Γ i) (l : Launch) (σ : GSt) (w : LSt) (a1 : Int32) (a2 : Int32) (a3 : Int32) (a4 : Int32) (a5 : Int32) (a6 : Int32) (x : Int32) (hk : f_X11_isNamed w a1 a2 a3 a4 a5 a6 = some x) : Mt Γ l yX11_isNamed cX11_isNamed 9 (some .boolean) 1 21 [.ref (ad Γ 66), .int a1, .int a2, .int a3, .int a4, .int a5, .int a6] (gL σ w) (some (.int x)) (gL σ w) := by
  refine y_enter (by decide) hJ (Nat.le_of_ble_eq_true rfl) [(0, .ref (ad Γ 66)), (1, .int a1), (2, .int a2), (3, .int a3), (4, .int a4), (5, .int a5), (6, .int a6)] rfl ?_
  intro p e s' m args below meth c' hC hr hlk
  have J150 : ∀ (_ : Unit), f_X11_isNamed_j150 w a1 a2 a3 a4 a5 a6 = some x → Y Γ (GA Γ) p l e ({ frames := 1, cells := 0, slots := 0, locals := 21 } : Room) s' m args below meth c' 0 0 (MQ below (Qg Γ (some (.int x)) (gL σ w)) args s' 0 0 (GA Γ)) 9 (gL σ w) 150 [(0, .ref (ad Γ 66)), (1, .int a1), (2, .int a2), (3, .int a3), (4, .int a4), (5, .int a5), (6, .int a6)] [] := by
    intro _ hk
    refine y_iconst hC dX11_isNamed_150 (v := (1 : Int32)) (by decide) 151 rfl ?_
    refine y_goto hC dX11_isNamed_151 155 (by decide) ?_
    have e := Option.some.inj hk
    exact y_zret hC hr hlk rfl (by rw [← e]) (by first | rfl | rw [← e]) dX11_isNamed_155
  have J130 : ∀ (_ : Unit), f_X11_isNamed_j130 w a1 a2 a3 a4 a5 a6 = some x → Y Γ (GA Γ) p l e ({ frames := 1, cells := 0, slots := 0, locals := 21 } : Room) s' m args below meth c' 0 0 (MQ below (Qg Γ (some (.int x)) (gL σ w)) args s' 0 0 (GA Γ)) 9 (gL σ w) 130 [(0, .ref (ad Γ 66)), (1, .int a1), (2, .int a2), (3, .int a3), (4, .int a4), (5, .int a5), (6, .int a6)] [] := by
    intro _ hk
    refine y_iload hC dX11_isNamed_130 6 rfl 132 rfl ?_
    refine y_if_eq hC dX11_isNamed_132 150 (by decide) 135 rfl (fun h132 => ?_) (fun h132 => ?_)
    · have hk := ob_pos h132 hk
      refine y_sub [0, 1, 2, 3, 4, 5, 6] rfl ?_
      exact J150 () hk
    · have hk := ob_neg h132 hk
      refine y_aload_n hC dX11_isNamed_135 0 rfl 136 rfl ?_
      refine y_aload_n hC dX11_isNamed_136 0 rfl 137 rfl ?_
      refine y_get hC 66 (hB 66 (by decide) (by decide)) (cl_L (u := w) rfl) rfl inU11 8 (by decide) w4_106 rfl dX11_isNamed_137 140 rfl ?_
      refine y_iconst hC dX11_isNamed_140 (v := (5 : Int32)) (by decide) 141 rfl ?_
      refine y_iadd hC dX11_isNamed_141 142 rfl ?_
      obtain ⟨x142, hx142, hk⟩ := ob_bind hk
      refine y_callV hC 66 (hB 66 (by decide) (by decide)) (cl_L (u := w) rfl) rfl (c_X11_byteAt hJ hB l σ w ((pL_start w) + (5 : Int32)) x142 hx142) rfl ⟨w5_9, w1_13, cwd_X11_byteAt, by decide, by decide⟩ w5_6 w5_8 ws4_5 rfl rfl (Nat.le_of_ble_eq_true rfl) (by decide) dX11_isNamed_142 145 rfl (gL σ w) rfl [.int x142] rfl ?_
      refine y_iload hC dX11_isNamed_145 6 rfl 147 rfl ?_
      refine y_icmp_ne hC dX11_isNamed_147 154 (by decide) 150 rfl (fun h147 => ?_) (fun h147 => ?_)
      · have hk := ob_neg h147 hk
        refine y_iconst hC dX11_isNamed_154 (v := (0 : Int32)) (by decide) 155 rfl ?_
        have e := Option.some.inj hk
        exact y_zret hC hr hlk rfl (by rw [← e]) (by first | rfl | rw [← e]) dX11_isNamed_155
      · have hk := ob_pos h147 hk
        refine y_sub [0, 1, 2, 3, 4, 5, 6] rfl ?_
        exact J150 () hk
  have J103 : ∀ (t0 : Int32), f_X11_isNamed_j103 w a1 a2 a3 a4 a5 a6 t0 = some x → Y Γ (GA Γ) p l e ({ frames := 1, cells := 0, slots := 0, locals := 21 } : Room) s' m args below meth c' 0 0 (MQ below (Qg Γ (some (.int x)) (gL σ w)) args s' 0 0 (GA Γ)) 9 (gL σ w) 103 [(0, .ref (ad Γ 66)), (1, .int a1), (2, .int a2), (3, .int a3), (4, .int a4), (5, .int a5), (6, .int a6)] [.int t0] := by
    intro t0 hk
    refine y_istore hC dX11_isNamed_103 (by decide) [(8, .int t0), (0, .ref (ad Γ 66)), (1, .int a1), (2, .int a2), (3, .int a3), (4, .int a4), (5, .int a5), (6, .int a6)] rfl 105 rfl ?_
    refine y_iload hC dX11_isNamed_105 0 rfl 107 rfl ?_
    refine y_if_eq hC dX11_isNamed_107 154 (by decide) 110 rfl (fun h107 => ?_) (fun h107 => ?_)
    · have hk := ob_pos h107 hk
      refine y_iconst hC dX11_isNamed_154 (v := (0 : Int32)) (by decide) 155 rfl ?_
      have e := Option.some.inj hk
      exact y_zret hC hr hlk rfl (by rw [← e]) (by first | rfl | rw [← e]) dX11_isNamed_155
    · have hk := ob_neg h107 hk
      refine y_iload hC dX11_isNamed_110 6 rfl 112 rfl ?_
      refine y_if_eq hC dX11_isNamed_112 130 (by decide) 115 rfl (fun h112 => ?_) (fun h112 => ?_)
      · have hk := ob_pos h112 hk
        refine y_sub [1, 2, 3, 4, 5, 6, 7] rfl ?_
        exact J130 () hk
      · have hk := ob_neg h112 hk
        refine y_aload_n hC dX11_isNamed_115 1 rfl 116 rfl ?_
        refine y_aload_n hC dX11_isNamed_116 1 rfl 117 rfl ?_
        refine y_get hC 66 (hB 66 (by decide) (by decide)) (cl_L (u := w) rfl) rfl inU11 8 (by decide) w4_106 rfl dX11_isNamed_117 120 rfl ?_
        refine y_iconst hC dX11_isNamed_120 (v := (4 : Int32)) (by decide) 121 rfl ?_
        refine y_iadd hC dX11_isNamed_121 122 rfl ?_
        obtain ⟨x122, hx122, hk⟩ := ob_bind hk
        refine y_callV hC 66 (hB 66 (by decide) (by decide)) (cl_L (u := w) rfl) rfl (c_X11_byteAt hJ hB l σ w ((pL_start w) + (4 : Int32)) x122 hx122) rfl ⟨w5_9, w1_13, cwd_X11_byteAt, by decide, by decide⟩ w5_6 w5_8 ws4_5 rfl rfl (Nat.le_of_ble_eq_true rfl) (by decide) dX11_isNamed_122 125 rfl (gL σ w) rfl [.int x122] rfl ?_
        refine y_iload hC dX11_isNamed_125 6 rfl 127 rfl ?_
        refine y_icmp_ne hC dX11_isNamed_127 154 (by decide) 130 rfl (fun h127 => ?_) (fun h127 => ?_)
        · have hk := ob_neg h127 hk
          refine y_iconst hC dX11_isNamed_154 (v := (0 : Int32)) (by decide) 155 rfl ?_
          have e := Option.some.inj hk
          exact y_zret hC hr hlk rfl (by rw [← e]) (by first | rfl | rw [← e]) dX11_isNamed_155
        · have hk := ob_pos h127 hk
          refine y_sub [1, 2, 3, 4, 5, 6, 7] rfl ?_
          exact J130 () hk
  have J102 : ∀ (_ : Unit), f_X11_isNamed_j102 w a1 a2 a3 a4 a5 a6 = some x → Y Γ (GA Γ) p l e ({ frames := 1, cells := 0, slots := 0, locals := 21 } : Room) s' m args below meth c' 0 0 (MQ below (Qg Γ (some (.int x)) (gL σ w)) args s' 0 0 (GA Γ)) 9 (gL σ w) 102 [(0, .ref (ad Γ 66)), (1, .int a1), (2, .int a2), (3, .int a3), (4, .int a4), (5, .int a5), (6, .int a6)] [] := by
    intro _ hk
    refine y_iconst hC dX11_isNamed_102 (v := (0 : Int32)) (by decide) 103 rfl ?_
    refine y_sub [0, 1, 2, 3, 4, 5, 6] rfl ?_
    exact J103 (0 : Int32) hk
  have J20 : ∀ (t0 : Int32), f_X11_isNamed_j20 w a1 a2 a3 a4 a5 a6 t0 = some x → Y Γ (GA Γ) p l e ({ frames := 1, cells := 0, slots := 0, locals := 21 } : Room) s' m args below meth c' 0 0 (MQ below (Qg Γ (some (.int x)) (gL σ w)) args s' 0 0 (GA Γ)) 9 (gL σ w) 20 [(0, .ref (ad Γ 66)), (1, .int a1), (2, .int a2), (3, .int a3), (4, .int a4), (5, .int a5), (6, .int a6)] [.int t0] := by
    intro t0 hk
    refine y_istore hC dX11_isNamed_20 (by decide) [(7, .int t0), (0, .ref (ad Γ 66)), (1, .int a1), (2, .int a2), (3, .int a3), (4, .int a4), (5, .int a5), (6, .int a6)] rfl 22 rfl ?_
    refine y_aload_n hC dX11_isNamed_22 1 rfl 23 rfl ?_
    refine y_get hC 66 (hB 66 (by decide) (by decide)) (cl_L (u := w) rfl) rfl inU11 9 (by decide) w4_107 rfl dX11_isNamed_23 26 rfl ?_
    refine y_if_eq hC dX11_isNamed_26 102 (by decide) 29 rfl (fun h26 => ?_) (fun h26 => ?_)
    · have hk := ob_pos h26 hk
      refine y_sub [1, 2, 3, 4, 5, 6, 7] rfl ?_
      exact J102 () hk
    · have hk := ob_neg h26 hk
      refine y_aload_n hC dX11_isNamed_29 1 rfl 30 rfl ?_
      refine y_get hC 66 (hB 66 (by decide) (by decide)) (cl_L (u := w) rfl) rfl inU11 7 (by decide) w4_105 rfl dX11_isNamed_30 33 rfl ?_
      refine y_aload_n hC dX11_isNamed_33 1 rfl 34 rfl ?_
      refine y_get hC 66 (hB 66 (by decide) (by decide)) (cl_L (u := w) rfl) rfl inU11 8 (by decide) w4_106 rfl dX11_isNamed_34 37 rfl ?_
      refine y_isub hC dX11_isNamed_37 38 rfl ?_
      refine y_iload hC dX11_isNamed_38 0 rfl 40 rfl ?_
      refine y_icmp_ne hC dX11_isNamed_40 102 (by decide) 43 rfl (fun h40 => ?_) (fun h40 => ?_)
      · have hk := ob_neg h40 hk
        refine y_sub [1, 2, 3, 4, 5, 6, 7] rfl ?_
        exact J102 () hk
      · have hk := ob_pos h40 hk
        refine y_aload_n hC dX11_isNamed_43 1 rfl 44 rfl ?_
        refine y_aload_n hC dX11_isNamed_44 1 rfl 45 rfl ?_
        refine y_get hC 66 (hB 66 (by decide) (by decide)) (cl_L (u := w) rfl) rfl inU11 8 (by decide) w4_106 rfl dX11_isNamed_45 48 rfl ?_
        obtain ⟨x48, hx48, hk⟩ := ob_bind hk
        refine y_callV hC 66 (hB 66 (by decide) (by decide)) (cl_L (u := w) rfl) rfl (c_X11_byteAt hJ hB l σ w (pL_start w) x48 hx48) rfl ⟨w5_9, w1_13, cwd_X11_byteAt, by decide, by decide⟩ w5_6 w5_8 ws4_5 rfl rfl (Nat.le_of_ble_eq_true rfl) (by decide) dX11_isNamed_48 51 rfl (gL σ w) rfl [.int x48] rfl ?_
        refine y_iload_n hC dX11_isNamed_51 2 rfl 52 rfl ?_
        refine y_icmp_ne hC dX11_isNamed_52 102 (by decide) 55 rfl (fun h52 => ?_) (fun h52 => ?_)
        · have hk := ob_neg h52 hk
          refine y_sub [1, 2, 3, 4, 5, 6, 7] rfl ?_
          exact J102 () hk
        · have hk := ob_pos h52 hk
          refine y_aload_n hC dX11_isNamed_55 1 rfl 56 rfl ?_
          refine y_aload_n hC dX11_isNamed_56 1 rfl 57 rfl ?_
          refine y_get hC 66 (hB 66 (by decide) (by decide)) (cl_L (u := w) rfl) rfl inU11 8 (by decide) w4_106 rfl dX11_isNamed_57 60 rfl ?_
          refine y_iconst hC dX11_isNamed_60 (v := (1 : Int32)) (by decide) 61 rfl ?_
          refine y_iadd hC dX11_isNamed_61 62 rfl ?_
          obtain ⟨x62, hx62, hk⟩ := ob_bind hk
          refine y_callV hC 66 (hB 66 (by decide) (by decide)) (cl_L (u := w) rfl) rfl (c_X11_byteAt hJ hB l σ w ((pL_start w) + (1 : Int32)) x62 hx62) rfl ⟨w5_9, w1_13, cwd_X11_byteAt, by decide, by decide⟩ w5_6 w5_8 ws4_5 rfl rfl (Nat.le_of_ble_eq_true rfl) (by decide) dX11_isNamed_62 65 rfl (gL σ w) rfl [.int x62] rfl ?_
          refine y_iload_n hC dX11_isNamed_65 3 rfl 66 rfl ?_
          refine y_icmp_ne hC dX11_isNamed_66 102 (by decide) 69 rfl (fun h66 => ?_) (fun h66 => ?_)
          · have hk := ob_neg h66 hk
            refine y_sub [1, 2, 3, 4, 5, 6, 7] rfl ?_
            exact J102 () hk
          · have hk := ob_pos h66 hk
            refine y_aload_n hC dX11_isNamed_69 1 rfl 70 rfl ?_
            refine y_aload_n hC dX11_isNamed_70 1 rfl 71 rfl ?_
            refine y_get hC 66 (hB 66 (by decide) (by decide)) (cl_L (u := w) rfl) rfl inU11 8 (by decide) w4_106 rfl dX11_isNamed_71 74 rfl ?_
            refine y_iconst hC dX11_isNamed_74 (v := (2 : Int32)) (by decide) 75 rfl ?_
            refine y_iadd hC dX11_isNamed_75 76 rfl ?_
            obtain ⟨x76, hx76, hk⟩ := ob_bind hk
            refine y_callV hC 66 (hB 66 (by decide) (by decide)) (cl_L (u := w) rfl) rfl (c_X11_byteAt hJ hB l σ w ((pL_start w) + (2 : Int32)) x76 hx76) rfl ⟨w5_9, w1_13, cwd_X11_byteAt, by decide, by decide⟩ w5_6 w5_8 ws4_5 rfl rfl (Nat.le_of_ble_eq_true rfl) (by decide) dX11_isNamed_76 79 rfl (gL σ w) rfl [.int x76] rfl ?_
            refine y_iload_n hC dX11_isNamed_79 4 rfl 80 rfl ?_
            refine y_icmp_ne hC dX11_isNamed_80 102 (by decide) 83 rfl (fun h80 => ?_) (fun h80 => ?_)
            · have hk := ob_neg h80 hk
              refine y_sub [1, 2, 3, 4, 5, 6, 7] rfl ?_
              exact J102 () hk
            · have hk := ob_pos h80 hk
              refine y_aload_n hC dX11_isNamed_83 1 rfl 84 rfl ?_
              refine y_aload_n hC dX11_isNamed_84 1 rfl 85 rfl ?_
              refine y_get hC 66 (hB 66 (by decide) (by decide)) (cl_L (u := w) rfl) rfl inU11 8 (by decide) w4_106 rfl dX11_isNamed_85 88 rfl ?_
              refine y_iconst hC dX11_isNamed_88 (v := (3 : Int32)) (by decide) 89 rfl ?_
              refine y_iadd hC dX11_isNamed_89 90 rfl ?_
              obtain ⟨x90, hx90, hk⟩ := ob_bind hk
              refine y_callV hC 66 (hB 66 (by decide) (by decide)) (cl_L (u := w) rfl) rfl (c_X11_byteAt hJ hB l σ w ((pL_start w) + (3 : Int32)) x90 hx90) rfl ⟨w5_9, w1_13, cwd_X11_byteAt, by decide, by decide⟩ w5_6 w5_8 ws4_5 rfl rfl (Nat.le_of_ble_eq_true rfl) (by decide) dX11_isNamed_90 93 rfl (gL σ w) rfl [.int x90] rfl ?_
              refine y_iload hC dX11_isNamed_93 5 rfl 95 rfl ?_
              refine y_icmp_ne hC dX11_isNamed_95 102 (by decide) 98 rfl (fun h95 => ?_) (fun h95 => ?_)
              · have hk := ob_neg h95 hk
                refine y_sub [1, 2, 3, 4, 5, 6, 7] rfl ?_
                exact J102 () hk
              · have hk := ob_pos h95 hk
                refine y_iconst hC dX11_isNamed_98 (v := (1 : Int32)) (by decide) 99 rfl ?_
                refine y_goto hC dX11_isNamed_99 103 (by decide) ?_
                refine y_sub [1, 2, 3, 4, 5, 6, 7] rfl ?_
                exact J103 (1 : Int32) hk
  refine y_iload hC dX11_isNamed_0 5 rfl 2 rfl ?_
  refine y_if_ne hC dX11_isNamed_2 9 (by decide) 5 rfl (fun h2 => ?_) (fun h2 => ?_)
  · have hk := ob_neg h2 hk
    refine y_iload hC dX11_isNamed_9 6 rfl 11 rfl ?_
    refine y_if_ne hC dX11_isNamed_11 18 (by decide) 14 rfl (fun h11 => ?_) (fun h11 => ?_)
    · have hk := ob_neg h11 hk
      refine y_bipush hC dX11_isNamed_18 (v := (6 : Int32)) (by decide) 20 rfl ?_
      refine y_sub [0, 1, 2, 3, 4, 5, 6] rfl ?_
      exact J20 (6 : Int32) hk
    · have hk := ob_pos h11 hk
      refine y_iconst hC dX11_isNamed_14 (v := (5 : Int32)) (by decide) 15 rfl ?_
      refine y_goto hC dX11_isNamed_15 20 (by decide) ?_
      refine y_sub [0, 1, 2, 3, 4, 5, 6] rfl ?_
      exact J20 (5 : Int32) hk
  · have hk := ob_pos h2 hk
    refine y_iconst hC dX11_isNamed_5 (v := (4 : Int32)) (by decide) 6 rfl ?_
    refine y_goto hC dX11_isNamed_6 20 (by decide) ?_
    refine y_sub [0, 1, 2, 3, 4, 5, 6] rfl ?_
    exact J20 (4 : Int32) hk
def f_X11_wordNow (w : LSt) : Option (Int32) :=
  (f_X11_isNamed w (109 : Int32) (97 : Int32) (114 : Int32) (107 : Int32) (101 : Int32) (116 : Int32)).bind fun x13 => 
    (if x13 = 0 then
      (f_X11_isNamed w (112 : Int32) (114 : Int32) (105 : Int32) (99 : Int32) (101 : Int32) (0 : Int32)).bind fun x33 => 
        (if x33 = 0 then
          (f_X11_isNamed w (116 : Int32) (104 : Int32) (101 : Int32) (105 : Int32) (114 : Int32) (115 : Int32)).bind fun x54 => 
            (if x54 = 0 then
              (f_X11_isNamed w (114 : Int32) (97 : Int32) (105 : Int32) (110 : Int32) (0 : Int32) (0 : Int32)).bind fun x73 => 
                (if x73 = 0 then
                  (f_X11_isNamed w (98 : Int32) (117 : Int32) (121 : Int32) (101 : Int32) (114 : Int32) (0 : Int32)).bind fun x95 => 
                    (if x95 = 0 then
                      some (-1 : Int32)
                    else
                      some (4 : Int32))
                else
                  some (3 : Int32))
            else
              some (2 : Int32))
        else
          some (1 : Int32))
    else
      some (0 : Int32))
theorem cwd_X11_wordNow : yX11_wordNow.cls ≠ "java/lang/invoke/MethodHandle" ∧ yX11_wordNow.cls ≠ "java/lang/invoke/VarHandle" ∧ (parseMethodDescriptor yX11_wordNow.desc).map (fun d => d.parameters.length) = some 0 := by decide +kernel
set_option maxHeartbeats 4000000 in
set_option maxRecDepth 100000 in
theorem c_X11_wordNow {Γ : GC} (hJ : GJ Γ) (hB : ∀ i, 66 ≤ i → i < 77 → act Γ i) (l : Launch) (σ : GSt) (w : LSt) (x : Int32) (hk : f_X11_wordNow w = some x) : Mt Γ l yX11_wordNow cX11_wordNow 1 (some .int) 2 49 [.ref (ad Γ 66)] (gL σ w) (some (.int x)) (gL σ w) := by
  refine y_enter (by decide) hJ (Nat.le_of_ble_eq_true rfl) [(0, .ref (ad Γ 66))] rfl ?_
  intro p e s' m args below meth c' hC hr hlk
  refine y_aload_n hC dX11_wordNow_0 0 rfl 1 rfl ?_
  refine y_bipush hC dX11_wordNow_1 (v := (109 : Int32)) (by decide) 3 rfl ?_
  refine y_bipush hC dX11_wordNow_3 (v := (97 : Int32)) (by decide) 5 rfl ?_
  refine y_bipush hC dX11_wordNow_5 (v := (114 : Int32)) (by decide) 7 rfl ?_
  refine y_bipush hC dX11_wordNow_7 (v := (107 : Int32)) (by decide) 9 rfl ?_
  refine y_bipush hC dX11_wordNow_9 (v := (101 : Int32)) (by decide) 11 rfl ?_
  refine y_bipush hC dX11_wordNow_11 (v := (116 : Int32)) (by decide) 13 rfl ?_
  obtain ⟨x13, hx13, hk⟩ := ob_bind hk
  refine y_callV hC 66 (hB 66 (by decide) (by decide)) (cl_L (u := w) rfl) rfl (c_X11_isNamed hJ hB l σ w (109 : Int32) (97 : Int32) (114 : Int32) (107 : Int32) (101 : Int32) (116 : Int32) x13 hx13) rfl ⟨w5_25, w1_13, cwd_X11_isNamed, by decide, by decide⟩ w5_22 w5_24 ws4_8 rfl rfl (Nat.le_of_ble_eq_true rfl) (by decide) dX11_wordNow_13 16 rfl (gL σ w) rfl [.int x13] rfl ?_
  refine y_if_eq hC dX11_wordNow_16 21 (by decide) 19 rfl (fun h16 => ?_) (fun h16 => ?_)
  · have hk := ob_pos h16 hk
    refine y_aload_n hC dX11_wordNow_21 0 rfl 22 rfl ?_
    refine y_bipush hC dX11_wordNow_22 (v := (112 : Int32)) (by decide) 24 rfl ?_
    refine y_bipush hC dX11_wordNow_24 (v := (114 : Int32)) (by decide) 26 rfl ?_
    refine y_bipush hC dX11_wordNow_26 (v := (105 : Int32)) (by decide) 28 rfl ?_
    refine y_bipush hC dX11_wordNow_28 (v := (99 : Int32)) (by decide) 30 rfl ?_
    refine y_bipush hC dX11_wordNow_30 (v := (101 : Int32)) (by decide) 32 rfl ?_
    refine y_iconst hC dX11_wordNow_32 (v := (0 : Int32)) (by decide) 33 rfl ?_
    obtain ⟨x33, hx33, hk⟩ := ob_bind hk
    refine y_callV hC 66 (hB 66 (by decide) (by decide)) (cl_L (u := w) rfl) rfl (c_X11_isNamed hJ hB l σ w (112 : Int32) (114 : Int32) (105 : Int32) (99 : Int32) (101 : Int32) (0 : Int32) x33 hx33) rfl ⟨w5_25, w1_13, cwd_X11_isNamed, by decide, by decide⟩ w5_22 w5_24 ws4_8 rfl rfl (Nat.le_of_ble_eq_true rfl) (by decide) dX11_wordNow_33 36 rfl (gL σ w) rfl [.int x33] rfl ?_
    refine y_if_eq hC dX11_wordNow_36 41 (by decide) 39 rfl (fun h36 => ?_) (fun h36 => ?_)
    · have hk := ob_pos h36 hk
      refine y_aload_n hC dX11_wordNow_41 0 rfl 42 rfl ?_
      refine y_bipush hC dX11_wordNow_42 (v := (116 : Int32)) (by decide) 44 rfl ?_
      refine y_bipush hC dX11_wordNow_44 (v := (104 : Int32)) (by decide) 46 rfl ?_
      refine y_bipush hC dX11_wordNow_46 (v := (101 : Int32)) (by decide) 48 rfl ?_
      refine y_bipush hC dX11_wordNow_48 (v := (105 : Int32)) (by decide) 50 rfl ?_
      refine y_bipush hC dX11_wordNow_50 (v := (114 : Int32)) (by decide) 52 rfl ?_
      refine y_bipush hC dX11_wordNow_52 (v := (115 : Int32)) (by decide) 54 rfl ?_
      obtain ⟨x54, hx54, hk⟩ := ob_bind hk
      refine y_callV hC 66 (hB 66 (by decide) (by decide)) (cl_L (u := w) rfl) rfl (c_X11_isNamed hJ hB l σ w (116 : Int32) (104 : Int32) (101 : Int32) (105 : Int32) (114 : Int32) (115 : Int32) x54 hx54) rfl ⟨w5_25, w1_13, cwd_X11_isNamed, by decide, by decide⟩ w5_22 w5_24 ws4_8 rfl rfl (Nat.le_of_ble_eq_true rfl) (by decide) dX11_wordNow_54 57 rfl (gL σ w) rfl [.int x54] rfl ?_
      refine y_if_eq hC dX11_wordNow_57 62 (by decide) 60 rfl (fun h57 => ?_) (fun h57 => ?_)
      · have hk := ob_pos h57 hk
        refine y_aload_n hC dX11_wordNow_62 0 rfl 63 rfl ?_
        refine y_bipush hC dX11_wordNow_63 (v := (114 : Int32)) (by decide) 65 rfl ?_
        refine y_bipush hC dX11_wordNow_65 (v := (97 : Int32)) (by decide) 67 rfl ?_
        refine y_bipush hC dX11_wordNow_67 (v := (105 : Int32)) (by decide) 69 rfl ?_
        refine y_bipush hC dX11_wordNow_69 (v := (110 : Int32)) (by decide) 71 rfl ?_
        refine y_iconst hC dX11_wordNow_71 (v := (0 : Int32)) (by decide) 72 rfl ?_
        refine y_iconst hC dX11_wordNow_72 (v := (0 : Int32)) (by decide) 73 rfl ?_
        obtain ⟨x73, hx73, hk⟩ := ob_bind hk
        refine y_callV hC 66 (hB 66 (by decide) (by decide)) (cl_L (u := w) rfl) rfl (c_X11_isNamed hJ hB l σ w (114 : Int32) (97 : Int32) (105 : Int32) (110 : Int32) (0 : Int32) (0 : Int32) x73 hx73) rfl ⟨w5_25, w1_13, cwd_X11_isNamed, by decide, by decide⟩ w5_22 w5_24 ws4_8 rfl rfl (Nat.le_of_ble_eq_true rfl) (by decide) dX11_wordNow_73 76 rfl (gL σ w) rfl [.int x73] rfl ?_
        refine y_if_eq hC dX11_wordNow_76 83 (by decide) 79 rfl (fun h76 => ?_) (fun h76 => ?_)
        · have hk := ob_pos h76 hk
          refine y_aload_n hC dX11_wordNow_83 0 rfl 84 rfl ?_
          refine y_bipush hC dX11_wordNow_84 (v := (98 : Int32)) (by decide) 86 rfl ?_
          refine y_bipush hC dX11_wordNow_86 (v := (117 : Int32)) (by decide) 88 rfl ?_
          refine y_bipush hC dX11_wordNow_88 (v := (121 : Int32)) (by decide) 90 rfl ?_
          refine y_bipush hC dX11_wordNow_90 (v := (101 : Int32)) (by decide) 92 rfl ?_
          refine y_bipush hC dX11_wordNow_92 (v := (114 : Int32)) (by decide) 94 rfl ?_
          refine y_iconst hC dX11_wordNow_94 (v := (0 : Int32)) (by decide) 95 rfl ?_
          obtain ⟨x95, hx95, hk⟩ := ob_bind hk
          refine y_callV hC 66 (hB 66 (by decide) (by decide)) (cl_L (u := w) rfl) rfl (c_X11_isNamed hJ hB l σ w (98 : Int32) (117 : Int32) (121 : Int32) (101 : Int32) (114 : Int32) (0 : Int32) x95 hx95) rfl ⟨w5_25, w1_13, cwd_X11_isNamed, by decide, by decide⟩ w5_22 w5_24 ws4_8 rfl rfl (Nat.le_of_ble_eq_true rfl) (by decide) dX11_wordNow_95 98 rfl (gL σ w) rfl [.int x95] rfl ?_
          refine y_if_eq hC dX11_wordNow_98 105 (by decide) 101 rfl (fun h98 => ?_) (fun h98 => ?_)
          · have hk := ob_pos h98 hk
            refine y_iconst hC dX11_wordNow_105 (v := (-1 : Int32)) (by decide) 106 rfl ?_
            have e := Option.some.inj hk
            exact y_iret hC hr hlk (by rw [← e]) (by first | rfl | rw [← e]) dX11_wordNow_106
          · have hk := ob_neg h98 hk
            refine y_iconst hC dX11_wordNow_101 (v := (4 : Int32)) (by decide) 102 rfl ?_
            refine y_goto hC dX11_wordNow_102 106 (by decide) ?_
            have e := Option.some.inj hk
            exact y_iret hC hr hlk (by rw [← e]) (by first | rfl | rw [← e]) dX11_wordNow_106
        · have hk := ob_neg h76 hk
          refine y_iconst hC dX11_wordNow_79 (v := (3 : Int32)) (by decide) 80 rfl ?_
          refine y_goto hC dX11_wordNow_80 106 (by decide) ?_
          have e := Option.some.inj hk
          exact y_iret hC hr hlk (by rw [← e]) (by first | rfl | rw [← e]) dX11_wordNow_106
      · have hk := ob_neg h57 hk
        refine y_iconst hC dX11_wordNow_60 (v := (2 : Int32)) (by decide) 61 rfl ?_
        have e := Option.some.inj hk
        exact y_iret hC hr hlk (by rw [← e]) (by first | rfl | rw [← e]) dX11_wordNow_61
    · have hk := ob_neg h36 hk
      refine y_iconst hC dX11_wordNow_39 (v := (1 : Int32)) (by decide) 40 rfl ?_
      have e := Option.some.inj hk
      exact y_iret hC hr hlk (by rw [← e]) (by first | rfl | rw [← e]) dX11_wordNow_40
  · have hk := ob_neg h16 hk
    refine y_iconst hC dX11_wordNow_19 (v := (0 : Int32)) (by decide) 20 rfl ?_
    have e := Option.some.inj hk
    exact y_iret hC hr hlk (by rw [← e]) (by first | rfl | rw [← e]) dX11_wordNow_20
def f_X11_takesNumber_j70 (a1 : Int32) (a2 : Int32) (gw : LSt) : Option (Int32 × LSt) :=
  (f_X11_in (pL_value gw).toInt64 a1.toInt64 a2.toInt64).bind fun x79 => 
    (if x79 = 0 ∨ x79 = 1 then 
    (some (x79, gw))
  else none)
def f_X11_takesNumber_s36 (a1 : Int32) (a2 : Int32) (K36 : (Int32 × LSt) → Option (Int32 × LSt)) (q36 : Int32 × LSt) : Option (Int32 × LSt) :=
  if (pL_at q36.2) ≤ q36.1 then
    f_X11_takesNumber_j70 a1 a2 q36.2
  else
    (f_X11_byteAt q36.2 q36.1).bind fun x54 => 
      (lt (sL_value q36.2 ((((10 : Int32) * (pL_value q36.2)) + x54) - (48 : Int32))) fun g61 => 
      (K36 ((q36.1 + (1 : Int32)), g61)))
def f_X11_takesNumber (w : LSt) (a1 : Int32) (a2 : Int32) : Option (Int32 × LSt) :=
  (f_X11_token w).bind fun x1 => 
    (lt (sL_value x1 (0 : Int32)) fun g6 => 
    (if (pL_isFigures g6) = 0 then
      some ((0 : Int32), g6)
    else
      if ((pL_at g6) - (pL_start g6)) ≤ (2 : Int32) then
        lp (f_X11_takesNumber_s36 a1 a2) 1000 ((pL_start g6), g6)
      else
        some ((0 : Int32), g6)))
theorem cwd_X11_takesNumber : yX11_takesNumber.cls ≠ "java/lang/invoke/MethodHandle" ∧ yX11_takesNumber.cls ≠ "java/lang/invoke/VarHandle" ∧ (parseMethodDescriptor yX11_takesNumber.desc).map (fun d => d.parameters.length) = some 2 := by decide +kernel
set_option maxHeartbeats 4000000 in
set_option maxRecDepth 100000 in
theorem c_X11_takesNumber {Γ : GC} (hJ : GJ Γ) (hB : ∀ i, 66 ≤ i → i < 77 → act Γ i) (l : Launch) (σ : GSt) (w : LSt) (a1 : Int32) (a2 : Int32) (x : Int32 × LSt) (hk : f_X11_takesNumber w a1 a2 = some x) : Mt Γ l yX11_takesNumber cX11_takesNumber 4 (some .boolean) 2 45 [.ref (ad Γ 66), .int a1, .int a2] (gL σ w) (some (.int x.1)) (gL σ x.2) := by
  refine y_enter (by decide) hJ (Nat.le_of_ble_eq_true rfl) [(0, .ref (ad Γ 66)), (1, .int a1), (2, .int a2)] rfl ?_
  intro p e s' m args below meth c' hC hr hlk
  have J70 : ∀ (gw : LSt), f_X11_takesNumber_j70 a1 a2 gw = some x → Y Γ (GA Γ) p l e ({ frames := 2, cells := 0, slots := 0, locals := 45 } : Room) s' m args below meth c' 0 0 (MQ below (Qg Γ (some (.int x.1)) (gL σ x.2)) args s' 0 0 (GA Γ)) 4 (gL σ gw) 70 [(0, .ref (ad Γ 66)), (1, .int a1), (2, .int a2)] [] := by
    intro gw hk
    refine y_aload_n hC dX11_takesNumber_70 0 rfl 71 rfl ?_
    refine y_get hC 66 (hB 66 (by decide) (by decide)) (cl_L (u := gw) rfl) rfl inU11 11 (by decide) w4_109 rfl dX11_takesNumber_71 74 rfl ?_
    refine y_i2l hC dX11_takesNumber_74 75 rfl ?_
    refine y_iload_n hC dX11_takesNumber_75 1 rfl 76 rfl ?_
    refine y_i2l hC dX11_takesNumber_76 77 rfl ?_
    refine y_iload_n hC dX11_takesNumber_77 2 rfl 78 rfl ?_
    refine y_i2l hC dX11_takesNumber_78 79 rfl ?_
    obtain ⟨x79, hx79, hk⟩ := ob_bind hk
    refine y_callS hC (c_X11_in hJ l (gL σ gw) (pL_value gw).toInt64 a1.toInt64 a2.toInt64 x79 hx79) rfl ⟨w4_181, w1_13, cwd_X11_in, by decide, by decide⟩ w4_179 w4_180 rfl rfl (Nat.le_of_ble_eq_true rfl) (by decide) dX11_takesNumber_79 82 rfl (gL σ gw) rfl [.int x79] rfl ?_
    obtain ⟨h82, hk⟩ := ob_if hk
    have e := Option.some.inj hk
    exact y_zret hC hr hlk (nz_bool h82) (by rw [← e]) (by first | rfl | rw [← e]) dX11_takesNumber_82
  have L36 : ∀ (n36 : Nat) (q36 : Int32 × LSt), lp (f_X11_takesNumber_s36 a1 a2) n36 q36 = some x → Y Γ (GA Γ) p l e ({ frames := 2, cells := 0, slots := 0, locals := 45 } : Room) s' m args below meth c' 0 0 (MQ below (Qg Γ (some (.int x.1)) (gL σ x.2)) args s' 0 0 (GA Γ)) 4 (gL σ q36.2) 36 [(0, .ref (ad Γ 66)), (1, .int a1), (2, .int a2), (3, .int q36.1)] [] := by
    intro n36
    induction n36 with
    | zero => intro q36 hk; exact (lp_zero hk).elim
    | succ n36 ih36 =>
      intro q36 hk
      have hk : f_X11_takesNumber_s36 a1 a2 (lp (f_X11_takesNumber_s36 a1 a2) n36) q36 = some x := (lp_succ _ _ _).symm.trans hk
      refine y_iload_n hC dX11_takesNumber_36 3 rfl 37 rfl ?_
      refine y_aload_n hC dX11_takesNumber_37 0 rfl 38 rfl ?_
      refine y_get hC 66 (hB 66 (by decide) (by decide)) (cl_L (u := q36.2) rfl) rfl inU11 7 (by decide) w4_105 rfl dX11_takesNumber_38 41 rfl ?_
      refine y_icmp_ge hC dX11_takesNumber_41 70 (by decide) 44 rfl (fun h41 => ?_) (fun h41 => ?_)
      · have hk := ob_pos h41 hk
        refine y_sub [0, 1, 2] rfl ?_
        exact J70 q36.2 hk
      · have hk := ob_neg h41 hk
        refine y_aload_n hC dX11_takesNumber_44 0 rfl 45 rfl ?_
        refine y_bipush hC dX11_takesNumber_45 (v := (10 : Int32)) (by decide) 47 rfl ?_
        refine y_aload_n hC dX11_takesNumber_47 0 rfl 48 rfl ?_
        refine y_get hC 66 (hB 66 (by decide) (by decide)) (cl_L (u := q36.2) rfl) rfl inU11 11 (by decide) w4_109 rfl dX11_takesNumber_48 51 rfl ?_
        refine y_imul hC dX11_takesNumber_51 52 rfl ?_
        refine y_aload_n hC dX11_takesNumber_52 0 rfl 53 rfl ?_
        refine y_iload_n hC dX11_takesNumber_53 3 rfl 54 rfl ?_
        obtain ⟨x54, hx54, hk⟩ := ob_bind hk
        refine y_callV hC 66 (hB 66 (by decide) (by decide)) (cl_L (u := q36.2) rfl) rfl (c_X11_byteAt hJ hB l σ q36.2 q36.1 x54 hx54) rfl ⟨w5_9, w1_13, cwd_X11_byteAt, by decide, by decide⟩ w5_6 w5_8 ws4_5 rfl rfl (Nat.le_of_ble_eq_true rfl) (by decide) dX11_takesNumber_54 57 rfl (gL σ q36.2) rfl [.int x54, .int ((10 : Int32) * (pL_value q36.2)), .ref (ad Γ 66)] rfl ?_
        refine y_iadd hC dX11_takesNumber_57 58 rfl ?_
        refine y_bipush hC dX11_takesNumber_58 (v := (48 : Int32)) (by decide) 60 rfl ?_
        refine y_isub hC dX11_takesNumber_60 61 rfl ?_
        obtain ⟨g61, eg61, hk⟩ := ob_lt hk
        refine y_put hC 66 (hB 66 (by decide) (by decide)) (cl_L (u := q36.2) rfl) rfl inU11 tyX11_ok nmX11 11 (by decide) w4_109 rfl rfl rfl rfl (Nat.le_of_ble_eq_true rfl) (gL σ g61) (by subst eg61; exact (cu_L_value (u := q36.2) (v := ((((10 : Int32) * (pL_value q36.2)) + x54) - (48 : Int32))) rfl rfl)) dX11_takesNumber_61 64 rfl ?_
        refine y_iinc hC dX11_takesNumber_64 3 rfl (v := (q36.1 + (1 : Int32))) rfl (by decide) [(3, .int (q36.1 + (1 : Int32))), (0, .ref (ad Γ 66)), (1, .int a1), (2, .int a2)] rfl 67 rfl ?_
        refine y_goto hC dX11_takesNumber_67 36 (by decide) ?_
        refine y_sub [1, 2, 3, 0] rfl ?_
        exact ih36 ((q36.1 + (1 : Int32)), g61) hk
  refine y_aload_n hC dX11_takesNumber_0 0 rfl 1 rfl ?_
  obtain ⟨x1, hx1, hk⟩ := ob_bind hk
  refine y_callV hC 66 (hB 66 (by decide) (by decide)) (cl_L (u := w) rfl) rfl (c_X11_token hJ hB l σ w x1 hx1) rfl ⟨w5_5, w1_13, cwd_X11_token, by decide, by decide⟩ w5_2 w5_4 ws4_4 rfl rfl (Nat.le_of_ble_eq_true rfl) (by decide) dX11_takesNumber_1 4 rfl (gL σ x1) rfl [] rfl ?_
  refine y_aload_n hC dX11_takesNumber_4 0 rfl 5 rfl ?_
  refine y_iconst hC dX11_takesNumber_5 (v := (0 : Int32)) (by decide) 6 rfl ?_
  obtain ⟨g6, eg6, hk⟩ := ob_lt hk
  refine y_put hC 66 (hB 66 (by decide) (by decide)) (cl_L (u := x1) rfl) rfl inU11 tyX11_ok nmX11 11 (by decide) w4_109 rfl rfl rfl rfl (Nat.le_of_ble_eq_true rfl) (gL σ g6) (by subst eg6; exact (cu_L_value (u := x1) (v := (0 : Int32)) rfl rfl)) dX11_takesNumber_6 9 rfl ?_
  refine y_aload_n hC dX11_takesNumber_9 0 rfl 10 rfl ?_
  refine y_get hC 66 (hB 66 (by decide) (by decide)) (cl_L (u := g6) rfl) rfl inU11 10 (by decide) w4_108 rfl dX11_takesNumber_10 13 rfl ?_
  refine y_if_eq hC dX11_takesNumber_13 29 (by decide) 16 rfl (fun h13 => ?_) (fun h13 => ?_)
  · have hk := ob_pos h13 hk
    refine y_iconst hC dX11_takesNumber_29 (v := (0 : Int32)) (by decide) 30 rfl ?_
    have e := Option.some.inj hk
    exact y_zret hC hr hlk rfl (by rw [← e]) (by first | rfl | rw [← e]) dX11_takesNumber_30
  · have hk := ob_neg h13 hk
    refine y_aload_n hC dX11_takesNumber_16 0 rfl 17 rfl ?_
    refine y_get hC 66 (hB 66 (by decide) (by decide)) (cl_L (u := g6) rfl) rfl inU11 7 (by decide) w4_105 rfl dX11_takesNumber_17 20 rfl ?_
    refine y_aload_n hC dX11_takesNumber_20 0 rfl 21 rfl ?_
    refine y_get hC 66 (hB 66 (by decide) (by decide)) (cl_L (u := g6) rfl) rfl inU11 8 (by decide) w4_106 rfl dX11_takesNumber_21 24 rfl ?_
    refine y_isub hC dX11_takesNumber_24 25 rfl ?_
    refine y_iconst hC dX11_takesNumber_25 (v := (2 : Int32)) (by decide) 26 rfl ?_
    refine y_icmp_le hC dX11_takesNumber_26 31 (by decide) 29 rfl (fun h26 => ?_) (fun h26 => ?_)
    · have hk := ob_pos h26 hk
      refine y_aload_n hC dX11_takesNumber_31 0 rfl 32 rfl ?_
      refine y_get hC 66 (hB 66 (by decide) (by decide)) (cl_L (u := g6) rfl) rfl inU11 8 (by decide) w4_106 rfl dX11_takesNumber_32 35 rfl ?_
      refine y_istore_n hC dX11_takesNumber_35 (by decide) [(3, .int (pL_start g6)), (0, .ref (ad Γ 66)), (1, .int a1), (2, .int a2)] rfl 36 rfl ?_
      refine y_sub [1, 2, 3, 0] rfl ?_
      exact L36 1000 ((pL_start g6), g6) hk
    · have hk := ob_neg h26 hk
      refine y_iconst hC dX11_takesNumber_29 (v := (0 : Int32)) (by decide) 30 rfl ?_
      have e := Option.some.inj hk
      exact y_zret hC hr hlk rfl (by rw [← e]) (by first | rfl | rw [← e]) dX11_takesNumber_30
def f_X11_takesMarket (w : LSt) : Option (Int32 × LSt) :=
  (f_X11_takesNumber w (0 : Int32) (99 : Int32)).bind fun x4 => 
    (if x4.1 = 0 then
      some ((0 : Int32), x4.2)
    else
      (f_X11_takesNumber x4.2 (0 : Int32) (9 : Int32)).bind fun x21 => 
        (if x21.1 = 0 then
          some ((0 : Int32), x21.2)
        else
          (f_X11_begins x21.2 (456 : Int32) (pL_value x4.2) (pL_value x21.2)).bind fun x38 => 
            (some ((1 : Int32), x38))))
theorem cwd_X11_takesMarket : yX11_takesMarket.cls ≠ "java/lang/invoke/MethodHandle" ∧ yX11_takesMarket.cls ≠ "java/lang/invoke/VarHandle" ∧ (parseMethodDescriptor yX11_takesMarket.desc).map (fun d => d.parameters.length) = some 0 := by decide +kernel
set_option maxHeartbeats 4000000 in
set_option maxRecDepth 100000 in
theorem c_X11_takesMarket {Γ : GC} (hJ : GJ Γ) (hB : ∀ i, 66 ≤ i → i < 77 → act Γ i) (l : Launch) (σ : GSt) (w : LSt) (x : Int32 × LSt) (hk : f_X11_takesMarket w = some x) : Mt Γ l yX11_takesMarket cX11_takesMarket 2 (some .boolean) 3 68 [.ref (ad Γ 66)] (gL σ w) (some (.int x.1)) (gL σ x.2) := by
  refine y_enter (by decide) hJ (Nat.le_of_ble_eq_true rfl) [(0, .ref (ad Γ 66))] rfl ?_
  intro p e s' m args below meth c' hC hr hlk
  refine y_aload_n hC dX11_takesMarket_0 0 rfl 1 rfl ?_
  refine y_iconst hC dX11_takesMarket_1 (v := (0 : Int32)) (by decide) 2 rfl ?_
  refine y_bipush hC dX11_takesMarket_2 (v := (99 : Int32)) (by decide) 4 rfl ?_
  obtain ⟨x4, hx4, hk⟩ := ob_bind hk
  refine y_callV hC 66 (hB 66 (by decide) (by decide)) (cl_L (u := w) rfl) rfl (c_X11_takesNumber hJ hB l σ w (0 : Int32) (99 : Int32) x4 hx4) rfl ⟨w5_33, w1_13, cwd_X11_takesNumber, by decide, by decide⟩ w5_30 w5_32 ws4_10 rfl rfl (Nat.le_of_ble_eq_true rfl) (by decide) dX11_takesMarket_4 7 rfl (gL σ x4.2) rfl [.int x4.1] rfl ?_
  refine y_if_ne hC dX11_takesMarket_7 12 (by decide) 10 rfl (fun h7 => ?_) (fun h7 => ?_)
  · have hk := ob_neg h7 hk
    refine y_aload_n hC dX11_takesMarket_12 0 rfl 13 rfl ?_
    refine y_get hC 66 (hB 66 (by decide) (by decide)) (cl_L (u := x4.2) rfl) rfl inU11 11 (by decide) w4_109 rfl dX11_takesMarket_13 16 rfl ?_
    refine y_istore_n hC dX11_takesMarket_16 (by decide) [(1, .int (pL_value x4.2)), (0, .ref (ad Γ 66))] rfl 17 rfl ?_
    refine y_aload_n hC dX11_takesMarket_17 1 rfl 18 rfl ?_
    refine y_iconst hC dX11_takesMarket_18 (v := (0 : Int32)) (by decide) 19 rfl ?_
    refine y_bipush hC dX11_takesMarket_19 (v := (9 : Int32)) (by decide) 21 rfl ?_
    obtain ⟨x21, hx21, hk⟩ := ob_bind hk
    refine y_callV hC 66 (hB 66 (by decide) (by decide)) (cl_L (u := x4.2) rfl) rfl (c_X11_takesNumber hJ hB l σ x4.2 (0 : Int32) (9 : Int32) x21 hx21) rfl ⟨w5_33, w1_13, cwd_X11_takesNumber, by decide, by decide⟩ w5_30 w5_32 ws4_10 rfl rfl (Nat.le_of_ble_eq_true rfl) (by decide) dX11_takesMarket_21 24 rfl (gL σ x21.2) rfl [.int x21.1] rfl ?_
    refine y_if_ne hC dX11_takesMarket_24 29 (by decide) 27 rfl (fun h24 => ?_) (fun h24 => ?_)
    · have hk := ob_neg h24 hk
      refine y_aload_n hC dX11_takesMarket_29 1 rfl 30 rfl ?_
      refine y_sipush hC dX11_takesMarket_30 (v := (456 : Int32)) (by decide) 33 rfl ?_
      refine y_iload_n hC dX11_takesMarket_33 0 rfl 34 rfl ?_
      refine y_aload_n hC dX11_takesMarket_34 1 rfl 35 rfl ?_
      refine y_get hC 66 (hB 66 (by decide) (by decide)) (cl_L (u := x21.2) rfl) rfl inU11 11 (by decide) w4_109 rfl dX11_takesMarket_35 38 rfl ?_
      obtain ⟨x38, hx38, hk⟩ := ob_bind hk
      refine y_callV hC 66 (hB 66 (by decide) (by decide)) (cl_L (u := x21.2) rfl) rfl (c_X11_begins hJ hB l σ x21.2 (456 : Int32) (pL_value x4.2) (pL_value x21.2) x38 hx38) rfl ⟨w4_97, w1_13, cwd_X11_begins, by decide, by decide⟩ w4_94 w4_96 ws3_14 rfl rfl (Nat.le_of_ble_eq_true rfl) (by decide) dX11_takesMarket_38 41 rfl (gL σ x38) rfl [] rfl ?_
      refine y_iconst hC dX11_takesMarket_41 (v := (1 : Int32)) (by decide) 42 rfl ?_
      have e := Option.some.inj hk
      exact y_zret hC hr hlk rfl (by rw [← e]) (by first | rfl | rw [← e]) dX11_takesMarket_42
    · have hk := ob_pos h24 hk
      refine y_iconst hC dX11_takesMarket_27 (v := (0 : Int32)) (by decide) 28 rfl ?_
      have e := Option.some.inj hk
      exact y_zret hC hr hlk rfl (by rw [← e]) (by first | rfl | rw [← e]) dX11_takesMarket_28
  · have hk := ob_pos h7 hk
    refine y_iconst hC dX11_takesMarket_10 (v := (0 : Int32)) (by decide) 11 rfl ?_
    have e := Option.some.inj hk
    exact y_zret hC hr hlk rfl (by rw [← e]) (by first | rfl | rw [← e]) dX11_takesMarket_11
def f_X11_takesBuyer (w : LSt) : Option (Int32 × LSt) :=
  if inb (459 : Int32) 608 then 
    (if (pL_w w (459 : Int32).toNatClampNeg) = (8 : Int32) then
      some ((0 : Int32), w)
    else
      (f_X11_takesNumber w (0 : Int32) (5 : Int32)).bind fun x16 => 
        (if x16.1 = 0 then
          some ((0 : Int32), x16.2)
        else
          (f_X11_takesNumber x16.2 (0 : Int32) (9 : Int32)).bind fun x33 => 
            (if x33.1 = 0 then
              some ((0 : Int32), x33.2)
            else
              (f_X11_takesNumber x33.2 (0 : Int32) (99 : Int32)).bind fun x50 => 
                (if x50.1 = 0 then
                  some ((0 : Int32), x50.2)
                else
                  (f_X11_takesNumber x50.2 (1 : Int32) (3 : Int32)).bind fun x66 => 
                    (if x66.1 = 0 then
                      some ((0 : Int32), x66.2)
                    else
                      (f_X11_adds x66.2 (456 : Int32) (pL_value x16.2) (pL_value x33.2) (pL_value x50.2) (pL_value x66.2)).bind fun x83 => 
                        (if x83.1 < 0 then
                          some ((0 : Int32), x83.2)
                        else
                          some ((1 : Int32), x83.2)))))))
  else none
theorem cwd_X11_takesBuyer : yX11_takesBuyer.cls ≠ "java/lang/invoke/MethodHandle" ∧ yX11_takesBuyer.cls ≠ "java/lang/invoke/VarHandle" ∧ (parseMethodDescriptor yX11_takesBuyer.desc).map (fun d => d.parameters.length) = some 0 := by decide +kernel
set_option maxHeartbeats 4000000 in
set_option maxRecDepth 100000 in
theorem c_X11_takesBuyer {Γ : GC} (hJ : GJ Γ) (hB : ∀ i, 66 ≤ i → i < 77 → act Γ i) (l : Launch) (σ : GSt) (w : LSt) (x : Int32 × LSt) (hk : f_X11_takesBuyer w = some x) : Mt Γ l yX11_takesBuyer cX11_takesBuyer 4 (some .boolean) 3 68 [.ref (ad Γ 66)] (gL σ w) (some (.int x.1)) (gL σ x.2) := by
  refine y_enter (by decide) hJ (Nat.le_of_ble_eq_true rfl) [(0, .ref (ad Γ 66))] rfl ?_
  intro p e s' m args below meth c' hC hr hlk
  refine y_aload_n hC dX11_takesBuyer_0 0 rfl 1 rfl ?_
  refine y_get hC 66 (hB 66 (by decide) (by decide)) (cl_L (u := w) rfl) rfl inU11 0 (by decide) w4_98 rfl dX11_takesBuyer_1 4 rfl ?_
  refine y_sipush hC dX11_takesBuyer_4 (v := (459 : Int32)) (by decide) 7 rfl ?_
  obtain ⟨h7, hk⟩ := ob_if hk
  refine y_iald hC 67 (hB 67 (by decide) (by decide)) (cl_L_w (u := w) rfl) h7 dX11_takesBuyer_7 8 rfl ?_
  refine y_bipush hC dX11_takesBuyer_8 (v := (8 : Int32)) (by decide) 10 rfl ?_
  refine y_icmp_eq hC dX11_takesBuyer_10 22 (by decide) 13 rfl (fun h10 => ?_) (fun h10 => ?_)
  · have hk := ob_pos h10 hk
    refine y_iconst hC dX11_takesBuyer_22 (v := (0 : Int32)) (by decide) 23 rfl ?_
    have e := Option.some.inj hk
    exact y_zret hC hr hlk rfl (by rw [← e]) (by first | rfl | rw [← e]) dX11_takesBuyer_23
  · have hk := ob_neg h10 hk
    refine y_aload_n hC dX11_takesBuyer_13 0 rfl 14 rfl ?_
    refine y_iconst hC dX11_takesBuyer_14 (v := (0 : Int32)) (by decide) 15 rfl ?_
    refine y_iconst hC dX11_takesBuyer_15 (v := (5 : Int32)) (by decide) 16 rfl ?_
    obtain ⟨x16, hx16, hk⟩ := ob_bind hk
    refine y_callV hC 66 (hB 66 (by decide) (by decide)) (cl_L (u := w) rfl) rfl (c_X11_takesNumber hJ hB l σ w (0 : Int32) (5 : Int32) x16 hx16) rfl ⟨w5_33, w1_13, cwd_X11_takesNumber, by decide, by decide⟩ w5_30 w5_32 ws4_10 rfl rfl (Nat.le_of_ble_eq_true rfl) (by decide) dX11_takesBuyer_16 19 rfl (gL σ x16.2) rfl [.int x16.1] rfl ?_
    refine y_if_ne hC dX11_takesBuyer_19 24 (by decide) 22 rfl (fun h19 => ?_) (fun h19 => ?_)
    · have hk := ob_neg h19 hk
      refine y_aload_n hC dX11_takesBuyer_24 0 rfl 25 rfl ?_
      refine y_get hC 66 (hB 66 (by decide) (by decide)) (cl_L (u := x16.2) rfl) rfl inU11 11 (by decide) w4_109 rfl dX11_takesBuyer_25 28 rfl ?_
      refine y_istore_n hC dX11_takesBuyer_28 (by decide) [(1, .int (pL_value x16.2)), (0, .ref (ad Γ 66))] rfl 29 rfl ?_
      refine y_aload_n hC dX11_takesBuyer_29 1 rfl 30 rfl ?_
      refine y_iconst hC dX11_takesBuyer_30 (v := (0 : Int32)) (by decide) 31 rfl ?_
      refine y_bipush hC dX11_takesBuyer_31 (v := (9 : Int32)) (by decide) 33 rfl ?_
      obtain ⟨x33, hx33, hk⟩ := ob_bind hk
      refine y_callV hC 66 (hB 66 (by decide) (by decide)) (cl_L (u := x16.2) rfl) rfl (c_X11_takesNumber hJ hB l σ x16.2 (0 : Int32) (9 : Int32) x33 hx33) rfl ⟨w5_33, w1_13, cwd_X11_takesNumber, by decide, by decide⟩ w5_30 w5_32 ws4_10 rfl rfl (Nat.le_of_ble_eq_true rfl) (by decide) dX11_takesBuyer_33 36 rfl (gL σ x33.2) rfl [.int x33.1] rfl ?_
      refine y_if_ne hC dX11_takesBuyer_36 41 (by decide) 39 rfl (fun h36 => ?_) (fun h36 => ?_)
      · have hk := ob_neg h36 hk
        refine y_aload_n hC dX11_takesBuyer_41 1 rfl 42 rfl ?_
        refine y_get hC 66 (hB 66 (by decide) (by decide)) (cl_L (u := x33.2) rfl) rfl inU11 11 (by decide) w4_109 rfl dX11_takesBuyer_42 45 rfl ?_
        refine y_istore_n hC dX11_takesBuyer_45 (by decide) [(2, .int (pL_value x33.2)), (1, .int (pL_value x16.2)), (0, .ref (ad Γ 66))] rfl 46 rfl ?_
        refine y_aload_n hC dX11_takesBuyer_46 2 rfl 47 rfl ?_
        refine y_iconst hC dX11_takesBuyer_47 (v := (0 : Int32)) (by decide) 48 rfl ?_
        refine y_bipush hC dX11_takesBuyer_48 (v := (99 : Int32)) (by decide) 50 rfl ?_
        obtain ⟨x50, hx50, hk⟩ := ob_bind hk
        refine y_callV hC 66 (hB 66 (by decide) (by decide)) (cl_L (u := x33.2) rfl) rfl (c_X11_takesNumber hJ hB l σ x33.2 (0 : Int32) (99 : Int32) x50 hx50) rfl ⟨w5_33, w1_13, cwd_X11_takesNumber, by decide, by decide⟩ w5_30 w5_32 ws4_10 rfl rfl (Nat.le_of_ble_eq_true rfl) (by decide) dX11_takesBuyer_50 53 rfl (gL σ x50.2) rfl [.int x50.1] rfl ?_
        refine y_if_ne hC dX11_takesBuyer_53 58 (by decide) 56 rfl (fun h53 => ?_) (fun h53 => ?_)
        · have hk := ob_neg h53 hk
          refine y_aload_n hC dX11_takesBuyer_58 2 rfl 59 rfl ?_
          refine y_get hC 66 (hB 66 (by decide) (by decide)) (cl_L (u := x50.2) rfl) rfl inU11 11 (by decide) w4_109 rfl dX11_takesBuyer_59 62 rfl ?_
          refine y_istore_n hC dX11_takesBuyer_62 (by decide) [(3, .int (pL_value x50.2)), (2, .int (pL_value x33.2)), (1, .int (pL_value x16.2)), (0, .ref (ad Γ 66))] rfl 63 rfl ?_
          refine y_aload_n hC dX11_takesBuyer_63 3 rfl 64 rfl ?_
          refine y_iconst hC dX11_takesBuyer_64 (v := (1 : Int32)) (by decide) 65 rfl ?_
          refine y_iconst hC dX11_takesBuyer_65 (v := (3 : Int32)) (by decide) 66 rfl ?_
          obtain ⟨x66, hx66, hk⟩ := ob_bind hk
          refine y_callV hC 66 (hB 66 (by decide) (by decide)) (cl_L (u := x50.2) rfl) rfl (c_X11_takesNumber hJ hB l σ x50.2 (1 : Int32) (3 : Int32) x66 hx66) rfl ⟨w5_33, w1_13, cwd_X11_takesNumber, by decide, by decide⟩ w5_30 w5_32 ws4_10 rfl rfl (Nat.le_of_ble_eq_true rfl) (by decide) dX11_takesBuyer_66 69 rfl (gL σ x66.2) rfl [.int x66.1] rfl ?_
          refine y_if_eq hC dX11_takesBuyer_69 93 (by decide) 72 rfl (fun h69 => ?_) (fun h69 => ?_)
          · have hk := ob_pos h69 hk
            refine y_iconst hC dX11_takesBuyer_93 (v := (0 : Int32)) (by decide) 94 rfl ?_
            have e := Option.some.inj hk
            exact y_zret hC hr hlk rfl (by rw [← e]) (by first | rfl | rw [← e]) dX11_takesBuyer_94
          · have hk := ob_neg h69 hk
            refine y_aload_n hC dX11_takesBuyer_72 3 rfl 73 rfl ?_
            refine y_sipush hC dX11_takesBuyer_73 (v := (456 : Int32)) (by decide) 76 rfl ?_
            refine y_iload_n hC dX11_takesBuyer_76 2 rfl 77 rfl ?_
            refine y_iload_n hC dX11_takesBuyer_77 1 rfl 78 rfl ?_
            refine y_iload_n hC dX11_takesBuyer_78 0 rfl 79 rfl ?_
            refine y_aload_n hC dX11_takesBuyer_79 3 rfl 80 rfl ?_
            refine y_get hC 66 (hB 66 (by decide) (by decide)) (cl_L (u := x66.2) rfl) rfl inU11 11 (by decide) w4_109 rfl dX11_takesBuyer_80 83 rfl ?_
            obtain ⟨x83, hx83, hk⟩ := ob_bind hk
            refine y_callV hC 66 (hB 66 (by decide) (by decide)) (cl_L (u := x66.2) rfl) rfl (c_X11_adds hJ hB l σ x66.2 (456 : Int32) (pL_value x16.2) (pL_value x33.2) (pL_value x50.2) (pL_value x66.2) x83 hx83) rfl ⟨w4_228, w1_13, cwd_X11_adds, by decide, by decide⟩ w4_225 w4_227 ws4_3 rfl rfl (Nat.le_of_ble_eq_true rfl) (by decide) dX11_takesBuyer_83 86 rfl (gL σ x83.2) rfl [.int x83.1] rfl ?_
            refine y_if_lt hC dX11_takesBuyer_86 93 (by decide) 89 rfl (fun h86 => ?_) (fun h86 => ?_)
            · have hk := ob_pos h86 hk
              refine y_iconst hC dX11_takesBuyer_93 (v := (0 : Int32)) (by decide) 94 rfl ?_
              have e := Option.some.inj hk
              exact y_zret hC hr hlk rfl (by rw [← e]) (by first | rfl | rw [← e]) dX11_takesBuyer_94
            · have hk := ob_neg h86 hk
              refine y_iconst hC dX11_takesBuyer_89 (v := (1 : Int32)) (by decide) 90 rfl ?_
              refine y_goto hC dX11_takesBuyer_90 94 (by decide) ?_
              have e := Option.some.inj hk
              exact y_zret hC hr hlk rfl (by rw [← e]) (by first | rfl | rw [← e]) dX11_takesBuyer_94
        · have hk := ob_pos h53 hk
          refine y_iconst hC dX11_takesBuyer_56 (v := (0 : Int32)) (by decide) 57 rfl ?_
          have e := Option.some.inj hk
          exact y_zret hC hr hlk rfl (by rw [← e]) (by first | rfl | rw [← e]) dX11_takesBuyer_57
      · have hk := ob_pos h36 hk
        refine y_iconst hC dX11_takesBuyer_39 (v := (0 : Int32)) (by decide) 40 rfl ?_
        have e := Option.some.inj hk
        exact y_zret hC hr hlk rfl (by rw [← e]) (by first | rfl | rw [← e]) dX11_takesBuyer_40
    · have hk := ob_pos h19 hk
      refine y_iconst hC dX11_takesBuyer_22 (v := (0 : Int32)) (by decide) 23 rfl ?_
      have e := Option.some.inj hk
      exact y_zret hC hr hlk rfl (by rw [← e]) (by first | rfl | rw [← e]) dX11_takesBuyer_23
def f_X11_takesHourAnd (w : LSt) (a1 : Int32) : Option (Int32 × LSt) :=
  (f_X11_takesNumber w (0 : Int32) (9 : Int32)).bind fun x4 => 
    (if x4.1 = 0 then
      some ((0 : Int32), x4.2)
    else
      if a1 = (3 : Int32) then
        if inb (458 : Int32) 608 then 
          (if inb (458 : Int32) 608 then 
          (lt (sL_w x4.2 (upd (pL_w x4.2) (458 : Int32).toNatClampNeg ((pL_w x4.2 (458 : Int32).toNatClampNeg) ||| ((1 : Int32) <<< ((pL_value x4.2) &&& 31))))) fun g35 => 
          (some ((1 : Int32), g35)))
        else none)
        else none
      else
        (f_X11_takesNumber x4.2 (0 : Int32) (99 : Int32)).bind fun x42 => 
          (if x42.1 = 0 then
            some ((0 : Int32), x42.2)
          else
            if a1 = (1 : Int32) then
              (f_X11_pricesFrom x42.2 (456 : Int32) (pL_value x4.2) (pL_value x42.2)).bind fun x64 => 
                (some ((1 : Int32), x64))
            else
              if inb ((474 : Int32) + (pL_value x4.2)) 608 then 
                (lt (sL_w x42.2 (upd (pL_w x42.2) ((474 : Int32) + (pL_value x4.2)).toNatClampNeg (pL_value x42.2))) fun g83 => 
                (some ((1 : Int32), g83)))
              else none))
theorem cwd_X11_takesHourAnd : yX11_takesHourAnd.cls ≠ "java/lang/invoke/MethodHandle" ∧ yX11_takesHourAnd.cls ≠ "java/lang/invoke/VarHandle" ∧ (parseMethodDescriptor yX11_takesHourAnd.desc).map (fun d => d.parameters.length) = some 1 := by decide +kernel
set_option maxHeartbeats 4000000 in
set_option maxRecDepth 100000 in
theorem c_X11_takesHourAnd {Γ : GC} (hJ : GJ Γ) (hB : ∀ i, 66 ≤ i → i < 77 → act Γ i) (l : Launch) (σ : GSt) (w : LSt) (a1 : Int32) (x : Int32 × LSt) (hk : f_X11_takesHourAnd w a1 = some x) : Mt Γ l yX11_takesHourAnd cX11_takesHourAnd 3 (some .boolean) 3 68 [.ref (ad Γ 66), .int a1] (gL σ w) (some (.int x.1)) (gL σ x.2) := by
  refine y_enter (by decide) hJ (Nat.le_of_ble_eq_true rfl) [(0, .ref (ad Γ 66)), (1, .int a1)] rfl ?_
  intro p e s' m args below meth c' hC hr hlk
  refine y_aload_n hC dX11_takesHourAnd_0 0 rfl 1 rfl ?_
  refine y_iconst hC dX11_takesHourAnd_1 (v := (0 : Int32)) (by decide) 2 rfl ?_
  refine y_bipush hC dX11_takesHourAnd_2 (v := (9 : Int32)) (by decide) 4 rfl ?_
  obtain ⟨x4, hx4, hk⟩ := ob_bind hk
  refine y_callV hC 66 (hB 66 (by decide) (by decide)) (cl_L (u := w) rfl) rfl (c_X11_takesNumber hJ hB l σ w (0 : Int32) (9 : Int32) x4 hx4) rfl ⟨w5_33, w1_13, cwd_X11_takesNumber, by decide, by decide⟩ w5_30 w5_32 ws4_10 rfl rfl (Nat.le_of_ble_eq_true rfl) (by decide) dX11_takesHourAnd_4 7 rfl (gL σ x4.2) rfl [.int x4.1] rfl ?_
  refine y_if_ne hC dX11_takesHourAnd_7 12 (by decide) 10 rfl (fun h7 => ?_) (fun h7 => ?_)
  · have hk := ob_neg h7 hk
    refine y_aload_n hC dX11_takesHourAnd_12 0 rfl 13 rfl ?_
    refine y_get hC 66 (hB 66 (by decide) (by decide)) (cl_L (u := x4.2) rfl) rfl inU11 11 (by decide) w4_109 rfl dX11_takesHourAnd_13 16 rfl ?_
    refine y_istore_n hC dX11_takesHourAnd_16 (by decide) [(2, .int (pL_value x4.2)), (0, .ref (ad Γ 66)), (1, .int a1)] rfl 17 rfl ?_
    refine y_iload_n hC dX11_takesHourAnd_17 2 rfl 18 rfl ?_
    refine y_iconst hC dX11_takesHourAnd_18 (v := (3 : Int32)) (by decide) 19 rfl ?_
    refine y_icmp_ne hC dX11_takesHourAnd_19 38 (by decide) 22 rfl (fun h19 => ?_) (fun h19 => ?_)
    · have hk := ob_neg h19 hk
      refine y_aload_n hC dX11_takesHourAnd_38 1 rfl 39 rfl ?_
      refine y_iconst hC dX11_takesHourAnd_39 (v := (0 : Int32)) (by decide) 40 rfl ?_
      refine y_bipush hC dX11_takesHourAnd_40 (v := (99 : Int32)) (by decide) 42 rfl ?_
      obtain ⟨x42, hx42, hk⟩ := ob_bind hk
      refine y_callV hC 66 (hB 66 (by decide) (by decide)) (cl_L (u := x4.2) rfl) rfl (c_X11_takesNumber hJ hB l σ x4.2 (0 : Int32) (99 : Int32) x42 hx42) rfl ⟨w5_33, w1_13, cwd_X11_takesNumber, by decide, by decide⟩ w5_30 w5_32 ws4_10 rfl rfl (Nat.le_of_ble_eq_true rfl) (by decide) dX11_takesHourAnd_42 45 rfl (gL σ x42.2) rfl [.int x42.1] rfl ?_
      refine y_if_ne hC dX11_takesHourAnd_45 50 (by decide) 48 rfl (fun h45 => ?_) (fun h45 => ?_)
      · have hk := ob_neg h45 hk
        refine y_iload_n hC dX11_takesHourAnd_50 2 rfl 51 rfl ?_
        refine y_iconst hC dX11_takesHourAnd_51 (v := (1 : Int32)) (by decide) 52 rfl ?_
        refine y_icmp_ne hC dX11_takesHourAnd_52 70 (by decide) 55 rfl (fun h52 => ?_) (fun h52 => ?_)
        · have hk := ob_neg h52 hk
          refine y_aload_n hC dX11_takesHourAnd_70 1 rfl 71 rfl ?_
          refine y_get hC 66 (hB 66 (by decide) (by decide)) (cl_L (u := x42.2) rfl) rfl inU11 0 (by decide) w4_98 rfl dX11_takesHourAnd_71 74 rfl ?_
          refine y_sipush hC dX11_takesHourAnd_74 (v := (474 : Int32)) (by decide) 77 rfl ?_
          refine y_iload_n hC dX11_takesHourAnd_77 0 rfl 78 rfl ?_
          refine y_iadd hC dX11_takesHourAnd_78 79 rfl ?_
          refine y_aload_n hC dX11_takesHourAnd_79 1 rfl 80 rfl ?_
          refine y_get hC 66 (hB 66 (by decide) (by decide)) (cl_L (u := x42.2) rfl) rfl inU11 11 (by decide) w4_109 rfl dX11_takesHourAnd_80 83 rfl ?_
          obtain ⟨h83, hk⟩ := ob_if hk
          obtain ⟨g83, eg83, hk⟩ := ob_lt hk
          refine y_iast hC 67 (hB 67 (by decide) (by decide)) (cl_L_w (u := x42.2) rfl) h83 (gL σ g83) (by subst eg83; exact (cu_L_w (u := x42.2) (v := (upd (pL_w x42.2) ((474 : Int32) + (pL_value x4.2)).toNatClampNeg (pL_value x42.2))) rfl rfl)) dX11_takesHourAnd_83 84 rfl ?_
          refine y_iconst hC dX11_takesHourAnd_84 (v := (1 : Int32)) (by decide) 85 rfl ?_
          have e := Option.some.inj hk
          exact y_zret hC hr hlk rfl (by rw [← e]) (by first | rfl | rw [← e]) dX11_takesHourAnd_85
        · have hk := ob_pos h52 hk
          refine y_aload_n hC dX11_takesHourAnd_55 1 rfl 56 rfl ?_
          refine y_sipush hC dX11_takesHourAnd_56 (v := (456 : Int32)) (by decide) 59 rfl ?_
          refine y_iload_n hC dX11_takesHourAnd_59 0 rfl 60 rfl ?_
          refine y_aload_n hC dX11_takesHourAnd_60 1 rfl 61 rfl ?_
          refine y_get hC 66 (hB 66 (by decide) (by decide)) (cl_L (u := x42.2) rfl) rfl inU11 11 (by decide) w4_109 rfl dX11_takesHourAnd_61 64 rfl ?_
          obtain ⟨x64, hx64, hk⟩ := ob_bind hk
          refine y_callV hC 66 (hB 66 (by decide) (by decide)) (cl_L (u := x42.2) rfl) rfl (c_X11_pricesFrom hJ hB l σ x42.2 (456 : Int32) (pL_value x4.2) (pL_value x42.2) x64 hx64) rfl ⟨w4_205, w1_13, cwd_X11_pricesFrom, by decide, by decide⟩ w4_202 w4_204 ws4_1 rfl rfl (Nat.le_of_ble_eq_true rfl) (by decide) dX11_takesHourAnd_64 67 rfl (gL σ x64) rfl [] rfl ?_
          refine y_goto hC dX11_takesHourAnd_67 84 (by decide) ?_
          refine y_iconst hC dX11_takesHourAnd_84 (v := (1 : Int32)) (by decide) 85 rfl ?_
          have e := Option.some.inj hk
          exact y_zret hC hr hlk rfl (by rw [← e]) (by first | rfl | rw [← e]) dX11_takesHourAnd_85
      · have hk := ob_pos h45 hk
        refine y_iconst hC dX11_takesHourAnd_48 (v := (0 : Int32)) (by decide) 49 rfl ?_
        have e := Option.some.inj hk
        exact y_zret hC hr hlk rfl (by rw [← e]) (by first | rfl | rw [← e]) dX11_takesHourAnd_49
    · have hk := ob_pos h19 hk
      refine y_aload_n hC dX11_takesHourAnd_22 1 rfl 23 rfl ?_
      refine y_get hC 66 (hB 66 (by decide) (by decide)) (cl_L (u := x4.2) rfl) rfl inU11 0 (by decide) w4_98 rfl dX11_takesHourAnd_23 26 rfl ?_
      refine y_sipush hC dX11_takesHourAnd_26 (v := (458 : Int32)) (by decide) 29 rfl ?_
      refine y_dup2 hC dX11_takesHourAnd_29 rfl rfl 30 rfl ?_
      obtain ⟨h30, hk⟩ := ob_if hk
      refine y_iald hC 67 (hB 67 (by decide) (by decide)) (cl_L_w (u := x4.2) rfl) h30 dX11_takesHourAnd_30 31 rfl ?_
      refine y_iconst hC dX11_takesHourAnd_31 (v := (1 : Int32)) (by decide) 32 rfl ?_
      refine y_iload_n hC dX11_takesHourAnd_32 0 rfl 33 rfl ?_
      refine y_ishl hC dX11_takesHourAnd_33 34 rfl ?_
      refine y_ior hC dX11_takesHourAnd_34 35 rfl ?_
      obtain ⟨h35, hk⟩ := ob_if hk
      obtain ⟨g35, eg35, hk⟩ := ob_lt hk
      refine y_iast hC 67 (hB 67 (by decide) (by decide)) (cl_L_w (u := x4.2) rfl) h35 (gL σ g35) (by subst eg35; exact (cu_L_w (u := x4.2) (v := (upd (pL_w x4.2) (458 : Int32).toNatClampNeg ((pL_w x4.2 (458 : Int32).toNatClampNeg) ||| ((1 : Int32) <<< ((pL_value x4.2) &&& 31))))) rfl rfl)) dX11_takesHourAnd_35 36 rfl ?_
      refine y_iconst hC dX11_takesHourAnd_36 (v := (1 : Int32)) (by decide) 37 rfl ?_
      have e := Option.some.inj hk
      exact y_zret hC hr hlk rfl (by rw [← e]) (by first | rfl | rw [← e]) dX11_takesHourAnd_37
  · have hk := ob_pos h7 hk
    refine y_iconst hC dX11_takesHourAnd_10 (v := (0 : Int32)) (by decide) 11 rfl ?_
    have e := Option.some.inj hk
    exact y_zret hC hr hlk rfl (by rw [← e]) (by first | rfl | rw [← e]) dX11_takesHourAnd_11
def f_X11_takesItem_j61 (a1 : Int32) (t0 : Int32) (gw : LSt) : Option (Int32 × LSt) :=
  if t0 = 0 then
    some ((0 : Int32), gw)
  else
    (f_X11_token gw).bind fun x69 => 
      ((f_X11_byteAt x69 (pL_start x69)).bind fun x77 => 
      (if x77 = (59 : Int32) then
        some ((1 : Int32), x69)
      else
        some ((0 : Int32), x69)))
def f_X11_takesItem_j28 (a1 : Int32) (v2 : Int32) (t0 : Int32) (t1 : Int32) (gw : LSt) : Option (Int32 × LSt) :=
  if t1 = t0 then
    if v2 = 0 then
      (f_X11_takesMarket gw).bind fun x38 => 
        (f_X11_takesItem_j61 a1 x38.1 x38.2)
    else
      if v2 = (4 : Int32) then
        (f_X11_takesBuyer gw).bind fun x50 => 
          (f_X11_takesItem_j61 a1 x50.1 x50.2)
      else
        (f_X11_takesHourAnd gw v2).bind fun x58 => 
          (f_X11_takesItem_j61 a1 x58.1 x58.2)
  else
    some ((0 : Int32), gw)
def f_X11_takesItem_j19 (a1 : Int32) (v2 : Int32) (t0 : Int32) (gw : LSt) : Option (Int32 × LSt) :=
  if a1 = 0 then
    f_X11_takesItem_j28 a1 v2 (1 : Int32) t0 gw
  else
    f_X11_takesItem_j28 a1 v2 (0 : Int32) t0 gw
def f_X11_takesItem (w : LSt) (a1 : Int32) : Option (Int32 × LSt) :=
  (f_X11_wordNow w).bind fun x1 => 
    (if x1 = (-1 : Int32) then
      some ((0 : Int32), w)
    else
      if x1 = 0 then
        f_X11_takesItem_j19 a1 x1 (1 : Int32) w
      else
        f_X11_takesItem_j19 a1 x1 (0 : Int32) w)
theorem cwd_X11_takesItem : yX11_takesItem.cls ≠ "java/lang/invoke/MethodHandle" ∧ yX11_takesItem.cls ≠ "java/lang/invoke/VarHandle" ∧ (parseMethodDescriptor yX11_takesItem.desc).map (fun d => d.parameters.length) = some 1 := by decide +kernel
set_option maxHeartbeats 4000000 in
set_option maxRecDepth 100000 in
theorem c_X11_takesItem {Γ : GC} (hJ : GJ Γ) (hB : ∀ i, 66 ≤ i → i < 77 → act Γ i) (l : Launch) (σ : GSt) (w : LSt) (a1 : Int32) (x : Int32 × LSt) (hk : f_X11_takesItem w a1 = some x) : Mt Γ l yX11_takesItem cX11_takesItem 4 (some .boolean) 4 91 [.ref (ad Γ 66), .int a1] (gL σ w) (some (.int x.1)) (gL σ x.2) := by
  refine y_enter (by decide) hJ (Nat.le_of_ble_eq_true rfl) [(0, .ref (ad Γ 66)), (1, .int a1)] rfl ?_
  intro p e s' m args below meth c' hC hr hlk
  have J61 : ∀ (t0 : Int32) (gw : LSt), f_X11_takesItem_j61 a1 t0 gw = some x → Y Γ (GA Γ) p l e ({ frames := 4, cells := 0, slots := 0, locals := 91 } : Room) s' m args below meth c' 0 0 (MQ below (Qg Γ (some (.int x.1)) (gL σ x.2)) args s' 0 0 (GA Γ)) 4 (gL σ gw) 61 [(0, .ref (ad Γ 66)), (1, .int a1)] [.int t0] := by
    intro t0 gw hk
    refine y_istore_n hC dX11_takesItem_61 (by decide) [(3, .int t0), (0, .ref (ad Γ 66)), (1, .int a1)] rfl 62 rfl ?_
    refine y_iload_n hC dX11_takesItem_62 0 rfl 63 rfl ?_
    refine y_if_ne hC dX11_takesItem_63 68 (by decide) 66 rfl (fun h63 => ?_) (fun h63 => ?_)
    · have hk := ob_neg h63 hk
      refine y_aload_n hC dX11_takesItem_68 1 rfl 69 rfl ?_
      obtain ⟨x69, hx69, hk⟩ := ob_bind hk
      refine y_callV hC 66 (hB 66 (by decide) (by decide)) (cl_L (u := gw) rfl) rfl (c_X11_token hJ hB l σ gw x69 hx69) rfl ⟨w5_5, w1_13, cwd_X11_token, by decide, by decide⟩ w5_2 w5_4 ws4_4 rfl rfl (Nat.le_of_ble_eq_true rfl) (by decide) dX11_takesItem_69 72 rfl (gL σ x69) rfl [] rfl ?_
      refine y_aload_n hC dX11_takesItem_72 1 rfl 73 rfl ?_
      refine y_aload_n hC dX11_takesItem_73 1 rfl 74 rfl ?_
      refine y_get hC 66 (hB 66 (by decide) (by decide)) (cl_L (u := x69) rfl) rfl inU11 8 (by decide) w4_106 rfl dX11_takesItem_74 77 rfl ?_
      obtain ⟨x77, hx77, hk⟩ := ob_bind hk
      refine y_callV hC 66 (hB 66 (by decide) (by decide)) (cl_L (u := x69) rfl) rfl (c_X11_byteAt hJ hB l σ x69 (pL_start x69) x77 hx77) rfl ⟨w5_9, w1_13, cwd_X11_byteAt, by decide, by decide⟩ w5_6 w5_8 ws4_5 rfl rfl (Nat.le_of_ble_eq_true rfl) (by decide) dX11_takesItem_77 80 rfl (gL σ x69) rfl [.int x77] rfl ?_
      refine y_bipush hC dX11_takesItem_80 (v := (59 : Int32)) (by decide) 82 rfl ?_
      refine y_icmp_ne hC dX11_takesItem_82 89 (by decide) 85 rfl (fun h82 => ?_) (fun h82 => ?_)
      · have hk := ob_neg h82 hk
        refine y_iconst hC dX11_takesItem_89 (v := (0 : Int32)) (by decide) 90 rfl ?_
        have e := Option.some.inj hk
        exact y_zret hC hr hlk rfl (by rw [← e]) (by first | rfl | rw [← e]) dX11_takesItem_90
      · have hk := ob_pos h82 hk
        refine y_iconst hC dX11_takesItem_85 (v := (1 : Int32)) (by decide) 86 rfl ?_
        refine y_goto hC dX11_takesItem_86 90 (by decide) ?_
        have e := Option.some.inj hk
        exact y_zret hC hr hlk rfl (by rw [← e]) (by first | rfl | rw [← e]) dX11_takesItem_90
    · have hk := ob_pos h63 hk
      refine y_iconst hC dX11_takesItem_66 (v := (0 : Int32)) (by decide) 67 rfl ?_
      have e := Option.some.inj hk
      exact y_zret hC hr hlk rfl (by rw [← e]) (by first | rfl | rw [← e]) dX11_takesItem_67
  have J28 : ∀ (v2 : Int32) (t0 : Int32) (t1 : Int32) (gw : LSt), f_X11_takesItem_j28 a1 v2 t0 t1 gw = some x → Y Γ (GA Γ) p l e ({ frames := 4, cells := 0, slots := 0, locals := 91 } : Room) s' m args below meth c' 0 0 (MQ below (Qg Γ (some (.int x.1)) (gL σ x.2)) args s' 0 0 (GA Γ)) 4 (gL σ gw) 28 [(0, .ref (ad Γ 66)), (1, .int a1), (2, .int v2)] [.int t0, .int t1] := by
    intro v2 t0 t1 gw hk
    refine y_icmp_eq hC dX11_takesItem_28 33 (by decide) 31 rfl (fun h28 => ?_) (fun h28 => ?_)
    · have hk := ob_pos h28 hk
      refine y_iload_n hC dX11_takesItem_33 2 rfl 34 rfl ?_
      refine y_if_ne hC dX11_takesItem_34 44 (by decide) 37 rfl (fun h34 => ?_) (fun h34 => ?_)
      · have hk := ob_neg h34 hk
        refine y_iload_n hC dX11_takesItem_44 2 rfl 45 rfl ?_
        refine y_iconst hC dX11_takesItem_45 (v := (4 : Int32)) (by decide) 46 rfl ?_
        refine y_icmp_ne hC dX11_takesItem_46 56 (by decide) 49 rfl (fun h46 => ?_) (fun h46 => ?_)
        · have hk := ob_neg h46 hk
          refine y_aload_n hC dX11_takesItem_56 0 rfl 57 rfl ?_
          refine y_iload_n hC dX11_takesItem_57 2 rfl 58 rfl ?_
          obtain ⟨x58, hx58, hk⟩ := ob_bind hk
          refine y_callV hC 66 (hB 66 (by decide) (by decide)) (cl_L (u := gw) rfl) rfl (c_X11_takesHourAnd hJ hB l σ gw v2 x58 hx58) rfl ⟨w5_41, w1_13, cwd_X11_takesHourAnd, by decide, by decide⟩ w5_38 w5_40 ws4_12 rfl rfl (Nat.le_of_ble_eq_true rfl) (by decide) dX11_takesItem_58 61 rfl (gL σ x58.2) rfl [.int x58.1] rfl ?_
          refine y_sub [0, 1] rfl ?_
          exact J61 x58.1 x58.2 hk
        · have hk := ob_pos h46 hk
          refine y_aload_n hC dX11_takesItem_49 0 rfl 50 rfl ?_
          obtain ⟨x50, hx50, hk⟩ := ob_bind hk
          refine y_callV hC 66 (hB 66 (by decide) (by decide)) (cl_L (u := gw) rfl) rfl (c_X11_takesBuyer hJ hB l σ gw x50 hx50) rfl ⟨w5_37, w1_13, cwd_X11_takesBuyer, by decide, by decide⟩ w5_34 w5_36 ws4_11 rfl rfl (Nat.le_of_ble_eq_true rfl) (by decide) dX11_takesItem_50 53 rfl (gL σ x50.2) rfl [.int x50.1] rfl ?_
          refine y_goto hC dX11_takesItem_53 61 (by decide) ?_
          refine y_sub [0, 1] rfl ?_
          exact J61 x50.1 x50.2 hk
      · have hk := ob_pos h34 hk
        refine y_aload_n hC dX11_takesItem_37 0 rfl 38 rfl ?_
        obtain ⟨x38, hx38, hk⟩ := ob_bind hk
        refine y_callV hC 66 (hB 66 (by decide) (by decide)) (cl_L (u := gw) rfl) rfl (c_X11_takesMarket hJ hB l σ gw x38 hx38) rfl ⟨w5_29, w1_13, cwd_X11_takesMarket, by decide, by decide⟩ w5_26 w5_28 ws4_9 rfl rfl (Nat.le_of_ble_eq_true rfl) (by decide) dX11_takesItem_38 41 rfl (gL σ x38.2) rfl [.int x38.1] rfl ?_
        refine y_goto hC dX11_takesItem_41 61 (by decide) ?_
        refine y_sub [0, 1] rfl ?_
        exact J61 x38.1 x38.2 hk
    · have hk := ob_neg h28 hk
      refine y_iconst hC dX11_takesItem_31 (v := (0 : Int32)) (by decide) 32 rfl ?_
      have e := Option.some.inj hk
      exact y_zret hC hr hlk rfl (by rw [← e]) (by first | rfl | rw [← e]) dX11_takesItem_32
  have J19 : ∀ (v2 : Int32) (t0 : Int32) (gw : LSt), f_X11_takesItem_j19 a1 v2 t0 gw = some x → Y Γ (GA Γ) p l e ({ frames := 4, cells := 0, slots := 0, locals := 91 } : Room) s' m args below meth c' 0 0 (MQ below (Qg Γ (some (.int x.1)) (gL σ x.2)) args s' 0 0 (GA Γ)) 4 (gL σ gw) 19 [(0, .ref (ad Γ 66)), (1, .int a1), (2, .int v2)] [.int t0] := by
    intro v2 t0 gw hk
    refine y_iload_n hC dX11_takesItem_19 1 rfl 20 rfl ?_
    refine y_if_ne hC dX11_takesItem_20 27 (by decide) 23 rfl (fun h20 => ?_) (fun h20 => ?_)
    · have hk := ob_neg h20 hk
      refine y_iconst hC dX11_takesItem_27 (v := (0 : Int32)) (by decide) 28 rfl ?_
      refine y_sub [0, 1, 2] rfl ?_
      exact J28 v2 (0 : Int32) t0 gw hk
    · have hk := ob_pos h20 hk
      refine y_iconst hC dX11_takesItem_23 (v := (1 : Int32)) (by decide) 24 rfl ?_
      refine y_goto hC dX11_takesItem_24 28 (by decide) ?_
      refine y_sub [0, 1, 2] rfl ?_
      exact J28 v2 (1 : Int32) t0 gw hk
  refine y_aload_n hC dX11_takesItem_0 0 rfl 1 rfl ?_
  obtain ⟨x1, hx1, hk⟩ := ob_bind hk
  refine y_callV hC 66 (hB 66 (by decide) (by decide)) (cl_L (u := w) rfl) rfl (c_X11_wordNow hJ hB l σ w x1 hx1) rfl ⟨w5_21, w1_13, cwd_X11_wordNow, by decide, by decide⟩ w5_18 w5_20 ws4_7 rfl rfl (Nat.le_of_ble_eq_true rfl) (by decide) dX11_takesItem_1 4 rfl (gL σ w) rfl [.int x1] rfl ?_
  refine y_istore_n hC dX11_takesItem_4 (by decide) [(2, .int x1), (0, .ref (ad Γ 66)), (1, .int a1)] rfl 5 rfl ?_
  refine y_iload_n hC dX11_takesItem_5 0 rfl 6 rfl ?_
  refine y_iconst hC dX11_takesItem_6 (v := (-1 : Int32)) (by decide) 7 rfl ?_
  refine y_icmp_eq hC dX11_takesItem_7 31 (by decide) 10 rfl (fun h7 => ?_) (fun h7 => ?_)
  · have hk := ob_pos h7 hk
    refine y_iconst hC dX11_takesItem_31 (v := (0 : Int32)) (by decide) 32 rfl ?_
    have e := Option.some.inj hk
    exact y_zret hC hr hlk rfl (by rw [← e]) (by first | rfl | rw [← e]) dX11_takesItem_32
  · have hk := ob_neg h7 hk
    refine y_iload_n hC dX11_takesItem_10 0 rfl 11 rfl ?_
    refine y_if_ne hC dX11_takesItem_11 18 (by decide) 14 rfl (fun h11 => ?_) (fun h11 => ?_)
    · have hk := ob_neg h11 hk
      refine y_iconst hC dX11_takesItem_18 (v := (0 : Int32)) (by decide) 19 rfl ?_
      refine y_sub [1, 2, 0] rfl ?_
      exact J19 x1 (0 : Int32) w hk
    · have hk := ob_pos h11 hk
      refine y_iconst hC dX11_takesItem_14 (v := (1 : Int32)) (by decide) 15 rfl ?_
      refine y_goto hC dX11_takesItem_15 19 (by decide) ?_
      refine y_sub [1, 2, 0] rfl ?_
      exact J19 x1 (1 : Int32) w hk
def f_X11_copy_s2 (a1 : Int32) (a2 : Int32) (K2 : (Int32 × LSt) → Option (LSt)) (q2 : Int32 × LSt) : Option (LSt) :=
  if (152 : Int32) ≤ q2.1 then
    some q2.2
  else
    if inb (a1 + q2.1) 608 then 
      (if inb (a2 + q2.1) 608 then 
      (lt (sL_w q2.2 (upd (pL_w q2.2) (a2 + q2.1).toNatClampNeg (pL_w q2.2 (a1 + q2.1).toNatClampNeg))) fun g24 => 
      (K2 ((q2.1 + (1 : Int32)), g24)))
    else none)
    else none
def f_X11_copy (w : LSt) (a1 : Int32) (a2 : Int32) : Option (LSt) :=
  lp (f_X11_copy_s2 a1 a2) 1000 ((0 : Int32), w)
theorem cwd_X11_copy : yX11_copy.cls ≠ "java/lang/invoke/MethodHandle" ∧ yX11_copy.cls ≠ "java/lang/invoke/VarHandle" ∧ (parseMethodDescriptor yX11_copy.desc).map (fun d => d.parameters.length) = some 2 := by decide +kernel
set_option maxHeartbeats 4000000 in
set_option maxRecDepth 100000 in
theorem c_X11_copy {Γ : GC} (hJ : GJ Γ) (hB : ∀ i, 66 ≤ i → i < 77 → act Γ i) (l : Launch) (σ : GSt) (w : LSt) (a1 : Int32) (a2 : Int32) (x : LSt) (hk : f_X11_copy w a1 a2 = some x) : Mt Γ l yX11_copy cX11_copy 4 none 0 0 [.ref (ad Γ 66), .int a1, .int a2] (gL σ w) none (gL σ x) := by
  refine y_enter (by decide) hJ (Nat.le_of_ble_eq_true rfl) [(0, .ref (ad Γ 66)), (1, .int a1), (2, .int a2)] rfl ?_
  intro p e s' m args below meth c' hC hr hlk
  have L2 : ∀ (n2 : Nat) (q2 : Int32 × LSt), lp (f_X11_copy_s2 a1 a2) n2 q2 = some x → Y Γ (GA Γ) p l e ({ frames := 0, cells := 0, slots := 0, locals := 0 } : Room) s' m args below meth c' 0 0 (MQ below (Qg Γ none (gL σ x)) args s' 0 0 (GA Γ)) 4 (gL σ q2.2) 2 [(0, .ref (ad Γ 66)), (1, .int a1), (2, .int a2), (3, .int q2.1)] [] := by
    intro n2
    induction n2 with
    | zero => intro q2 hk; exact (lp_zero hk).elim
    | succ n2 ih2 =>
      intro q2 hk
      have hk : f_X11_copy_s2 a1 a2 (lp (f_X11_copy_s2 a1 a2) n2) q2 = some x := (lp_succ _ _ _).symm.trans hk
      refine y_iload_n hC dX11_copy_2 3 rfl 3 rfl ?_
      refine y_sipush hC dX11_copy_3 (v := (152 : Int32)) (by decide) 6 rfl ?_
      refine y_icmp_ge hC dX11_copy_6 31 (by decide) 9 rfl (fun h6 => ?_) (fun h6 => ?_)
      · have hk := ob_pos h6 hk
        have e := Option.some.inj hk
        exact y_vret hC hr hlk (by rw [← e]) dX11_copy_31
      · have hk := ob_neg h6 hk
        refine y_aload_n hC dX11_copy_9 0 rfl 10 rfl ?_
        refine y_get hC 66 (hB 66 (by decide) (by decide)) (cl_L (u := q2.2) rfl) rfl inU11 0 (by decide) w4_98 rfl dX11_copy_10 13 rfl ?_
        refine y_iload_n hC dX11_copy_13 2 rfl 14 rfl ?_
        refine y_iload_n hC dX11_copy_14 3 rfl 15 rfl ?_
        refine y_iadd hC dX11_copy_15 16 rfl ?_
        refine y_aload_n hC dX11_copy_16 0 rfl 17 rfl ?_
        refine y_get hC 66 (hB 66 (by decide) (by decide)) (cl_L (u := q2.2) rfl) rfl inU11 0 (by decide) w4_98 rfl dX11_copy_17 20 rfl ?_
        refine y_iload_n hC dX11_copy_20 1 rfl 21 rfl ?_
        refine y_iload_n hC dX11_copy_21 3 rfl 22 rfl ?_
        refine y_iadd hC dX11_copy_22 23 rfl ?_
        obtain ⟨h23, hk⟩ := ob_if hk
        refine y_iald hC 67 (hB 67 (by decide) (by decide)) (cl_L_w (u := q2.2) rfl) h23 dX11_copy_23 24 rfl ?_
        obtain ⟨h24, hk⟩ := ob_if hk
        obtain ⟨g24, eg24, hk⟩ := ob_lt hk
        refine y_iast hC 67 (hB 67 (by decide) (by decide)) (cl_L_w (u := q2.2) rfl) h24 (gL σ g24) (by subst eg24; exact (cu_L_w (u := q2.2) (v := (upd (pL_w q2.2) (a2 + q2.1).toNatClampNeg (pL_w q2.2 (a1 + q2.1).toNatClampNeg))) rfl rfl)) dX11_copy_24 25 rfl ?_
        refine y_iinc hC dX11_copy_25 3 rfl (v := (q2.1 + (1 : Int32))) rfl (by decide) [(3, .int (q2.1 + (1 : Int32))), (0, .ref (ad Γ 66)), (1, .int a1), (2, .int a2)] rfl 28 rfl ?_
        refine y_goto hC dX11_copy_28 2 (by decide) ?_
        refine y_sub [1, 2, 3, 0] rfl ?_
        exact ih2 ((q2.1 + (1 : Int32)), g24) hk
  refine y_iconst hC dX11_copy_0 (v := (0 : Int32)) (by decide) 1 rfl ?_
  refine y_istore_n hC dX11_copy_1 (by decide) [(3, .int (0 : Int32)), (0, .ref (ad Γ 66)), (1, .int a1), (2, .int a2)] rfl 2 rfl ?_
  refine y_sub [1, 2, 3, 0] rfl ?_
  exact L2 1000 ((0 : Int32), w) hk
def f_X11_read_j52 (v1 : Int32) (gw : LSt) : Option (Int32 × LSt) :=
  (f_X11_copy gw (456 : Int32) (0 : Int32)).bind fun x57 => 
    (some (v1, x57))
def f_X11_read_j34 (gw : LSt) : Option (Int32 × LSt) :=
  some (((-10 : Int32) - (pL_start gw)), gw)
def f_X11_read_j26 (K11 : (Int32 × LSt) → Option (Int32 × LSt)) (v1 : Int32) (gw : LSt) : Option (Int32 × LSt) :=
  (f_X11_takesItem gw v1).bind fun x28 => 
    (if x28.1 = 0 then
      f_X11_read_j34 x28.2
    else
      (f_X11_token x28.2).bind fun x46 => 
        (K11 ((v1 + (1 : Int32)), x46)))
def f_X11_read_s11 (K11 : (Int32 × LSt) → Option (Int32 × LSt)) (q11 : Int32 × LSt) : Option (Int32 × LSt) :=
  if (pL_start q11.2) < (pL_texted q11.2) then
    f_X11_read_j26 K11 q11.1 q11.2
  else
    if q11.1 = 0 then
      f_X11_read_j26 K11 q11.1 q11.2
    else
      f_X11_read_j52 q11.1 q11.2
def f_X11_read (w : LSt) : Option (Int32 × LSt) :=
  lt (sL_at w (0 : Int32)) fun g2 => 
    ((f_X11_token g2).bind fun x8 => 
    (lp (f_X11_read_s11) 1000 ((0 : Int32), x8)))
theorem cwd_X11_read : yX11_read.cls ≠ "java/lang/invoke/MethodHandle" ∧ yX11_read.cls ≠ "java/lang/invoke/VarHandle" ∧ (parseMethodDescriptor yX11_read.desc).map (fun d => d.parameters.length) = some 0 := by decide +kernel
set_option maxHeartbeats 4000000 in
set_option maxRecDepth 100000 in
theorem c_X11_read {Γ : GC} (hJ : GJ Γ) (hB : ∀ i, 66 ≤ i → i < 77 → act Γ i) (l : Launch) (σ : GSt) (w : LSt) (x : Int32 × LSt) (hk : f_X11_read w = some x) : Mt Γ l yX11_read cX11_read 2 (some .int) 5 114 [.ref (ad Γ 66)] (gL σ w) (some (.int x.1)) (gL σ x.2) := by
  refine y_enter (by decide) hJ (Nat.le_of_ble_eq_true rfl) [(0, .ref (ad Γ 66))] rfl ?_
  intro p e s' m args below meth c' hC hr hlk
  have J52 : ∀ (v1 : Int32) (gw : LSt), f_X11_read_j52 v1 gw = some x → Y Γ (GA Γ) p l e ({ frames := 5, cells := 0, slots := 0, locals := 114 } : Room) s' m args below meth c' 0 0 (MQ below (Qg Γ (some (.int x.1)) (gL σ x.2)) args s' 0 0 (GA Γ)) 2 (gL σ gw) 52 [(0, .ref (ad Γ 66)), (1, .int v1)] [] := by
    intro v1 gw hk
    refine y_aload_n hC dX11_read_52 0 rfl 53 rfl ?_
    refine y_sipush hC dX11_read_53 (v := (456 : Int32)) (by decide) 56 rfl ?_
    refine y_iconst hC dX11_read_56 (v := (0 : Int32)) (by decide) 57 rfl ?_
    obtain ⟨x57, hx57, hk⟩ := ob_bind hk
    refine y_callV hC 66 (hB 66 (by decide) (by decide)) (cl_L (u := gw) rfl) rfl (c_X11_copy hJ hB l σ gw (456 : Int32) (0 : Int32) x57 hx57) rfl ⟨w5_45, w1_13, cwd_X11_copy, by decide, by decide⟩ w5_42 w5_44 ws4_13 rfl rfl (Nat.le_of_ble_eq_true rfl) (by decide) dX11_read_57 60 rfl (gL σ x57) rfl [] rfl ?_
    refine y_iload_n hC dX11_read_60 1 rfl 61 rfl ?_
    have e := Option.some.inj hk
    exact y_iret hC hr hlk (by rw [← e]) (by first | rfl | rw [← e]) dX11_read_61
  have J34 : ∀ (gw : LSt), f_X11_read_j34 gw = some x → Y Γ (GA Γ) p l e ({ frames := 5, cells := 0, slots := 0, locals := 114 } : Room) s' m args below meth c' 0 0 (MQ below (Qg Γ (some (.int x.1)) (gL σ x.2)) args s' 0 0 (GA Γ)) 2 (gL σ gw) 34 [(0, .ref (ad Γ 66))] [] := by
    intro gw hk
    refine y_bipush hC dX11_read_34 (v := (-10 : Int32)) (by decide) 36 rfl ?_
    refine y_aload_n hC dX11_read_36 0 rfl 37 rfl ?_
    refine y_get hC 66 (hB 66 (by decide) (by decide)) (cl_L (u := gw) rfl) rfl inU11 8 (by decide) w4_106 rfl dX11_read_37 40 rfl ?_
    refine y_isub hC dX11_read_40 41 rfl ?_
    have e := Option.some.inj hk
    exact y_iret hC hr hlk (by rw [← e]) (by first | rfl | rw [← e]) dX11_read_41
  have L11 : ∀ (n11 : Nat) (q11 : Int32 × LSt), lp (f_X11_read_s11) n11 q11 = some x → Y Γ (GA Γ) p l e ({ frames := 5, cells := 0, slots := 0, locals := 114 } : Room) s' m args below meth c' 0 0 (MQ below (Qg Γ (some (.int x.1)) (gL σ x.2)) args s' 0 0 (GA Γ)) 2 (gL σ q11.2) 11 [(0, .ref (ad Γ 66)), (1, .int q11.1)] [] := by
    intro n11
    induction n11 with
    | zero => intro q11 hk; exact (lp_zero hk).elim
    | succ n11 ih11 =>
      intro q11 hk
      have hk : f_X11_read_s11 (lp (f_X11_read_s11) n11) q11 = some x := (lp_succ _ _ _).symm.trans hk
      have J26 : ∀ (v1 : Int32) (gw : LSt), f_X11_read_j26 (lp (f_X11_read_s11) n11) v1 gw = some x → Y Γ (GA Γ) p l e ({ frames := 5, cells := 0, slots := 0, locals := 114 } : Room) s' m args below meth c' 0 0 (MQ below (Qg Γ (some (.int x.1)) (gL σ x.2)) args s' 0 0 (GA Γ)) 2 (gL σ gw) 26 [(0, .ref (ad Γ 66)), (1, .int v1)] [] := by
        intro v1 gw hk
        refine y_aload_n hC dX11_read_26 0 rfl 27 rfl ?_
        refine y_iload_n hC dX11_read_27 1 rfl 28 rfl ?_
        obtain ⟨x28, hx28, hk⟩ := ob_bind hk
        refine y_callV hC 66 (hB 66 (by decide) (by decide)) (cl_L (u := gw) rfl) rfl (c_X11_takesItem hJ hB l σ gw v1 x28 hx28) rfl ⟨w5_17, w1_13, cwd_X11_takesItem, by decide, by decide⟩ w5_14 w5_16 ws4_6 rfl rfl (Nat.le_of_ble_eq_true rfl) (by decide) dX11_read_28 31 rfl (gL σ x28.2) rfl [.int x28.1] rfl ?_
        refine y_if_ne hC dX11_read_31 42 (by decide) 34 rfl (fun h31 => ?_) (fun h31 => ?_)
        · have hk := ob_neg h31 hk
          refine y_iinc hC dX11_read_42 1 rfl (v := (v1 + (1 : Int32))) rfl (by decide) [(1, .int (v1 + (1 : Int32))), (0, .ref (ad Γ 66))] rfl 45 rfl ?_
          refine y_aload_n hC dX11_read_45 1 rfl 46 rfl ?_
          obtain ⟨x46, hx46, hk⟩ := ob_bind hk
          refine y_callV hC 66 (hB 66 (by decide) (by decide)) (cl_L (u := x28.2) rfl) rfl (c_X11_token hJ hB l σ x28.2 x46 hx46) rfl ⟨w5_5, w1_13, cwd_X11_token, by decide, by decide⟩ w5_2 w5_4 ws4_4 rfl rfl (Nat.le_of_ble_eq_true rfl) (by decide) dX11_read_46 49 rfl (gL σ x46) rfl [] rfl ?_
          refine y_goto hC dX11_read_49 11 (by decide) ?_
          refine y_sub [1, 0] rfl ?_
          exact ih11 ((v1 + (1 : Int32)), x46) hk
        · have hk := ob_pos h31 hk
          refine y_sub [0] rfl ?_
          exact J34 x28.2 hk
      refine y_aload_n hC dX11_read_11 0 rfl 12 rfl ?_
      refine y_get hC 66 (hB 66 (by decide) (by decide)) (cl_L (u := q11.2) rfl) rfl inU11 8 (by decide) w4_106 rfl dX11_read_12 15 rfl ?_
      refine y_aload_n hC dX11_read_15 0 rfl 16 rfl ?_
      refine y_get hC 66 (hB 66 (by decide) (by decide)) (cl_L (u := q11.2) rfl) rfl inU11 3 (by decide) w4_101 rfl dX11_read_16 19 rfl ?_
      refine y_icmp_lt hC dX11_read_19 26 (by decide) 22 rfl (fun h19 => ?_) (fun h19 => ?_)
      · have hk := ob_pos h19 hk
        refine y_sub [0, 1] rfl ?_
        exact J26 q11.1 q11.2 hk
      · have hk := ob_neg h19 hk
        refine y_iload_n hC dX11_read_22 1 rfl 23 rfl ?_
        refine y_if_ne hC dX11_read_23 52 (by decide) 26 rfl (fun h23 => ?_) (fun h23 => ?_)
        · have hk := ob_neg h23 hk
          refine y_sub [0, 1] rfl ?_
          exact J52 q11.1 q11.2 hk
        · have hk := ob_pos h23 hk
          refine y_sub [0, 1] rfl ?_
          exact J26 q11.1 q11.2 hk
  refine y_aload_n hC dX11_read_0 0 rfl 1 rfl ?_
  refine y_iconst hC dX11_read_1 (v := (0 : Int32)) (by decide) 2 rfl ?_
  obtain ⟨g2, eg2, hk⟩ := ob_lt hk
  refine y_put hC 66 (hB 66 (by decide) (by decide)) (cl_L (u := w) rfl) rfl inU11 tyX11_ok nmX11 7 (by decide) w4_105 rfl rfl rfl rfl (Nat.le_of_ble_eq_true rfl) (gL σ g2) (by subst eg2; exact (cu_L_at (u := w) (v := (0 : Int32)) rfl rfl)) dX11_read_2 5 rfl ?_
  refine y_iconst hC dX11_read_5 (v := (0 : Int32)) (by decide) 6 rfl ?_
  refine y_istore_n hC dX11_read_6 (by decide) [(1, .int (0 : Int32)), (0, .ref (ad Γ 66))] rfl 7 rfl ?_
  refine y_aload_n hC dX11_read_7 1 rfl 8 rfl ?_
  obtain ⟨x8, hx8, hk⟩ := ob_bind hk
  refine y_callV hC 66 (hB 66 (by decide) (by decide)) (cl_L (u := g2) rfl) rfl (c_X11_token hJ hB l σ g2 x8 hx8) rfl ⟨w5_5, w1_13, cwd_X11_token, by decide, by decide⟩ w5_2 w5_4 ws4_4 rfl rfl (Nat.le_of_ble_eq_true rfl) (by decide) dX11_read_8 11 rfl (gL σ x8) rfl [] rfl ?_
  refine y_sub [1, 0] rfl ?_
  exact L11 1000 ((0 : Int32), x8) hk
def f_X11_minds_j103 (v1 : Int32) (gw : LSt) : Option (LSt) :=
  if inb (4 : Int32) 608 then 
    (if inb (v1 + (8 : Int32)) 608 then 
    (lt (sL_w gw (upd (pL_w gw) (v1 + (8 : Int32)).toNatClampNeg (pL_w gw (4 : Int32).toNatClampNeg))) fun g117 => 
    (if inb (5 : Int32) 608 then 
    (if inb (v1 + (9 : Int32)) 608 then 
    (lt (sL_w g117 (upd (pL_w g117) (v1 + (9 : Int32)).toNatClampNeg (pL_w g117 (5 : Int32).toNatClampNeg))) fun g132 => 
    (if inb (7 : Int32) 608 then 
    (if inb (7 : Int32) 608 then 
    (lt (sL_w g132 (upd (pL_w g132) (7 : Int32).toNatClampNeg ((pL_w g132 (7 : Int32).toNatClampNeg) + (1 : Int32)))) fun g143 => 
    (some g143))
  else none)
  else none))
  else none)
  else none))
  else none)
  else none
def f_X11_minds_s74 (K74 : (Int32 × Int32 × LSt) → Option (LSt)) (q74 : Int32 × Int32 × LSt) : Option (LSt) :=
  if (8 : Int32) ≤ q74.2.1 then
    f_X11_minds_j103 q74.1 q74.2.2
  else
    if inb ((28 : Int32) + q74.2.1) 608 then 
      (if inb (q74.1 + q74.2.1) 608 then 
      (lt (sL_w q74.2.2 (upd (pL_w q74.2.2) (q74.1 + q74.2.1).toNatClampNeg (pL_w q74.2.2 ((28 : Int32) + q74.2.1).toNatClampNeg))) fun g96 => 
      (K74 (q74.1, (q74.2.1 + (1 : Int32)), g96)))
    else none)
    else none
def f_X11_minds_j58 (gw : LSt) : Option (LSt) :=
  if inb (7 : Int32) 608 then 
    (lt ((72 : Int32) + ((10 : Int32) * (pL_w gw (7 : Int32).toNatClampNeg))) fun n71 => 
    (lp (f_X11_minds_s74) 1000 (n71, (0 : Int32), gw)))
  else none
def f_X11_minds_j47 (gw : LSt) : Option (LSt) :=
  if inb (7 : Int32) 608 then 
    (if inb (7 : Int32) 608 then 
    (lt (sL_w gw (upd (pL_w gw) (7 : Int32).toNatClampNeg ((pL_w gw (7 : Int32).toNatClampNeg) - (1 : Int32)))) fun g57 => 
    (f_X11_minds_j58 g57))
  else none)
  else none
def f_X11_minds_s14 (K14 : (Int32 × LSt) → Option (LSt)) (q14 : Int32 × LSt) : Option (LSt) :=
  if (70 : Int32) ≤ q14.1 then
    f_X11_minds_j47 q14.2
  else
    if inb (((72 : Int32) + q14.1) + (10 : Int32)) 608 then 
      (if inb ((72 : Int32) + q14.1) 608 then 
      (lt (sL_w q14.2 (upd (pL_w q14.2) ((72 : Int32) + q14.1).toNatClampNeg (pL_w q14.2 (((72 : Int32) + q14.1) + (10 : Int32)).toNatClampNeg))) fun g40 => 
      (K14 ((q14.1 + (1 : Int32)), g40)))
    else none)
    else none
def f_X11_minds (w : LSt) : Option (LSt) :=
  if inb (7 : Int32) 608 then 
    (if (pL_w w (7 : Int32).toNatClampNeg) = (8 : Int32) then
      lp (f_X11_minds_s14) 1000 ((0 : Int32), w)
    else
      f_X11_minds_j58 w)
  else none
theorem cwd_X11_minds : yX11_minds.cls ≠ "java/lang/invoke/MethodHandle" ∧ yX11_minds.cls ≠ "java/lang/invoke/VarHandle" ∧ (parseMethodDescriptor yX11_minds.desc).map (fun d => d.parameters.length) = some 0 := by decide +kernel
set_option maxHeartbeats 4000000 in
set_option maxRecDepth 100000 in
theorem c_X11_minds {Γ : GC} (hJ : GJ Γ) (hB : ∀ i, 66 ≤ i → i < 77 → act Γ i) (l : Launch) (σ : GSt) (w : LSt) (x : LSt) (hk : f_X11_minds w = some x) : Mt Γ l yX11_minds cX11_minds 3 none 0 0 [.ref (ad Γ 66)] (gL σ w) none (gL σ x) := by
  refine y_enter (by decide) hJ (Nat.le_of_ble_eq_true rfl) [(0, .ref (ad Γ 66))] rfl ?_
  intro p e s' m args below meth c' hC hr hlk
  have J103 : ∀ (v1 : Int32) (gw : LSt), f_X11_minds_j103 v1 gw = some x → Y Γ (GA Γ) p l e ({ frames := 0, cells := 0, slots := 0, locals := 0 } : Room) s' m args below meth c' 0 0 (MQ below (Qg Γ none (gL σ x)) args s' 0 0 (GA Γ)) 3 (gL σ gw) 103 [(0, .ref (ad Γ 66)), (1, .int v1)] [] := by
    intro v1 gw hk
    refine y_aload_n hC dX11_minds_103 0 rfl 104 rfl ?_
    refine y_get hC 66 (hB 66 (by decide) (by decide)) (cl_L (u := gw) rfl) rfl inU11 0 (by decide) w4_98 rfl dX11_minds_104 107 rfl ?_
    refine y_iload_n hC dX11_minds_107 1 rfl 108 rfl ?_
    refine y_bipush hC dX11_minds_108 (v := (8 : Int32)) (by decide) 110 rfl ?_
    refine y_iadd hC dX11_minds_110 111 rfl ?_
    refine y_aload_n hC dX11_minds_111 0 rfl 112 rfl ?_
    refine y_get hC 66 (hB 66 (by decide) (by decide)) (cl_L (u := gw) rfl) rfl inU11 0 (by decide) w4_98 rfl dX11_minds_112 115 rfl ?_
    refine y_iconst hC dX11_minds_115 (v := (4 : Int32)) (by decide) 116 rfl ?_
    obtain ⟨h116, hk⟩ := ob_if hk
    refine y_iald hC 67 (hB 67 (by decide) (by decide)) (cl_L_w (u := gw) rfl) h116 dX11_minds_116 117 rfl ?_
    obtain ⟨h117, hk⟩ := ob_if hk
    obtain ⟨g117, eg117, hk⟩ := ob_lt hk
    refine y_iast hC 67 (hB 67 (by decide) (by decide)) (cl_L_w (u := gw) rfl) h117 (gL σ g117) (by subst eg117; exact (cu_L_w (u := gw) (v := (upd (pL_w gw) (v1 + (8 : Int32)).toNatClampNeg (pL_w gw (4 : Int32).toNatClampNeg))) rfl rfl)) dX11_minds_117 118 rfl ?_
    refine y_aload_n hC dX11_minds_118 0 rfl 119 rfl ?_
    refine y_get hC 66 (hB 66 (by decide) (by decide)) (cl_L (u := g117) rfl) rfl inU11 0 (by decide) w4_98 rfl dX11_minds_119 122 rfl ?_
    refine y_iload_n hC dX11_minds_122 1 rfl 123 rfl ?_
    refine y_bipush hC dX11_minds_123 (v := (9 : Int32)) (by decide) 125 rfl ?_
    refine y_iadd hC dX11_minds_125 126 rfl ?_
    refine y_aload_n hC dX11_minds_126 0 rfl 127 rfl ?_
    refine y_get hC 66 (hB 66 (by decide) (by decide)) (cl_L (u := g117) rfl) rfl inU11 0 (by decide) w4_98 rfl dX11_minds_127 130 rfl ?_
    refine y_iconst hC dX11_minds_130 (v := (5 : Int32)) (by decide) 131 rfl ?_
    obtain ⟨h131, hk⟩ := ob_if hk
    refine y_iald hC 67 (hB 67 (by decide) (by decide)) (cl_L_w (u := g117) rfl) h131 dX11_minds_131 132 rfl ?_
    obtain ⟨h132, hk⟩ := ob_if hk
    obtain ⟨g132, eg132, hk⟩ := ob_lt hk
    refine y_iast hC 67 (hB 67 (by decide) (by decide)) (cl_L_w (u := g117) rfl) h132 (gL σ g132) (by subst eg132; exact (cu_L_w (u := g117) (v := (upd (pL_w g117) (v1 + (9 : Int32)).toNatClampNeg (pL_w g117 (5 : Int32).toNatClampNeg))) rfl rfl)) dX11_minds_132 133 rfl ?_
    refine y_aload_n hC dX11_minds_133 0 rfl 134 rfl ?_
    refine y_get hC 66 (hB 66 (by decide) (by decide)) (cl_L (u := g132) rfl) rfl inU11 0 (by decide) w4_98 rfl dX11_minds_134 137 rfl ?_
    refine y_bipush hC dX11_minds_137 (v := (7 : Int32)) (by decide) 139 rfl ?_
    refine y_dup2 hC dX11_minds_139 rfl rfl 140 rfl ?_
    obtain ⟨h140, hk⟩ := ob_if hk
    refine y_iald hC 67 (hB 67 (by decide) (by decide)) (cl_L_w (u := g132) rfl) h140 dX11_minds_140 141 rfl ?_
    refine y_iconst hC dX11_minds_141 (v := (1 : Int32)) (by decide) 142 rfl ?_
    refine y_iadd hC dX11_minds_142 143 rfl ?_
    obtain ⟨h143, hk⟩ := ob_if hk
    obtain ⟨g143, eg143, hk⟩ := ob_lt hk
    refine y_iast hC 67 (hB 67 (by decide) (by decide)) (cl_L_w (u := g132) rfl) h143 (gL σ g143) (by subst eg143; exact (cu_L_w (u := g132) (v := (upd (pL_w g132) (7 : Int32).toNatClampNeg ((pL_w g132 (7 : Int32).toNatClampNeg) + (1 : Int32)))) rfl rfl)) dX11_minds_143 144 rfl ?_
    have e := Option.some.inj hk
    exact y_vret hC hr hlk (by rw [← e]) dX11_minds_144
  have L74 : ∀ (n74 : Nat) (q74 : Int32 × Int32 × LSt), lp (f_X11_minds_s74) n74 q74 = some x → Y Γ (GA Γ) p l e ({ frames := 0, cells := 0, slots := 0, locals := 0 } : Room) s' m args below meth c' 0 0 (MQ below (Qg Γ none (gL σ x)) args s' 0 0 (GA Γ)) 3 (gL σ q74.2.2) 74 [(0, .ref (ad Γ 66)), (1, .int q74.1), (2, .int q74.2.1)] [] := by
    intro n74
    induction n74 with
    | zero => intro q74 hk; exact (lp_zero hk).elim
    | succ n74 ih74 =>
      intro q74 hk
      have hk : f_X11_minds_s74 (lp (f_X11_minds_s74) n74) q74 = some x := (lp_succ _ _ _).symm.trans hk
      refine y_iload_n hC dX11_minds_74 2 rfl 75 rfl ?_
      refine y_bipush hC dX11_minds_75 (v := (8 : Int32)) (by decide) 77 rfl ?_
      refine y_icmp_ge hC dX11_minds_77 103 (by decide) 80 rfl (fun h77 => ?_) (fun h77 => ?_)
      · have hk := ob_pos h77 hk
        refine y_sub [0, 1] rfl ?_
        exact J103 q74.1 q74.2.2 hk
      · have hk := ob_neg h77 hk
        refine y_aload_n hC dX11_minds_80 0 rfl 81 rfl ?_
        refine y_get hC 66 (hB 66 (by decide) (by decide)) (cl_L (u := q74.2.2) rfl) rfl inU11 0 (by decide) w4_98 rfl dX11_minds_81 84 rfl ?_
        refine y_iload_n hC dX11_minds_84 1 rfl 85 rfl ?_
        refine y_iload_n hC dX11_minds_85 2 rfl 86 rfl ?_
        refine y_iadd hC dX11_minds_86 87 rfl ?_
        refine y_aload_n hC dX11_minds_87 0 rfl 88 rfl ?_
        refine y_get hC 66 (hB 66 (by decide) (by decide)) (cl_L (u := q74.2.2) rfl) rfl inU11 0 (by decide) w4_98 rfl dX11_minds_88 91 rfl ?_
        refine y_bipush hC dX11_minds_91 (v := (28 : Int32)) (by decide) 93 rfl ?_
        refine y_iload_n hC dX11_minds_93 2 rfl 94 rfl ?_
        refine y_iadd hC dX11_minds_94 95 rfl ?_
        obtain ⟨h95, hk⟩ := ob_if hk
        refine y_iald hC 67 (hB 67 (by decide) (by decide)) (cl_L_w (u := q74.2.2) rfl) h95 dX11_minds_95 96 rfl ?_
        obtain ⟨h96, hk⟩ := ob_if hk
        obtain ⟨g96, eg96, hk⟩ := ob_lt hk
        refine y_iast hC 67 (hB 67 (by decide) (by decide)) (cl_L_w (u := q74.2.2) rfl) h96 (gL σ g96) (by subst eg96; exact (cu_L_w (u := q74.2.2) (v := (upd (pL_w q74.2.2) (q74.1 + q74.2.1).toNatClampNeg (pL_w q74.2.2 ((28 : Int32) + q74.2.1).toNatClampNeg))) rfl rfl)) dX11_minds_96 97 rfl ?_
        refine y_iinc hC dX11_minds_97 2 rfl (v := (q74.2.1 + (1 : Int32))) rfl (by decide) [(2, .int (q74.2.1 + (1 : Int32))), (0, .ref (ad Γ 66)), (1, .int q74.1)] rfl 100 rfl ?_
        refine y_goto hC dX11_minds_100 74 (by decide) ?_
        refine y_sub [1, 2, 0] rfl ?_
        exact ih74 (q74.1, (q74.2.1 + (1 : Int32)), g96) hk
  have J58 : ∀ (gw : LSt), f_X11_minds_j58 gw = some x → Y Γ (GA Γ) p l e ({ frames := 0, cells := 0, slots := 0, locals := 0 } : Room) s' m args below meth c' 0 0 (MQ below (Qg Γ none (gL σ x)) args s' 0 0 (GA Γ)) 3 (gL σ gw) 58 [(0, .ref (ad Γ 66))] [] := by
    intro gw hk
    refine y_bipush hC dX11_minds_58 (v := (72 : Int32)) (by decide) 60 rfl ?_
    refine y_bipush hC dX11_minds_60 (v := (10 : Int32)) (by decide) 62 rfl ?_
    refine y_aload_n hC dX11_minds_62 0 rfl 63 rfl ?_
    refine y_get hC 66 (hB 66 (by decide) (by decide)) (cl_L (u := gw) rfl) rfl inU11 0 (by decide) w4_98 rfl dX11_minds_63 66 rfl ?_
    refine y_bipush hC dX11_minds_66 (v := (7 : Int32)) (by decide) 68 rfl ?_
    obtain ⟨h68, hk⟩ := ob_if hk
    refine y_iald hC 67 (hB 67 (by decide) (by decide)) (cl_L_w (u := gw) rfl) h68 dX11_minds_68 69 rfl ?_
    refine y_imul hC dX11_minds_69 70 rfl ?_
    refine y_iadd hC dX11_minds_70 71 rfl ?_
    obtain ⟨n71, en71, hk⟩ := ob_lt hk
    refine y_topi en71 ?_
    refine y_istore_n hC dX11_minds_71 (by decide) [(1, .int n71), (0, .ref (ad Γ 66))] rfl 72 rfl ?_
    refine y_iconst hC dX11_minds_72 (v := (0 : Int32)) (by decide) 73 rfl ?_
    refine y_istore_n hC dX11_minds_73 (by decide) [(2, .int (0 : Int32)), (1, .int n71), (0, .ref (ad Γ 66))] rfl 74 rfl ?_
    refine y_sub [2, 1, 0] rfl ?_
    exact L74 1000 (n71, (0 : Int32), gw) hk
  have J47 : ∀ (gw : LSt), f_X11_minds_j47 gw = some x → Y Γ (GA Γ) p l e ({ frames := 0, cells := 0, slots := 0, locals := 0 } : Room) s' m args below meth c' 0 0 (MQ below (Qg Γ none (gL σ x)) args s' 0 0 (GA Γ)) 3 (gL σ gw) 47 [(0, .ref (ad Γ 66))] [] := by
    intro gw hk
    refine y_aload_n hC dX11_minds_47 0 rfl 48 rfl ?_
    refine y_get hC 66 (hB 66 (by decide) (by decide)) (cl_L (u := gw) rfl) rfl inU11 0 (by decide) w4_98 rfl dX11_minds_48 51 rfl ?_
    refine y_bipush hC dX11_minds_51 (v := (7 : Int32)) (by decide) 53 rfl ?_
    refine y_dup2 hC dX11_minds_53 rfl rfl 54 rfl ?_
    obtain ⟨h54, hk⟩ := ob_if hk
    refine y_iald hC 67 (hB 67 (by decide) (by decide)) (cl_L_w (u := gw) rfl) h54 dX11_minds_54 55 rfl ?_
    refine y_iconst hC dX11_minds_55 (v := (1 : Int32)) (by decide) 56 rfl ?_
    refine y_isub hC dX11_minds_56 57 rfl ?_
    obtain ⟨h57, hk⟩ := ob_if hk
    obtain ⟨g57, eg57, hk⟩ := ob_lt hk
    refine y_iast hC 67 (hB 67 (by decide) (by decide)) (cl_L_w (u := gw) rfl) h57 (gL σ g57) (by subst eg57; exact (cu_L_w (u := gw) (v := (upd (pL_w gw) (7 : Int32).toNatClampNeg ((pL_w gw (7 : Int32).toNatClampNeg) - (1 : Int32)))) rfl rfl)) dX11_minds_57 58 rfl ?_
    refine y_sub [0] rfl ?_
    exact J58 g57 hk
  have L14 : ∀ (n14 : Nat) (q14 : Int32 × LSt), lp (f_X11_minds_s14) n14 q14 = some x → Y Γ (GA Γ) p l e ({ frames := 0, cells := 0, slots := 0, locals := 0 } : Room) s' m args below meth c' 0 0 (MQ below (Qg Γ none (gL σ x)) args s' 0 0 (GA Γ)) 3 (gL σ q14.2) 14 [(0, .ref (ad Γ 66)), (1, .int q14.1)] [] := by
    intro n14
    induction n14 with
    | zero => intro q14 hk; exact (lp_zero hk).elim
    | succ n14 ih14 =>
      intro q14 hk
      have hk : f_X11_minds_s14 (lp (f_X11_minds_s14) n14) q14 = some x := (lp_succ _ _ _).symm.trans hk
      refine y_iload_n hC dX11_minds_14 1 rfl 15 rfl ?_
      refine y_bipush hC dX11_minds_15 (v := (70 : Int32)) (by decide) 17 rfl ?_
      refine y_icmp_ge hC dX11_minds_17 47 (by decide) 20 rfl (fun h17 => ?_) (fun h17 => ?_)
      · have hk := ob_pos h17 hk
        refine y_sub [0] rfl ?_
        exact J47 q14.2 hk
      · have hk := ob_neg h17 hk
        refine y_aload_n hC dX11_minds_20 0 rfl 21 rfl ?_
        refine y_get hC 66 (hB 66 (by decide) (by decide)) (cl_L (u := q14.2) rfl) rfl inU11 0 (by decide) w4_98 rfl dX11_minds_21 24 rfl ?_
        refine y_bipush hC dX11_minds_24 (v := (72 : Int32)) (by decide) 26 rfl ?_
        refine y_iload_n hC dX11_minds_26 1 rfl 27 rfl ?_
        refine y_iadd hC dX11_minds_27 28 rfl ?_
        refine y_aload_n hC dX11_minds_28 0 rfl 29 rfl ?_
        refine y_get hC 66 (hB 66 (by decide) (by decide)) (cl_L (u := q14.2) rfl) rfl inU11 0 (by decide) w4_98 rfl dX11_minds_29 32 rfl ?_
        refine y_bipush hC dX11_minds_32 (v := (72 : Int32)) (by decide) 34 rfl ?_
        refine y_iload_n hC dX11_minds_34 1 rfl 35 rfl ?_
        refine y_iadd hC dX11_minds_35 36 rfl ?_
        refine y_bipush hC dX11_minds_36 (v := (10 : Int32)) (by decide) 38 rfl ?_
        refine y_iadd hC dX11_minds_38 39 rfl ?_
        obtain ⟨h39, hk⟩ := ob_if hk
        refine y_iald hC 67 (hB 67 (by decide) (by decide)) (cl_L_w (u := q14.2) rfl) h39 dX11_minds_39 40 rfl ?_
        obtain ⟨h40, hk⟩ := ob_if hk
        obtain ⟨g40, eg40, hk⟩ := ob_lt hk
        refine y_iast hC 67 (hB 67 (by decide) (by decide)) (cl_L_w (u := q14.2) rfl) h40 (gL σ g40) (by subst eg40; exact (cu_L_w (u := q14.2) (v := (upd (pL_w q14.2) ((72 : Int32) + q14.1).toNatClampNeg (pL_w q14.2 (((72 : Int32) + q14.1) + (10 : Int32)).toNatClampNeg))) rfl rfl)) dX11_minds_40 41 rfl ?_
        refine y_iinc hC dX11_minds_41 1 rfl (v := (q14.1 + (1 : Int32))) rfl (by decide) [(1, .int (q14.1 + (1 : Int32))), (0, .ref (ad Γ 66))] rfl 44 rfl ?_
        refine y_goto hC dX11_minds_44 14 (by decide) ?_
        refine y_sub [1, 0] rfl ?_
        exact ih14 ((q14.1 + (1 : Int32)), g40) hk
  refine y_aload_n hC dX11_minds_0 0 rfl 1 rfl ?_
  refine y_get hC 66 (hB 66 (by decide) (by decide)) (cl_L (u := w) rfl) rfl inU11 0 (by decide) w4_98 rfl dX11_minds_1 4 rfl ?_
  refine y_bipush hC dX11_minds_4 (v := (7 : Int32)) (by decide) 6 rfl ?_
  obtain ⟨h6, hk⟩ := ob_if hk
  refine y_iald hC 67 (hB 67 (by decide) (by decide)) (cl_L_w (u := w) rfl) h6 dX11_minds_6 7 rfl ?_
  refine y_bipush hC dX11_minds_7 (v := (8 : Int32)) (by decide) 9 rfl ?_
  refine y_icmp_ne hC dX11_minds_9 58 (by decide) 12 rfl (fun h9 => ?_) (fun h9 => ?_)
  · have hk := ob_neg h9 hk
    refine y_sub [0] rfl ?_
    exact J58 w hk
  · have hk := ob_pos h9 hk
    refine y_iconst hC dX11_minds_12 (v := (0 : Int32)) (by decide) 13 rfl ?_
    refine y_istore_n hC dX11_minds_13 (by decide) [(1, .int (0 : Int32)), (0, .ref (ad Γ 66))] rfl 14 rfl ?_
    refine y_sub [1, 0] rfl ?_
    exact L14 1000 ((0 : Int32), w) hk
def f_X11_has (a1 : Int32) (a2 : Int32) : Option (Int32) :=
  if ((a1 >>> (a2 &&& 31)) &&& (1 : Int32)) = (1 : Int32) then
    some (1 : Int32)
  else
    some (0 : Int32)
theorem cwd_X11_has : yX11_has.cls ≠ "java/lang/invoke/MethodHandle" ∧ yX11_has.cls ≠ "java/lang/invoke/VarHandle" ∧ (parseMethodDescriptor yX11_has.desc).map (fun d => d.parameters.length) = some 2 := by decide +kernel
set_option maxHeartbeats 4000000 in
set_option maxRecDepth 100000 in
theorem c_X11_has {Γ : GC} (hJ : GJ Γ) (l : Launch) (σ : GSt) (a1 : Int32) (a2 : Int32) (x : Int32) (hk : f_X11_has a1 a2 = some x) : Mt Γ l yX11_has cX11_has 2 (some .boolean) 0 0 [.int a1, .int a2] σ (some (.int x)) σ := by
  refine y_enter (by decide) hJ (Nat.le_of_ble_eq_true rfl) [(0, .int a1), (1, .int a2)] rfl ?_
  intro p e s' m args below meth c' hC hr hlk
  refine y_iload_n hC dX11_has_0 0 rfl 1 rfl ?_
  refine y_iload_n hC dX11_has_1 1 rfl 2 rfl ?_
  refine y_ishr hC dX11_has_2 3 rfl ?_
  refine y_iconst hC dX11_has_3 (v := (1 : Int32)) (by decide) 4 rfl ?_
  refine y_iand hC dX11_has_4 5 rfl ?_
  refine y_iconst hC dX11_has_5 (v := (1 : Int32)) (by decide) 6 rfl ?_
  refine y_icmp_ne hC dX11_has_6 13 (by decide) 9 rfl (fun h6 => ?_) (fun h6 => ?_)
  · have hk := ob_neg h6 hk
    refine y_iconst hC dX11_has_13 (v := (0 : Int32)) (by decide) 14 rfl ?_
    have e := Option.some.inj hk
    exact y_zret hC hr hlk rfl (by rw [← e]) (by first | rfl | rw [← e]) dX11_has_14
  · have hk := ob_pos h6 hk
    refine y_iconst hC dX11_has_9 (v := (1 : Int32)) (by decide) 10 rfl ?_
    refine y_goto hC dX11_has_10 14 (by decide) ?_
    have e := Option.some.inj hk
    exact y_zret hC hr hlk rfl (by rw [← e]) (by first | rfl | rw [← e]) dX11_has_14
def f_X11_waitsIn_j26 (w : LSt) (a1 : Int32) (v2 : Int32) (t0 : Int32) : Option (Int32) :=
  if inb ((8 : Int32) + t0) 608 then 
    (if inb ((8 : Int32) + v2) 608 then 
    (if (pL_w w ((8 : Int32) + v2).toNatClampNeg) ≤ (pL_w w ((8 : Int32) + t0).toNatClampNeg) then
      some v2
    else
      some t0)
  else none)
  else none
def f_X11_waitsIn (w : LSt) (a1 : Int32) : Option (Int32) :=
  if inb ((36 : Int32) + a1) 608 then 
    (lt (pL_w w ((36 : Int32) + a1).toNatClampNeg) fun n9 => 
    (if (n9 + (2 : Int32)) ≤ (9 : Int32) then
      f_X11_waitsIn_j26 w a1 n9 (n9 + (2 : Int32))
    else
      f_X11_waitsIn_j26 w a1 n9 (9 : Int32)))
  else none
theorem cwd_X11_waitsIn : yX11_waitsIn.cls ≠ "java/lang/invoke/MethodHandle" ∧ yX11_waitsIn.cls ≠ "java/lang/invoke/VarHandle" ∧ (parseMethodDescriptor yX11_waitsIn.desc).map (fun d => d.parameters.length) = some 1 := by decide +kernel
set_option maxHeartbeats 4000000 in
set_option maxRecDepth 100000 in
theorem c_X11_waitsIn {Γ : GC} (hJ : GJ Γ) (hB : ∀ i, 66 ≤ i → i < 77 → act Γ i) (l : Launch) (σ : GSt) (w : LSt) (a1 : Int32) (x : Int32) (hk : f_X11_waitsIn w a1 = some x) : Mt Γ l yX11_waitsIn cX11_waitsIn 4 (some .int) 0 0 [.ref (ad Γ 66), .int a1] (gL σ w) (some (.int x)) (gL σ w) := by
  refine y_enter (by decide) hJ (Nat.le_of_ble_eq_true rfl) [(0, .ref (ad Γ 66)), (1, .int a1)] rfl ?_
  intro p e s' m args below meth c' hC hr hlk
  have J26 : ∀ (v2 : Int32) (t0 : Int32), f_X11_waitsIn_j26 w a1 v2 t0 = some x → Y Γ (GA Γ) p l e ({ frames := 0, cells := 0, slots := 0, locals := 0 } : Room) s' m args below meth c' 0 0 (MQ below (Qg Γ (some (.int x)) (gL σ w)) args s' 0 0 (GA Γ)) 4 (gL σ w) 26 [(0, .ref (ad Γ 66)), (1, .int a1), (2, .int v2)] [.int t0] := by
    intro v2 t0 hk
    refine y_istore_n hC dX11_waitsIn_26 (by decide) [(3, .int t0), (0, .ref (ad Γ 66)), (1, .int a1), (2, .int v2)] rfl 27 rfl ?_
    refine y_aload_n hC dX11_waitsIn_27 1 rfl 28 rfl ?_
    refine y_get hC 66 (hB 66 (by decide) (by decide)) (cl_L (u := w) rfl) rfl inU11 0 (by decide) w4_98 rfl dX11_waitsIn_28 31 rfl ?_
    refine y_bipush hC dX11_waitsIn_31 (v := (8 : Int32)) (by decide) 33 rfl ?_
    refine y_iload_n hC dX11_waitsIn_33 0 rfl 34 rfl ?_
    refine y_iadd hC dX11_waitsIn_34 35 rfl ?_
    obtain ⟨h35, hk⟩ := ob_if hk
    refine y_iald hC 67 (hB 67 (by decide) (by decide)) (cl_L_w (u := w) rfl) h35 dX11_waitsIn_35 36 rfl ?_
    refine y_aload_n hC dX11_waitsIn_36 1 rfl 37 rfl ?_
    refine y_get hC 66 (hB 66 (by decide) (by decide)) (cl_L (u := w) rfl) rfl inU11 0 (by decide) w4_98 rfl dX11_waitsIn_37 40 rfl ?_
    refine y_bipush hC dX11_waitsIn_40 (v := (8 : Int32)) (by decide) 42 rfl ?_
    refine y_iload_n hC dX11_waitsIn_42 3 rfl 43 rfl ?_
    refine y_iadd hC dX11_waitsIn_43 44 rfl ?_
    obtain ⟨h44, hk⟩ := ob_if hk
    refine y_iald hC 67 (hB 67 (by decide) (by decide)) (cl_L_w (u := w) rfl) h44 dX11_waitsIn_44 45 rfl ?_
    refine y_icmp_ge hC dX11_waitsIn_45 52 (by decide) 48 rfl (fun h45 => ?_) (fun h45 => ?_)
    · have hk := ob_pos h45 hk
      refine y_iload_n hC dX11_waitsIn_52 3 rfl 53 rfl ?_
      have e := Option.some.inj hk
      exact y_iret hC hr hlk (by rw [← e]) (by first | rfl | rw [← e]) dX11_waitsIn_53
    · have hk := ob_neg h45 hk
      refine y_iload_n hC dX11_waitsIn_48 0 rfl 49 rfl ?_
      refine y_goto hC dX11_waitsIn_49 53 (by decide) ?_
      have e := Option.some.inj hk
      exact y_iret hC hr hlk (by rw [← e]) (by first | rfl | rw [← e]) dX11_waitsIn_53
  refine y_aload_n hC dX11_waitsIn_0 0 rfl 1 rfl ?_
  refine y_get hC 66 (hB 66 (by decide) (by decide)) (cl_L (u := w) rfl) rfl inU11 0 (by decide) w4_98 rfl dX11_waitsIn_1 4 rfl ?_
  refine y_bipush hC dX11_waitsIn_4 (v := (36 : Int32)) (by decide) 6 rfl ?_
  refine y_iload_n hC dX11_waitsIn_6 1 rfl 7 rfl ?_
  refine y_iadd hC dX11_waitsIn_7 8 rfl ?_
  obtain ⟨h8, hk⟩ := ob_if hk
  refine y_iald hC 67 (hB 67 (by decide) (by decide)) (cl_L_w (u := w) rfl) h8 dX11_waitsIn_8 9 rfl ?_
  obtain ⟨n9, en9, hk⟩ := ob_lt hk
  refine y_topi en9 ?_
  refine y_istore_n hC dX11_waitsIn_9 (by decide) [(2, .int n9), (0, .ref (ad Γ 66)), (1, .int a1)] rfl 10 rfl ?_
  refine y_iload_n hC dX11_waitsIn_10 0 rfl 11 rfl ?_
  refine y_iconst hC dX11_waitsIn_11 (v := (2 : Int32)) (by decide) 12 rfl ?_
  refine y_iadd hC dX11_waitsIn_12 13 rfl ?_
  refine y_bipush hC dX11_waitsIn_13 (v := (9 : Int32)) (by decide) 15 rfl ?_
  refine y_icmp_le hC dX11_waitsIn_15 23 (by decide) 18 rfl (fun h15 => ?_) (fun h15 => ?_)
  · have hk := ob_pos h15 hk
    refine y_iload_n hC dX11_waitsIn_23 0 rfl 24 rfl ?_
    refine y_iconst hC dX11_waitsIn_24 (v := (2 : Int32)) (by decide) 25 rfl ?_
    refine y_iadd hC dX11_waitsIn_25 26 rfl ?_
    refine y_sub [1, 2, 0] rfl ?_
    exact J26 n9 (n9 + (2 : Int32)) hk
  · have hk := ob_neg h15 hk
    refine y_bipush hC dX11_waitsIn_18 (v := (9 : Int32)) (by decide) 20 rfl ?_
    refine y_goto hC dX11_waitsIn_20 26 (by decide) ?_
    refine y_sub [1, 2, 0] rfl ?_
    exact J26 n9 (9 : Int32) hk
def f_X11_hourOf_j70 (w : LSt) (a1 : Int32) : Option (Int32) :=
  if inb ((36 : Int32) + a1) 608 then 
    (some (pL_w w ((36 : Int32) + a1).toNatClampNeg))
  else none
def f_X11_hourOf (w : LSt) (a1 : Int32) : Option (Int32) :=
  if inb ((28 : Int32) + a1) 608 then 
    (if (pL_w w ((28 : Int32) + a1).toNatClampNeg).toInt = 1 then
      (f_X11_waitsIn w a1).bind fun x42 => 
        (some x42)
    else
      if (pL_w w ((28 : Int32) + a1).toNatClampNeg).toInt = 2 then
        f_X11_hourOf_j70 w a1
      else
        if (pL_w w ((28 : Int32) + a1).toNatClampNeg).toInt = 3 then
          (f_X11_waitsIn w a1).bind fun x48 => 
            (if (6 : Int32) ≤ x48 then
              (f_X11_waitsIn w a1).bind fun x63 => 
                (some x63)
            else
              some (6 : Int32))
        else
          if (pL_w w ((28 : Int32) + a1).toNatClampNeg).toInt = 4 then
            some (9 : Int32)
          else
            f_X11_hourOf_j70 w a1)
  else none
theorem cwd_X11_hourOf : yX11_hourOf.cls ≠ "java/lang/invoke/MethodHandle" ∧ yX11_hourOf.cls ≠ "java/lang/invoke/VarHandle" ∧ (parseMethodDescriptor yX11_hourOf.desc).map (fun d => d.parameters.length) = some 1 := by decide +kernel
set_option maxHeartbeats 4000000 in
set_option maxRecDepth 100000 in
theorem c_X11_hourOf {Γ : GC} (hJ : GJ Γ) (hB : ∀ i, 66 ≤ i → i < 77 → act Γ i) (l : Launch) (σ : GSt) (w : LSt) (a1 : Int32) (x : Int32) (hk : f_X11_hourOf w a1 = some x) : Mt Γ l yX11_hourOf cX11_hourOf 2 (some .int) 1 23 [.ref (ad Γ 66), .int a1] (gL σ w) (some (.int x)) (gL σ w) := by
  refine y_enter (by decide) hJ (Nat.le_of_ble_eq_true rfl) [(0, .ref (ad Γ 66)), (1, .int a1)] rfl ?_
  intro p e s' m args below meth c' hC hr hlk
  have J70 : ∀ (_ : Unit), f_X11_hourOf_j70 w a1 = some x → Y Γ (GA Γ) p l e ({ frames := 1, cells := 0, slots := 0, locals := 23 } : Room) s' m args below meth c' 0 0 (MQ below (Qg Γ (some (.int x)) (gL σ w)) args s' 0 0 (GA Γ)) 2 (gL σ w) 70 [(0, .ref (ad Γ 66)), (1, .int a1)] [] := by
    intro _ hk
    refine y_aload_n hC dX11_hourOf_70 0 rfl 71 rfl ?_
    refine y_get hC 66 (hB 66 (by decide) (by decide)) (cl_L (u := w) rfl) rfl inU11 0 (by decide) w4_98 rfl dX11_hourOf_71 74 rfl ?_
    refine y_bipush hC dX11_hourOf_74 (v := (36 : Int32)) (by decide) 76 rfl ?_
    refine y_iload_n hC dX11_hourOf_76 1 rfl 77 rfl ?_
    refine y_iadd hC dX11_hourOf_77 78 rfl ?_
    obtain ⟨h78, hk⟩ := ob_if hk
    refine y_iald hC 67 (hB 67 (by decide) (by decide)) (cl_L_w (u := w) rfl) h78 dX11_hourOf_78 79 rfl ?_
    have e := Option.some.inj hk
    exact y_iret hC hr hlk (by rw [← e]) (by first | rfl | rw [← e]) dX11_hourOf_79
  refine y_aload_n hC dX11_hourOf_0 0 rfl 1 rfl ?_
  refine y_get hC 66 (hB 66 (by decide) (by decide)) (cl_L (u := w) rfl) rfl inU11 0 (by decide) w4_98 rfl dX11_hourOf_1 4 rfl ?_
  refine y_bipush hC dX11_hourOf_4 (v := (28 : Int32)) (by decide) 6 rfl ?_
  refine y_iload_n hC dX11_hourOf_6 1 rfl 7 rfl ?_
  refine y_iadd hC dX11_hourOf_7 8 rfl ?_
  obtain ⟨h8, hk⟩ := ob_if hk
  refine y_iald hC 67 (hB 67 (by decide) (by decide)) (cl_L_w (u := w) rfl) h8 dX11_hourOf_8 9 rfl ?_
  by_cases h9_1 : (pL_w w ((28 : Int32) + a1).toNatClampNeg).toInt = 1
  · have hk := ob_pos h9_1 hk
    refine y_tabI hC dX11_hourOf_9 h9_1 (by decide) (by decide) rfl 40 (by decide) ?_
    refine y_aload_n hC dX11_hourOf_40 0 rfl 41 rfl ?_
    refine y_iload_n hC dX11_hourOf_41 1 rfl 42 rfl ?_
    obtain ⟨x42, hx42, hk⟩ := ob_bind hk
    refine y_callV hC 66 (hB 66 (by decide) (by decide)) (cl_L (u := w) rfl) rfl (c_X11_waitsIn hJ hB l σ w a1 x42 hx42) rfl ⟨w5_72, w1_13, cwd_X11_waitsIn, by decide, by decide⟩ w5_69 w5_71 ws5_2 rfl rfl (Nat.le_of_ble_eq_true rfl) (by decide) dX11_hourOf_42 45 rfl (gL σ w) rfl [.int x42] rfl ?_
    have e := Option.some.inj hk
    exact y_iret hC hr hlk (by rw [← e]) (by first | rfl | rw [← e]) dX11_hourOf_45
  · have hk := ob_neg h9_1 hk
    by_cases h9_2 : (pL_w w ((28 : Int32) + a1).toNatClampNeg).toInt = 2
    · have hk := ob_pos h9_2 hk
      refine y_tabI hC dX11_hourOf_9 h9_2 (by decide) (by decide) rfl 70 (by decide) ?_
      refine y_sub [0, 1] rfl ?_
      exact J70 () hk
    · have hk := ob_neg h9_2 hk
      by_cases h9_3 : (pL_w w ((28 : Int32) + a1).toNatClampNeg).toInt = 3
      · have hk := ob_pos h9_3 hk
        refine y_tabI hC dX11_hourOf_9 h9_3 (by decide) (by decide) rfl 46 (by decide) ?_
        refine y_aload_n hC dX11_hourOf_46 0 rfl 47 rfl ?_
        refine y_iload_n hC dX11_hourOf_47 1 rfl 48 rfl ?_
        obtain ⟨x48, hx48, hk⟩ := ob_bind hk
        refine y_callV hC 66 (hB 66 (by decide) (by decide)) (cl_L (u := w) rfl) rfl (c_X11_waitsIn hJ hB l σ w a1 x48 hx48) rfl ⟨w5_72, w1_13, cwd_X11_waitsIn, by decide, by decide⟩ w5_69 w5_71 ws5_2 rfl rfl (Nat.le_of_ble_eq_true rfl) (by decide) dX11_hourOf_48 51 rfl (gL σ w) rfl [.int x48] rfl ?_
        refine y_bipush hC dX11_hourOf_51 (v := (6 : Int32)) (by decide) 53 rfl ?_
        refine y_icmp_ge hC dX11_hourOf_53 61 (by decide) 56 rfl (fun h53 => ?_) (fun h53 => ?_)
        · have hk := ob_pos h53 hk
          refine y_aload_n hC dX11_hourOf_61 0 rfl 62 rfl ?_
          refine y_iload_n hC dX11_hourOf_62 1 rfl 63 rfl ?_
          obtain ⟨x63, hx63, hk⟩ := ob_bind hk
          refine y_callV hC 66 (hB 66 (by decide) (by decide)) (cl_L (u := w) rfl) rfl (c_X11_waitsIn hJ hB l σ w a1 x63 hx63) rfl ⟨w5_72, w1_13, cwd_X11_waitsIn, by decide, by decide⟩ w5_69 w5_71 ws5_2 rfl rfl (Nat.le_of_ble_eq_true rfl) (by decide) dX11_hourOf_63 66 rfl (gL σ w) rfl [.int x63] rfl ?_
          have e := Option.some.inj hk
          exact y_iret hC hr hlk (by rw [← e]) (by first | rfl | rw [← e]) dX11_hourOf_66
        · have hk := ob_neg h53 hk
          refine y_bipush hC dX11_hourOf_56 (v := (6 : Int32)) (by decide) 58 rfl ?_
          refine y_goto hC dX11_hourOf_58 66 (by decide) ?_
          have e := Option.some.inj hk
          exact y_iret hC hr hlk (by rw [← e]) (by first | rfl | rw [← e]) dX11_hourOf_66
      · have hk := ob_neg h9_3 hk
        by_cases h9_4 : (pL_w w ((28 : Int32) + a1).toNatClampNeg).toInt = 4
        · have hk := ob_pos h9_4 hk
          refine y_tabI hC dX11_hourOf_9 h9_4 (by decide) (by decide) rfl 67 (by decide) ?_
          refine y_bipush hC dX11_hourOf_67 (v := (9 : Int32)) (by decide) 69 rfl ?_
          have e := Option.some.inj hk
          exact y_iret hC hr hlk (by rw [← e]) (by first | rfl | rw [← e]) dX11_hourOf_69
        · have hk := ob_neg h9_4 hk
          refine y_tabO hC dX11_hourOf_9 (by omega) 70 (by decide) ?_
          refine y_sub [0, 1] rfl ?_
          exact J70 () hk
def f_X11_plainPays (w : LSt) (a1 : Int32) (a2 : Int32) : Option (Int32) :=
  if inb ((44 : Int32) + a1) 608 then 
    (if inb (1 : Int32) 608 then 
    (lt ((pL_w w ((44 : Int32) + a1).toNatClampNeg) - ((pL_w w (1 : Int32).toNatClampNeg) * a2)) fun n18 => 
    (if 0 ≤ n18 then
      some n18
    else
      some (0 : Int32)))
  else none)
  else none
theorem cwd_X11_plainPays : yX11_plainPays.cls ≠ "java/lang/invoke/MethodHandle" ∧ yX11_plainPays.cls ≠ "java/lang/invoke/VarHandle" ∧ (parseMethodDescriptor yX11_plainPays.desc).map (fun d => d.parameters.length) = some 2 := by decide +kernel
set_option maxHeartbeats 4000000 in
set_option maxRecDepth 100000 in
theorem c_X11_plainPays {Γ : GC} (hJ : GJ Γ) (hB : ∀ i, 66 ≤ i → i < 77 → act Γ i) (l : Launch) (σ : GSt) (w : LSt) (a1 : Int32) (a2 : Int32) (x : Int32) (hk : f_X11_plainPays w a1 a2 = some x) : Mt Γ l yX11_plainPays cX11_plainPays 4 (some .int) 0 0 [.ref (ad Γ 66), .int a1, .int a2] (gL σ w) (some (.int x)) (gL σ w) := by
  refine y_enter (by decide) hJ (Nat.le_of_ble_eq_true rfl) [(0, .ref (ad Γ 66)), (1, .int a1), (2, .int a2)] rfl ?_
  intro p e s' m args below meth c' hC hr hlk
  refine y_aload_n hC dX11_plainPays_0 0 rfl 1 rfl ?_
  refine y_get hC 66 (hB 66 (by decide) (by decide)) (cl_L (u := w) rfl) rfl inU11 0 (by decide) w4_98 rfl dX11_plainPays_1 4 rfl ?_
  refine y_bipush hC dX11_plainPays_4 (v := (44 : Int32)) (by decide) 6 rfl ?_
  refine y_iload_n hC dX11_plainPays_6 1 rfl 7 rfl ?_
  refine y_iadd hC dX11_plainPays_7 8 rfl ?_
  obtain ⟨h8, hk⟩ := ob_if hk
  refine y_iald hC 67 (hB 67 (by decide) (by decide)) (cl_L_w (u := w) rfl) h8 dX11_plainPays_8 9 rfl ?_
  refine y_aload_n hC dX11_plainPays_9 0 rfl 10 rfl ?_
  refine y_get hC 66 (hB 66 (by decide) (by decide)) (cl_L (u := w) rfl) rfl inU11 0 (by decide) w4_98 rfl dX11_plainPays_10 13 rfl ?_
  refine y_iconst hC dX11_plainPays_13 (v := (1 : Int32)) (by decide) 14 rfl ?_
  obtain ⟨h14, hk⟩ := ob_if hk
  refine y_iald hC 67 (hB 67 (by decide) (by decide)) (cl_L_w (u := w) rfl) h14 dX11_plainPays_14 15 rfl ?_
  refine y_iload_n hC dX11_plainPays_15 2 rfl 16 rfl ?_
  refine y_imul hC dX11_plainPays_16 17 rfl ?_
  refine y_isub hC dX11_plainPays_17 18 rfl ?_
  obtain ⟨n18, en18, hk⟩ := ob_lt hk
  refine y_topi en18 ?_
  refine y_istore_n hC dX11_plainPays_18 (by decide) [(3, .int n18), (0, .ref (ad Γ 66)), (1, .int a1), (2, .int a2)] rfl 19 rfl ?_
  refine y_iload_n hC dX11_plainPays_19 0 rfl 20 rfl ?_
  refine y_if_ge hC dX11_plainPays_20 27 (by decide) 23 rfl (fun h20 => ?_) (fun h20 => ?_)
  · have hk := ob_pos h20 hk
    refine y_iload_n hC dX11_plainPays_27 0 rfl 28 rfl ?_
    have e := Option.some.inj hk
    exact y_iret hC hr hlk (by rw [← e]) (by first | rfl | rw [← e]) dX11_plainPays_28
  · have hk := ob_neg h20 hk
    refine y_iconst hC dX11_plainPays_23 (v := (0 : Int32)) (by decide) 24 rfl ?_
    refine y_goto hC dX11_plainPays_24 28 (by decide) ?_
    have e := Option.some.inj hk
    exact y_iret hC hr hlk (by rw [← e]) (by first | rfl | rw [← e]) dX11_plainPays_28
def f_X11_paysOf_j60 (w : LSt) (a1 : Int32) (t0 : Int32) : Option (Int32) :=
  (f_X11_hourOf w a1).bind fun x63 => 
    (if x63 = (pL_shouted w) then
      some (t0 + (5 : Int32))
    else
      some t0)
def f_X11_paysOf_j42 (w : LSt) (a1 : Int32) (v2 : Int32) : Option (Int32) :=
  f_X11_paysOf_j60 w a1 (v2 + (5 : Int32))
def f_X11_paysOf (w : LSt) (a1 : Int32) : Option (Int32) :=
  (f_X11_hourOf w a1).bind fun x4 => 
    ((f_X11_plainPays w a1 x4).bind fun x7 => 
    (if inb ((28 : Int32) + a1) 608 then 
    (lt (pL_w w ((28 : Int32) + a1).toNatClampNeg) fun n20 => 
    (if n20 = (2 : Int32) then
      f_X11_paysOf_j60 w a1 ((2 : Int32) * x7)
    else
      if n20 = (3 : Int32) then
        f_X11_paysOf_j42 w a1 x7
      else
        if n20 = (5 : Int32) then
          f_X11_paysOf_j42 w a1 x7
        else
          if n20 = (4 : Int32) then
            f_X11_paysOf_j60 w a1 (x7 / (2 : Int32))
          else
            f_X11_paysOf_j60 w a1 x7))
  else none))
theorem cwd_X11_paysOf : yX11_paysOf.cls ≠ "java/lang/invoke/MethodHandle" ∧ yX11_paysOf.cls ≠ "java/lang/invoke/VarHandle" ∧ (parseMethodDescriptor yX11_paysOf.desc).map (fun d => d.parameters.length) = some 1 := by decide +kernel
set_option maxHeartbeats 4000000 in
set_option maxRecDepth 100000 in
theorem c_X11_paysOf {Γ : GC} (hJ : GJ Γ) (hB : ∀ i, 66 ≤ i → i < 77 → act Γ i) (l : Launch) (σ : GSt) (w : LSt) (a1 : Int32) (x : Int32) (hk : f_X11_paysOf w a1 = some x) : Mt Γ l yX11_paysOf cX11_paysOf 4 (some .int) 2 44 [.ref (ad Γ 66), .int a1] (gL σ w) (some (.int x)) (gL σ w) := by
  refine y_enter (by decide) hJ (Nat.le_of_ble_eq_true rfl) [(0, .ref (ad Γ 66)), (1, .int a1)] rfl ?_
  intro p e s' m args below meth c' hC hr hlk
  have J60 : ∀ (t0 : Int32), f_X11_paysOf_j60 w a1 t0 = some x → Y Γ (GA Γ) p l e ({ frames := 2, cells := 0, slots := 0, locals := 44 } : Room) s' m args below meth c' 0 0 (MQ below (Qg Γ (some (.int x)) (gL σ w)) args s' 0 0 (GA Γ)) 4 (gL σ w) 60 [(0, .ref (ad Γ 66)), (1, .int a1)] [.int t0] := by
    intro t0 hk
    refine y_istore_n hC dX11_paysOf_60 (by decide) [(2, .int t0), (0, .ref (ad Γ 66)), (1, .int a1)] rfl 61 rfl ?_
    refine y_aload_n hC dX11_paysOf_61 1 rfl 62 rfl ?_
    refine y_iload_n hC dX11_paysOf_62 2 rfl 63 rfl ?_
    obtain ⟨x63, hx63, hk⟩ := ob_bind hk
    refine y_callV hC 66 (hB 66 (by decide) (by decide)) (cl_L (u := w) rfl) rfl (c_X11_hourOf hJ hB l σ w a1 x63 hx63) rfl ⟨w5_68, w1_13, cwd_X11_hourOf, by decide, by decide⟩ w5_65 w5_67 ws5_1 rfl rfl (Nat.le_of_ble_eq_true rfl) (by decide) dX11_paysOf_63 66 rfl (gL σ w) rfl [.int x63] rfl ?_
    refine y_aload_n hC dX11_paysOf_66 1 rfl 67 rfl ?_
    refine y_get hC 66 (hB 66 (by decide) (by decide)) (cl_L (u := w) rfl) rfl inU11 13 (by decide) w4_111 rfl dX11_paysOf_67 70 rfl ?_
    refine y_icmp_ne hC dX11_paysOf_70 79 (by decide) 73 rfl (fun h70 => ?_) (fun h70 => ?_)
    · have hk := ob_neg h70 hk
      refine y_iload_n hC dX11_paysOf_79 0 rfl 80 rfl ?_
      have e := Option.some.inj hk
      exact y_iret hC hr hlk (by rw [← e]) (by first | rfl | rw [← e]) dX11_paysOf_80
    · have hk := ob_pos h70 hk
      refine y_iload_n hC dX11_paysOf_73 0 rfl 74 rfl ?_
      refine y_iconst hC dX11_paysOf_74 (v := (5 : Int32)) (by decide) 75 rfl ?_
      refine y_iadd hC dX11_paysOf_75 76 rfl ?_
      refine y_goto hC dX11_paysOf_76 80 (by decide) ?_
      have e := Option.some.inj hk
      exact y_iret hC hr hlk (by rw [← e]) (by first | rfl | rw [← e]) dX11_paysOf_80
  have J42 : ∀ (v2 : Int32), f_X11_paysOf_j42 w a1 v2 = some x → Y Γ (GA Γ) p l e ({ frames := 2, cells := 0, slots := 0, locals := 44 } : Room) s' m args below meth c' 0 0 (MQ below (Qg Γ (some (.int x)) (gL σ w)) args s' 0 0 (GA Γ)) 4 (gL σ w) 42 [(0, .ref (ad Γ 66)), (1, .int a1), (2, .int v2)] [] := by
    intro v2 hk
    refine y_iload_n hC dX11_paysOf_42 2 rfl 43 rfl ?_
    refine y_iconst hC dX11_paysOf_43 (v := (5 : Int32)) (by decide) 44 rfl ?_
    refine y_iadd hC dX11_paysOf_44 45 rfl ?_
    refine y_goto hC dX11_paysOf_45 60 (by decide) ?_
    refine y_sub [0, 1] rfl ?_
    exact J60 (v2 + (5 : Int32)) hk
  refine y_aload_n hC dX11_paysOf_0 0 rfl 1 rfl ?_
  refine y_iload_n hC dX11_paysOf_1 1 rfl 2 rfl ?_
  refine y_aload_n hC dX11_paysOf_2 0 rfl 3 rfl ?_
  refine y_iload_n hC dX11_paysOf_3 1 rfl 4 rfl ?_
  obtain ⟨x4, hx4, hk⟩ := ob_bind hk
  refine y_callV hC 66 (hB 66 (by decide) (by decide)) (cl_L (u := w) rfl) rfl (c_X11_hourOf hJ hB l σ w a1 x4 hx4) rfl ⟨w5_68, w1_13, cwd_X11_hourOf, by decide, by decide⟩ w5_65 w5_67 ws5_1 rfl rfl (Nat.le_of_ble_eq_true rfl) (by decide) dX11_paysOf_4 7 rfl (gL σ w) rfl [.int x4, .int a1, .ref (ad Γ 66)] rfl ?_
  obtain ⟨x7, hx7, hk⟩ := ob_bind hk
  refine y_callV hC 66 (hB 66 (by decide) (by decide)) (cl_L (u := w) rfl) rfl (c_X11_plainPays hJ hB l σ w a1 x4 x7 hx7) rfl ⟨w5_84, w1_13, cwd_X11_plainPays, by decide, by decide⟩ w5_81 w5_83 ws5_5 rfl rfl (Nat.le_of_ble_eq_true rfl) (by decide) dX11_paysOf_7 10 rfl (gL σ w) rfl [.int x7] rfl ?_
  refine y_istore_n hC dX11_paysOf_10 (by decide) [(2, .int x7), (0, .ref (ad Γ 66)), (1, .int a1)] rfl 11 rfl ?_
  refine y_aload_n hC dX11_paysOf_11 1 rfl 12 rfl ?_
  refine y_get hC 66 (hB 66 (by decide) (by decide)) (cl_L (u := w) rfl) rfl inU11 0 (by decide) w4_98 rfl dX11_paysOf_12 15 rfl ?_
  refine y_bipush hC dX11_paysOf_15 (v := (28 : Int32)) (by decide) 17 rfl ?_
  refine y_iload_n hC dX11_paysOf_17 2 rfl 18 rfl ?_
  refine y_iadd hC dX11_paysOf_18 19 rfl ?_
  obtain ⟨h19, hk⟩ := ob_if hk
  refine y_iald hC 67 (hB 67 (by decide) (by decide)) (cl_L_w (u := w) rfl) h19 dX11_paysOf_19 20 rfl ?_
  obtain ⟨n20, en20, hk⟩ := ob_lt hk
  refine y_topi en20 ?_
  refine y_istore_n hC dX11_paysOf_20 (by decide) [(3, .int n20), (2, .int x7), (0, .ref (ad Γ 66)), (1, .int a1)] rfl 21 rfl ?_
  refine y_iload_n hC dX11_paysOf_21 0 rfl 22 rfl ?_
  refine y_iconst hC dX11_paysOf_22 (v := (2 : Int32)) (by decide) 23 rfl ?_
  refine y_icmp_ne hC dX11_paysOf_23 32 (by decide) 26 rfl (fun h23 => ?_) (fun h23 => ?_)
  · have hk := ob_neg h23 hk
    refine y_iload_n hC dX11_paysOf_32 0 rfl 33 rfl ?_
    refine y_iconst hC dX11_paysOf_33 (v := (3 : Int32)) (by decide) 34 rfl ?_
    refine y_icmp_eq hC dX11_paysOf_34 42 (by decide) 37 rfl (fun h34 => ?_) (fun h34 => ?_)
    · have hk := ob_pos h34 hk
      refine y_sub [2, 3, 1] rfl ?_
      exact J42 x7 hk
    · have hk := ob_neg h34 hk
      refine y_iload_n hC dX11_paysOf_37 0 rfl 38 rfl ?_
      refine y_iconst hC dX11_paysOf_38 (v := (5 : Int32)) (by decide) 39 rfl ?_
      refine y_icmp_ne hC dX11_paysOf_39 48 (by decide) 42 rfl (fun h39 => ?_) (fun h39 => ?_)
      · have hk := ob_neg h39 hk
        refine y_iload_n hC dX11_paysOf_48 0 rfl 49 rfl ?_
        refine y_iconst hC dX11_paysOf_49 (v := (4 : Int32)) (by decide) 50 rfl ?_
        refine y_icmp_ne hC dX11_paysOf_50 59 (by decide) 53 rfl (fun h50 => ?_) (fun h50 => ?_)
        · have hk := ob_neg h50 hk
          refine y_iload_n hC dX11_paysOf_59 1 rfl 60 rfl ?_
          refine y_sub [2, 3] rfl ?_
          exact J60 x7 hk
        · have hk := ob_pos h50 hk
          refine y_iload_n hC dX11_paysOf_53 1 rfl 54 rfl ?_
          refine y_iconst hC dX11_paysOf_54 (v := (2 : Int32)) (by decide) 55 rfl ?_
          refine y_idiv hC dX11_paysOf_55 (by decide) 56 rfl ?_
          refine y_goto hC dX11_paysOf_56 60 (by decide) ?_
          refine y_sub [2, 3] rfl ?_
          exact J60 (x7 / (2 : Int32)) hk
      · have hk := ob_pos h39 hk
        refine y_sub [2, 3, 1] rfl ?_
        exact J42 x7 hk
  · have hk := ob_pos h23 hk
    refine y_iconst hC dX11_paysOf_26 (v := (2 : Int32)) (by decide) 27 rfl ?_
    refine y_iload_n hC dX11_paysOf_27 1 rfl 28 rfl ?_
    refine y_imul hC dX11_paysOf_28 29 rfl ?_
    refine y_goto hC dX11_paysOf_29 60 (by decide) ?_
    refine y_sub [2, 3] rfl ?_
    exact J60 ((2 : Int32) * x7) hk
def f_X11_takesOf (w : LSt) (a1 : Int32) : Option (Int32) :=
  if inb ((52 : Int32) + a1) 608 then 
    (lt (pL_w w ((52 : Int32) + a1).toNatClampNeg) fun n9 => 
    (if inb ((28 : Int32) + a1) 608 then 
    (if (pL_w w ((28 : Int32) + a1).toNatClampNeg) = (4 : Int32) then
      some ((2 : Int32) * n9)
    else
      if inb ((28 : Int32) + a1) 608 then 
        (if (pL_w w ((28 : Int32) + a1).toNatClampNeg) = (5 : Int32) then
          if n9 = (1 : Int32) then
            some (2 : Int32)
          else
            some n9
        else
          some n9)
      else none)
  else none))
  else none
theorem cwd_X11_takesOf : yX11_takesOf.cls ≠ "java/lang/invoke/MethodHandle" ∧ yX11_takesOf.cls ≠ "java/lang/invoke/VarHandle" ∧ (parseMethodDescriptor yX11_takesOf.desc).map (fun d => d.parameters.length) = some 1 := by decide +kernel
set_option maxHeartbeats 4000000 in
set_option maxRecDepth 100000 in
theorem c_X11_takesOf {Γ : GC} (hJ : GJ Γ) (hB : ∀ i, 66 ≤ i → i < 77 → act Γ i) (l : Launch) (σ : GSt) (w : LSt) (a1 : Int32) (x : Int32) (hk : f_X11_takesOf w a1 = some x) : Mt Γ l yX11_takesOf cX11_takesOf 3 (some .int) 0 0 [.ref (ad Γ 66), .int a1] (gL σ w) (some (.int x)) (gL σ w) := by
  refine y_enter (by decide) hJ (Nat.le_of_ble_eq_true rfl) [(0, .ref (ad Γ 66)), (1, .int a1)] rfl ?_
  intro p e s' m args below meth c' hC hr hlk
  refine y_aload_n hC dX11_takesOf_0 0 rfl 1 rfl ?_
  refine y_get hC 66 (hB 66 (by decide) (by decide)) (cl_L (u := w) rfl) rfl inU11 0 (by decide) w4_98 rfl dX11_takesOf_1 4 rfl ?_
  refine y_bipush hC dX11_takesOf_4 (v := (52 : Int32)) (by decide) 6 rfl ?_
  refine y_iload_n hC dX11_takesOf_6 1 rfl 7 rfl ?_
  refine y_iadd hC dX11_takesOf_7 8 rfl ?_
  obtain ⟨h8, hk⟩ := ob_if hk
  refine y_iald hC 67 (hB 67 (by decide) (by decide)) (cl_L_w (u := w) rfl) h8 dX11_takesOf_8 9 rfl ?_
  obtain ⟨n9, en9, hk⟩ := ob_lt hk
  refine y_topi en9 ?_
  refine y_istore_n hC dX11_takesOf_9 (by decide) [(2, .int n9), (0, .ref (ad Γ 66)), (1, .int a1)] rfl 10 rfl ?_
  refine y_aload_n hC dX11_takesOf_10 1 rfl 11 rfl ?_
  refine y_get hC 66 (hB 66 (by decide) (by decide)) (cl_L (u := w) rfl) rfl inU11 0 (by decide) w4_98 rfl dX11_takesOf_11 14 rfl ?_
  refine y_bipush hC dX11_takesOf_14 (v := (28 : Int32)) (by decide) 16 rfl ?_
  refine y_iload_n hC dX11_takesOf_16 2 rfl 17 rfl ?_
  refine y_iadd hC dX11_takesOf_17 18 rfl ?_
  obtain ⟨h18, hk⟩ := ob_if hk
  refine y_iald hC 67 (hB 67 (by decide) (by decide)) (cl_L_w (u := w) rfl) h18 dX11_takesOf_18 19 rfl ?_
  refine y_iconst hC dX11_takesOf_19 (v := (4 : Int32)) (by decide) 20 rfl ?_
  refine y_icmp_ne hC dX11_takesOf_20 29 (by decide) 23 rfl (fun h20 => ?_) (fun h20 => ?_)
  · have hk := ob_neg h20 hk
    refine y_aload_n hC dX11_takesOf_29 1 rfl 30 rfl ?_
    refine y_get hC 66 (hB 66 (by decide) (by decide)) (cl_L (u := w) rfl) rfl inU11 0 (by decide) w4_98 rfl dX11_takesOf_30 33 rfl ?_
    refine y_bipush hC dX11_takesOf_33 (v := (28 : Int32)) (by decide) 35 rfl ?_
    refine y_iload_n hC dX11_takesOf_35 2 rfl 36 rfl ?_
    refine y_iadd hC dX11_takesOf_36 37 rfl ?_
    obtain ⟨h37, hk⟩ := ob_if hk
    refine y_iald hC 67 (hB 67 (by decide) (by decide)) (cl_L_w (u := w) rfl) h37 dX11_takesOf_37 38 rfl ?_
    refine y_iconst hC dX11_takesOf_38 (v := (5 : Int32)) (by decide) 39 rfl ?_
    refine y_icmp_ne hC dX11_takesOf_39 51 (by decide) 42 rfl (fun h39 => ?_) (fun h39 => ?_)
    · have hk := ob_neg h39 hk
      refine y_iload_n hC dX11_takesOf_51 0 rfl 52 rfl ?_
      have e := Option.some.inj hk
      exact y_iret hC hr hlk (by rw [← e]) (by first | rfl | rw [← e]) dX11_takesOf_52
    · have hk := ob_pos h39 hk
      refine y_iload_n hC dX11_takesOf_42 0 rfl 43 rfl ?_
      refine y_iconst hC dX11_takesOf_43 (v := (1 : Int32)) (by decide) 44 rfl ?_
      refine y_icmp_ne hC dX11_takesOf_44 51 (by decide) 47 rfl (fun h44 => ?_) (fun h44 => ?_)
      · have hk := ob_neg h44 hk
        refine y_iload_n hC dX11_takesOf_51 0 rfl 52 rfl ?_
        have e := Option.some.inj hk
        exact y_iret hC hr hlk (by rw [← e]) (by first | rfl | rw [← e]) dX11_takesOf_52
      · have hk := ob_pos h44 hk
        refine y_iconst hC dX11_takesOf_47 (v := (2 : Int32)) (by decide) 48 rfl ?_
        refine y_goto hC dX11_takesOf_48 52 (by decide) ?_
        have e := Option.some.inj hk
        exact y_iret hC hr hlk (by rw [← e]) (by first | rfl | rw [← e]) dX11_takesOf_52
  · have hk := ob_pos h20 hk
    refine y_iconst hC dX11_takesOf_23 (v := (2 : Int32)) (by decide) 24 rfl ?_
    refine y_iload_n hC dX11_takesOf_24 0 rfl 25 rfl ?_
    refine y_imul hC dX11_takesOf_25 26 rfl ?_
    refine y_goto hC dX11_takesOf_26 52 (by decide) ?_
    have e := Option.some.inj hk
    exact y_iret hC hr hlk (by rw [← e]) (by first | rfl | rw [← e]) dX11_takesOf_52
def f_X11_comes_j128 (a1 : Int32) (a2 : Int32) (v3 : Int32) (v6 : Int32) (t0 : Int32) (t1 : Int32) (gw : LSt) : Option (LSt) :=
  if inb t1 8 then 
    (lt (sL_isServed gw (upd (pL_isServed gw) t1.toNatClampNeg (vp_nar .boolean t0))) fun g128 => 
    (if inb a2 10 then 
    (if inb a2 10 then 
    (lt (sL_goes g128 (upd (pL_goes g128) a2.toNatClampNeg ((pL_goes g128 a2.toNatClampNeg) + v6))) fun g139 => 
    (lt (sL_left g139 ((pL_left g139) - v6)) fun g148 => 
    (lt (sL_takings g148 ((pL_takings g148) + (v6 * v3))) fun g161 => 
    (some g161))))
  else none)
  else none))
  else none
def f_X11_comes_j103 (a1 : Int32) (a2 : Int32) (v3 : Int32) (t0 : Int32) (gw : LSt) : Option (LSt) :=
  if inb a1 8 then 
    (lt (sL_gets gw (upd (pL_gets gw) a1.toNatClampNeg t0)) fun g112 => 
    (if t0 ≤ 0 then
      f_X11_comes_j128 a1 a2 v3 t0 (0 : Int32) a1 g112
    else
      f_X11_comes_j128 a1 a2 v3 t0 (1 : Int32) a1 g112))
  else none
def f_X11_comes_j73 (a1 : Int32) (a2 : Int32) (v3 : Int32) (v5 : Int32) (gw : LSt) : Option (LSt) :=
  if v5 < v3 then
    some gw
  else
    (f_X11_takesOf gw a1).bind fun x81 => 
      (if (pL_left gw) ≤ x81 then
        f_X11_comes_j103 a1 a2 v3 (pL_left gw) gw
      else
        (f_X11_takesOf gw a1).bind fun x93 => 
          (f_X11_comes_j103 a1 a2 v3 x93 gw))
def f_X11_comes (w : LSt) (a1 : Int32) (a2 : Int32) : Option (LSt) :=
  if inb ((8 : Int32) + a2) 608 then 
    (lt (pL_w w ((8 : Int32) + a2).toNatClampNeg) fun n9 => 
    (if inb ((18 : Int32) + a2) 608 then 
    (lt (pL_w w ((18 : Int32) + a2).toNatClampNeg) fun n19 => 
    ((f_X11_paysOf w a1).bind fun x23 => 
    (if n19 ≤ 0 then
      f_X11_comes_j73 a1 a2 n9 x23 w
    else
      if n9 ≤ n19 then
        f_X11_comes_j73 a1 a2 n9 x23 w
      else
        if x23 < n19 then
          f_X11_comes_j73 a1 a2 n9 x23 w
        else
          if inb a1 8 then 
            (lt (sL_isServed w (upd (pL_isServed w) a1.toNatClampNeg (vp_nar .boolean (1 : Int32)))) fun g52 => 
            ((f_X11_takesOf g52 a1).bind fun x62 => 
            (lt (sL_theirTakings g52 ((pL_theirTakings g52) + (n19 * x62))) fun g67 => 
            (some g67))))
          else none)))
  else none))
  else none
theorem cwd_X11_comes : yX11_comes.cls ≠ "java/lang/invoke/MethodHandle" ∧ yX11_comes.cls ≠ "java/lang/invoke/VarHandle" ∧ (parseMethodDescriptor yX11_comes.desc).map (fun d => d.parameters.length) = some 2 := by decide +kernel
set_option maxHeartbeats 4000000 in
set_option maxRecDepth 100000 in
theorem c_X11_comes {Γ : GC} (hJ : GJ Γ) (hB : ∀ i, 66 ≤ i → i < 77 → act Γ i) (l : Launch) (σ : GSt) (w : LSt) (a1 : Int32) (a2 : Int32) (x : LSt) (hk : f_X11_comes w a1 a2 = some x) : Mt Γ l yX11_comes cX11_comes 7 none 3 67 [.ref (ad Γ 66), .int a1, .int a2] (gL σ w) none (gL σ x) := by
  refine y_enter (by decide) hJ (Nat.le_of_ble_eq_true rfl) [(0, .ref (ad Γ 66)), (1, .int a1), (2, .int a2)] rfl ?_
  intro p e s' m args below meth c' hC hr hlk
  have J128 : ∀ (v3 : Int32) (v6 : Int32) (t0 : Int32) (t1 : Int32) (gw : LSt), f_X11_comes_j128 a1 a2 v3 v6 t0 t1 gw = some x → Y Γ (GA Γ) p l e ({ frames := 3, cells := 0, slots := 0, locals := 67 } : Room) s' m args below meth c' 0 0 (MQ below (Qg Γ none (gL σ x)) args s' 0 0 (GA Γ)) 7 (gL σ gw) 128 [(0, .ref (ad Γ 66)), (1, .int a1), (2, .int a2), (3, .int v3), (6, .int v6)] [.int t0, .int t1, .ref (ad Γ 72)] := by
    intro v3 v6 t0 t1 gw hk
    obtain ⟨h128, hk⟩ := ob_if hk
    obtain ⟨g128, eg128, hk⟩ := ob_lt hk
    refine y_zast hC 72 (hB 72 (by decide) (by decide)) (cl_L_isServed (u := gw) rfl) h128 (gL σ g128) (by subst eg128; exact (cu_L_isServed (u := gw) (v := (upd (pL_isServed gw) t1.toNatClampNeg (vp_nar .boolean t0))) rfl rfl)) dX11_comes_128 129 rfl ?_
    refine y_aload_n hC dX11_comes_129 0 rfl 130 rfl ?_
    refine y_get hC 66 (hB 66 (by decide) (by decide)) (cl_L (u := g128) rfl) rfl inU11 16 (by decide) w4_114 rfl dX11_comes_130 133 rfl ?_
    refine y_iload_n hC dX11_comes_133 2 rfl 134 rfl ?_
    refine y_dup2 hC dX11_comes_134 rfl rfl 135 rfl ?_
    obtain ⟨h135, hk⟩ := ob_if hk
    refine y_iald hC 73 (hB 73 (by decide) (by decide)) (cl_L_goes (u := g128) rfl) h135 dX11_comes_135 136 rfl ?_
    refine y_iload hC dX11_comes_136 4 rfl 138 rfl ?_
    refine y_iadd hC dX11_comes_138 139 rfl ?_
    obtain ⟨h139, hk⟩ := ob_if hk
    obtain ⟨g139, eg139, hk⟩ := ob_lt hk
    refine y_iast hC 73 (hB 73 (by decide) (by decide)) (cl_L_goes (u := g128) rfl) h139 (gL σ g139) (by subst eg139; exact (cu_L_goes (u := g128) (v := (upd (pL_goes g128) a2.toNatClampNeg ((pL_goes g128 a2.toNatClampNeg) + v6))) rfl rfl)) dX11_comes_139 140 rfl ?_
    refine y_aload_n hC dX11_comes_140 0 rfl 141 rfl ?_
    refine y_dup hC dX11_comes_141 rfl 142 rfl ?_
    refine y_get hC 66 (hB 66 (by decide) (by decide)) (cl_L (u := g139) rfl) rfl inU11 19 (by decide) w4_117 rfl dX11_comes_142 145 rfl ?_
    refine y_iload hC dX11_comes_145 4 rfl 147 rfl ?_
    refine y_isub hC dX11_comes_147 148 rfl ?_
    obtain ⟨g148, eg148, hk⟩ := ob_lt hk
    refine y_put hC 66 (hB 66 (by decide) (by decide)) (cl_L (u := g139) rfl) rfl inU11 tyX11_ok nmX11 19 (by decide) w4_117 rfl rfl rfl rfl (Nat.le_of_ble_eq_true rfl) (gL σ g148) (by subst eg148; exact (cu_L_left (u := g139) (v := ((pL_left g139) - v6)) rfl rfl)) dX11_comes_148 151 rfl ?_
    refine y_aload_n hC dX11_comes_151 0 rfl 152 rfl ?_
    refine y_dup hC dX11_comes_152 rfl 153 rfl ?_
    refine y_get hC 66 (hB 66 (by decide) (by decide)) (cl_L (u := g148) rfl) rfl inU11 17 (by decide) w4_115 rfl dX11_comes_153 156 rfl ?_
    refine y_iload hC dX11_comes_156 4 rfl 158 rfl ?_
    refine y_iload_n hC dX11_comes_158 3 rfl 159 rfl ?_
    refine y_imul hC dX11_comes_159 160 rfl ?_
    refine y_iadd hC dX11_comes_160 161 rfl ?_
    obtain ⟨g161, eg161, hk⟩ := ob_lt hk
    refine y_put hC 66 (hB 66 (by decide) (by decide)) (cl_L (u := g148) rfl) rfl inU11 tyX11_ok nmX11 17 (by decide) w4_115 rfl rfl rfl rfl (Nat.le_of_ble_eq_true rfl) (gL σ g161) (by subst eg161; exact (cu_L_takings (u := g148) (v := ((pL_takings g148) + (v6 * v3))) rfl rfl)) dX11_comes_161 164 rfl ?_
    have e := Option.some.inj hk
    exact y_vret hC hr hlk (by rw [← e]) dX11_comes_164
  have J103 : ∀ (v3 : Int32) (t0 : Int32) (gw : LSt), f_X11_comes_j103 a1 a2 v3 t0 gw = some x → Y Γ (GA Γ) p l e ({ frames := 3, cells := 0, slots := 0, locals := 67 } : Room) s' m args below meth c' 0 0 (MQ below (Qg Γ none (gL σ x)) args s' 0 0 (GA Γ)) 7 (gL σ gw) 103 [(0, .ref (ad Γ 66)), (1, .int a1), (2, .int a2), (3, .int v3)] [.int t0] := by
    intro v3 t0 gw hk
    refine y_istore hC dX11_comes_103 (by decide) [(6, .int t0), (0, .ref (ad Γ 66)), (1, .int a1), (2, .int a2), (3, .int v3)] rfl 105 rfl ?_
    refine y_aload_n hC dX11_comes_105 1 rfl 106 rfl ?_
    refine y_get hC 66 (hB 66 (by decide) (by decide)) (cl_L (u := gw) rfl) rfl inU11 14 (by decide) w4_112 rfl dX11_comes_106 109 rfl ?_
    refine y_iload_n hC dX11_comes_109 2 rfl 110 rfl ?_
    refine y_iload hC dX11_comes_110 0 rfl 112 rfl ?_
    obtain ⟨h112, hk⟩ := ob_if hk
    obtain ⟨g112, eg112, hk⟩ := ob_lt hk
    refine y_iast hC 71 (hB 71 (by decide) (by decide)) (cl_L_gets (u := gw) rfl) h112 (gL σ g112) (by subst eg112; exact (cu_L_gets (u := gw) (v := (upd (pL_gets gw) a1.toNatClampNeg t0)) rfl rfl)) dX11_comes_112 113 rfl ?_
    refine y_aload_n hC dX11_comes_113 1 rfl 114 rfl ?_
    refine y_get hC 66 (hB 66 (by decide) (by decide)) (cl_L (u := g112) rfl) rfl inU11 15 (by decide) w4_113 rfl dX11_comes_114 117 rfl ?_
    refine y_iload_n hC dX11_comes_117 2 rfl 118 rfl ?_
    refine y_iload hC dX11_comes_118 0 rfl 120 rfl ?_
    refine y_if_le hC dX11_comes_120 127 (by decide) 123 rfl (fun h120 => ?_) (fun h120 => ?_)
    · have hk := ob_pos h120 hk
      refine y_iconst hC dX11_comes_127 (v := (0 : Int32)) (by decide) 128 rfl ?_
      refine y_sub [1, 2, 3, 4, 0] rfl ?_
      exact J128 v3 t0 (0 : Int32) a1 g112 hk
    · have hk := ob_neg h120 hk
      refine y_iconst hC dX11_comes_123 (v := (1 : Int32)) (by decide) 124 rfl ?_
      refine y_goto hC dX11_comes_124 128 (by decide) ?_
      refine y_sub [1, 2, 3, 4, 0] rfl ?_
      exact J128 v3 t0 (1 : Int32) a1 g112 hk
  have J73 : ∀ (v3 : Int32) (v5 : Int32) (gw : LSt), f_X11_comes_j73 a1 a2 v3 v5 gw = some x → Y Γ (GA Γ) p l e ({ frames := 3, cells := 0, slots := 0, locals := 67 } : Room) s' m args below meth c' 0 0 (MQ below (Qg Γ none (gL σ x)) args s' 0 0 (GA Γ)) 7 (gL σ gw) 73 [(0, .ref (ad Γ 66)), (1, .int a1), (2, .int a2), (3, .int v3), (5, .int v5)] [] := by
    intro v3 v5 gw hk
    refine y_iload_n hC dX11_comes_73 3 rfl 74 rfl ?_
    refine y_iload hC dX11_comes_74 4 rfl 76 rfl ?_
    refine y_icmp_gt hC dX11_comes_76 164 (by decide) 79 rfl (fun h76 => ?_) (fun h76 => ?_)
    · have hk := ob_pos h76 hk
      have e := Option.some.inj hk
      exact y_vret hC hr hlk (by rw [← e]) dX11_comes_164
    · have hk := ob_neg h76 hk
      refine y_aload_n hC dX11_comes_79 0 rfl 80 rfl ?_
      refine y_iload_n hC dX11_comes_80 1 rfl 81 rfl ?_
      obtain ⟨x81, hx81, hk⟩ := ob_bind hk
      refine y_callV hC 66 (hB 66 (by decide) (by decide)) (cl_L (u := gw) rfl) rfl (c_X11_takesOf hJ hB l σ gw a1 x81 hx81) rfl ⟨w5_88, w1_13, cwd_X11_takesOf, by decide, by decide⟩ w5_85 w5_87 ws5_6 rfl rfl (Nat.le_of_ble_eq_true rfl) (by decide) dX11_comes_81 84 rfl (gL σ gw) rfl [.int x81] rfl ?_
      refine y_aload_n hC dX11_comes_84 0 rfl 85 rfl ?_
      refine y_get hC 66 (hB 66 (by decide) (by decide)) (cl_L (u := gw) rfl) rfl inU11 19 (by decide) w4_117 rfl dX11_comes_85 88 rfl ?_
      refine y_icmp_ge hC dX11_comes_88 99 (by decide) 91 rfl (fun h88 => ?_) (fun h88 => ?_)
      · have hk := ob_pos h88 hk
        refine y_aload_n hC dX11_comes_99 0 rfl 100 rfl ?_
        refine y_get hC 66 (hB 66 (by decide) (by decide)) (cl_L (u := gw) rfl) rfl inU11 19 (by decide) w4_117 rfl dX11_comes_100 103 rfl ?_
        refine y_sub [0, 1, 2, 3] rfl ?_
        exact J103 v3 (pL_left gw) gw hk
      · have hk := ob_neg h88 hk
        refine y_aload_n hC dX11_comes_91 0 rfl 92 rfl ?_
        refine y_iload_n hC dX11_comes_92 1 rfl 93 rfl ?_
        obtain ⟨x93, hx93, hk⟩ := ob_bind hk
        refine y_callV hC 66 (hB 66 (by decide) (by decide)) (cl_L (u := gw) rfl) rfl (c_X11_takesOf hJ hB l σ gw a1 x93 hx93) rfl ⟨w5_88, w1_13, cwd_X11_takesOf, by decide, by decide⟩ w5_85 w5_87 ws5_6 rfl rfl (Nat.le_of_ble_eq_true rfl) (by decide) dX11_comes_93 96 rfl (gL σ gw) rfl [.int x93] rfl ?_
        refine y_goto hC dX11_comes_96 103 (by decide) ?_
        refine y_sub [0, 1, 2, 3] rfl ?_
        exact J103 v3 x93 gw hk
  refine y_aload_n hC dX11_comes_0 0 rfl 1 rfl ?_
  refine y_get hC 66 (hB 66 (by decide) (by decide)) (cl_L (u := w) rfl) rfl inU11 0 (by decide) w4_98 rfl dX11_comes_1 4 rfl ?_
  refine y_bipush hC dX11_comes_4 (v := (8 : Int32)) (by decide) 6 rfl ?_
  refine y_iload_n hC dX11_comes_6 2 rfl 7 rfl ?_
  refine y_iadd hC dX11_comes_7 8 rfl ?_
  obtain ⟨h8, hk⟩ := ob_if hk
  refine y_iald hC 67 (hB 67 (by decide) (by decide)) (cl_L_w (u := w) rfl) h8 dX11_comes_8 9 rfl ?_
  obtain ⟨n9, en9, hk⟩ := ob_lt hk
  refine y_topi en9 ?_
  refine y_istore_n hC dX11_comes_9 (by decide) [(3, .int n9), (0, .ref (ad Γ 66)), (1, .int a1), (2, .int a2)] rfl 10 rfl ?_
  refine y_aload_n hC dX11_comes_10 1 rfl 11 rfl ?_
  refine y_get hC 66 (hB 66 (by decide) (by decide)) (cl_L (u := w) rfl) rfl inU11 0 (by decide) w4_98 rfl dX11_comes_11 14 rfl ?_
  refine y_bipush hC dX11_comes_14 (v := (18 : Int32)) (by decide) 16 rfl ?_
  refine y_iload_n hC dX11_comes_16 3 rfl 17 rfl ?_
  refine y_iadd hC dX11_comes_17 18 rfl ?_
  obtain ⟨h18, hk⟩ := ob_if hk
  refine y_iald hC 67 (hB 67 (by decide) (by decide)) (cl_L_w (u := w) rfl) h18 dX11_comes_18 19 rfl ?_
  obtain ⟨n19, en19, hk⟩ := ob_lt hk
  refine y_topi en19 ?_
  refine y_istore hC dX11_comes_19 (by decide) [(4, .int n19), (3, .int n9), (0, .ref (ad Γ 66)), (1, .int a1), (2, .int a2)] rfl 21 rfl ?_
  refine y_aload_n hC dX11_comes_21 2 rfl 22 rfl ?_
  refine y_iload_n hC dX11_comes_22 3 rfl 23 rfl ?_
  obtain ⟨x23, hx23, hk⟩ := ob_bind hk
  refine y_callV hC 66 (hB 66 (by decide) (by decide)) (cl_L (u := w) rfl) rfl (c_X11_paysOf hJ hB l σ w a1 x23 hx23) rfl ⟨w5_80, w1_13, cwd_X11_paysOf, by decide, by decide⟩ w5_77 w5_79 ws5_4 rfl rfl (Nat.le_of_ble_eq_true rfl) (by decide) dX11_comes_23 26 rfl (gL σ w) rfl [.int x23] rfl ?_
  refine y_istore hC dX11_comes_26 (by decide) [(5, .int x23), (4, .int n19), (3, .int n9), (0, .ref (ad Γ 66)), (1, .int a1), (2, .int a2)] rfl 28 rfl ?_
  refine y_iload hC dX11_comes_28 1 rfl 30 rfl ?_
  refine y_if_le hC dX11_comes_30 73 (by decide) 33 rfl (fun h30 => ?_) (fun h30 => ?_)
  · have hk := ob_pos h30 hk
    refine y_sub [3, 4, 5, 2, 0] rfl ?_
    exact J73 n9 x23 w hk
  · have hk := ob_neg h30 hk
    refine y_iload hC dX11_comes_33 1 rfl 35 rfl ?_
    refine y_iload_n hC dX11_comes_35 2 rfl 36 rfl ?_
    refine y_icmp_ge hC dX11_comes_36 73 (by decide) 39 rfl (fun h36 => ?_) (fun h36 => ?_)
    · have hk := ob_pos h36 hk
      refine y_sub [3, 4, 5, 2, 0] rfl ?_
      exact J73 n9 x23 w hk
    · have hk := ob_neg h36 hk
      refine y_iload hC dX11_comes_39 0 rfl 41 rfl ?_
      refine y_iload hC dX11_comes_41 1 rfl 43 rfl ?_
      refine y_icmp_lt hC dX11_comes_43 73 (by decide) 46 rfl (fun h43 => ?_) (fun h43 => ?_)
      · have hk := ob_pos h43 hk
        refine y_sub [3, 4, 5, 2, 0] rfl ?_
        exact J73 n9 x23 w hk
      · have hk := ob_neg h43 hk
        refine y_aload_n hC dX11_comes_46 3 rfl 47 rfl ?_
        refine y_get hC 66 (hB 66 (by decide) (by decide)) (cl_L (u := w) rfl) rfl inU11 15 (by decide) w4_113 rfl dX11_comes_47 50 rfl ?_
        refine y_iload_n hC dX11_comes_50 4 rfl 51 rfl ?_
        refine y_iconst hC dX11_comes_51 (v := (1 : Int32)) (by decide) 52 rfl ?_
        obtain ⟨h52, hk⟩ := ob_if hk
        obtain ⟨g52, eg52, hk⟩ := ob_lt hk
        refine y_zast hC 72 (hB 72 (by decide) (by decide)) (cl_L_isServed (u := w) rfl) h52 (gL σ g52) (by subst eg52; exact (cu_L_isServed (u := w) (v := (upd (pL_isServed w) a1.toNatClampNeg (vp_nar .boolean (1 : Int32)))) rfl rfl)) dX11_comes_52 53 rfl ?_
        refine y_aload_n hC dX11_comes_53 3 rfl 54 rfl ?_
        refine y_dup hC dX11_comes_54 rfl 55 rfl ?_
        refine y_get hC 66 (hB 66 (by decide) (by decide)) (cl_L (u := g52) rfl) rfl inU11 18 (by decide) w4_116 rfl dX11_comes_55 58 rfl ?_
        refine y_iload hC dX11_comes_58 1 rfl 60 rfl ?_
        refine y_aload_n hC dX11_comes_60 3 rfl 61 rfl ?_
        refine y_iload_n hC dX11_comes_61 4 rfl 62 rfl ?_
        obtain ⟨x62, hx62, hk⟩ := ob_bind hk
        refine y_callV hC 66 (hB 66 (by decide) (by decide)) (cl_L (u := g52) rfl) rfl (c_X11_takesOf hJ hB l σ g52 a1 x62 hx62) rfl ⟨w5_88, w1_13, cwd_X11_takesOf, by decide, by decide⟩ w5_85 w5_87 ws5_6 rfl rfl (Nat.le_of_ble_eq_true rfl) (by decide) dX11_comes_62 65 rfl (gL σ g52) rfl [.int x62, .int n19, .int (pL_theirTakings g52), .ref (ad Γ 66)] rfl ?_
        refine y_imul hC dX11_comes_65 66 rfl ?_
        refine y_iadd hC dX11_comes_66 67 rfl ?_
        obtain ⟨g67, eg67, hk⟩ := ob_lt hk
        refine y_put hC 66 (hB 66 (by decide) (by decide)) (cl_L (u := g52) rfl) rfl inU11 tyX11_ok nmX11 18 (by decide) w4_116 rfl rfl rfl rfl (Nat.le_of_ble_eq_true rfl) (gL σ g67) (by subst eg67; exact (cu_L_theirTakings (u := g52) (v := ((pL_theirTakings g52) + (n19 * x62))) rfl rfl)) dX11_comes_67 70 rfl ?_
        refine y_goto hC dX11_comes_70 164 (by decide) ?_
        have e := Option.some.inj hk
        exact y_vret hC hr hlk (by rw [← e]) dX11_comes_164
def f_X11_tries_j163 (a1 : Int32) (K55 : (Int32 × LSt) → Option (LSt)) (v2 : Int32) (gw : LSt) : Option (LSt) :=
  K55 ((v2 + (1 : Int32)), gw)
def f_X11_tries_j157 (a1 : Int32) (K55 : (Int32 × LSt) → Option (LSt)) (K70 : (Int32 × Int32 × LSt) → Option (LSt)) (v2 : Int32) (v3 : Int32) (gw : LSt) : Option (LSt) :=
  K70 (v2, (v3 + (1 : Int32)), gw)
def f_X11_tries_j124 (a1 : Int32) (K55 : (Int32 × LSt) → Option (LSt)) (K70 : (Int32 × Int32 × LSt) → Option (LSt)) (v2 : Int32) (v3 : Int32) (t0 : Int32) (gw : LSt) : Option (LSt) :=
  (f_X11_has (pL_comers gw) v3).bind fun x131 => 
    (if x131 = 0 then
      f_X11_tries_j157 a1 K55 K70 v2 v3 gw
    else
      if t0 = 0 then
        f_X11_tries_j157 a1 K55 K70 v2 v3 gw
      else
        (f_X11_hourOf gw v3).bind fun x144 => 
          (if x144 = v2 then
            (f_X11_comes gw v3 v2).bind fun x154 => 
              (f_X11_tries_j157 a1 K55 K70 v2 v3 x154)
          else
            f_X11_tries_j157 a1 K55 K70 v2 v3 gw))
def f_X11_tries_j119 (a1 : Int32) (K55 : (Int32 × LSt) → Option (LSt)) (K70 : (Int32 × Int32 × LSt) → Option (LSt)) (v2 : Int32) (v3 : Int32) (gw : LSt) : Option (LSt) :=
  f_X11_tries_j124 a1 K55 K70 v2 v3 (1 : Int32) gw
def f_X11_tries_s70 (a1 : Int32) (K55 : (Int32 × LSt) → Option (LSt)) (K70 : (Int32 × Int32 × LSt) → Option (LSt)) (q70 : Int32 × Int32 × LSt) : Option (LSt) :=
  if inb (3 : Int32) 608 then 
    (if (pL_w q70.2.2 (3 : Int32).toNatClampNeg) ≤ q70.2.1 then
      f_X11_tries_j163 a1 K55 q70.1 q70.2.2
    else
      if inb (2 : Int32) 608 then 
        ((f_X11_has (pL_w q70.2.2 (2 : Int32).toNatClampNeg) q70.1).bind fun x87 => 
        (if x87 = 0 then
          f_X11_tries_j119 a1 K55 K70 q70.1 q70.2.1 q70.2.2
        else
          if inb ((28 : Int32) + q70.2.1) 608 then 
            (if (pL_w q70.2.2 ((28 : Int32) + q70.2.1).toNatClampNeg) = (2 : Int32) then
              f_X11_tries_j119 a1 K55 K70 q70.1 q70.2.1 q70.2.2
            else
              if inb ((28 : Int32) + q70.2.1) 608 then 
                (if (pL_w q70.2.2 ((28 : Int32) + q70.2.1).toNatClampNeg) = (4 : Int32) then
                  f_X11_tries_j119 a1 K55 K70 q70.1 q70.2.1 q70.2.2
                else
                  f_X11_tries_j124 a1 K55 K70 q70.1 q70.2.1 (0 : Int32) q70.2.2)
              else none)
          else none))
      else none)
  else none
def f_X11_tries_s55 (a1 : Int32) (K55 : (Int32 × LSt) → Option (LSt)) (q55 : Int32 × LSt) : Option (LSt) :=
  if (10 : Int32) ≤ q55.1 then
    some q55.2
  else
    if inb q55.1 10 then 
      (lt (sL_goes q55.2 (upd (pL_goes q55.2) q55.1.toNatClampNeg (0 : Int32))) fun g67 => 
      (lp (f_X11_tries_s70 a1 K55) 1000 (q55.1, (0 : Int32), g67)))
    else none
def f_X11_tries_j53 (a1 : Int32) (gw : LSt) : Option (LSt) :=
  lp (f_X11_tries_s55 a1) 1000 ((0 : Int32), gw)
def f_X11_tries_s27 (a1 : Int32) (K27 : (Int32 × LSt) → Option (LSt)) (q27 : Int32 × LSt) : Option (LSt) :=
  if (8 : Int32) ≤ q27.1 then
    f_X11_tries_j53 a1 q27.2
  else
    if inb q27.1 8 then 
      (lt (sL_gets q27.2 (upd (pL_gets q27.2) q27.1.toNatClampNeg (0 : Int32))) fun g39 => 
      (if inb q27.1 8 then 
      (lt (sL_isServed g39 (upd (pL_isServed g39) q27.1.toNatClampNeg (vp_nar .boolean (0 : Int32)))) fun g46 => 
      (K27 ((q27.1 + (1 : Int32)), g46)))
    else none))
    else none
def f_X11_tries (w : LSt) (a1 : Int32) : Option (LSt) :=
  lt (sL_comers w a1) fun g2 => 
    (lt (sL_takings g2 (0 : Int32)) fun g7 => 
    (lt (sL_theirTakings g7 (0 : Int32)) fun g12 => 
    (if inb (0 : Int32) 608 then 
    (lt (sL_left g12 (pL_w g12 (0 : Int32).toNatClampNeg)) fun g22 => 
    (lp (f_X11_tries_s27 a1) 1000 ((0 : Int32), g22)))
  else none)))
theorem cwd_X11_tries : yX11_tries.cls ≠ "java/lang/invoke/MethodHandle" ∧ yX11_tries.cls ≠ "java/lang/invoke/VarHandle" ∧ (parseMethodDescriptor yX11_tries.desc).map (fun d => d.parameters.length) = some 1 := by decide +kernel
set_option maxHeartbeats 4000000 in
set_option maxRecDepth 100000 in
theorem c_X11_tries {Γ : GC} (hJ : GJ Γ) (hB : ∀ i, 66 ≤ i → i < 77 → act Γ i) (l : Launch) (σ : GSt) (w : LSt) (a1 : Int32) (x : LSt) (hk : f_X11_tries w a1 = some x) : Mt Γ l yX11_tries cX11_tries 5 none 4 93 [.ref (ad Γ 66), .int a1] (gL σ w) none (gL σ x) := by
  refine y_enter (by decide) hJ (Nat.le_of_ble_eq_true rfl) [(0, .ref (ad Γ 66)), (1, .int a1)] rfl ?_
  intro p e s' m args below meth c' hC hr hlk
  have L55 : ∀ (n55 : Nat) (q55 : Int32 × LSt), lp (f_X11_tries_s55 a1) n55 q55 = some x → Y Γ (GA Γ) p l e ({ frames := 4, cells := 0, slots := 0, locals := 93 } : Room) s' m args below meth c' 0 0 (MQ below (Qg Γ none (gL σ x)) args s' 0 0 (GA Γ)) 5 (gL σ q55.2) 55 [(0, .ref (ad Γ 66)), (1, .int a1), (2, .int q55.1)] [] := by
    intro n55
    induction n55 with
    | zero => intro q55 hk; exact (lp_zero hk).elim
    | succ n55 ih55 =>
      intro q55 hk
      have hk : f_X11_tries_s55 a1 (lp (f_X11_tries_s55 a1) n55) q55 = some x := (lp_succ _ _ _).symm.trans hk
      have J163 : ∀ (v2 : Int32) (gw : LSt), f_X11_tries_j163 a1 (lp (f_X11_tries_s55 a1) n55) v2 gw = some x → Y Γ (GA Γ) p l e ({ frames := 4, cells := 0, slots := 0, locals := 93 } : Room) s' m args below meth c' 0 0 (MQ below (Qg Γ none (gL σ x)) args s' 0 0 (GA Γ)) 5 (gL σ gw) 163 [(0, .ref (ad Γ 66)), (1, .int a1), (2, .int v2)] [] := by
        intro v2 gw hk
        refine y_iinc hC dX11_tries_163 2 rfl (v := (v2 + (1 : Int32))) rfl (by decide) [(2, .int (v2 + (1 : Int32))), (0, .ref (ad Γ 66)), (1, .int a1)] rfl 166 rfl ?_
        refine y_goto hC dX11_tries_166 55 (by decide) ?_
        refine y_sub [1, 2, 0] rfl ?_
        exact ih55 ((v2 + (1 : Int32)), gw) hk
      have L70 : ∀ (n70 : Nat) (q70 : Int32 × Int32 × LSt), lp (f_X11_tries_s70 a1 (lp (f_X11_tries_s55 a1) n55)) n70 q70 = some x → Y Γ (GA Γ) p l e ({ frames := 4, cells := 0, slots := 0, locals := 93 } : Room) s' m args below meth c' 0 0 (MQ below (Qg Γ none (gL σ x)) args s' 0 0 (GA Γ)) 5 (gL σ q70.2.2) 70 [(0, .ref (ad Γ 66)), (1, .int a1), (2, .int q70.1), (3, .int q70.2.1)] [] := by
        intro n70
        induction n70 with
        | zero => intro q70 hk; exact (lp_zero hk).elim
        | succ n70 ih70 =>
          intro q70 hk
          have hk : f_X11_tries_s70 a1 (lp (f_X11_tries_s55 a1) n55) (lp (f_X11_tries_s70 a1 (lp (f_X11_tries_s55 a1) n55)) n70) q70 = some x := (lp_succ _ _ _).symm.trans hk
          have J157 : ∀ (v2 : Int32) (v3 : Int32) (gw : LSt), f_X11_tries_j157 a1 (lp (f_X11_tries_s55 a1) n55) (lp (f_X11_tries_s70 a1 (lp (f_X11_tries_s55 a1) n55)) n70) v2 v3 gw = some x → Y Γ (GA Γ) p l e ({ frames := 4, cells := 0, slots := 0, locals := 93 } : Room) s' m args below meth c' 0 0 (MQ below (Qg Γ none (gL σ x)) args s' 0 0 (GA Γ)) 5 (gL σ gw) 157 [(0, .ref (ad Γ 66)), (1, .int a1), (2, .int v2), (3, .int v3)] [] := by
            intro v2 v3 gw hk
            refine y_iinc hC dX11_tries_157 3 rfl (v := (v3 + (1 : Int32))) rfl (by decide) [(3, .int (v3 + (1 : Int32))), (0, .ref (ad Γ 66)), (1, .int a1), (2, .int v2)] rfl 160 rfl ?_
            refine y_goto hC dX11_tries_160 70 (by decide) ?_
            refine y_sub [1, 2, 3, 0] rfl ?_
            exact ih70 (v2, (v3 + (1 : Int32)), gw) hk
          have J124 : ∀ (v2 : Int32) (v3 : Int32) (t0 : Int32) (gw : LSt), f_X11_tries_j124 a1 (lp (f_X11_tries_s55 a1) n55) (lp (f_X11_tries_s70 a1 (lp (f_X11_tries_s55 a1) n55)) n70) v2 v3 t0 gw = some x → Y Γ (GA Γ) p l e ({ frames := 4, cells := 0, slots := 0, locals := 93 } : Room) s' m args below meth c' 0 0 (MQ below (Qg Γ none (gL σ x)) args s' 0 0 (GA Γ)) 5 (gL σ gw) 124 [(0, .ref (ad Γ 66)), (1, .int a1), (2, .int v2), (3, .int v3)] [.int t0] := by
            intro v2 v3 t0 gw hk
            refine y_istore hC dX11_tries_124 (by decide) [(4, .int t0), (0, .ref (ad Γ 66)), (1, .int a1), (2, .int v2), (3, .int v3)] rfl 126 rfl ?_
            refine y_aload_n hC dX11_tries_126 1 rfl 127 rfl ?_
            refine y_get hC 66 (hB 66 (by decide) (by decide)) (cl_L (u := gw) rfl) rfl inU11 12 (by decide) w4_110 rfl dX11_tries_127 130 rfl ?_
            refine y_iload_n hC dX11_tries_130 4 rfl 131 rfl ?_
            obtain ⟨x131, hx131, hk⟩ := ob_bind hk
            refine y_callS hC (c_X11_has hJ l (gL σ gw) (pL_comers gw) v3 x131 hx131) rfl ⟨w5_64, w1_13, cwd_X11_has, by decide, by decide⟩ w5_62 w5_63 rfl rfl (Nat.le_of_ble_eq_true rfl) (by decide) dX11_tries_131 134 rfl (gL σ gw) rfl [.int x131] rfl ?_
            refine y_if_eq hC dX11_tries_134 157 (by decide) 137 rfl (fun h134 => ?_) (fun h134 => ?_)
            · have hk := ob_pos h134 hk
              refine y_sub [1, 2, 3, 4] rfl ?_
              exact J157 v2 v3 gw hk
            · have hk := ob_neg h134 hk
              refine y_iload hC dX11_tries_137 0 rfl 139 rfl ?_
              refine y_if_eq hC dX11_tries_139 157 (by decide) 142 rfl (fun h139 => ?_) (fun h139 => ?_)
              · have hk := ob_pos h139 hk
                refine y_sub [1, 2, 3, 4] rfl ?_
                exact J157 v2 v3 gw hk
              · have hk := ob_neg h139 hk
                refine y_aload_n hC dX11_tries_142 1 rfl 143 rfl ?_
                refine y_iload_n hC dX11_tries_143 4 rfl 144 rfl ?_
                obtain ⟨x144, hx144, hk⟩ := ob_bind hk
                refine y_callV hC 66 (hB 66 (by decide) (by decide)) (cl_L (u := gw) rfl) rfl (c_X11_hourOf hJ hB l σ gw v3 x144 hx144) rfl ⟨w5_68, w1_13, cwd_X11_hourOf, by decide, by decide⟩ w5_65 w5_67 ws5_1 rfl rfl (Nat.le_of_ble_eq_true rfl) (by decide) dX11_tries_144 147 rfl (gL σ gw) rfl [.int x144] rfl ?_
                refine y_iload_n hC dX11_tries_147 3 rfl 148 rfl ?_
                refine y_icmp_ne hC dX11_tries_148 157 (by decide) 151 rfl (fun h148 => ?_) (fun h148 => ?_)
                · have hk := ob_neg h148 hk
                  refine y_sub [1, 2, 3, 4] rfl ?_
                  exact J157 v2 v3 gw hk
                · have hk := ob_pos h148 hk
                  refine y_aload_n hC dX11_tries_151 1 rfl 152 rfl ?_
                  refine y_iload_n hC dX11_tries_152 4 rfl 153 rfl ?_
                  refine y_iload_n hC dX11_tries_153 3 rfl 154 rfl ?_
                  obtain ⟨x154, hx154, hk⟩ := ob_bind hk
                  refine y_callV hC 66 (hB 66 (by decide) (by decide)) (cl_L (u := gw) rfl) rfl (c_X11_comes hJ hB l σ gw v3 v2 x154 hx154) rfl ⟨w5_76, w1_13, cwd_X11_comes, by decide, by decide⟩ w5_73 w5_75 ws5_3 rfl rfl (Nat.le_of_ble_eq_true rfl) (by decide) dX11_tries_154 157 rfl (gL σ x154) rfl [] rfl ?_
                  refine y_sub [1, 2, 3, 4] rfl ?_
                  exact J157 v2 v3 x154 hk
          have J119 : ∀ (v2 : Int32) (v3 : Int32) (gw : LSt), f_X11_tries_j119 a1 (lp (f_X11_tries_s55 a1) n55) (lp (f_X11_tries_s70 a1 (lp (f_X11_tries_s55 a1) n55)) n70) v2 v3 gw = some x → Y Γ (GA Γ) p l e ({ frames := 4, cells := 0, slots := 0, locals := 93 } : Room) s' m args below meth c' 0 0 (MQ below (Qg Γ none (gL σ x)) args s' 0 0 (GA Γ)) 5 (gL σ gw) 119 [(0, .ref (ad Γ 66)), (1, .int a1), (2, .int v2), (3, .int v3)] [] := by
            intro v2 v3 gw hk
            refine y_iconst hC dX11_tries_119 (v := (1 : Int32)) (by decide) 120 rfl ?_
            refine y_goto hC dX11_tries_120 124 (by decide) ?_
            refine y_sub [0, 1, 2, 3] rfl ?_
            exact J124 v2 v3 (1 : Int32) gw hk
          refine y_iload_n hC dX11_tries_70 3 rfl 71 rfl ?_
          refine y_aload_n hC dX11_tries_71 0 rfl 72 rfl ?_
          refine y_get hC 66 (hB 66 (by decide) (by decide)) (cl_L (u := q70.2.2) rfl) rfl inU11 0 (by decide) w4_98 rfl dX11_tries_72 75 rfl ?_
          refine y_iconst hC dX11_tries_75 (v := (3 : Int32)) (by decide) 76 rfl ?_
          obtain ⟨h76, hk⟩ := ob_if hk
          refine y_iald hC 67 (hB 67 (by decide) (by decide)) (cl_L_w (u := q70.2.2) rfl) h76 dX11_tries_76 77 rfl ?_
          refine y_icmp_ge hC dX11_tries_77 163 (by decide) 80 rfl (fun h77 => ?_) (fun h77 => ?_)
          · have hk := ob_pos h77 hk
            refine y_sub [0, 1, 2] rfl ?_
            exact J163 q70.1 q70.2.2 hk
          · have hk := ob_neg h77 hk
            refine y_aload_n hC dX11_tries_80 0 rfl 81 rfl ?_
            refine y_get hC 66 (hB 66 (by decide) (by decide)) (cl_L (u := q70.2.2) rfl) rfl inU11 0 (by decide) w4_98 rfl dX11_tries_81 84 rfl ?_
            refine y_iconst hC dX11_tries_84 (v := (2 : Int32)) (by decide) 85 rfl ?_
            obtain ⟨h85, hk⟩ := ob_if hk
            refine y_iald hC 67 (hB 67 (by decide) (by decide)) (cl_L_w (u := q70.2.2) rfl) h85 dX11_tries_85 86 rfl ?_
            refine y_iload_n hC dX11_tries_86 2 rfl 87 rfl ?_
            obtain ⟨x87, hx87, hk⟩ := ob_bind hk
            refine y_callS hC (c_X11_has hJ l (gL σ q70.2.2) (pL_w q70.2.2 (2 : Int32).toNatClampNeg) q70.1 x87 hx87) rfl ⟨w5_64, w1_13, cwd_X11_has, by decide, by decide⟩ w5_62 w5_63 rfl rfl (Nat.le_of_ble_eq_true rfl) (by decide) dX11_tries_87 90 rfl (gL σ q70.2.2) rfl [.int x87] rfl ?_
            refine y_if_eq hC dX11_tries_90 119 (by decide) 93 rfl (fun h90 => ?_) (fun h90 => ?_)
            · have hk := ob_pos h90 hk
              refine y_sub [0, 1, 2, 3] rfl ?_
              exact J119 q70.1 q70.2.1 q70.2.2 hk
            · have hk := ob_neg h90 hk
              refine y_aload_n hC dX11_tries_93 0 rfl 94 rfl ?_
              refine y_get hC 66 (hB 66 (by decide) (by decide)) (cl_L (u := q70.2.2) rfl) rfl inU11 0 (by decide) w4_98 rfl dX11_tries_94 97 rfl ?_
              refine y_bipush hC dX11_tries_97 (v := (28 : Int32)) (by decide) 99 rfl ?_
              refine y_iload_n hC dX11_tries_99 3 rfl 100 rfl ?_
              refine y_iadd hC dX11_tries_100 101 rfl ?_
              obtain ⟨h101, hk⟩ := ob_if hk
              refine y_iald hC 67 (hB 67 (by decide) (by decide)) (cl_L_w (u := q70.2.2) rfl) h101 dX11_tries_101 102 rfl ?_
              refine y_iconst hC dX11_tries_102 (v := (2 : Int32)) (by decide) 103 rfl ?_
              refine y_icmp_eq hC dX11_tries_103 119 (by decide) 106 rfl (fun h103 => ?_) (fun h103 => ?_)
              · have hk := ob_pos h103 hk
                refine y_sub [0, 1, 2, 3] rfl ?_
                exact J119 q70.1 q70.2.1 q70.2.2 hk
              · have hk := ob_neg h103 hk
                refine y_aload_n hC dX11_tries_106 0 rfl 107 rfl ?_
                refine y_get hC 66 (hB 66 (by decide) (by decide)) (cl_L (u := q70.2.2) rfl) rfl inU11 0 (by decide) w4_98 rfl dX11_tries_107 110 rfl ?_
                refine y_bipush hC dX11_tries_110 (v := (28 : Int32)) (by decide) 112 rfl ?_
                refine y_iload_n hC dX11_tries_112 3 rfl 113 rfl ?_
                refine y_iadd hC dX11_tries_113 114 rfl ?_
                obtain ⟨h114, hk⟩ := ob_if hk
                refine y_iald hC 67 (hB 67 (by decide) (by decide)) (cl_L_w (u := q70.2.2) rfl) h114 dX11_tries_114 115 rfl ?_
                refine y_iconst hC dX11_tries_115 (v := (4 : Int32)) (by decide) 116 rfl ?_
                refine y_icmp_ne hC dX11_tries_116 123 (by decide) 119 rfl (fun h116 => ?_) (fun h116 => ?_)
                · have hk := ob_neg h116 hk
                  refine y_iconst hC dX11_tries_123 (v := (0 : Int32)) (by decide) 124 rfl ?_
                  refine y_sub [0, 1, 2, 3] rfl ?_
                  exact J124 q70.1 q70.2.1 (0 : Int32) q70.2.2 hk
                · have hk := ob_pos h116 hk
                  refine y_sub [0, 1, 2, 3] rfl ?_
                  exact J119 q70.1 q70.2.1 q70.2.2 hk
      refine y_iload_n hC dX11_tries_55 2 rfl 56 rfl ?_
      refine y_bipush hC dX11_tries_56 (v := (10 : Int32)) (by decide) 58 rfl ?_
      refine y_icmp_ge hC dX11_tries_58 169 (by decide) 61 rfl (fun h58 => ?_) (fun h58 => ?_)
      · have hk := ob_pos h58 hk
        have e := Option.some.inj hk
        exact y_vret hC hr hlk (by rw [← e]) dX11_tries_169
      · have hk := ob_neg h58 hk
        refine y_aload_n hC dX11_tries_61 0 rfl 62 rfl ?_
        refine y_get hC 66 (hB 66 (by decide) (by decide)) (cl_L (u := q55.2) rfl) rfl inU11 16 (by decide) w4_114 rfl dX11_tries_62 65 rfl ?_
        refine y_iload_n hC dX11_tries_65 2 rfl 66 rfl ?_
        refine y_iconst hC dX11_tries_66 (v := (0 : Int32)) (by decide) 67 rfl ?_
        obtain ⟨h67, hk⟩ := ob_if hk
        obtain ⟨g67, eg67, hk⟩ := ob_lt hk
        refine y_iast hC 73 (hB 73 (by decide) (by decide)) (cl_L_goes (u := q55.2) rfl) h67 (gL σ g67) (by subst eg67; exact (cu_L_goes (u := q55.2) (v := (upd (pL_goes q55.2) q55.1.toNatClampNeg (0 : Int32))) rfl rfl)) dX11_tries_67 68 rfl ?_
        refine y_iconst hC dX11_tries_68 (v := (0 : Int32)) (by decide) 69 rfl ?_
        refine y_istore_n hC dX11_tries_69 (by decide) [(3, .int (0 : Int32)), (0, .ref (ad Γ 66)), (1, .int a1), (2, .int q55.1)] rfl 70 rfl ?_
        refine y_sub [1, 2, 3, 0] rfl ?_
        exact L70 1000 (q55.1, (0 : Int32), g67) hk
  have J53 : ∀ (gw : LSt), f_X11_tries_j53 a1 gw = some x → Y Γ (GA Γ) p l e ({ frames := 4, cells := 0, slots := 0, locals := 93 } : Room) s' m args below meth c' 0 0 (MQ below (Qg Γ none (gL σ x)) args s' 0 0 (GA Γ)) 5 (gL σ gw) 53 [(0, .ref (ad Γ 66)), (1, .int a1)] [] := by
    intro gw hk
    refine y_iconst hC dX11_tries_53 (v := (0 : Int32)) (by decide) 54 rfl ?_
    refine y_istore_n hC dX11_tries_54 (by decide) [(2, .int (0 : Int32)), (0, .ref (ad Γ 66)), (1, .int a1)] rfl 55 rfl ?_
    refine y_sub [1, 2, 0] rfl ?_
    exact L55 1000 ((0 : Int32), gw) hk
  have L27 : ∀ (n27 : Nat) (q27 : Int32 × LSt), lp (f_X11_tries_s27 a1) n27 q27 = some x → Y Γ (GA Γ) p l e ({ frames := 4, cells := 0, slots := 0, locals := 93 } : Room) s' m args below meth c' 0 0 (MQ below (Qg Γ none (gL σ x)) args s' 0 0 (GA Γ)) 5 (gL σ q27.2) 27 [(0, .ref (ad Γ 66)), (1, .int a1), (2, .int q27.1)] [] := by
    intro n27
    induction n27 with
    | zero => intro q27 hk; exact (lp_zero hk).elim
    | succ n27 ih27 =>
      intro q27 hk
      have hk : f_X11_tries_s27 a1 (lp (f_X11_tries_s27 a1) n27) q27 = some x := (lp_succ _ _ _).symm.trans hk
      refine y_iload_n hC dX11_tries_27 2 rfl 28 rfl ?_
      refine y_bipush hC dX11_tries_28 (v := (8 : Int32)) (by decide) 30 rfl ?_
      refine y_icmp_ge hC dX11_tries_30 53 (by decide) 33 rfl (fun h30 => ?_) (fun h30 => ?_)
      · have hk := ob_pos h30 hk
        refine y_sub [0, 1] rfl ?_
        exact J53 q27.2 hk
      · have hk := ob_neg h30 hk
        refine y_aload_n hC dX11_tries_33 0 rfl 34 rfl ?_
        refine y_get hC 66 (hB 66 (by decide) (by decide)) (cl_L (u := q27.2) rfl) rfl inU11 14 (by decide) w4_112 rfl dX11_tries_34 37 rfl ?_
        refine y_iload_n hC dX11_tries_37 2 rfl 38 rfl ?_
        refine y_iconst hC dX11_tries_38 (v := (0 : Int32)) (by decide) 39 rfl ?_
        obtain ⟨h39, hk⟩ := ob_if hk
        obtain ⟨g39, eg39, hk⟩ := ob_lt hk
        refine y_iast hC 71 (hB 71 (by decide) (by decide)) (cl_L_gets (u := q27.2) rfl) h39 (gL σ g39) (by subst eg39; exact (cu_L_gets (u := q27.2) (v := (upd (pL_gets q27.2) q27.1.toNatClampNeg (0 : Int32))) rfl rfl)) dX11_tries_39 40 rfl ?_
        refine y_aload_n hC dX11_tries_40 0 rfl 41 rfl ?_
        refine y_get hC 66 (hB 66 (by decide) (by decide)) (cl_L (u := g39) rfl) rfl inU11 15 (by decide) w4_113 rfl dX11_tries_41 44 rfl ?_
        refine y_iload_n hC dX11_tries_44 2 rfl 45 rfl ?_
        refine y_iconst hC dX11_tries_45 (v := (0 : Int32)) (by decide) 46 rfl ?_
        obtain ⟨h46, hk⟩ := ob_if hk
        obtain ⟨g46, eg46, hk⟩ := ob_lt hk
        refine y_zast hC 72 (hB 72 (by decide) (by decide)) (cl_L_isServed (u := g39) rfl) h46 (gL σ g46) (by subst eg46; exact (cu_L_isServed (u := g39) (v := (upd (pL_isServed g39) q27.1.toNatClampNeg (vp_nar .boolean (0 : Int32)))) rfl rfl)) dX11_tries_46 47 rfl ?_
        refine y_iinc hC dX11_tries_47 2 rfl (v := (q27.1 + (1 : Int32))) rfl (by decide) [(2, .int (q27.1 + (1 : Int32))), (0, .ref (ad Γ 66)), (1, .int a1)] rfl 50 rfl ?_
        refine y_goto hC dX11_tries_50 27 (by decide) ?_
        refine y_sub [1, 2, 0] rfl ?_
        exact ih27 ((q27.1 + (1 : Int32)), g46) hk
  refine y_aload_n hC dX11_tries_0 0 rfl 1 rfl ?_
  refine y_iload_n hC dX11_tries_1 1 rfl 2 rfl ?_
  obtain ⟨g2, eg2, hk⟩ := ob_lt hk
  refine y_put hC 66 (hB 66 (by decide) (by decide)) (cl_L (u := w) rfl) rfl inU11 tyX11_ok nmX11 12 (by decide) w4_110 rfl rfl rfl rfl (Nat.le_of_ble_eq_true rfl) (gL σ g2) (by subst eg2; exact (cu_L_comers (u := w) (v := a1) rfl rfl)) dX11_tries_2 5 rfl ?_
  refine y_aload_n hC dX11_tries_5 0 rfl 6 rfl ?_
  refine y_iconst hC dX11_tries_6 (v := (0 : Int32)) (by decide) 7 rfl ?_
  obtain ⟨g7, eg7, hk⟩ := ob_lt hk
  refine y_put hC 66 (hB 66 (by decide) (by decide)) (cl_L (u := g2) rfl) rfl inU11 tyX11_ok nmX11 17 (by decide) w4_115 rfl rfl rfl rfl (Nat.le_of_ble_eq_true rfl) (gL σ g7) (by subst eg7; exact (cu_L_takings (u := g2) (v := (0 : Int32)) rfl rfl)) dX11_tries_7 10 rfl ?_
  refine y_aload_n hC dX11_tries_10 0 rfl 11 rfl ?_
  refine y_iconst hC dX11_tries_11 (v := (0 : Int32)) (by decide) 12 rfl ?_
  obtain ⟨g12, eg12, hk⟩ := ob_lt hk
  refine y_put hC 66 (hB 66 (by decide) (by decide)) (cl_L (u := g7) rfl) rfl inU11 tyX11_ok nmX11 18 (by decide) w4_116 rfl rfl rfl rfl (Nat.le_of_ble_eq_true rfl) (gL σ g12) (by subst eg12; exact (cu_L_theirTakings (u := g7) (v := (0 : Int32)) rfl rfl)) dX11_tries_12 15 rfl ?_
  refine y_aload_n hC dX11_tries_15 0 rfl 16 rfl ?_
  refine y_aload_n hC dX11_tries_16 0 rfl 17 rfl ?_
  refine y_get hC 66 (hB 66 (by decide) (by decide)) (cl_L (u := g12) rfl) rfl inU11 0 (by decide) w4_98 rfl dX11_tries_17 20 rfl ?_
  refine y_iconst hC dX11_tries_20 (v := (0 : Int32)) (by decide) 21 rfl ?_
  obtain ⟨h21, hk⟩ := ob_if hk
  refine y_iald hC 67 (hB 67 (by decide) (by decide)) (cl_L_w (u := g12) rfl) h21 dX11_tries_21 22 rfl ?_
  obtain ⟨g22, eg22, hk⟩ := ob_lt hk
  refine y_put hC 66 (hB 66 (by decide) (by decide)) (cl_L (u := g12) rfl) rfl inU11 tyX11_ok nmX11 19 (by decide) w4_117 rfl rfl rfl rfl (Nat.le_of_ble_eq_true rfl) (gL σ g22) (by subst eg22; exact (cu_L_left (u := g12) (v := (pL_w g12 (0 : Int32).toNatClampNeg)) rfl rfl)) dX11_tries_22 25 rfl ?_
  refine y_iconst hC dX11_tries_25 (v := (0 : Int32)) (by decide) 26 rfl ?_
  refine y_istore_n hC dX11_tries_26 (by decide) [(2, .int (0 : Int32)), (0, .ref (ad Γ 66)), (1, .int a1)] rfl 27 rfl ?_
  refine y_sub [1, 2, 0] rfl ?_
  exact L27 1000 ((0 : Int32), g22) hk
def f_X11_triesAll (w : LSt) : Option (LSt) :=
  lt (sL_shouted w (-1 : Int32)) fun g2 => 
    ((f_X11_tries g2 (255 : Int32)).bind fun x9 => 
    (some x9))
theorem cwd_X11_triesAll : yX11_triesAll.cls ≠ "java/lang/invoke/MethodHandle" ∧ yX11_triesAll.cls ≠ "java/lang/invoke/VarHandle" ∧ (parseMethodDescriptor yX11_triesAll.desc).map (fun d => d.parameters.length) = some 0 := by decide +kernel
set_option maxHeartbeats 4000000 in
set_option maxRecDepth 100000 in
theorem c_X11_triesAll {Γ : GC} (hJ : GJ Γ) (hB : ∀ i, 66 ≤ i → i < 77 → act Γ i) (l : Launch) (σ : GSt) (w : LSt) (x : LSt) (hk : f_X11_triesAll w = some x) : Mt Γ l yX11_triesAll cX11_triesAll 1 none 5 117 [.ref (ad Γ 66)] (gL σ w) none (gL σ x) := by
  refine y_enter (by decide) hJ (Nat.le_of_ble_eq_true rfl) [(0, .ref (ad Γ 66))] rfl ?_
  intro p e s' m args below meth c' hC hr hlk
  refine y_aload_n hC dX11_triesAll_0 0 rfl 1 rfl ?_
  refine y_iconst hC dX11_triesAll_1 (v := (-1 : Int32)) (by decide) 2 rfl ?_
  obtain ⟨g2, eg2, hk⟩ := ob_lt hk
  refine y_put hC 66 (hB 66 (by decide) (by decide)) (cl_L (u := w) rfl) rfl inU11 tyX11_ok nmX11 13 (by decide) w4_111 rfl rfl rfl rfl (Nat.le_of_ble_eq_true rfl) (gL σ g2) (by subst eg2; exact (cu_L_shouted (u := w) (v := (-1 : Int32)) rfl rfl)) dX11_triesAll_2 5 rfl ?_
  refine y_aload_n hC dX11_triesAll_5 0 rfl 6 rfl ?_
  refine y_sipush hC dX11_triesAll_6 (v := (255 : Int32)) (by decide) 9 rfl ?_
  obtain ⟨x9, hx9, hk⟩ := ob_bind hk
  refine y_callV hC 66 (hB 66 (by decide) (by decide)) (cl_L (u := g2) rfl) rfl (c_X11_tries hJ hB l σ g2 (255 : Int32) x9 hx9) rfl ⟨w5_61, w1_13, cwd_X11_tries, by decide, by decide⟩ w5_58 w5_60 ws5_0 rfl rfl (Nat.le_of_ble_eq_true rfl) (by decide) dX11_triesAll_9 12 rfl (gL σ x9) rfl [] rfl ?_
  have e := Option.some.inj hk
  exact y_vret hC hr hlk (by rw [← e]) dX11_triesAll_12
def f_X11_isCheaper_j53 (w : LSt) (a1 : Int32) (K13 : (Int32 × Int32 × Int32) → Option (Int32)) (v2 : Int32) (v4 : Int32) (t0 : Int32) : Option (Int32) :=
  K13 (v2, t0, (v4 + (1 : Int32)))
def f_X11_isCheaper_j48 (w : LSt) (a1 : Int32) (K13 : (Int32 × Int32 × Int32) → Option (Int32)) (v2 : Int32) (v4 : Int32) : Option (Int32) :=
  f_X11_isCheaper_j53 w a1 K13 v2 v4 (1 : Int32)
def f_X11_isCheaper_s13 (w : LSt) (a1 : Int32) (K13 : (Int32 × Int32 × Int32) → Option (Int32)) (q13 : Int32 × Int32 × Int32) : Option (Int32) :=
  if (10 : Int32) ≤ q13.2.2 then
    if q13.2.1 = 0 ∨ q13.2.1 = 1 then 
      (some q13.2.1)
    else none
  else
    if q13.2.1 = 0 then
      if inb ((8 : Int32) + q13.2.2) 608 then 
        (if inb ((8 : Int32) + q13.1) 608 then 
        (if ((pL_w w ((8 : Int32) + q13.1).toNatClampNeg) / (2 : Int32)) ≤ (pL_w w ((8 : Int32) + q13.2.2).toNatClampNeg) then
          f_X11_isCheaper_j53 w a1 K13 q13.1 q13.2.2 (0 : Int32)
        else
          f_X11_isCheaper_j48 w a1 K13 q13.1 q13.2.2)
      else none)
      else none
    else
      f_X11_isCheaper_j48 w a1 K13 q13.1 q13.2.2
def f_X11_isCheaper (w : LSt) (a1 : Int32) : Option (Int32) :=
  (f_X11_hourOf w a1).bind fun x2 => 
    (lp (f_X11_isCheaper_s13 w a1) 1000 (x2, (0 : Int32), (x2 + (1 : Int32))))
theorem cwd_X11_isCheaper : yX11_isCheaper.cls ≠ "java/lang/invoke/MethodHandle" ∧ yX11_isCheaper.cls ≠ "java/lang/invoke/VarHandle" ∧ (parseMethodDescriptor yX11_isCheaper.desc).map (fun d => d.parameters.length) = some 1 := by decide +kernel
set_option maxHeartbeats 4000000 in
set_option maxRecDepth 100000 in
theorem c_X11_isCheaper {Γ : GC} (hJ : GJ Γ) (hB : ∀ i, 66 ≤ i → i < 77 → act Γ i) (l : Launch) (σ : GSt) (w : LSt) (a1 : Int32) (x : Int32) (hk : f_X11_isCheaper w a1 = some x) : Mt Γ l yX11_isCheaper cX11_isCheaper 5 (some .boolean) 2 44 [.ref (ad Γ 66), .int a1] (gL σ w) (some (.int x)) (gL σ w) := by
  refine y_enter (by decide) hJ (Nat.le_of_ble_eq_true rfl) [(0, .ref (ad Γ 66)), (1, .int a1)] rfl ?_
  intro p e s' m args below meth c' hC hr hlk
  have L13 : ∀ (n13 : Nat) (q13 : Int32 × Int32 × Int32), lp (f_X11_isCheaper_s13 w a1) n13 q13 = some x → Y Γ (GA Γ) p l e ({ frames := 2, cells := 0, slots := 0, locals := 44 } : Room) s' m args below meth c' 0 0 (MQ below (Qg Γ (some (.int x)) (gL σ w)) args s' 0 0 (GA Γ)) 5 (gL σ w) 13 [(0, .ref (ad Γ 66)), (1, .int a1), (2, .int q13.1), (3, .int q13.2.1), (4, .int q13.2.2)] [] := by
    intro n13
    induction n13 with
    | zero => intro q13 hk; exact (lp_zero hk).elim
    | succ n13 ih13 =>
      intro q13 hk
      have hk : f_X11_isCheaper_s13 w a1 (lp (f_X11_isCheaper_s13 w a1) n13) q13 = some x := (lp_succ _ _ _).symm.trans hk
      have J53 : ∀ (v2 : Int32) (v4 : Int32) (t0 : Int32), f_X11_isCheaper_j53 w a1 (lp (f_X11_isCheaper_s13 w a1) n13) v2 v4 t0 = some x → Y Γ (GA Γ) p l e ({ frames := 2, cells := 0, slots := 0, locals := 44 } : Room) s' m args below meth c' 0 0 (MQ below (Qg Γ (some (.int x)) (gL σ w)) args s' 0 0 (GA Γ)) 5 (gL σ w) 53 [(0, .ref (ad Γ 66)), (1, .int a1), (2, .int v2), (4, .int v4)] [.int t0] := by
        intro v2 v4 t0 hk
        refine y_istore_n hC dX11_isCheaper_53 (by decide) [(3, .int t0), (0, .ref (ad Γ 66)), (1, .int a1), (2, .int v2), (4, .int v4)] rfl 54 rfl ?_
        refine y_iinc hC dX11_isCheaper_54 4 rfl (v := (v4 + (1 : Int32))) rfl (by decide) [(4, .int (v4 + (1 : Int32))), (3, .int t0), (0, .ref (ad Γ 66)), (1, .int a1), (2, .int v2)] rfl 57 rfl ?_
        refine y_goto hC dX11_isCheaper_57 13 (by decide) ?_
        refine y_sub [2, 3, 4, 1, 0] rfl ?_
        exact ih13 (v2, t0, (v4 + (1 : Int32))) hk
      have J48 : ∀ (v2 : Int32) (v4 : Int32), f_X11_isCheaper_j48 w a1 (lp (f_X11_isCheaper_s13 w a1) n13) v2 v4 = some x → Y Γ (GA Γ) p l e ({ frames := 2, cells := 0, slots := 0, locals := 44 } : Room) s' m args below meth c' 0 0 (MQ below (Qg Γ (some (.int x)) (gL σ w)) args s' 0 0 (GA Γ)) 5 (gL σ w) 48 [(0, .ref (ad Γ 66)), (1, .int a1), (2, .int v2), (4, .int v4)] [] := by
        intro v2 v4 hk
        refine y_iconst hC dX11_isCheaper_48 (v := (1 : Int32)) (by decide) 49 rfl ?_
        refine y_goto hC dX11_isCheaper_49 53 (by decide) ?_
        refine y_sub [0, 1, 2, 3] rfl ?_
        exact J53 v2 v4 (1 : Int32) hk
      refine y_iload hC dX11_isCheaper_13 4 rfl 15 rfl ?_
      refine y_bipush hC dX11_isCheaper_15 (v := (10 : Int32)) (by decide) 17 rfl ?_
      refine y_icmp_ge hC dX11_isCheaper_17 60 (by decide) 20 rfl (fun h17 => ?_) (fun h17 => ?_)
      · have hk := ob_pos h17 hk
        refine y_iload_n hC dX11_isCheaper_60 3 rfl 61 rfl ?_
        obtain ⟨h61, hk⟩ := ob_if hk
        have e := Option.some.inj hk
        exact y_zret hC hr hlk (nz_bool h61) (by rw [← e]) (by first | rfl | rw [← e]) dX11_isCheaper_61
      · have hk := ob_neg h17 hk
        refine y_iload_n hC dX11_isCheaper_20 3 rfl 21 rfl ?_
        refine y_if_ne hC dX11_isCheaper_21 48 (by decide) 24 rfl (fun h21 => ?_) (fun h21 => ?_)
        · have hk := ob_neg h21 hk
          refine y_sub [0, 1, 2, 4] rfl ?_
          exact J48 q13.1 q13.2.2 hk
        · have hk := ob_pos h21 hk
          refine y_aload_n hC dX11_isCheaper_24 0 rfl 25 rfl ?_
          refine y_get hC 66 (hB 66 (by decide) (by decide)) (cl_L (u := w) rfl) rfl inU11 0 (by decide) w4_98 rfl dX11_isCheaper_25 28 rfl ?_
          refine y_bipush hC dX11_isCheaper_28 (v := (8 : Int32)) (by decide) 30 rfl ?_
          refine y_iload hC dX11_isCheaper_30 4 rfl 32 rfl ?_
          refine y_iadd hC dX11_isCheaper_32 33 rfl ?_
          obtain ⟨h33, hk⟩ := ob_if hk
          refine y_iald hC 67 (hB 67 (by decide) (by decide)) (cl_L_w (u := w) rfl) h33 dX11_isCheaper_33 34 rfl ?_
          refine y_aload_n hC dX11_isCheaper_34 0 rfl 35 rfl ?_
          refine y_get hC 66 (hB 66 (by decide) (by decide)) (cl_L (u := w) rfl) rfl inU11 0 (by decide) w4_98 rfl dX11_isCheaper_35 38 rfl ?_
          refine y_bipush hC dX11_isCheaper_38 (v := (8 : Int32)) (by decide) 40 rfl ?_
          refine y_iload_n hC dX11_isCheaper_40 2 rfl 41 rfl ?_
          refine y_iadd hC dX11_isCheaper_41 42 rfl ?_
          obtain ⟨h42, hk⟩ := ob_if hk
          refine y_iald hC 67 (hB 67 (by decide) (by decide)) (cl_L_w (u := w) rfl) h42 dX11_isCheaper_42 43 rfl ?_
          refine y_iconst hC dX11_isCheaper_43 (v := (2 : Int32)) (by decide) 44 rfl ?_
          refine y_idiv hC dX11_isCheaper_44 (by decide) 45 rfl ?_
          refine y_icmp_ge hC dX11_isCheaper_45 52 (by decide) 48 rfl (fun h45 => ?_) (fun h45 => ?_)
          · have hk := ob_pos h45 hk
            refine y_iconst hC dX11_isCheaper_52 (v := (0 : Int32)) (by decide) 53 rfl ?_
            refine y_sub [0, 1, 2, 4] rfl ?_
            exact J53 q13.1 q13.2.2 (0 : Int32) hk
          · have hk := ob_neg h45 hk
            refine y_sub [0, 1, 2, 4] rfl ?_
            exact J48 q13.1 q13.2.2 hk
  refine y_aload_n hC dX11_isCheaper_0 0 rfl 1 rfl ?_
  refine y_iload_n hC dX11_isCheaper_1 1 rfl 2 rfl ?_
  obtain ⟨x2, hx2, hk⟩ := ob_bind hk
  refine y_callV hC 66 (hB 66 (by decide) (by decide)) (cl_L (u := w) rfl) rfl (c_X11_hourOf hJ hB l σ w a1 x2 hx2) rfl ⟨w5_68, w1_13, cwd_X11_hourOf, by decide, by decide⟩ w5_65 w5_67 ws5_1 rfl rfl (Nat.le_of_ble_eq_true rfl) (by decide) dX11_isCheaper_2 5 rfl (gL σ w) rfl [.int x2] rfl ?_
  refine y_istore_n hC dX11_isCheaper_5 (by decide) [(2, .int x2), (0, .ref (ad Γ 66)), (1, .int a1)] rfl 6 rfl ?_
  refine y_iconst hC dX11_isCheaper_6 (v := (0 : Int32)) (by decide) 7 rfl ?_
  refine y_istore_n hC dX11_isCheaper_7 (by decide) [(3, .int (0 : Int32)), (2, .int x2), (0, .ref (ad Γ 66)), (1, .int a1)] rfl 8 rfl ?_
  refine y_iload_n hC dX11_isCheaper_8 1 rfl 9 rfl ?_
  refine y_iconst hC dX11_isCheaper_9 (v := (1 : Int32)) (by decide) 10 rfl ?_
  refine y_iadd hC dX11_isCheaper_10 11 rfl ?_
  refine y_istore hC dX11_isCheaper_11 (by decide) [(4, .int (x2 + (1 : Int32))), (3, .int (0 : Int32)), (2, .int x2), (0, .ref (ad Γ 66)), (1, .int a1)] rfl 13 rfl ?_
  refine y_sub [3, 4, 2, 1, 0] rfl ?_
  exact L13 1000 (x2, (0 : Int32), (x2 + (1 : Int32))) hk
def f_X11_learns_j86 (K2 : (Int32 × LSt) → Option (LSt)) (v1 : Int32) (t0 : Int32) (gw : LSt) : Option (LSt) :=
  if inb ((28 : Int32) + v1) 608 then 
    (lt (sL_w gw (upd (pL_w gw) ((28 : Int32) + v1).toNatClampNeg t0)) fun g98 => 
    (K2 ((v1 + (1 : Int32)), g98)))
  else none
def f_X11_learns_j85 (K2 : (Int32 × LSt) → Option (LSt)) (v1 : Int32) (v2 : Int32) (gw : LSt) : Option (LSt) :=
  f_X11_learns_j86 K2 v1 v2 gw
def f_X11_learns_j67 (K2 : (Int32 × LSt) → Option (LSt)) (v1 : Int32) (v2 : Int32) (gw : LSt) : Option (LSt) :=
  if v2 = (1 : Int32) then
    if inb v1 8 then 
      (if (pL_isServed gw v1.toNatClampNeg) = 0 then
        f_X11_learns_j86 K2 v1 (0 : Int32) gw
      else
        f_X11_learns_j85 K2 v1 v2 gw)
    else none
  else
    f_X11_learns_j85 K2 v1 v2 gw
def f_X11_learns_j50 (K2 : (Int32 × LSt) → Option (LSt)) (v1 : Int32) (v2 : Int32) (t0 : Int32) (gw : LSt) : Option (LSt) :=
  if t0 = 0 then
    f_X11_learns_j67 K2 v1 v2 gw
  else
    (f_X11_isCheaper gw v1).bind fun x57 => 
      (if x57 = 0 then
        f_X11_learns_j67 K2 v1 v2 gw
      else
        f_X11_learns_j86 K2 v1 (1 : Int32) gw)
def f_X11_learns_j49 (K2 : (Int32 × LSt) → Option (LSt)) (v1 : Int32) (v2 : Int32) (gw : LSt) : Option (LSt) :=
  f_X11_learns_j50 K2 v1 v2 (0 : Int32) gw
def f_X11_learns_j45 (K2 : (Int32 × LSt) → Option (LSt)) (v1 : Int32) (v2 : Int32) (gw : LSt) : Option (LSt) :=
  f_X11_learns_j50 K2 v1 v2 (1 : Int32) gw
def f_X11_learns_s2 (K2 : (Int32 × LSt) → Option (LSt)) (q2 : Int32 × LSt) : Option (LSt) :=
  if inb (3 : Int32) 608 then 
    (if (pL_w q2.2 (3 : Int32).toNatClampNeg) ≤ q2.1 then
      some q2.2
    else
      if inb ((28 : Int32) + q2.1) 608 then 
        (lt (pL_w q2.2 ((28 : Int32) + q2.1).toNatClampNeg) fun n21 => 
        (if inb q2.1 8 then 
        (if (pL_gets q2.2 q2.1.toNatClampNeg) ≤ 0 then
          f_X11_learns_j49 K2 q2.1 n21 q2.2
        else
          if n21 = 0 then
            f_X11_learns_j45 K2 q2.1 n21 q2.2
          else
            if n21 = (2 : Int32) then
              f_X11_learns_j45 K2 q2.1 n21 q2.2
            else
              if n21 = (5 : Int32) then
                f_X11_learns_j45 K2 q2.1 n21 q2.2
              else
                f_X11_learns_j49 K2 q2.1 n21 q2.2)
      else none))
      else none)
  else none
def f_X11_learns (w : LSt) : Option (LSt) :=
  lp (f_X11_learns_s2) 1000 ((0 : Int32), w)
theorem cwd_X11_learns : yX11_learns.cls ≠ "java/lang/invoke/MethodHandle" ∧ yX11_learns.cls ≠ "java/lang/invoke/VarHandle" ∧ (parseMethodDescriptor yX11_learns.desc).map (fun d => d.parameters.length) = some 0 := by decide +kernel
set_option maxHeartbeats 4000000 in
set_option maxRecDepth 100000 in
theorem c_X11_learns {Γ : GC} (hJ : GJ Γ) (hB : ∀ i, 66 ≤ i → i < 77 → act Γ i) (l : Launch) (σ : GSt) (w : LSt) (x : LSt) (hk : f_X11_learns w = some x) : Mt Γ l yX11_learns cX11_learns 5 none 3 68 [.ref (ad Γ 66)] (gL σ w) none (gL σ x) := by
  refine y_enter (by decide) hJ (Nat.le_of_ble_eq_true rfl) [(0, .ref (ad Γ 66))] rfl ?_
  intro p e s' m args below meth c' hC hr hlk
  have L2 : ∀ (n2 : Nat) (q2 : Int32 × LSt), lp (f_X11_learns_s2) n2 q2 = some x → Y Γ (GA Γ) p l e ({ frames := 3, cells := 0, slots := 0, locals := 68 } : Room) s' m args below meth c' 0 0 (MQ below (Qg Γ none (gL σ x)) args s' 0 0 (GA Γ)) 5 (gL σ q2.2) 2 [(0, .ref (ad Γ 66)), (1, .int q2.1)] [] := by
    intro n2
    induction n2 with
    | zero => intro q2 hk; exact (lp_zero hk).elim
    | succ n2 ih2 =>
      intro q2 hk
      have hk : f_X11_learns_s2 (lp (f_X11_learns_s2) n2) q2 = some x := (lp_succ _ _ _).symm.trans hk
      have J86 : ∀ (v1 : Int32) (t0 : Int32) (gw : LSt), f_X11_learns_j86 (lp (f_X11_learns_s2) n2) v1 t0 gw = some x → Y Γ (GA Γ) p l e ({ frames := 3, cells := 0, slots := 0, locals := 68 } : Room) s' m args below meth c' 0 0 (MQ below (Qg Γ none (gL σ x)) args s' 0 0 (GA Γ)) 5 (gL σ gw) 86 [(0, .ref (ad Γ 66)), (1, .int v1)] [.int t0] := by
        intro v1 t0 gw hk
        refine y_istore hC dX11_learns_86 (by decide) [(4, .int t0), (0, .ref (ad Γ 66)), (1, .int v1)] rfl 88 rfl ?_
        refine y_aload_n hC dX11_learns_88 1 rfl 89 rfl ?_
        refine y_get hC 66 (hB 66 (by decide) (by decide)) (cl_L (u := gw) rfl) rfl inU11 0 (by decide) w4_98 rfl dX11_learns_89 92 rfl ?_
        refine y_bipush hC dX11_learns_92 (v := (28 : Int32)) (by decide) 94 rfl ?_
        refine y_iload_n hC dX11_learns_94 2 rfl 95 rfl ?_
        refine y_iadd hC dX11_learns_95 96 rfl ?_
        refine y_iload hC dX11_learns_96 0 rfl 98 rfl ?_
        obtain ⟨h98, hk⟩ := ob_if hk
        obtain ⟨g98, eg98, hk⟩ := ob_lt hk
        refine y_iast hC 67 (hB 67 (by decide) (by decide)) (cl_L_w (u := gw) rfl) h98 (gL σ g98) (by subst eg98; exact (cu_L_w (u := gw) (v := (upd (pL_w gw) ((28 : Int32) + v1).toNatClampNeg t0)) rfl rfl)) dX11_learns_98 99 rfl ?_
        refine y_iinc hC dX11_learns_99 2 rfl (v := (v1 + (1 : Int32))) rfl (by decide) [(1, .int (v1 + (1 : Int32))), (4, .int t0), (0, .ref (ad Γ 66))] rfl 102 rfl ?_
        refine y_goto hC dX11_learns_102 2 (by decide) ?_
        refine y_sub [2, 0] rfl ?_
        exact ih2 ((v1 + (1 : Int32)), g98) hk
      have J85 : ∀ (v1 : Int32) (v2 : Int32) (gw : LSt), f_X11_learns_j85 (lp (f_X11_learns_s2) n2) v1 v2 gw = some x → Y Γ (GA Γ) p l e ({ frames := 3, cells := 0, slots := 0, locals := 68 } : Room) s' m args below meth c' 0 0 (MQ below (Qg Γ none (gL σ x)) args s' 0 0 (GA Γ)) 5 (gL σ gw) 85 [(0, .ref (ad Γ 66)), (1, .int v1), (2, .int v2)] [] := by
        intro v1 v2 gw hk
        refine y_iload_n hC dX11_learns_85 2 rfl 86 rfl ?_
        refine y_sub [0, 1] rfl ?_
        exact J86 v1 v2 gw hk
      have J67 : ∀ (v1 : Int32) (v2 : Int32) (gw : LSt), f_X11_learns_j67 (lp (f_X11_learns_s2) n2) v1 v2 gw = some x → Y Γ (GA Γ) p l e ({ frames := 3, cells := 0, slots := 0, locals := 68 } : Room) s' m args below meth c' 0 0 (MQ below (Qg Γ none (gL σ x)) args s' 0 0 (GA Γ)) 5 (gL σ gw) 67 [(0, .ref (ad Γ 66)), (1, .int v1), (2, .int v2)] [] := by
        intro v1 v2 gw hk
        refine y_iload_n hC dX11_learns_67 2 rfl 68 rfl ?_
        refine y_iconst hC dX11_learns_68 (v := (1 : Int32)) (by decide) 69 rfl ?_
        refine y_icmp_ne hC dX11_learns_69 85 (by decide) 72 rfl (fun h69 => ?_) (fun h69 => ?_)
        · have hk := ob_neg h69 hk
          refine y_sub [0, 1, 2] rfl ?_
          exact J85 v1 v2 gw hk
        · have hk := ob_pos h69 hk
          refine y_aload_n hC dX11_learns_72 0 rfl 73 rfl ?_
          refine y_get hC 66 (hB 66 (by decide) (by decide)) (cl_L (u := gw) rfl) rfl inU11 15 (by decide) w4_113 rfl dX11_learns_73 76 rfl ?_
          refine y_iload_n hC dX11_learns_76 1 rfl 77 rfl ?_
          obtain ⟨h77, hk⟩ := ob_if hk
          refine y_zald hC 72 (hB 72 (by decide) (by decide)) (cl_L_isServed (u := gw) rfl) h77 dX11_learns_77 78 rfl ?_
          refine y_if_ne hC dX11_learns_78 85 (by decide) 81 rfl (fun h78 => ?_) (fun h78 => ?_)
          · have hk := ob_neg h78 hk
            refine y_sub [0, 1, 2] rfl ?_
            exact J85 v1 v2 gw hk
          · have hk := ob_pos h78 hk
            refine y_iconst hC dX11_learns_81 (v := (0 : Int32)) (by decide) 82 rfl ?_
            refine y_goto hC dX11_learns_82 86 (by decide) ?_
            refine y_sub [0, 1] rfl ?_
            exact J86 v1 (0 : Int32) gw hk
      have J50 : ∀ (v1 : Int32) (v2 : Int32) (t0 : Int32) (gw : LSt), f_X11_learns_j50 (lp (f_X11_learns_s2) n2) v1 v2 t0 gw = some x → Y Γ (GA Γ) p l e ({ frames := 3, cells := 0, slots := 0, locals := 68 } : Room) s' m args below meth c' 0 0 (MQ below (Qg Γ none (gL σ x)) args s' 0 0 (GA Γ)) 5 (gL σ gw) 50 [(0, .ref (ad Γ 66)), (1, .int v1), (2, .int v2)] [.int t0] := by
        intro v1 v2 t0 gw hk
        refine y_istore_n hC dX11_learns_50 (by decide) [(3, .int t0), (0, .ref (ad Γ 66)), (1, .int v1), (2, .int v2)] rfl 51 rfl ?_
        refine y_iload_n hC dX11_learns_51 0 rfl 52 rfl ?_
        refine y_if_eq hC dX11_learns_52 67 (by decide) 55 rfl (fun h52 => ?_) (fun h52 => ?_)
        · have hk := ob_pos h52 hk
          refine y_sub [1, 2, 3] rfl ?_
          exact J67 v1 v2 gw hk
        · have hk := ob_neg h52 hk
          refine y_aload_n hC dX11_learns_55 1 rfl 56 rfl ?_
          refine y_iload_n hC dX11_learns_56 2 rfl 57 rfl ?_
          obtain ⟨x57, hx57, hk⟩ := ob_bind hk
          refine y_callV hC 66 (hB 66 (by decide) (by decide)) (cl_L (u := gw) rfl) rfl (c_X11_isCheaper hJ hB l σ gw v1 x57 hx57) rfl ⟨w5_96, w1_13, cwd_X11_isCheaper, by decide, by decide⟩ w5_93 w5_95 ws5_8 rfl rfl (Nat.le_of_ble_eq_true rfl) (by decide) dX11_learns_57 60 rfl (gL σ gw) rfl [.int x57] rfl ?_
          refine y_if_eq hC dX11_learns_60 67 (by decide) 63 rfl (fun h60 => ?_) (fun h60 => ?_)
          · have hk := ob_pos h60 hk
            refine y_sub [1, 2, 3] rfl ?_
            exact J67 v1 v2 gw hk
          · have hk := ob_neg h60 hk
            refine y_iconst hC dX11_learns_63 (v := (1 : Int32)) (by decide) 64 rfl ?_
            refine y_goto hC dX11_learns_64 86 (by decide) ?_
            refine y_sub [1, 2] rfl ?_
            exact J86 v1 (1 : Int32) gw hk
      have J49 : ∀ (v1 : Int32) (v2 : Int32) (gw : LSt), f_X11_learns_j49 (lp (f_X11_learns_s2) n2) v1 v2 gw = some x → Y Γ (GA Γ) p l e ({ frames := 3, cells := 0, slots := 0, locals := 68 } : Room) s' m args below meth c' 0 0 (MQ below (Qg Γ none (gL σ x)) args s' 0 0 (GA Γ)) 5 (gL σ gw) 49 [(0, .ref (ad Γ 66)), (1, .int v1), (2, .int v2)] [] := by
        intro v1 v2 gw hk
        refine y_iconst hC dX11_learns_49 (v := (0 : Int32)) (by decide) 50 rfl ?_
        refine y_sub [0, 1, 2] rfl ?_
        exact J50 v1 v2 (0 : Int32) gw hk
      have J45 : ∀ (v1 : Int32) (v2 : Int32) (gw : LSt), f_X11_learns_j45 (lp (f_X11_learns_s2) n2) v1 v2 gw = some x → Y Γ (GA Γ) p l e ({ frames := 3, cells := 0, slots := 0, locals := 68 } : Room) s' m args below meth c' 0 0 (MQ below (Qg Γ none (gL σ x)) args s' 0 0 (GA Γ)) 5 (gL σ gw) 45 [(0, .ref (ad Γ 66)), (1, .int v1), (2, .int v2)] [] := by
        intro v1 v2 gw hk
        refine y_iconst hC dX11_learns_45 (v := (1 : Int32)) (by decide) 46 rfl ?_
        refine y_goto hC dX11_learns_46 50 (by decide) ?_
        refine y_sub [0, 1, 2] rfl ?_
        exact J50 v1 v2 (1 : Int32) gw hk
      refine y_iload_n hC dX11_learns_2 1 rfl 3 rfl ?_
      refine y_aload_n hC dX11_learns_3 0 rfl 4 rfl ?_
      refine y_get hC 66 (hB 66 (by decide) (by decide)) (cl_L (u := q2.2) rfl) rfl inU11 0 (by decide) w4_98 rfl dX11_learns_4 7 rfl ?_
      refine y_iconst hC dX11_learns_7 (v := (3 : Int32)) (by decide) 8 rfl ?_
      obtain ⟨h8, hk⟩ := ob_if hk
      refine y_iald hC 67 (hB 67 (by decide) (by decide)) (cl_L_w (u := q2.2) rfl) h8 dX11_learns_8 9 rfl ?_
      refine y_icmp_ge hC dX11_learns_9 105 (by decide) 12 rfl (fun h9 => ?_) (fun h9 => ?_)
      · have hk := ob_pos h9 hk
        have e := Option.some.inj hk
        exact y_vret hC hr hlk (by rw [← e]) dX11_learns_105
      · have hk := ob_neg h9 hk
        refine y_aload_n hC dX11_learns_12 0 rfl 13 rfl ?_
        refine y_get hC 66 (hB 66 (by decide) (by decide)) (cl_L (u := q2.2) rfl) rfl inU11 0 (by decide) w4_98 rfl dX11_learns_13 16 rfl ?_
        refine y_bipush hC dX11_learns_16 (v := (28 : Int32)) (by decide) 18 rfl ?_
        refine y_iload_n hC dX11_learns_18 1 rfl 19 rfl ?_
        refine y_iadd hC dX11_learns_19 20 rfl ?_
        obtain ⟨h20, hk⟩ := ob_if hk
        refine y_iald hC 67 (hB 67 (by decide) (by decide)) (cl_L_w (u := q2.2) rfl) h20 dX11_learns_20 21 rfl ?_
        obtain ⟨n21, en21, hk⟩ := ob_lt hk
        refine y_topi en21 ?_
        refine y_istore_n hC dX11_learns_21 (by decide) [(2, .int n21), (0, .ref (ad Γ 66)), (1, .int q2.1)] rfl 22 rfl ?_
        refine y_aload_n hC dX11_learns_22 1 rfl 23 rfl ?_
        refine y_get hC 66 (hB 66 (by decide) (by decide)) (cl_L (u := q2.2) rfl) rfl inU11 14 (by decide) w4_112 rfl dX11_learns_23 26 rfl ?_
        refine y_iload_n hC dX11_learns_26 2 rfl 27 rfl ?_
        obtain ⟨h27, hk⟩ := ob_if hk
        refine y_iald hC 71 (hB 71 (by decide) (by decide)) (cl_L_gets (u := q2.2) rfl) h27 dX11_learns_27 28 rfl ?_
        refine y_if_le hC dX11_learns_28 49 (by decide) 31 rfl (fun h28 => ?_) (fun h28 => ?_)
        · have hk := ob_pos h28 hk
          refine y_sub [1, 2, 0] rfl ?_
          exact J49 q2.1 n21 q2.2 hk
        · have hk := ob_neg h28 hk
          refine y_iload_n hC dX11_learns_31 0 rfl 32 rfl ?_
          refine y_if_eq hC dX11_learns_32 45 (by decide) 35 rfl (fun h32 => ?_) (fun h32 => ?_)
          · have hk := ob_pos h32 hk
            refine y_sub [1, 2, 0] rfl ?_
            exact J45 q2.1 n21 q2.2 hk
          · have hk := ob_neg h32 hk
            refine y_iload_n hC dX11_learns_35 0 rfl 36 rfl ?_
            refine y_iconst hC dX11_learns_36 (v := (2 : Int32)) (by decide) 37 rfl ?_
            refine y_icmp_eq hC dX11_learns_37 45 (by decide) 40 rfl (fun h37 => ?_) (fun h37 => ?_)
            · have hk := ob_pos h37 hk
              refine y_sub [1, 2, 0] rfl ?_
              exact J45 q2.1 n21 q2.2 hk
            · have hk := ob_neg h37 hk
              refine y_iload_n hC dX11_learns_40 0 rfl 41 rfl ?_
              refine y_iconst hC dX11_learns_41 (v := (5 : Int32)) (by decide) 42 rfl ?_
              refine y_icmp_ne hC dX11_learns_42 49 (by decide) 45 rfl (fun h42 => ?_) (fun h42 => ?_)
              · have hk := ob_neg h42 hk
                refine y_sub [1, 2, 0] rfl ?_
                exact J49 q2.1 n21 q2.2 hk
              · have hk := ob_pos h42 hk
                refine y_sub [1, 2, 0] rfl ?_
                exact J45 q2.1 n21 q2.2 hk
  refine y_iconst hC dX11_learns_0 (v := (0 : Int32)) (by decide) 1 rfl ?_
  refine y_istore_n hC dX11_learns_1 (by decide) [(1, .int (0 : Int32)), (0, .ref (ad Γ 66))] rfl 2 rfl ?_
  refine y_sub [1, 0] rfl ?_
  exact L2 1000 ((0 : Int32), w) hk
def f_X11_day (w : LSt) : Option (Int32 × LSt) :=
  (f_X11_minds w).bind fun x1 => 
    ((f_X11_triesAll x1).bind fun x5 => 
    (if inb (4 : Int32) 608 then 
    (if inb (4 : Int32) 608 then 
    (lt (sL_w x5 (upd (pL_w x5) (4 : Int32).toNatClampNeg ((pL_w x5 (4 : Int32).toNatClampNeg) + (pL_takings x5)))) fun g20 => 
    (if inb (5 : Int32) 608 then 
    (if inb (5 : Int32) 608 then 
    (lt (sL_w g20 (upd (pL_w g20) (5 : Int32).toNatClampNeg ((pL_w g20 (5 : Int32).toNatClampNeg) + (pL_left g20)))) fun g33 => 
    ((f_X11_learns g33).bind fun x35 => 
    (some ((pL_takings x35), x35))))
  else none)
  else none))
  else none)
  else none))
theorem cwd_X11_day : yX11_day.cls ≠ "java/lang/invoke/MethodHandle" ∧ yX11_day.cls ≠ "java/lang/invoke/VarHandle" ∧ (parseMethodDescriptor yX11_day.desc).map (fun d => d.parameters.length) = some 0 := by decide +kernel
set_option maxHeartbeats 4000000 in
set_option maxRecDepth 100000 in
theorem c_X11_day {Γ : GC} (hJ : GJ Γ) (hB : ∀ i, 66 ≤ i → i < 77 → act Γ i) (l : Launch) (σ : GSt) (w : LSt) (x : Int32 × LSt) (hk : f_X11_day w = some x) : Mt Γ l yX11_day cX11_day 1 (some .int) 6 137 [.ref (ad Γ 66)] (gL σ w) (some (.int x.1)) (gL σ x.2) := by
  refine y_enter (by decide) hJ (Nat.le_of_ble_eq_true rfl) [(0, .ref (ad Γ 66))] rfl ?_
  intro p e s' m args below meth c' hC hr hlk
  refine y_aload_n hC dX11_day_0 0 rfl 1 rfl ?_
  obtain ⟨x1, hx1, hk⟩ := ob_bind hk
  refine y_callV hC 66 (hB 66 (by decide) (by decide)) (cl_L (u := w) rfl) rfl (c_X11_minds hJ hB l σ w x1 hx1) rfl ⟨w5_53, w1_13, cwd_X11_minds, by decide, by decide⟩ w5_50 w5_52 ws4_14 rfl rfl (Nat.le_of_ble_eq_true rfl) (by decide) dX11_day_1 4 rfl (gL σ x1) rfl [] rfl ?_
  refine y_aload_n hC dX11_day_4 0 rfl 5 rfl ?_
  obtain ⟨x5, hx5, hk⟩ := ob_bind hk
  refine y_callV hC 66 (hB 66 (by decide) (by decide)) (cl_L (u := x1) rfl) rfl (c_X11_triesAll hJ hB l σ x1 x5 hx5) rfl ⟨w5_57, w1_13, cwd_X11_triesAll, by decide, by decide⟩ w5_54 w5_56 ws4_15 rfl rfl (Nat.le_of_ble_eq_true rfl) (by decide) dX11_day_5 8 rfl (gL σ x5) rfl [] rfl ?_
  refine y_aload_n hC dX11_day_8 0 rfl 9 rfl ?_
  refine y_get hC 66 (hB 66 (by decide) (by decide)) (cl_L (u := x5) rfl) rfl inU11 0 (by decide) w4_98 rfl dX11_day_9 12 rfl ?_
  refine y_iconst hC dX11_day_12 (v := (4 : Int32)) (by decide) 13 rfl ?_
  refine y_dup2 hC dX11_day_13 rfl rfl 14 rfl ?_
  obtain ⟨h14, hk⟩ := ob_if hk
  refine y_iald hC 67 (hB 67 (by decide) (by decide)) (cl_L_w (u := x5) rfl) h14 dX11_day_14 15 rfl ?_
  refine y_aload_n hC dX11_day_15 0 rfl 16 rfl ?_
  refine y_get hC 66 (hB 66 (by decide) (by decide)) (cl_L (u := x5) rfl) rfl inU11 17 (by decide) w4_115 rfl dX11_day_16 19 rfl ?_
  refine y_iadd hC dX11_day_19 20 rfl ?_
  obtain ⟨h20, hk⟩ := ob_if hk
  obtain ⟨g20, eg20, hk⟩ := ob_lt hk
  refine y_iast hC 67 (hB 67 (by decide) (by decide)) (cl_L_w (u := x5) rfl) h20 (gL σ g20) (by subst eg20; exact (cu_L_w (u := x5) (v := (upd (pL_w x5) (4 : Int32).toNatClampNeg ((pL_w x5 (4 : Int32).toNatClampNeg) + (pL_takings x5)))) rfl rfl)) dX11_day_20 21 rfl ?_
  refine y_aload_n hC dX11_day_21 0 rfl 22 rfl ?_
  refine y_get hC 66 (hB 66 (by decide) (by decide)) (cl_L (u := g20) rfl) rfl inU11 0 (by decide) w4_98 rfl dX11_day_22 25 rfl ?_
  refine y_iconst hC dX11_day_25 (v := (5 : Int32)) (by decide) 26 rfl ?_
  refine y_dup2 hC dX11_day_26 rfl rfl 27 rfl ?_
  obtain ⟨h27, hk⟩ := ob_if hk
  refine y_iald hC 67 (hB 67 (by decide) (by decide)) (cl_L_w (u := g20) rfl) h27 dX11_day_27 28 rfl ?_
  refine y_aload_n hC dX11_day_28 0 rfl 29 rfl ?_
  refine y_get hC 66 (hB 66 (by decide) (by decide)) (cl_L (u := g20) rfl) rfl inU11 19 (by decide) w4_117 rfl dX11_day_29 32 rfl ?_
  refine y_iadd hC dX11_day_32 33 rfl ?_
  obtain ⟨h33, hk⟩ := ob_if hk
  obtain ⟨g33, eg33, hk⟩ := ob_lt hk
  refine y_iast hC 67 (hB 67 (by decide) (by decide)) (cl_L_w (u := g20) rfl) h33 (gL σ g33) (by subst eg33; exact (cu_L_w (u := g20) (v := (upd (pL_w g20) (5 : Int32).toNatClampNeg ((pL_w g20 (5 : Int32).toNatClampNeg) + (pL_left g20)))) rfl rfl)) dX11_day_33 34 rfl ?_
  refine y_aload_n hC dX11_day_34 0 rfl 35 rfl ?_
  obtain ⟨x35, hx35, hk⟩ := ob_bind hk
  refine y_callV hC 66 (hB 66 (by decide) (by decide)) (cl_L (u := g33) rfl) rfl (c_X11_learns hJ hB l σ g33 x35 hx35) rfl ⟨w5_92, w1_13, cwd_X11_learns, by decide, by decide⟩ w5_89 w5_91 ws5_7 rfl rfl (Nat.le_of_ble_eq_true rfl) (by decide) dX11_day_35 38 rfl (gL σ x35) rfl [] rfl ?_
  refine y_aload_n hC dX11_day_38 0 rfl 39 rfl ?_
  refine y_get hC 66 (hB 66 (by decide) (by decide)) (cl_L (u := x35) rfl) rfl inU11 17 (by decide) w4_115 rfl dX11_day_39 42 rfl ?_
  have e := Option.some.inj hk
  exact y_iret hC hr hlk (by rw [← e]) (by first | rfl | rw [← e]) dX11_day_42
def f_X11_no (w : LSt) : Option (Int32 × LSt) :=
  if inb (1 : Int32) 3 then 
    (if inb (1 : Int32) 3 then 
    (lt (sL_refused w (upd (pL_refused w) (1 : Int32).toNatClampNeg ((pL_refused w (1 : Int32).toNatClampNeg) + (1 : Int32)))) fun g9 => 
    (some ((-3 : Int32), g9)))
  else none)
  else none
theorem cwd_X11_no : yX11_no.cls ≠ "java/lang/invoke/MethodHandle" ∧ yX11_no.cls ≠ "java/lang/invoke/VarHandle" ∧ (parseMethodDescriptor yX11_no.desc).map (fun d => d.parameters.length) = some 0 := by decide +kernel
set_option maxHeartbeats 4000000 in
set_option maxRecDepth 100000 in
theorem c_X11_no {Γ : GC} (hJ : GJ Γ) (hB : ∀ i, 66 ≤ i → i < 77 → act Γ i) (l : Launch) (σ : GSt) (w : LSt) (x : Int32 × LSt) (hk : f_X11_no w = some x) : Mt Γ l yX11_no cX11_no 1 (some .int) 0 0 [.ref (ad Γ 66)] (gL σ w) (some (.int x.1)) (gL σ x.2) := by
  refine y_enter (by decide) hJ (Nat.le_of_ble_eq_true rfl) [(0, .ref (ad Γ 66))] rfl ?_
  intro p e s' m args below meth c' hC hr hlk
  refine y_aload_n hC dX11_no_0 0 rfl 1 rfl ?_
  refine y_get hC 66 (hB 66 (by decide) (by decide)) (cl_L (u := w) rfl) rfl inU11 4 (by decide) w4_102 rfl dX11_no_1 4 rfl ?_
  refine y_iconst hC dX11_no_4 (v := (1 : Int32)) (by decide) 5 rfl ?_
  refine y_dup2 hC dX11_no_5 rfl rfl 6 rfl ?_
  obtain ⟨h6, hk⟩ := ob_if hk
  refine y_iald hC 70 (hB 70 (by decide) (by decide)) (cl_L_refused (u := w) rfl) h6 dX11_no_6 7 rfl ?_
  refine y_iconst hC dX11_no_7 (v := (1 : Int32)) (by decide) 8 rfl ?_
  refine y_iadd hC dX11_no_8 9 rfl ?_
  obtain ⟨h9, hk⟩ := ob_if hk
  obtain ⟨g9, eg9, hk⟩ := ob_lt hk
  refine y_iast hC 70 (hB 70 (by decide) (by decide)) (cl_L_refused (u := w) rfl) h9 (gL σ g9) (by subst eg9; exact (cu_L_refused (u := w) (v := (upd (pL_refused w) (1 : Int32).toNatClampNeg ((pL_refused w (1 : Int32).toNatClampNeg) + (1 : Int32)))) rfl rfl)) dX11_no_9 10 rfl ?_
  refine y_bipush hC dX11_no_10 (v := (-3 : Int32)) (by decide) 12 rfl ?_
  have e := Option.some.inj hk
  exact y_iret hC hr hlk (by rw [← e]) (by first | rfl | rw [← e]) dX11_no_12
def f_X11_undo_j71 (v1 : Int32) (gw : LSt) : Option (Int32 × LSt) :=
  if inb (v1 + (8 : Int32)) 608 then 
    (if inb (4 : Int32) 608 then 
    (lt (sL_w gw (upd (pL_w gw) (4 : Int32).toNatClampNeg (pL_w gw (v1 + (8 : Int32)).toNatClampNeg))) fun g85 => 
    (if inb (v1 + (9 : Int32)) 608 then 
    (if inb (5 : Int32) 608 then 
    (lt (sL_w g85 (upd (pL_w g85) (5 : Int32).toNatClampNeg (pL_w g85 (v1 + (9 : Int32)).toNatClampNeg))) fun g100 => 
    (if inb (4 : Int32) 608 then 
    (some ((pL_w g100 (4 : Int32).toNatClampNeg), g100))
  else none))
  else none)
  else none))
  else none)
  else none
def f_X11_undo_s42 (K42 : (Int32 × Int32 × LSt) → Option (Int32 × LSt)) (q42 : Int32 × Int32 × LSt) : Option (Int32 × LSt) :=
  if (8 : Int32) ≤ q42.2.1 then
    f_X11_undo_j71 q42.1 q42.2.2
  else
    if inb (q42.1 + q42.2.1) 608 then 
      (if inb ((28 : Int32) + q42.2.1) 608 then 
      (lt (sL_w q42.2.2 (upd (pL_w q42.2.2) ((28 : Int32) + q42.2.1).toNatClampNeg (pL_w q42.2.2 (q42.1 + q42.2.1).toNatClampNeg))) fun g64 => 
      (K42 (q42.1, (q42.2.1 + (1 : Int32)), g64)))
    else none)
    else none
def f_X11_undo (w : LSt) : Option (Int32 × LSt) :=
  if inb (7 : Int32) 608 then 
    (if (pL_w w (7 : Int32).toNatClampNeg) = 0 then
      (f_X11_no w).bind fun x11 => 
        (some (x11.1, x11.2))
    else
      if inb (7 : Int32) 608 then 
        (if inb (7 : Int32) 608 then 
        (lt (sL_w w (upd (pL_w w) (7 : Int32).toNatClampNeg ((pL_w w (7 : Int32).toNatClampNeg) - (1 : Int32)))) fun g25 => 
        (if inb (7 : Int32) 608 then 
        (lt ((72 : Int32) + ((10 : Int32) * (pL_w g25 (7 : Int32).toNatClampNeg))) fun n39 => 
        (lp (f_X11_undo_s42) 1000 (n39, (0 : Int32), g25)))
      else none))
      else none)
      else none)
  else none
theorem cwd_X11_undo : yX11_undo.cls ≠ "java/lang/invoke/MethodHandle" ∧ yX11_undo.cls ≠ "java/lang/invoke/VarHandle" ∧ (parseMethodDescriptor yX11_undo.desc).map (fun d => d.parameters.length) = some 0 := by decide +kernel
set_option maxHeartbeats 4000000 in
set_option maxRecDepth 100000 in
theorem c_X11_undo {Γ : GC} (hJ : GJ Γ) (hB : ∀ i, 66 ≤ i → i < 77 → act Γ i) (l : Launch) (σ : GSt) (w : LSt) (x : Int32 × LSt) (hk : f_X11_undo w = some x) : Mt Γ l yX11_undo cX11_undo 3 (some .int) 1 20 [.ref (ad Γ 66)] (gL σ w) (some (.int x.1)) (gL σ x.2) := by
  refine y_enter (by decide) hJ (Nat.le_of_ble_eq_true rfl) [(0, .ref (ad Γ 66))] rfl ?_
  intro p e s' m args below meth c' hC hr hlk
  have J71 : ∀ (v1 : Int32) (gw : LSt), f_X11_undo_j71 v1 gw = some x → Y Γ (GA Γ) p l e ({ frames := 1, cells := 0, slots := 0, locals := 20 } : Room) s' m args below meth c' 0 0 (MQ below (Qg Γ (some (.int x.1)) (gL σ x.2)) args s' 0 0 (GA Γ)) 3 (gL σ gw) 71 [(0, .ref (ad Γ 66)), (1, .int v1)] [] := by
    intro v1 gw hk
    refine y_aload_n hC dX11_undo_71 0 rfl 72 rfl ?_
    refine y_get hC 66 (hB 66 (by decide) (by decide)) (cl_L (u := gw) rfl) rfl inU11 0 (by decide) w4_98 rfl dX11_undo_72 75 rfl ?_
    refine y_iconst hC dX11_undo_75 (v := (4 : Int32)) (by decide) 76 rfl ?_
    refine y_aload_n hC dX11_undo_76 0 rfl 77 rfl ?_
    refine y_get hC 66 (hB 66 (by decide) (by decide)) (cl_L (u := gw) rfl) rfl inU11 0 (by decide) w4_98 rfl dX11_undo_77 80 rfl ?_
    refine y_iload_n hC dX11_undo_80 1 rfl 81 rfl ?_
    refine y_bipush hC dX11_undo_81 (v := (8 : Int32)) (by decide) 83 rfl ?_
    refine y_iadd hC dX11_undo_83 84 rfl ?_
    obtain ⟨h84, hk⟩ := ob_if hk
    refine y_iald hC 67 (hB 67 (by decide) (by decide)) (cl_L_w (u := gw) rfl) h84 dX11_undo_84 85 rfl ?_
    obtain ⟨h85, hk⟩ := ob_if hk
    obtain ⟨g85, eg85, hk⟩ := ob_lt hk
    refine y_iast hC 67 (hB 67 (by decide) (by decide)) (cl_L_w (u := gw) rfl) h85 (gL σ g85) (by subst eg85; exact (cu_L_w (u := gw) (v := (upd (pL_w gw) (4 : Int32).toNatClampNeg (pL_w gw (v1 + (8 : Int32)).toNatClampNeg))) rfl rfl)) dX11_undo_85 86 rfl ?_
    refine y_aload_n hC dX11_undo_86 0 rfl 87 rfl ?_
    refine y_get hC 66 (hB 66 (by decide) (by decide)) (cl_L (u := g85) rfl) rfl inU11 0 (by decide) w4_98 rfl dX11_undo_87 90 rfl ?_
    refine y_iconst hC dX11_undo_90 (v := (5 : Int32)) (by decide) 91 rfl ?_
    refine y_aload_n hC dX11_undo_91 0 rfl 92 rfl ?_
    refine y_get hC 66 (hB 66 (by decide) (by decide)) (cl_L (u := g85) rfl) rfl inU11 0 (by decide) w4_98 rfl dX11_undo_92 95 rfl ?_
    refine y_iload_n hC dX11_undo_95 1 rfl 96 rfl ?_
    refine y_bipush hC dX11_undo_96 (v := (9 : Int32)) (by decide) 98 rfl ?_
    refine y_iadd hC dX11_undo_98 99 rfl ?_
    obtain ⟨h99, hk⟩ := ob_if hk
    refine y_iald hC 67 (hB 67 (by decide) (by decide)) (cl_L_w (u := g85) rfl) h99 dX11_undo_99 100 rfl ?_
    obtain ⟨h100, hk⟩ := ob_if hk
    obtain ⟨g100, eg100, hk⟩ := ob_lt hk
    refine y_iast hC 67 (hB 67 (by decide) (by decide)) (cl_L_w (u := g85) rfl) h100 (gL σ g100) (by subst eg100; exact (cu_L_w (u := g85) (v := (upd (pL_w g85) (5 : Int32).toNatClampNeg (pL_w g85 (v1 + (9 : Int32)).toNatClampNeg))) rfl rfl)) dX11_undo_100 101 rfl ?_
    refine y_aload_n hC dX11_undo_101 0 rfl 102 rfl ?_
    refine y_get hC 66 (hB 66 (by decide) (by decide)) (cl_L (u := g100) rfl) rfl inU11 0 (by decide) w4_98 rfl dX11_undo_102 105 rfl ?_
    refine y_iconst hC dX11_undo_105 (v := (4 : Int32)) (by decide) 106 rfl ?_
    obtain ⟨h106, hk⟩ := ob_if hk
    refine y_iald hC 67 (hB 67 (by decide) (by decide)) (cl_L_w (u := g100) rfl) h106 dX11_undo_106 107 rfl ?_
    have e := Option.some.inj hk
    exact y_iret hC hr hlk (by rw [← e]) (by first | rfl | rw [← e]) dX11_undo_107
  have L42 : ∀ (n42 : Nat) (q42 : Int32 × Int32 × LSt), lp (f_X11_undo_s42) n42 q42 = some x → Y Γ (GA Γ) p l e ({ frames := 1, cells := 0, slots := 0, locals := 20 } : Room) s' m args below meth c' 0 0 (MQ below (Qg Γ (some (.int x.1)) (gL σ x.2)) args s' 0 0 (GA Γ)) 3 (gL σ q42.2.2) 42 [(0, .ref (ad Γ 66)), (1, .int q42.1), (2, .int q42.2.1)] [] := by
    intro n42
    induction n42 with
    | zero => intro q42 hk; exact (lp_zero hk).elim
    | succ n42 ih42 =>
      intro q42 hk
      have hk : f_X11_undo_s42 (lp (f_X11_undo_s42) n42) q42 = some x := (lp_succ _ _ _).symm.trans hk
      refine y_iload_n hC dX11_undo_42 2 rfl 43 rfl ?_
      refine y_bipush hC dX11_undo_43 (v := (8 : Int32)) (by decide) 45 rfl ?_
      refine y_icmp_ge hC dX11_undo_45 71 (by decide) 48 rfl (fun h45 => ?_) (fun h45 => ?_)
      · have hk := ob_pos h45 hk
        refine y_sub [0, 1] rfl ?_
        exact J71 q42.1 q42.2.2 hk
      · have hk := ob_neg h45 hk
        refine y_aload_n hC dX11_undo_48 0 rfl 49 rfl ?_
        refine y_get hC 66 (hB 66 (by decide) (by decide)) (cl_L (u := q42.2.2) rfl) rfl inU11 0 (by decide) w4_98 rfl dX11_undo_49 52 rfl ?_
        refine y_bipush hC dX11_undo_52 (v := (28 : Int32)) (by decide) 54 rfl ?_
        refine y_iload_n hC dX11_undo_54 2 rfl 55 rfl ?_
        refine y_iadd hC dX11_undo_55 56 rfl ?_
        refine y_aload_n hC dX11_undo_56 0 rfl 57 rfl ?_
        refine y_get hC 66 (hB 66 (by decide) (by decide)) (cl_L (u := q42.2.2) rfl) rfl inU11 0 (by decide) w4_98 rfl dX11_undo_57 60 rfl ?_
        refine y_iload_n hC dX11_undo_60 1 rfl 61 rfl ?_
        refine y_iload_n hC dX11_undo_61 2 rfl 62 rfl ?_
        refine y_iadd hC dX11_undo_62 63 rfl ?_
        obtain ⟨h63, hk⟩ := ob_if hk
        refine y_iald hC 67 (hB 67 (by decide) (by decide)) (cl_L_w (u := q42.2.2) rfl) h63 dX11_undo_63 64 rfl ?_
        obtain ⟨h64, hk⟩ := ob_if hk
        obtain ⟨g64, eg64, hk⟩ := ob_lt hk
        refine y_iast hC 67 (hB 67 (by decide) (by decide)) (cl_L_w (u := q42.2.2) rfl) h64 (gL σ g64) (by subst eg64; exact (cu_L_w (u := q42.2.2) (v := (upd (pL_w q42.2.2) ((28 : Int32) + q42.2.1).toNatClampNeg (pL_w q42.2.2 (q42.1 + q42.2.1).toNatClampNeg))) rfl rfl)) dX11_undo_64 65 rfl ?_
        refine y_iinc hC dX11_undo_65 2 rfl (v := (q42.2.1 + (1 : Int32))) rfl (by decide) [(2, .int (q42.2.1 + (1 : Int32))), (0, .ref (ad Γ 66)), (1, .int q42.1)] rfl 68 rfl ?_
        refine y_goto hC dX11_undo_68 42 (by decide) ?_
        refine y_sub [1, 2, 0] rfl ?_
        exact ih42 (q42.1, (q42.2.1 + (1 : Int32)), g64) hk
  refine y_aload_n hC dX11_undo_0 0 rfl 1 rfl ?_
  refine y_get hC 66 (hB 66 (by decide) (by decide)) (cl_L (u := w) rfl) rfl inU11 0 (by decide) w4_98 rfl dX11_undo_1 4 rfl ?_
  refine y_bipush hC dX11_undo_4 (v := (7 : Int32)) (by decide) 6 rfl ?_
  obtain ⟨h6, hk⟩ := ob_if hk
  refine y_iald hC 67 (hB 67 (by decide) (by decide)) (cl_L_w (u := w) rfl) h6 dX11_undo_6 7 rfl ?_
  refine y_if_ne hC dX11_undo_7 15 (by decide) 10 rfl (fun h7 => ?_) (fun h7 => ?_)
  · have hk := ob_neg h7 hk
    refine y_aload_n hC dX11_undo_15 0 rfl 16 rfl ?_
    refine y_get hC 66 (hB 66 (by decide) (by decide)) (cl_L (u := w) rfl) rfl inU11 0 (by decide) w4_98 rfl dX11_undo_16 19 rfl ?_
    refine y_bipush hC dX11_undo_19 (v := (7 : Int32)) (by decide) 21 rfl ?_
    refine y_dup2 hC dX11_undo_21 rfl rfl 22 rfl ?_
    obtain ⟨h22, hk⟩ := ob_if hk
    refine y_iald hC 67 (hB 67 (by decide) (by decide)) (cl_L_w (u := w) rfl) h22 dX11_undo_22 23 rfl ?_
    refine y_iconst hC dX11_undo_23 (v := (1 : Int32)) (by decide) 24 rfl ?_
    refine y_isub hC dX11_undo_24 25 rfl ?_
    obtain ⟨h25, hk⟩ := ob_if hk
    obtain ⟨g25, eg25, hk⟩ := ob_lt hk
    refine y_iast hC 67 (hB 67 (by decide) (by decide)) (cl_L_w (u := w) rfl) h25 (gL σ g25) (by subst eg25; exact (cu_L_w (u := w) (v := (upd (pL_w w) (7 : Int32).toNatClampNeg ((pL_w w (7 : Int32).toNatClampNeg) - (1 : Int32)))) rfl rfl)) dX11_undo_25 26 rfl ?_
    refine y_bipush hC dX11_undo_26 (v := (72 : Int32)) (by decide) 28 rfl ?_
    refine y_bipush hC dX11_undo_28 (v := (10 : Int32)) (by decide) 30 rfl ?_
    refine y_aload_n hC dX11_undo_30 0 rfl 31 rfl ?_
    refine y_get hC 66 (hB 66 (by decide) (by decide)) (cl_L (u := g25) rfl) rfl inU11 0 (by decide) w4_98 rfl dX11_undo_31 34 rfl ?_
    refine y_bipush hC dX11_undo_34 (v := (7 : Int32)) (by decide) 36 rfl ?_
    obtain ⟨h36, hk⟩ := ob_if hk
    refine y_iald hC 67 (hB 67 (by decide) (by decide)) (cl_L_w (u := g25) rfl) h36 dX11_undo_36 37 rfl ?_
    refine y_imul hC dX11_undo_37 38 rfl ?_
    refine y_iadd hC dX11_undo_38 39 rfl ?_
    obtain ⟨n39, en39, hk⟩ := ob_lt hk
    refine y_topi en39 ?_
    refine y_istore_n hC dX11_undo_39 (by decide) [(1, .int n39), (0, .ref (ad Γ 66))] rfl 40 rfl ?_
    refine y_iconst hC dX11_undo_40 (v := (0 : Int32)) (by decide) 41 rfl ?_
    refine y_istore_n hC dX11_undo_41 (by decide) [(2, .int (0 : Int32)), (1, .int n39), (0, .ref (ad Γ 66))] rfl 42 rfl ?_
    refine y_sub [2, 1, 0] rfl ?_
    exact L42 1000 (n39, (0 : Int32), g25) hk
  · have hk := ob_pos h7 hk
    refine y_aload_n hC dX11_undo_10 0 rfl 11 rfl ?_
    obtain ⟨x11, hx11, hk⟩ := ob_bind hk
    refine y_callV hC 66 (hB 66 (by decide) (by decide)) (cl_L (u := w) rfl) rfl (c_X11_no hJ hB l σ w x11 hx11) rfl ⟨w5_104, w1_13, cwd_X11_no, by decide, by decide⟩ w5_101 w5_103 ws5_9 rfl rfl (Nat.le_of_ble_eq_true rfl) (by decide) dX11_undo_11 14 rfl (gL σ x11.2) rfl [.int x11.1] rfl ?_
    have e := Option.some.inj hk
    exact y_iret hC hr hlk (by rw [← e]) (by first | rfl | rw [← e]) dX11_undo_14
def f_X11_of_j19 (a1 : Int32) (a2 : Int32) (gw : LSt) : Option (Int32 × LSt) :=
  (f_X11_bad gw).bind fun x20 => 
    (some (x20.1, x20.2))
def f_X11_of (w : LSt) (a1 : Int32) (a2 : Int32) : Option (Int32 × LSt) :=
  (f_X11_isHour a1).bind fun x1 => 
    (if x1 = 0 then
      f_X11_of_j19 a1 a2 w
    else
      (f_X11_in a2.toInt64 (0 : Int64) (3 : Int64)).bind fun x13 => 
        (if x13 = 0 then
          f_X11_of_j19 a1 a2 w
        else
          (f_X11_triesAll w).bind fun x25 => 
            (if a2 = 0 then
              if inb ((8 : Int32) + a1) 608 then 
                (some ((pL_w x25 ((8 : Int32) + a1).toNatClampNeg), x25))
              else none
            else
              if a2 = (1 : Int32) then
                if inb ((18 : Int32) + a1) 608 then 
                  (some ((pL_w x25 ((18 : Int32) + a1).toNatClampNeg), x25))
                else none
              else
                if a2 = (2 : Int32) then
                  if inb (2 : Int32) 608 then 
                    (some ((((pL_w x25 (2 : Int32).toNatClampNeg) >>> (a1 &&& 31)) &&& (1 : Int32)), x25))
                  else none
                else
                  if inb a1 10 then 
                    (some ((pL_goes x25 a1.toNatClampNeg), x25))
                  else none)))
theorem cwd_X11_of : yX11_of.cls ≠ "java/lang/invoke/MethodHandle" ∧ yX11_of.cls ≠ "java/lang/invoke/VarHandle" ∧ (parseMethodDescriptor yX11_of.desc).map (fun d => d.parameters.length) = some 2 := by decide +kernel
set_option maxHeartbeats 4000000 in
set_option maxRecDepth 100000 in
theorem c_X11_of {Γ : GC} (hJ : GJ Γ) (hB : ∀ i, 66 ≤ i → i < 77 → act Γ i) (l : Launch) (σ : GSt) (w : LSt) (a1 : Int32) (a2 : Int32) (x : Int32 × LSt) (hk : f_X11_of w a1 a2 = some x) : Mt Γ l yX11_of cX11_of 3 (some .int) 6 137 [.ref (ad Γ 66), .int a1, .int a2] (gL σ w) (some (.int x.1)) (gL σ x.2) := by
  refine y_enter (by decide) hJ (Nat.le_of_ble_eq_true rfl) [(0, .ref (ad Γ 66)), (1, .int a1), (2, .int a2)] rfl ?_
  intro p e s' m args below meth c' hC hr hlk
  have J19 : ∀ (gw : LSt), f_X11_of_j19 a1 a2 gw = some x → Y Γ (GA Γ) p l e ({ frames := 6, cells := 0, slots := 0, locals := 137 } : Room) s' m args below meth c' 0 0 (MQ below (Qg Γ (some (.int x.1)) (gL σ x.2)) args s' 0 0 (GA Γ)) 3 (gL σ gw) 19 [(0, .ref (ad Γ 66)), (1, .int a1), (2, .int a2)] [] := by
    intro gw hk
    refine y_aload_n hC dX11_of_19 0 rfl 20 rfl ?_
    obtain ⟨x20, hx20, hk⟩ := ob_bind hk
    refine y_callV hC 66 (hB 66 (by decide) (by decide)) (cl_L (u := gw) rfl) rfl (c_X11_bad hJ hB l σ gw x20 hx20) rfl ⟨w4_186, w1_13, cwd_X11_bad, by decide, by decide⟩ w4_183 w4_185 ws3_15 rfl rfl (Nat.le_of_ble_eq_true rfl) (by decide) dX11_of_20 23 rfl (gL σ x20.2) rfl [.int x20.1] rfl ?_
    have e := Option.some.inj hk
    exact y_iret hC hr hlk (by rw [← e]) (by first | rfl | rw [← e]) dX11_of_23
  refine y_iload_n hC dX11_of_0 1 rfl 1 rfl ?_
  obtain ⟨x1, hx1, hk⟩ := ob_bind hk
  refine y_callS hC (c_X11_isHour hJ l (gL σ w) a1 x1 hx1) rfl ⟨w4_201, w1_13, cwd_X11_isHour, by decide, by decide⟩ w4_199 w4_200 rfl rfl (Nat.le_of_ble_eq_true rfl) (by decide) dX11_of_1 4 rfl (gL σ w) rfl [.int x1] rfl ?_
  refine y_if_eq hC dX11_of_4 19 (by decide) 7 rfl (fun h4 => ?_) (fun h4 => ?_)
  · have hk := ob_pos h4 hk
    refine y_sub [0, 1, 2] rfl ?_
    exact J19 w hk
  · have hk := ob_neg h4 hk
    refine y_iload_n hC dX11_of_7 2 rfl 8 rfl ?_
    refine y_i2l hC dX11_of_8 9 rfl ?_
    refine y_lconst hC dX11_of_9 (v := (0 : Int64)) (by decide) 10 rfl ?_
    refine y_ldc2 hC (v := (3 : Int64)) w4_220 dX11_of_10 13 rfl ?_
    obtain ⟨x13, hx13, hk⟩ := ob_bind hk
    refine y_callS hC (c_X11_in hJ l (gL σ w) a2.toInt64 (0 : Int64) (3 : Int64) x13 hx13) rfl ⟨w4_181, w1_13, cwd_X11_in, by decide, by decide⟩ w4_179 w4_180 rfl rfl (Nat.le_of_ble_eq_true rfl) (by decide) dX11_of_13 16 rfl (gL σ w) rfl [.int x13] rfl ?_
    refine y_if_ne hC dX11_of_16 24 (by decide) 19 rfl (fun h16 => ?_) (fun h16 => ?_)
    · have hk := ob_neg h16 hk
      refine y_aload_n hC dX11_of_24 0 rfl 25 rfl ?_
      obtain ⟨x25, hx25, hk⟩ := ob_bind hk
      refine y_callV hC 66 (hB 66 (by decide) (by decide)) (cl_L (u := w) rfl) rfl (c_X11_triesAll hJ hB l σ w x25 hx25) rfl ⟨w5_57, w1_13, cwd_X11_triesAll, by decide, by decide⟩ w5_54 w5_56 ws4_15 rfl rfl (Nat.le_of_ble_eq_true rfl) (by decide) dX11_of_25 28 rfl (gL σ x25) rfl [] rfl ?_
      refine y_iload_n hC dX11_of_28 2 rfl 29 rfl ?_
      refine y_if_ne hC dX11_of_29 44 (by decide) 32 rfl (fun h29 => ?_) (fun h29 => ?_)
      · have hk := ob_neg h29 hk
        refine y_iload_n hC dX11_of_44 2 rfl 45 rfl ?_
        refine y_iconst hC dX11_of_45 (v := (1 : Int32)) (by decide) 46 rfl ?_
        refine y_icmp_ne hC dX11_of_46 61 (by decide) 49 rfl (fun h46 => ?_) (fun h46 => ?_)
        · have hk := ob_neg h46 hk
          refine y_iload_n hC dX11_of_61 2 rfl 62 rfl ?_
          refine y_iconst hC dX11_of_62 (v := (2 : Int32)) (by decide) 63 rfl ?_
          refine y_icmp_ne hC dX11_of_63 79 (by decide) 66 rfl (fun h63 => ?_) (fun h63 => ?_)
          · have hk := ob_neg h63 hk
            refine y_aload_n hC dX11_of_79 0 rfl 80 rfl ?_
            refine y_get hC 66 (hB 66 (by decide) (by decide)) (cl_L (u := x25) rfl) rfl inU11 16 (by decide) w4_114 rfl dX11_of_80 83 rfl ?_
            refine y_iload_n hC dX11_of_83 1 rfl 84 rfl ?_
            obtain ⟨h84, hk⟩ := ob_if hk
            refine y_iald hC 73 (hB 73 (by decide) (by decide)) (cl_L_goes (u := x25) rfl) h84 dX11_of_84 85 rfl ?_
            have e := Option.some.inj hk
            exact y_iret hC hr hlk (by rw [← e]) (by first | rfl | rw [← e]) dX11_of_85
          · have hk := ob_pos h63 hk
            refine y_aload_n hC dX11_of_66 0 rfl 67 rfl ?_
            refine y_get hC 66 (hB 66 (by decide) (by decide)) (cl_L (u := x25) rfl) rfl inU11 0 (by decide) w4_98 rfl dX11_of_67 70 rfl ?_
            refine y_iconst hC dX11_of_70 (v := (2 : Int32)) (by decide) 71 rfl ?_
            obtain ⟨h71, hk⟩ := ob_if hk
            refine y_iald hC 67 (hB 67 (by decide) (by decide)) (cl_L_w (u := x25) rfl) h71 dX11_of_71 72 rfl ?_
            refine y_iload_n hC dX11_of_72 1 rfl 73 rfl ?_
            refine y_ishr hC dX11_of_73 74 rfl ?_
            refine y_iconst hC dX11_of_74 (v := (1 : Int32)) (by decide) 75 rfl ?_
            refine y_iand hC dX11_of_75 76 rfl ?_
            refine y_goto hC dX11_of_76 85 (by decide) ?_
            have e := Option.some.inj hk
            exact y_iret hC hr hlk (by rw [← e]) (by first | rfl | rw [← e]) dX11_of_85
        · have hk := ob_pos h46 hk
          refine y_aload_n hC dX11_of_49 0 rfl 50 rfl ?_
          refine y_get hC 66 (hB 66 (by decide) (by decide)) (cl_L (u := x25) rfl) rfl inU11 0 (by decide) w4_98 rfl dX11_of_50 53 rfl ?_
          refine y_bipush hC dX11_of_53 (v := (18 : Int32)) (by decide) 55 rfl ?_
          refine y_iload_n hC dX11_of_55 1 rfl 56 rfl ?_
          refine y_iadd hC dX11_of_56 57 rfl ?_
          obtain ⟨h57, hk⟩ := ob_if hk
          refine y_iald hC 67 (hB 67 (by decide) (by decide)) (cl_L_w (u := x25) rfl) h57 dX11_of_57 58 rfl ?_
          refine y_goto hC dX11_of_58 85 (by decide) ?_
          have e := Option.some.inj hk
          exact y_iret hC hr hlk (by rw [← e]) (by first | rfl | rw [← e]) dX11_of_85
      · have hk := ob_pos h29 hk
        refine y_aload_n hC dX11_of_32 0 rfl 33 rfl ?_
        refine y_get hC 66 (hB 66 (by decide) (by decide)) (cl_L (u := x25) rfl) rfl inU11 0 (by decide) w4_98 rfl dX11_of_33 36 rfl ?_
        refine y_bipush hC dX11_of_36 (v := (8 : Int32)) (by decide) 38 rfl ?_
        refine y_iload_n hC dX11_of_38 1 rfl 39 rfl ?_
        refine y_iadd hC dX11_of_39 40 rfl ?_
        obtain ⟨h40, hk⟩ := ob_if hk
        refine y_iald hC 67 (hB 67 (by decide) (by decide)) (cl_L_w (u := x25) rfl) h40 dX11_of_40 41 rfl ?_
        refine y_goto hC dX11_of_41 85 (by decide) ?_
        have e := Option.some.inj hk
        exact y_iret hC hr hlk (by rw [← e]) (by first | rfl | rw [← e]) dX11_of_85
    · have hk := ob_pos h16 hk
      refine y_sub [0, 1, 2] rfl ?_
      exact J19 w hk
def f_X11_isBuyer (w : LSt) (a1 : Int32) : Option (Int32) :=
  if inb (3 : Int32) 608 then 
    ((f_X11_in a1.toInt64 (0 : Int64) ((pL_w w (3 : Int32).toNatClampNeg) - (1 : Int32)).toInt64).bind fun x12 => 
    (if x12 = 0 ∨ x12 = 1 then 
    (some x12)
  else none))
  else none
theorem cwd_X11_isBuyer : yX11_isBuyer.cls ≠ "java/lang/invoke/MethodHandle" ∧ yX11_isBuyer.cls ≠ "java/lang/invoke/VarHandle" ∧ (parseMethodDescriptor yX11_isBuyer.desc).map (fun d => d.parameters.length) = some 1 := by decide +kernel
set_option maxHeartbeats 4000000 in
set_option maxRecDepth 100000 in
theorem c_X11_isBuyer {Γ : GC} (hJ : GJ Γ) (hB : ∀ i, 66 ≤ i → i < 77 → act Γ i) (l : Launch) (σ : GSt) (w : LSt) (a1 : Int32) (x : Int32) (hk : f_X11_isBuyer w a1 = some x) : Mt Γ l yX11_isBuyer cX11_isBuyer 2 (some .boolean) 1 25 [.ref (ad Γ 66), .int a1] (gL σ w) (some (.int x)) (gL σ w) := by
  refine y_enter (by decide) hJ (Nat.le_of_ble_eq_true rfl) [(0, .ref (ad Γ 66)), (1, .int a1)] rfl ?_
  intro p e s' m args below meth c' hC hr hlk
  refine y_iload_n hC dX11_isBuyer_0 1 rfl 1 rfl ?_
  refine y_i2l hC dX11_isBuyer_1 2 rfl ?_
  refine y_lconst hC dX11_isBuyer_2 (v := (0 : Int64)) (by decide) 3 rfl ?_
  refine y_aload_n hC dX11_isBuyer_3 0 rfl 4 rfl ?_
  refine y_get hC 66 (hB 66 (by decide) (by decide)) (cl_L (u := w) rfl) rfl inU11 0 (by decide) w4_98 rfl dX11_isBuyer_4 7 rfl ?_
  refine y_iconst hC dX11_isBuyer_7 (v := (3 : Int32)) (by decide) 8 rfl ?_
  obtain ⟨h8, hk⟩ := ob_if hk
  refine y_iald hC 67 (hB 67 (by decide) (by decide)) (cl_L_w (u := w) rfl) h8 dX11_isBuyer_8 9 rfl ?_
  refine y_iconst hC dX11_isBuyer_9 (v := (1 : Int32)) (by decide) 10 rfl ?_
  refine y_isub hC dX11_isBuyer_10 11 rfl ?_
  refine y_i2l hC dX11_isBuyer_11 12 rfl ?_
  obtain ⟨x12, hx12, hk⟩ := ob_bind hk
  refine y_callS hC (c_X11_in hJ l (gL σ w) a1.toInt64 (0 : Int64) ((pL_w w (3 : Int32).toNatClampNeg) - (1 : Int32)).toInt64 x12 hx12) rfl ⟨w4_181, w1_13, cwd_X11_in, by decide, by decide⟩ w4_179 w4_180 rfl rfl (Nat.le_of_ble_eq_true rfl) (by decide) dX11_isBuyer_12 15 rfl (gL σ w) rfl [.int x12] rfl ?_
  obtain ⟨h15, hk⟩ := ob_if hk
  have e := Option.some.inj hk
  exact y_zret hC hr hlk (nz_bool h15) (by rw [← e]) (by first | rfl | rw [← e]) dX11_isBuyer_15
def f_X11_about_j20 (a1 : Int32) (a2 : Int32) (gw : LSt) : Option (Int32 × LSt) :=
  (f_X11_bad gw).bind fun x21 => 
    (some (x21.1, x21.2))
def f_X11_about (w : LSt) (a1 : Int32) (a2 : Int32) : Option (Int32 × LSt) :=
  (f_X11_isBuyer w a1).bind fun x2 => 
    (if x2 = 0 then
      f_X11_about_j20 a1 a2 w
    else
      (f_X11_in a2.toInt64 (0 : Int64) (4 : Int64)).bind fun x14 => 
        (if x14 = 0 then
          f_X11_about_j20 a1 a2 w
        else
          if (4 : Int32) ≤ a2 then
            (f_X11_takesOf w a1).bind fun x49 => 
              (some (x49, w))
          else
            if inb (((28 : Int32) + ((8 : Int32) * a2)) + a1) 608 then 
              (some ((pL_w w (((28 : Int32) + ((8 : Int32) * a2)) + a1).toNatClampNeg), w))
            else none))
theorem cwd_X11_about : yX11_about.cls ≠ "java/lang/invoke/MethodHandle" ∧ yX11_about.cls ≠ "java/lang/invoke/VarHandle" ∧ (parseMethodDescriptor yX11_about.desc).map (fun d => d.parameters.length) = some 2 := by decide +kernel
set_option maxHeartbeats 4000000 in
set_option maxRecDepth 100000 in
theorem c_X11_about {Γ : GC} (hJ : GJ Γ) (hB : ∀ i, 66 ≤ i → i < 77 → act Γ i) (l : Launch) (σ : GSt) (w : LSt) (a1 : Int32) (a2 : Int32) (x : Int32 × LSt) (hk : f_X11_about w a1 a2 = some x) : Mt Γ l yX11_about cX11_about 3 (some .int) 2 46 [.ref (ad Γ 66), .int a1, .int a2] (gL σ w) (some (.int x.1)) (gL σ x.2) := by
  refine y_enter (by decide) hJ (Nat.le_of_ble_eq_true rfl) [(0, .ref (ad Γ 66)), (1, .int a1), (2, .int a2)] rfl ?_
  intro p e s' m args below meth c' hC hr hlk
  have J20 : ∀ (gw : LSt), f_X11_about_j20 a1 a2 gw = some x → Y Γ (GA Γ) p l e ({ frames := 2, cells := 0, slots := 0, locals := 46 } : Room) s' m args below meth c' 0 0 (MQ below (Qg Γ (some (.int x.1)) (gL σ x.2)) args s' 0 0 (GA Γ)) 3 (gL σ gw) 20 [(0, .ref (ad Γ 66)), (1, .int a1), (2, .int a2)] [] := by
    intro gw hk
    refine y_aload_n hC dX11_about_20 0 rfl 21 rfl ?_
    obtain ⟨x21, hx21, hk⟩ := ob_bind hk
    refine y_callV hC 66 (hB 66 (by decide) (by decide)) (cl_L (u := gw) rfl) rfl (c_X11_bad hJ hB l σ gw x21 hx21) rfl ⟨w4_186, w1_13, cwd_X11_bad, by decide, by decide⟩ w4_183 w4_185 ws3_15 rfl rfl (Nat.le_of_ble_eq_true rfl) (by decide) dX11_about_21 24 rfl (gL σ x21.2) rfl [.int x21.1] rfl ?_
    have e := Option.some.inj hk
    exact y_iret hC hr hlk (by rw [← e]) (by first | rfl | rw [← e]) dX11_about_24
  refine y_aload_n hC dX11_about_0 0 rfl 1 rfl ?_
  refine y_iload_n hC dX11_about_1 1 rfl 2 rfl ?_
  obtain ⟨x2, hx2, hk⟩ := ob_bind hk
  refine y_callV hC 66 (hB 66 (by decide) (by decide)) (cl_L (u := w) rfl) rfl (c_X11_isBuyer hJ hB l σ w a1 x2 hx2) rfl ⟨w5_116, w1_13, cwd_X11_isBuyer, by decide, by decide⟩ w5_113 w5_115 ws5_10 rfl rfl (Nat.le_of_ble_eq_true rfl) (by decide) dX11_about_2 5 rfl (gL σ w) rfl [.int x2] rfl ?_
  refine y_if_eq hC dX11_about_5 20 (by decide) 8 rfl (fun h5 => ?_) (fun h5 => ?_)
  · have hk := ob_pos h5 hk
    refine y_sub [0, 1, 2] rfl ?_
    exact J20 w hk
  · have hk := ob_neg h5 hk
    refine y_iload_n hC dX11_about_8 2 rfl 9 rfl ?_
    refine y_i2l hC dX11_about_9 10 rfl ?_
    refine y_lconst hC dX11_about_10 (v := (0 : Int64)) (by decide) 11 rfl ?_
    refine y_ldc2 hC (v := (4 : Int64)) w5_117 dX11_about_11 14 rfl ?_
    obtain ⟨x14, hx14, hk⟩ := ob_bind hk
    refine y_callS hC (c_X11_in hJ l (gL σ w) a2.toInt64 (0 : Int64) (4 : Int64) x14 hx14) rfl ⟨w4_181, w1_13, cwd_X11_in, by decide, by decide⟩ w4_179 w4_180 rfl rfl (Nat.le_of_ble_eq_true rfl) (by decide) dX11_about_14 17 rfl (gL σ w) rfl [.int x14] rfl ?_
    refine y_if_ne hC dX11_about_17 25 (by decide) 20 rfl (fun h17 => ?_) (fun h17 => ?_)
    · have hk := ob_neg h17 hk
      refine y_iload_n hC dX11_about_25 2 rfl 26 rfl ?_
      refine y_iconst hC dX11_about_26 (v := (4 : Int32)) (by decide) 27 rfl ?_
      refine y_icmp_ge hC dX11_about_27 47 (by decide) 30 rfl (fun h27 => ?_) (fun h27 => ?_)
      · have hk := ob_pos h27 hk
        refine y_aload_n hC dX11_about_47 0 rfl 48 rfl ?_
        refine y_iload_n hC dX11_about_48 1 rfl 49 rfl ?_
        obtain ⟨x49, hx49, hk⟩ := ob_bind hk
        refine y_callV hC 66 (hB 66 (by decide) (by decide)) (cl_L (u := w) rfl) rfl (c_X11_takesOf hJ hB l σ w a1 x49 hx49) rfl ⟨w5_88, w1_13, cwd_X11_takesOf, by decide, by decide⟩ w5_85 w5_87 ws5_6 rfl rfl (Nat.le_of_ble_eq_true rfl) (by decide) dX11_about_49 52 rfl (gL σ w) rfl [.int x49] rfl ?_
        have e := Option.some.inj hk
        exact y_iret hC hr hlk (by rw [← e]) (by first | rfl | rw [← e]) dX11_about_52
      · have hk := ob_neg h27 hk
        refine y_aload_n hC dX11_about_30 0 rfl 31 rfl ?_
        refine y_get hC 66 (hB 66 (by decide) (by decide)) (cl_L (u := w) rfl) rfl inU11 0 (by decide) w4_98 rfl dX11_about_31 34 rfl ?_
        refine y_bipush hC dX11_about_34 (v := (28 : Int32)) (by decide) 36 rfl ?_
        refine y_bipush hC dX11_about_36 (v := (8 : Int32)) (by decide) 38 rfl ?_
        refine y_iload_n hC dX11_about_38 2 rfl 39 rfl ?_
        refine y_imul hC dX11_about_39 40 rfl ?_
        refine y_iadd hC dX11_about_40 41 rfl ?_
        refine y_iload_n hC dX11_about_41 1 rfl 42 rfl ?_
        refine y_iadd hC dX11_about_42 43 rfl ?_
        obtain ⟨h43, hk⟩ := ob_if hk
        refine y_iald hC 67 (hB 67 (by decide) (by decide)) (cl_L_w (u := w) rfl) h43 dX11_about_43 44 rfl ?_
        refine y_goto hC dX11_about_44 52 (by decide) ?_
        have e := Option.some.inj hk
        exact y_iret hC hr hlk (by rw [← e]) (by first | rfl | rw [← e]) dX11_about_52
    · have hk := ob_pos h17 hk
      refine y_sub [0, 1, 2] rfl ?_
      exact J20 w hk
def f_X11_takes (w : LSt) (a1 : Int32) : Option (Int32 × LSt) :=
  (f_X11_in a1.toInt64 (0 : Int64) (1 : Int64)).bind fun x4 => 
    (if x4 = 0 then
      (f_X11_bad w).bind fun x11 => 
        (some (x11.1, x11.2))
    else
      (f_X11_triesAll w).bind fun x16 => 
        (if a1 = 0 then
          some ((pL_takings x16), x16)
        else
          some ((pL_left x16), x16)))
theorem cwd_X11_takes : yX11_takes.cls ≠ "java/lang/invoke/MethodHandle" ∧ yX11_takes.cls ≠ "java/lang/invoke/VarHandle" ∧ (parseMethodDescriptor yX11_takes.desc).map (fun d => d.parameters.length) = some 1 := by decide +kernel
set_option maxHeartbeats 4000000 in
set_option maxRecDepth 100000 in
theorem c_X11_takes {Γ : GC} (hJ : GJ Γ) (hB : ∀ i, 66 ≤ i → i < 77 → act Γ i) (l : Launch) (σ : GSt) (w : LSt) (a1 : Int32) (x : Int32 × LSt) (hk : f_X11_takes w a1 = some x) : Mt Γ l yX11_takes cX11_takes 2 (some .int) 6 137 [.ref (ad Γ 66), .int a1] (gL σ w) (some (.int x.1)) (gL σ x.2) := by
  refine y_enter (by decide) hJ (Nat.le_of_ble_eq_true rfl) [(0, .ref (ad Γ 66)), (1, .int a1)] rfl ?_
  intro p e s' m args below meth c' hC hr hlk
  refine y_iload_n hC dX11_takes_0 1 rfl 1 rfl ?_
  refine y_i2l hC dX11_takes_1 2 rfl ?_
  refine y_lconst hC dX11_takes_2 (v := (0 : Int64)) (by decide) 3 rfl ?_
  refine y_lconst hC dX11_takes_3 (v := (1 : Int64)) (by decide) 4 rfl ?_
  obtain ⟨x4, hx4, hk⟩ := ob_bind hk
  refine y_callS hC (c_X11_in hJ l (gL σ w) a1.toInt64 (0 : Int64) (1 : Int64) x4 hx4) rfl ⟨w4_181, w1_13, cwd_X11_in, by decide, by decide⟩ w4_179 w4_180 rfl rfl (Nat.le_of_ble_eq_true rfl) (by decide) dX11_takes_4 7 rfl (gL σ w) rfl [.int x4] rfl ?_
  refine y_if_ne hC dX11_takes_7 15 (by decide) 10 rfl (fun h7 => ?_) (fun h7 => ?_)
  · have hk := ob_neg h7 hk
    refine y_aload_n hC dX11_takes_15 0 rfl 16 rfl ?_
    obtain ⟨x16, hx16, hk⟩ := ob_bind hk
    refine y_callV hC 66 (hB 66 (by decide) (by decide)) (cl_L (u := w) rfl) rfl (c_X11_triesAll hJ hB l σ w x16 hx16) rfl ⟨w5_57, w1_13, cwd_X11_triesAll, by decide, by decide⟩ w5_54 w5_56 ws4_15 rfl rfl (Nat.le_of_ble_eq_true rfl) (by decide) dX11_takes_16 19 rfl (gL σ x16) rfl [] rfl ?_
    refine y_iload_n hC dX11_takes_19 1 rfl 20 rfl ?_
    refine y_if_ne hC dX11_takes_20 30 (by decide) 23 rfl (fun h20 => ?_) (fun h20 => ?_)
    · have hk := ob_neg h20 hk
      refine y_aload_n hC dX11_takes_30 0 rfl 31 rfl ?_
      refine y_get hC 66 (hB 66 (by decide) (by decide)) (cl_L (u := x16) rfl) rfl inU11 19 (by decide) w4_117 rfl dX11_takes_31 34 rfl ?_
      have e := Option.some.inj hk
      exact y_iret hC hr hlk (by rw [← e]) (by first | rfl | rw [← e]) dX11_takes_34
    · have hk := ob_pos h20 hk
      refine y_aload_n hC dX11_takes_23 0 rfl 24 rfl ?_
      refine y_get hC 66 (hB 66 (by decide) (by decide)) (cl_L (u := x16) rfl) rfl inU11 17 (by decide) w4_115 rfl dX11_takes_24 27 rfl ?_
      refine y_goto hC dX11_takes_27 34 (by decide) ?_
      have e := Option.some.inj hk
      exact y_iret hC hr hlk (by rw [← e]) (by first | rfl | rw [← e]) dX11_takes_34
  · have hk := ob_pos h7 hk
    refine y_aload_n hC dX11_takes_10 0 rfl 11 rfl ?_
    obtain ⟨x11, hx11, hk⟩ := ob_bind hk
    refine y_callV hC 66 (hB 66 (by decide) (by decide)) (cl_L (u := w) rfl) rfl (c_X11_bad hJ hB l σ w x11 hx11) rfl ⟨w4_186, w1_13, cwd_X11_bad, by decide, by decide⟩ w4_183 w4_185 ws3_15 rfl rfl (Nat.le_of_ble_eq_true rfl) (by decide) dX11_takes_11 14 rfl (gL σ x11.2) rfl [.int x11.1] rfl ?_
    have e := Option.some.inj hk
    exact y_iret hC hr hlk (by rw [← e]) (by first | rfl | rw [← e]) dX11_takes_14
def f_X11_to_j20 (a1 : Int32) (a2 : Int32) (gw : LSt) : Option (Int32 × LSt) :=
  (f_X11_bad gw).bind fun x21 => 
    (some (x21.1, x21.2))
def f_X11_to (w : LSt) (a1 : Int32) (a2 : Int32) : Option (Int32 × LSt) :=
  (f_X11_isBuyer w a1).bind fun x2 => 
    (if x2 = 0 then
      f_X11_to_j20 a1 a2 w
    else
      (f_X11_in a2.toInt64 (0 : Int64) (3 : Int64)).bind fun x14 => 
        (if x14 = 0 then
          f_X11_to_j20 a1 a2 w
        else
          (f_X11_triesAll w).bind fun x26 => 
            (if a2 = 0 then
              (f_X11_hourOf x26 a1).bind fun x35 => 
                (some (x35, x26))
            else
              if a2 = (1 : Int32) then
                (f_X11_paysOf x26 a1).bind fun x48 => 
                  (some (x48, x26))
              else
                if a2 = (2 : Int32) then
                  if inb a1 8 then 
                    (some ((pL_gets x26 a1.toNatClampNeg), x26))
                  else none
                else
                  if inb a1 8 then 
                    (if (pL_isServed x26 a1.toNatClampNeg) = 0 then
                      some ((0 : Int32), x26)
                    else
                      some ((1 : Int32), x26))
                  else none)))
theorem cwd_X11_to : yX11_to.cls ≠ "java/lang/invoke/MethodHandle" ∧ yX11_to.cls ≠ "java/lang/invoke/VarHandle" ∧ (parseMethodDescriptor yX11_to.desc).map (fun d => d.parameters.length) = some 2 := by decide +kernel
set_option maxHeartbeats 4000000 in
set_option maxRecDepth 100000 in
theorem c_X11_to {Γ : GC} (hJ : GJ Γ) (hB : ∀ i, 66 ≤ i → i < 77 → act Γ i) (l : Launch) (σ : GSt) (w : LSt) (a1 : Int32) (a2 : Int32) (x : Int32 × LSt) (hk : f_X11_to w a1 a2 = some x) : Mt Γ l yX11_to cX11_to 3 (some .int) 6 137 [.ref (ad Γ 66), .int a1, .int a2] (gL σ w) (some (.int x.1)) (gL σ x.2) := by
  refine y_enter (by decide) hJ (Nat.le_of_ble_eq_true rfl) [(0, .ref (ad Γ 66)), (1, .int a1), (2, .int a2)] rfl ?_
  intro p e s' m args below meth c' hC hr hlk
  have J20 : ∀ (gw : LSt), f_X11_to_j20 a1 a2 gw = some x → Y Γ (GA Γ) p l e ({ frames := 6, cells := 0, slots := 0, locals := 137 } : Room) s' m args below meth c' 0 0 (MQ below (Qg Γ (some (.int x.1)) (gL σ x.2)) args s' 0 0 (GA Γ)) 3 (gL σ gw) 20 [(0, .ref (ad Γ 66)), (1, .int a1), (2, .int a2)] [] := by
    intro gw hk
    refine y_aload_n hC dX11_to_20 0 rfl 21 rfl ?_
    obtain ⟨x21, hx21, hk⟩ := ob_bind hk
    refine y_callV hC 66 (hB 66 (by decide) (by decide)) (cl_L (u := gw) rfl) rfl (c_X11_bad hJ hB l σ gw x21 hx21) rfl ⟨w4_186, w1_13, cwd_X11_bad, by decide, by decide⟩ w4_183 w4_185 ws3_15 rfl rfl (Nat.le_of_ble_eq_true rfl) (by decide) dX11_to_21 24 rfl (gL σ x21.2) rfl [.int x21.1] rfl ?_
    have e := Option.some.inj hk
    exact y_iret hC hr hlk (by rw [← e]) (by first | rfl | rw [← e]) dX11_to_24
  refine y_aload_n hC dX11_to_0 0 rfl 1 rfl ?_
  refine y_iload_n hC dX11_to_1 1 rfl 2 rfl ?_
  obtain ⟨x2, hx2, hk⟩ := ob_bind hk
  refine y_callV hC 66 (hB 66 (by decide) (by decide)) (cl_L (u := w) rfl) rfl (c_X11_isBuyer hJ hB l σ w a1 x2 hx2) rfl ⟨w5_116, w1_13, cwd_X11_isBuyer, by decide, by decide⟩ w5_113 w5_115 ws5_10 rfl rfl (Nat.le_of_ble_eq_true rfl) (by decide) dX11_to_2 5 rfl (gL σ w) rfl [.int x2] rfl ?_
  refine y_if_eq hC dX11_to_5 20 (by decide) 8 rfl (fun h5 => ?_) (fun h5 => ?_)
  · have hk := ob_pos h5 hk
    refine y_sub [0, 1, 2] rfl ?_
    exact J20 w hk
  · have hk := ob_neg h5 hk
    refine y_iload_n hC dX11_to_8 2 rfl 9 rfl ?_
    refine y_i2l hC dX11_to_9 10 rfl ?_
    refine y_lconst hC dX11_to_10 (v := (0 : Int64)) (by decide) 11 rfl ?_
    refine y_ldc2 hC (v := (3 : Int64)) w4_220 dX11_to_11 14 rfl ?_
    obtain ⟨x14, hx14, hk⟩ := ob_bind hk
    refine y_callS hC (c_X11_in hJ l (gL σ w) a2.toInt64 (0 : Int64) (3 : Int64) x14 hx14) rfl ⟨w4_181, w1_13, cwd_X11_in, by decide, by decide⟩ w4_179 w4_180 rfl rfl (Nat.le_of_ble_eq_true rfl) (by decide) dX11_to_14 17 rfl (gL σ w) rfl [.int x14] rfl ?_
    refine y_if_ne hC dX11_to_17 25 (by decide) 20 rfl (fun h17 => ?_) (fun h17 => ?_)
    · have hk := ob_neg h17 hk
      refine y_aload_n hC dX11_to_25 0 rfl 26 rfl ?_
      obtain ⟨x26, hx26, hk⟩ := ob_bind hk
      refine y_callV hC 66 (hB 66 (by decide) (by decide)) (cl_L (u := w) rfl) rfl (c_X11_triesAll hJ hB l σ w x26 hx26) rfl ⟨w5_57, w1_13, cwd_X11_triesAll, by decide, by decide⟩ w5_54 w5_56 ws4_15 rfl rfl (Nat.le_of_ble_eq_true rfl) (by decide) dX11_to_26 29 rfl (gL σ x26) rfl [] rfl ?_
      refine y_iload_n hC dX11_to_29 2 rfl 30 rfl ?_
      refine y_if_ne hC dX11_to_30 41 (by decide) 33 rfl (fun h30 => ?_) (fun h30 => ?_)
      · have hk := ob_neg h30 hk
        refine y_iload_n hC dX11_to_41 2 rfl 42 rfl ?_
        refine y_iconst hC dX11_to_42 (v := (1 : Int32)) (by decide) 43 rfl ?_
        refine y_icmp_ne hC dX11_to_43 54 (by decide) 46 rfl (fun h43 => ?_) (fun h43 => ?_)
        · have hk := ob_neg h43 hk
          refine y_iload_n hC dX11_to_54 2 rfl 55 rfl ?_
          refine y_iconst hC dX11_to_55 (v := (2 : Int32)) (by decide) 56 rfl ?_
          refine y_icmp_ne hC dX11_to_56 68 (by decide) 59 rfl (fun h56 => ?_) (fun h56 => ?_)
          · have hk := ob_neg h56 hk
            refine y_aload_n hC dX11_to_68 0 rfl 69 rfl ?_
            refine y_get hC 66 (hB 66 (by decide) (by decide)) (cl_L (u := x26) rfl) rfl inU11 15 (by decide) w4_113 rfl dX11_to_69 72 rfl ?_
            refine y_iload_n hC dX11_to_72 1 rfl 73 rfl ?_
            obtain ⟨h73, hk⟩ := ob_if hk
            refine y_zald hC 72 (hB 72 (by decide) (by decide)) (cl_L_isServed (u := x26) rfl) h73 dX11_to_73 74 rfl ?_
            refine y_if_eq hC dX11_to_74 81 (by decide) 77 rfl (fun h74 => ?_) (fun h74 => ?_)
            · have hk := ob_pos h74 hk
              refine y_iconst hC dX11_to_81 (v := (0 : Int32)) (by decide) 82 rfl ?_
              have e := Option.some.inj hk
              exact y_iret hC hr hlk (by rw [← e]) (by first | rfl | rw [← e]) dX11_to_82
            · have hk := ob_neg h74 hk
              refine y_iconst hC dX11_to_77 (v := (1 : Int32)) (by decide) 78 rfl ?_
              refine y_goto hC dX11_to_78 82 (by decide) ?_
              have e := Option.some.inj hk
              exact y_iret hC hr hlk (by rw [← e]) (by first | rfl | rw [← e]) dX11_to_82
          · have hk := ob_pos h56 hk
            refine y_aload_n hC dX11_to_59 0 rfl 60 rfl ?_
            refine y_get hC 66 (hB 66 (by decide) (by decide)) (cl_L (u := x26) rfl) rfl inU11 14 (by decide) w4_112 rfl dX11_to_60 63 rfl ?_
            refine y_iload_n hC dX11_to_63 1 rfl 64 rfl ?_
            obtain ⟨h64, hk⟩ := ob_if hk
            refine y_iald hC 71 (hB 71 (by decide) (by decide)) (cl_L_gets (u := x26) rfl) h64 dX11_to_64 65 rfl ?_
            refine y_goto hC dX11_to_65 82 (by decide) ?_
            have e := Option.some.inj hk
            exact y_iret hC hr hlk (by rw [← e]) (by first | rfl | rw [← e]) dX11_to_82
        · have hk := ob_pos h43 hk
          refine y_aload_n hC dX11_to_46 0 rfl 47 rfl ?_
          refine y_iload_n hC dX11_to_47 1 rfl 48 rfl ?_
          obtain ⟨x48, hx48, hk⟩ := ob_bind hk
          refine y_callV hC 66 (hB 66 (by decide) (by decide)) (cl_L (u := x26) rfl) rfl (c_X11_paysOf hJ hB l σ x26 a1 x48 hx48) rfl ⟨w5_80, w1_13, cwd_X11_paysOf, by decide, by decide⟩ w5_77 w5_79 ws5_4 rfl rfl (Nat.le_of_ble_eq_true rfl) (by decide) dX11_to_48 51 rfl (gL σ x26) rfl [.int x48] rfl ?_
          refine y_goto hC dX11_to_51 82 (by decide) ?_
          have e := Option.some.inj hk
          exact y_iret hC hr hlk (by rw [← e]) (by first | rfl | rw [← e]) dX11_to_82
      · have hk := ob_pos h30 hk
        refine y_aload_n hC dX11_to_33 0 rfl 34 rfl ?_
        refine y_iload_n hC dX11_to_34 1 rfl 35 rfl ?_
        obtain ⟨x35, hx35, hk⟩ := ob_bind hk
        refine y_callV hC 66 (hB 66 (by decide) (by decide)) (cl_L (u := x26) rfl) rfl (c_X11_hourOf hJ hB l σ x26 a1 x35 hx35) rfl ⟨w5_68, w1_13, cwd_X11_hourOf, by decide, by decide⟩ w5_65 w5_67 ws5_1 rfl rfl (Nat.le_of_ble_eq_true rfl) (by decide) dX11_to_35 38 rfl (gL σ x26) rfl [.int x35] rfl ?_
        refine y_goto hC dX11_to_38 82 (by decide) ?_
        have e := Option.some.inj hk
        exact y_iret hC hr hlk (by rw [← e]) (by first | rfl | rw [← e]) dX11_to_82
    · have hk := ob_pos h17 hk
      refine y_sub [0, 1, 2] rfl ?_
      exact J20 w hk
def f_X11_lays_s7 (K7 : (Int32 × LSt) → Option (LSt)) (q7 : Int32 × LSt) : Option (LSt) :=
  if (20 : Int32) ≤ q7.1 then
    some q7.2
  else
    if inb ((8 : Int32) + q7.1) 608 then 
      (if inb q7.1 20 then 
      (lt (sL_aside q7.2 (upd (pL_aside q7.2) q7.1.toNatClampNeg (pL_w q7.2 ((8 : Int32) + q7.1).toNatClampNeg))) fun g27 => 
      (K7 ((q7.1 + (1 : Int32)), g27)))
    else none)
    else none
def f_X11_lays (w : LSt) : Option (LSt) :=
  lt (sL_shouted w (-1 : Int32)) fun g2 => 
    (lp (f_X11_lays_s7) 1000 ((0 : Int32), g2))
theorem cwd_X11_lays : yX11_lays.cls ≠ "java/lang/invoke/MethodHandle" ∧ yX11_lays.cls ≠ "java/lang/invoke/VarHandle" ∧ (parseMethodDescriptor yX11_lays.desc).map (fun d => d.parameters.length) = some 0 := by decide +kernel
set_option maxHeartbeats 4000000 in
set_option maxRecDepth 100000 in
theorem c_X11_lays {Γ : GC} (hJ : GJ Γ) (hB : ∀ i, 66 ≤ i → i < 77 → act Γ i) (l : Launch) (σ : GSt) (w : LSt) (x : LSt) (hk : f_X11_lays w = some x) : Mt Γ l yX11_lays cX11_lays 2 none 0 0 [.ref (ad Γ 66)] (gL σ w) none (gL σ x) := by
  refine y_enter (by decide) hJ (Nat.le_of_ble_eq_true rfl) [(0, .ref (ad Γ 66))] rfl ?_
  intro p e s' m args below meth c' hC hr hlk
  have L7 : ∀ (n7 : Nat) (q7 : Int32 × LSt), lp (f_X11_lays_s7) n7 q7 = some x → Y Γ (GA Γ) p l e ({ frames := 0, cells := 0, slots := 0, locals := 0 } : Room) s' m args below meth c' 0 0 (MQ below (Qg Γ none (gL σ x)) args s' 0 0 (GA Γ)) 2 (gL σ q7.2) 7 [(0, .ref (ad Γ 66)), (1, .int q7.1)] [] := by
    intro n7
    induction n7 with
    | zero => intro q7 hk; exact (lp_zero hk).elim
    | succ n7 ih7 =>
      intro q7 hk
      have hk : f_X11_lays_s7 (lp (f_X11_lays_s7) n7) q7 = some x := (lp_succ _ _ _).symm.trans hk
      refine y_iload_n hC dX11_lays_7 1 rfl 8 rfl ?_
      refine y_bipush hC dX11_lays_8 (v := (20 : Int32)) (by decide) 10 rfl ?_
      refine y_icmp_ge hC dX11_lays_10 34 (by decide) 13 rfl (fun h10 => ?_) (fun h10 => ?_)
      · have hk := ob_pos h10 hk
        have e := Option.some.inj hk
        exact y_vret hC hr hlk (by rw [← e]) dX11_lays_34
      · have hk := ob_neg h10 hk
        refine y_aload_n hC dX11_lays_13 0 rfl 14 rfl ?_
        refine y_get hC 66 (hB 66 (by decide) (by decide)) (cl_L (u := q7.2) rfl) rfl inU11 20 (by decide) w4_118 rfl dX11_lays_14 17 rfl ?_
        refine y_iload_n hC dX11_lays_17 1 rfl 18 rfl ?_
        refine y_aload_n hC dX11_lays_18 0 rfl 19 rfl ?_
        refine y_get hC 66 (hB 66 (by decide) (by decide)) (cl_L (u := q7.2) rfl) rfl inU11 0 (by decide) w4_98 rfl dX11_lays_19 22 rfl ?_
        refine y_bipush hC dX11_lays_22 (v := (8 : Int32)) (by decide) 24 rfl ?_
        refine y_iload_n hC dX11_lays_24 1 rfl 25 rfl ?_
        refine y_iadd hC dX11_lays_25 26 rfl ?_
        obtain ⟨h26, hk⟩ := ob_if hk
        refine y_iald hC 67 (hB 67 (by decide) (by decide)) (cl_L_w (u := q7.2) rfl) h26 dX11_lays_26 27 rfl ?_
        obtain ⟨h27, hk⟩ := ob_if hk
        obtain ⟨g27, eg27, hk⟩ := ob_lt hk
        refine y_iast hC 74 (hB 74 (by decide) (by decide)) (cl_L_aside (u := q7.2) rfl) h27 (gL σ g27) (by subst eg27; exact (cu_L_aside (u := q7.2) (v := (upd (pL_aside q7.2) q7.1.toNatClampNeg (pL_w q7.2 ((8 : Int32) + q7.1).toNatClampNeg))) rfl rfl)) dX11_lays_27 28 rfl ?_
        refine y_iinc hC dX11_lays_28 1 rfl (v := (q7.1 + (1 : Int32))) rfl (by decide) [(1, .int (q7.1 + (1 : Int32))), (0, .ref (ad Γ 66))] rfl 31 rfl ?_
        refine y_goto hC dX11_lays_31 7 (by decide) ?_
        refine y_sub [1, 0] rfl ?_
        exact ih7 ((q7.1 + (1 : Int32)), g27) hk
  refine y_aload_n hC dX11_lays_0 0 rfl 1 rfl ?_
  refine y_iconst hC dX11_lays_1 (v := (-1 : Int32)) (by decide) 2 rfl ?_
  obtain ⟨g2, eg2, hk⟩ := ob_lt hk
  refine y_put hC 66 (hB 66 (by decide) (by decide)) (cl_L (u := w) rfl) rfl inU11 tyX11_ok nmX11 13 (by decide) w4_111 rfl rfl rfl rfl (Nat.le_of_ble_eq_true rfl) (gL σ g2) (by subst eg2; exact (cu_L_shouted (u := w) (v := (-1 : Int32)) rfl rfl)) dX11_lays_2 5 rfl ?_
  refine y_iconst hC dX11_lays_5 (v := (0 : Int32)) (by decide) 6 rfl ?_
  refine y_istore_n hC dX11_lays_6 (by decide) [(1, .int (0 : Int32)), (0, .ref (ad Γ 66))] rfl 7 rfl ?_
  refine y_sub [1, 0] rfl ?_
  exact L7 1000 ((0 : Int32), g2) hk
def f_X11_putsBack_s2 (K2 : (Int32 × LSt) → Option (LSt)) (q2 : Int32 × LSt) : Option (LSt) :=
  if (20 : Int32) ≤ q2.1 then
    some q2.2
  else
    if inb q2.1 20 then 
      (if inb ((8 : Int32) + q2.1) 608 then 
      (lt (sL_w q2.2 (upd (pL_w q2.2) ((8 : Int32) + q2.1).toNatClampNeg (pL_aside q2.2 q2.1.toNatClampNeg))) fun g22 => 
      (K2 ((q2.1 + (1 : Int32)), g22)))
    else none)
    else none
def f_X11_putsBack (w : LSt) : Option (LSt) :=
  lp (f_X11_putsBack_s2) 1000 ((0 : Int32), w)
theorem cwd_X11_putsBack : yX11_putsBack.cls ≠ "java/lang/invoke/MethodHandle" ∧ yX11_putsBack.cls ≠ "java/lang/invoke/VarHandle" ∧ (parseMethodDescriptor yX11_putsBack.desc).map (fun d => d.parameters.length) = some 0 := by decide +kernel
set_option maxHeartbeats 4000000 in
set_option maxRecDepth 100000 in
theorem c_X11_putsBack {Γ : GC} (hJ : GJ Γ) (hB : ∀ i, 66 ≤ i → i < 77 → act Γ i) (l : Launch) (σ : GSt) (w : LSt) (x : LSt) (hk : f_X11_putsBack w = some x) : Mt Γ l yX11_putsBack cX11_putsBack 2 none 0 0 [.ref (ad Γ 66)] (gL σ w) none (gL σ x) := by
  refine y_enter (by decide) hJ (Nat.le_of_ble_eq_true rfl) [(0, .ref (ad Γ 66))] rfl ?_
  intro p e s' m args below meth c' hC hr hlk
  have L2 : ∀ (n2 : Nat) (q2 : Int32 × LSt), lp (f_X11_putsBack_s2) n2 q2 = some x → Y Γ (GA Γ) p l e ({ frames := 0, cells := 0, slots := 0, locals := 0 } : Room) s' m args below meth c' 0 0 (MQ below (Qg Γ none (gL σ x)) args s' 0 0 (GA Γ)) 2 (gL σ q2.2) 2 [(0, .ref (ad Γ 66)), (1, .int q2.1)] [] := by
    intro n2
    induction n2 with
    | zero => intro q2 hk; exact (lp_zero hk).elim
    | succ n2 ih2 =>
      intro q2 hk
      have hk : f_X11_putsBack_s2 (lp (f_X11_putsBack_s2) n2) q2 = some x := (lp_succ _ _ _).symm.trans hk
      refine y_iload_n hC dX11_putsBack_2 1 rfl 3 rfl ?_
      refine y_bipush hC dX11_putsBack_3 (v := (20 : Int32)) (by decide) 5 rfl ?_
      refine y_icmp_ge hC dX11_putsBack_5 29 (by decide) 8 rfl (fun h5 => ?_) (fun h5 => ?_)
      · have hk := ob_pos h5 hk
        have e := Option.some.inj hk
        exact y_vret hC hr hlk (by rw [← e]) dX11_putsBack_29
      · have hk := ob_neg h5 hk
        refine y_aload_n hC dX11_putsBack_8 0 rfl 9 rfl ?_
        refine y_get hC 66 (hB 66 (by decide) (by decide)) (cl_L (u := q2.2) rfl) rfl inU11 0 (by decide) w4_98 rfl dX11_putsBack_9 12 rfl ?_
        refine y_bipush hC dX11_putsBack_12 (v := (8 : Int32)) (by decide) 14 rfl ?_
        refine y_iload_n hC dX11_putsBack_14 1 rfl 15 rfl ?_
        refine y_iadd hC dX11_putsBack_15 16 rfl ?_
        refine y_aload_n hC dX11_putsBack_16 0 rfl 17 rfl ?_
        refine y_get hC 66 (hB 66 (by decide) (by decide)) (cl_L (u := q2.2) rfl) rfl inU11 20 (by decide) w4_118 rfl dX11_putsBack_17 20 rfl ?_
        refine y_iload_n hC dX11_putsBack_20 1 rfl 21 rfl ?_
        obtain ⟨h21, hk⟩ := ob_if hk
        refine y_iald hC 74 (hB 74 (by decide) (by decide)) (cl_L_aside (u := q2.2) rfl) h21 dX11_putsBack_21 22 rfl ?_
        obtain ⟨h22, hk⟩ := ob_if hk
        obtain ⟨g22, eg22, hk⟩ := ob_lt hk
        refine y_iast hC 67 (hB 67 (by decide) (by decide)) (cl_L_w (u := q2.2) rfl) h22 (gL σ g22) (by subst eg22; exact (cu_L_w (u := q2.2) (v := (upd (pL_w q2.2) ((8 : Int32) + q2.1).toNatClampNeg (pL_aside q2.2 q2.1.toNatClampNeg))) rfl rfl)) dX11_putsBack_22 23 rfl ?_
        refine y_iinc hC dX11_putsBack_23 1 rfl (v := (q2.1 + (1 : Int32))) rfl (by decide) [(1, .int (q2.1 + (1 : Int32))), (0, .ref (ad Γ 66))] rfl 26 rfl ?_
        refine y_goto hC dX11_putsBack_26 2 (by decide) ?_
        refine y_sub [1, 0] rfl ?_
        exact ih2 ((q2.1 + (1 : Int32)), g22) hk
  refine y_iconst hC dX11_putsBack_0 (v := (0 : Int32)) (by decide) 1 rfl ?_
  refine y_istore_n hC dX11_putsBack_1 (by decide) [(1, .int (0 : Int32)), (0, .ref (ad Γ 66))] rfl 2 rfl ?_
  refine y_sub [1, 0] rfl ?_
  exact L2 1000 ((0 : Int32), w) hk
def f_X11_best_j190 (a1 : Int32) (a2 : Int32) (a3 : Int32) (a4 : Int32) (v5 : Int32) (v6 : Int32) (gw : LSt) : Option (Int32 × LSt) :=
  (f_X11_putsBack gw).bind fun x191 => 
    (if a4 = 0 then
      some (v5, x191)
    else
      some (v6, x191))
def f_X11_best_j184 (a1 : Int32) (a2 : Int32) (a3 : Int32) (a4 : Int32) (K60 : (Int32 × Int32 × Int32 × LSt) → Option (Int32 × LSt)) (v5 : Int32) (v6 : Int32) (v7 : Int32) (gw : LSt) : Option (Int32 × LSt) :=
  K60 (v5, v6, (v7 + (1 : Int32)), gw)
def f_X11_best_j176 (a1 : Int32) (a2 : Int32) (a3 : Int32) (a4 : Int32) (K60 : (Int32 × Int32 × Int32 × LSt) → Option (Int32 × LSt)) (K71 : (Int32 × Int32 × Int32 × Int32 × LSt) → Option (Int32 × LSt)) (v6 : Int32) (v7 : Int32) (v8 : Int32) (t0 : Int32) (gw : LSt) : Option (Int32 × LSt) :=
  K71 (t0, v6, v7, (v8 + (1 : Int32)), gw)
def f_X11_best_j156 (a1 : Int32) (a2 : Int32) (a3 : Int32) (a4 : Int32) (K60 : (Int32 × Int32 × Int32 × LSt) → Option (Int32 × LSt)) (K71 : (Int32 × Int32 × Int32 × Int32 × LSt) → Option (Int32 × LSt)) (v5 : Int32) (v7 : Int32) (v8 : Int32) (t0 : Int32) (gw : LSt) : Option (Int32 × LSt) :=
  if (pL_takings gw) ≤ v5 then
    f_X11_best_j176 a1 a2 a3 a4 K60 K71 t0 v7 v8 v5 gw
  else
    f_X11_best_j176 a1 a2 a3 a4 K60 K71 t0 v7 v8 (pL_takings gw) gw
def f_X11_best_j127 (a1 : Int32) (a2 : Int32) (a3 : Int32) (a4 : Int32) (K60 : (Int32 × Int32 × Int32 × LSt) → Option (Int32 × LSt)) (K71 : (Int32 × Int32 × Int32 × Int32 × LSt) → Option (Int32 × LSt)) (v5 : Int32) (v6 : Int32) (v7 : Int32) (v8 : Int32) (gw : LSt) : Option (Int32 × LSt) :=
  (f_X11_tries gw (255 : Int32)).bind fun x131 => 
    (if (pL_takings x131) ≤ v5 then
      f_X11_best_j156 a1 a2 a3 a4 K60 K71 v5 v7 v8 v6 x131
    else
      f_X11_best_j156 a1 a2 a3 a4 K60 K71 v5 v7 v8 (((11 : Int32) * v7) + v8) x131)
def f_X11_best_j120 (a1 : Int32) (a2 : Int32) (a3 : Int32) (a4 : Int32) (K60 : (Int32 × Int32 × Int32 × LSt) → Option (Int32 × LSt)) (K71 : (Int32 × Int32 × Int32 × Int32 × LSt) → Option (Int32 × LSt)) (K81 : (Int32 × Int32 × Int32 × Int32 × Int32 × LSt) → Option (Int32 × LSt)) (v5 : Int32) (v6 : Int32) (v7 : Int32) (v8 : Int32) (v9 : Int32) (t0 : Int32) (t1 : Int32) (gw : LSt) : Option (Int32 × LSt) :=
  if inb t1 608 then 
    (lt (sL_w gw (upd (pL_w gw) t1.toNatClampNeg t0)) fun g120 => 
    (K81 (v5, v6, v7, v8, (v9 + (1 : Int32)), g120)))
  else none
def f_X11_best_s81 (a1 : Int32) (a2 : Int32) (a3 : Int32) (a4 : Int32) (K60 : (Int32 × Int32 × Int32 × LSt) → Option (Int32 × LSt)) (K71 : (Int32 × Int32 × Int32 × Int32 × LSt) → Option (Int32 × LSt)) (K81 : (Int32 × Int32 × Int32 × Int32 × Int32 × LSt) → Option (Int32 × LSt)) (q81 : Int32 × Int32 × Int32 × Int32 × Int32 × LSt) : Option (Int32 × LSt) :=
  if (10 : Int32) ≤ q81.2.2.2.2.1 then
    f_X11_best_j127 a1 a2 a3 a4 K60 K71 q81.1 q81.2.1 q81.2.2.1 q81.2.2.2.1 q81.2.2.2.2.2
  else
    if q81.2.2.1 ≤ q81.2.2.2.2.1 then
      if q81.2.2.2.1 ≤ q81.2.2.2.2.1 then
        f_X11_best_j120 a1 a2 a3 a4 K60 K71 K81 q81.1 q81.2.1 q81.2.2.1 q81.2.2.2.1 q81.2.2.2.2.1 a3 ((8 : Int32) + q81.2.2.2.2.1) q81.2.2.2.2.2
      else
        f_X11_best_j120 a1 a2 a3 a4 K60 K71 K81 q81.1 q81.2.1 q81.2.2.1 q81.2.2.2.1 q81.2.2.2.2.1 a2 ((8 : Int32) + q81.2.2.2.2.1) q81.2.2.2.2.2
    else
      f_X11_best_j120 a1 a2 a3 a4 K60 K71 K81 q81.1 q81.2.1 q81.2.2.1 q81.2.2.2.1 q81.2.2.2.2.1 a1 ((8 : Int32) + q81.2.2.2.2.1) q81.2.2.2.2.2
def f_X11_best_s71 (a1 : Int32) (a2 : Int32) (a3 : Int32) (a4 : Int32) (K60 : (Int32 × Int32 × Int32 × LSt) → Option (Int32 × LSt)) (K71 : (Int32 × Int32 × Int32 × Int32 × LSt) → Option (Int32 × LSt)) (q71 : Int32 × Int32 × Int32 × Int32 × LSt) : Option (Int32 × LSt) :=
  if (10 : Int32) < q71.2.2.2.1 then
    f_X11_best_j184 a1 a2 a3 a4 K60 q71.1 q71.2.1 q71.2.2.1 q71.2.2.2.2
  else
    lp (f_X11_best_s81 a1 a2 a3 a4 K60 K71) 1000 (q71.1, q71.2.1, q71.2.2.1, q71.2.2.2.1, (0 : Int32), q71.2.2.2.2)
def f_X11_best_s60 (a1 : Int32) (a2 : Int32) (a3 : Int32) (a4 : Int32) (K60 : (Int32 × Int32 × Int32 × LSt) → Option (Int32 × LSt)) (q60 : Int32 × Int32 × Int32 × LSt) : Option (Int32 × LSt) :=
  if (10 : Int32) < q60.2.2.1 then
    f_X11_best_j190 a1 a2 a3 a4 q60.1 q60.2.1 q60.2.2.2
  else
    lp (f_X11_best_s71 a1 a2 a3 a4 K60) 1000 (q60.1, q60.2.1, q60.2.2.1, q60.2.2.1, q60.2.2.2)
def f_X11_best_j42 (a1 : Int32) (a2 : Int32) (a3 : Int32) (a4 : Int32) (gw : LSt) : Option (Int32 × LSt) :=
  (f_X11_bad gw).bind fun x43 => 
    (some (x43.1, x43.2))
def f_X11_best (w : LSt) (a1 : Int32) (a2 : Int32) (a3 : Int32) (a4 : Int32) : Option (Int32 × LSt) :=
  (f_X11_isPrice a1).bind fun x1 => 
    (if x1 = 0 then
      f_X11_best_j42 a1 a2 a3 a4 w
    else
      (f_X11_isPrice a2).bind fun x8 => 
        (if x8 = 0 then
          f_X11_best_j42 a1 a2 a3 a4 w
        else
          (f_X11_isPrice a3).bind fun x15 => 
            (if x15 = 0 then
              f_X11_best_j42 a1 a2 a3 a4 w
            else
              if a1 < a2 then
                f_X11_best_j42 a1 a2 a3 a4 w
              else
                if a2 < a3 then
                  f_X11_best_j42 a1 a2 a3 a4 w
                else
                  (f_X11_in a4.toInt64 (0 : Int64) (1 : Int64)).bind fun x36 => 
                    (if x36 = 0 then
                      f_X11_best_j42 a1 a2 a3 a4 w
                    else
                      (f_X11_lays w).bind fun x48 => 
                        (lp (f_X11_best_s60 a1 a2 a3 a4) 1000 ((-1 : Int32), (0 : Int32), (0 : Int32), x48))))))
theorem cwd_X11_best : yX11_best.cls ≠ "java/lang/invoke/MethodHandle" ∧ yX11_best.cls ≠ "java/lang/invoke/VarHandle" ∧ (parseMethodDescriptor yX11_best.desc).map (fun d => d.parameters.length) = some 4 := by decide +kernel
set_option maxHeartbeats 4000000 in
set_option maxRecDepth 100000 in
theorem c_X11_best {Γ : GC} (hJ : GJ Γ) (hB : ∀ i, 66 ≤ i → i < 77 → act Γ i) (l : Launch) (σ : GSt) (w : LSt) (a1 : Int32) (a2 : Int32) (a3 : Int32) (a4 : Int32) (x : Int32 × LSt) (hk : f_X11_best w a1 a2 a3 a4 = some x) : Mt Γ l yX11_best cX11_best 10 (some .int) 5 117 [.ref (ad Γ 66), .int a1, .int a2, .int a3, .int a4] (gL σ w) (some (.int x.1)) (gL σ x.2) := by
  refine y_enter (by decide) hJ (Nat.le_of_ble_eq_true rfl) [(0, .ref (ad Γ 66)), (1, .int a1), (2, .int a2), (3, .int a3), (4, .int a4)] rfl ?_
  intro p e s' m args below meth c' hC hr hlk
  have J190 : ∀ (v5 : Int32) (v6 : Int32) (gw : LSt), f_X11_best_j190 a1 a2 a3 a4 v5 v6 gw = some x → Y Γ (GA Γ) p l e ({ frames := 5, cells := 0, slots := 0, locals := 117 } : Room) s' m args below meth c' 0 0 (MQ below (Qg Γ (some (.int x.1)) (gL σ x.2)) args s' 0 0 (GA Γ)) 10 (gL σ gw) 190 [(0, .ref (ad Γ 66)), (1, .int a1), (2, .int a2), (3, .int a3), (4, .int a4), (5, .int v5), (6, .int v6)] [] := by
    intro v5 v6 gw hk
    refine y_aload_n hC dX11_best_190 0 rfl 191 rfl ?_
    obtain ⟨x191, hx191, hk⟩ := ob_bind hk
    refine y_callV hC 66 (hB 66 (by decide) (by decide)) (cl_L (u := gw) rfl) rfl (c_X11_putsBack hJ hB l σ gw x191 hx191) rfl ⟨w5_137, w1_13, cwd_X11_putsBack, by decide, by decide⟩ w5_134 w5_136 ws5_12 rfl rfl (Nat.le_of_ble_eq_true rfl) (by decide) dX11_best_191 194 rfl (gL σ x191) rfl [] rfl ?_
    refine y_iload hC dX11_best_194 4 rfl 196 rfl ?_
    refine y_if_ne hC dX11_best_196 204 (by decide) 199 rfl (fun h196 => ?_) (fun h196 => ?_)
    · have hk := ob_neg h196 hk
      refine y_iload hC dX11_best_204 6 rfl 206 rfl ?_
      have e := Option.some.inj hk
      exact y_iret hC hr hlk (by rw [← e]) (by first | rfl | rw [← e]) dX11_best_206
    · have hk := ob_pos h196 hk
      refine y_iload hC dX11_best_199 5 rfl 201 rfl ?_
      refine y_goto hC dX11_best_201 206 (by decide) ?_
      have e := Option.some.inj hk
      exact y_iret hC hr hlk (by rw [← e]) (by first | rfl | rw [← e]) dX11_best_206
  have L60 : ∀ (n60 : Nat) (q60 : Int32 × Int32 × Int32 × LSt), lp (f_X11_best_s60 a1 a2 a3 a4) n60 q60 = some x → Y Γ (GA Γ) p l e ({ frames := 5, cells := 0, slots := 0, locals := 117 } : Room) s' m args below meth c' 0 0 (MQ below (Qg Γ (some (.int x.1)) (gL σ x.2)) args s' 0 0 (GA Γ)) 10 (gL σ q60.2.2.2) 60 [(0, .ref (ad Γ 66)), (1, .int a1), (2, .int a2), (3, .int a3), (4, .int a4), (5, .int q60.1), (6, .int q60.2.1), (7, .int q60.2.2.1)] [] := by
    intro n60
    induction n60 with
    | zero => intro q60 hk; exact (lp_zero hk).elim
    | succ n60 ih60 =>
      intro q60 hk
      have hk : f_X11_best_s60 a1 a2 a3 a4 (lp (f_X11_best_s60 a1 a2 a3 a4) n60) q60 = some x := (lp_succ _ _ _).symm.trans hk
      have J184 : ∀ (v5 : Int32) (v6 : Int32) (v7 : Int32) (gw : LSt), f_X11_best_j184 a1 a2 a3 a4 (lp (f_X11_best_s60 a1 a2 a3 a4) n60) v5 v6 v7 gw = some x → Y Γ (GA Γ) p l e ({ frames := 5, cells := 0, slots := 0, locals := 117 } : Room) s' m args below meth c' 0 0 (MQ below (Qg Γ (some (.int x.1)) (gL σ x.2)) args s' 0 0 (GA Γ)) 10 (gL σ gw) 184 [(0, .ref (ad Γ 66)), (1, .int a1), (2, .int a2), (3, .int a3), (4, .int a4), (5, .int v5), (6, .int v6), (7, .int v7)] [] := by
        intro v5 v6 v7 gw hk
        refine y_iinc hC dX11_best_184 7 rfl (v := (v7 + (1 : Int32))) rfl (by decide) [(7, .int (v7 + (1 : Int32))), (0, .ref (ad Γ 66)), (1, .int a1), (2, .int a2), (3, .int a3), (4, .int a4), (5, .int v5), (6, .int v6)] rfl 187 rfl ?_
        refine y_goto hC dX11_best_187 60 (by decide) ?_
        refine y_sub [1, 2, 3, 4, 5, 6, 7, 0] rfl ?_
        exact ih60 (v5, v6, (v7 + (1 : Int32)), gw) hk
      have L71 : ∀ (n71 : Nat) (q71 : Int32 × Int32 × Int32 × Int32 × LSt), lp (f_X11_best_s71 a1 a2 a3 a4 (lp (f_X11_best_s60 a1 a2 a3 a4) n60)) n71 q71 = some x → Y Γ (GA Γ) p l e ({ frames := 5, cells := 0, slots := 0, locals := 117 } : Room) s' m args below meth c' 0 0 (MQ below (Qg Γ (some (.int x.1)) (gL σ x.2)) args s' 0 0 (GA Γ)) 10 (gL σ q71.2.2.2.2) 71 [(0, .ref (ad Γ 66)), (1, .int a1), (2, .int a2), (3, .int a3), (4, .int a4), (5, .int q71.1), (6, .int q71.2.1), (7, .int q71.2.2.1), (8, .int q71.2.2.2.1)] [] := by
        intro n71
        induction n71 with
        | zero => intro q71 hk; exact (lp_zero hk).elim
        | succ n71 ih71 =>
          intro q71 hk
          have hk : f_X11_best_s71 a1 a2 a3 a4 (lp (f_X11_best_s60 a1 a2 a3 a4) n60) (lp (f_X11_best_s71 a1 a2 a3 a4 (lp (f_X11_best_s60 a1 a2 a3 a4) n60)) n71) q71 = some x := (lp_succ _ _ _).symm.trans hk
          have J176 : ∀ (v6 : Int32) (v7 : Int32) (v8 : Int32) (t0 : Int32) (gw : LSt), f_X11_best_j176 a1 a2 a3 a4 (lp (f_X11_best_s60 a1 a2 a3 a4) n60) (lp (f_X11_best_s71 a1 a2 a3 a4 (lp (f_X11_best_s60 a1 a2 a3 a4) n60)) n71) v6 v7 v8 t0 gw = some x → Y Γ (GA Γ) p l e ({ frames := 5, cells := 0, slots := 0, locals := 117 } : Room) s' m args below meth c' 0 0 (MQ below (Qg Γ (some (.int x.1)) (gL σ x.2)) args s' 0 0 (GA Γ)) 10 (gL σ gw) 176 [(0, .ref (ad Γ 66)), (1, .int a1), (2, .int a2), (3, .int a3), (4, .int a4), (6, .int v6), (7, .int v7), (8, .int v8)] [.int t0] := by
            intro v6 v7 v8 t0 gw hk
            refine y_istore hC dX11_best_176 (by decide) [(5, .int t0), (0, .ref (ad Γ 66)), (1, .int a1), (2, .int a2), (3, .int a3), (4, .int a4), (6, .int v6), (7, .int v7), (8, .int v8)] rfl 178 rfl ?_
            refine y_iinc hC dX11_best_178 8 rfl (v := (v8 + (1 : Int32))) rfl (by decide) [(8, .int (v8 + (1 : Int32))), (5, .int t0), (0, .ref (ad Γ 66)), (1, .int a1), (2, .int a2), (3, .int a3), (4, .int a4), (6, .int v6), (7, .int v7)] rfl 181 rfl ?_
            refine y_goto hC dX11_best_181 71 (by decide) ?_
            refine y_sub [2, 3, 4, 5, 6, 1, 7, 8, 0] rfl ?_
            exact ih71 (t0, v6, v7, (v8 + (1 : Int32)), gw) hk
          have J156 : ∀ (v5 : Int32) (v7 : Int32) (v8 : Int32) (t0 : Int32) (gw : LSt), f_X11_best_j156 a1 a2 a3 a4 (lp (f_X11_best_s60 a1 a2 a3 a4) n60) (lp (f_X11_best_s71 a1 a2 a3 a4 (lp (f_X11_best_s60 a1 a2 a3 a4) n60)) n71) v5 v7 v8 t0 gw = some x → Y Γ (GA Γ) p l e ({ frames := 5, cells := 0, slots := 0, locals := 117 } : Room) s' m args below meth c' 0 0 (MQ below (Qg Γ (some (.int x.1)) (gL σ x.2)) args s' 0 0 (GA Γ)) 10 (gL σ gw) 156 [(0, .ref (ad Γ 66)), (1, .int a1), (2, .int a2), (3, .int a3), (4, .int a4), (5, .int v5), (7, .int v7), (8, .int v8)] [.int t0] := by
            intro v5 v7 v8 t0 gw hk
            refine y_istore hC dX11_best_156 (by decide) [(6, .int t0), (0, .ref (ad Γ 66)), (1, .int a1), (2, .int a2), (3, .int a3), (4, .int a4), (5, .int v5), (7, .int v7), (8, .int v8)] rfl 158 rfl ?_
            refine y_aload_n hC dX11_best_158 1 rfl 159 rfl ?_
            refine y_get hC 66 (hB 66 (by decide) (by decide)) (cl_L (u := gw) rfl) rfl inU11 17 (by decide) w4_115 rfl dX11_best_159 162 rfl ?_
            refine y_iload hC dX11_best_162 6 rfl 164 rfl ?_
            refine y_icmp_le hC dX11_best_164 174 (by decide) 167 rfl (fun h164 => ?_) (fun h164 => ?_)
            · have hk := ob_pos h164 hk
              refine y_iload hC dX11_best_174 6 rfl 176 rfl ?_
              refine y_sub [1, 2, 3, 4, 5, 0, 7, 8] rfl ?_
              exact J176 t0 v7 v8 v5 gw hk
            · have hk := ob_neg h164 hk
              refine y_aload_n hC dX11_best_167 1 rfl 168 rfl ?_
              refine y_get hC 66 (hB 66 (by decide) (by decide)) (cl_L (u := gw) rfl) rfl inU11 17 (by decide) w4_115 rfl dX11_best_168 171 rfl ?_
              refine y_goto hC dX11_best_171 176 (by decide) ?_
              refine y_sub [1, 2, 3, 4, 5, 0, 7, 8] rfl ?_
              exact J176 t0 v7 v8 (pL_takings gw) gw hk
          have J127 : ∀ (v5 : Int32) (v6 : Int32) (v7 : Int32) (v8 : Int32) (gw : LSt), f_X11_best_j127 a1 a2 a3 a4 (lp (f_X11_best_s60 a1 a2 a3 a4) n60) (lp (f_X11_best_s71 a1 a2 a3 a4 (lp (f_X11_best_s60 a1 a2 a3 a4) n60)) n71) v5 v6 v7 v8 gw = some x → Y Γ (GA Γ) p l e ({ frames := 5, cells := 0, slots := 0, locals := 117 } : Room) s' m args below meth c' 0 0 (MQ below (Qg Γ (some (.int x.1)) (gL σ x.2)) args s' 0 0 (GA Γ)) 10 (gL σ gw) 127 [(0, .ref (ad Γ 66)), (1, .int a1), (2, .int a2), (3, .int a3), (4, .int a4), (5, .int v5), (6, .int v6), (7, .int v7), (8, .int v8)] [] := by
            intro v5 v6 v7 v8 gw hk
            refine y_aload_n hC dX11_best_127 0 rfl 128 rfl ?_
            refine y_sipush hC dX11_best_128 (v := (255 : Int32)) (by decide) 131 rfl ?_
            obtain ⟨x131, hx131, hk⟩ := ob_bind hk
            refine y_callV hC 66 (hB 66 (by decide) (by decide)) (cl_L (u := gw) rfl) rfl (c_X11_tries hJ hB l σ gw (255 : Int32) x131 hx131) rfl ⟨w5_61, w1_13, cwd_X11_tries, by decide, by decide⟩ w5_58 w5_60 ws5_0 rfl rfl (Nat.le_of_ble_eq_true rfl) (by decide) dX11_best_131 134 rfl (gL σ x131) rfl [] rfl ?_
            refine y_aload_n hC dX11_best_134 0 rfl 135 rfl ?_
            refine y_get hC 66 (hB 66 (by decide) (by decide)) (cl_L (u := x131) rfl) rfl inU11 17 (by decide) w4_115 rfl dX11_best_135 138 rfl ?_
            refine y_iload hC dX11_best_138 5 rfl 140 rfl ?_
            refine y_icmp_le hC dX11_best_140 154 (by decide) 143 rfl (fun h140 => ?_) (fun h140 => ?_)
            · have hk := ob_pos h140 hk
              refine y_iload hC dX11_best_154 6 rfl 156 rfl ?_
              refine y_sub [0, 1, 2, 3, 4, 5, 7, 8] rfl ?_
              exact J156 v5 v7 v8 v6 x131 hk
            · have hk := ob_neg h140 hk
              refine y_bipush hC dX11_best_143 (v := (11 : Int32)) (by decide) 145 rfl ?_
              refine y_iload hC dX11_best_145 7 rfl 147 rfl ?_
              refine y_imul hC dX11_best_147 148 rfl ?_
              refine y_iload hC dX11_best_148 8 rfl 150 rfl ?_
              refine y_iadd hC dX11_best_150 151 rfl ?_
              refine y_goto hC dX11_best_151 156 (by decide) ?_
              refine y_sub [0, 1, 2, 3, 4, 5, 7, 8] rfl ?_
              exact J156 v5 v7 v8 (((11 : Int32) * v7) + v8) x131 hk
          have L81 : ∀ (n81 : Nat) (q81 : Int32 × Int32 × Int32 × Int32 × Int32 × LSt), lp (f_X11_best_s81 a1 a2 a3 a4 (lp (f_X11_best_s60 a1 a2 a3 a4) n60) (lp (f_X11_best_s71 a1 a2 a3 a4 (lp (f_X11_best_s60 a1 a2 a3 a4) n60)) n71)) n81 q81 = some x → Y Γ (GA Γ) p l e ({ frames := 5, cells := 0, slots := 0, locals := 117 } : Room) s' m args below meth c' 0 0 (MQ below (Qg Γ (some (.int x.1)) (gL σ x.2)) args s' 0 0 (GA Γ)) 10 (gL σ q81.2.2.2.2.2) 81 [(0, .ref (ad Γ 66)), (1, .int a1), (2, .int a2), (3, .int a3), (4, .int a4), (5, .int q81.1), (6, .int q81.2.1), (7, .int q81.2.2.1), (8, .int q81.2.2.2.1), (9, .int q81.2.2.2.2.1)] [] := by
            intro n81
            induction n81 with
            | zero => intro q81 hk; exact (lp_zero hk).elim
            | succ n81 ih81 =>
              intro q81 hk
              have hk : f_X11_best_s81 a1 a2 a3 a4 (lp (f_X11_best_s60 a1 a2 a3 a4) n60) (lp (f_X11_best_s71 a1 a2 a3 a4 (lp (f_X11_best_s60 a1 a2 a3 a4) n60)) n71) (lp (f_X11_best_s81 a1 a2 a3 a4 (lp (f_X11_best_s60 a1 a2 a3 a4) n60) (lp (f_X11_best_s71 a1 a2 a3 a4 (lp (f_X11_best_s60 a1 a2 a3 a4) n60)) n71)) n81) q81 = some x := (lp_succ _ _ _).symm.trans hk
              have J120 : ∀ (v5 : Int32) (v6 : Int32) (v7 : Int32) (v8 : Int32) (v9 : Int32) (t0 : Int32) (t1 : Int32) (gw : LSt), f_X11_best_j120 a1 a2 a3 a4 (lp (f_X11_best_s60 a1 a2 a3 a4) n60) (lp (f_X11_best_s71 a1 a2 a3 a4 (lp (f_X11_best_s60 a1 a2 a3 a4) n60)) n71) (lp (f_X11_best_s81 a1 a2 a3 a4 (lp (f_X11_best_s60 a1 a2 a3 a4) n60) (lp (f_X11_best_s71 a1 a2 a3 a4 (lp (f_X11_best_s60 a1 a2 a3 a4) n60)) n71)) n81) v5 v6 v7 v8 v9 t0 t1 gw = some x → Y Γ (GA Γ) p l e ({ frames := 5, cells := 0, slots := 0, locals := 117 } : Room) s' m args below meth c' 0 0 (MQ below (Qg Γ (some (.int x.1)) (gL σ x.2)) args s' 0 0 (GA Γ)) 10 (gL σ gw) 120 [(0, .ref (ad Γ 66)), (1, .int a1), (2, .int a2), (3, .int a3), (4, .int a4), (5, .int v5), (6, .int v6), (7, .int v7), (8, .int v8), (9, .int v9)] [.int t0, .int t1, .ref (ad Γ 67)] := by
                intro v5 v6 v7 v8 v9 t0 t1 gw hk
                obtain ⟨h120, hk⟩ := ob_if hk
                obtain ⟨g120, eg120, hk⟩ := ob_lt hk
                refine y_iast hC 67 (hB 67 (by decide) (by decide)) (cl_L_w (u := gw) rfl) h120 (gL σ g120) (by subst eg120; exact (cu_L_w (u := gw) (v := (upd (pL_w gw) t1.toNatClampNeg t0)) rfl rfl)) dX11_best_120 121 rfl ?_
                refine y_iinc hC dX11_best_121 9 rfl (v := (v9 + (1 : Int32))) rfl (by decide) [(9, .int (v9 + (1 : Int32))), (0, .ref (ad Γ 66)), (1, .int a1), (2, .int a2), (3, .int a3), (4, .int a4), (5, .int v5), (6, .int v6), (7, .int v7), (8, .int v8)] rfl 124 rfl ?_
                refine y_goto hC dX11_best_124 81 (by decide) ?_
                refine y_sub [1, 2, 3, 4, 5, 6, 7, 8, 9, 0] rfl ?_
                exact ih81 (v5, v6, v7, v8, (v9 + (1 : Int32)), g120) hk
              refine y_iload hC dX11_best_81 9 rfl 83 rfl ?_
              refine y_bipush hC dX11_best_83 (v := (10 : Int32)) (by decide) 85 rfl ?_
              refine y_icmp_ge hC dX11_best_85 127 (by decide) 88 rfl (fun h85 => ?_) (fun h85 => ?_)
              · have hk := ob_pos h85 hk
                refine y_sub [0, 1, 2, 3, 4, 5, 6, 7, 8] rfl ?_
                exact J127 q81.1 q81.2.1 q81.2.2.1 q81.2.2.2.1 q81.2.2.2.2.2 hk
              · have hk := ob_neg h85 hk
                refine y_aload_n hC dX11_best_88 0 rfl 89 rfl ?_
                refine y_get hC 66 (hB 66 (by decide) (by decide)) (cl_L (u := q81.2.2.2.2.2) rfl) rfl inU11 0 (by decide) w4_98 rfl dX11_best_89 92 rfl ?_
                refine y_bipush hC dX11_best_92 (v := (8 : Int32)) (by decide) 94 rfl ?_
                refine y_iload hC dX11_best_94 9 rfl 96 rfl ?_
                refine y_iadd hC dX11_best_96 97 rfl ?_
                refine y_iload hC dX11_best_97 9 rfl 99 rfl ?_
                refine y_iload hC dX11_best_99 7 rfl 101 rfl ?_
                refine y_icmp_ge hC dX11_best_101 108 (by decide) 104 rfl (fun h101 => ?_) (fun h101 => ?_)
                · have hk := ob_pos h101 hk
                  refine y_iload hC dX11_best_108 9 rfl 110 rfl ?_
                  refine y_iload hC dX11_best_110 8 rfl 112 rfl ?_
                  refine y_icmp_ge hC dX11_best_112 119 (by decide) 115 rfl (fun h112 => ?_) (fun h112 => ?_)
                  · have hk := ob_pos h112 hk
                    refine y_iload_n hC dX11_best_119 3 rfl 120 rfl ?_
                    refine y_sub [0, 1, 2, 3, 4, 5, 6, 7, 8, 9] rfl ?_
                    exact J120 q81.1 q81.2.1 q81.2.2.1 q81.2.2.2.1 q81.2.2.2.2.1 a3 ((8 : Int32) + q81.2.2.2.2.1) q81.2.2.2.2.2 hk
                  · have hk := ob_neg h112 hk
                    refine y_iload_n hC dX11_best_115 2 rfl 116 rfl ?_
                    refine y_goto hC dX11_best_116 120 (by decide) ?_
                    refine y_sub [0, 1, 2, 3, 4, 5, 6, 7, 8, 9] rfl ?_
                    exact J120 q81.1 q81.2.1 q81.2.2.1 q81.2.2.2.1 q81.2.2.2.2.1 a2 ((8 : Int32) + q81.2.2.2.2.1) q81.2.2.2.2.2 hk
                · have hk := ob_neg h101 hk
                  refine y_iload_n hC dX11_best_104 1 rfl 105 rfl ?_
                  refine y_goto hC dX11_best_105 120 (by decide) ?_
                  refine y_sub [0, 1, 2, 3, 4, 5, 6, 7, 8, 9] rfl ?_
                  exact J120 q81.1 q81.2.1 q81.2.2.1 q81.2.2.2.1 q81.2.2.2.2.1 a1 ((8 : Int32) + q81.2.2.2.2.1) q81.2.2.2.2.2 hk
          refine y_iload hC dX11_best_71 8 rfl 73 rfl ?_
          refine y_bipush hC dX11_best_73 (v := (10 : Int32)) (by decide) 75 rfl ?_
          refine y_icmp_gt hC dX11_best_75 184 (by decide) 78 rfl (fun h75 => ?_) (fun h75 => ?_)
          · have hk := ob_pos h75 hk
            refine y_sub [0, 1, 2, 3, 4, 5, 6, 7] rfl ?_
            exact J184 q71.1 q71.2.1 q71.2.2.1 q71.2.2.2.2 hk
          · have hk := ob_neg h75 hk
            refine y_iconst hC dX11_best_78 (v := (0 : Int32)) (by decide) 79 rfl ?_
            refine y_istore hC dX11_best_79 (by decide) [(9, .int (0 : Int32)), (0, .ref (ad Γ 66)), (1, .int a1), (2, .int a2), (3, .int a3), (4, .int a4), (5, .int q71.1), (6, .int q71.2.1), (7, .int q71.2.2.1), (8, .int q71.2.2.2.1)] rfl 81 rfl ?_
            refine y_sub [1, 2, 3, 4, 5, 6, 7, 8, 9, 0] rfl ?_
            exact L81 1000 (q71.1, q71.2.1, q71.2.2.1, q71.2.2.2.1, (0 : Int32), q71.2.2.2.2) hk
      refine y_iload hC dX11_best_60 7 rfl 62 rfl ?_
      refine y_bipush hC dX11_best_62 (v := (10 : Int32)) (by decide) 64 rfl ?_
      refine y_icmp_gt hC dX11_best_64 190 (by decide) 67 rfl (fun h64 => ?_) (fun h64 => ?_)
      · have hk := ob_pos h64 hk
        refine y_sub [0, 1, 2, 3, 4, 5, 6] rfl ?_
        exact J190 q60.1 q60.2.1 q60.2.2.2 hk
      · have hk := ob_neg h64 hk
        refine y_iload hC dX11_best_67 7 rfl 69 rfl ?_
        refine y_istore hC dX11_best_69 (by decide) [(8, .int q60.2.2.1), (0, .ref (ad Γ 66)), (1, .int a1), (2, .int a2), (3, .int a3), (4, .int a4), (5, .int q60.1), (6, .int q60.2.1), (7, .int q60.2.2.1)] rfl 71 rfl ?_
        refine y_sub [1, 2, 3, 4, 5, 6, 7, 8, 0] rfl ?_
        exact L71 1000 (q60.1, q60.2.1, q60.2.2.1, q60.2.2.1, q60.2.2.2) hk
  have J42 : ∀ (gw : LSt), f_X11_best_j42 a1 a2 a3 a4 gw = some x → Y Γ (GA Γ) p l e ({ frames := 5, cells := 0, slots := 0, locals := 117 } : Room) s' m args below meth c' 0 0 (MQ below (Qg Γ (some (.int x.1)) (gL σ x.2)) args s' 0 0 (GA Γ)) 10 (gL σ gw) 42 [(0, .ref (ad Γ 66)), (1, .int a1), (2, .int a2), (3, .int a3), (4, .int a4)] [] := by
    intro gw hk
    refine y_aload_n hC dX11_best_42 0 rfl 43 rfl ?_
    obtain ⟨x43, hx43, hk⟩ := ob_bind hk
    refine y_callV hC 66 (hB 66 (by decide) (by decide)) (cl_L (u := gw) rfl) rfl (c_X11_bad hJ hB l σ gw x43 hx43) rfl ⟨w4_186, w1_13, cwd_X11_bad, by decide, by decide⟩ w4_183 w4_185 ws3_15 rfl rfl (Nat.le_of_ble_eq_true rfl) (by decide) dX11_best_43 46 rfl (gL σ x43.2) rfl [.int x43.1] rfl ?_
    have e := Option.some.inj hk
    exact y_iret hC hr hlk (by rw [← e]) (by first | rfl | rw [← e]) dX11_best_46
  refine y_iload_n hC dX11_best_0 1 rfl 1 rfl ?_
  obtain ⟨x1, hx1, hk⟩ := ob_bind hk
  refine y_callS hC (c_X11_isPrice hJ l (gL σ w) a1 x1 hx1) rfl ⟨w4_177, w1_13, cwd_X11_isPrice, by decide, by decide⟩ w4_175 w4_176 rfl rfl (Nat.le_of_ble_eq_true rfl) (by decide) dX11_best_1 4 rfl (gL σ w) rfl [.int x1] rfl ?_
  refine y_if_eq hC dX11_best_4 42 (by decide) 7 rfl (fun h4 => ?_) (fun h4 => ?_)
  · have hk := ob_pos h4 hk
    refine y_sub [0, 1, 2, 3, 4] rfl ?_
    exact J42 w hk
  · have hk := ob_neg h4 hk
    refine y_iload_n hC dX11_best_7 2 rfl 8 rfl ?_
    obtain ⟨x8, hx8, hk⟩ := ob_bind hk
    refine y_callS hC (c_X11_isPrice hJ l (gL σ w) a2 x8 hx8) rfl ⟨w4_177, w1_13, cwd_X11_isPrice, by decide, by decide⟩ w4_175 w4_176 rfl rfl (Nat.le_of_ble_eq_true rfl) (by decide) dX11_best_8 11 rfl (gL σ w) rfl [.int x8] rfl ?_
    refine y_if_eq hC dX11_best_11 42 (by decide) 14 rfl (fun h11 => ?_) (fun h11 => ?_)
    · have hk := ob_pos h11 hk
      refine y_sub [0, 1, 2, 3, 4] rfl ?_
      exact J42 w hk
    · have hk := ob_neg h11 hk
      refine y_iload_n hC dX11_best_14 3 rfl 15 rfl ?_
      obtain ⟨x15, hx15, hk⟩ := ob_bind hk
      refine y_callS hC (c_X11_isPrice hJ l (gL σ w) a3 x15 hx15) rfl ⟨w4_177, w1_13, cwd_X11_isPrice, by decide, by decide⟩ w4_175 w4_176 rfl rfl (Nat.le_of_ble_eq_true rfl) (by decide) dX11_best_15 18 rfl (gL σ w) rfl [.int x15] rfl ?_
      refine y_if_eq hC dX11_best_18 42 (by decide) 21 rfl (fun h18 => ?_) (fun h18 => ?_)
      · have hk := ob_pos h18 hk
        refine y_sub [0, 1, 2, 3, 4] rfl ?_
        exact J42 w hk
      · have hk := ob_neg h18 hk
        refine y_iload_n hC dX11_best_21 1 rfl 22 rfl ?_
        refine y_iload_n hC dX11_best_22 2 rfl 23 rfl ?_
        refine y_icmp_lt hC dX11_best_23 42 (by decide) 26 rfl (fun h23 => ?_) (fun h23 => ?_)
        · have hk := ob_pos h23 hk
          refine y_sub [0, 1, 2, 3, 4] rfl ?_
          exact J42 w hk
        · have hk := ob_neg h23 hk
          refine y_iload_n hC dX11_best_26 2 rfl 27 rfl ?_
          refine y_iload_n hC dX11_best_27 3 rfl 28 rfl ?_
          refine y_icmp_lt hC dX11_best_28 42 (by decide) 31 rfl (fun h28 => ?_) (fun h28 => ?_)
          · have hk := ob_pos h28 hk
            refine y_sub [0, 1, 2, 3, 4] rfl ?_
            exact J42 w hk
          · have hk := ob_neg h28 hk
            refine y_iload hC dX11_best_31 4 rfl 33 rfl ?_
            refine y_i2l hC dX11_best_33 34 rfl ?_
            refine y_lconst hC dX11_best_34 (v := (0 : Int64)) (by decide) 35 rfl ?_
            refine y_lconst hC dX11_best_35 (v := (1 : Int64)) (by decide) 36 rfl ?_
            obtain ⟨x36, hx36, hk⟩ := ob_bind hk
            refine y_callS hC (c_X11_in hJ l (gL σ w) a4.toInt64 (0 : Int64) (1 : Int64) x36 hx36) rfl ⟨w4_181, w1_13, cwd_X11_in, by decide, by decide⟩ w4_179 w4_180 rfl rfl (Nat.le_of_ble_eq_true rfl) (by decide) dX11_best_36 39 rfl (gL σ w) rfl [.int x36] rfl ?_
            refine y_if_ne hC dX11_best_39 47 (by decide) 42 rfl (fun h39 => ?_) (fun h39 => ?_)
            · have hk := ob_neg h39 hk
              refine y_aload_n hC dX11_best_47 0 rfl 48 rfl ?_
              obtain ⟨x48, hx48, hk⟩ := ob_bind hk
              refine y_callV hC 66 (hB 66 (by decide) (by decide)) (cl_L (u := w) rfl) rfl (c_X11_lays hJ hB l σ w x48 hx48) rfl ⟨w5_133, w1_13, cwd_X11_lays, by decide, by decide⟩ w5_130 w5_132 ws5_11 rfl rfl (Nat.le_of_ble_eq_true rfl) (by decide) dX11_best_48 51 rfl (gL σ x48) rfl [] rfl ?_
              refine y_iconst hC dX11_best_51 (v := (-1 : Int32)) (by decide) 52 rfl ?_
              refine y_istore hC dX11_best_52 (by decide) [(5, .int (-1 : Int32)), (0, .ref (ad Γ 66)), (1, .int a1), (2, .int a2), (3, .int a3), (4, .int a4)] rfl 54 rfl ?_
              refine y_iconst hC dX11_best_54 (v := (0 : Int32)) (by decide) 55 rfl ?_
              refine y_istore hC dX11_best_55 (by decide) [(6, .int (0 : Int32)), (5, .int (-1 : Int32)), (0, .ref (ad Γ 66)), (1, .int a1), (2, .int a2), (3, .int a3), (4, .int a4)] rfl 57 rfl ?_
              refine y_iconst hC dX11_best_57 (v := (0 : Int32)) (by decide) 58 rfl ?_
              refine y_istore hC dX11_best_58 (by decide) [(7, .int (0 : Int32)), (6, .int (0 : Int32)), (5, .int (-1 : Int32)), (0, .ref (ad Γ 66)), (1, .int a1), (2, .int a2), (3, .int a3), (4, .int a4)] rfl 60 rfl ?_
              refine y_sub [3, 4, 5, 6, 7, 2, 1, 0] rfl ?_
              exact L60 1000 ((-1 : Int32), (0 : Int32), (0 : Int32), x48) hk
            · have hk := ob_pos h39 hk
              refine y_sub [0, 1, 2, 3, 4] rfl ?_
              exact J42 w hk
def f_X11_brings_j102 (a1 : Int32) (v2 : Int32) (v3 : Int32) (gw : LSt) : Option (Int32 × LSt) :=
  if inb (0 : Int32) 608 then 
    (lt (sL_w gw (upd (pL_w gw) (0 : Int32).toNatClampNeg v2)) fun g108 => 
    (some (v3, g108)))
  else none
def f_X11_brings_j94 (a1 : Int32) (K33 : (Int32 × Int32 × Int32 × Int32 × LSt) → Option (Int32 × LSt)) (v2 : Int32) (v3 : Int32) (v5 : Int32) (t0 : Int32) (gw : LSt) : Option (Int32 × LSt) :=
  K33 (v2, v3, t0, (v5 + (1 : Int32)), gw)
def f_X11_brings_j79 (a1 : Int32) (K33 : (Int32 × Int32 × Int32 × Int32 × LSt) → Option (Int32 × LSt)) (v2 : Int32) (v4 : Int32) (v5 : Int32) (v6 : Int32) (t0 : Int32) (gw : LSt) : Option (Int32 × LSt) :=
  if v6 ≤ v4 then
    f_X11_brings_j94 a1 K33 v2 t0 v5 v4 gw
  else
    f_X11_brings_j94 a1 K33 v2 t0 v5 v6 gw
def f_X11_brings_s33 (a1 : Int32) (K33 : (Int32 × Int32 × Int32 × Int32 × LSt) → Option (Int32 × LSt)) (q33 : Int32 × Int32 × Int32 × Int32 × LSt) : Option (Int32 × LSt) :=
  if (60 : Int32) < q33.2.2.2.1 then
    f_X11_brings_j102 a1 q33.1 q33.2.1 q33.2.2.2.2
  else
    if inb (0 : Int32) 608 then 
      (lt (sL_w q33.2.2.2.2 (upd (pL_w q33.2.2.2.2) (0 : Int32).toNatClampNeg q33.2.2.2.1)) fun g47 => 
      ((f_X11_tries g47 (255 : Int32)).bind fun x52 => 
      (lt ((pL_takings x52) - (a1 * q33.2.2.2.1)) fun n64 => 
      (if n64 ≤ q33.2.2.1 then
        f_X11_brings_j79 a1 K33 q33.1 q33.2.2.1 q33.2.2.2.1 n64 q33.2.1 x52
      else
        f_X11_brings_j79 a1 K33 q33.1 q33.2.2.1 q33.2.2.2.1 n64 q33.2.2.2.1 x52))))
    else none
def f_X11_brings (w : LSt) (a1 : Int32) : Option (Int32 × LSt) :=
  (f_X11_isPrice a1).bind fun x1 => 
    (if x1 = 0 then
      (f_X11_bad w).bind fun x8 => 
        (some (x8.1, x8.2))
    else
      if inb (0 : Int32) 608 then 
        (lt (pL_w w (0 : Int32).toNatClampNeg) fun n18 => 
        (lt (sL_shouted w (-1 : Int32)) fun g27 => 
        (lp (f_X11_brings_s33 a1) 1000 (n18, (0 : Int32), (-100000000 : Int32), (0 : Int32), g27))))
      else none)
theorem cwd_X11_brings : yX11_brings.cls ≠ "java/lang/invoke/MethodHandle" ∧ yX11_brings.cls ≠ "java/lang/invoke/VarHandle" ∧ (parseMethodDescriptor yX11_brings.desc).map (fun d => d.parameters.length) = some 1 := by decide +kernel
set_option maxHeartbeats 4000000 in
set_option maxRecDepth 100000 in
theorem c_X11_brings {Γ : GC} (hJ : GJ Γ) (hB : ∀ i, 66 ≤ i → i < 77 → act Γ i) (l : Launch) (σ : GSt) (w : LSt) (a1 : Int32) (x : Int32 × LSt) (hk : f_X11_brings w a1 = some x) : Mt Γ l yX11_brings cX11_brings 7 (some .int) 5 117 [.ref (ad Γ 66), .int a1] (gL σ w) (some (.int x.1)) (gL σ x.2) := by
  refine y_enter (by decide) hJ (Nat.le_of_ble_eq_true rfl) [(0, .ref (ad Γ 66)), (1, .int a1)] rfl ?_
  intro p e s' m args below meth c' hC hr hlk
  have J102 : ∀ (v2 : Int32) (v3 : Int32) (gw : LSt), f_X11_brings_j102 a1 v2 v3 gw = some x → Y Γ (GA Γ) p l e ({ frames := 5, cells := 0, slots := 0, locals := 117 } : Room) s' m args below meth c' 0 0 (MQ below (Qg Γ (some (.int x.1)) (gL σ x.2)) args s' 0 0 (GA Γ)) 7 (gL σ gw) 102 [(0, .ref (ad Γ 66)), (1, .int a1), (2, .int v2), (3, .int v3)] [] := by
    intro v2 v3 gw hk
    refine y_aload_n hC dX11_brings_102 0 rfl 103 rfl ?_
    refine y_get hC 66 (hB 66 (by decide) (by decide)) (cl_L (u := gw) rfl) rfl inU11 0 (by decide) w4_98 rfl dX11_brings_103 106 rfl ?_
    refine y_iconst hC dX11_brings_106 (v := (0 : Int32)) (by decide) 107 rfl ?_
    refine y_iload_n hC dX11_brings_107 2 rfl 108 rfl ?_
    obtain ⟨h108, hk⟩ := ob_if hk
    obtain ⟨g108, eg108, hk⟩ := ob_lt hk
    refine y_iast hC 67 (hB 67 (by decide) (by decide)) (cl_L_w (u := gw) rfl) h108 (gL σ g108) (by subst eg108; exact (cu_L_w (u := gw) (v := (upd (pL_w gw) (0 : Int32).toNatClampNeg v2)) rfl rfl)) dX11_brings_108 109 rfl ?_
    refine y_iload_n hC dX11_brings_109 3 rfl 110 rfl ?_
    have e := Option.some.inj hk
    exact y_iret hC hr hlk (by rw [← e]) (by first | rfl | rw [← e]) dX11_brings_110
  have L33 : ∀ (n33 : Nat) (q33 : Int32 × Int32 × Int32 × Int32 × LSt), lp (f_X11_brings_s33 a1) n33 q33 = some x → Y Γ (GA Γ) p l e ({ frames := 5, cells := 0, slots := 0, locals := 117 } : Room) s' m args below meth c' 0 0 (MQ below (Qg Γ (some (.int x.1)) (gL σ x.2)) args s' 0 0 (GA Γ)) 7 (gL σ q33.2.2.2.2) 33 [(0, .ref (ad Γ 66)), (1, .int a1), (2, .int q33.1), (3, .int q33.2.1), (4, .int q33.2.2.1), (5, .int q33.2.2.2.1)] [] := by
    intro n33
    induction n33 with
    | zero => intro q33 hk; exact (lp_zero hk).elim
    | succ n33 ih33 =>
      intro q33 hk
      have hk : f_X11_brings_s33 a1 (lp (f_X11_brings_s33 a1) n33) q33 = some x := (lp_succ _ _ _).symm.trans hk
      have J94 : ∀ (v2 : Int32) (v3 : Int32) (v5 : Int32) (t0 : Int32) (gw : LSt), f_X11_brings_j94 a1 (lp (f_X11_brings_s33 a1) n33) v2 v3 v5 t0 gw = some x → Y Γ (GA Γ) p l e ({ frames := 5, cells := 0, slots := 0, locals := 117 } : Room) s' m args below meth c' 0 0 (MQ below (Qg Γ (some (.int x.1)) (gL σ x.2)) args s' 0 0 (GA Γ)) 7 (gL σ gw) 94 [(0, .ref (ad Γ 66)), (1, .int a1), (2, .int v2), (3, .int v3), (5, .int v5)] [.int t0] := by
        intro v2 v3 v5 t0 gw hk
        refine y_istore hC dX11_brings_94 (by decide) [(4, .int t0), (0, .ref (ad Γ 66)), (1, .int a1), (2, .int v2), (3, .int v3), (5, .int v5)] rfl 96 rfl ?_
        refine y_iinc hC dX11_brings_96 5 rfl (v := (v5 + (1 : Int32))) rfl (by decide) [(5, .int (v5 + (1 : Int32))), (4, .int t0), (0, .ref (ad Γ 66)), (1, .int a1), (2, .int v2), (3, .int v3)] rfl 99 rfl ?_
        refine y_goto hC dX11_brings_99 33 (by decide) ?_
        refine y_sub [2, 3, 4, 5, 1, 0] rfl ?_
        exact ih33 (v2, v3, t0, (v5 + (1 : Int32)), gw) hk
      have J79 : ∀ (v2 : Int32) (v4 : Int32) (v5 : Int32) (v6 : Int32) (t0 : Int32) (gw : LSt), f_X11_brings_j79 a1 (lp (f_X11_brings_s33 a1) n33) v2 v4 v5 v6 t0 gw = some x → Y Γ (GA Γ) p l e ({ frames := 5, cells := 0, slots := 0, locals := 117 } : Room) s' m args below meth c' 0 0 (MQ below (Qg Γ (some (.int x.1)) (gL σ x.2)) args s' 0 0 (GA Γ)) 7 (gL σ gw) 79 [(0, .ref (ad Γ 66)), (1, .int a1), (2, .int v2), (4, .int v4), (5, .int v5), (6, .int v6)] [.int t0] := by
        intro v2 v4 v5 v6 t0 gw hk
        refine y_istore_n hC dX11_brings_79 (by decide) [(3, .int t0), (0, .ref (ad Γ 66)), (1, .int a1), (2, .int v2), (4, .int v4), (5, .int v5), (6, .int v6)] rfl 80 rfl ?_
        refine y_iload hC dX11_brings_80 6 rfl 82 rfl ?_
        refine y_iload hC dX11_brings_82 4 rfl 84 rfl ?_
        refine y_icmp_le hC dX11_brings_84 92 (by decide) 87 rfl (fun h84 => ?_) (fun h84 => ?_)
        · have hk := ob_pos h84 hk
          refine y_iload hC dX11_brings_92 4 rfl 94 rfl ?_
          refine y_sub [1, 2, 3, 0, 5] rfl ?_
          exact J94 v2 t0 v5 v4 gw hk
        · have hk := ob_neg h84 hk
          refine y_iload hC dX11_brings_87 6 rfl 89 rfl ?_
          refine y_goto hC dX11_brings_89 94 (by decide) ?_
          refine y_sub [1, 2, 3, 0, 5] rfl ?_
          exact J94 v2 t0 v5 v6 gw hk
      refine y_iload hC dX11_brings_33 5 rfl 35 rfl ?_
      refine y_bipush hC dX11_brings_35 (v := (60 : Int32)) (by decide) 37 rfl ?_
      refine y_icmp_gt hC dX11_brings_37 102 (by decide) 40 rfl (fun h37 => ?_) (fun h37 => ?_)
      · have hk := ob_pos h37 hk
        refine y_sub [0, 1, 2, 3] rfl ?_
        exact J102 q33.1 q33.2.1 q33.2.2.2.2 hk
      · have hk := ob_neg h37 hk
        refine y_aload_n hC dX11_brings_40 0 rfl 41 rfl ?_
        refine y_get hC 66 (hB 66 (by decide) (by decide)) (cl_L (u := q33.2.2.2.2) rfl) rfl inU11 0 (by decide) w4_98 rfl dX11_brings_41 44 rfl ?_
        refine y_iconst hC dX11_brings_44 (v := (0 : Int32)) (by decide) 45 rfl ?_
        refine y_iload hC dX11_brings_45 5 rfl 47 rfl ?_
        obtain ⟨h47, hk⟩ := ob_if hk
        obtain ⟨g47, eg47, hk⟩ := ob_lt hk
        refine y_iast hC 67 (hB 67 (by decide) (by decide)) (cl_L_w (u := q33.2.2.2.2) rfl) h47 (gL σ g47) (by subst eg47; exact (cu_L_w (u := q33.2.2.2.2) (v := (upd (pL_w q33.2.2.2.2) (0 : Int32).toNatClampNeg q33.2.2.2.1)) rfl rfl)) dX11_brings_47 48 rfl ?_
        refine y_aload_n hC dX11_brings_48 0 rfl 49 rfl ?_
        refine y_sipush hC dX11_brings_49 (v := (255 : Int32)) (by decide) 52 rfl ?_
        obtain ⟨x52, hx52, hk⟩ := ob_bind hk
        refine y_callV hC 66 (hB 66 (by decide) (by decide)) (cl_L (u := g47) rfl) rfl (c_X11_tries hJ hB l σ g47 (255 : Int32) x52 hx52) rfl ⟨w5_61, w1_13, cwd_X11_tries, by decide, by decide⟩ w5_58 w5_60 ws5_0 rfl rfl (Nat.le_of_ble_eq_true rfl) (by decide) dX11_brings_52 55 rfl (gL σ x52) rfl [] rfl ?_
        refine y_aload_n hC dX11_brings_55 0 rfl 56 rfl ?_
        refine y_get hC 66 (hB 66 (by decide) (by decide)) (cl_L (u := x52) rfl) rfl inU11 17 (by decide) w4_115 rfl dX11_brings_56 59 rfl ?_
        refine y_iload_n hC dX11_brings_59 1 rfl 60 rfl ?_
        refine y_iload hC dX11_brings_60 5 rfl 62 rfl ?_
        refine y_imul hC dX11_brings_62 63 rfl ?_
        refine y_isub hC dX11_brings_63 64 rfl ?_
        obtain ⟨n64, en64, hk⟩ := ob_lt hk
        refine y_topi en64 ?_
        refine y_istore hC dX11_brings_64 (by decide) [(6, .int n64), (0, .ref (ad Γ 66)), (1, .int a1), (2, .int q33.1), (3, .int q33.2.1), (4, .int q33.2.2.1), (5, .int q33.2.2.2.1)] rfl 66 rfl ?_
        refine y_iload hC dX11_brings_66 0 rfl 68 rfl ?_
        refine y_iload hC dX11_brings_68 5 rfl 70 rfl ?_
        refine y_icmp_le hC dX11_brings_70 78 (by decide) 73 rfl (fun h70 => ?_) (fun h70 => ?_)
        · have hk := ob_pos h70 hk
          refine y_iload_n hC dX11_brings_78 4 rfl 79 rfl ?_
          refine y_sub [1, 2, 3, 5, 6, 0] rfl ?_
          exact J79 q33.1 q33.2.2.1 q33.2.2.2.1 n64 q33.2.1 x52 hk
        · have hk := ob_neg h70 hk
          refine y_iload hC dX11_brings_73 6 rfl 75 rfl ?_
          refine y_goto hC dX11_brings_75 79 (by decide) ?_
          refine y_sub [1, 2, 3, 5, 6, 0] rfl ?_
          exact J79 q33.1 q33.2.2.1 q33.2.2.2.1 n64 q33.2.2.2.1 x52 hk
  refine y_iload_n hC dX11_brings_0 1 rfl 1 rfl ?_
  obtain ⟨x1, hx1, hk⟩ := ob_bind hk
  refine y_callS hC (c_X11_isPrice hJ l (gL σ w) a1 x1 hx1) rfl ⟨w4_177, w1_13, cwd_X11_isPrice, by decide, by decide⟩ w4_175 w4_176 rfl rfl (Nat.le_of_ble_eq_true rfl) (by decide) dX11_brings_1 4 rfl (gL σ w) rfl [.int x1] rfl ?_
  refine y_if_ne hC dX11_brings_4 12 (by decide) 7 rfl (fun h4 => ?_) (fun h4 => ?_)
  · have hk := ob_neg h4 hk
    refine y_aload_n hC dX11_brings_12 0 rfl 13 rfl ?_
    refine y_get hC 66 (hB 66 (by decide) (by decide)) (cl_L (u := w) rfl) rfl inU11 0 (by decide) w4_98 rfl dX11_brings_13 16 rfl ?_
    refine y_iconst hC dX11_brings_16 (v := (0 : Int32)) (by decide) 17 rfl ?_
    obtain ⟨h17, hk⟩ := ob_if hk
    refine y_iald hC 67 (hB 67 (by decide) (by decide)) (cl_L_w (u := w) rfl) h17 dX11_brings_17 18 rfl ?_
    obtain ⟨n18, en18, hk⟩ := ob_lt hk
    refine y_topi en18 ?_
    refine y_istore_n hC dX11_brings_18 (by decide) [(2, .int n18), (0, .ref (ad Γ 66)), (1, .int a1)] rfl 19 rfl ?_
    refine y_iconst hC dX11_brings_19 (v := (0 : Int32)) (by decide) 20 rfl ?_
    refine y_istore_n hC dX11_brings_20 (by decide) [(3, .int (0 : Int32)), (2, .int n18), (0, .ref (ad Γ 66)), (1, .int a1)] rfl 21 rfl ?_
    refine y_ldc hC (v := (-100000000 : Int32)) w5_142 dX11_brings_21 23 rfl ?_
    refine y_istore hC dX11_brings_23 (by decide) [(4, .int (-100000000 : Int32)), (3, .int (0 : Int32)), (2, .int n18), (0, .ref (ad Γ 66)), (1, .int a1)] rfl 25 rfl ?_
    refine y_aload_n hC dX11_brings_25 3 rfl 26 rfl ?_
    refine y_iconst hC dX11_brings_26 (v := (-1 : Int32)) (by decide) 27 rfl ?_
    obtain ⟨g27, eg27, hk⟩ := ob_lt hk
    refine y_put hC 66 (hB 66 (by decide) (by decide)) (cl_L (u := w) rfl) rfl inU11 tyX11_ok nmX11 13 (by decide) w4_111 rfl rfl rfl rfl (Nat.le_of_ble_eq_true rfl) (gL σ g27) (by subst eg27; exact (cu_L_shouted (u := w) (v := (-1 : Int32)) rfl rfl)) dX11_brings_27 30 rfl ?_
    refine y_iconst hC dX11_brings_30 (v := (0 : Int32)) (by decide) 31 rfl ?_
    refine y_istore hC dX11_brings_31 (by decide) [(5, .int (0 : Int32)), (4, .int (-100000000 : Int32)), (3, .int (0 : Int32)), (2, .int n18), (0, .ref (ad Γ 66)), (1, .int a1)] rfl 33 rfl ?_
    refine y_sub [4, 5, 3, 2, 1, 0] rfl ?_
    exact L33 1000 (n18, (0 : Int32), (-100000000 : Int32), (0 : Int32), g27) hk
  · have hk := ob_pos h4 hk
    refine y_aload_n hC dX11_brings_7 0 rfl 8 rfl ?_
    obtain ⟨x8, hx8, hk⟩ := ob_bind hk
    refine y_callV hC 66 (hB 66 (by decide) (by decide)) (cl_L (u := w) rfl) rfl (c_X11_bad hJ hB l σ w x8 hx8) rfl ⟨w4_186, w1_13, cwd_X11_bad, by decide, by decide⟩ w4_183 w4_185 ws3_15 rfl rfl (Nat.le_of_ble_eq_true rfl) (by decide) dX11_brings_8 11 rfl (gL σ x8.2) rfl [.int x8.1] rfl ?_
    have e := Option.some.inj hk
    exact y_iret hC hr hlk (by rw [← e]) (by first | rfl | rw [← e]) dX11_brings_11
def f_X11_come_j172 (a1 : Int32) (v2 : Int32) (v3 : Int32) (v4 : Int32) (gw : LSt) : Option (Int32 × LSt) :=
  if inb ((28 : Int32) + a1) 608 then 
    (lt (sL_w gw (upd (pL_w gw) ((28 : Int32) + a1).toNatClampNeg v2)) fun g181 => 
    (if inb ((36 : Int32) + a1) 608 then 
    (lt (sL_w g181 (upd (pL_w g181) ((36 : Int32) + a1).toNatClampNeg v3)) fun g191 => 
    (some (v4, g191)))
  else none))
  else none
def f_X11_come_j164 (a1 : Int32) (K57 : (Int32 × Int32 × Int32 × Int32 × Int32 × LSt) → Option (Int32 × LSt)) (v2 : Int32) (v3 : Int32) (v4 : Int32) (v6 : Int32) (t0 : Int32) (gw : LSt) : Option (Int32 × LSt) :=
  K57 (v2, v3, v4, t0, (v6 + (1 : Int32)), gw)
def f_X11_come_j146 (a1 : Int32) (K57 : (Int32 × Int32 × Int32 × Int32 × Int32 × LSt) → Option (Int32 × LSt)) (v2 : Int32) (v3 : Int32) (v5 : Int32) (v6 : Int32) (v7 : Int32) (t0 : Int32) (gw : LSt) : Option (Int32 × LSt) :=
  if v7 = 0 then
    f_X11_come_j164 a1 K57 v2 v3 t0 v6 v5 gw
  else
    if inb a1 8 then 
      (f_X11_come_j164 a1 K57 v2 v3 t0 v6 (pL_gets gw a1.toNatClampNeg) gw)
    else none
def f_X11_come_j132 (a1 : Int32) (K57 : (Int32 × Int32 × Int32 × Int32 × Int32 × LSt) → Option (Int32 × LSt)) (v2 : Int32) (v3 : Int32) (v4 : Int32) (v5 : Int32) (v6 : Int32) (t0 : Int32) (gw : LSt) : Option (Int32 × LSt) :=
  if t0 = 0 then
    f_X11_come_j146 a1 K57 v2 v3 v5 v6 t0 v4 gw
  else
    f_X11_come_j146 a1 K57 v2 v3 v5 v6 t0 v6 gw
def f_X11_come_j131 (a1 : Int32) (K57 : (Int32 × Int32 × Int32 × Int32 × Int32 × LSt) → Option (Int32 × LSt)) (v2 : Int32) (v3 : Int32) (v4 : Int32) (v5 : Int32) (v6 : Int32) (gw : LSt) : Option (Int32 × LSt) :=
  f_X11_come_j132 a1 K57 v2 v3 v4 v5 v6 (0 : Int32) gw
def f_X11_come_j127 (a1 : Int32) (K57 : (Int32 × Int32 × Int32 × Int32 × Int32 × LSt) → Option (Int32 × LSt)) (v2 : Int32) (v3 : Int32) (v4 : Int32) (v5 : Int32) (v6 : Int32) (gw : LSt) : Option (Int32 × LSt) :=
  f_X11_come_j132 a1 K57 v2 v3 v4 v5 v6 (1 : Int32) gw
def f_X11_come_s57 (a1 : Int32) (K57 : (Int32 × Int32 × Int32 × Int32 × Int32 × LSt) → Option (Int32 × LSt)) (q57 : Int32 × Int32 × Int32 × Int32 × Int32 × LSt) : Option (Int32 × LSt) :=
  if (10 : Int32) ≤ q57.2.2.2.2.1 then
    f_X11_come_j172 a1 q57.1 q57.2.1 q57.2.2.1 q57.2.2.2.2.2
  else
    if inb ((36 : Int32) + a1) 608 then 
      (lt (sL_w q57.2.2.2.2.2 (upd (pL_w q57.2.2.2.2.2) ((36 : Int32) + a1).toNatClampNeg q57.2.2.2.2.1)) fun g74 => 
      ((f_X11_tries g74 (255 : Int32)).bind fun x79 => 
      (if inb a1 8 then 
      (if q57.2.2.2.1 < (pL_gets x79 a1.toNatClampNeg) then
        f_X11_come_j127 a1 K57 q57.1 q57.2.1 q57.2.2.1 q57.2.2.2.1 q57.2.2.2.2.1 x79
      else
        if inb a1 8 then 
          (if (pL_gets x79 a1.toNatClampNeg) = q57.2.2.2.1 then
            if inb ((8 : Int32) + q57.2.2.2.2.1) 608 then 
              (if inb ((8 : Int32) + q57.2.2.1) 608 then 
              (if (pL_w x79 ((8 : Int32) + q57.2.2.1).toNatClampNeg) ≤ (pL_w x79 ((8 : Int32) + q57.2.2.2.2.1).toNatClampNeg) then
                f_X11_come_j131 a1 K57 q57.1 q57.2.1 q57.2.2.1 q57.2.2.2.1 q57.2.2.2.2.1 x79
              else
                f_X11_come_j127 a1 K57 q57.1 q57.2.1 q57.2.2.1 q57.2.2.2.1 q57.2.2.2.2.1 x79)
            else none)
            else none
          else
            f_X11_come_j131 a1 K57 q57.1 q57.2.1 q57.2.2.1 q57.2.2.2.1 q57.2.2.2.2.1 x79)
        else none)
    else none)))
    else none
def f_X11_come (w : LSt) (a1 : Int32) : Option (Int32 × LSt) :=
  (f_X11_isBuyer w a1).bind fun x2 => 
    (if x2 = 0 then
      (f_X11_bad w).bind fun x9 => 
        (some (x9.1, x9.2))
    else
      if inb ((28 : Int32) + a1) 608 then 
        (lt (pL_w w ((28 : Int32) + a1).toNatClampNeg) fun n22 => 
        (if inb ((36 : Int32) + a1) 608 then 
        (lt (pL_w w ((36 : Int32) + a1).toNatClampNeg) fun n32 => 
        (lt (sL_shouted w (-1 : Int32)) fun g41 => 
        (if inb ((28 : Int32) + a1) 608 then 
        (lt (sL_w g41 (upd (pL_w g41) ((28 : Int32) + a1).toNatClampNeg (0 : Int32))) fun g53 => 
        (lp (f_X11_come_s57 a1) 1000 (n22, n32, (0 : Int32), (-1 : Int32), (0 : Int32), g53)))
      else none)))
      else none))
      else none)
theorem cwd_X11_come : yX11_come.cls ≠ "java/lang/invoke/MethodHandle" ∧ yX11_come.cls ≠ "java/lang/invoke/VarHandle" ∧ (parseMethodDescriptor yX11_come.desc).map (fun d => d.parameters.length) = some 1 := by decide +kernel
set_option maxHeartbeats 4000000 in
set_option maxRecDepth 100000 in
theorem c_X11_come {Γ : GC} (hJ : GJ Γ) (hB : ∀ i, 66 ≤ i → i < 77 → act Γ i) (l : Launch) (σ : GSt) (w : LSt) (a1 : Int32) (x : Int32 × LSt) (hk : f_X11_come w a1 = some x) : Mt Γ l yX11_come cX11_come 8 (some .int) 5 117 [.ref (ad Γ 66), .int a1] (gL σ w) (some (.int x.1)) (gL σ x.2) := by
  refine y_enter (by decide) hJ (Nat.le_of_ble_eq_true rfl) [(0, .ref (ad Γ 66)), (1, .int a1)] rfl ?_
  intro p e s' m args below meth c' hC hr hlk
  have J172 : ∀ (v2 : Int32) (v3 : Int32) (v4 : Int32) (gw : LSt), f_X11_come_j172 a1 v2 v3 v4 gw = some x → Y Γ (GA Γ) p l e ({ frames := 5, cells := 0, slots := 0, locals := 117 } : Room) s' m args below meth c' 0 0 (MQ below (Qg Γ (some (.int x.1)) (gL σ x.2)) args s' 0 0 (GA Γ)) 8 (gL σ gw) 172 [(0, .ref (ad Γ 66)), (1, .int a1), (2, .int v2), (3, .int v3), (4, .int v4)] [] := by
    intro v2 v3 v4 gw hk
    refine y_aload_n hC dX11_come_172 0 rfl 173 rfl ?_
    refine y_get hC 66 (hB 66 (by decide) (by decide)) (cl_L (u := gw) rfl) rfl inU11 0 (by decide) w4_98 rfl dX11_come_173 176 rfl ?_
    refine y_bipush hC dX11_come_176 (v := (28 : Int32)) (by decide) 178 rfl ?_
    refine y_iload_n hC dX11_come_178 1 rfl 179 rfl ?_
    refine y_iadd hC dX11_come_179 180 rfl ?_
    refine y_iload_n hC dX11_come_180 2 rfl 181 rfl ?_
    obtain ⟨h181, hk⟩ := ob_if hk
    obtain ⟨g181, eg181, hk⟩ := ob_lt hk
    refine y_iast hC 67 (hB 67 (by decide) (by decide)) (cl_L_w (u := gw) rfl) h181 (gL σ g181) (by subst eg181; exact (cu_L_w (u := gw) (v := (upd (pL_w gw) ((28 : Int32) + a1).toNatClampNeg v2)) rfl rfl)) dX11_come_181 182 rfl ?_
    refine y_aload_n hC dX11_come_182 0 rfl 183 rfl ?_
    refine y_get hC 66 (hB 66 (by decide) (by decide)) (cl_L (u := g181) rfl) rfl inU11 0 (by decide) w4_98 rfl dX11_come_183 186 rfl ?_
    refine y_bipush hC dX11_come_186 (v := (36 : Int32)) (by decide) 188 rfl ?_
    refine y_iload_n hC dX11_come_188 1 rfl 189 rfl ?_
    refine y_iadd hC dX11_come_189 190 rfl ?_
    refine y_iload_n hC dX11_come_190 3 rfl 191 rfl ?_
    obtain ⟨h191, hk⟩ := ob_if hk
    obtain ⟨g191, eg191, hk⟩ := ob_lt hk
    refine y_iast hC 67 (hB 67 (by decide) (by decide)) (cl_L_w (u := g181) rfl) h191 (gL σ g191) (by subst eg191; exact (cu_L_w (u := g181) (v := (upd (pL_w g181) ((36 : Int32) + a1).toNatClampNeg v3)) rfl rfl)) dX11_come_191 192 rfl ?_
    refine y_iload hC dX11_come_192 4 rfl 194 rfl ?_
    have e := Option.some.inj hk
    exact y_iret hC hr hlk (by rw [← e]) (by first | rfl | rw [← e]) dX11_come_194
  have L57 : ∀ (n57 : Nat) (q57 : Int32 × Int32 × Int32 × Int32 × Int32 × LSt), lp (f_X11_come_s57 a1) n57 q57 = some x → Y Γ (GA Γ) p l e ({ frames := 5, cells := 0, slots := 0, locals := 117 } : Room) s' m args below meth c' 0 0 (MQ below (Qg Γ (some (.int x.1)) (gL σ x.2)) args s' 0 0 (GA Γ)) 8 (gL σ q57.2.2.2.2.2) 57 [(0, .ref (ad Γ 66)), (1, .int a1), (2, .int q57.1), (3, .int q57.2.1), (4, .int q57.2.2.1), (5, .int q57.2.2.2.1), (6, .int q57.2.2.2.2.1)] [] := by
    intro n57
    induction n57 with
    | zero => intro q57 hk; exact (lp_zero hk).elim
    | succ n57 ih57 =>
      intro q57 hk
      have hk : f_X11_come_s57 a1 (lp (f_X11_come_s57 a1) n57) q57 = some x := (lp_succ _ _ _).symm.trans hk
      have J164 : ∀ (v2 : Int32) (v3 : Int32) (v4 : Int32) (v6 : Int32) (t0 : Int32) (gw : LSt), f_X11_come_j164 a1 (lp (f_X11_come_s57 a1) n57) v2 v3 v4 v6 t0 gw = some x → Y Γ (GA Γ) p l e ({ frames := 5, cells := 0, slots := 0, locals := 117 } : Room) s' m args below meth c' 0 0 (MQ below (Qg Γ (some (.int x.1)) (gL σ x.2)) args s' 0 0 (GA Γ)) 8 (gL σ gw) 164 [(0, .ref (ad Γ 66)), (1, .int a1), (2, .int v2), (3, .int v3), (4, .int v4), (6, .int v6)] [.int t0] := by
        intro v2 v3 v4 v6 t0 gw hk
        refine y_istore hC dX11_come_164 (by decide) [(5, .int t0), (0, .ref (ad Γ 66)), (1, .int a1), (2, .int v2), (3, .int v3), (4, .int v4), (6, .int v6)] rfl 166 rfl ?_
        refine y_iinc hC dX11_come_166 6 rfl (v := (v6 + (1 : Int32))) rfl (by decide) [(6, .int (v6 + (1 : Int32))), (5, .int t0), (0, .ref (ad Γ 66)), (1, .int a1), (2, .int v2), (3, .int v3), (4, .int v4)] rfl 169 rfl ?_
        refine y_goto hC dX11_come_169 57 (by decide) ?_
        refine y_sub [2, 3, 4, 5, 6, 1, 0] rfl ?_
        exact ih57 (v2, v3, v4, t0, (v6 + (1 : Int32)), gw) hk
      have J146 : ∀ (v2 : Int32) (v3 : Int32) (v5 : Int32) (v6 : Int32) (v7 : Int32) (t0 : Int32) (gw : LSt), f_X11_come_j146 a1 (lp (f_X11_come_s57 a1) n57) v2 v3 v5 v6 v7 t0 gw = some x → Y Γ (GA Γ) p l e ({ frames := 5, cells := 0, slots := 0, locals := 117 } : Room) s' m args below meth c' 0 0 (MQ below (Qg Γ (some (.int x.1)) (gL σ x.2)) args s' 0 0 (GA Γ)) 8 (gL σ gw) 146 [(0, .ref (ad Γ 66)), (1, .int a1), (2, .int v2), (3, .int v3), (5, .int v5), (6, .int v6), (7, .int v7)] [.int t0] := by
        intro v2 v3 v5 v6 v7 t0 gw hk
        refine y_istore hC dX11_come_146 (by decide) [(4, .int t0), (0, .ref (ad Γ 66)), (1, .int a1), (2, .int v2), (3, .int v3), (5, .int v5), (6, .int v6), (7, .int v7)] rfl 148 rfl ?_
        refine y_iload hC dX11_come_148 7 rfl 150 rfl ?_
        refine y_if_eq hC dX11_come_150 162 (by decide) 153 rfl (fun h150 => ?_) (fun h150 => ?_)
        · have hk := ob_pos h150 hk
          refine y_iload hC dX11_come_162 5 rfl 164 rfl ?_
          refine y_sub [1, 2, 3, 4, 0, 6] rfl ?_
          exact J164 v2 v3 t0 v6 v5 gw hk
        · have hk := ob_neg h150 hk
          refine y_aload_n hC dX11_come_153 1 rfl 154 rfl ?_
          refine y_get hC 66 (hB 66 (by decide) (by decide)) (cl_L (u := gw) rfl) rfl inU11 14 (by decide) w4_112 rfl dX11_come_154 157 rfl ?_
          refine y_iload_n hC dX11_come_157 2 rfl 158 rfl ?_
          obtain ⟨h158, hk⟩ := ob_if hk
          refine y_iald hC 71 (hB 71 (by decide) (by decide)) (cl_L_gets (u := gw) rfl) h158 dX11_come_158 159 rfl ?_
          refine y_goto hC dX11_come_159 164 (by decide) ?_
          refine y_sub [1, 2, 3, 4, 0, 6] rfl ?_
          exact J164 v2 v3 t0 v6 (pL_gets gw a1.toNatClampNeg) gw hk
      have J132 : ∀ (v2 : Int32) (v3 : Int32) (v4 : Int32) (v5 : Int32) (v6 : Int32) (t0 : Int32) (gw : LSt), f_X11_come_j132 a1 (lp (f_X11_come_s57 a1) n57) v2 v3 v4 v5 v6 t0 gw = some x → Y Γ (GA Γ) p l e ({ frames := 5, cells := 0, slots := 0, locals := 117 } : Room) s' m args below meth c' 0 0 (MQ below (Qg Γ (some (.int x.1)) (gL σ x.2)) args s' 0 0 (GA Γ)) 8 (gL σ gw) 132 [(0, .ref (ad Γ 66)), (1, .int a1), (2, .int v2), (3, .int v3), (4, .int v4), (5, .int v5), (6, .int v6)] [.int t0] := by
        intro v2 v3 v4 v5 v6 t0 gw hk
        refine y_istore hC dX11_come_132 (by decide) [(7, .int t0), (0, .ref (ad Γ 66)), (1, .int a1), (2, .int v2), (3, .int v3), (4, .int v4), (5, .int v5), (6, .int v6)] rfl 134 rfl ?_
        refine y_iload hC dX11_come_134 0 rfl 136 rfl ?_
        refine y_if_eq hC dX11_come_136 144 (by decide) 139 rfl (fun h136 => ?_) (fun h136 => ?_)
        · have hk := ob_pos h136 hk
          refine y_iload hC dX11_come_144 5 rfl 146 rfl ?_
          refine y_sub [1, 2, 3, 4, 6, 7, 0] rfl ?_
          exact J146 v2 v3 v5 v6 t0 v4 gw hk
        · have hk := ob_neg h136 hk
          refine y_iload hC dX11_come_139 7 rfl 141 rfl ?_
          refine y_goto hC dX11_come_141 146 (by decide) ?_
          refine y_sub [1, 2, 3, 4, 6, 7, 0] rfl ?_
          exact J146 v2 v3 v5 v6 t0 v6 gw hk
      have J131 : ∀ (v2 : Int32) (v3 : Int32) (v4 : Int32) (v5 : Int32) (v6 : Int32) (gw : LSt), f_X11_come_j131 a1 (lp (f_X11_come_s57 a1) n57) v2 v3 v4 v5 v6 gw = some x → Y Γ (GA Γ) p l e ({ frames := 5, cells := 0, slots := 0, locals := 117 } : Room) s' m args below meth c' 0 0 (MQ below (Qg Γ (some (.int x.1)) (gL σ x.2)) args s' 0 0 (GA Γ)) 8 (gL σ gw) 131 [(0, .ref (ad Γ 66)), (1, .int a1), (2, .int v2), (3, .int v3), (4, .int v4), (5, .int v5), (6, .int v6)] [] := by
        intro v2 v3 v4 v5 v6 gw hk
        refine y_iconst hC dX11_come_131 (v := (0 : Int32)) (by decide) 132 rfl ?_
        refine y_sub [0, 1, 2, 3, 4, 5, 6] rfl ?_
        exact J132 v2 v3 v4 v5 v6 (0 : Int32) gw hk
      have J127 : ∀ (v2 : Int32) (v3 : Int32) (v4 : Int32) (v5 : Int32) (v6 : Int32) (gw : LSt), f_X11_come_j127 a1 (lp (f_X11_come_s57 a1) n57) v2 v3 v4 v5 v6 gw = some x → Y Γ (GA Γ) p l e ({ frames := 5, cells := 0, slots := 0, locals := 117 } : Room) s' m args below meth c' 0 0 (MQ below (Qg Γ (some (.int x.1)) (gL σ x.2)) args s' 0 0 (GA Γ)) 8 (gL σ gw) 127 [(0, .ref (ad Γ 66)), (1, .int a1), (2, .int v2), (3, .int v3), (4, .int v4), (5, .int v5), (6, .int v6)] [] := by
        intro v2 v3 v4 v5 v6 gw hk
        refine y_iconst hC dX11_come_127 (v := (1 : Int32)) (by decide) 128 rfl ?_
        refine y_goto hC dX11_come_128 132 (by decide) ?_
        refine y_sub [0, 1, 2, 3, 4, 5, 6] rfl ?_
        exact J132 v2 v3 v4 v5 v6 (1 : Int32) gw hk
      refine y_iload hC dX11_come_57 6 rfl 59 rfl ?_
      refine y_bipush hC dX11_come_59 (v := (10 : Int32)) (by decide) 61 rfl ?_
      refine y_icmp_ge hC dX11_come_61 172 (by decide) 64 rfl (fun h61 => ?_) (fun h61 => ?_)
      · have hk := ob_pos h61 hk
        refine y_sub [0, 1, 2, 3, 4] rfl ?_
        exact J172 q57.1 q57.2.1 q57.2.2.1 q57.2.2.2.2.2 hk
      · have hk := ob_neg h61 hk
        refine y_aload_n hC dX11_come_64 0 rfl 65 rfl ?_
        refine y_get hC 66 (hB 66 (by decide) (by decide)) (cl_L (u := q57.2.2.2.2.2) rfl) rfl inU11 0 (by decide) w4_98 rfl dX11_come_65 68 rfl ?_
        refine y_bipush hC dX11_come_68 (v := (36 : Int32)) (by decide) 70 rfl ?_
        refine y_iload_n hC dX11_come_70 1 rfl 71 rfl ?_
        refine y_iadd hC dX11_come_71 72 rfl ?_
        refine y_iload hC dX11_come_72 6 rfl 74 rfl ?_
        obtain ⟨h74, hk⟩ := ob_if hk
        obtain ⟨g74, eg74, hk⟩ := ob_lt hk
        refine y_iast hC 67 (hB 67 (by decide) (by decide)) (cl_L_w (u := q57.2.2.2.2.2) rfl) h74 (gL σ g74) (by subst eg74; exact (cu_L_w (u := q57.2.2.2.2.2) (v := (upd (pL_w q57.2.2.2.2.2) ((36 : Int32) + a1).toNatClampNeg q57.2.2.2.2.1)) rfl rfl)) dX11_come_74 75 rfl ?_
        refine y_aload_n hC dX11_come_75 0 rfl 76 rfl ?_
        refine y_sipush hC dX11_come_76 (v := (255 : Int32)) (by decide) 79 rfl ?_
        obtain ⟨x79, hx79, hk⟩ := ob_bind hk
        refine y_callV hC 66 (hB 66 (by decide) (by decide)) (cl_L (u := g74) rfl) rfl (c_X11_tries hJ hB l σ g74 (255 : Int32) x79 hx79) rfl ⟨w5_61, w1_13, cwd_X11_tries, by decide, by decide⟩ w5_58 w5_60 ws5_0 rfl rfl (Nat.le_of_ble_eq_true rfl) (by decide) dX11_come_79 82 rfl (gL σ x79) rfl [] rfl ?_
        refine y_aload_n hC dX11_come_82 0 rfl 83 rfl ?_
        refine y_get hC 66 (hB 66 (by decide) (by decide)) (cl_L (u := x79) rfl) rfl inU11 14 (by decide) w4_112 rfl dX11_come_83 86 rfl ?_
        refine y_iload_n hC dX11_come_86 1 rfl 87 rfl ?_
        obtain ⟨h87, hk⟩ := ob_if hk
        refine y_iald hC 71 (hB 71 (by decide) (by decide)) (cl_L_gets (u := x79) rfl) h87 dX11_come_87 88 rfl ?_
        refine y_iload hC dX11_come_88 5 rfl 90 rfl ?_
        refine y_icmp_gt hC dX11_come_90 127 (by decide) 93 rfl (fun h90 => ?_) (fun h90 => ?_)
        · have hk := ob_pos h90 hk
          refine y_sub [0, 1, 2, 3, 4, 5, 6] rfl ?_
          exact J127 q57.1 q57.2.1 q57.2.2.1 q57.2.2.2.1 q57.2.2.2.2.1 x79 hk
        · have hk := ob_neg h90 hk
          refine y_aload_n hC dX11_come_93 0 rfl 94 rfl ?_
          refine y_get hC 66 (hB 66 (by decide) (by decide)) (cl_L (u := x79) rfl) rfl inU11 14 (by decide) w4_112 rfl dX11_come_94 97 rfl ?_
          refine y_iload_n hC dX11_come_97 1 rfl 98 rfl ?_
          obtain ⟨h98, hk⟩ := ob_if hk
          refine y_iald hC 71 (hB 71 (by decide) (by decide)) (cl_L_gets (u := x79) rfl) h98 dX11_come_98 99 rfl ?_
          refine y_iload hC dX11_come_99 5 rfl 101 rfl ?_
          refine y_icmp_ne hC dX11_come_101 131 (by decide) 104 rfl (fun h101 => ?_) (fun h101 => ?_)
          · have hk := ob_neg h101 hk
            refine y_sub [0, 1, 2, 3, 4, 5, 6] rfl ?_
            exact J131 q57.1 q57.2.1 q57.2.2.1 q57.2.2.2.1 q57.2.2.2.2.1 x79 hk
          · have hk := ob_pos h101 hk
            refine y_aload_n hC dX11_come_104 0 rfl 105 rfl ?_
            refine y_get hC 66 (hB 66 (by decide) (by decide)) (cl_L (u := x79) rfl) rfl inU11 0 (by decide) w4_98 rfl dX11_come_105 108 rfl ?_
            refine y_bipush hC dX11_come_108 (v := (8 : Int32)) (by decide) 110 rfl ?_
            refine y_iload hC dX11_come_110 6 rfl 112 rfl ?_
            refine y_iadd hC dX11_come_112 113 rfl ?_
            obtain ⟨h113, hk⟩ := ob_if hk
            refine y_iald hC 67 (hB 67 (by decide) (by decide)) (cl_L_w (u := x79) rfl) h113 dX11_come_113 114 rfl ?_
            refine y_aload_n hC dX11_come_114 0 rfl 115 rfl ?_
            refine y_get hC 66 (hB 66 (by decide) (by decide)) (cl_L (u := x79) rfl) rfl inU11 0 (by decide) w4_98 rfl dX11_come_115 118 rfl ?_
            refine y_bipush hC dX11_come_118 (v := (8 : Int32)) (by decide) 120 rfl ?_
            refine y_iload hC dX11_come_120 4 rfl 122 rfl ?_
            refine y_iadd hC dX11_come_122 123 rfl ?_
            obtain ⟨h123, hk⟩ := ob_if hk
            refine y_iald hC 67 (hB 67 (by decide) (by decide)) (cl_L_w (u := x79) rfl) h123 dX11_come_123 124 rfl ?_
            refine y_icmp_ge hC dX11_come_124 131 (by decide) 127 rfl (fun h124 => ?_) (fun h124 => ?_)
            · have hk := ob_pos h124 hk
              refine y_sub [0, 1, 2, 3, 4, 5, 6] rfl ?_
              exact J131 q57.1 q57.2.1 q57.2.2.1 q57.2.2.2.1 q57.2.2.2.2.1 x79 hk
            · have hk := ob_neg h124 hk
              refine y_sub [0, 1, 2, 3, 4, 5, 6] rfl ?_
              exact J127 q57.1 q57.2.1 q57.2.2.1 q57.2.2.2.1 q57.2.2.2.2.1 x79 hk
  refine y_aload_n hC dX11_come_0 0 rfl 1 rfl ?_
  refine y_iload_n hC dX11_come_1 1 rfl 2 rfl ?_
  obtain ⟨x2, hx2, hk⟩ := ob_bind hk
  refine y_callV hC 66 (hB 66 (by decide) (by decide)) (cl_L (u := w) rfl) rfl (c_X11_isBuyer hJ hB l σ w a1 x2 hx2) rfl ⟨w5_116, w1_13, cwd_X11_isBuyer, by decide, by decide⟩ w5_113 w5_115 ws5_10 rfl rfl (Nat.le_of_ble_eq_true rfl) (by decide) dX11_come_2 5 rfl (gL σ w) rfl [.int x2] rfl ?_
  refine y_if_ne hC dX11_come_5 13 (by decide) 8 rfl (fun h5 => ?_) (fun h5 => ?_)
  · have hk := ob_neg h5 hk
    refine y_aload_n hC dX11_come_13 0 rfl 14 rfl ?_
    refine y_get hC 66 (hB 66 (by decide) (by decide)) (cl_L (u := w) rfl) rfl inU11 0 (by decide) w4_98 rfl dX11_come_14 17 rfl ?_
    refine y_bipush hC dX11_come_17 (v := (28 : Int32)) (by decide) 19 rfl ?_
    refine y_iload_n hC dX11_come_19 1 rfl 20 rfl ?_
    refine y_iadd hC dX11_come_20 21 rfl ?_
    obtain ⟨h21, hk⟩ := ob_if hk
    refine y_iald hC 67 (hB 67 (by decide) (by decide)) (cl_L_w (u := w) rfl) h21 dX11_come_21 22 rfl ?_
    obtain ⟨n22, en22, hk⟩ := ob_lt hk
    refine y_topi en22 ?_
    refine y_istore_n hC dX11_come_22 (by decide) [(2, .int n22), (0, .ref (ad Γ 66)), (1, .int a1)] rfl 23 rfl ?_
    refine y_aload_n hC dX11_come_23 1 rfl 24 rfl ?_
    refine y_get hC 66 (hB 66 (by decide) (by decide)) (cl_L (u := w) rfl) rfl inU11 0 (by decide) w4_98 rfl dX11_come_24 27 rfl ?_
    refine y_bipush hC dX11_come_27 (v := (36 : Int32)) (by decide) 29 rfl ?_
    refine y_iload_n hC dX11_come_29 2 rfl 30 rfl ?_
    refine y_iadd hC dX11_come_30 31 rfl ?_
    obtain ⟨h31, hk⟩ := ob_if hk
    refine y_iald hC 67 (hB 67 (by decide) (by decide)) (cl_L_w (u := w) rfl) h31 dX11_come_31 32 rfl ?_
    obtain ⟨n32, en32, hk⟩ := ob_lt hk
    refine y_topi en32 ?_
    refine y_istore_n hC dX11_come_32 (by decide) [(3, .int n32), (2, .int n22), (0, .ref (ad Γ 66)), (1, .int a1)] rfl 33 rfl ?_
    refine y_iconst hC dX11_come_33 (v := (0 : Int32)) (by decide) 34 rfl ?_
    refine y_istore hC dX11_come_34 (by decide) [(4, .int (0 : Int32)), (3, .int n32), (2, .int n22), (0, .ref (ad Γ 66)), (1, .int a1)] rfl 36 rfl ?_
    refine y_iconst hC dX11_come_36 (v := (-1 : Int32)) (by decide) 37 rfl ?_
    refine y_istore hC dX11_come_37 (by decide) [(5, .int (-1 : Int32)), (4, .int (0 : Int32)), (3, .int n32), (2, .int n22), (0, .ref (ad Γ 66)), (1, .int a1)] rfl 39 rfl ?_
    refine y_aload_n hC dX11_come_39 4 rfl 40 rfl ?_
    refine y_iconst hC dX11_come_40 (v := (-1 : Int32)) (by decide) 41 rfl ?_
    obtain ⟨g41, eg41, hk⟩ := ob_lt hk
    refine y_put hC 66 (hB 66 (by decide) (by decide)) (cl_L (u := w) rfl) rfl inU11 tyX11_ok nmX11 13 (by decide) w4_111 rfl rfl rfl rfl (Nat.le_of_ble_eq_true rfl) (gL σ g41) (by subst eg41; exact (cu_L_shouted (u := w) (v := (-1 : Int32)) rfl rfl)) dX11_come_41 44 rfl ?_
    refine y_aload_n hC dX11_come_44 4 rfl 45 rfl ?_
    refine y_get hC 66 (hB 66 (by decide) (by decide)) (cl_L (u := g41) rfl) rfl inU11 0 (by decide) w4_98 rfl dX11_come_45 48 rfl ?_
    refine y_bipush hC dX11_come_48 (v := (28 : Int32)) (by decide) 50 rfl ?_
    refine y_iload_n hC dX11_come_50 5 rfl 51 rfl ?_
    refine y_iadd hC dX11_come_51 52 rfl ?_
    refine y_iconst hC dX11_come_52 (v := (0 : Int32)) (by decide) 53 rfl ?_
    obtain ⟨h53, hk⟩ := ob_if hk
    obtain ⟨g53, eg53, hk⟩ := ob_lt hk
    refine y_iast hC 67 (hB 67 (by decide) (by decide)) (cl_L_w (u := g41) rfl) h53 (gL σ g53) (by subst eg53; exact (cu_L_w (u := g41) (v := (upd (pL_w g41) ((28 : Int32) + a1).toNatClampNeg (0 : Int32))) rfl rfl)) dX11_come_53 54 rfl ?_
    refine y_iconst hC dX11_come_54 (v := (0 : Int32)) (by decide) 55 rfl ?_
    refine y_istore hC dX11_come_55 (by decide) [(6, .int (0 : Int32)), (5, .int (-1 : Int32)), (4, .int (0 : Int32)), (3, .int n32), (2, .int n22), (0, .ref (ad Γ 66)), (1, .int a1)] rfl 57 rfl ?_
    refine y_sub [5, 6, 4, 3, 2, 1, 0] rfl ?_
    exact L57 1000 (n22, n32, (0 : Int32), (-1 : Int32), (0 : Int32), g53) hk
  · have hk := ob_pos h5 hk
    refine y_aload_n hC dX11_come_8 0 rfl 9 rfl ?_
    obtain ⟨x9, hx9, hk⟩ := ob_bind hk
    refine y_callV hC 66 (hB 66 (by decide) (by decide)) (cl_L (u := w) rfl) rfl (c_X11_bad hJ hB l σ w x9 hx9) rfl ⟨w4_186, w1_13, cwd_X11_bad, by decide, by decide⟩ w4_183 w4_185 ws3_15 rfl rfl (Nat.le_of_ble_eq_true rfl) (by decide) dX11_come_9 12 rfl (gL σ x9.2) rfl [.int x9.1] rfl ?_
    have e := Option.some.inj hk
    exact y_iret hC hr hlk (by rw [← e]) (by first | rfl | rw [← e]) dX11_come_12
def f_X11_badAs (w : LSt) (a1 : Int32) : Option (Int32 × LSt) :=
  if inb (0 : Int32) 3 then 
    (if inb (0 : Int32) 3 then 
    (lt (sL_refused w (upd (pL_refused w) (0 : Int32).toNatClampNeg ((pL_refused w (0 : Int32).toNatClampNeg) + (1 : Int32)))) fun g9 => 
    (some (a1, g9)))
  else none)
  else none
theorem cwd_X11_badAs : yX11_badAs.cls ≠ "java/lang/invoke/MethodHandle" ∧ yX11_badAs.cls ≠ "java/lang/invoke/VarHandle" ∧ (parseMethodDescriptor yX11_badAs.desc).map (fun d => d.parameters.length) = some 1 := by decide +kernel
set_option maxHeartbeats 4000000 in
set_option maxRecDepth 100000 in
theorem c_X11_badAs {Γ : GC} (hJ : GJ Γ) (hB : ∀ i, 66 ≤ i → i < 77 → act Γ i) (l : Launch) (σ : GSt) (w : LSt) (a1 : Int32) (x : Int32 × LSt) (hk : f_X11_badAs w a1 = some x) : Mt Γ l yX11_badAs cX11_badAs 2 (some .int) 0 0 [.ref (ad Γ 66), .int a1] (gL σ w) (some (.int x.1)) (gL σ x.2) := by
  refine y_enter (by decide) hJ (Nat.le_of_ble_eq_true rfl) [(0, .ref (ad Γ 66)), (1, .int a1)] rfl ?_
  intro p e s' m args below meth c' hC hr hlk
  refine y_aload_n hC dX11_badAs_0 0 rfl 1 rfl ?_
  refine y_get hC 66 (hB 66 (by decide) (by decide)) (cl_L (u := w) rfl) rfl inU11 4 (by decide) w4_102 rfl dX11_badAs_1 4 rfl ?_
  refine y_iconst hC dX11_badAs_4 (v := (0 : Int32)) (by decide) 5 rfl ?_
  refine y_dup2 hC dX11_badAs_5 rfl rfl 6 rfl ?_
  obtain ⟨h6, hk⟩ := ob_if hk
  refine y_iald hC 70 (hB 70 (by decide) (by decide)) (cl_L_refused (u := w) rfl) h6 dX11_badAs_6 7 rfl ?_
  refine y_iconst hC dX11_badAs_7 (v := (1 : Int32)) (by decide) 8 rfl ?_
  refine y_iadd hC dX11_badAs_8 9 rfl ?_
  obtain ⟨h9, hk⟩ := ob_if hk
  obtain ⟨g9, eg9, hk⟩ := ob_lt hk
  refine y_iast hC 70 (hB 70 (by decide) (by decide)) (cl_L_refused (u := w) rfl) h9 (gL σ g9) (by subst eg9; exact (cu_L_refused (u := w) (v := (upd (pL_refused w) (0 : Int32).toNatClampNeg ((pL_refused w (0 : Int32).toNatClampNeg) + (1 : Int32)))) rfl rfl)) dX11_badAs_9 10 rfl ?_
  refine y_iload_n hC dX11_badAs_10 1 rfl 11 rfl ?_
  have e := Option.some.inj hk
  exact y_iret hC hr hlk (by rw [← e]) (by first | rfl | rw [← e]) dX11_badAs_11
def f_X11_stalls_j294 (a1 : Int32) (a2 : Int32) (a3 : Int32) (v4 : Int32) (v5 : Int32) (gw : LSt) : Option (Int32 × LSt) :=
  if a3 = 0 then
    some (v4, gw)
  else
    some (v5, gw)
def f_X11_stalls_j285 (a1 : Int32) (a2 : Int32) (a3 : Int32) (K164 : (Int32 × Int32 × Int32 × LSt) → Option (Int32 × LSt)) (v5 : Int32) (v6 : Int32) (t0 : Int32) (t1 : Int32) (gw : LSt) : Option (Int32 × LSt) :=
  K164 ((t1 + t0), v5, (v6 + (1 : Int32)), gw)
def f_X11_stalls_j271 (a1 : Int32) (a2 : Int32) (a3 : Int32) (K164 : (Int32 × Int32 × Int32 × LSt) → Option (Int32 × LSt)) (v4 : Int32) (v6 : Int32) (v7 : Int32) (t0 : Int32) (gw : LSt) : Option (Int32 × LSt) :=
  if v7 = 0 then
    f_X11_stalls_j285 a1 a2 a3 K164 t0 v6 (0 : Int32) v4 gw
  else
    f_X11_stalls_j285 a1 a2 a3 K164 t0 v6 (1 : Int32) v4 gw
def f_X11_stalls_j269 (a1 : Int32) (a2 : Int32) (a3 : Int32) (K164 : (Int32 × Int32 × Int32 × LSt) → Option (Int32 × LSt)) (v4 : Int32) (v5 : Int32) (v6 : Int32) (v7 : Int32) (gw : LSt) : Option (Int32 × LSt) :=
  f_X11_stalls_j271 a1 a2 a3 K164 v4 v6 v7 v5 gw
def f_X11_stalls_j254 (a1 : Int32) (a2 : Int32) (a3 : Int32) (K164 : (Int32 × Int32 × Int32 × LSt) → Option (Int32 × LSt)) (v4 : Int32) (v5 : Int32) (v6 : Int32) (v7 : Int32) (gw : LSt) : Option (Int32 × LSt) :=
  if v7 = 0 then
    f_X11_stalls_j269 a1 a2 a3 K164 v4 v5 v6 v7 gw
  else
    if v4 = 0 then
      f_X11_stalls_j271 a1 a2 a3 K164 v4 v6 v7 v6 gw
    else
      f_X11_stalls_j269 a1 a2 a3 K164 v4 v5 v6 v7 gw
def f_X11_stalls_j246 (a1 : Int32) (a2 : Int32) (a3 : Int32) (K164 : (Int32 × Int32 × Int32 × LSt) → Option (Int32 × LSt)) (K177 : (Int32 × Int32 × Int32 × Int32 × Int32 × LSt) → Option (Int32 × LSt)) (v4 : Int32) (v5 : Int32) (v6 : Int32) (v8 : Int32) (t0 : Int32) (gw : LSt) : Option (Int32 × LSt) :=
  K177 (v4, v5, v6, t0, (v8 + (1 : Int32)), gw)
def f_X11_stalls_j245 (a1 : Int32) (a2 : Int32) (a3 : Int32) (K164 : (Int32 × Int32 × Int32 × LSt) → Option (Int32 × LSt)) (K177 : (Int32 × Int32 × Int32 × Int32 × Int32 × LSt) → Option (Int32 × LSt)) (v4 : Int32) (v5 : Int32) (v6 : Int32) (v8 : Int32) (gw : LSt) : Option (Int32 × LSt) :=
  f_X11_stalls_j246 a1 a2 a3 K164 K177 v4 v5 v6 v8 (0 : Int32) gw
def f_X11_stalls_s177 (a1 : Int32) (a2 : Int32) (a3 : Int32) (K164 : (Int32 × Int32 × Int32 × LSt) → Option (Int32 × LSt)) (K177 : (Int32 × Int32 × Int32 × Int32 × Int32 × LSt) → Option (Int32 × LSt)) (q177 : Int32 × Int32 × Int32 × Int32 × Int32 × LSt) : Option (Int32 × LSt) :=
  if (10 : Int32) < q177.2.2.2.2.1 then
    f_X11_stalls_j254 a1 a2 a3 K164 q177.1 q177.2.1 q177.2.2.1 q177.2.2.2.1 q177.2.2.2.2.2
  else
    if q177.2.2.2.1 = 0 then
      f_X11_stalls_j245 a1 a2 a3 K164 K177 q177.1 q177.2.1 q177.2.2.1 q177.2.2.2.2.1 q177.2.2.2.2.2
    else
      if inb (((11 : Int32) * q177.2.2.2.2.1) + (q177.2.2.1 - q177.2.2.1 / (11 : Int32) * (11 : Int32))) 121 then 
        (if inb q177.2.2.1 121 then 
        (if (pL_own q177.2.2.2.2.2 q177.2.2.1.toNatClampNeg) < (pL_own q177.2.2.2.2.2 (((11 : Int32) * q177.2.2.2.2.1) + (q177.2.2.1 - q177.2.2.1 / (11 : Int32) * (11 : Int32))).toNatClampNeg) then
          f_X11_stalls_j245 a1 a2 a3 K164 K177 q177.1 q177.2.1 q177.2.2.1 q177.2.2.2.2.1 q177.2.2.2.2.2
        else
          if inb (((q177.2.2.1 / (11 : Int32)) * (11 : Int32)) + q177.2.2.2.2.1) 121 then 
            (if inb q177.2.2.1 121 then 
            (if (pL_other q177.2.2.2.2.2 q177.2.2.1.toNatClampNeg) < (pL_other q177.2.2.2.2.2 (((q177.2.2.1 / (11 : Int32)) * (11 : Int32)) + q177.2.2.2.2.1).toNatClampNeg) then
              f_X11_stalls_j245 a1 a2 a3 K164 K177 q177.1 q177.2.1 q177.2.2.1 q177.2.2.2.2.1 q177.2.2.2.2.2
            else
              f_X11_stalls_j246 a1 a2 a3 K164 K177 q177.1 q177.2.1 q177.2.2.1 q177.2.2.2.2.1 (1 : Int32) q177.2.2.2.2.2)
          else none)
          else none)
      else none)
      else none
def f_X11_stalls_s164 (a1 : Int32) (a2 : Int32) (a3 : Int32) (K164 : (Int32 × Int32 × Int32 × LSt) → Option (Int32 × LSt)) (q164 : Int32 × Int32 × Int32 × LSt) : Option (Int32 × LSt) :=
  if (121 : Int32) ≤ q164.2.2.1 then
    f_X11_stalls_j294 a1 a2 a3 q164.1 q164.2.1 q164.2.2.2
  else
    lp (f_X11_stalls_s177 a1 a2 a3 K164) 1000 (q164.1, q164.2.1, q164.2.2.1, (1 : Int32), (0 : Int32), q164.2.2.2)
def f_X11_stalls_j151 (a1 : Int32) (a2 : Int32) (a3 : Int32) (gw : LSt) : Option (Int32 × LSt) :=
  (f_X11_putsBack gw).bind fun x152 => 
    (lp (f_X11_stalls_s164 a1 a2 a3) 1000 ((0 : Int32), (-1 : Int32), (0 : Int32), x152))
def f_X11_stalls_j116 (a1 : Int32) (a2 : Int32) (a3 : Int32) (K43 : (Int32 × LSt) → Option (Int32 × LSt)) (v4 : Int32) (gw : LSt) : Option (Int32 × LSt) :=
  (f_X11_tries gw (255 : Int32)).bind fun x120 => 
    (if inb v4 121 then 
    (lt (sL_own x120 (upd (pL_own x120) v4.toNatClampNeg (pL_takings x120))) fun g133 => 
    (if inb v4 121 then 
    (lt (sL_other g133 (upd (pL_other g133) v4.toNatClampNeg (pL_theirTakings g133))) fun g144 => 
    (K43 ((v4 + (1 : Int32)), g144)))
  else none))
  else none)
def f_X11_stalls_j109 (a1 : Int32) (a2 : Int32) (a3 : Int32) (K43 : (Int32 × LSt) → Option (Int32 × LSt)) (K53 : (Int32 × Int32 × LSt) → Option (Int32 × LSt)) (v4 : Int32) (v5 : Int32) (t0 : Int32) (t1 : Int32) (gw : LSt) : Option (Int32 × LSt) :=
  if inb t1 608 then 
    (lt (sL_w gw (upd (pL_w gw) t1.toNatClampNeg t0)) fun g109 => 
    (K53 (v4, (v5 + (1 : Int32)), g109)))
  else none
def f_X11_stalls_j84 (a1 : Int32) (a2 : Int32) (a3 : Int32) (K43 : (Int32 × LSt) → Option (Int32 × LSt)) (K53 : (Int32 × Int32 × LSt) → Option (Int32 × LSt)) (v4 : Int32) (v5 : Int32) (t0 : Int32) (t1 : Int32) (gw : LSt) : Option (Int32 × LSt) :=
  if inb t1 608 then 
    (lt (sL_w gw (upd (pL_w gw) t1.toNatClampNeg t0)) fun g84 => 
    (if (v4 - v4 / (11 : Int32) * (11 : Int32)) ≤ v5 then
      f_X11_stalls_j109 a1 a2 a3 K43 K53 v4 v5 a2 ((18 : Int32) + v5) g84
    else
      f_X11_stalls_j109 a1 a2 a3 K43 K53 v4 v5 a1 ((18 : Int32) + v5) g84))
  else none
def f_X11_stalls_s53 (a1 : Int32) (a2 : Int32) (a3 : Int32) (K43 : (Int32 × LSt) → Option (Int32 × LSt)) (K53 : (Int32 × Int32 × LSt) → Option (Int32 × LSt)) (q53 : Int32 × Int32 × LSt) : Option (Int32 × LSt) :=
  if (10 : Int32) ≤ q53.2.1 then
    f_X11_stalls_j116 a1 a2 a3 K43 q53.1 q53.2.2
  else
    if (q53.1 / (11 : Int32)) ≤ q53.2.1 then
      f_X11_stalls_j84 a1 a2 a3 K43 K53 q53.1 q53.2.1 a2 ((8 : Int32) + q53.2.1) q53.2.2
    else
      f_X11_stalls_j84 a1 a2 a3 K43 K53 q53.1 q53.2.1 a1 ((8 : Int32) + q53.2.1) q53.2.2
def f_X11_stalls_s43 (a1 : Int32) (a2 : Int32) (a3 : Int32) (K43 : (Int32 × LSt) → Option (Int32 × LSt)) (q43 : Int32 × LSt) : Option (Int32 × LSt) :=
  if (121 : Int32) ≤ q43.1 then
    f_X11_stalls_j151 a1 a2 a3 q43.2
  else
    lp (f_X11_stalls_s53 a1 a2 a3 K43) 1000 (q43.1, (0 : Int32), q43.2)
def f_X11_stalls_j29 (a1 : Int32) (a2 : Int32) (a3 : Int32) (gw : LSt) : Option (Int32 × LSt) :=
  (f_X11_badAs gw (-10 : Int32)).bind fun x32 => 
    (some (x32.1, x32.2))
def f_X11_stalls (w : LSt) (a1 : Int32) (a2 : Int32) (a3 : Int32) : Option (Int32 × LSt) :=
  (f_X11_isPrice a1).bind fun x1 => 
    (if x1 = 0 then
      f_X11_stalls_j29 a1 a2 a3 w
    else
      (f_X11_isPrice a2).bind fun x8 => 
        (if x8 = 0 then
          f_X11_stalls_j29 a1 a2 a3 w
        else
          if a1 < a2 then
            f_X11_stalls_j29 a1 a2 a3 w
          else
            (f_X11_in a3.toInt64 (0 : Int64) (1 : Int64)).bind fun x23 => 
              (if x23 = 0 then
                f_X11_stalls_j29 a1 a2 a3 w
              else
                (f_X11_lays w).bind fun x37 => 
                  (lp (f_X11_stalls_s43 a1 a2 a3) 1000 ((0 : Int32), x37)))))
theorem cwd_X11_stalls : yX11_stalls.cls ≠ "java/lang/invoke/MethodHandle" ∧ yX11_stalls.cls ≠ "java/lang/invoke/VarHandle" ∧ (parseMethodDescriptor yX11_stalls.desc).map (fun d => d.parameters.length) = some 3 := by decide +kernel
set_option maxHeartbeats 4000000 in
set_option maxRecDepth 100000 in
theorem c_X11_stalls {Γ : GC} (hJ : GJ Γ) (hB : ∀ i, 66 ≤ i → i < 77 → act Γ i) (l : Launch) (σ : GSt) (w : LSt) (a1 : Int32) (a2 : Int32) (a3 : Int32) (x : Int32 × LSt) (hk : f_X11_stalls w a1 a2 a3 = some x) : Mt Γ l yX11_stalls cX11_stalls 9 (some .int) 5 117 [.ref (ad Γ 66), .int a1, .int a2, .int a3] (gL σ w) (some (.int x.1)) (gL σ x.2) := by
  refine y_enter (by decide) hJ (Nat.le_of_ble_eq_true rfl) [(0, .ref (ad Γ 66)), (1, .int a1), (2, .int a2), (3, .int a3)] rfl ?_
  intro p e s' m args below meth c' hC hr hlk
  have J294 : ∀ (v4 : Int32) (v5 : Int32) (gw : LSt), f_X11_stalls_j294 a1 a2 a3 v4 v5 gw = some x → Y Γ (GA Γ) p l e ({ frames := 5, cells := 0, slots := 0, locals := 117 } : Room) s' m args below meth c' 0 0 (MQ below (Qg Γ (some (.int x.1)) (gL σ x.2)) args s' 0 0 (GA Γ)) 9 (gL σ gw) 294 [(0, .ref (ad Γ 66)), (1, .int a1), (2, .int a2), (3, .int a3), (4, .int v4), (5, .int v5)] [] := by
    intro v4 v5 gw hk
    refine y_iload_n hC dX11_stalls_294 3 rfl 295 rfl ?_
    refine y_if_ne hC dX11_stalls_295 303 (by decide) 298 rfl (fun h295 => ?_) (fun h295 => ?_)
    · have hk := ob_neg h295 hk
      refine y_iload hC dX11_stalls_303 5 rfl 305 rfl ?_
      have e := Option.some.inj hk
      exact y_iret hC hr hlk (by rw [← e]) (by first | rfl | rw [← e]) dX11_stalls_305
    · have hk := ob_pos h295 hk
      refine y_iload hC dX11_stalls_298 4 rfl 300 rfl ?_
      refine y_goto hC dX11_stalls_300 305 (by decide) ?_
      have e := Option.some.inj hk
      exact y_iret hC hr hlk (by rw [← e]) (by first | rfl | rw [← e]) dX11_stalls_305
  have L164 : ∀ (n164 : Nat) (q164 : Int32 × Int32 × Int32 × LSt), lp (f_X11_stalls_s164 a1 a2 a3) n164 q164 = some x → Y Γ (GA Γ) p l e ({ frames := 5, cells := 0, slots := 0, locals := 117 } : Room) s' m args below meth c' 0 0 (MQ below (Qg Γ (some (.int x.1)) (gL σ x.2)) args s' 0 0 (GA Γ)) 9 (gL σ q164.2.2.2) 164 [(0, .ref (ad Γ 66)), (1, .int a1), (2, .int a2), (3, .int a3), (4, .int q164.1), (5, .int q164.2.1), (6, .int q164.2.2.1)] [] := by
    intro n164
    induction n164 with
    | zero => intro q164 hk; exact (lp_zero hk).elim
    | succ n164 ih164 =>
      intro q164 hk
      have hk : f_X11_stalls_s164 a1 a2 a3 (lp (f_X11_stalls_s164 a1 a2 a3) n164) q164 = some x := (lp_succ _ _ _).symm.trans hk
      have J285 : ∀ (v5 : Int32) (v6 : Int32) (t0 : Int32) (t1 : Int32) (gw : LSt), f_X11_stalls_j285 a1 a2 a3 (lp (f_X11_stalls_s164 a1 a2 a3) n164) v5 v6 t0 t1 gw = some x → Y Γ (GA Γ) p l e ({ frames := 5, cells := 0, slots := 0, locals := 117 } : Room) s' m args below meth c' 0 0 (MQ below (Qg Γ (some (.int x.1)) (gL σ x.2)) args s' 0 0 (GA Γ)) 9 (gL σ gw) 285 [(0, .ref (ad Γ 66)), (1, .int a1), (2, .int a2), (3, .int a3), (5, .int v5), (6, .int v6)] [.int t0, .int t1] := by
        intro v5 v6 t0 t1 gw hk
        refine y_iadd hC dX11_stalls_285 286 rfl ?_
        refine y_istore hC dX11_stalls_286 (by decide) [(4, .int (t1 + t0)), (0, .ref (ad Γ 66)), (1, .int a1), (2, .int a2), (3, .int a3), (5, .int v5), (6, .int v6)] rfl 288 rfl ?_
        refine y_iinc hC dX11_stalls_288 6 rfl (v := (v6 + (1 : Int32))) rfl (by decide) [(6, .int (v6 + (1 : Int32))), (4, .int (t1 + t0)), (0, .ref (ad Γ 66)), (1, .int a1), (2, .int a2), (3, .int a3), (5, .int v5)] rfl 291 rfl ?_
        refine y_goto hC dX11_stalls_291 164 (by decide) ?_
        refine y_sub [2, 3, 4, 5, 1, 6, 0] rfl ?_
        exact ih164 ((t1 + t0), v5, (v6 + (1 : Int32)), gw) hk
      have J271 : ∀ (v4 : Int32) (v6 : Int32) (v7 : Int32) (t0 : Int32) (gw : LSt), f_X11_stalls_j271 a1 a2 a3 (lp (f_X11_stalls_s164 a1 a2 a3) n164) v4 v6 v7 t0 gw = some x → Y Γ (GA Γ) p l e ({ frames := 5, cells := 0, slots := 0, locals := 117 } : Room) s' m args below meth c' 0 0 (MQ below (Qg Γ (some (.int x.1)) (gL σ x.2)) args s' 0 0 (GA Γ)) 9 (gL σ gw) 271 [(0, .ref (ad Γ 66)), (1, .int a1), (2, .int a2), (3, .int a3), (4, .int v4), (6, .int v6), (7, .int v7)] [.int t0] := by
        intro v4 v6 v7 t0 gw hk
        refine y_istore hC dX11_stalls_271 (by decide) [(5, .int t0), (0, .ref (ad Γ 66)), (1, .int a1), (2, .int a2), (3, .int a3), (4, .int v4), (6, .int v6), (7, .int v7)] rfl 273 rfl ?_
        refine y_iload hC dX11_stalls_273 5 rfl 275 rfl ?_
        refine y_iload hC dX11_stalls_275 7 rfl 277 rfl ?_
        refine y_if_eq hC dX11_stalls_277 284 (by decide) 280 rfl (fun h277 => ?_) (fun h277 => ?_)
        · have hk := ob_pos h277 hk
          refine y_iconst hC dX11_stalls_284 (v := (0 : Int32)) (by decide) 285 rfl ?_
          refine y_sub [1, 2, 3, 4, 0, 6] rfl ?_
          exact J285 t0 v6 (0 : Int32) v4 gw hk
        · have hk := ob_neg h277 hk
          refine y_iconst hC dX11_stalls_280 (v := (1 : Int32)) (by decide) 281 rfl ?_
          refine y_goto hC dX11_stalls_281 285 (by decide) ?_
          refine y_sub [1, 2, 3, 4, 0, 6] rfl ?_
          exact J285 t0 v6 (1 : Int32) v4 gw hk
      have J269 : ∀ (v4 : Int32) (v5 : Int32) (v6 : Int32) (v7 : Int32) (gw : LSt), f_X11_stalls_j269 a1 a2 a3 (lp (f_X11_stalls_s164 a1 a2 a3) n164) v4 v5 v6 v7 gw = some x → Y Γ (GA Γ) p l e ({ frames := 5, cells := 0, slots := 0, locals := 117 } : Room) s' m args below meth c' 0 0 (MQ below (Qg Γ (some (.int x.1)) (gL σ x.2)) args s' 0 0 (GA Γ)) 9 (gL σ gw) 269 [(0, .ref (ad Γ 66)), (1, .int a1), (2, .int a2), (3, .int a3), (4, .int v4), (5, .int v5), (6, .int v6), (7, .int v7)] [] := by
        intro v4 v5 v6 v7 gw hk
        refine y_iload hC dX11_stalls_269 5 rfl 271 rfl ?_
        refine y_sub [0, 1, 2, 3, 4, 6, 7] rfl ?_
        exact J271 v4 v6 v7 v5 gw hk
      have J254 : ∀ (v4 : Int32) (v5 : Int32) (v6 : Int32) (v7 : Int32) (gw : LSt), f_X11_stalls_j254 a1 a2 a3 (lp (f_X11_stalls_s164 a1 a2 a3) n164) v4 v5 v6 v7 gw = some x → Y Γ (GA Γ) p l e ({ frames := 5, cells := 0, slots := 0, locals := 117 } : Room) s' m args below meth c' 0 0 (MQ below (Qg Γ (some (.int x.1)) (gL σ x.2)) args s' 0 0 (GA Γ)) 9 (gL σ gw) 254 [(0, .ref (ad Γ 66)), (1, .int a1), (2, .int a2), (3, .int a3), (4, .int v4), (5, .int v5), (6, .int v6), (7, .int v7)] [] := by
        intro v4 v5 v6 v7 gw hk
        refine y_iload hC dX11_stalls_254 7 rfl 256 rfl ?_
        refine y_if_eq hC dX11_stalls_256 269 (by decide) 259 rfl (fun h256 => ?_) (fun h256 => ?_)
        · have hk := ob_pos h256 hk
          refine y_sub [0, 1, 2, 3, 4, 5, 6, 7] rfl ?_
          exact J269 v4 v5 v6 v7 gw hk
        · have hk := ob_neg h256 hk
          refine y_iload hC dX11_stalls_259 4 rfl 261 rfl ?_
          refine y_if_ne hC dX11_stalls_261 269 (by decide) 264 rfl (fun h261 => ?_) (fun h261 => ?_)
          · have hk := ob_neg h261 hk
            refine y_sub [0, 1, 2, 3, 4, 5, 6, 7] rfl ?_
            exact J269 v4 v5 v6 v7 gw hk
          · have hk := ob_pos h261 hk
            refine y_iload hC dX11_stalls_264 6 rfl 266 rfl ?_
            refine y_goto hC dX11_stalls_266 271 (by decide) ?_
            refine y_sub [0, 1, 2, 3, 4, 6, 7] rfl ?_
            exact J271 v4 v6 v7 v6 gw hk
      have L177 : ∀ (n177 : Nat) (q177 : Int32 × Int32 × Int32 × Int32 × Int32 × LSt), lp (f_X11_stalls_s177 a1 a2 a3 (lp (f_X11_stalls_s164 a1 a2 a3) n164)) n177 q177 = some x → Y Γ (GA Γ) p l e ({ frames := 5, cells := 0, slots := 0, locals := 117 } : Room) s' m args below meth c' 0 0 (MQ below (Qg Γ (some (.int x.1)) (gL σ x.2)) args s' 0 0 (GA Γ)) 9 (gL σ q177.2.2.2.2.2) 177 [(0, .ref (ad Γ 66)), (1, .int a1), (2, .int a2), (3, .int a3), (4, .int q177.1), (5, .int q177.2.1), (6, .int q177.2.2.1), (7, .int q177.2.2.2.1), (8, .int q177.2.2.2.2.1)] [] := by
        intro n177
        induction n177 with
        | zero => intro q177 hk; exact (lp_zero hk).elim
        | succ n177 ih177 =>
          intro q177 hk
          have hk : f_X11_stalls_s177 a1 a2 a3 (lp (f_X11_stalls_s164 a1 a2 a3) n164) (lp (f_X11_stalls_s177 a1 a2 a3 (lp (f_X11_stalls_s164 a1 a2 a3) n164)) n177) q177 = some x := (lp_succ _ _ _).symm.trans hk
          have J246 : ∀ (v4 : Int32) (v5 : Int32) (v6 : Int32) (v8 : Int32) (t0 : Int32) (gw : LSt), f_X11_stalls_j246 a1 a2 a3 (lp (f_X11_stalls_s164 a1 a2 a3) n164) (lp (f_X11_stalls_s177 a1 a2 a3 (lp (f_X11_stalls_s164 a1 a2 a3) n164)) n177) v4 v5 v6 v8 t0 gw = some x → Y Γ (GA Γ) p l e ({ frames := 5, cells := 0, slots := 0, locals := 117 } : Room) s' m args below meth c' 0 0 (MQ below (Qg Γ (some (.int x.1)) (gL σ x.2)) args s' 0 0 (GA Γ)) 9 (gL σ gw) 246 [(0, .ref (ad Γ 66)), (1, .int a1), (2, .int a2), (3, .int a3), (4, .int v4), (5, .int v5), (6, .int v6), (8, .int v8)] [.int t0] := by
            intro v4 v5 v6 v8 t0 gw hk
            refine y_istore hC dX11_stalls_246 (by decide) [(7, .int t0), (0, .ref (ad Γ 66)), (1, .int a1), (2, .int a2), (3, .int a3), (4, .int v4), (5, .int v5), (6, .int v6), (8, .int v8)] rfl 248 rfl ?_
            refine y_iinc hC dX11_stalls_248 8 rfl (v := (v8 + (1 : Int32))) rfl (by decide) [(8, .int (v8 + (1 : Int32))), (7, .int t0), (0, .ref (ad Γ 66)), (1, .int a1), (2, .int a2), (3, .int a3), (4, .int v4), (5, .int v5), (6, .int v6)] rfl 251 rfl ?_
            refine y_goto hC dX11_stalls_251 177 (by decide) ?_
            refine y_sub [2, 3, 4, 5, 6, 7, 8, 1, 0] rfl ?_
            exact ih177 (v4, v5, v6, t0, (v8 + (1 : Int32)), gw) hk
          have J245 : ∀ (v4 : Int32) (v5 : Int32) (v6 : Int32) (v8 : Int32) (gw : LSt), f_X11_stalls_j245 a1 a2 a3 (lp (f_X11_stalls_s164 a1 a2 a3) n164) (lp (f_X11_stalls_s177 a1 a2 a3 (lp (f_X11_stalls_s164 a1 a2 a3) n164)) n177) v4 v5 v6 v8 gw = some x → Y Γ (GA Γ) p l e ({ frames := 5, cells := 0, slots := 0, locals := 117 } : Room) s' m args below meth c' 0 0 (MQ below (Qg Γ (some (.int x.1)) (gL σ x.2)) args s' 0 0 (GA Γ)) 9 (gL σ gw) 245 [(0, .ref (ad Γ 66)), (1, .int a1), (2, .int a2), (3, .int a3), (4, .int v4), (5, .int v5), (6, .int v6), (8, .int v8)] [] := by
            intro v4 v5 v6 v8 gw hk
            refine y_iconst hC dX11_stalls_245 (v := (0 : Int32)) (by decide) 246 rfl ?_
            refine y_sub [0, 1, 2, 3, 4, 5, 6, 7] rfl ?_
            exact J246 v4 v5 v6 v8 (0 : Int32) gw hk
          refine y_iload hC dX11_stalls_177 8 rfl 179 rfl ?_
          refine y_bipush hC dX11_stalls_179 (v := (10 : Int32)) (by decide) 181 rfl ?_
          refine y_icmp_gt hC dX11_stalls_181 254 (by decide) 184 rfl (fun h181 => ?_) (fun h181 => ?_)
          · have hk := ob_pos h181 hk
            refine y_sub [0, 1, 2, 3, 4, 5, 6, 7] rfl ?_
            exact J254 q177.1 q177.2.1 q177.2.2.1 q177.2.2.2.1 q177.2.2.2.2.2 hk
          · have hk := ob_neg h181 hk
            refine y_iload hC dX11_stalls_184 7 rfl 186 rfl ?_
            refine y_if_eq hC dX11_stalls_186 245 (by decide) 189 rfl (fun h186 => ?_) (fun h186 => ?_)
            · have hk := ob_pos h186 hk
              refine y_sub [0, 1, 2, 3, 4, 5, 6, 8] rfl ?_
              exact J245 q177.1 q177.2.1 q177.2.2.1 q177.2.2.2.2.1 q177.2.2.2.2.2 hk
            · have hk := ob_neg h186 hk
              refine y_aload_n hC dX11_stalls_189 0 rfl 190 rfl ?_
              refine y_get hC 66 (hB 66 (by decide) (by decide)) (cl_L (u := q177.2.2.2.2.2) rfl) rfl inU11 21 (by decide) w4_119 rfl dX11_stalls_190 193 rfl ?_
              refine y_bipush hC dX11_stalls_193 (v := (11 : Int32)) (by decide) 195 rfl ?_
              refine y_iload hC dX11_stalls_195 8 rfl 197 rfl ?_
              refine y_imul hC dX11_stalls_197 198 rfl ?_
              refine y_iload hC dX11_stalls_198 6 rfl 200 rfl ?_
              refine y_bipush hC dX11_stalls_200 (v := (11 : Int32)) (by decide) 202 rfl ?_
              refine y_irem hC dX11_stalls_202 (by decide) 203 rfl ?_
              refine y_iadd hC dX11_stalls_203 204 rfl ?_
              obtain ⟨h204, hk⟩ := ob_if hk
              refine y_iald hC 75 (hB 75 (by decide) (by decide)) (cl_L_own (u := q177.2.2.2.2.2) rfl) h204 dX11_stalls_204 205 rfl ?_
              refine y_aload_n hC dX11_stalls_205 0 rfl 206 rfl ?_
              refine y_get hC 66 (hB 66 (by decide) (by decide)) (cl_L (u := q177.2.2.2.2.2) rfl) rfl inU11 21 (by decide) w4_119 rfl dX11_stalls_206 209 rfl ?_
              refine y_iload hC dX11_stalls_209 6 rfl 211 rfl ?_
              obtain ⟨h211, hk⟩ := ob_if hk
              refine y_iald hC 75 (hB 75 (by decide) (by decide)) (cl_L_own (u := q177.2.2.2.2.2) rfl) h211 dX11_stalls_211 212 rfl ?_
              refine y_icmp_gt hC dX11_stalls_212 245 (by decide) 215 rfl (fun h212 => ?_) (fun h212 => ?_)
              · have hk := ob_pos h212 hk
                refine y_sub [0, 1, 2, 3, 4, 5, 6, 8] rfl ?_
                exact J245 q177.1 q177.2.1 q177.2.2.1 q177.2.2.2.2.1 q177.2.2.2.2.2 hk
              · have hk := ob_neg h212 hk
                refine y_aload_n hC dX11_stalls_215 0 rfl 216 rfl ?_
                refine y_get hC 66 (hB 66 (by decide) (by decide)) (cl_L (u := q177.2.2.2.2.2) rfl) rfl inU11 22 (by decide) w4_120 rfl dX11_stalls_216 219 rfl ?_
                refine y_iload hC dX11_stalls_219 6 rfl 221 rfl ?_
                refine y_bipush hC dX11_stalls_221 (v := (11 : Int32)) (by decide) 223 rfl ?_
                refine y_idiv hC dX11_stalls_223 (by decide) 224 rfl ?_
                refine y_bipush hC dX11_stalls_224 (v := (11 : Int32)) (by decide) 226 rfl ?_
                refine y_imul hC dX11_stalls_226 227 rfl ?_
                refine y_iload hC dX11_stalls_227 8 rfl 229 rfl ?_
                refine y_iadd hC dX11_stalls_229 230 rfl ?_
                obtain ⟨h230, hk⟩ := ob_if hk
                refine y_iald hC 76 (hB 76 (by decide) (by decide)) (cl_L_other (u := q177.2.2.2.2.2) rfl) h230 dX11_stalls_230 231 rfl ?_
                refine y_aload_n hC dX11_stalls_231 0 rfl 232 rfl ?_
                refine y_get hC 66 (hB 66 (by decide) (by decide)) (cl_L (u := q177.2.2.2.2.2) rfl) rfl inU11 22 (by decide) w4_120 rfl dX11_stalls_232 235 rfl ?_
                refine y_iload hC dX11_stalls_235 6 rfl 237 rfl ?_
                obtain ⟨h237, hk⟩ := ob_if hk
                refine y_iald hC 76 (hB 76 (by decide) (by decide)) (cl_L_other (u := q177.2.2.2.2.2) rfl) h237 dX11_stalls_237 238 rfl ?_
                refine y_icmp_gt hC dX11_stalls_238 245 (by decide) 241 rfl (fun h238 => ?_) (fun h238 => ?_)
                · have hk := ob_pos h238 hk
                  refine y_sub [0, 1, 2, 3, 4, 5, 6, 8] rfl ?_
                  exact J245 q177.1 q177.2.1 q177.2.2.1 q177.2.2.2.2.1 q177.2.2.2.2.2 hk
                · have hk := ob_neg h238 hk
                  refine y_iconst hC dX11_stalls_241 (v := (1 : Int32)) (by decide) 242 rfl ?_
                  refine y_goto hC dX11_stalls_242 246 (by decide) ?_
                  refine y_sub [0, 1, 2, 3, 4, 5, 6, 8] rfl ?_
                  exact J246 q177.1 q177.2.1 q177.2.2.1 q177.2.2.2.2.1 (1 : Int32) q177.2.2.2.2.2 hk
      refine y_iload hC dX11_stalls_164 6 rfl 166 rfl ?_
      refine y_bipush hC dX11_stalls_166 (v := (121 : Int32)) (by decide) 168 rfl ?_
      refine y_icmp_ge hC dX11_stalls_168 294 (by decide) 171 rfl (fun h168 => ?_) (fun h168 => ?_)
      · have hk := ob_pos h168 hk
        refine y_sub [0, 1, 2, 3, 4, 5] rfl ?_
        exact J294 q164.1 q164.2.1 q164.2.2.2 hk
      · have hk := ob_neg h168 hk
        refine y_iconst hC dX11_stalls_171 (v := (1 : Int32)) (by decide) 172 rfl ?_
        refine y_istore hC dX11_stalls_172 (by decide) [(7, .int (1 : Int32)), (0, .ref (ad Γ 66)), (1, .int a1), (2, .int a2), (3, .int a3), (4, .int q164.1), (5, .int q164.2.1), (6, .int q164.2.2.1)] rfl 174 rfl ?_
        refine y_iconst hC dX11_stalls_174 (v := (0 : Int32)) (by decide) 175 rfl ?_
        refine y_istore hC dX11_stalls_175 (by decide) [(8, .int (0 : Int32)), (7, .int (1 : Int32)), (0, .ref (ad Γ 66)), (1, .int a1), (2, .int a2), (3, .int a3), (4, .int q164.1), (5, .int q164.2.1), (6, .int q164.2.2.1)] rfl 177 rfl ?_
        refine y_sub [2, 3, 4, 5, 6, 7, 8, 1, 0] rfl ?_
        exact L177 1000 (q164.1, q164.2.1, q164.2.2.1, (1 : Int32), (0 : Int32), q164.2.2.2) hk
  have J151 : ∀ (gw : LSt), f_X11_stalls_j151 a1 a2 a3 gw = some x → Y Γ (GA Γ) p l e ({ frames := 5, cells := 0, slots := 0, locals := 117 } : Room) s' m args below meth c' 0 0 (MQ below (Qg Γ (some (.int x.1)) (gL σ x.2)) args s' 0 0 (GA Γ)) 9 (gL σ gw) 151 [(0, .ref (ad Γ 66)), (1, .int a1), (2, .int a2), (3, .int a3)] [] := by
    intro gw hk
    refine y_aload_n hC dX11_stalls_151 0 rfl 152 rfl ?_
    obtain ⟨x152, hx152, hk⟩ := ob_bind hk
    refine y_callV hC 66 (hB 66 (by decide) (by decide)) (cl_L (u := gw) rfl) rfl (c_X11_putsBack hJ hB l σ gw x152 hx152) rfl ⟨w5_137, w1_13, cwd_X11_putsBack, by decide, by decide⟩ w5_134 w5_136 ws5_12 rfl rfl (Nat.le_of_ble_eq_true rfl) (by decide) dX11_stalls_152 155 rfl (gL σ x152) rfl [] rfl ?_
    refine y_iconst hC dX11_stalls_155 (v := (0 : Int32)) (by decide) 156 rfl ?_
    refine y_istore hC dX11_stalls_156 (by decide) [(4, .int (0 : Int32)), (0, .ref (ad Γ 66)), (1, .int a1), (2, .int a2), (3, .int a3)] rfl 158 rfl ?_
    refine y_iconst hC dX11_stalls_158 (v := (-1 : Int32)) (by decide) 159 rfl ?_
    refine y_istore hC dX11_stalls_159 (by decide) [(5, .int (-1 : Int32)), (4, .int (0 : Int32)), (0, .ref (ad Γ 66)), (1, .int a1), (2, .int a2), (3, .int a3)] rfl 161 rfl ?_
    refine y_iconst hC dX11_stalls_161 (v := (0 : Int32)) (by decide) 162 rfl ?_
    refine y_istore hC dX11_stalls_162 (by decide) [(6, .int (0 : Int32)), (5, .int (-1 : Int32)), (4, .int (0 : Int32)), (0, .ref (ad Γ 66)), (1, .int a1), (2, .int a2), (3, .int a3)] rfl 164 rfl ?_
    refine y_sub [3, 4, 5, 6, 2, 1, 0] rfl ?_
    exact L164 1000 ((0 : Int32), (-1 : Int32), (0 : Int32), x152) hk
  have L43 : ∀ (n43 : Nat) (q43 : Int32 × LSt), lp (f_X11_stalls_s43 a1 a2 a3) n43 q43 = some x → Y Γ (GA Γ) p l e ({ frames := 5, cells := 0, slots := 0, locals := 117 } : Room) s' m args below meth c' 0 0 (MQ below (Qg Γ (some (.int x.1)) (gL σ x.2)) args s' 0 0 (GA Γ)) 9 (gL σ q43.2) 43 [(0, .ref (ad Γ 66)), (1, .int a1), (2, .int a2), (3, .int a3), (4, .int q43.1)] [] := by
    intro n43
    induction n43 with
    | zero => intro q43 hk; exact (lp_zero hk).elim
    | succ n43 ih43 =>
      intro q43 hk
      have hk : f_X11_stalls_s43 a1 a2 a3 (lp (f_X11_stalls_s43 a1 a2 a3) n43) q43 = some x := (lp_succ _ _ _).symm.trans hk
      have J116 : ∀ (v4 : Int32) (gw : LSt), f_X11_stalls_j116 a1 a2 a3 (lp (f_X11_stalls_s43 a1 a2 a3) n43) v4 gw = some x → Y Γ (GA Γ) p l e ({ frames := 5, cells := 0, slots := 0, locals := 117 } : Room) s' m args below meth c' 0 0 (MQ below (Qg Γ (some (.int x.1)) (gL σ x.2)) args s' 0 0 (GA Γ)) 9 (gL σ gw) 116 [(0, .ref (ad Γ 66)), (1, .int a1), (2, .int a2), (3, .int a3), (4, .int v4)] [] := by
        intro v4 gw hk
        refine y_aload_n hC dX11_stalls_116 0 rfl 117 rfl ?_
        refine y_sipush hC dX11_stalls_117 (v := (255 : Int32)) (by decide) 120 rfl ?_
        obtain ⟨x120, hx120, hk⟩ := ob_bind hk
        refine y_callV hC 66 (hB 66 (by decide) (by decide)) (cl_L (u := gw) rfl) rfl (c_X11_tries hJ hB l σ gw (255 : Int32) x120 hx120) rfl ⟨w5_61, w1_13, cwd_X11_tries, by decide, by decide⟩ w5_58 w5_60 ws5_0 rfl rfl (Nat.le_of_ble_eq_true rfl) (by decide) dX11_stalls_120 123 rfl (gL σ x120) rfl [] rfl ?_
        refine y_aload_n hC dX11_stalls_123 0 rfl 124 rfl ?_
        refine y_get hC 66 (hB 66 (by decide) (by decide)) (cl_L (u := x120) rfl) rfl inU11 21 (by decide) w4_119 rfl dX11_stalls_124 127 rfl ?_
        refine y_iload hC dX11_stalls_127 4 rfl 129 rfl ?_
        refine y_aload_n hC dX11_stalls_129 0 rfl 130 rfl ?_
        refine y_get hC 66 (hB 66 (by decide) (by decide)) (cl_L (u := x120) rfl) rfl inU11 17 (by decide) w4_115 rfl dX11_stalls_130 133 rfl ?_
        obtain ⟨h133, hk⟩ := ob_if hk
        obtain ⟨g133, eg133, hk⟩ := ob_lt hk
        refine y_iast hC 75 (hB 75 (by decide) (by decide)) (cl_L_own (u := x120) rfl) h133 (gL σ g133) (by subst eg133; exact (cu_L_own (u := x120) (v := (upd (pL_own x120) v4.toNatClampNeg (pL_takings x120))) rfl rfl)) dX11_stalls_133 134 rfl ?_
        refine y_aload_n hC dX11_stalls_134 0 rfl 135 rfl ?_
        refine y_get hC 66 (hB 66 (by decide) (by decide)) (cl_L (u := g133) rfl) rfl inU11 22 (by decide) w4_120 rfl dX11_stalls_135 138 rfl ?_
        refine y_iload hC dX11_stalls_138 4 rfl 140 rfl ?_
        refine y_aload_n hC dX11_stalls_140 0 rfl 141 rfl ?_
        refine y_get hC 66 (hB 66 (by decide) (by decide)) (cl_L (u := g133) rfl) rfl inU11 18 (by decide) w4_116 rfl dX11_stalls_141 144 rfl ?_
        obtain ⟨h144, hk⟩ := ob_if hk
        obtain ⟨g144, eg144, hk⟩ := ob_lt hk
        refine y_iast hC 76 (hB 76 (by decide) (by decide)) (cl_L_other (u := g133) rfl) h144 (gL σ g144) (by subst eg144; exact (cu_L_other (u := g133) (v := (upd (pL_other g133) v4.toNatClampNeg (pL_theirTakings g133))) rfl rfl)) dX11_stalls_144 145 rfl ?_
        refine y_iinc hC dX11_stalls_145 4 rfl (v := (v4 + (1 : Int32))) rfl (by decide) [(4, .int (v4 + (1 : Int32))), (0, .ref (ad Γ 66)), (1, .int a1), (2, .int a2), (3, .int a3)] rfl 148 rfl ?_
        refine y_goto hC dX11_stalls_148 43 (by decide) ?_
        refine y_sub [1, 2, 3, 4, 0] rfl ?_
        exact ih43 ((v4 + (1 : Int32)), g144) hk
      have L53 : ∀ (n53 : Nat) (q53 : Int32 × Int32 × LSt), lp (f_X11_stalls_s53 a1 a2 a3 (lp (f_X11_stalls_s43 a1 a2 a3) n43)) n53 q53 = some x → Y Γ (GA Γ) p l e ({ frames := 5, cells := 0, slots := 0, locals := 117 } : Room) s' m args below meth c' 0 0 (MQ below (Qg Γ (some (.int x.1)) (gL σ x.2)) args s' 0 0 (GA Γ)) 9 (gL σ q53.2.2) 53 [(0, .ref (ad Γ 66)), (1, .int a1), (2, .int a2), (3, .int a3), (4, .int q53.1), (5, .int q53.2.1)] [] := by
        intro n53
        induction n53 with
        | zero => intro q53 hk; exact (lp_zero hk).elim
        | succ n53 ih53 =>
          intro q53 hk
          have hk : f_X11_stalls_s53 a1 a2 a3 (lp (f_X11_stalls_s43 a1 a2 a3) n43) (lp (f_X11_stalls_s53 a1 a2 a3 (lp (f_X11_stalls_s43 a1 a2 a3) n43)) n53) q53 = some x := (lp_succ _ _ _).symm.trans hk
          have J109 : ∀ (v4 : Int32) (v5 : Int32) (t0 : Int32) (t1 : Int32) (gw : LSt), f_X11_stalls_j109 a1 a2 a3 (lp (f_X11_stalls_s43 a1 a2 a3) n43) (lp (f_X11_stalls_s53 a1 a2 a3 (lp (f_X11_stalls_s43 a1 a2 a3) n43)) n53) v4 v5 t0 t1 gw = some x → Y Γ (GA Γ) p l e ({ frames := 5, cells := 0, slots := 0, locals := 117 } : Room) s' m args below meth c' 0 0 (MQ below (Qg Γ (some (.int x.1)) (gL σ x.2)) args s' 0 0 (GA Γ)) 9 (gL σ gw) 109 [(0, .ref (ad Γ 66)), (1, .int a1), (2, .int a2), (3, .int a3), (4, .int v4), (5, .int v5)] [.int t0, .int t1, .ref (ad Γ 67)] := by
            intro v4 v5 t0 t1 gw hk
            obtain ⟨h109, hk⟩ := ob_if hk
            obtain ⟨g109, eg109, hk⟩ := ob_lt hk
            refine y_iast hC 67 (hB 67 (by decide) (by decide)) (cl_L_w (u := gw) rfl) h109 (gL σ g109) (by subst eg109; exact (cu_L_w (u := gw) (v := (upd (pL_w gw) t1.toNatClampNeg t0)) rfl rfl)) dX11_stalls_109 110 rfl ?_
            refine y_iinc hC dX11_stalls_110 5 rfl (v := (v5 + (1 : Int32))) rfl (by decide) [(5, .int (v5 + (1 : Int32))), (0, .ref (ad Γ 66)), (1, .int a1), (2, .int a2), (3, .int a3), (4, .int v4)] rfl 113 rfl ?_
            refine y_goto hC dX11_stalls_113 53 (by decide) ?_
            refine y_sub [1, 2, 3, 4, 5, 0] rfl ?_
            exact ih53 (v4, (v5 + (1 : Int32)), g109) hk
          have J84 : ∀ (v4 : Int32) (v5 : Int32) (t0 : Int32) (t1 : Int32) (gw : LSt), f_X11_stalls_j84 a1 a2 a3 (lp (f_X11_stalls_s43 a1 a2 a3) n43) (lp (f_X11_stalls_s53 a1 a2 a3 (lp (f_X11_stalls_s43 a1 a2 a3) n43)) n53) v4 v5 t0 t1 gw = some x → Y Γ (GA Γ) p l e ({ frames := 5, cells := 0, slots := 0, locals := 117 } : Room) s' m args below meth c' 0 0 (MQ below (Qg Γ (some (.int x.1)) (gL σ x.2)) args s' 0 0 (GA Γ)) 9 (gL σ gw) 84 [(0, .ref (ad Γ 66)), (1, .int a1), (2, .int a2), (3, .int a3), (4, .int v4), (5, .int v5)] [.int t0, .int t1, .ref (ad Γ 67)] := by
            intro v4 v5 t0 t1 gw hk
            obtain ⟨h84, hk⟩ := ob_if hk
            obtain ⟨g84, eg84, hk⟩ := ob_lt hk
            refine y_iast hC 67 (hB 67 (by decide) (by decide)) (cl_L_w (u := gw) rfl) h84 (gL σ g84) (by subst eg84; exact (cu_L_w (u := gw) (v := (upd (pL_w gw) t1.toNatClampNeg t0)) rfl rfl)) dX11_stalls_84 85 rfl ?_
            refine y_aload_n hC dX11_stalls_85 0 rfl 86 rfl ?_
            refine y_get hC 66 (hB 66 (by decide) (by decide)) (cl_L (u := g84) rfl) rfl inU11 0 (by decide) w4_98 rfl dX11_stalls_86 89 rfl ?_
            refine y_bipush hC dX11_stalls_89 (v := (18 : Int32)) (by decide) 91 rfl ?_
            refine y_iload hC dX11_stalls_91 5 rfl 93 rfl ?_
            refine y_iadd hC dX11_stalls_93 94 rfl ?_
            refine y_iload hC dX11_stalls_94 5 rfl 96 rfl ?_
            refine y_iload hC dX11_stalls_96 4 rfl 98 rfl ?_
            refine y_bipush hC dX11_stalls_98 (v := (11 : Int32)) (by decide) 100 rfl ?_
            refine y_irem hC dX11_stalls_100 (by decide) 101 rfl ?_
            refine y_icmp_ge hC dX11_stalls_101 108 (by decide) 104 rfl (fun h101 => ?_) (fun h101 => ?_)
            · have hk := ob_pos h101 hk
              refine y_iload_n hC dX11_stalls_108 2 rfl 109 rfl ?_
              refine y_sub [0, 1, 2, 3, 4, 5] rfl ?_
              exact J109 v4 v5 a2 ((18 : Int32) + v5) g84 hk
            · have hk := ob_neg h101 hk
              refine y_iload_n hC dX11_stalls_104 1 rfl 105 rfl ?_
              refine y_goto hC dX11_stalls_105 109 (by decide) ?_
              refine y_sub [0, 1, 2, 3, 4, 5] rfl ?_
              exact J109 v4 v5 a1 ((18 : Int32) + v5) g84 hk
          refine y_iload hC dX11_stalls_53 5 rfl 55 rfl ?_
          refine y_bipush hC dX11_stalls_55 (v := (10 : Int32)) (by decide) 57 rfl ?_
          refine y_icmp_ge hC dX11_stalls_57 116 (by decide) 60 rfl (fun h57 => ?_) (fun h57 => ?_)
          · have hk := ob_pos h57 hk
            refine y_sub [0, 1, 2, 3, 4] rfl ?_
            exact J116 q53.1 q53.2.2 hk
          · have hk := ob_neg h57 hk
            refine y_aload_n hC dX11_stalls_60 0 rfl 61 rfl ?_
            refine y_get hC 66 (hB 66 (by decide) (by decide)) (cl_L (u := q53.2.2) rfl) rfl inU11 0 (by decide) w4_98 rfl dX11_stalls_61 64 rfl ?_
            refine y_bipush hC dX11_stalls_64 (v := (8 : Int32)) (by decide) 66 rfl ?_
            refine y_iload hC dX11_stalls_66 5 rfl 68 rfl ?_
            refine y_iadd hC dX11_stalls_68 69 rfl ?_
            refine y_iload hC dX11_stalls_69 5 rfl 71 rfl ?_
            refine y_iload hC dX11_stalls_71 4 rfl 73 rfl ?_
            refine y_bipush hC dX11_stalls_73 (v := (11 : Int32)) (by decide) 75 rfl ?_
            refine y_idiv hC dX11_stalls_75 (by decide) 76 rfl ?_
            refine y_icmp_ge hC dX11_stalls_76 83 (by decide) 79 rfl (fun h76 => ?_) (fun h76 => ?_)
            · have hk := ob_pos h76 hk
              refine y_iload_n hC dX11_stalls_83 2 rfl 84 rfl ?_
              refine y_sub [0, 1, 2, 3, 4, 5] rfl ?_
              exact J84 q53.1 q53.2.1 a2 ((8 : Int32) + q53.2.1) q53.2.2 hk
            · have hk := ob_neg h76 hk
              refine y_iload_n hC dX11_stalls_79 1 rfl 80 rfl ?_
              refine y_goto hC dX11_stalls_80 84 (by decide) ?_
              refine y_sub [0, 1, 2, 3, 4, 5] rfl ?_
              exact J84 q53.1 q53.2.1 a1 ((8 : Int32) + q53.2.1) q53.2.2 hk
      refine y_iload hC dX11_stalls_43 4 rfl 45 rfl ?_
      refine y_bipush hC dX11_stalls_45 (v := (121 : Int32)) (by decide) 47 rfl ?_
      refine y_icmp_ge hC dX11_stalls_47 151 (by decide) 50 rfl (fun h47 => ?_) (fun h47 => ?_)
      · have hk := ob_pos h47 hk
        refine y_sub [0, 1, 2, 3] rfl ?_
        exact J151 q43.2 hk
      · have hk := ob_neg h47 hk
        refine y_iconst hC dX11_stalls_50 (v := (0 : Int32)) (by decide) 51 rfl ?_
        refine y_istore hC dX11_stalls_51 (by decide) [(5, .int (0 : Int32)), (0, .ref (ad Γ 66)), (1, .int a1), (2, .int a2), (3, .int a3), (4, .int q43.1)] rfl 53 rfl ?_
        refine y_sub [1, 2, 3, 4, 5, 0] rfl ?_
        exact L53 1000 (q43.1, (0 : Int32), q43.2) hk
  have J29 : ∀ (gw : LSt), f_X11_stalls_j29 a1 a2 a3 gw = some x → Y Γ (GA Γ) p l e ({ frames := 5, cells := 0, slots := 0, locals := 117 } : Room) s' m args below meth c' 0 0 (MQ below (Qg Γ (some (.int x.1)) (gL σ x.2)) args s' 0 0 (GA Γ)) 9 (gL σ gw) 29 [(0, .ref (ad Γ 66)), (1, .int a1), (2, .int a2), (3, .int a3)] [] := by
    intro gw hk
    refine y_aload_n hC dX11_stalls_29 0 rfl 30 rfl ?_
    refine y_bipush hC dX11_stalls_30 (v := (-10 : Int32)) (by decide) 32 rfl ?_
    obtain ⟨x32, hx32, hk⟩ := ob_bind hk
    refine y_callV hC 66 (hB 66 (by decide) (by decide)) (cl_L (u := gw) rfl) rfl (c_X11_badAs hJ hB l σ gw (-10 : Int32) x32 hx32) rfl ⟨w5_154, w1_13, cwd_X11_badAs, by decide, by decide⟩ w5_151 w5_153 ws5_13 rfl rfl (Nat.le_of_ble_eq_true rfl) (by decide) dX11_stalls_32 35 rfl (gL σ x32.2) rfl [.int x32.1] rfl ?_
    have e := Option.some.inj hk
    exact y_iret hC hr hlk (by rw [← e]) (by first | rfl | rw [← e]) dX11_stalls_35
  refine y_iload_n hC dX11_stalls_0 1 rfl 1 rfl ?_
  obtain ⟨x1, hx1, hk⟩ := ob_bind hk
  refine y_callS hC (c_X11_isPrice hJ l (gL σ w) a1 x1 hx1) rfl ⟨w4_177, w1_13, cwd_X11_isPrice, by decide, by decide⟩ w4_175 w4_176 rfl rfl (Nat.le_of_ble_eq_true rfl) (by decide) dX11_stalls_1 4 rfl (gL σ w) rfl [.int x1] rfl ?_
  refine y_if_eq hC dX11_stalls_4 29 (by decide) 7 rfl (fun h4 => ?_) (fun h4 => ?_)
  · have hk := ob_pos h4 hk
    refine y_sub [0, 1, 2, 3] rfl ?_
    exact J29 w hk
  · have hk := ob_neg h4 hk
    refine y_iload_n hC dX11_stalls_7 2 rfl 8 rfl ?_
    obtain ⟨x8, hx8, hk⟩ := ob_bind hk
    refine y_callS hC (c_X11_isPrice hJ l (gL σ w) a2 x8 hx8) rfl ⟨w4_177, w1_13, cwd_X11_isPrice, by decide, by decide⟩ w4_175 w4_176 rfl rfl (Nat.le_of_ble_eq_true rfl) (by decide) dX11_stalls_8 11 rfl (gL σ w) rfl [.int x8] rfl ?_
    refine y_if_eq hC dX11_stalls_11 29 (by decide) 14 rfl (fun h11 => ?_) (fun h11 => ?_)
    · have hk := ob_pos h11 hk
      refine y_sub [0, 1, 2, 3] rfl ?_
      exact J29 w hk
    · have hk := ob_neg h11 hk
      refine y_iload_n hC dX11_stalls_14 2 rfl 15 rfl ?_
      refine y_iload_n hC dX11_stalls_15 1 rfl 16 rfl ?_
      refine y_icmp_gt hC dX11_stalls_16 29 (by decide) 19 rfl (fun h16 => ?_) (fun h16 => ?_)
      · have hk := ob_pos h16 hk
        refine y_sub [0, 1, 2, 3] rfl ?_
        exact J29 w hk
      · have hk := ob_neg h16 hk
        refine y_iload_n hC dX11_stalls_19 3 rfl 20 rfl ?_
        refine y_i2l hC dX11_stalls_20 21 rfl ?_
        refine y_lconst hC dX11_stalls_21 (v := (0 : Int64)) (by decide) 22 rfl ?_
        refine y_lconst hC dX11_stalls_22 (v := (1 : Int64)) (by decide) 23 rfl ?_
        obtain ⟨x23, hx23, hk⟩ := ob_bind hk
        refine y_callS hC (c_X11_in hJ l (gL σ w) a3.toInt64 (0 : Int64) (1 : Int64) x23 hx23) rfl ⟨w4_181, w1_13, cwd_X11_in, by decide, by decide⟩ w4_179 w4_180 rfl rfl (Nat.le_of_ble_eq_true rfl) (by decide) dX11_stalls_23 26 rfl (gL σ w) rfl [.int x23] rfl ?_
        refine y_if_ne hC dX11_stalls_26 36 (by decide) 29 rfl (fun h26 => ?_) (fun h26 => ?_)
        · have hk := ob_neg h26 hk
          refine y_aload_n hC dX11_stalls_36 0 rfl 37 rfl ?_
          obtain ⟨x37, hx37, hk⟩ := ob_bind hk
          refine y_callV hC 66 (hB 66 (by decide) (by decide)) (cl_L (u := w) rfl) rfl (c_X11_lays hJ hB l σ w x37 hx37) rfl ⟨w5_133, w1_13, cwd_X11_lays, by decide, by decide⟩ w5_130 w5_132 ws5_11 rfl rfl (Nat.le_of_ble_eq_true rfl) (by decide) dX11_stalls_37 40 rfl (gL σ x37) rfl [] rfl ?_
          refine y_iconst hC dX11_stalls_40 (v := (0 : Int32)) (by decide) 41 rfl ?_
          refine y_istore hC dX11_stalls_41 (by decide) [(4, .int (0 : Int32)), (0, .ref (ad Γ 66)), (1, .int a1), (2, .int a2), (3, .int a3)] rfl 43 rfl ?_
          refine y_sub [1, 2, 3, 4, 0] rfl ?_
          exact L43 1000 ((0 : Int32), x37) hk
        · have hk := ob_pos h26 hk
          refine y_sub [0, 1, 2, 3] rfl ?_
          exact J29 w hk
def f_X11_tells_j31 (a1 : Int64) (a2 : Int64) (v5 : Int64) (gw : LSt) : Option (LSt) :=
  if v5 = 0 then none else 
    (lt (sL_above gw (a1 / v5)) fun g36 => 
    (if v5 = 0 then none else 
    (lt (sL_below g36 (a2 / v5)) fun g44 => 
    (some g44))))
def f_X11_tells_s6 (a1 : Int64) (a2 : Int64) (K6 : (Int64 × Int64 × LSt) → Option (LSt)) (q6 : Int64 × Int64 × LSt) : Option (LSt) :=
  if (lg_cmp q6.2.1 (0 : Int64)) = 0 then
    f_X11_tells_j31 a1 a2 q6.1 q6.2.2
  else
    if q6.2.1 = 0 then none else 
      (lt (q6.1 - q6.1 / q6.2.1 * q6.2.1) fun n18 => 
      (K6 (q6.2.1, n18, q6.2.2)))
def f_X11_tells (w : LSt) (a1 : Int64) (a2 : Int64) : Option (LSt) :=
  lp (f_X11_tells_s6 a1 a2) 1000 (a1, a2, w)
theorem cwd_X11_tells : yX11_tells.cls ≠ "java/lang/invoke/MethodHandle" ∧ yX11_tells.cls ≠ "java/lang/invoke/VarHandle" ∧ (parseMethodDescriptor yX11_tells.desc).map (fun d => d.parameters.length) = some 2 := by decide +kernel
set_option maxHeartbeats 4000000 in
set_option maxRecDepth 100000 in
theorem c_X11_tells {Γ : GC} (hJ : GJ Γ) (hB : ∀ i, 66 ≤ i → i < 77 → act Γ i) (l : Launch) (σ : GSt) (w : LSt) (a1 : Int64) (a2 : Int64) (x : LSt) (hk : f_X11_tells w a1 a2 = some x) : Mt Γ l yX11_tells cX11_tells 11 none 0 0 [.ref (ad Γ 66), .long a1, .long a2] (gL σ w) none (gL σ x) := by
  refine y_enter (by decide) hJ (Nat.le_of_ble_eq_true rfl) [(0, .ref (ad Γ 66)), (1, .long a1), (3, .long a2)] rfl ?_
  intro p e s' m args below meth c' hC hr hlk
  have J31 : ∀ (v5 : Int64) (gw : LSt), f_X11_tells_j31 a1 a2 v5 gw = some x → Y Γ (GA Γ) p l e ({ frames := 0, cells := 0, slots := 0, locals := 0 } : Room) s' m args below meth c' 0 0 (MQ below (Qg Γ none (gL σ x)) args s' 0 0 (GA Γ)) 11 (gL σ gw) 31 [(0, .ref (ad Γ 66)), (1, .long a1), (3, .long a2), (5, .long v5)] [] := by
    intro v5 gw hk
    refine y_aload_n hC dX11_tells_31 0 rfl 32 rfl ?_
    refine y_lload_n hC dX11_tells_32 1 rfl 33 rfl ?_
    refine y_lload hC dX11_tells_33 3 rfl 35 rfl ?_
    obtain ⟨h35, hk⟩ := ob_ifn hk
    refine y_ldiv hC dX11_tells_35 h35 36 rfl ?_
    obtain ⟨g36, eg36, hk⟩ := ob_lt hk
    refine y_put hC 66 (hB 66 (by decide) (by decide)) (cl_L (u := gw) rfl) rfl inU11 tyX11_ok nmX11 5 (by decide) w4_103 rfl rfl rfl rfl (Nat.le_of_ble_eq_true rfl) (gL σ g36) (by subst eg36; exact (cu_L_above (u := gw) (v := (a1 / v5)) rfl rfl)) dX11_tells_36 39 rfl ?_
    refine y_aload_n hC dX11_tells_39 0 rfl 40 rfl ?_
    refine y_lload_n hC dX11_tells_40 2 rfl 41 rfl ?_
    refine y_lload hC dX11_tells_41 3 rfl 43 rfl ?_
    obtain ⟨h43, hk⟩ := ob_ifn hk
    refine y_ldiv hC dX11_tells_43 h43 44 rfl ?_
    obtain ⟨g44, eg44, hk⟩ := ob_lt hk
    refine y_put hC 66 (hB 66 (by decide) (by decide)) (cl_L (u := g36) rfl) rfl inU11 tyX11_ok nmX11 6 (by decide) w4_104 rfl rfl rfl rfl (Nat.le_of_ble_eq_true rfl) (gL σ g44) (by subst eg44; exact (cu_L_below (u := g36) (v := (a2 / v5)) rfl rfl)) dX11_tells_44 47 rfl ?_
    have e := Option.some.inj hk
    exact y_vret hC hr hlk (by rw [← e]) dX11_tells_47
  have L6 : ∀ (n6 : Nat) (q6 : Int64 × Int64 × LSt), lp (f_X11_tells_s6 a1 a2) n6 q6 = some x → Y Γ (GA Γ) p l e ({ frames := 0, cells := 0, slots := 0, locals := 0 } : Room) s' m args below meth c' 0 0 (MQ below (Qg Γ none (gL σ x)) args s' 0 0 (GA Γ)) 11 (gL σ q6.2.2) 6 [(0, .ref (ad Γ 66)), (1, .long a1), (3, .long a2), (5, .long q6.1), (7, .long q6.2.1)] [] := by
    intro n6
    induction n6 with
    | zero => intro q6 hk; exact (lp_zero hk).elim
    | succ n6 ih6 =>
      intro q6 hk
      have hk : f_X11_tells_s6 a1 a2 (lp (f_X11_tells_s6 a1 a2) n6) q6 = some x := (lp_succ _ _ _).symm.trans hk
      refine y_lload hC dX11_tells_6 4 rfl 8 rfl ?_
      refine y_lconst hC dX11_tells_8 (v := (0 : Int64)) (by decide) 9 rfl ?_
      refine y_lcmp hC dX11_tells_9 10 rfl ?_
      refine y_if_eq hC dX11_tells_10 31 (by decide) 13 rfl (fun h10 => ?_) (fun h10 => ?_)
      · have hk := ob_pos h10 hk
        refine y_sub [0, 1, 2, 3] rfl ?_
        exact J31 q6.1 q6.2.2 hk
      · have hk := ob_neg h10 hk
        refine y_lload hC dX11_tells_13 3 rfl 15 rfl ?_
        refine y_lload hC dX11_tells_15 4 rfl 17 rfl ?_
        obtain ⟨h17, hk⟩ := ob_ifn hk
        refine y_lrem hC dX11_tells_17 h17 18 rfl ?_
        obtain ⟨n18, en18, hk⟩ := ob_lt hk
        refine y_topl en18 ?_
        refine y_lstore hC dX11_tells_18 (by decide) [(9, .long n18), (0, .ref (ad Γ 66)), (1, .long a1), (3, .long a2), (5, .long q6.1), (7, .long q6.2.1)] rfl 20 rfl ?_
        refine y_lload hC dX11_tells_20 5 rfl 22 rfl ?_
        refine y_lstore hC dX11_tells_22 (by decide) [(5, .long q6.2.1), (9, .long n18), (0, .ref (ad Γ 66)), (1, .long a1), (3, .long a2), (7, .long q6.2.1)] rfl 24 rfl ?_
        refine y_lload hC dX11_tells_24 1 rfl 26 rfl ?_
        refine y_lstore hC dX11_tells_26 (by decide) [(7, .long n18), (5, .long q6.2.1), (9, .long n18), (0, .ref (ad Γ 66)), (1, .long a1), (3, .long a2)] rfl 28 rfl ?_
        refine y_goto hC dX11_tells_28 6 (by decide) ?_
        refine y_sub [3, 4, 5, 1, 0] rfl ?_
        exact ih6 (q6.2.1, n18, q6.2.2) hk
  refine y_lload_n hC dX11_tells_0 1 rfl 1 rfl ?_
  refine y_lstore hC dX11_tells_1 (by decide) [(5, .long a1), (0, .ref (ad Γ 66)), (1, .long a1), (3, .long a2)] rfl 3 rfl ?_
  refine y_lload_n hC dX11_tells_3 3 rfl 4 rfl ?_
  refine y_lstore hC dX11_tells_4 (by decide) [(7, .long a2), (5, .long a1), (0, .ref (ad Γ 66)), (1, .long a1), (3, .long a2)] rfl 6 rfl ?_
  refine y_sub [2, 3, 4, 1, 0] rfl ?_
  exact L6 1000 (a1, a2, w) hk
def f_X11_mean_j142 (a1 : Int32) (v2 : Int64) (v4 : Int64) (gw : LSt) : Option (Int32 × LSt) :=
  (f_X11_tells gw v2 v4).bind fun x146 => 
    (some ((1 : Int32), x146))
def f_X11_mean_j119 (a1 : Int32) (K58 : (Int64 × Int64 × Int32 × LSt) → Option (Int32 × LSt)) (v2 : Int64) (v4 : Int64) (v6 : Int32) (v7 : Int64) (gw : LSt) : Option (Int32 × LSt) :=
  (f_X11_tries gw v6).bind fun x122 => 
    (lt (v2 + (v7 * (pL_takings x122).toInt64)) fun n135 => 
    (K58 (n135, v4, (v6 + (1 : Int32)), x122)))
def f_X11_mean_j110 (a1 : Int32) (K58 : (Int64 × Int64 × Int32 × LSt) → Option (Int32 × LSt)) (K77 : (Int64 × Int64 × Int32 × Int64 × Int32 × LSt) → Option (Int32 × LSt)) (v2 : Int64) (v4 : Int64) (v6 : Int32) (v9 : Int32) (t0 : Int64) (t1 : Int64) (gw : LSt) : Option (Int32 × LSt) :=
  K77 (v2, v4, v6, (t1 * t0), (v9 + (1 : Int32)), gw)
def f_X11_mean_s77 (a1 : Int32) (K58 : (Int64 × Int64 × Int32 × LSt) → Option (Int32 × LSt)) (K77 : (Int64 × Int64 × Int32 × Int64 × Int32 × LSt) → Option (Int32 × LSt)) (q77 : Int64 × Int64 × Int32 × Int64 × Int32 × LSt) : Option (Int32 × LSt) :=
  if inb (3 : Int32) 608 then 
    (if (pL_w q77.2.2.2.2.2 (3 : Int32).toNatClampNeg) ≤ q77.2.2.2.2.1 then
      f_X11_mean_j119 a1 K58 q77.1 q77.2.1 q77.2.2.1 q77.2.2.2.1 q77.2.2.2.2.2
    else
      (f_X11_has q77.2.2.1 q77.2.2.2.2.1).bind fun x94 => 
        (if x94 = 0 then
          f_X11_mean_j110 a1 K58 K77 q77.1 q77.2.1 q77.2.2.1 q77.2.2.2.2.1 ((10 : Int32) - a1).toInt64 q77.2.2.2.1 q77.2.2.2.2.2
        else
          f_X11_mean_j110 a1 K58 K77 q77.1 q77.2.1 q77.2.2.1 q77.2.2.2.2.1 a1.toInt64 q77.2.2.2.1 q77.2.2.2.2.2))
  else none
def f_X11_mean_s58 (a1 : Int32) (K58 : (Int64 × Int64 × Int32 × LSt) → Option (Int32 × LSt)) (q58 : Int64 × Int64 × Int32 × LSt) : Option (Int32 × LSt) :=
  if inb (3 : Int32) 608 then 
    (if ((1 : Int32) <<< ((pL_w q58.2.2.2 (3 : Int32).toNatClampNeg) &&& 31)) ≤ q58.2.2.1 then
      f_X11_mean_j142 a1 q58.1 q58.2.1 q58.2.2.2
    else
      lp (f_X11_mean_s77 a1 K58) 1000 (q58.1, q58.2.1, q58.2.2.1, (1 : Int64), (0 : Int32), q58.2.2.2))
  else none
def f_X11_mean_j55 (a1 : Int32) (v2 : Int64) (v4 : Int64) (gw : LSt) : Option (Int32 × LSt) :=
  lp (f_X11_mean_s58 a1) 1000 (v2, v4, (0 : Int32), gw)
def f_X11_mean_s30 (a1 : Int32) (K30 : (Int64 × Int64 × Int32 × LSt) → Option (Int32 × LSt)) (q30 : Int64 × Int64 × Int32 × LSt) : Option (Int32 × LSt) :=
  if inb (3 : Int32) 608 then 
    (if (pL_w q30.2.2.2 (3 : Int32).toNatClampNeg) ≤ q30.2.2.1 then
      f_X11_mean_j55 a1 q30.1 q30.2.1 q30.2.2.2
    else
      K30 (q30.1, (q30.2.1 * (10 : Int64)), (q30.2.2.1 + (1 : Int32)), q30.2.2.2))
  else none
def f_X11_mean (w : LSt) (a1 : Int32) : Option (Int32 × LSt) :=
  (f_X11_in a1.toInt64 (0 : Int64) (10 : Int64)).bind fun x6 => 
    (if x6 = 0 then
      (f_X11_bad w).bind fun x13 => 
        (some (x13.1, x13.2))
    else
      lt (sL_shouted w (-1 : Int32)) fun g19 => 
        (lp (f_X11_mean_s30 a1) 1000 ((0 : Int64), (1 : Int64), (0 : Int32), g19)))
theorem cwd_X11_mean : yX11_mean.cls ≠ "java/lang/invoke/MethodHandle" ∧ yX11_mean.cls ≠ "java/lang/invoke/VarHandle" ∧ (parseMethodDescriptor yX11_mean.desc).map (fun d => d.parameters.length) = some 1 := by decide +kernel
set_option maxHeartbeats 4000000 in
set_option maxRecDepth 100000 in
theorem c_X11_mean {Γ : GC} (hJ : GJ Γ) (hB : ∀ i, 66 ≤ i → i < 77 → act Γ i) (l : Launch) (σ : GSt) (w : LSt) (a1 : Int32) (x : Int32 × LSt) (hk : f_X11_mean w a1 = some x) : Mt Γ l yX11_mean cX11_mean 10 (some .int) 5 117 [.ref (ad Γ 66), .int a1] (gL σ w) (some (.int x.1)) (gL σ x.2) := by
  refine y_enter (by decide) hJ (Nat.le_of_ble_eq_true rfl) [(0, .ref (ad Γ 66)), (1, .int a1)] rfl ?_
  intro p e s' m args below meth c' hC hr hlk
  have J142 : ∀ (v2 : Int64) (v4 : Int64) (gw : LSt), f_X11_mean_j142 a1 v2 v4 gw = some x → Y Γ (GA Γ) p l e ({ frames := 5, cells := 0, slots := 0, locals := 117 } : Room) s' m args below meth c' 0 0 (MQ below (Qg Γ (some (.int x.1)) (gL σ x.2)) args s' 0 0 (GA Γ)) 10 (gL σ gw) 142 [(0, .ref (ad Γ 66)), (1, .int a1), (2, .long v2), (4, .long v4)] [] := by
    intro v2 v4 gw hk
    refine y_aload_n hC dX11_mean_142 0 rfl 143 rfl ?_
    refine y_lload_n hC dX11_mean_143 2 rfl 144 rfl ?_
    refine y_lload hC dX11_mean_144 3 rfl 146 rfl ?_
    obtain ⟨x146, hx146, hk⟩ := ob_bind hk
    refine y_callV hC 66 (hB 66 (by decide) (by decide)) (cl_L (u := gw) rfl) rfl (c_X11_tells hJ hB l σ gw v2 v4 x146 hx146) rfl ⟨w5_163, w1_13, cwd_X11_tells, by decide, by decide⟩ w5_160 w5_162 ws5_14 rfl rfl (Nat.le_of_ble_eq_true rfl) (by decide) dX11_mean_146 149 rfl (gL σ x146) rfl [] rfl ?_
    refine y_iconst hC dX11_mean_149 (v := (1 : Int32)) (by decide) 150 rfl ?_
    have e := Option.some.inj hk
    exact y_iret hC hr hlk (by rw [← e]) (by first | rfl | rw [← e]) dX11_mean_150
  have L58 : ∀ (n58 : Nat) (q58 : Int64 × Int64 × Int32 × LSt), lp (f_X11_mean_s58 a1) n58 q58 = some x → Y Γ (GA Γ) p l e ({ frames := 5, cells := 0, slots := 0, locals := 117 } : Room) s' m args below meth c' 0 0 (MQ below (Qg Γ (some (.int x.1)) (gL σ x.2)) args s' 0 0 (GA Γ)) 10 (gL σ q58.2.2.2) 58 [(0, .ref (ad Γ 66)), (1, .int a1), (2, .long q58.1), (4, .long q58.2.1), (6, .int q58.2.2.1)] [] := by
    intro n58
    induction n58 with
    | zero => intro q58 hk; exact (lp_zero hk).elim
    | succ n58 ih58 =>
      intro q58 hk
      have hk : f_X11_mean_s58 a1 (lp (f_X11_mean_s58 a1) n58) q58 = some x := (lp_succ _ _ _).symm.trans hk
      have J119 : ∀ (v2 : Int64) (v4 : Int64) (v6 : Int32) (v7 : Int64) (gw : LSt), f_X11_mean_j119 a1 (lp (f_X11_mean_s58 a1) n58) v2 v4 v6 v7 gw = some x → Y Γ (GA Γ) p l e ({ frames := 5, cells := 0, slots := 0, locals := 117 } : Room) s' m args below meth c' 0 0 (MQ below (Qg Γ (some (.int x.1)) (gL σ x.2)) args s' 0 0 (GA Γ)) 10 (gL σ gw) 119 [(0, .ref (ad Γ 66)), (1, .int a1), (2, .long v2), (4, .long v4), (6, .int v6), (7, .long v7)] [] := by
        intro v2 v4 v6 v7 gw hk
        refine y_aload_n hC dX11_mean_119 0 rfl 120 rfl ?_
        refine y_iload hC dX11_mean_120 4 rfl 122 rfl ?_
        obtain ⟨x122, hx122, hk⟩ := ob_bind hk
        refine y_callV hC 66 (hB 66 (by decide) (by decide)) (cl_L (u := gw) rfl) rfl (c_X11_tries hJ hB l σ gw v6 x122 hx122) rfl ⟨w5_61, w1_13, cwd_X11_tries, by decide, by decide⟩ w5_58 w5_60 ws5_0 rfl rfl (Nat.le_of_ble_eq_true rfl) (by decide) dX11_mean_122 125 rfl (gL σ x122) rfl [] rfl ?_
        refine y_lload_n hC dX11_mean_125 2 rfl 126 rfl ?_
        refine y_lload hC dX11_mean_126 5 rfl 128 rfl ?_
        refine y_aload_n hC dX11_mean_128 0 rfl 129 rfl ?_
        refine y_get hC 66 (hB 66 (by decide) (by decide)) (cl_L (u := x122) rfl) rfl inU11 17 (by decide) w4_115 rfl dX11_mean_129 132 rfl ?_
        refine y_i2l hC dX11_mean_132 133 rfl ?_
        refine y_lmul hC dX11_mean_133 134 rfl ?_
        refine y_ladd hC dX11_mean_134 135 rfl ?_
        obtain ⟨n135, en135, hk⟩ := ob_lt hk
        refine y_topl en135 ?_
        refine y_lstore_n hC dX11_mean_135 (by decide) [(2, .long n135), (0, .ref (ad Γ 66)), (1, .int a1), (4, .long v4), (6, .int v6), (7, .long v7)] rfl 136 rfl ?_
        refine y_iinc hC dX11_mean_136 4 rfl (v := (v6 + (1 : Int32))) rfl (by decide) [(6, .int (v6 + (1 : Int32))), (2, .long n135), (0, .ref (ad Γ 66)), (1, .int a1), (4, .long v4), (7, .long v7)] rfl 139 rfl ?_
        refine y_goto hC dX11_mean_139 58 (by decide) ?_
        refine y_sub [2, 3, 1, 4, 0] rfl ?_
        exact ih58 (n135, v4, (v6 + (1 : Int32)), x122) hk
      have L77 : ∀ (n77 : Nat) (q77 : Int64 × Int64 × Int32 × Int64 × Int32 × LSt), lp (f_X11_mean_s77 a1 (lp (f_X11_mean_s58 a1) n58)) n77 q77 = some x → Y Γ (GA Γ) p l e ({ frames := 5, cells := 0, slots := 0, locals := 117 } : Room) s' m args below meth c' 0 0 (MQ below (Qg Γ (some (.int x.1)) (gL σ x.2)) args s' 0 0 (GA Γ)) 10 (gL σ q77.2.2.2.2.2) 77 [(0, .ref (ad Γ 66)), (1, .int a1), (2, .long q77.1), (4, .long q77.2.1), (6, .int q77.2.2.1), (7, .long q77.2.2.2.1), (9, .int q77.2.2.2.2.1)] [] := by
        intro n77
        induction n77 with
        | zero => intro q77 hk; exact (lp_zero hk).elim
        | succ n77 ih77 =>
          intro q77 hk
          have hk : f_X11_mean_s77 a1 (lp (f_X11_mean_s58 a1) n58) (lp (f_X11_mean_s77 a1 (lp (f_X11_mean_s58 a1) n58)) n77) q77 = some x := (lp_succ _ _ _).symm.trans hk
          have J110 : ∀ (v2 : Int64) (v4 : Int64) (v6 : Int32) (v9 : Int32) (t0 : Int64) (t1 : Int64) (gw : LSt), f_X11_mean_j110 a1 (lp (f_X11_mean_s58 a1) n58) (lp (f_X11_mean_s77 a1 (lp (f_X11_mean_s58 a1) n58)) n77) v2 v4 v6 v9 t0 t1 gw = some x → Y Γ (GA Γ) p l e ({ frames := 5, cells := 0, slots := 0, locals := 117 } : Room) s' m args below meth c' 0 0 (MQ below (Qg Γ (some (.int x.1)) (gL σ x.2)) args s' 0 0 (GA Γ)) 10 (gL σ gw) 110 [(0, .ref (ad Γ 66)), (1, .int a1), (2, .long v2), (4, .long v4), (6, .int v6), (9, .int v9)] [.long t0, .long t1] := by
            intro v2 v4 v6 v9 t0 t1 gw hk
            refine y_lmul hC dX11_mean_110 111 rfl ?_
            refine y_lstore hC dX11_mean_111 (by decide) [(7, .long (t1 * t0)), (0, .ref (ad Γ 66)), (1, .int a1), (2, .long v2), (4, .long v4), (6, .int v6), (9, .int v9)] rfl 113 rfl ?_
            refine y_iinc hC dX11_mean_113 6 rfl (v := (v9 + (1 : Int32))) rfl (by decide) [(9, .int (v9 + (1 : Int32))), (7, .long (t1 * t0)), (0, .ref (ad Γ 66)), (1, .int a1), (2, .long v2), (4, .long v4), (6, .int v6)] rfl 116 rfl ?_
            refine y_goto hC dX11_mean_116 77 (by decide) ?_
            refine y_sub [2, 3, 4, 5, 6, 1, 0] rfl ?_
            exact ih77 (v2, v4, v6, (t1 * t0), (v9 + (1 : Int32)), gw) hk
          refine y_iload hC dX11_mean_77 6 rfl 79 rfl ?_
          refine y_aload_n hC dX11_mean_79 0 rfl 80 rfl ?_
          refine y_get hC 66 (hB 66 (by decide) (by decide)) (cl_L (u := q77.2.2.2.2.2) rfl) rfl inU11 0 (by decide) w4_98 rfl dX11_mean_80 83 rfl ?_
          refine y_iconst hC dX11_mean_83 (v := (3 : Int32)) (by decide) 84 rfl ?_
          obtain ⟨h84, hk⟩ := ob_if hk
          refine y_iald hC 67 (hB 67 (by decide) (by decide)) (cl_L_w (u := q77.2.2.2.2.2) rfl) h84 dX11_mean_84 85 rfl ?_
          refine y_icmp_ge hC dX11_mean_85 119 (by decide) 88 rfl (fun h85 => ?_) (fun h85 => ?_)
          · have hk := ob_pos h85 hk
            refine y_sub [0, 1, 2, 3, 4, 5] rfl ?_
            exact J119 q77.1 q77.2.1 q77.2.2.1 q77.2.2.2.1 q77.2.2.2.2.2 hk
          · have hk := ob_neg h85 hk
            refine y_lload hC dX11_mean_88 5 rfl 90 rfl ?_
            refine y_iload hC dX11_mean_90 4 rfl 92 rfl ?_
            refine y_iload hC dX11_mean_92 6 rfl 94 rfl ?_
            obtain ⟨x94, hx94, hk⟩ := ob_bind hk
            refine y_callS hC (c_X11_has hJ l (gL σ q77.2.2.2.2.2) q77.2.2.1 q77.2.2.2.2.1 x94 hx94) rfl ⟨w5_64, w1_13, cwd_X11_has, by decide, by decide⟩ w5_62 w5_63 rfl rfl (Nat.le_of_ble_eq_true rfl) (by decide) dX11_mean_94 97 rfl (gL σ q77.2.2.2.2.2) rfl [.int x94, .long q77.2.2.2.1] rfl ?_
            refine y_if_eq hC dX11_mean_97 105 (by decide) 100 rfl (fun h97 => ?_) (fun h97 => ?_)
            · have hk := ob_pos h97 hk
              refine y_bipush hC dX11_mean_105 (v := (10 : Int32)) (by decide) 107 rfl ?_
              refine y_iload_n hC dX11_mean_107 1 rfl 108 rfl ?_
              refine y_isub hC dX11_mean_108 109 rfl ?_
              refine y_i2l hC dX11_mean_109 110 rfl ?_
              refine y_sub [0, 1, 2, 3, 4, 6] rfl ?_
              exact J110 q77.1 q77.2.1 q77.2.2.1 q77.2.2.2.2.1 ((10 : Int32) - a1).toInt64 q77.2.2.2.1 q77.2.2.2.2.2 hk
            · have hk := ob_neg h97 hk
              refine y_iload_n hC dX11_mean_100 1 rfl 101 rfl ?_
              refine y_i2l hC dX11_mean_101 102 rfl ?_
              refine y_goto hC dX11_mean_102 110 (by decide) ?_
              refine y_sub [0, 1, 2, 3, 4, 6] rfl ?_
              exact J110 q77.1 q77.2.1 q77.2.2.1 q77.2.2.2.2.1 a1.toInt64 q77.2.2.2.1 q77.2.2.2.2.2 hk
      refine y_iload hC dX11_mean_58 4 rfl 60 rfl ?_
      refine y_iconst hC dX11_mean_60 (v := (1 : Int32)) (by decide) 61 rfl ?_
      refine y_aload_n hC dX11_mean_61 0 rfl 62 rfl ?_
      refine y_get hC 66 (hB 66 (by decide) (by decide)) (cl_L (u := q58.2.2.2) rfl) rfl inU11 0 (by decide) w4_98 rfl dX11_mean_62 65 rfl ?_
      refine y_iconst hC dX11_mean_65 (v := (3 : Int32)) (by decide) 66 rfl ?_
      obtain ⟨h66, hk⟩ := ob_if hk
      refine y_iald hC 67 (hB 67 (by decide) (by decide)) (cl_L_w (u := q58.2.2.2) rfl) h66 dX11_mean_66 67 rfl ?_
      refine y_ishl hC dX11_mean_67 68 rfl ?_
      refine y_icmp_ge hC dX11_mean_68 142 (by decide) 71 rfl (fun h68 => ?_) (fun h68 => ?_)
      · have hk := ob_pos h68 hk
        refine y_sub [0, 1, 2, 3] rfl ?_
        exact J142 q58.1 q58.2.1 q58.2.2.2 hk
      · have hk := ob_neg h68 hk
        refine y_lconst hC dX11_mean_71 (v := (1 : Int64)) (by decide) 72 rfl ?_
        refine y_lstore hC dX11_mean_72 (by decide) [(7, .long (1 : Int64)), (0, .ref (ad Γ 66)), (1, .int a1), (2, .long q58.1), (4, .long q58.2.1), (6, .int q58.2.2.1)] rfl 74 rfl ?_
        refine y_iconst hC dX11_mean_74 (v := (0 : Int32)) (by decide) 75 rfl ?_
        refine y_istore hC dX11_mean_75 (by decide) [(9, .int (0 : Int32)), (7, .long (1 : Int64)), (0, .ref (ad Γ 66)), (1, .int a1), (2, .long q58.1), (4, .long q58.2.1), (6, .int q58.2.2.1)] rfl 77 rfl ?_
        refine y_sub [2, 3, 4, 5, 6, 1, 0] rfl ?_
        exact L77 1000 (q58.1, q58.2.1, q58.2.2.1, (1 : Int64), (0 : Int32), q58.2.2.2) hk
  have J55 : ∀ (v2 : Int64) (v4 : Int64) (gw : LSt), f_X11_mean_j55 a1 v2 v4 gw = some x → Y Γ (GA Γ) p l e ({ frames := 5, cells := 0, slots := 0, locals := 117 } : Room) s' m args below meth c' 0 0 (MQ below (Qg Γ (some (.int x.1)) (gL σ x.2)) args s' 0 0 (GA Γ)) 10 (gL σ gw) 55 [(0, .ref (ad Γ 66)), (1, .int a1), (2, .long v2), (4, .long v4)] [] := by
    intro v2 v4 gw hk
    refine y_iconst hC dX11_mean_55 (v := (0 : Int32)) (by decide) 56 rfl ?_
    refine y_istore hC dX11_mean_56 (by decide) [(6, .int (0 : Int32)), (0, .ref (ad Γ 66)), (1, .int a1), (2, .long v2), (4, .long v4)] rfl 58 rfl ?_
    refine y_sub [1, 2, 3, 4, 0] rfl ?_
    exact L58 1000 (v2, v4, (0 : Int32), gw) hk
  have L30 : ∀ (n30 : Nat) (q30 : Int64 × Int64 × Int32 × LSt), lp (f_X11_mean_s30 a1) n30 q30 = some x → Y Γ (GA Γ) p l e ({ frames := 5, cells := 0, slots := 0, locals := 117 } : Room) s' m args below meth c' 0 0 (MQ below (Qg Γ (some (.int x.1)) (gL σ x.2)) args s' 0 0 (GA Γ)) 10 (gL σ q30.2.2.2) 30 [(0, .ref (ad Γ 66)), (1, .int a1), (2, .long q30.1), (4, .long q30.2.1), (6, .int q30.2.2.1)] [] := by
    intro n30
    induction n30 with
    | zero => intro q30 hk; exact (lp_zero hk).elim
    | succ n30 ih30 =>
      intro q30 hk
      have hk : f_X11_mean_s30 a1 (lp (f_X11_mean_s30 a1) n30) q30 = some x := (lp_succ _ _ _).symm.trans hk
      refine y_iload hC dX11_mean_30 4 rfl 32 rfl ?_
      refine y_aload_n hC dX11_mean_32 0 rfl 33 rfl ?_
      refine y_get hC 66 (hB 66 (by decide) (by decide)) (cl_L (u := q30.2.2.2) rfl) rfl inU11 0 (by decide) w4_98 rfl dX11_mean_33 36 rfl ?_
      refine y_iconst hC dX11_mean_36 (v := (3 : Int32)) (by decide) 37 rfl ?_
      obtain ⟨h37, hk⟩ := ob_if hk
      refine y_iald hC 67 (hB 67 (by decide) (by decide)) (cl_L_w (u := q30.2.2.2) rfl) h37 dX11_mean_37 38 rfl ?_
      refine y_icmp_ge hC dX11_mean_38 55 (by decide) 41 rfl (fun h38 => ?_) (fun h38 => ?_)
      · have hk := ob_pos h38 hk
        refine y_sub [0, 1, 2, 3] rfl ?_
        exact J55 q30.1 q30.2.1 q30.2.2.2 hk
      · have hk := ob_neg h38 hk
        refine y_lload hC dX11_mean_41 3 rfl 43 rfl ?_
        refine y_ldc2 hC (v := (10 : Int64)) w5_159 dX11_mean_43 46 rfl ?_
        refine y_lmul hC dX11_mean_46 47 rfl ?_
        refine y_lstore hC dX11_mean_47 (by decide) [(4, .long (q30.2.1 * (10 : Int64))), (0, .ref (ad Γ 66)), (1, .int a1), (2, .long q30.1), (6, .int q30.2.2.1)] rfl 49 rfl ?_
        refine y_iinc hC dX11_mean_49 4 rfl (v := (q30.2.2.1 + (1 : Int32))) rfl (by decide) [(6, .int (q30.2.2.1 + (1 : Int32))), (4, .long (q30.2.1 * (10 : Int64))), (0, .ref (ad Γ 66)), (1, .int a1), (2, .long q30.1)] rfl 52 rfl ?_
        refine y_goto hC dX11_mean_52 30 (by decide) ?_
        refine y_sub [2, 3, 4, 1, 0] rfl ?_
        exact ih30 (q30.1, (q30.2.1 * (10 : Int64)), (q30.2.2.1 + (1 : Int32)), q30.2.2.2) hk
  refine y_iload_n hC dX11_mean_0 1 rfl 1 rfl ?_
  refine y_i2l hC dX11_mean_1 2 rfl ?_
  refine y_lconst hC dX11_mean_2 (v := (0 : Int64)) (by decide) 3 rfl ?_
  refine y_ldc2 hC (v := (10 : Int64)) w5_159 dX11_mean_3 6 rfl ?_
  obtain ⟨x6, hx6, hk⟩ := ob_bind hk
  refine y_callS hC (c_X11_in hJ l (gL σ w) a1.toInt64 (0 : Int64) (10 : Int64) x6 hx6) rfl ⟨w4_181, w1_13, cwd_X11_in, by decide, by decide⟩ w4_179 w4_180 rfl rfl (Nat.le_of_ble_eq_true rfl) (by decide) dX11_mean_6 9 rfl (gL σ w) rfl [.int x6] rfl ?_
  refine y_if_ne hC dX11_mean_9 17 (by decide) 12 rfl (fun h9 => ?_) (fun h9 => ?_)
  · have hk := ob_neg h9 hk
    refine y_aload_n hC dX11_mean_17 0 rfl 18 rfl ?_
    refine y_iconst hC dX11_mean_18 (v := (-1 : Int32)) (by decide) 19 rfl ?_
    obtain ⟨g19, eg19, hk⟩ := ob_lt hk
    refine y_put hC 66 (hB 66 (by decide) (by decide)) (cl_L (u := w) rfl) rfl inU11 tyX11_ok nmX11 13 (by decide) w4_111 rfl rfl rfl rfl (Nat.le_of_ble_eq_true rfl) (gL σ g19) (by subst eg19; exact (cu_L_shouted (u := w) (v := (-1 : Int32)) rfl rfl)) dX11_mean_19 22 rfl ?_
    refine y_lconst hC dX11_mean_22 (v := (0 : Int64)) (by decide) 23 rfl ?_
    refine y_lstore_n hC dX11_mean_23 (by decide) [(2, .long (0 : Int64)), (0, .ref (ad Γ 66)), (1, .int a1)] rfl 24 rfl ?_
    refine y_lconst hC dX11_mean_24 (v := (1 : Int64)) (by decide) 25 rfl ?_
    refine y_lstore hC dX11_mean_25 (by decide) [(4, .long (1 : Int64)), (2, .long (0 : Int64)), (0, .ref (ad Γ 66)), (1, .int a1)] rfl 27 rfl ?_
    refine y_iconst hC dX11_mean_27 (v := (0 : Int32)) (by decide) 28 rfl ?_
    refine y_istore hC dX11_mean_28 (by decide) [(6, .int (0 : Int32)), (4, .long (1 : Int64)), (2, .long (0 : Int64)), (0, .ref (ad Γ 66)), (1, .int a1)] rfl 30 rfl ?_
    refine y_sub [3, 4, 2, 1, 0] rfl ?_
    exact L30 1000 ((0 : Int64), (1 : Int64), (0 : Int32), g19) hk
  · have hk := ob_pos h9 hk
    refine y_aload_n hC dX11_mean_12 0 rfl 13 rfl ?_
    obtain ⟨x13, hx13, hk⟩ := ob_bind hk
    refine y_callV hC 66 (hB 66 (by decide) (by decide)) (cl_L (u := w) rfl) rfl (c_X11_bad hJ hB l σ w x13 hx13) rfl ⟨w4_186, w1_13, cwd_X11_bad, by decide, by decide⟩ w4_183 w4_185 ws3_15 rfl rfl (Nat.le_of_ble_eq_true rfl) (by decide) dX11_mean_13 16 rfl (gL σ x13.2) rfl [.int x13.1] rfl ?_
    have e := Option.some.inj hk
    exact y_iret hC hr hlk (by rw [← e]) (by first | rfl | rw [← e]) dX11_mean_16
def f_X11_shout (w : LSt) (a1 : Int32) : Option (Int32 × LSt) :=
  (f_X11_isHour a1).bind fun x1 => 
    (if x1 = 0 then
      (f_X11_badAs w (-10000 : Int32)).bind fun x11 => 
        (some (x11.1, x11.2))
    else
      (f_X11_triesAll w).bind fun x16 => 
        (lt (sL_shouted x16 a1) fun g26 => 
        ((f_X11_tries g26 (255 : Int32)).bind fun x33 => 
        (lt (sL_shouted x33 (-1 : Int32)) fun g38 => 
        (some (((pL_takings g38) - (pL_takings x16)), g38))))))
theorem cwd_X11_shout : yX11_shout.cls ≠ "java/lang/invoke/MethodHandle" ∧ yX11_shout.cls ≠ "java/lang/invoke/VarHandle" ∧ (parseMethodDescriptor yX11_shout.desc).map (fun d => d.parameters.length) = some 1 := by decide +kernel
set_option maxHeartbeats 4000000 in
set_option maxRecDepth 100000 in
theorem c_X11_shout {Γ : GC} (hJ : GJ Γ) (hB : ∀ i, 66 ≤ i → i < 77 → act Γ i) (l : Launch) (σ : GSt) (w : LSt) (a1 : Int32) (x : Int32 × LSt) (hk : f_X11_shout w a1 = some x) : Mt Γ l yX11_shout cX11_shout 3 (some .int) 6 137 [.ref (ad Γ 66), .int a1] (gL σ w) (some (.int x.1)) (gL σ x.2) := by
  refine y_enter (by decide) hJ (Nat.le_of_ble_eq_true rfl) [(0, .ref (ad Γ 66)), (1, .int a1)] rfl ?_
  intro p e s' m args below meth c' hC hr hlk
  refine y_iload_n hC dX11_shout_0 1 rfl 1 rfl ?_
  obtain ⟨x1, hx1, hk⟩ := ob_bind hk
  refine y_callS hC (c_X11_isHour hJ l (gL σ w) a1 x1 hx1) rfl ⟨w4_201, w1_13, cwd_X11_isHour, by decide, by decide⟩ w4_199 w4_200 rfl rfl (Nat.le_of_ble_eq_true rfl) (by decide) dX11_shout_1 4 rfl (gL σ w) rfl [.int x1] rfl ?_
  refine y_if_ne hC dX11_shout_4 15 (by decide) 7 rfl (fun h4 => ?_) (fun h4 => ?_)
  · have hk := ob_neg h4 hk
    refine y_aload_n hC dX11_shout_15 0 rfl 16 rfl ?_
    obtain ⟨x16, hx16, hk⟩ := ob_bind hk
    refine y_callV hC 66 (hB 66 (by decide) (by decide)) (cl_L (u := w) rfl) rfl (c_X11_triesAll hJ hB l σ w x16 hx16) rfl ⟨w5_57, w1_13, cwd_X11_triesAll, by decide, by decide⟩ w5_54 w5_56 ws4_15 rfl rfl (Nat.le_of_ble_eq_true rfl) (by decide) dX11_shout_16 19 rfl (gL σ x16) rfl [] rfl ?_
    refine y_aload_n hC dX11_shout_19 0 rfl 20 rfl ?_
    refine y_get hC 66 (hB 66 (by decide) (by decide)) (cl_L (u := x16) rfl) rfl inU11 17 (by decide) w4_115 rfl dX11_shout_20 23 rfl ?_
    refine y_istore_n hC dX11_shout_23 (by decide) [(2, .int (pL_takings x16)), (0, .ref (ad Γ 66)), (1, .int a1)] rfl 24 rfl ?_
    refine y_aload_n hC dX11_shout_24 1 rfl 25 rfl ?_
    refine y_iload_n hC dX11_shout_25 2 rfl 26 rfl ?_
    obtain ⟨g26, eg26, hk⟩ := ob_lt hk
    refine y_put hC 66 (hB 66 (by decide) (by decide)) (cl_L (u := x16) rfl) rfl inU11 tyX11_ok nmX11 13 (by decide) w4_111 rfl rfl rfl rfl (Nat.le_of_ble_eq_true rfl) (gL σ g26) (by subst eg26; exact (cu_L_shouted (u := x16) (v := a1) rfl rfl)) dX11_shout_26 29 rfl ?_
    refine y_aload_n hC dX11_shout_29 1 rfl 30 rfl ?_
    refine y_sipush hC dX11_shout_30 (v := (255 : Int32)) (by decide) 33 rfl ?_
    obtain ⟨x33, hx33, hk⟩ := ob_bind hk
    refine y_callV hC 66 (hB 66 (by decide) (by decide)) (cl_L (u := g26) rfl) rfl (c_X11_tries hJ hB l σ g26 (255 : Int32) x33 hx33) rfl ⟨w5_61, w1_13, cwd_X11_tries, by decide, by decide⟩ w5_58 w5_60 ws5_0 rfl rfl (Nat.le_of_ble_eq_true rfl) (by decide) dX11_shout_33 36 rfl (gL σ x33) rfl [] rfl ?_
    refine y_aload_n hC dX11_shout_36 1 rfl 37 rfl ?_
    refine y_iconst hC dX11_shout_37 (v := (-1 : Int32)) (by decide) 38 rfl ?_
    obtain ⟨g38, eg38, hk⟩ := ob_lt hk
    refine y_put hC 66 (hB 66 (by decide) (by decide)) (cl_L (u := x33) rfl) rfl inU11 tyX11_ok nmX11 13 (by decide) w4_111 rfl rfl rfl rfl (Nat.le_of_ble_eq_true rfl) (gL σ g38) (by subst eg38; exact (cu_L_shouted (u := x33) (v := (-1 : Int32)) rfl rfl)) dX11_shout_38 41 rfl ?_
    refine y_aload_n hC dX11_shout_41 1 rfl 42 rfl ?_
    refine y_get hC 66 (hB 66 (by decide) (by decide)) (cl_L (u := g38) rfl) rfl inU11 17 (by decide) w4_115 rfl dX11_shout_42 45 rfl ?_
    refine y_iload_n hC dX11_shout_45 0 rfl 46 rfl ?_
    refine y_isub hC dX11_shout_46 47 rfl ?_
    have e := Option.some.inj hk
    exact y_iret hC hr hlk (by rw [← e]) (by first | rfl | rw [← e]) dX11_shout_47
  · have hk := ob_pos h4 hk
    refine y_aload_n hC dX11_shout_7 0 rfl 8 rfl ?_
    refine y_sipush hC dX11_shout_8 (v := (-10000 : Int32)) (by decide) 11 rfl ?_
    obtain ⟨x11, hx11, hk⟩ := ob_bind hk
    refine y_callV hC 66 (hB 66 (by decide) (by decide)) (cl_L (u := w) rfl) rfl (c_X11_badAs hJ hB l σ w (-10000 : Int32) x11 hx11) rfl ⟨w5_154, w1_13, cwd_X11_badAs, by decide, by decide⟩ w5_151 w5_153 ws5_13 rfl rfl (Nat.le_of_ble_eq_true rfl) (by decide) dX11_shout_11 14 rfl (gL σ x11.2) rfl [.int x11.1] rfl ?_
    have e := Option.some.inj hk
    exact y_iret hC hr hlk (by rw [← e]) (by first | rfl | rw [← e]) dX11_shout_14
def f_X11_sold_j14 (a1 : Int32) (a2 : Int32) (gw : LSt) : Option (Int32 × LSt) :=
  (f_X11_bad gw).bind fun x15 => 
    (some (x15.1, x15.2))
def f_X11_sold (w : LSt) (a1 : Int32) (a2 : Int32) : Option (Int32 × LSt) :=
  (f_X11_isHour a1).bind fun x1 => 
    (if x1 = 0 then
      f_X11_sold_j14 a1 a2 w
    else
      (f_X11_isPrice a2).bind fun x8 => 
        (if x8 = 0 then
          f_X11_sold_j14 a1 a2 w
        else
          if inb (6 : Int32) 608 then 
            (if (pL_w w (6 : Int32).toNatClampNeg) = (6 : Int32) then
              (f_X11_full w).bind fun x32 => 
                (some (x32.1, x32.2))
            else
              if inb (6 : Int32) 608 then 
                (if inb ((60 : Int32) + (pL_w w (6 : Int32).toNatClampNeg)) 608 then 
                (lt (sL_w w (upd (pL_w w) ((60 : Int32) + (pL_w w (6 : Int32).toNatClampNeg)).toNatClampNeg a1)) fun g51 => 
                (if inb (6 : Int32) 608 then 
                (if inb ((66 : Int32) + (pL_w g51 (6 : Int32).toNatClampNeg)) 608 then 
                (lt (sL_w g51 (upd (pL_w g51) ((66 : Int32) + (pL_w g51 (6 : Int32).toNatClampNeg)).toNatClampNeg a2)) fun g67 => 
                (if inb (6 : Int32) 608 then 
                (if inb (6 : Int32) 608 then 
                (lt (sL_w g67 (upd (pL_w g67) (6 : Int32).toNatClampNeg ((pL_w g67 (6 : Int32).toNatClampNeg) + (1 : Int32)))) fun g78 => 
                (if inb (6 : Int32) 608 then 
                (some ((pL_w g78 (6 : Int32).toNatClampNeg), g78))
              else none))
              else none)
              else none))
              else none)
              else none))
              else none)
              else none)
          else none))
theorem cwd_X11_sold : yX11_sold.cls ≠ "java/lang/invoke/MethodHandle" ∧ yX11_sold.cls ≠ "java/lang/invoke/VarHandle" ∧ (parseMethodDescriptor yX11_sold.desc).map (fun d => d.parameters.length) = some 2 := by decide +kernel
set_option maxHeartbeats 4000000 in
set_option maxRecDepth 100000 in
theorem c_X11_sold {Γ : GC} (hJ : GJ Γ) (hB : ∀ i, 66 ≤ i → i < 77 → act Γ i) (l : Launch) (σ : GSt) (w : LSt) (a1 : Int32) (a2 : Int32) (x : Int32 × LSt) (hk : f_X11_sold w a1 a2 = some x) : Mt Γ l yX11_sold cX11_sold 3 (some .int) 2 45 [.ref (ad Γ 66), .int a1, .int a2] (gL σ w) (some (.int x.1)) (gL σ x.2) := by
  refine y_enter (by decide) hJ (Nat.le_of_ble_eq_true rfl) [(0, .ref (ad Γ 66)), (1, .int a1), (2, .int a2)] rfl ?_
  intro p e s' m args below meth c' hC hr hlk
  have J14 : ∀ (gw : LSt), f_X11_sold_j14 a1 a2 gw = some x → Y Γ (GA Γ) p l e ({ frames := 2, cells := 0, slots := 0, locals := 45 } : Room) s' m args below meth c' 0 0 (MQ below (Qg Γ (some (.int x.1)) (gL σ x.2)) args s' 0 0 (GA Γ)) 3 (gL σ gw) 14 [(0, .ref (ad Γ 66)), (1, .int a1), (2, .int a2)] [] := by
    intro gw hk
    refine y_aload_n hC dX11_sold_14 0 rfl 15 rfl ?_
    obtain ⟨x15, hx15, hk⟩ := ob_bind hk
    refine y_callV hC 66 (hB 66 (by decide) (by decide)) (cl_L (u := gw) rfl) rfl (c_X11_bad hJ hB l σ gw x15 hx15) rfl ⟨w4_186, w1_13, cwd_X11_bad, by decide, by decide⟩ w4_183 w4_185 ws3_15 rfl rfl (Nat.le_of_ble_eq_true rfl) (by decide) dX11_sold_15 18 rfl (gL σ x15.2) rfl [.int x15.1] rfl ?_
    have e := Option.some.inj hk
    exact y_iret hC hr hlk (by rw [← e]) (by first | rfl | rw [← e]) dX11_sold_18
  refine y_iload_n hC dX11_sold_0 1 rfl 1 rfl ?_
  obtain ⟨x1, hx1, hk⟩ := ob_bind hk
  refine y_callS hC (c_X11_isHour hJ l (gL σ w) a1 x1 hx1) rfl ⟨w4_201, w1_13, cwd_X11_isHour, by decide, by decide⟩ w4_199 w4_200 rfl rfl (Nat.le_of_ble_eq_true rfl) (by decide) dX11_sold_1 4 rfl (gL σ w) rfl [.int x1] rfl ?_
  refine y_if_eq hC dX11_sold_4 14 (by decide) 7 rfl (fun h4 => ?_) (fun h4 => ?_)
  · have hk := ob_pos h4 hk
    refine y_sub [0, 1, 2] rfl ?_
    exact J14 w hk
  · have hk := ob_neg h4 hk
    refine y_iload_n hC dX11_sold_7 2 rfl 8 rfl ?_
    obtain ⟨x8, hx8, hk⟩ := ob_bind hk
    refine y_callS hC (c_X11_isPrice hJ l (gL σ w) a2 x8 hx8) rfl ⟨w4_177, w1_13, cwd_X11_isPrice, by decide, by decide⟩ w4_175 w4_176 rfl rfl (Nat.le_of_ble_eq_true rfl) (by decide) dX11_sold_8 11 rfl (gL σ w) rfl [.int x8] rfl ?_
    refine y_if_ne hC dX11_sold_11 19 (by decide) 14 rfl (fun h11 => ?_) (fun h11 => ?_)
    · have hk := ob_neg h11 hk
      refine y_aload_n hC dX11_sold_19 0 rfl 20 rfl ?_
      refine y_get hC 66 (hB 66 (by decide) (by decide)) (cl_L (u := w) rfl) rfl inU11 0 (by decide) w4_98 rfl dX11_sold_20 23 rfl ?_
      refine y_bipush hC dX11_sold_23 (v := (6 : Int32)) (by decide) 25 rfl ?_
      obtain ⟨h25, hk⟩ := ob_if hk
      refine y_iald hC 67 (hB 67 (by decide) (by decide)) (cl_L_w (u := w) rfl) h25 dX11_sold_25 26 rfl ?_
      refine y_bipush hC dX11_sold_26 (v := (6 : Int32)) (by decide) 28 rfl ?_
      refine y_icmp_ne hC dX11_sold_28 36 (by decide) 31 rfl (fun h28 => ?_) (fun h28 => ?_)
      · have hk := ob_neg h28 hk
        refine y_aload_n hC dX11_sold_36 0 rfl 37 rfl ?_
        refine y_get hC 66 (hB 66 (by decide) (by decide)) (cl_L (u := w) rfl) rfl inU11 0 (by decide) w4_98 rfl dX11_sold_37 40 rfl ?_
        refine y_bipush hC dX11_sold_40 (v := (60 : Int32)) (by decide) 42 rfl ?_
        refine y_aload_n hC dX11_sold_42 0 rfl 43 rfl ?_
        refine y_get hC 66 (hB 66 (by decide) (by decide)) (cl_L (u := w) rfl) rfl inU11 0 (by decide) w4_98 rfl dX11_sold_43 46 rfl ?_
        refine y_bipush hC dX11_sold_46 (v := (6 : Int32)) (by decide) 48 rfl ?_
        obtain ⟨h48, hk⟩ := ob_if hk
        refine y_iald hC 67 (hB 67 (by decide) (by decide)) (cl_L_w (u := w) rfl) h48 dX11_sold_48 49 rfl ?_
        refine y_iadd hC dX11_sold_49 50 rfl ?_
        refine y_iload_n hC dX11_sold_50 1 rfl 51 rfl ?_
        obtain ⟨h51, hk⟩ := ob_if hk
        obtain ⟨g51, eg51, hk⟩ := ob_lt hk
        refine y_iast hC 67 (hB 67 (by decide) (by decide)) (cl_L_w (u := w) rfl) h51 (gL σ g51) (by subst eg51; exact (cu_L_w (u := w) (v := (upd (pL_w w) ((60 : Int32) + (pL_w w (6 : Int32).toNatClampNeg)).toNatClampNeg a1)) rfl rfl)) dX11_sold_51 52 rfl ?_
        refine y_aload_n hC dX11_sold_52 0 rfl 53 rfl ?_
        refine y_get hC 66 (hB 66 (by decide) (by decide)) (cl_L (u := g51) rfl) rfl inU11 0 (by decide) w4_98 rfl dX11_sold_53 56 rfl ?_
        refine y_bipush hC dX11_sold_56 (v := (66 : Int32)) (by decide) 58 rfl ?_
        refine y_aload_n hC dX11_sold_58 0 rfl 59 rfl ?_
        refine y_get hC 66 (hB 66 (by decide) (by decide)) (cl_L (u := g51) rfl) rfl inU11 0 (by decide) w4_98 rfl dX11_sold_59 62 rfl ?_
        refine y_bipush hC dX11_sold_62 (v := (6 : Int32)) (by decide) 64 rfl ?_
        obtain ⟨h64, hk⟩ := ob_if hk
        refine y_iald hC 67 (hB 67 (by decide) (by decide)) (cl_L_w (u := g51) rfl) h64 dX11_sold_64 65 rfl ?_
        refine y_iadd hC dX11_sold_65 66 rfl ?_
        refine y_iload_n hC dX11_sold_66 2 rfl 67 rfl ?_
        obtain ⟨h67, hk⟩ := ob_if hk
        obtain ⟨g67, eg67, hk⟩ := ob_lt hk
        refine y_iast hC 67 (hB 67 (by decide) (by decide)) (cl_L_w (u := g51) rfl) h67 (gL σ g67) (by subst eg67; exact (cu_L_w (u := g51) (v := (upd (pL_w g51) ((66 : Int32) + (pL_w g51 (6 : Int32).toNatClampNeg)).toNatClampNeg a2)) rfl rfl)) dX11_sold_67 68 rfl ?_
        refine y_aload_n hC dX11_sold_68 0 rfl 69 rfl ?_
        refine y_get hC 66 (hB 66 (by decide) (by decide)) (cl_L (u := g67) rfl) rfl inU11 0 (by decide) w4_98 rfl dX11_sold_69 72 rfl ?_
        refine y_bipush hC dX11_sold_72 (v := (6 : Int32)) (by decide) 74 rfl ?_
        refine y_dup2 hC dX11_sold_74 rfl rfl 75 rfl ?_
        obtain ⟨h75, hk⟩ := ob_if hk
        refine y_iald hC 67 (hB 67 (by decide) (by decide)) (cl_L_w (u := g67) rfl) h75 dX11_sold_75 76 rfl ?_
        refine y_iconst hC dX11_sold_76 (v := (1 : Int32)) (by decide) 77 rfl ?_
        refine y_iadd hC dX11_sold_77 78 rfl ?_
        obtain ⟨h78, hk⟩ := ob_if hk
        obtain ⟨g78, eg78, hk⟩ := ob_lt hk
        refine y_iast hC 67 (hB 67 (by decide) (by decide)) (cl_L_w (u := g67) rfl) h78 (gL σ g78) (by subst eg78; exact (cu_L_w (u := g67) (v := (upd (pL_w g67) (6 : Int32).toNatClampNeg ((pL_w g67 (6 : Int32).toNatClampNeg) + (1 : Int32)))) rfl rfl)) dX11_sold_78 79 rfl ?_
        refine y_aload_n hC dX11_sold_79 0 rfl 80 rfl ?_
        refine y_get hC 66 (hB 66 (by decide) (by decide)) (cl_L (u := g78) rfl) rfl inU11 0 (by decide) w4_98 rfl dX11_sold_80 83 rfl ?_
        refine y_bipush hC dX11_sold_83 (v := (6 : Int32)) (by decide) 85 rfl ?_
        obtain ⟨h85, hk⟩ := ob_if hk
        refine y_iald hC 67 (hB 67 (by decide) (by decide)) (cl_L_w (u := g78) rfl) h85 dX11_sold_85 86 rfl ?_
        have e := Option.some.inj hk
        exact y_iret hC hr hlk (by rw [← e]) (by first | rfl | rw [← e]) dX11_sold_86
      · have hk := ob_pos h28 hk
        refine y_aload_n hC dX11_sold_31 0 rfl 32 rfl ?_
        obtain ⟨x32, hx32, hk⟩ := ob_bind hk
        refine y_callV hC 66 (hB 66 (by decide) (by decide)) (cl_L (u := w) rfl) rfl (c_X11_full hJ hB l σ w x32 hx32) rfl ⟨w4_224, w1_13, cwd_X11_full, by decide, by decide⟩ w4_221 w4_223 ws4_2 rfl rfl (Nat.le_of_ble_eq_true rfl) (by decide) dX11_sold_32 35 rfl (gL σ x32.2) rfl [.int x32.1] rfl ?_
        have e := Option.some.inj hk
        exact y_iret hC hr hlk (by rw [← e]) (by first | rfl | rw [← e]) dX11_sold_35
    · have hk := ob_pos h11 hk
      refine y_sub [0, 1, 2] rfl ?_
      exact J14 w hk
def f_X11_forget (w : LSt) : Option (Int32 × LSt) :=
  (f_X11_becomes w (6 : Int32) (0 : Int32)).bind fun x4 => 
    (some (x4.1, x4.2))
theorem cwd_X11_forget : yX11_forget.cls ≠ "java/lang/invoke/MethodHandle" ∧ yX11_forget.cls ≠ "java/lang/invoke/VarHandle" ∧ (parseMethodDescriptor yX11_forget.desc).map (fun d => d.parameters.length) = some 0 := by decide +kernel
set_option maxHeartbeats 4000000 in
set_option maxRecDepth 100000 in
theorem c_X11_forget {Γ : GC} (hJ : GJ Γ) (hB : ∀ i, 66 ≤ i → i < 77 → act Γ i) (l : Launch) (σ : GSt) (w : LSt) (x : Int32 × LSt) (hk : f_X11_forget w = some x) : Mt Γ l yX11_forget cX11_forget 1 (some .int) 1 23 [.ref (ad Γ 66)] (gL σ w) (some (.int x.1)) (gL σ x.2) := by
  refine y_enter (by decide) hJ (Nat.le_of_ble_eq_true rfl) [(0, .ref (ad Γ 66))] rfl ?_
  intro p e s' m args below meth c' hC hr hlk
  refine y_aload_n hC dX11_forget_0 0 rfl 1 rfl ?_
  refine y_bipush hC dX11_forget_1 (v := (6 : Int32)) (by decide) 3 rfl ?_
  refine y_iconst hC dX11_forget_3 (v := (0 : Int32)) (by decide) 4 rfl ?_
  obtain ⟨x4, hx4, hk⟩ := ob_bind hk
  refine y_callV hC 66 (hB 66 (by decide) (by decide)) (cl_L (u := w) rfl) rfl (c_X11_becomes hJ hB l σ w (6 : Int32) (0 : Int32) x4 hx4) rfl ⟨w4_194, w1_13, cwd_X11_becomes, by decide, by decide⟩ w4_191 w4_193 ws4_0 rfl rfl (Nat.le_of_ble_eq_true rfl) (by decide) dX11_forget_4 7 rfl (gL σ x4.2) rfl [.int x4.1] rfl ?_
  have e := Option.some.inj hk
  exact y_iret hC hr hlk (by rw [← e]) (by first | rfl | rw [← e]) dX11_forget_7
def f_X11_may_j135 (a1 : Int32) (v2 : Int32) (v3 : Int32) (gw : LSt) : Option (Int32 × LSt) :=
  if inb ((28 : Int32) + a1) 608 then 
    (lt (sL_w gw (upd (pL_w gw) ((28 : Int32) + a1).toNatClampNeg v2)) fun g144 => 
    (some (v3, g144)))
  else none
def f_X11_may_j127 (a1 : Int32) (K28 : (Int32 × Int32 × Int32 × LSt) → Option (Int32 × LSt)) (v2 : Int32) (v4 : Int32) (t0 : Int32) (t1 : Int32) (gw : LSt) : Option (Int32 × LSt) :=
  K28 (v2, (t1 ||| t0), (v4 + (1 : Int32)), gw)
def f_X11_may_j113 (a1 : Int32) (K28 : (Int32 × Int32 × Int32 × LSt) → Option (Int32 × LSt)) (v2 : Int32) (v3 : Int32) (v4 : Int32) (v5 : Int32) (gw : LSt) : Option (Int32 × LSt) :=
  if v5 = 0 then
    f_X11_may_j127 a1 K28 v2 v4 (0 : Int32) v3 gw
  else
    f_X11_may_j127 a1 K28 v2 v4 ((1 : Int32) <<< (v4 &&& 31)) v3 gw
def f_X11_may_j105 (a1 : Int32) (K28 : (Int32 × Int32 × Int32 × LSt) → Option (Int32 × LSt)) (K55 : (Int32 × Int32 × Int32 × Int32 × Int32 × LSt) → Option (Int32 × LSt)) (v2 : Int32) (v3 : Int32) (v4 : Int32) (v6 : Int32) (t0 : Int32) (gw : LSt) : Option (Int32 × LSt) :=
  K55 (v2, v3, v4, t0, (v6 + (1 : Int32)), gw)
def f_X11_may_j104 (a1 : Int32) (K28 : (Int32 × Int32 × Int32 × LSt) → Option (Int32 × LSt)) (K55 : (Int32 × Int32 × Int32 × Int32 × Int32 × LSt) → Option (Int32 × LSt)) (v2 : Int32) (v3 : Int32) (v4 : Int32) (v6 : Int32) (gw : LSt) : Option (Int32 × LSt) :=
  f_X11_may_j105 a1 K28 K55 v2 v3 v4 v6 (0 : Int32) gw
def f_X11_may_s55 (a1 : Int32) (K28 : (Int32 × Int32 × Int32 × LSt) → Option (Int32 × LSt)) (K55 : (Int32 × Int32 × Int32 × Int32 × Int32 × LSt) → Option (Int32 × LSt)) (q55 : Int32 × Int32 × Int32 × Int32 × Int32 × LSt) : Option (Int32 × LSt) :=
  if inb (6 : Int32) 608 then 
    (if (pL_w q55.2.2.2.2.2 (6 : Int32).toNatClampNeg) ≤ q55.2.2.2.2.1 then
      f_X11_may_j113 a1 K28 q55.1 q55.2.1 q55.2.2.1 q55.2.2.2.1 q55.2.2.2.2.2
    else
      if q55.2.2.2.1 = 0 then
        f_X11_may_j104 a1 K28 K55 q55.1 q55.2.1 q55.2.2.1 q55.2.2.2.2.1 q55.2.2.2.2.2
      else
        if inb ((60 : Int32) + q55.2.2.2.2.1) 608 then 
          (if inb (pL_w q55.2.2.2.2.2 ((60 : Int32) + q55.2.2.2.2.1).toNatClampNeg) 10 then 
          (if inb ((66 : Int32) + q55.2.2.2.2.1) 608 then 
          (if (pL_goes q55.2.2.2.2.2 (pL_w q55.2.2.2.2.2 ((60 : Int32) + q55.2.2.2.2.1).toNatClampNeg).toNatClampNeg) = (pL_w q55.2.2.2.2.2 ((66 : Int32) + q55.2.2.2.2.1).toNatClampNeg) then
            f_X11_may_j105 a1 K28 K55 q55.1 q55.2.1 q55.2.2.1 q55.2.2.2.2.1 (1 : Int32) q55.2.2.2.2.2
          else
            f_X11_may_j104 a1 K28 K55 q55.1 q55.2.1 q55.2.2.1 q55.2.2.2.2.1 q55.2.2.2.2.2)
        else none)
        else none)
        else none)
  else none
def f_X11_may_s28 (a1 : Int32) (K28 : (Int32 × Int32 × Int32 × LSt) → Option (Int32 × LSt)) (q28 : Int32 × Int32 × Int32 × LSt) : Option (Int32 × LSt) :=
  if (5 : Int32) < q28.2.2.1 then
    f_X11_may_j135 a1 q28.1 q28.2.1 q28.2.2.2
  else
    if inb ((28 : Int32) + a1) 608 then 
      (lt (sL_w q28.2.2.2 (upd (pL_w q28.2.2.2) ((28 : Int32) + a1).toNatClampNeg q28.2.2.1)) fun g44 => 
      ((f_X11_triesAll g44).bind fun x46 => 
      (lp (f_X11_may_s55 a1 K28) 1000 (q28.1, q28.2.1, q28.2.2.1, (1 : Int32), (0 : Int32), x46))))
    else none
def f_X11_may (w : LSt) (a1 : Int32) : Option (Int32 × LSt) :=
  (f_X11_isBuyer w a1).bind fun x2 => 
    (if x2 = 0 then
      (f_X11_bad w).bind fun x9 => 
        (some (x9.1, x9.2))
    else
      if inb ((28 : Int32) + a1) 608 then 
        (lt (pL_w w ((28 : Int32) + a1).toNatClampNeg) fun n22 => 
        (lp (f_X11_may_s28 a1) 1000 (n22, (0 : Int32), (0 : Int32), w)))
      else none)
theorem cwd_X11_may : yX11_may.cls ≠ "java/lang/invoke/MethodHandle" ∧ yX11_may.cls ≠ "java/lang/invoke/VarHandle" ∧ (parseMethodDescriptor yX11_may.desc).map (fun d => d.parameters.length) = some 1 := by decide +kernel
set_option maxHeartbeats 4000000 in
set_option maxRecDepth 100000 in
theorem c_X11_may {Γ : GC} (hJ : GJ Γ) (hB : ∀ i, 66 ≤ i → i < 77 → act Γ i) (l : Launch) (σ : GSt) (w : LSt) (a1 : Int32) (x : Int32 × LSt) (hk : f_X11_may w a1 = some x) : Mt Γ l yX11_may cX11_may 7 (some .int) 6 137 [.ref (ad Γ 66), .int a1] (gL σ w) (some (.int x.1)) (gL σ x.2) := by
  refine y_enter (by decide) hJ (Nat.le_of_ble_eq_true rfl) [(0, .ref (ad Γ 66)), (1, .int a1)] rfl ?_
  intro p e s' m args below meth c' hC hr hlk
  have J135 : ∀ (v2 : Int32) (v3 : Int32) (gw : LSt), f_X11_may_j135 a1 v2 v3 gw = some x → Y Γ (GA Γ) p l e ({ frames := 6, cells := 0, slots := 0, locals := 137 } : Room) s' m args below meth c' 0 0 (MQ below (Qg Γ (some (.int x.1)) (gL σ x.2)) args s' 0 0 (GA Γ)) 7 (gL σ gw) 135 [(0, .ref (ad Γ 66)), (1, .int a1), (2, .int v2), (3, .int v3)] [] := by
    intro v2 v3 gw hk
    refine y_aload_n hC dX11_may_135 0 rfl 136 rfl ?_
    refine y_get hC 66 (hB 66 (by decide) (by decide)) (cl_L (u := gw) rfl) rfl inU11 0 (by decide) w4_98 rfl dX11_may_136 139 rfl ?_
    refine y_bipush hC dX11_may_139 (v := (28 : Int32)) (by decide) 141 rfl ?_
    refine y_iload_n hC dX11_may_141 1 rfl 142 rfl ?_
    refine y_iadd hC dX11_may_142 143 rfl ?_
    refine y_iload_n hC dX11_may_143 2 rfl 144 rfl ?_
    obtain ⟨h144, hk⟩ := ob_if hk
    obtain ⟨g144, eg144, hk⟩ := ob_lt hk
    refine y_iast hC 67 (hB 67 (by decide) (by decide)) (cl_L_w (u := gw) rfl) h144 (gL σ g144) (by subst eg144; exact (cu_L_w (u := gw) (v := (upd (pL_w gw) ((28 : Int32) + a1).toNatClampNeg v2)) rfl rfl)) dX11_may_144 145 rfl ?_
    refine y_iload_n hC dX11_may_145 3 rfl 146 rfl ?_
    have e := Option.some.inj hk
    exact y_iret hC hr hlk (by rw [← e]) (by first | rfl | rw [← e]) dX11_may_146
  have L28 : ∀ (n28 : Nat) (q28 : Int32 × Int32 × Int32 × LSt), lp (f_X11_may_s28 a1) n28 q28 = some x → Y Γ (GA Γ) p l e ({ frames := 6, cells := 0, slots := 0, locals := 137 } : Room) s' m args below meth c' 0 0 (MQ below (Qg Γ (some (.int x.1)) (gL σ x.2)) args s' 0 0 (GA Γ)) 7 (gL σ q28.2.2.2) 28 [(0, .ref (ad Γ 66)), (1, .int a1), (2, .int q28.1), (3, .int q28.2.1), (4, .int q28.2.2.1)] [] := by
    intro n28
    induction n28 with
    | zero => intro q28 hk; exact (lp_zero hk).elim
    | succ n28 ih28 =>
      intro q28 hk
      have hk : f_X11_may_s28 a1 (lp (f_X11_may_s28 a1) n28) q28 = some x := (lp_succ _ _ _).symm.trans hk
      have J127 : ∀ (v2 : Int32) (v4 : Int32) (t0 : Int32) (t1 : Int32) (gw : LSt), f_X11_may_j127 a1 (lp (f_X11_may_s28 a1) n28) v2 v4 t0 t1 gw = some x → Y Γ (GA Γ) p l e ({ frames := 6, cells := 0, slots := 0, locals := 137 } : Room) s' m args below meth c' 0 0 (MQ below (Qg Γ (some (.int x.1)) (gL σ x.2)) args s' 0 0 (GA Γ)) 7 (gL σ gw) 127 [(0, .ref (ad Γ 66)), (1, .int a1), (2, .int v2), (4, .int v4)] [.int t0, .int t1] := by
        intro v2 v4 t0 t1 gw hk
        refine y_ior hC dX11_may_127 128 rfl ?_
        refine y_istore_n hC dX11_may_128 (by decide) [(3, .int (t1 ||| t0)), (0, .ref (ad Γ 66)), (1, .int a1), (2, .int v2), (4, .int v4)] rfl 129 rfl ?_
        refine y_iinc hC dX11_may_129 4 rfl (v := (v4 + (1 : Int32))) rfl (by decide) [(4, .int (v4 + (1 : Int32))), (3, .int (t1 ||| t0)), (0, .ref (ad Γ 66)), (1, .int a1), (2, .int v2)] rfl 132 rfl ?_
        refine y_goto hC dX11_may_132 28 (by decide) ?_
        refine y_sub [2, 3, 4, 1, 0] rfl ?_
        exact ih28 (v2, (t1 ||| t0), (v4 + (1 : Int32)), gw) hk
      have J113 : ∀ (v2 : Int32) (v3 : Int32) (v4 : Int32) (v5 : Int32) (gw : LSt), f_X11_may_j113 a1 (lp (f_X11_may_s28 a1) n28) v2 v3 v4 v5 gw = some x → Y Γ (GA Γ) p l e ({ frames := 6, cells := 0, slots := 0, locals := 137 } : Room) s' m args below meth c' 0 0 (MQ below (Qg Γ (some (.int x.1)) (gL σ x.2)) args s' 0 0 (GA Γ)) 7 (gL σ gw) 113 [(0, .ref (ad Γ 66)), (1, .int a1), (2, .int v2), (3, .int v3), (4, .int v4), (5, .int v5)] [] := by
        intro v2 v3 v4 v5 gw hk
        refine y_iload_n hC dX11_may_113 3 rfl 114 rfl ?_
        refine y_iload hC dX11_may_114 5 rfl 116 rfl ?_
        refine y_if_eq hC dX11_may_116 126 (by decide) 119 rfl (fun h116 => ?_) (fun h116 => ?_)
        · have hk := ob_pos h116 hk
          refine y_iconst hC dX11_may_126 (v := (0 : Int32)) (by decide) 127 rfl ?_
          refine y_sub [0, 1, 2, 4] rfl ?_
          exact J127 v2 v4 (0 : Int32) v3 gw hk
        · have hk := ob_neg h116 hk
          refine y_iconst hC dX11_may_119 (v := (1 : Int32)) (by decide) 120 rfl ?_
          refine y_iload hC dX11_may_120 4 rfl 122 rfl ?_
          refine y_ishl hC dX11_may_122 123 rfl ?_
          refine y_goto hC dX11_may_123 127 (by decide) ?_
          refine y_sub [0, 1, 2, 4] rfl ?_
          exact J127 v2 v4 ((1 : Int32) <<< (v4 &&& 31)) v3 gw hk
      have L55 : ∀ (n55 : Nat) (q55 : Int32 × Int32 × Int32 × Int32 × Int32 × LSt), lp (f_X11_may_s55 a1 (lp (f_X11_may_s28 a1) n28)) n55 q55 = some x → Y Γ (GA Γ) p l e ({ frames := 6, cells := 0, slots := 0, locals := 137 } : Room) s' m args below meth c' 0 0 (MQ below (Qg Γ (some (.int x.1)) (gL σ x.2)) args s' 0 0 (GA Γ)) 7 (gL σ q55.2.2.2.2.2) 55 [(0, .ref (ad Γ 66)), (1, .int a1), (2, .int q55.1), (3, .int q55.2.1), (4, .int q55.2.2.1), (5, .int q55.2.2.2.1), (6, .int q55.2.2.2.2.1)] [] := by
        intro n55
        induction n55 with
        | zero => intro q55 hk; exact (lp_zero hk).elim
        | succ n55 ih55 =>
          intro q55 hk
          have hk : f_X11_may_s55 a1 (lp (f_X11_may_s28 a1) n28) (lp (f_X11_may_s55 a1 (lp (f_X11_may_s28 a1) n28)) n55) q55 = some x := (lp_succ _ _ _).symm.trans hk
          have J105 : ∀ (v2 : Int32) (v3 : Int32) (v4 : Int32) (v6 : Int32) (t0 : Int32) (gw : LSt), f_X11_may_j105 a1 (lp (f_X11_may_s28 a1) n28) (lp (f_X11_may_s55 a1 (lp (f_X11_may_s28 a1) n28)) n55) v2 v3 v4 v6 t0 gw = some x → Y Γ (GA Γ) p l e ({ frames := 6, cells := 0, slots := 0, locals := 137 } : Room) s' m args below meth c' 0 0 (MQ below (Qg Γ (some (.int x.1)) (gL σ x.2)) args s' 0 0 (GA Γ)) 7 (gL σ gw) 105 [(0, .ref (ad Γ 66)), (1, .int a1), (2, .int v2), (3, .int v3), (4, .int v4), (6, .int v6)] [.int t0] := by
            intro v2 v3 v4 v6 t0 gw hk
            refine y_istore hC dX11_may_105 (by decide) [(5, .int t0), (0, .ref (ad Γ 66)), (1, .int a1), (2, .int v2), (3, .int v3), (4, .int v4), (6, .int v6)] rfl 107 rfl ?_
            refine y_iinc hC dX11_may_107 6 rfl (v := (v6 + (1 : Int32))) rfl (by decide) [(6, .int (v6 + (1 : Int32))), (5, .int t0), (0, .ref (ad Γ 66)), (1, .int a1), (2, .int v2), (3, .int v3), (4, .int v4)] rfl 110 rfl ?_
            refine y_goto hC dX11_may_110 55 (by decide) ?_
            refine y_sub [2, 3, 4, 5, 6, 1, 0] rfl ?_
            exact ih55 (v2, v3, v4, t0, (v6 + (1 : Int32)), gw) hk
          have J104 : ∀ (v2 : Int32) (v3 : Int32) (v4 : Int32) (v6 : Int32) (gw : LSt), f_X11_may_j104 a1 (lp (f_X11_may_s28 a1) n28) (lp (f_X11_may_s55 a1 (lp (f_X11_may_s28 a1) n28)) n55) v2 v3 v4 v6 gw = some x → Y Γ (GA Γ) p l e ({ frames := 6, cells := 0, slots := 0, locals := 137 } : Room) s' m args below meth c' 0 0 (MQ below (Qg Γ (some (.int x.1)) (gL σ x.2)) args s' 0 0 (GA Γ)) 7 (gL σ gw) 104 [(0, .ref (ad Γ 66)), (1, .int a1), (2, .int v2), (3, .int v3), (4, .int v4), (6, .int v6)] [] := by
            intro v2 v3 v4 v6 gw hk
            refine y_iconst hC dX11_may_104 (v := (0 : Int32)) (by decide) 105 rfl ?_
            refine y_sub [0, 1, 2, 3, 4, 5] rfl ?_
            exact J105 v2 v3 v4 v6 (0 : Int32) gw hk
          refine y_iload hC dX11_may_55 6 rfl 57 rfl ?_
          refine y_aload_n hC dX11_may_57 0 rfl 58 rfl ?_
          refine y_get hC 66 (hB 66 (by decide) (by decide)) (cl_L (u := q55.2.2.2.2.2) rfl) rfl inU11 0 (by decide) w4_98 rfl dX11_may_58 61 rfl ?_
          refine y_bipush hC dX11_may_61 (v := (6 : Int32)) (by decide) 63 rfl ?_
          obtain ⟨h63, hk⟩ := ob_if hk
          refine y_iald hC 67 (hB 67 (by decide) (by decide)) (cl_L_w (u := q55.2.2.2.2.2) rfl) h63 dX11_may_63 64 rfl ?_
          refine y_icmp_ge hC dX11_may_64 113 (by decide) 67 rfl (fun h64 => ?_) (fun h64 => ?_)
          · have hk := ob_pos h64 hk
            refine y_sub [0, 1, 2, 3, 4, 5] rfl ?_
            exact J113 q55.1 q55.2.1 q55.2.2.1 q55.2.2.2.1 q55.2.2.2.2.2 hk
          · have hk := ob_neg h64 hk
            refine y_iload hC dX11_may_67 5 rfl 69 rfl ?_
            refine y_if_eq hC dX11_may_69 104 (by decide) 72 rfl (fun h69 => ?_) (fun h69 => ?_)
            · have hk := ob_pos h69 hk
              refine y_sub [0, 1, 2, 3, 4, 6] rfl ?_
              exact J104 q55.1 q55.2.1 q55.2.2.1 q55.2.2.2.2.1 q55.2.2.2.2.2 hk
            · have hk := ob_neg h69 hk
              refine y_aload_n hC dX11_may_72 0 rfl 73 rfl ?_
              refine y_get hC 66 (hB 66 (by decide) (by decide)) (cl_L (u := q55.2.2.2.2.2) rfl) rfl inU11 16 (by decide) w4_114 rfl dX11_may_73 76 rfl ?_
              refine y_aload_n hC dX11_may_76 0 rfl 77 rfl ?_
              refine y_get hC 66 (hB 66 (by decide) (by decide)) (cl_L (u := q55.2.2.2.2.2) rfl) rfl inU11 0 (by decide) w4_98 rfl dX11_may_77 80 rfl ?_
              refine y_bipush hC dX11_may_80 (v := (60 : Int32)) (by decide) 82 rfl ?_
              refine y_iload hC dX11_may_82 6 rfl 84 rfl ?_
              refine y_iadd hC dX11_may_84 85 rfl ?_
              obtain ⟨h85, hk⟩ := ob_if hk
              refine y_iald hC 67 (hB 67 (by decide) (by decide)) (cl_L_w (u := q55.2.2.2.2.2) rfl) h85 dX11_may_85 86 rfl ?_
              obtain ⟨h86, hk⟩ := ob_if hk
              refine y_iald hC 73 (hB 73 (by decide) (by decide)) (cl_L_goes (u := q55.2.2.2.2.2) rfl) h86 dX11_may_86 87 rfl ?_
              refine y_aload_n hC dX11_may_87 0 rfl 88 rfl ?_
              refine y_get hC 66 (hB 66 (by decide) (by decide)) (cl_L (u := q55.2.2.2.2.2) rfl) rfl inU11 0 (by decide) w4_98 rfl dX11_may_88 91 rfl ?_
              refine y_bipush hC dX11_may_91 (v := (66 : Int32)) (by decide) 93 rfl ?_
              refine y_iload hC dX11_may_93 6 rfl 95 rfl ?_
              refine y_iadd hC dX11_may_95 96 rfl ?_
              obtain ⟨h96, hk⟩ := ob_if hk
              refine y_iald hC 67 (hB 67 (by decide) (by decide)) (cl_L_w (u := q55.2.2.2.2.2) rfl) h96 dX11_may_96 97 rfl ?_
              refine y_icmp_ne hC dX11_may_97 104 (by decide) 100 rfl (fun h97 => ?_) (fun h97 => ?_)
              · have hk := ob_neg h97 hk
                refine y_sub [0, 1, 2, 3, 4, 6] rfl ?_
                exact J104 q55.1 q55.2.1 q55.2.2.1 q55.2.2.2.2.1 q55.2.2.2.2.2 hk
              · have hk := ob_pos h97 hk
                refine y_iconst hC dX11_may_100 (v := (1 : Int32)) (by decide) 101 rfl ?_
                refine y_goto hC dX11_may_101 105 (by decide) ?_
                refine y_sub [0, 1, 2, 3, 4, 6] rfl ?_
                exact J105 q55.1 q55.2.1 q55.2.2.1 q55.2.2.2.2.1 (1 : Int32) q55.2.2.2.2.2 hk
      refine y_iload hC dX11_may_28 4 rfl 30 rfl ?_
      refine y_iconst hC dX11_may_30 (v := (5 : Int32)) (by decide) 31 rfl ?_
      refine y_icmp_gt hC dX11_may_31 135 (by decide) 34 rfl (fun h31 => ?_) (fun h31 => ?_)
      · have hk := ob_pos h31 hk
        refine y_sub [0, 1, 2, 3] rfl ?_
        exact J135 q28.1 q28.2.1 q28.2.2.2 hk
      · have hk := ob_neg h31 hk
        refine y_aload_n hC dX11_may_34 0 rfl 35 rfl ?_
        refine y_get hC 66 (hB 66 (by decide) (by decide)) (cl_L (u := q28.2.2.2) rfl) rfl inU11 0 (by decide) w4_98 rfl dX11_may_35 38 rfl ?_
        refine y_bipush hC dX11_may_38 (v := (28 : Int32)) (by decide) 40 rfl ?_
        refine y_iload_n hC dX11_may_40 1 rfl 41 rfl ?_
        refine y_iadd hC dX11_may_41 42 rfl ?_
        refine y_iload hC dX11_may_42 4 rfl 44 rfl ?_
        obtain ⟨h44, hk⟩ := ob_if hk
        obtain ⟨g44, eg44, hk⟩ := ob_lt hk
        refine y_iast hC 67 (hB 67 (by decide) (by decide)) (cl_L_w (u := q28.2.2.2) rfl) h44 (gL σ g44) (by subst eg44; exact (cu_L_w (u := q28.2.2.2) (v := (upd (pL_w q28.2.2.2) ((28 : Int32) + a1).toNatClampNeg q28.2.2.1)) rfl rfl)) dX11_may_44 45 rfl ?_
        refine y_aload_n hC dX11_may_45 0 rfl 46 rfl ?_
        obtain ⟨x46, hx46, hk⟩ := ob_bind hk
        refine y_callV hC 66 (hB 66 (by decide) (by decide)) (cl_L (u := g44) rfl) rfl (c_X11_triesAll hJ hB l σ g44 x46 hx46) rfl ⟨w5_57, w1_13, cwd_X11_triesAll, by decide, by decide⟩ w5_54 w5_56 ws4_15 rfl rfl (Nat.le_of_ble_eq_true rfl) (by decide) dX11_may_46 49 rfl (gL σ x46) rfl [] rfl ?_
        refine y_iconst hC dX11_may_49 (v := (1 : Int32)) (by decide) 50 rfl ?_
        refine y_istore hC dX11_may_50 (by decide) [(5, .int (1 : Int32)), (0, .ref (ad Γ 66)), (1, .int a1), (2, .int q28.1), (3, .int q28.2.1), (4, .int q28.2.2.1)] rfl 52 rfl ?_
        refine y_iconst hC dX11_may_52 (v := (0 : Int32)) (by decide) 53 rfl ?_
        refine y_istore hC dX11_may_53 (by decide) [(6, .int (0 : Int32)), (5, .int (1 : Int32)), (0, .ref (ad Γ 66)), (1, .int a1), (2, .int q28.1), (3, .int q28.2.1), (4, .int q28.2.2.1)] rfl 55 rfl ?_
        refine y_sub [2, 3, 4, 5, 6, 1, 0] rfl ?_
        exact L55 1000 (q28.1, q28.2.1, q28.2.2.1, (1 : Int32), (0 : Int32), x46) hk
  refine y_aload_n hC dX11_may_0 0 rfl 1 rfl ?_
  refine y_iload_n hC dX11_may_1 1 rfl 2 rfl ?_
  obtain ⟨x2, hx2, hk⟩ := ob_bind hk
  refine y_callV hC 66 (hB 66 (by decide) (by decide)) (cl_L (u := w) rfl) rfl (c_X11_isBuyer hJ hB l σ w a1 x2 hx2) rfl ⟨w5_116, w1_13, cwd_X11_isBuyer, by decide, by decide⟩ w5_113 w5_115 ws5_10 rfl rfl (Nat.le_of_ble_eq_true rfl) (by decide) dX11_may_2 5 rfl (gL σ w) rfl [.int x2] rfl ?_
  refine y_if_ne hC dX11_may_5 13 (by decide) 8 rfl (fun h5 => ?_) (fun h5 => ?_)
  · have hk := ob_neg h5 hk
    refine y_aload_n hC dX11_may_13 0 rfl 14 rfl ?_
    refine y_get hC 66 (hB 66 (by decide) (by decide)) (cl_L (u := w) rfl) rfl inU11 0 (by decide) w4_98 rfl dX11_may_14 17 rfl ?_
    refine y_bipush hC dX11_may_17 (v := (28 : Int32)) (by decide) 19 rfl ?_
    refine y_iload_n hC dX11_may_19 1 rfl 20 rfl ?_
    refine y_iadd hC dX11_may_20 21 rfl ?_
    obtain ⟨h21, hk⟩ := ob_if hk
    refine y_iald hC 67 (hB 67 (by decide) (by decide)) (cl_L_w (u := w) rfl) h21 dX11_may_21 22 rfl ?_
    obtain ⟨n22, en22, hk⟩ := ob_lt hk
    refine y_topi en22 ?_
    refine y_istore_n hC dX11_may_22 (by decide) [(2, .int n22), (0, .ref (ad Γ 66)), (1, .int a1)] rfl 23 rfl ?_
    refine y_iconst hC dX11_may_23 (v := (0 : Int32)) (by decide) 24 rfl ?_
    refine y_istore_n hC dX11_may_24 (by decide) [(3, .int (0 : Int32)), (2, .int n22), (0, .ref (ad Γ 66)), (1, .int a1)] rfl 25 rfl ?_
    refine y_iconst hC dX11_may_25 (v := (0 : Int32)) (by decide) 26 rfl ?_
    refine y_istore hC dX11_may_26 (by decide) [(4, .int (0 : Int32)), (3, .int (0 : Int32)), (2, .int n22), (0, .ref (ad Γ 66)), (1, .int a1)] rfl 28 rfl ?_
    refine y_sub [3, 4, 2, 1, 0] rfl ?_
    exact L28 1000 (n22, (0 : Int32), (0 : Int32), w) hk
  · have hk := ob_pos h5 hk
    refine y_aload_n hC dX11_may_8 0 rfl 9 rfl ?_
    obtain ⟨x9, hx9, hk⟩ := ob_bind hk
    refine y_callV hC 66 (hB 66 (by decide) (by decide)) (cl_L (u := w) rfl) rfl (c_X11_bad hJ hB l σ w x9 hx9) rfl ⟨w4_186, w1_13, cwd_X11_bad, by decide, by decide⟩ w4_183 w4_185 ws3_15 rfl rfl (Nat.le_of_ble_eq_true rfl) (by decide) dX11_may_9 12 rfl (gL σ x9.2) rfl [.int x9.1] rfl ?_
    have e := Option.some.inj hk
    exact y_iret hC hr hlk (by rw [← e]) (by first | rfl | rw [← e]) dX11_may_12
def f_X11_drawn_j130 (a1 : Int32) (a2 : Int32) (a3 : Int32) (K56 : (Int64 × Int32 × Int32 × LSt) → Option (Int32 × LSt)) (v4 : Int64) (v6 : Int32) (v7 : Int32) (v8 : Int32) (gw : LSt) : Option (Int32 × LSt) :=
  (f_X11_tries gw v8).bind fun x133 => 
    (K56 (v4, (v6 + (pL_takings x133)), (v7 + (1 : Int32)), x133))
def f_X11_drawn_j121 (a1 : Int32) (a2 : Int32) (a3 : Int32) (K56 : (Int64 × Int32 × Int32 × LSt) → Option (Int32 × LSt)) (K68 : (Int64 × Int32 × Int32 × Int32 × Int32 × LSt) → Option (Int32 × LSt)) (v4 : Int64) (v6 : Int32) (v7 : Int32) (v9 : Int32) (t0 : Int32) (t1 : Int32) (gw : LSt) : Option (Int32 × LSt) :=
  K68 (v4, v6, v7, (t1 ||| t0), (v9 + (1 : Int32)), gw)
def f_X11_drawn_s68 (a1 : Int32) (a2 : Int32) (a3 : Int32) (K56 : (Int64 × Int32 × Int32 × LSt) → Option (Int32 × LSt)) (K68 : (Int64 × Int32 × Int32 × Int32 × Int32 × LSt) → Option (Int32 × LSt)) (q68 : Int64 × Int32 × Int32 × Int32 × Int32 × LSt) : Option (Int32 × LSt) :=
  if inb (3 : Int32) 608 then 
    (if (pL_w q68.2.2.2.2.2 (3 : Int32).toNatClampNeg) ≤ q68.2.2.2.2.1 then
      f_X11_drawn_j130 a1 a2 a3 K56 q68.1 q68.2.1 q68.2.2.1 q68.2.2.2.1 q68.2.2.2.2.2
    else
      lt (((q68.1 * (1103515245 : Int64)) + (12345 : Int64)) - ((q68.1 * (1103515245 : Int64)) + (12345 : Int64)) / (2147483648 : Int64) * (2147483648 : Int64)) fun n93 => 
        (if 0 ≤ (lg_cmp ((n93 / (65536 : Int64)) - (n93 / (65536 : Int64)) / (100 : Int64) * (100 : Int64)) a3.toInt64) then
          f_X11_drawn_j121 a1 a2 a3 K56 K68 n93 q68.2.1 q68.2.2.1 q68.2.2.2.2.1 (0 : Int32) q68.2.2.2.1 q68.2.2.2.2.2
        else
          f_X11_drawn_j121 a1 a2 a3 K56 K68 n93 q68.2.1 q68.2.2.1 q68.2.2.2.2.1 ((1 : Int32) <<< (q68.2.2.2.2.1 &&& 31)) q68.2.2.2.1 q68.2.2.2.2.2))
  else none
def f_X11_drawn_s56 (a1 : Int32) (a2 : Int32) (a3 : Int32) (K56 : (Int64 × Int32 × Int32 × LSt) → Option (Int32 × LSt)) (q56 : Int64 × Int32 × Int32 × LSt) : Option (Int32 × LSt) :=
  if a2 ≤ q56.2.2.1 then
    some (q56.2.1, q56.2.2.2)
  else
    lp (f_X11_drawn_s68 a1 a2 a3 K56) 1000 (q56.1, q56.2.1, q56.2.2.1, (0 : Int32), (0 : Int32), q56.2.2.2)
def f_X11_drawn_j36 (a1 : Int32) (a2 : Int32) (a3 : Int32) (gw : LSt) : Option (Int32 × LSt) :=
  (f_X11_bad gw).bind fun x37 => 
    (some (x37.1, x37.2))
def f_X11_drawn (w : LSt) (a1 : Int32) (a2 : Int32) (a3 : Int32) : Option (Int32 × LSt) :=
  (f_X11_in a1.toInt64 (0 : Int64) (999999 : Int64)).bind fun x6 => 
    (if x6 = 0 then
      f_X11_drawn_j36 a1 a2 a3 w
    else
      (f_X11_in a2.toInt64 (0 : Int64) (30 : Int64)).bind fun x18 => 
        (if x18 = 0 then
          f_X11_drawn_j36 a1 a2 a3 w
        else
          (f_X11_in a3.toInt64 (0 : Int64) (100 : Int64)).bind fun x30 => 
            (if x30 = 0 then
              f_X11_drawn_j36 a1 a2 a3 w
            else
              lt (sL_shouted w (-1 : Int32)) fun g43 => 
                (lp (f_X11_drawn_s56 a1 a2 a3) 1000 (a1.toInt64, (0 : Int32), (0 : Int32), g43)))))
theorem cwd_X11_drawn : yX11_drawn.cls ≠ "java/lang/invoke/MethodHandle" ∧ yX11_drawn.cls ≠ "java/lang/invoke/VarHandle" ∧ (parseMethodDescriptor yX11_drawn.desc).map (fun d => d.parameters.length) = some 3 := by decide +kernel
set_option maxHeartbeats 4000000 in
set_option maxRecDepth 100000 in
theorem c_X11_drawn {Γ : GC} (hJ : GJ Γ) (hB : ∀ i, 66 ≤ i → i < 77 → act Γ i) (l : Launch) (σ : GSt) (w : LSt) (a1 : Int32) (a2 : Int32) (a3 : Int32) (x : Int32 × LSt) (hk : f_X11_drawn w a1 a2 a3 = some x) : Mt Γ l yX11_drawn cX11_drawn 10 (some .int) 5 117 [.ref (ad Γ 66), .int a1, .int a2, .int a3] (gL σ w) (some (.int x.1)) (gL σ x.2) := by
  refine y_enter (by decide) hJ (Nat.le_of_ble_eq_true rfl) [(0, .ref (ad Γ 66)), (1, .int a1), (2, .int a2), (3, .int a3)] rfl ?_
  intro p e s' m args below meth c' hC hr hlk
  have L56 : ∀ (n56 : Nat) (q56 : Int64 × Int32 × Int32 × LSt), lp (f_X11_drawn_s56 a1 a2 a3) n56 q56 = some x → Y Γ (GA Γ) p l e ({ frames := 5, cells := 0, slots := 0, locals := 117 } : Room) s' m args below meth c' 0 0 (MQ below (Qg Γ (some (.int x.1)) (gL σ x.2)) args s' 0 0 (GA Γ)) 10 (gL σ q56.2.2.2) 56 [(0, .ref (ad Γ 66)), (1, .int a1), (2, .int a2), (3, .int a3), (4, .long q56.1), (6, .int q56.2.1), (7, .int q56.2.2.1)] [] := by
    intro n56
    induction n56 with
    | zero => intro q56 hk; exact (lp_zero hk).elim
    | succ n56 ih56 =>
      intro q56 hk
      have hk : f_X11_drawn_s56 a1 a2 a3 (lp (f_X11_drawn_s56 a1 a2 a3) n56) q56 = some x := (lp_succ _ _ _).symm.trans hk
      have J130 : ∀ (v4 : Int64) (v6 : Int32) (v7 : Int32) (v8 : Int32) (gw : LSt), f_X11_drawn_j130 a1 a2 a3 (lp (f_X11_drawn_s56 a1 a2 a3) n56) v4 v6 v7 v8 gw = some x → Y Γ (GA Γ) p l e ({ frames := 5, cells := 0, slots := 0, locals := 117 } : Room) s' m args below meth c' 0 0 (MQ below (Qg Γ (some (.int x.1)) (gL σ x.2)) args s' 0 0 (GA Γ)) 10 (gL σ gw) 130 [(0, .ref (ad Γ 66)), (1, .int a1), (2, .int a2), (3, .int a3), (4, .long v4), (6, .int v6), (7, .int v7), (8, .int v8)] [] := by
        intro v4 v6 v7 v8 gw hk
        refine y_aload_n hC dX11_drawn_130 0 rfl 131 rfl ?_
        refine y_iload hC dX11_drawn_131 7 rfl 133 rfl ?_
        obtain ⟨x133, hx133, hk⟩ := ob_bind hk
        refine y_callV hC 66 (hB 66 (by decide) (by decide)) (cl_L (u := gw) rfl) rfl (c_X11_tries hJ hB l σ gw v8 x133 hx133) rfl ⟨w5_61, w1_13, cwd_X11_tries, by decide, by decide⟩ w5_58 w5_60 ws5_0 rfl rfl (Nat.le_of_ble_eq_true rfl) (by decide) dX11_drawn_133 136 rfl (gL σ x133) rfl [] rfl ?_
        refine y_iload hC dX11_drawn_136 5 rfl 138 rfl ?_
        refine y_aload_n hC dX11_drawn_138 0 rfl 139 rfl ?_
        refine y_get hC 66 (hB 66 (by decide) (by decide)) (cl_L (u := x133) rfl) rfl inU11 17 (by decide) w4_115 rfl dX11_drawn_139 142 rfl ?_
        refine y_iadd hC dX11_drawn_142 143 rfl ?_
        refine y_istore hC dX11_drawn_143 (by decide) [(6, .int (v6 + (pL_takings x133))), (0, .ref (ad Γ 66)), (1, .int a1), (2, .int a2), (3, .int a3), (4, .long v4), (7, .int v7), (8, .int v8)] rfl 145 rfl ?_
        refine y_iinc hC dX11_drawn_145 6 rfl (v := (v7 + (1 : Int32))) rfl (by decide) [(7, .int (v7 + (1 : Int32))), (6, .int (v6 + (pL_takings x133))), (0, .ref (ad Γ 66)), (1, .int a1), (2, .int a2), (3, .int a3), (4, .long v4), (8, .int v8)] rfl 148 rfl ?_
        refine y_goto hC dX11_drawn_148 56 (by decide) ?_
        refine y_sub [2, 3, 4, 5, 6, 1, 0] rfl ?_
        exact ih56 (v4, (v6 + (pL_takings x133)), (v7 + (1 : Int32)), x133) hk
      have L68 : ∀ (n68 : Nat) (q68 : Int64 × Int32 × Int32 × Int32 × Int32 × LSt), lp (f_X11_drawn_s68 a1 a2 a3 (lp (f_X11_drawn_s56 a1 a2 a3) n56)) n68 q68 = some x → Y Γ (GA Γ) p l e ({ frames := 5, cells := 0, slots := 0, locals := 117 } : Room) s' m args below meth c' 0 0 (MQ below (Qg Γ (some (.int x.1)) (gL σ x.2)) args s' 0 0 (GA Γ)) 10 (gL σ q68.2.2.2.2.2) 68 [(0, .ref (ad Γ 66)), (1, .int a1), (2, .int a2), (3, .int a3), (4, .long q68.1), (6, .int q68.2.1), (7, .int q68.2.2.1), (8, .int q68.2.2.2.1), (9, .int q68.2.2.2.2.1)] [] := by
        intro n68
        induction n68 with
        | zero => intro q68 hk; exact (lp_zero hk).elim
        | succ n68 ih68 =>
          intro q68 hk
          have hk : f_X11_drawn_s68 a1 a2 a3 (lp (f_X11_drawn_s56 a1 a2 a3) n56) (lp (f_X11_drawn_s68 a1 a2 a3 (lp (f_X11_drawn_s56 a1 a2 a3) n56)) n68) q68 = some x := (lp_succ _ _ _).symm.trans hk
          have J121 : ∀ (v4 : Int64) (v6 : Int32) (v7 : Int32) (v9 : Int32) (t0 : Int32) (t1 : Int32) (gw : LSt), f_X11_drawn_j121 a1 a2 a3 (lp (f_X11_drawn_s56 a1 a2 a3) n56) (lp (f_X11_drawn_s68 a1 a2 a3 (lp (f_X11_drawn_s56 a1 a2 a3) n56)) n68) v4 v6 v7 v9 t0 t1 gw = some x → Y Γ (GA Γ) p l e ({ frames := 5, cells := 0, slots := 0, locals := 117 } : Room) s' m args below meth c' 0 0 (MQ below (Qg Γ (some (.int x.1)) (gL σ x.2)) args s' 0 0 (GA Γ)) 10 (gL σ gw) 121 [(0, .ref (ad Γ 66)), (1, .int a1), (2, .int a2), (3, .int a3), (4, .long v4), (6, .int v6), (7, .int v7), (9, .int v9)] [.int t0, .int t1] := by
            intro v4 v6 v7 v9 t0 t1 gw hk
            refine y_ior hC dX11_drawn_121 122 rfl ?_
            refine y_istore hC dX11_drawn_122 (by decide) [(8, .int (t1 ||| t0)), (0, .ref (ad Γ 66)), (1, .int a1), (2, .int a2), (3, .int a3), (4, .long v4), (6, .int v6), (7, .int v7), (9, .int v9)] rfl 124 rfl ?_
            refine y_iinc hC dX11_drawn_124 8 rfl (v := (v9 + (1 : Int32))) rfl (by decide) [(9, .int (v9 + (1 : Int32))), (8, .int (t1 ||| t0)), (0, .ref (ad Γ 66)), (1, .int a1), (2, .int a2), (3, .int a3), (4, .long v4), (6, .int v6), (7, .int v7)] rfl 127 rfl ?_
            refine y_goto hC dX11_drawn_127 68 (by decide) ?_
            refine y_sub [2, 3, 4, 5, 6, 7, 8, 1, 0] rfl ?_
            exact ih68 (v4, v6, v7, (t1 ||| t0), (v9 + (1 : Int32)), gw) hk
          refine y_iload hC dX11_drawn_68 8 rfl 70 rfl ?_
          refine y_aload_n hC dX11_drawn_70 0 rfl 71 rfl ?_
          refine y_get hC 66 (hB 66 (by decide) (by decide)) (cl_L (u := q68.2.2.2.2.2) rfl) rfl inU11 0 (by decide) w4_98 rfl dX11_drawn_71 74 rfl ?_
          refine y_iconst hC dX11_drawn_74 (v := (3 : Int32)) (by decide) 75 rfl ?_
          obtain ⟨h75, hk⟩ := ob_if hk
          refine y_iald hC 67 (hB 67 (by decide) (by decide)) (cl_L_w (u := q68.2.2.2.2.2) rfl) h75 dX11_drawn_75 76 rfl ?_
          refine y_icmp_ge hC dX11_drawn_76 130 (by decide) 79 rfl (fun h76 => ?_) (fun h76 => ?_)
          · have hk := ob_pos h76 hk
            refine y_sub [0, 1, 2, 3, 4, 5, 6, 7] rfl ?_
            exact J130 q68.1 q68.2.1 q68.2.2.1 q68.2.2.2.1 q68.2.2.2.2.2 hk
          · have hk := ob_neg h76 hk
            refine y_lload hC dX11_drawn_79 4 rfl 81 rfl ?_
            refine y_ldc2 hC (v := (1103515245 : Int64)) w5_187 dX11_drawn_81 84 rfl ?_
            refine y_lmul hC dX11_drawn_84 85 rfl ?_
            refine y_ldc2 hC (v := (12345 : Int64)) w5_188 dX11_drawn_85 88 rfl ?_
            refine y_ladd hC dX11_drawn_88 89 rfl ?_
            refine y_ldc2 hC (v := (2147483648 : Int64)) w5_189 dX11_drawn_89 92 rfl ?_
            refine y_lrem hC dX11_drawn_92 (by decide) 93 rfl ?_
            obtain ⟨n93, en93, hk⟩ := ob_lt hk
            refine y_topl en93 ?_
            refine y_lstore hC dX11_drawn_93 (by decide) [(4, .long n93), (0, .ref (ad Γ 66)), (1, .int a1), (2, .int a2), (3, .int a3), (6, .int q68.2.1), (7, .int q68.2.2.1), (8, .int q68.2.2.2.1), (9, .int q68.2.2.2.2.1)] rfl 95 rfl ?_
            refine y_iload hC dX11_drawn_95 7 rfl 97 rfl ?_
            refine y_lload hC dX11_drawn_97 0 rfl 99 rfl ?_
            refine y_ldc2 hC (v := (65536 : Int64)) w5_190 dX11_drawn_99 102 rfl ?_
            refine y_ldiv hC dX11_drawn_102 (by decide) 103 rfl ?_
            refine y_ldc2 hC (v := (100 : Int64)) w5_186 dX11_drawn_103 106 rfl ?_
            refine y_lrem hC dX11_drawn_106 (by decide) 107 rfl ?_
            refine y_iload_n hC dX11_drawn_107 4 rfl 108 rfl ?_
            refine y_i2l hC dX11_drawn_108 109 rfl ?_
            refine y_lcmp hC dX11_drawn_109 110 rfl ?_
            refine y_if_ge hC dX11_drawn_110 120 (by decide) 113 rfl (fun h110 => ?_) (fun h110 => ?_)
            · have hk := ob_pos h110 hk
              refine y_iconst hC dX11_drawn_120 (v := (0 : Int32)) (by decide) 121 rfl ?_
              refine y_sub [1, 2, 3, 4, 0, 5, 6, 8] rfl ?_
              exact J121 n93 q68.2.1 q68.2.2.1 q68.2.2.2.2.1 (0 : Int32) q68.2.2.2.1 q68.2.2.2.2.2 hk
            · have hk := ob_neg h110 hk
              refine y_iconst hC dX11_drawn_113 (v := (1 : Int32)) (by decide) 114 rfl ?_
              refine y_iload hC dX11_drawn_114 8 rfl 116 rfl ?_
              refine y_ishl hC dX11_drawn_116 117 rfl ?_
              refine y_goto hC dX11_drawn_117 121 (by decide) ?_
              refine y_sub [1, 2, 3, 4, 0, 5, 6, 8] rfl ?_
              exact J121 n93 q68.2.1 q68.2.2.1 q68.2.2.2.2.1 ((1 : Int32) <<< (q68.2.2.2.2.1 &&& 31)) q68.2.2.2.1 q68.2.2.2.2.2 hk
      refine y_iload hC dX11_drawn_56 6 rfl 58 rfl ?_
      refine y_iload_n hC dX11_drawn_58 2 rfl 59 rfl ?_
      refine y_icmp_ge hC dX11_drawn_59 151 (by decide) 62 rfl (fun h59 => ?_) (fun h59 => ?_)
      · have hk := ob_pos h59 hk
        refine y_iload hC dX11_drawn_151 5 rfl 153 rfl ?_
        have e := Option.some.inj hk
        exact y_iret hC hr hlk (by rw [← e]) (by first | rfl | rw [← e]) dX11_drawn_153
      · have hk := ob_neg h59 hk
        refine y_iconst hC dX11_drawn_62 (v := (0 : Int32)) (by decide) 63 rfl ?_
        refine y_istore hC dX11_drawn_63 (by decide) [(8, .int (0 : Int32)), (0, .ref (ad Γ 66)), (1, .int a1), (2, .int a2), (3, .int a3), (4, .long q56.1), (6, .int q56.2.1), (7, .int q56.2.2.1)] rfl 65 rfl ?_
        refine y_iconst hC dX11_drawn_65 (v := (0 : Int32)) (by decide) 66 rfl ?_
        refine y_istore hC dX11_drawn_66 (by decide) [(9, .int (0 : Int32)), (8, .int (0 : Int32)), (0, .ref (ad Γ 66)), (1, .int a1), (2, .int a2), (3, .int a3), (4, .long q56.1), (6, .int q56.2.1), (7, .int q56.2.2.1)] rfl 68 rfl ?_
        refine y_sub [2, 3, 4, 5, 6, 7, 8, 1, 0] rfl ?_
        exact L68 1000 (q56.1, q56.2.1, q56.2.2.1, (0 : Int32), (0 : Int32), q56.2.2.2) hk
  have J36 : ∀ (gw : LSt), f_X11_drawn_j36 a1 a2 a3 gw = some x → Y Γ (GA Γ) p l e ({ frames := 5, cells := 0, slots := 0, locals := 117 } : Room) s' m args below meth c' 0 0 (MQ below (Qg Γ (some (.int x.1)) (gL σ x.2)) args s' 0 0 (GA Γ)) 10 (gL σ gw) 36 [(0, .ref (ad Γ 66)), (1, .int a1), (2, .int a2), (3, .int a3)] [] := by
    intro gw hk
    refine y_aload_n hC dX11_drawn_36 0 rfl 37 rfl ?_
    obtain ⟨x37, hx37, hk⟩ := ob_bind hk
    refine y_callV hC 66 (hB 66 (by decide) (by decide)) (cl_L (u := gw) rfl) rfl (c_X11_bad hJ hB l σ gw x37 hx37) rfl ⟨w4_186, w1_13, cwd_X11_bad, by decide, by decide⟩ w4_183 w4_185 ws3_15 rfl rfl (Nat.le_of_ble_eq_true rfl) (by decide) dX11_drawn_37 40 rfl (gL σ x37.2) rfl [.int x37.1] rfl ?_
    have e := Option.some.inj hk
    exact y_iret hC hr hlk (by rw [← e]) (by first | rfl | rw [← e]) dX11_drawn_40
  refine y_iload_n hC dX11_drawn_0 1 rfl 1 rfl ?_
  refine y_i2l hC dX11_drawn_1 2 rfl ?_
  refine y_lconst hC dX11_drawn_2 (v := (0 : Int64)) (by decide) 3 rfl ?_
  refine y_ldc2 hC (v := (999999 : Int64)) w5_184 dX11_drawn_3 6 rfl ?_
  obtain ⟨x6, hx6, hk⟩ := ob_bind hk
  refine y_callS hC (c_X11_in hJ l (gL σ w) a1.toInt64 (0 : Int64) (999999 : Int64) x6 hx6) rfl ⟨w4_181, w1_13, cwd_X11_in, by decide, by decide⟩ w4_179 w4_180 rfl rfl (Nat.le_of_ble_eq_true rfl) (by decide) dX11_drawn_6 9 rfl (gL σ w) rfl [.int x6] rfl ?_
  refine y_if_eq hC dX11_drawn_9 36 (by decide) 12 rfl (fun h9 => ?_) (fun h9 => ?_)
  · have hk := ob_pos h9 hk
    refine y_sub [0, 1, 2, 3] rfl ?_
    exact J36 w hk
  · have hk := ob_neg h9 hk
    refine y_iload_n hC dX11_drawn_12 2 rfl 13 rfl ?_
    refine y_i2l hC dX11_drawn_13 14 rfl ?_
    refine y_lconst hC dX11_drawn_14 (v := (0 : Int64)) (by decide) 15 rfl ?_
    refine y_ldc2 hC (v := (30 : Int64)) w5_185 dX11_drawn_15 18 rfl ?_
    obtain ⟨x18, hx18, hk⟩ := ob_bind hk
    refine y_callS hC (c_X11_in hJ l (gL σ w) a2.toInt64 (0 : Int64) (30 : Int64) x18 hx18) rfl ⟨w4_181, w1_13, cwd_X11_in, by decide, by decide⟩ w4_179 w4_180 rfl rfl (Nat.le_of_ble_eq_true rfl) (by decide) dX11_drawn_18 21 rfl (gL σ w) rfl [.int x18] rfl ?_
    refine y_if_eq hC dX11_drawn_21 36 (by decide) 24 rfl (fun h21 => ?_) (fun h21 => ?_)
    · have hk := ob_pos h21 hk
      refine y_sub [0, 1, 2, 3] rfl ?_
      exact J36 w hk
    · have hk := ob_neg h21 hk
      refine y_iload_n hC dX11_drawn_24 3 rfl 25 rfl ?_
      refine y_i2l hC dX11_drawn_25 26 rfl ?_
      refine y_lconst hC dX11_drawn_26 (v := (0 : Int64)) (by decide) 27 rfl ?_
      refine y_ldc2 hC (v := (100 : Int64)) w5_186 dX11_drawn_27 30 rfl ?_
      obtain ⟨x30, hx30, hk⟩ := ob_bind hk
      refine y_callS hC (c_X11_in hJ l (gL σ w) a3.toInt64 (0 : Int64) (100 : Int64) x30 hx30) rfl ⟨w4_181, w1_13, cwd_X11_in, by decide, by decide⟩ w4_179 w4_180 rfl rfl (Nat.le_of_ble_eq_true rfl) (by decide) dX11_drawn_30 33 rfl (gL σ w) rfl [.int x30] rfl ?_
      refine y_if_ne hC dX11_drawn_33 41 (by decide) 36 rfl (fun h33 => ?_) (fun h33 => ?_)
      · have hk := ob_neg h33 hk
        refine y_aload_n hC dX11_drawn_41 0 rfl 42 rfl ?_
        refine y_iconst hC dX11_drawn_42 (v := (-1 : Int32)) (by decide) 43 rfl ?_
        obtain ⟨g43, eg43, hk⟩ := ob_lt hk
        refine y_put hC 66 (hB 66 (by decide) (by decide)) (cl_L (u := w) rfl) rfl inU11 tyX11_ok nmX11 13 (by decide) w4_111 rfl rfl rfl rfl (Nat.le_of_ble_eq_true rfl) (gL σ g43) (by subst eg43; exact (cu_L_shouted (u := w) (v := (-1 : Int32)) rfl rfl)) dX11_drawn_43 46 rfl ?_
        refine y_iload_n hC dX11_drawn_46 1 rfl 47 rfl ?_
        refine y_i2l hC dX11_drawn_47 48 rfl ?_
        refine y_lstore hC dX11_drawn_48 (by decide) [(4, .long a1.toInt64), (0, .ref (ad Γ 66)), (1, .int a1), (2, .int a2), (3, .int a3)] rfl 50 rfl ?_
        refine y_iconst hC dX11_drawn_50 (v := (0 : Int32)) (by decide) 51 rfl ?_
        refine y_istore hC dX11_drawn_51 (by decide) [(6, .int (0 : Int32)), (4, .long a1.toInt64), (0, .ref (ad Γ 66)), (1, .int a1), (2, .int a2), (3, .int a3)] rfl 53 rfl ?_
        refine y_iconst hC dX11_drawn_53 (v := (0 : Int32)) (by decide) 54 rfl ?_
        refine y_istore hC dX11_drawn_54 (by decide) [(7, .int (0 : Int32)), (6, .int (0 : Int32)), (4, .long a1.toInt64), (0, .ref (ad Γ 66)), (1, .int a1), (2, .int a2), (3, .int a3)] rfl 56 rfl ?_
        refine y_sub [3, 4, 5, 6, 2, 1, 0] rfl ?_
        exact L56 1000 (a1.toInt64, (0 : Int32), (0 : Int32), g43) hk
      · have hk := ob_pos h33 hk
        refine y_sub [0, 1, 2, 3] rfl ?_
        exact J36 w hk
def f_X11_part (w : LSt) (a1 : Int32) : Option (Int64 × LSt) :=
  if a1 = 0 then
    some ((pL_above w), w)
  else
    if a1 = (1 : Int32) then
      some ((pL_below w), w)
    else
      (f_X11_bad w).bind fun x24 => 
        (some (x24.1.toInt64, x24.2))
theorem cwd_X11_part : yX11_part.cls ≠ "java/lang/invoke/MethodHandle" ∧ yX11_part.cls ≠ "java/lang/invoke/VarHandle" ∧ (parseMethodDescriptor yX11_part.desc).map (fun d => d.parameters.length) = some 1 := by decide +kernel
set_option maxHeartbeats 4000000 in
set_option maxRecDepth 100000 in
theorem c_X11_part {Γ : GC} (hJ : GJ Γ) (hB : ∀ i, 66 ≤ i → i < 77 → act Γ i) (l : Launch) (σ : GSt) (w : LSt) (a1 : Int32) (x : Int64 × LSt) (hk : f_X11_part w a1 = some x) : Mt Γ l yX11_part cX11_part 2 (some .long) 1 20 [.ref (ad Γ 66), .int a1] (gL σ w) (some (.long x.1)) (gL σ x.2) := by
  refine y_enter (by decide) hJ (Nat.le_of_ble_eq_true rfl) [(0, .ref (ad Γ 66)), (1, .int a1)] rfl ?_
  intro p e s' m args below meth c' hC hr hlk
  refine y_iload_n hC dX11_part_0 1 rfl 1 rfl ?_
  refine y_if_ne hC dX11_part_1 11 (by decide) 4 rfl (fun h1 => ?_) (fun h1 => ?_)
  · have hk := ob_neg h1 hk
    refine y_iload_n hC dX11_part_11 1 rfl 12 rfl ?_
    refine y_iconst hC dX11_part_12 (v := (1 : Int32)) (by decide) 13 rfl ?_
    refine y_icmp_ne hC dX11_part_13 23 (by decide) 16 rfl (fun h13 => ?_) (fun h13 => ?_)
    · have hk := ob_neg h13 hk
      refine y_aload_n hC dX11_part_23 0 rfl 24 rfl ?_
      obtain ⟨x24, hx24, hk⟩ := ob_bind hk
      refine y_callV hC 66 (hB 66 (by decide) (by decide)) (cl_L (u := w) rfl) rfl (c_X11_bad hJ hB l σ w x24 hx24) rfl ⟨w4_186, w1_13, cwd_X11_bad, by decide, by decide⟩ w4_183 w4_185 ws3_15 rfl rfl (Nat.le_of_ble_eq_true rfl) (by decide) dX11_part_24 27 rfl (gL σ x24.2) rfl [.int x24.1] rfl ?_
      refine y_i2l hC dX11_part_27 28 rfl ?_
      have e := Option.some.inj hk
      exact y_lret hC hr hlk (by rw [← e]) (by first | rfl | rw [← e]) dX11_part_28
    · have hk := ob_pos h13 hk
      refine y_aload_n hC dX11_part_16 0 rfl 17 rfl ?_
      refine y_get hC 66 (hB 66 (by decide) (by decide)) (cl_L (u := w) rfl) rfl inU11 6 (by decide) w4_104 rfl dX11_part_17 20 rfl ?_
      refine y_goto hC dX11_part_20 28 (by decide) ?_
      have e := Option.some.inj hk
      exact y_lret hC hr hlk (by rw [← e]) (by first | rfl | rw [← e]) dX11_part_28
  · have hk := ob_pos h1 hk
    refine y_aload_n hC dX11_part_4 0 rfl 5 rfl ?_
    refine y_get hC 66 (hB 66 (by decide) (by decide)) (cl_L (u := w) rfl) rfl inU11 5 (by decide) w4_103 rfl dX11_part_5 8 rfl ?_
    refine y_goto hC dX11_part_8 28 (by decide) ?_
    have e := Option.some.inj hk
    exact y_lret hC hr hlk (by rw [← e]) (by first | rfl | rw [← e]) dX11_part_28
def f_X11_image (w : LSt) (a1 : Int32) : Option (Int32 × LSt) :=
  (f_X11_in a1.toInt64 (0 : Int64) (1 : Int64)).bind fun x4 => 
    (if x4 = 0 then
      (f_X11_bad w).bind fun x11 => 
        (some (x11.1, x11.2))
    else
      (f_X11_copy w (0 : Int32) ((152 : Int32) * ((1 : Int32) + a1))).bind fun x24 => 
        (if inb a1 2 then 
        (lt (sL_isKept x24 (upd (pL_isKept x24) a1.toNatClampNeg (vp_nar .boolean (1 : Int32)))) fun g33 => 
        (some ((1 : Int32), g33)))
      else none))
theorem cwd_X11_image : yX11_image.cls ≠ "java/lang/invoke/MethodHandle" ∧ yX11_image.cls ≠ "java/lang/invoke/VarHandle" ∧ (parseMethodDescriptor yX11_image.desc).map (fun d => d.parameters.length) = some 1 := by decide +kernel
set_option maxHeartbeats 4000000 in
set_option maxRecDepth 100000 in
theorem c_X11_image {Γ : GC} (hJ : GJ Γ) (hB : ∀ i, 66 ≤ i → i < 77 → act Γ i) (l : Launch) (σ : GSt) (w : LSt) (a1 : Int32) (x : Int32 × LSt) (hk : f_X11_image w a1 = some x) : Mt Γ l yX11_image cX11_image 2 (some .int) 1 25 [.ref (ad Γ 66), .int a1] (gL σ w) (some (.int x.1)) (gL σ x.2) := by
  refine y_enter (by decide) hJ (Nat.le_of_ble_eq_true rfl) [(0, .ref (ad Γ 66)), (1, .int a1)] rfl ?_
  intro p e s' m args below meth c' hC hr hlk
  refine y_iload_n hC dX11_image_0 1 rfl 1 rfl ?_
  refine y_i2l hC dX11_image_1 2 rfl ?_
  refine y_lconst hC dX11_image_2 (v := (0 : Int64)) (by decide) 3 rfl ?_
  refine y_lconst hC dX11_image_3 (v := (1 : Int64)) (by decide) 4 rfl ?_
  obtain ⟨x4, hx4, hk⟩ := ob_bind hk
  refine y_callS hC (c_X11_in hJ l (gL σ w) a1.toInt64 (0 : Int64) (1 : Int64) x4 hx4) rfl ⟨w4_181, w1_13, cwd_X11_in, by decide, by decide⟩ w4_179 w4_180 rfl rfl (Nat.le_of_ble_eq_true rfl) (by decide) dX11_image_4 7 rfl (gL σ w) rfl [.int x4] rfl ?_
  refine y_if_ne hC dX11_image_7 15 (by decide) 10 rfl (fun h7 => ?_) (fun h7 => ?_)
  · have hk := ob_neg h7 hk
    refine y_aload_n hC dX11_image_15 0 rfl 16 rfl ?_
    refine y_iconst hC dX11_image_16 (v := (0 : Int32)) (by decide) 17 rfl ?_
    refine y_sipush hC dX11_image_17 (v := (152 : Int32)) (by decide) 20 rfl ?_
    refine y_iconst hC dX11_image_20 (v := (1 : Int32)) (by decide) 21 rfl ?_
    refine y_iload_n hC dX11_image_21 1 rfl 22 rfl ?_
    refine y_iadd hC dX11_image_22 23 rfl ?_
    refine y_imul hC dX11_image_23 24 rfl ?_
    obtain ⟨x24, hx24, hk⟩ := ob_bind hk
    refine y_callV hC 66 (hB 66 (by decide) (by decide)) (cl_L (u := w) rfl) rfl (c_X11_copy hJ hB l σ w (0 : Int32) ((152 : Int32) * ((1 : Int32) + a1)) x24 hx24) rfl ⟨w5_45, w1_13, cwd_X11_copy, by decide, by decide⟩ w5_42 w5_44 ws4_13 rfl rfl (Nat.le_of_ble_eq_true rfl) (by decide) dX11_image_24 27 rfl (gL σ x24) rfl [] rfl ?_
    refine y_aload_n hC dX11_image_27 0 rfl 28 rfl ?_
    refine y_get hC 66 (hB 66 (by decide) (by decide)) (cl_L (u := x24) rfl) rfl inU11 1 (by decide) w4_99 rfl dX11_image_28 31 rfl ?_
    refine y_iload_n hC dX11_image_31 1 rfl 32 rfl ?_
    refine y_iconst hC dX11_image_32 (v := (1 : Int32)) (by decide) 33 rfl ?_
    obtain ⟨h33, hk⟩ := ob_if hk
    obtain ⟨g33, eg33, hk⟩ := ob_lt hk
    refine y_zast hC 68 (hB 68 (by decide) (by decide)) (cl_L_isKept (u := x24) rfl) h33 (gL σ g33) (by subst eg33; exact (cu_L_isKept (u := x24) (v := (upd (pL_isKept x24) a1.toNatClampNeg (vp_nar .boolean (1 : Int32)))) rfl rfl)) dX11_image_33 34 rfl ?_
    refine y_iconst hC dX11_image_34 (v := (1 : Int32)) (by decide) 35 rfl ?_
    have e := Option.some.inj hk
    exact y_iret hC hr hlk (by rw [← e]) (by first | rfl | rw [← e]) dX11_image_35
  · have hk := ob_pos h7 hk
    refine y_aload_n hC dX11_image_10 0 rfl 11 rfl ?_
    obtain ⟨x11, hx11, hk⟩ := ob_bind hk
    refine y_callV hC 66 (hB 66 (by decide) (by decide)) (cl_L (u := w) rfl) rfl (c_X11_bad hJ hB l σ w x11 hx11) rfl ⟨w4_186, w1_13, cwd_X11_bad, by decide, by decide⟩ w4_183 w4_185 ws3_15 rfl rfl (Nat.le_of_ble_eq_true rfl) (by decide) dX11_image_11 14 rfl (gL σ x11.2) rfl [.int x11.1] rfl ?_
    have e := Option.some.inj hk
    exact y_iret hC hr hlk (by rw [← e]) (by first | rfl | rw [← e]) dX11_image_14
def f_X11_from (w : LSt) (a1 : Int32) : Option (Int32 × LSt) :=
  (f_X11_in a1.toInt64 (0 : Int64) (1 : Int64)).bind fun x4 => 
    (if x4 = 0 then
      (f_X11_bad w).bind fun x11 => 
        (some (x11.1, x11.2))
    else
      if inb a1 2 then 
        (if (pL_isKept w a1.toNatClampNeg) = 0 then
          (f_X11_no w).bind fun x25 => 
            (some (x25.1, x25.2))
        else
          (f_X11_copy w ((152 : Int32) * ((1 : Int32) + a1)) (0 : Int32)).bind fun x38 => 
            (some ((1 : Int32), x38)))
      else none)
theorem cwd_X11_from : yX11_from.cls ≠ "java/lang/invoke/MethodHandle" ∧ yX11_from.cls ≠ "java/lang/invoke/VarHandle" ∧ (parseMethodDescriptor yX11_from.desc).map (fun d => d.parameters.length) = some 1 := by decide +kernel
set_option maxHeartbeats 4000000 in
set_option maxRecDepth 100000 in
theorem c_X11_from {Γ : GC} (hJ : GJ Γ) (hB : ∀ i, 66 ≤ i → i < 77 → act Γ i) (l : Launch) (σ : GSt) (w : LSt) (a1 : Int32) (x : Int32 × LSt) (hk : f_X11_from w a1 = some x) : Mt Γ l yX11_from cX11_from 2 (some .int) 1 25 [.ref (ad Γ 66), .int a1] (gL σ w) (some (.int x.1)) (gL σ x.2) := by
  refine y_enter (by decide) hJ (Nat.le_of_ble_eq_true rfl) [(0, .ref (ad Γ 66)), (1, .int a1)] rfl ?_
  intro p e s' m args below meth c' hC hr hlk
  refine y_iload_n hC dX11_from_0 1 rfl 1 rfl ?_
  refine y_i2l hC dX11_from_1 2 rfl ?_
  refine y_lconst hC dX11_from_2 (v := (0 : Int64)) (by decide) 3 rfl ?_
  refine y_lconst hC dX11_from_3 (v := (1 : Int64)) (by decide) 4 rfl ?_
  obtain ⟨x4, hx4, hk⟩ := ob_bind hk
  refine y_callS hC (c_X11_in hJ l (gL σ w) a1.toInt64 (0 : Int64) (1 : Int64) x4 hx4) rfl ⟨w4_181, w1_13, cwd_X11_in, by decide, by decide⟩ w4_179 w4_180 rfl rfl (Nat.le_of_ble_eq_true rfl) (by decide) dX11_from_4 7 rfl (gL σ w) rfl [.int x4] rfl ?_
  refine y_if_ne hC dX11_from_7 15 (by decide) 10 rfl (fun h7 => ?_) (fun h7 => ?_)
  · have hk := ob_neg h7 hk
    refine y_aload_n hC dX11_from_15 0 rfl 16 rfl ?_
    refine y_get hC 66 (hB 66 (by decide) (by decide)) (cl_L (u := w) rfl) rfl inU11 1 (by decide) w4_99 rfl dX11_from_16 19 rfl ?_
    refine y_iload_n hC dX11_from_19 1 rfl 20 rfl ?_
    obtain ⟨h20, hk⟩ := ob_if hk
    refine y_zald hC 68 (hB 68 (by decide) (by decide)) (cl_L_isKept (u := w) rfl) h20 dX11_from_20 21 rfl ?_
    refine y_if_ne hC dX11_from_21 29 (by decide) 24 rfl (fun h21 => ?_) (fun h21 => ?_)
    · have hk := ob_neg h21 hk
      refine y_aload_n hC dX11_from_29 0 rfl 30 rfl ?_
      refine y_sipush hC dX11_from_30 (v := (152 : Int32)) (by decide) 33 rfl ?_
      refine y_iconst hC dX11_from_33 (v := (1 : Int32)) (by decide) 34 rfl ?_
      refine y_iload_n hC dX11_from_34 1 rfl 35 rfl ?_
      refine y_iadd hC dX11_from_35 36 rfl ?_
      refine y_imul hC dX11_from_36 37 rfl ?_
      refine y_iconst hC dX11_from_37 (v := (0 : Int32)) (by decide) 38 rfl ?_
      obtain ⟨x38, hx38, hk⟩ := ob_bind hk
      refine y_callV hC 66 (hB 66 (by decide) (by decide)) (cl_L (u := w) rfl) rfl (c_X11_copy hJ hB l σ w ((152 : Int32) * ((1 : Int32) + a1)) (0 : Int32) x38 hx38) rfl ⟨w5_45, w1_13, cwd_X11_copy, by decide, by decide⟩ w5_42 w5_44 ws4_13 rfl rfl (Nat.le_of_ble_eq_true rfl) (by decide) dX11_from_38 41 rfl (gL σ x38) rfl [] rfl ?_
      refine y_iconst hC dX11_from_41 (v := (1 : Int32)) (by decide) 42 rfl ?_
      have e := Option.some.inj hk
      exact y_iret hC hr hlk (by rw [← e]) (by first | rfl | rw [← e]) dX11_from_42
    · have hk := ob_pos h21 hk
      refine y_aload_n hC dX11_from_24 0 rfl 25 rfl ?_
      obtain ⟨x25, hx25, hk⟩ := ob_bind hk
      refine y_callV hC 66 (hB 66 (by decide) (by decide)) (cl_L (u := w) rfl) rfl (c_X11_no hJ hB l σ w x25 hx25) rfl ⟨w5_104, w1_13, cwd_X11_no, by decide, by decide⟩ w5_101 w5_103 ws5_9 rfl rfl (Nat.le_of_ble_eq_true rfl) (by decide) dX11_from_25 28 rfl (gL σ x25.2) rfl [.int x25.1] rfl ?_
      have e := Option.some.inj hk
      exact y_iret hC hr hlk (by rw [← e]) (by first | rfl | rw [← e]) dX11_from_28
  · have hk := ob_pos h7 hk
    refine y_aload_n hC dX11_from_10 0 rfl 11 rfl ?_
    obtain ⟨x11, hx11, hk⟩ := ob_bind hk
    refine y_callV hC 66 (hB 66 (by decide) (by decide)) (cl_L (u := w) rfl) rfl (c_X11_bad hJ hB l σ w x11 hx11) rfl ⟨w4_186, w1_13, cwd_X11_bad, by decide, by decide⟩ w4_183 w4_185 ws3_15 rfl rfl (Nat.le_of_ble_eq_true rfl) (by decide) dX11_from_11 14 rfl (gL σ x11.2) rfl [.int x11.1] rfl ?_
    have e := Option.some.inj hk
    exact y_iret hC hr hlk (by rw [← e]) (by first | rfl | rw [← e]) dX11_from_14
def f_X11_status (w : LSt) (a1 : Int32) : Option (Int32 × LSt) :=
  (f_X11_in a1.toInt64 (0 : Int64) (2 : Int64)).bind fun x6 => 
    (if x6 = 0 then
      (f_X11_badAs w (-1 : Int32)).bind fun x23 => 
        (some (x23.1, x23.2))
    else
      if inb a1 3 then 
        (some ((pL_refused w a1.toNatClampNeg), w))
      else none)
theorem cwd_X11_status : yX11_status.cls ≠ "java/lang/invoke/MethodHandle" ∧ yX11_status.cls ≠ "java/lang/invoke/VarHandle" ∧ (parseMethodDescriptor yX11_status.desc).map (fun d => d.parameters.length) = some 1 := by decide +kernel
set_option maxHeartbeats 4000000 in
set_option maxRecDepth 100000 in
theorem c_X11_status {Γ : GC} (hJ : GJ Γ) (hB : ∀ i, 66 ≤ i → i < 77 → act Γ i) (l : Launch) (σ : GSt) (w : LSt) (a1 : Int32) (x : Int32 × LSt) (hk : f_X11_status w a1 = some x) : Mt Γ l yX11_status cX11_status 2 (some .int) 1 25 [.ref (ad Γ 66), .int a1] (gL σ w) (some (.int x.1)) (gL σ x.2) := by
  refine y_enter (by decide) hJ (Nat.le_of_ble_eq_true rfl) [(0, .ref (ad Γ 66)), (1, .int a1)] rfl ?_
  intro p e s' m args below meth c' hC hr hlk
  refine y_iload_n hC dX11_status_0 1 rfl 1 rfl ?_
  refine y_i2l hC dX11_status_1 2 rfl ?_
  refine y_lconst hC dX11_status_2 (v := (0 : Int64)) (by decide) 3 rfl ?_
  refine y_ldc2 hC (v := (2 : Int64)) w5_207 dX11_status_3 6 rfl ?_
  obtain ⟨x6, hx6, hk⟩ := ob_bind hk
  refine y_callS hC (c_X11_in hJ l (gL σ w) a1.toInt64 (0 : Int64) (2 : Int64) x6 hx6) rfl ⟨w4_181, w1_13, cwd_X11_in, by decide, by decide⟩ w4_179 w4_180 rfl rfl (Nat.le_of_ble_eq_true rfl) (by decide) dX11_status_6 9 rfl (gL σ w) rfl [.int x6] rfl ?_
  refine y_if_eq hC dX11_status_9 21 (by decide) 12 rfl (fun h9 => ?_) (fun h9 => ?_)
  · have hk := ob_pos h9 hk
    refine y_aload_n hC dX11_status_21 0 rfl 22 rfl ?_
    refine y_iconst hC dX11_status_22 (v := (-1 : Int32)) (by decide) 23 rfl ?_
    obtain ⟨x23, hx23, hk⟩ := ob_bind hk
    refine y_callV hC 66 (hB 66 (by decide) (by decide)) (cl_L (u := w) rfl) rfl (c_X11_badAs hJ hB l σ w (-1 : Int32) x23 hx23) rfl ⟨w5_154, w1_13, cwd_X11_badAs, by decide, by decide⟩ w5_151 w5_153 ws5_13 rfl rfl (Nat.le_of_ble_eq_true rfl) (by decide) dX11_status_23 26 rfl (gL σ x23.2) rfl [.int x23.1] rfl ?_
    have e := Option.some.inj hk
    exact y_iret hC hr hlk (by rw [← e]) (by first | rfl | rw [← e]) dX11_status_26
  · have hk := ob_neg h9 hk
    refine y_aload_n hC dX11_status_12 0 rfl 13 rfl ?_
    refine y_get hC 66 (hB 66 (by decide) (by decide)) (cl_L (u := w) rfl) rfl inU11 4 (by decide) w4_102 rfl dX11_status_13 16 rfl ?_
    refine y_iload_n hC dX11_status_16 1 rfl 17 rfl ?_
    obtain ⟨h17, hk⟩ := ob_if hk
    refine y_iald hC 70 (hB 70 (by decide) (by decide)) (cl_L_refused (u := w) rfl) h17 dX11_status_17 18 rfl ?_
    refine y_goto hC dX11_status_18 26 (by decide) ?_
    have e := Option.some.inj hk
    exact y_iret hC hr hlk (by rw [← e]) (by first | rfl | rw [← e]) dX11_status_26
def f_X11_countOf (w : LSt) (a1 : Int32) : Option (Int32) :=
  if a1.toInt = 0 then
    if inb (0 : Int32) 608 then 
      (some (pL_w w (0 : Int32).toNatClampNeg))
    else none
  else
    if a1.toInt = 1 then
      if inb (1 : Int32) 608 then 
        (some (pL_w w (1 : Int32).toNatClampNeg))
      else none
    else
      if a1.toInt = 2 then
        if inb (3 : Int32) 608 then 
          (some (pL_w w (3 : Int32).toNatClampNeg))
        else none
      else
        if a1.toInt = 3 then
          if inb (4 : Int32) 608 then 
            (some (pL_w w (4 : Int32).toNatClampNeg))
          else none
        else
          if a1.toInt = 4 then
            if inb (5 : Int32) 608 then 
              (some (pL_w w (5 : Int32).toNatClampNeg))
            else none
          else
            if a1.toInt = 5 then
              if inb (6 : Int32) 608 then 
                (some (pL_w w (6 : Int32).toNatClampNeg))
              else none
            else
              if a1.toInt = 6 then
                if inb (7 : Int32) 608 then 
                  (some (pL_w w (7 : Int32).toNatClampNeg))
                else none
              else
                some (pL_texted w)
theorem cwd_X11_countOf : yX11_countOf.cls ≠ "java/lang/invoke/MethodHandle" ∧ yX11_countOf.cls ≠ "java/lang/invoke/VarHandle" ∧ (parseMethodDescriptor yX11_countOf.desc).map (fun d => d.parameters.length) = some 1 := by decide +kernel
set_option maxHeartbeats 4000000 in
set_option maxRecDepth 100000 in
theorem c_X11_countOf {Γ : GC} (hJ : GJ Γ) (hB : ∀ i, 66 ≤ i → i < 77 → act Γ i) (l : Launch) (σ : GSt) (w : LSt) (a1 : Int32) (x : Int32) (hk : f_X11_countOf w a1 = some x) : Mt Γ l yX11_countOf cX11_countOf 2 (some .int) 0 0 [.ref (ad Γ 66), .int a1] (gL σ w) (some (.int x)) (gL σ w) := by
  refine y_enter (by decide) hJ (Nat.le_of_ble_eq_true rfl) [(0, .ref (ad Γ 66)), (1, .int a1)] rfl ?_
  intro p e s' m args below meth c' hC hr hlk
  refine y_iload_n hC dX11_countOf_0 1 rfl 1 rfl ?_
  by_cases h1_0 : a1.toInt = 0
  · have hk := ob_pos h1_0 hk
    refine y_tabI hC dX11_countOf_1 h1_0 (by decide) (by decide) rfl 44 (by decide) ?_
    refine y_aload_n hC dX11_countOf_44 0 rfl 45 rfl ?_
    refine y_get hC 66 (hB 66 (by decide) (by decide)) (cl_L (u := w) rfl) rfl inU11 0 (by decide) w4_98 rfl dX11_countOf_45 48 rfl ?_
    refine y_iconst hC dX11_countOf_48 (v := (0 : Int32)) (by decide) 49 rfl ?_
    obtain ⟨h49, hk⟩ := ob_if hk
    refine y_iald hC 67 (hB 67 (by decide) (by decide)) (cl_L_w (u := w) rfl) h49 dX11_countOf_49 50 rfl ?_
    have e := Option.some.inj hk
    exact y_iret hC hr hlk (by rw [← e]) (by first | rfl | rw [← e]) dX11_countOf_50
  · have hk := ob_neg h1_0 hk
    by_cases h1_1 : a1.toInt = 1
    · have hk := ob_pos h1_1 hk
      refine y_tabI hC dX11_countOf_1 h1_1 (by decide) (by decide) rfl 51 (by decide) ?_
      refine y_aload_n hC dX11_countOf_51 0 rfl 52 rfl ?_
      refine y_get hC 66 (hB 66 (by decide) (by decide)) (cl_L (u := w) rfl) rfl inU11 0 (by decide) w4_98 rfl dX11_countOf_52 55 rfl ?_
      refine y_iconst hC dX11_countOf_55 (v := (1 : Int32)) (by decide) 56 rfl ?_
      obtain ⟨h56, hk⟩ := ob_if hk
      refine y_iald hC 67 (hB 67 (by decide) (by decide)) (cl_L_w (u := w) rfl) h56 dX11_countOf_56 57 rfl ?_
      have e := Option.some.inj hk
      exact y_iret hC hr hlk (by rw [← e]) (by first | rfl | rw [← e]) dX11_countOf_57
    · have hk := ob_neg h1_1 hk
      by_cases h1_2 : a1.toInt = 2
      · have hk := ob_pos h1_2 hk
        refine y_tabI hC dX11_countOf_1 h1_2 (by decide) (by decide) rfl 58 (by decide) ?_
        refine y_aload_n hC dX11_countOf_58 0 rfl 59 rfl ?_
        refine y_get hC 66 (hB 66 (by decide) (by decide)) (cl_L (u := w) rfl) rfl inU11 0 (by decide) w4_98 rfl dX11_countOf_59 62 rfl ?_
        refine y_iconst hC dX11_countOf_62 (v := (3 : Int32)) (by decide) 63 rfl ?_
        obtain ⟨h63, hk⟩ := ob_if hk
        refine y_iald hC 67 (hB 67 (by decide) (by decide)) (cl_L_w (u := w) rfl) h63 dX11_countOf_63 64 rfl ?_
        have e := Option.some.inj hk
        exact y_iret hC hr hlk (by rw [← e]) (by first | rfl | rw [← e]) dX11_countOf_64
      · have hk := ob_neg h1_2 hk
        by_cases h1_3 : a1.toInt = 3
        · have hk := ob_pos h1_3 hk
          refine y_tabI hC dX11_countOf_1 h1_3 (by decide) (by decide) rfl 65 (by decide) ?_
          refine y_aload_n hC dX11_countOf_65 0 rfl 66 rfl ?_
          refine y_get hC 66 (hB 66 (by decide) (by decide)) (cl_L (u := w) rfl) rfl inU11 0 (by decide) w4_98 rfl dX11_countOf_66 69 rfl ?_
          refine y_iconst hC dX11_countOf_69 (v := (4 : Int32)) (by decide) 70 rfl ?_
          obtain ⟨h70, hk⟩ := ob_if hk
          refine y_iald hC 67 (hB 67 (by decide) (by decide)) (cl_L_w (u := w) rfl) h70 dX11_countOf_70 71 rfl ?_
          have e := Option.some.inj hk
          exact y_iret hC hr hlk (by rw [← e]) (by first | rfl | rw [← e]) dX11_countOf_71
        · have hk := ob_neg h1_3 hk
          by_cases h1_4 : a1.toInt = 4
          · have hk := ob_pos h1_4 hk
            refine y_tabI hC dX11_countOf_1 h1_4 (by decide) (by decide) rfl 72 (by decide) ?_
            refine y_aload_n hC dX11_countOf_72 0 rfl 73 rfl ?_
            refine y_get hC 66 (hB 66 (by decide) (by decide)) (cl_L (u := w) rfl) rfl inU11 0 (by decide) w4_98 rfl dX11_countOf_73 76 rfl ?_
            refine y_iconst hC dX11_countOf_76 (v := (5 : Int32)) (by decide) 77 rfl ?_
            obtain ⟨h77, hk⟩ := ob_if hk
            refine y_iald hC 67 (hB 67 (by decide) (by decide)) (cl_L_w (u := w) rfl) h77 dX11_countOf_77 78 rfl ?_
            have e := Option.some.inj hk
            exact y_iret hC hr hlk (by rw [← e]) (by first | rfl | rw [← e]) dX11_countOf_78
          · have hk := ob_neg h1_4 hk
            by_cases h1_5 : a1.toInt = 5
            · have hk := ob_pos h1_5 hk
              refine y_tabI hC dX11_countOf_1 h1_5 (by decide) (by decide) rfl 79 (by decide) ?_
              refine y_aload_n hC dX11_countOf_79 0 rfl 80 rfl ?_
              refine y_get hC 66 (hB 66 (by decide) (by decide)) (cl_L (u := w) rfl) rfl inU11 0 (by decide) w4_98 rfl dX11_countOf_80 83 rfl ?_
              refine y_bipush hC dX11_countOf_83 (v := (6 : Int32)) (by decide) 85 rfl ?_
              obtain ⟨h85, hk⟩ := ob_if hk
              refine y_iald hC 67 (hB 67 (by decide) (by decide)) (cl_L_w (u := w) rfl) h85 dX11_countOf_85 86 rfl ?_
              have e := Option.some.inj hk
              exact y_iret hC hr hlk (by rw [← e]) (by first | rfl | rw [← e]) dX11_countOf_86
            · have hk := ob_neg h1_5 hk
              by_cases h1_6 : a1.toInt = 6
              · have hk := ob_pos h1_6 hk
                refine y_tabI hC dX11_countOf_1 h1_6 (by decide) (by decide) rfl 87 (by decide) ?_
                refine y_aload_n hC dX11_countOf_87 0 rfl 88 rfl ?_
                refine y_get hC 66 (hB 66 (by decide) (by decide)) (cl_L (u := w) rfl) rfl inU11 0 (by decide) w4_98 rfl dX11_countOf_88 91 rfl ?_
                refine y_bipush hC dX11_countOf_91 (v := (7 : Int32)) (by decide) 93 rfl ?_
                obtain ⟨h93, hk⟩ := ob_if hk
                refine y_iald hC 67 (hB 67 (by decide) (by decide)) (cl_L_w (u := w) rfl) h93 dX11_countOf_93 94 rfl ?_
                have e := Option.some.inj hk
                exact y_iret hC hr hlk (by rw [← e]) (by first | rfl | rw [← e]) dX11_countOf_94
              · have hk := ob_neg h1_6 hk
                refine y_tabO hC dX11_countOf_1 (by omega) 95 (by decide) ?_
                refine y_aload_n hC dX11_countOf_95 0 rfl 96 rfl ?_
                refine y_get hC 66 (hB 66 (by decide) (by decide)) (cl_L (u := w) rfl) rfl inU11 3 (by decide) w4_101 rfl dX11_countOf_96 99 rfl ?_
                have e := Option.some.inj hk
                exact y_iret hC hr hlk (by rw [← e]) (by first | rfl | rw [← e]) dX11_countOf_99
def f_X11_count (w : LSt) (a1 : Int32) : Option (Int32 × LSt) :=
  (f_X11_in a1.toInt64 (0 : Int64) (7 : Int64)).bind fun x6 => 
    (if x6 = 0 then
      (f_X11_bad w).bind fun x21 => 
        (some (x21.1, x21.2))
    else
      (f_X11_countOf w a1).bind fun x14 => 
        (some (x14, w)))
theorem cwd_X11_count : yX11_count.cls ≠ "java/lang/invoke/MethodHandle" ∧ yX11_count.cls ≠ "java/lang/invoke/VarHandle" ∧ (parseMethodDescriptor yX11_count.desc).map (fun d => d.parameters.length) = some 1 := by decide +kernel
set_option maxHeartbeats 4000000 in
set_option maxRecDepth 100000 in
theorem c_X11_count {Γ : GC} (hJ : GJ Γ) (hB : ∀ i, 66 ≤ i → i < 77 → act Γ i) (l : Launch) (σ : GSt) (w : LSt) (a1 : Int32) (x : Int32 × LSt) (hk : f_X11_count w a1 = some x) : Mt Γ l yX11_count cX11_count 2 (some .int) 1 25 [.ref (ad Γ 66), .int a1] (gL σ w) (some (.int x.1)) (gL σ x.2) := by
  refine y_enter (by decide) hJ (Nat.le_of_ble_eq_true rfl) [(0, .ref (ad Γ 66)), (1, .int a1)] rfl ?_
  intro p e s' m args below meth c' hC hr hlk
  refine y_iload_n hC dX11_count_0 1 rfl 1 rfl ?_
  refine y_i2l hC dX11_count_1 2 rfl ?_
  refine y_lconst hC dX11_count_2 (v := (0 : Int64)) (by decide) 3 rfl ?_
  refine y_ldc2 hC (v := (7 : Int64)) w5_212 dX11_count_3 6 rfl ?_
  obtain ⟨x6, hx6, hk⟩ := ob_bind hk
  refine y_callS hC (c_X11_in hJ l (gL σ w) a1.toInt64 (0 : Int64) (7 : Int64) x6 hx6) rfl ⟨w4_181, w1_13, cwd_X11_in, by decide, by decide⟩ w4_179 w4_180 rfl rfl (Nat.le_of_ble_eq_true rfl) (by decide) dX11_count_6 9 rfl (gL σ w) rfl [.int x6] rfl ?_
  refine y_if_eq hC dX11_count_9 20 (by decide) 12 rfl (fun h9 => ?_) (fun h9 => ?_)
  · have hk := ob_pos h9 hk
    refine y_aload_n hC dX11_count_20 0 rfl 21 rfl ?_
    obtain ⟨x21, hx21, hk⟩ := ob_bind hk
    refine y_callV hC 66 (hB 66 (by decide) (by decide)) (cl_L (u := w) rfl) rfl (c_X11_bad hJ hB l σ w x21 hx21) rfl ⟨w4_186, w1_13, cwd_X11_bad, by decide, by decide⟩ w4_183 w4_185 ws3_15 rfl rfl (Nat.le_of_ble_eq_true rfl) (by decide) dX11_count_21 24 rfl (gL σ x21.2) rfl [.int x21.1] rfl ?_
    have e := Option.some.inj hk
    exact y_iret hC hr hlk (by rw [← e]) (by first | rfl | rw [← e]) dX11_count_24
  · have hk := ob_neg h9 hk
    refine y_aload_n hC dX11_count_12 0 rfl 13 rfl ?_
    refine y_iload_n hC dX11_count_13 1 rfl 14 rfl ?_
    obtain ⟨x14, hx14, hk⟩ := ob_bind hk
    refine y_callV hC 66 (hB 66 (by decide) (by decide)) (cl_L (u := w) rfl) rfl (c_X11_countOf hJ hB l σ w a1 x14 hx14) rfl ⟨w5_216, w1_13, cwd_X11_countOf, by decide, by decide⟩ w5_213 w5_215 ws5_15 rfl rfl (Nat.le_of_ble_eq_true rfl) (by decide) dX11_count_14 17 rfl (gL σ w) rfl [.int x14] rfl ?_
    refine y_goto hC dX11_count_17 24 (by decide) ?_
    have e := Option.some.inj hk
    exact y_iret hC hr hlk (by rw [← e]) (by first | rfl | rw [← e]) dX11_count_24
def f_X11_mix (w : LSt) (a1 : Int64) : Option (LSt) :=
  lt (sL_h w (((31 : Int64) * (pL_h w)) + a1)) fun g11 => 
    (some g11)
theorem cwd_X11_mix : yX11_mix.cls ≠ "java/lang/invoke/MethodHandle" ∧ yX11_mix.cls ≠ "java/lang/invoke/VarHandle" ∧ (parseMethodDescriptor yX11_mix.desc).map (fun d => d.parameters.length) = some 1 := by decide +kernel
set_option maxHeartbeats 4000000 in
set_option maxRecDepth 100000 in
theorem c_X11_mix {Γ : GC} (hJ : GJ Γ) (hB : ∀ i, 66 ≤ i → i < 77 → act Γ i) (l : Launch) (σ : GSt) (w : LSt) (a1 : Int64) (x : LSt) (hk : f_X11_mix w a1 = some x) : Mt Γ l yX11_mix cX11_mix 3 none 0 0 [.ref (ad Γ 66), .long a1] (gL σ w) none (gL σ x) := by
  refine y_enter (by decide) hJ (Nat.le_of_ble_eq_true rfl) [(0, .ref (ad Γ 66)), (1, .long a1)] rfl ?_
  intro p e s' m args below meth c' hC hr hlk
  refine y_aload_n hC dX11_mix_0 0 rfl 1 rfl ?_
  refine y_ldc2 hC (v := (31 : Int64)) w5_226 dX11_mix_1 4 rfl ?_
  refine y_aload_n hC dX11_mix_4 0 rfl 5 rfl ?_
  refine y_get hC 66 (hB 66 (by decide) (by decide)) (cl_L (u := w) rfl) rfl inU11 23 (by decide) w4_121 rfl dX11_mix_5 8 rfl ?_
  refine y_lmul hC dX11_mix_8 9 rfl ?_
  refine y_lload_n hC dX11_mix_9 1 rfl 10 rfl ?_
  refine y_ladd hC dX11_mix_10 11 rfl ?_
  obtain ⟨g11, eg11, hk⟩ := ob_lt hk
  refine y_put hC 66 (hB 66 (by decide) (by decide)) (cl_L (u := w) rfl) rfl inU11 tyX11_ok nmX11 23 (by decide) w4_121 rfl rfl rfl rfl (Nat.le_of_ble_eq_true rfl) (gL σ g11) (by subst eg11; exact (cu_L_h (u := w) (v := (((31 : Int64) * (pL_h w)) + a1)) rfl rfl)) dX11_mix_11 14 rfl ?_
  have e := Option.some.inj hk
  exact y_vret hC hr hlk (by rw [← e]) dX11_mix_14
def f_X11_digest_j167 (gw : LSt) : Option (Int64 × LSt) :=
  (f_X11_mix gw (pL_above gw)).bind fun x172 => 
    ((f_X11_mix x172 (pL_below x172)).bind fun x180 => 
    (some ((pL_h x180), x180)))
def f_X11_digest_s122 (K122 : (Int32 × LSt) → Option (Int64 × LSt)) (q122 : Int32 × LSt) : Option (Int64 × LSt) :=
  if inb (6 : Int32) 608 then 
    (if (pL_w q122.2 (6 : Int32).toNatClampNeg) ≤ q122.1 then
      f_X11_digest_j167 q122.2
    else
      if inb ((60 : Int32) + q122.1) 608 then 
        ((f_X11_mix q122.2 (pL_w q122.2 ((60 : Int32) + q122.1).toNatClampNeg).toInt64).bind fun x144 => 
        (if inb ((66 : Int32) + q122.1) 608 then 
        ((f_X11_mix x144 (pL_w x144 ((66 : Int32) + q122.1).toNatClampNeg).toInt64).bind fun x158 => 
        (K122 ((q122.1 + (1 : Int32)), x158)))
      else none))
      else none)
  else none
def f_X11_digest_j120 (gw : LSt) : Option (Int64 × LSt) :=
  lp (f_X11_digest_s122) 1000 ((0 : Int32), gw)
def f_X11_digest_j114 (K72 : (Int32 × LSt) → Option (Int64 × LSt)) (v1 : Int32) (gw : LSt) : Option (Int64 × LSt) :=
  K72 ((v1 + (1 : Int32)), gw)
def f_X11_digest_s84 (K72 : (Int32 × LSt) → Option (Int64 × LSt)) (K84 : (Int32 × Int32 × LSt) → Option (Int64 × LSt)) (q84 : Int32 × Int32 × LSt) : Option (Int64 × LSt) :=
  if (4 : Int32) ≤ q84.2.1 then
    f_X11_digest_j114 K72 q84.1 q84.2.2
  else
    if inb (((28 : Int32) + ((8 : Int32) * q84.2.1)) + q84.1) 608 then 
      ((f_X11_mix q84.2.2 (pL_w q84.2.2 (((28 : Int32) + ((8 : Int32) * q84.2.1)) + q84.1).toNatClampNeg).toInt64).bind fun x105 => 
      (K84 (q84.1, (q84.2.1 + (1 : Int32)), x105)))
    else none
def f_X11_digest_s72 (K72 : (Int32 × LSt) → Option (Int64 × LSt)) (q72 : Int32 × LSt) : Option (Int64 × LSt) :=
  if inb (3 : Int32) 608 then 
    (if (pL_w q72.2 (3 : Int32).toNatClampNeg) ≤ q72.1 then
      f_X11_digest_j120 q72.2
    else
      lp (f_X11_digest_s84 K72) 1000 (q72.1, (0 : Int32), q72.2))
  else none
def f_X11_digest_j59 (gw : LSt) : Option (Int64 × LSt) :=
  if inb (2 : Int32) 608 then 
    ((f_X11_mix gw (pL_w gw (2 : Int32).toNatClampNeg).toInt64).bind fun x67 => 
    (lp (f_X11_digest_s72) 1000 ((0 : Int32), x67)))
  else none
def f_X11_digest_s33 (K33 : (Int32 × LSt) → Option (Int64 × LSt)) (q33 : Int32 × LSt) : Option (Int64 × LSt) :=
  if (20 : Int32) ≤ q33.1 then
    f_X11_digest_j59 q33.2
  else
    if inb ((8 : Int32) + q33.1) 608 then 
      ((f_X11_mix q33.2 (pL_w q33.2 ((8 : Int32) + q33.1).toNatClampNeg).toInt64).bind fun x50 => 
      (K33 ((q33.1 + (1 : Int32)), x50)))
    else none
def f_X11_digest_j31 (gw : LSt) : Option (Int64 × LSt) :=
  lp (f_X11_digest_s33) 1000 ((0 : Int32), gw)
def f_X11_digest_s9 (K9 : (Int32 × LSt) → Option (Int64 × LSt)) (q9 : Int32 × LSt) : Option (Int64 × LSt) :=
  if (8 : Int32) ≤ q9.1 then
    f_X11_digest_j31 q9.2
  else
    (f_X11_countOf q9.2 q9.1).bind fun x18 => 
      ((f_X11_mix q9.2 x18.toInt64).bind fun x22 => 
      (K9 ((q9.1 + (1 : Int32)), x22)))
def f_X11_digest (w : LSt) : Option (Int64 × LSt) :=
  lt (sL_h w (967 : Int64)) fun g4 => 
    (lp (f_X11_digest_s9) 1000 ((0 : Int32), g4))
theorem cwd_X11_digest : yX11_digest.cls ≠ "java/lang/invoke/MethodHandle" ∧ yX11_digest.cls ≠ "java/lang/invoke/VarHandle" ∧ (parseMethodDescriptor yX11_digest.desc).map (fun d => d.parameters.length) = some 0 := by decide +kernel
set_option maxHeartbeats 4000000 in
set_option maxRecDepth 100000 in
theorem c_X11_digest {Γ : GC} (hJ : GJ Γ) (hB : ∀ i, 66 ≤ i → i < 77 → act Γ i) (l : Launch) (σ : GSt) (w : LSt) (x : Int64 × LSt) (hk : f_X11_digest w = some x) : Mt Γ l yX11_digest cX11_digest 3 (some .long) 1 22 [.ref (ad Γ 66)] (gL σ w) (some (.long x.1)) (gL σ x.2) := by
  refine y_enter (by decide) hJ (Nat.le_of_ble_eq_true rfl) [(0, .ref (ad Γ 66))] rfl ?_
  intro p e s' m args below meth c' hC hr hlk
  have J167 : ∀ (gw : LSt), f_X11_digest_j167 gw = some x → Y Γ (GA Γ) p l e ({ frames := 1, cells := 0, slots := 0, locals := 22 } : Room) s' m args below meth c' 0 0 (MQ below (Qg Γ (some (.long x.1)) (gL σ x.2)) args s' 0 0 (GA Γ)) 3 (gL σ gw) 167 [(0, .ref (ad Γ 66))] [] := by
    intro gw hk
    refine y_aload_n hC dX11_digest_167 0 rfl 168 rfl ?_
    refine y_aload_n hC dX11_digest_168 0 rfl 169 rfl ?_
    refine y_get hC 66 (hB 66 (by decide) (by decide)) (cl_L (u := gw) rfl) rfl inU11 5 (by decide) w4_103 rfl dX11_digest_169 172 rfl ?_
    obtain ⟨x172, hx172, hk⟩ := ob_bind hk
    refine y_callV hC 66 (hB 66 (by decide) (by decide)) (cl_L (u := gw) rfl) rfl (c_X11_mix hJ hB l σ gw (pL_above gw) x172 hx172) rfl ⟨w5_225, w1_13, cwd_X11_mix, by decide, by decide⟩ w5_222 w5_224 ws6_0 rfl rfl (Nat.le_of_ble_eq_true rfl) (by decide) dX11_digest_172 175 rfl (gL σ x172) rfl [] rfl ?_
    refine y_aload_n hC dX11_digest_175 0 rfl 176 rfl ?_
    refine y_aload_n hC dX11_digest_176 0 rfl 177 rfl ?_
    refine y_get hC 66 (hB 66 (by decide) (by decide)) (cl_L (u := x172) rfl) rfl inU11 6 (by decide) w4_104 rfl dX11_digest_177 180 rfl ?_
    obtain ⟨x180, hx180, hk⟩ := ob_bind hk
    refine y_callV hC 66 (hB 66 (by decide) (by decide)) (cl_L (u := x172) rfl) rfl (c_X11_mix hJ hB l σ x172 (pL_below x172) x180 hx180) rfl ⟨w5_225, w1_13, cwd_X11_mix, by decide, by decide⟩ w5_222 w5_224 ws6_0 rfl rfl (Nat.le_of_ble_eq_true rfl) (by decide) dX11_digest_180 183 rfl (gL σ x180) rfl [] rfl ?_
    refine y_aload_n hC dX11_digest_183 0 rfl 184 rfl ?_
    refine y_get hC 66 (hB 66 (by decide) (by decide)) (cl_L (u := x180) rfl) rfl inU11 23 (by decide) w4_121 rfl dX11_digest_184 187 rfl ?_
    have e := Option.some.inj hk
    exact y_lret hC hr hlk (by rw [← e]) (by first | rfl | rw [← e]) dX11_digest_187
  have L122 : ∀ (n122 : Nat) (q122 : Int32 × LSt), lp (f_X11_digest_s122) n122 q122 = some x → Y Γ (GA Γ) p l e ({ frames := 1, cells := 0, slots := 0, locals := 22 } : Room) s' m args below meth c' 0 0 (MQ below (Qg Γ (some (.long x.1)) (gL σ x.2)) args s' 0 0 (GA Γ)) 3 (gL σ q122.2) 122 [(0, .ref (ad Γ 66)), (1, .int q122.1)] [] := by
    intro n122
    induction n122 with
    | zero => intro q122 hk; exact (lp_zero hk).elim
    | succ n122 ih122 =>
      intro q122 hk
      have hk : f_X11_digest_s122 (lp (f_X11_digest_s122) n122) q122 = some x := (lp_succ _ _ _).symm.trans hk
      refine y_iload_n hC dX11_digest_122 1 rfl 123 rfl ?_
      refine y_aload_n hC dX11_digest_123 0 rfl 124 rfl ?_
      refine y_get hC 66 (hB 66 (by decide) (by decide)) (cl_L (u := q122.2) rfl) rfl inU11 0 (by decide) w4_98 rfl dX11_digest_124 127 rfl ?_
      refine y_bipush hC dX11_digest_127 (v := (6 : Int32)) (by decide) 129 rfl ?_
      obtain ⟨h129, hk⟩ := ob_if hk
      refine y_iald hC 67 (hB 67 (by decide) (by decide)) (cl_L_w (u := q122.2) rfl) h129 dX11_digest_129 130 rfl ?_
      refine y_icmp_ge hC dX11_digest_130 167 (by decide) 133 rfl (fun h130 => ?_) (fun h130 => ?_)
      · have hk := ob_pos h130 hk
        refine y_sub [0] rfl ?_
        exact J167 q122.2 hk
      · have hk := ob_neg h130 hk
        refine y_aload_n hC dX11_digest_133 0 rfl 134 rfl ?_
        refine y_aload_n hC dX11_digest_134 0 rfl 135 rfl ?_
        refine y_get hC 66 (hB 66 (by decide) (by decide)) (cl_L (u := q122.2) rfl) rfl inU11 0 (by decide) w4_98 rfl dX11_digest_135 138 rfl ?_
        refine y_bipush hC dX11_digest_138 (v := (60 : Int32)) (by decide) 140 rfl ?_
        refine y_iload_n hC dX11_digest_140 1 rfl 141 rfl ?_
        refine y_iadd hC dX11_digest_141 142 rfl ?_
        obtain ⟨h142, hk⟩ := ob_if hk
        refine y_iald hC 67 (hB 67 (by decide) (by decide)) (cl_L_w (u := q122.2) rfl) h142 dX11_digest_142 143 rfl ?_
        refine y_i2l hC dX11_digest_143 144 rfl ?_
        obtain ⟨x144, hx144, hk⟩ := ob_bind hk
        refine y_callV hC 66 (hB 66 (by decide) (by decide)) (cl_L (u := q122.2) rfl) rfl (c_X11_mix hJ hB l σ q122.2 (pL_w q122.2 ((60 : Int32) + q122.1).toNatClampNeg).toInt64 x144 hx144) rfl ⟨w5_225, w1_13, cwd_X11_mix, by decide, by decide⟩ w5_222 w5_224 ws6_0 rfl rfl (Nat.le_of_ble_eq_true rfl) (by decide) dX11_digest_144 147 rfl (gL σ x144) rfl [] rfl ?_
        refine y_aload_n hC dX11_digest_147 0 rfl 148 rfl ?_
        refine y_aload_n hC dX11_digest_148 0 rfl 149 rfl ?_
        refine y_get hC 66 (hB 66 (by decide) (by decide)) (cl_L (u := x144) rfl) rfl inU11 0 (by decide) w4_98 rfl dX11_digest_149 152 rfl ?_
        refine y_bipush hC dX11_digest_152 (v := (66 : Int32)) (by decide) 154 rfl ?_
        refine y_iload_n hC dX11_digest_154 1 rfl 155 rfl ?_
        refine y_iadd hC dX11_digest_155 156 rfl ?_
        obtain ⟨h156, hk⟩ := ob_if hk
        refine y_iald hC 67 (hB 67 (by decide) (by decide)) (cl_L_w (u := x144) rfl) h156 dX11_digest_156 157 rfl ?_
        refine y_i2l hC dX11_digest_157 158 rfl ?_
        obtain ⟨x158, hx158, hk⟩ := ob_bind hk
        refine y_callV hC 66 (hB 66 (by decide) (by decide)) (cl_L (u := x144) rfl) rfl (c_X11_mix hJ hB l σ x144 (pL_w x144 ((66 : Int32) + q122.1).toNatClampNeg).toInt64 x158 hx158) rfl ⟨w5_225, w1_13, cwd_X11_mix, by decide, by decide⟩ w5_222 w5_224 ws6_0 rfl rfl (Nat.le_of_ble_eq_true rfl) (by decide) dX11_digest_158 161 rfl (gL σ x158) rfl [] rfl ?_
        refine y_iinc hC dX11_digest_161 1 rfl (v := (q122.1 + (1 : Int32))) rfl (by decide) [(1, .int (q122.1 + (1 : Int32))), (0, .ref (ad Γ 66))] rfl 164 rfl ?_
        refine y_goto hC dX11_digest_164 122 (by decide) ?_
        refine y_sub [1, 0] rfl ?_
        exact ih122 ((q122.1 + (1 : Int32)), x158) hk
  have J120 : ∀ (gw : LSt), f_X11_digest_j120 gw = some x → Y Γ (GA Γ) p l e ({ frames := 1, cells := 0, slots := 0, locals := 22 } : Room) s' m args below meth c' 0 0 (MQ below (Qg Γ (some (.long x.1)) (gL σ x.2)) args s' 0 0 (GA Γ)) 3 (gL σ gw) 120 [(0, .ref (ad Γ 66))] [] := by
    intro gw hk
    refine y_iconst hC dX11_digest_120 (v := (0 : Int32)) (by decide) 121 rfl ?_
    refine y_istore_n hC dX11_digest_121 (by decide) [(1, .int (0 : Int32)), (0, .ref (ad Γ 66))] rfl 122 rfl ?_
    refine y_sub [1, 0] rfl ?_
    exact L122 1000 ((0 : Int32), gw) hk
  have L72 : ∀ (n72 : Nat) (q72 : Int32 × LSt), lp (f_X11_digest_s72) n72 q72 = some x → Y Γ (GA Γ) p l e ({ frames := 1, cells := 0, slots := 0, locals := 22 } : Room) s' m args below meth c' 0 0 (MQ below (Qg Γ (some (.long x.1)) (gL σ x.2)) args s' 0 0 (GA Γ)) 3 (gL σ q72.2) 72 [(0, .ref (ad Γ 66)), (1, .int q72.1)] [] := by
    intro n72
    induction n72 with
    | zero => intro q72 hk; exact (lp_zero hk).elim
    | succ n72 ih72 =>
      intro q72 hk
      have hk : f_X11_digest_s72 (lp (f_X11_digest_s72) n72) q72 = some x := (lp_succ _ _ _).symm.trans hk
      have J114 : ∀ (v1 : Int32) (gw : LSt), f_X11_digest_j114 (lp (f_X11_digest_s72) n72) v1 gw = some x → Y Γ (GA Γ) p l e ({ frames := 1, cells := 0, slots := 0, locals := 22 } : Room) s' m args below meth c' 0 0 (MQ below (Qg Γ (some (.long x.1)) (gL σ x.2)) args s' 0 0 (GA Γ)) 3 (gL σ gw) 114 [(0, .ref (ad Γ 66)), (1, .int v1)] [] := by
        intro v1 gw hk
        refine y_iinc hC dX11_digest_114 1 rfl (v := (v1 + (1 : Int32))) rfl (by decide) [(1, .int (v1 + (1 : Int32))), (0, .ref (ad Γ 66))] rfl 117 rfl ?_
        refine y_goto hC dX11_digest_117 72 (by decide) ?_
        refine y_sub [1, 0] rfl ?_
        exact ih72 ((v1 + (1 : Int32)), gw) hk
      have L84 : ∀ (n84 : Nat) (q84 : Int32 × Int32 × LSt), lp (f_X11_digest_s84 (lp (f_X11_digest_s72) n72)) n84 q84 = some x → Y Γ (GA Γ) p l e ({ frames := 1, cells := 0, slots := 0, locals := 22 } : Room) s' m args below meth c' 0 0 (MQ below (Qg Γ (some (.long x.1)) (gL σ x.2)) args s' 0 0 (GA Γ)) 3 (gL σ q84.2.2) 84 [(0, .ref (ad Γ 66)), (1, .int q84.1), (2, .int q84.2.1)] [] := by
        intro n84
        induction n84 with
        | zero => intro q84 hk; exact (lp_zero hk).elim
        | succ n84 ih84 =>
          intro q84 hk
          have hk : f_X11_digest_s84 (lp (f_X11_digest_s72) n72) (lp (f_X11_digest_s84 (lp (f_X11_digest_s72) n72)) n84) q84 = some x := (lp_succ _ _ _).symm.trans hk
          refine y_iload_n hC dX11_digest_84 2 rfl 85 rfl ?_
          refine y_iconst hC dX11_digest_85 (v := (4 : Int32)) (by decide) 86 rfl ?_
          refine y_icmp_ge hC dX11_digest_86 114 (by decide) 89 rfl (fun h86 => ?_) (fun h86 => ?_)
          · have hk := ob_pos h86 hk
            refine y_sub [0, 1] rfl ?_
            exact J114 q84.1 q84.2.2 hk
          · have hk := ob_neg h86 hk
            refine y_aload_n hC dX11_digest_89 0 rfl 90 rfl ?_
            refine y_aload_n hC dX11_digest_90 0 rfl 91 rfl ?_
            refine y_get hC 66 (hB 66 (by decide) (by decide)) (cl_L (u := q84.2.2) rfl) rfl inU11 0 (by decide) w4_98 rfl dX11_digest_91 94 rfl ?_
            refine y_bipush hC dX11_digest_94 (v := (28 : Int32)) (by decide) 96 rfl ?_
            refine y_bipush hC dX11_digest_96 (v := (8 : Int32)) (by decide) 98 rfl ?_
            refine y_iload_n hC dX11_digest_98 2 rfl 99 rfl ?_
            refine y_imul hC dX11_digest_99 100 rfl ?_
            refine y_iadd hC dX11_digest_100 101 rfl ?_
            refine y_iload_n hC dX11_digest_101 1 rfl 102 rfl ?_
            refine y_iadd hC dX11_digest_102 103 rfl ?_
            obtain ⟨h103, hk⟩ := ob_if hk
            refine y_iald hC 67 (hB 67 (by decide) (by decide)) (cl_L_w (u := q84.2.2) rfl) h103 dX11_digest_103 104 rfl ?_
            refine y_i2l hC dX11_digest_104 105 rfl ?_
            obtain ⟨x105, hx105, hk⟩ := ob_bind hk
            refine y_callV hC 66 (hB 66 (by decide) (by decide)) (cl_L (u := q84.2.2) rfl) rfl (c_X11_mix hJ hB l σ q84.2.2 (pL_w q84.2.2 (((28 : Int32) + ((8 : Int32) * q84.2.1)) + q84.1).toNatClampNeg).toInt64 x105 hx105) rfl ⟨w5_225, w1_13, cwd_X11_mix, by decide, by decide⟩ w5_222 w5_224 ws6_0 rfl rfl (Nat.le_of_ble_eq_true rfl) (by decide) dX11_digest_105 108 rfl (gL σ x105) rfl [] rfl ?_
            refine y_iinc hC dX11_digest_108 2 rfl (v := (q84.2.1 + (1 : Int32))) rfl (by decide) [(2, .int (q84.2.1 + (1 : Int32))), (0, .ref (ad Γ 66)), (1, .int q84.1)] rfl 111 rfl ?_
            refine y_goto hC dX11_digest_111 84 (by decide) ?_
            refine y_sub [1, 2, 0] rfl ?_
            exact ih84 (q84.1, (q84.2.1 + (1 : Int32)), x105) hk
      refine y_iload_n hC dX11_digest_72 1 rfl 73 rfl ?_
      refine y_aload_n hC dX11_digest_73 0 rfl 74 rfl ?_
      refine y_get hC 66 (hB 66 (by decide) (by decide)) (cl_L (u := q72.2) rfl) rfl inU11 0 (by decide) w4_98 rfl dX11_digest_74 77 rfl ?_
      refine y_iconst hC dX11_digest_77 (v := (3 : Int32)) (by decide) 78 rfl ?_
      obtain ⟨h78, hk⟩ := ob_if hk
      refine y_iald hC 67 (hB 67 (by decide) (by decide)) (cl_L_w (u := q72.2) rfl) h78 dX11_digest_78 79 rfl ?_
      refine y_icmp_ge hC dX11_digest_79 120 (by decide) 82 rfl (fun h79 => ?_) (fun h79 => ?_)
      · have hk := ob_pos h79 hk
        refine y_sub [0] rfl ?_
        exact J120 q72.2 hk
      · have hk := ob_neg h79 hk
        refine y_iconst hC dX11_digest_82 (v := (0 : Int32)) (by decide) 83 rfl ?_
        refine y_istore_n hC dX11_digest_83 (by decide) [(2, .int (0 : Int32)), (0, .ref (ad Γ 66)), (1, .int q72.1)] rfl 84 rfl ?_
        refine y_sub [1, 2, 0] rfl ?_
        exact L84 1000 (q72.1, (0 : Int32), q72.2) hk
  have J59 : ∀ (gw : LSt), f_X11_digest_j59 gw = some x → Y Γ (GA Γ) p l e ({ frames := 1, cells := 0, slots := 0, locals := 22 } : Room) s' m args below meth c' 0 0 (MQ below (Qg Γ (some (.long x.1)) (gL σ x.2)) args s' 0 0 (GA Γ)) 3 (gL σ gw) 59 [(0, .ref (ad Γ 66))] [] := by
    intro gw hk
    refine y_aload_n hC dX11_digest_59 0 rfl 60 rfl ?_
    refine y_aload_n hC dX11_digest_60 0 rfl 61 rfl ?_
    refine y_get hC 66 (hB 66 (by decide) (by decide)) (cl_L (u := gw) rfl) rfl inU11 0 (by decide) w4_98 rfl dX11_digest_61 64 rfl ?_
    refine y_iconst hC dX11_digest_64 (v := (2 : Int32)) (by decide) 65 rfl ?_
    obtain ⟨h65, hk⟩ := ob_if hk
    refine y_iald hC 67 (hB 67 (by decide) (by decide)) (cl_L_w (u := gw) rfl) h65 dX11_digest_65 66 rfl ?_
    refine y_i2l hC dX11_digest_66 67 rfl ?_
    obtain ⟨x67, hx67, hk⟩ := ob_bind hk
    refine y_callV hC 66 (hB 66 (by decide) (by decide)) (cl_L (u := gw) rfl) rfl (c_X11_mix hJ hB l σ gw (pL_w gw (2 : Int32).toNatClampNeg).toInt64 x67 hx67) rfl ⟨w5_225, w1_13, cwd_X11_mix, by decide, by decide⟩ w5_222 w5_224 ws6_0 rfl rfl (Nat.le_of_ble_eq_true rfl) (by decide) dX11_digest_67 70 rfl (gL σ x67) rfl [] rfl ?_
    refine y_iconst hC dX11_digest_70 (v := (0 : Int32)) (by decide) 71 rfl ?_
    refine y_istore_n hC dX11_digest_71 (by decide) [(1, .int (0 : Int32)), (0, .ref (ad Γ 66))] rfl 72 rfl ?_
    refine y_sub [1, 0] rfl ?_
    exact L72 1000 ((0 : Int32), x67) hk
  have L33 : ∀ (n33 : Nat) (q33 : Int32 × LSt), lp (f_X11_digest_s33) n33 q33 = some x → Y Γ (GA Γ) p l e ({ frames := 1, cells := 0, slots := 0, locals := 22 } : Room) s' m args below meth c' 0 0 (MQ below (Qg Γ (some (.long x.1)) (gL σ x.2)) args s' 0 0 (GA Γ)) 3 (gL σ q33.2) 33 [(0, .ref (ad Γ 66)), (1, .int q33.1)] [] := by
    intro n33
    induction n33 with
    | zero => intro q33 hk; exact (lp_zero hk).elim
    | succ n33 ih33 =>
      intro q33 hk
      have hk : f_X11_digest_s33 (lp (f_X11_digest_s33) n33) q33 = some x := (lp_succ _ _ _).symm.trans hk
      refine y_iload_n hC dX11_digest_33 1 rfl 34 rfl ?_
      refine y_bipush hC dX11_digest_34 (v := (20 : Int32)) (by decide) 36 rfl ?_
      refine y_icmp_ge hC dX11_digest_36 59 (by decide) 39 rfl (fun h36 => ?_) (fun h36 => ?_)
      · have hk := ob_pos h36 hk
        refine y_sub [0] rfl ?_
        exact J59 q33.2 hk
      · have hk := ob_neg h36 hk
        refine y_aload_n hC dX11_digest_39 0 rfl 40 rfl ?_
        refine y_aload_n hC dX11_digest_40 0 rfl 41 rfl ?_
        refine y_get hC 66 (hB 66 (by decide) (by decide)) (cl_L (u := q33.2) rfl) rfl inU11 0 (by decide) w4_98 rfl dX11_digest_41 44 rfl ?_
        refine y_bipush hC dX11_digest_44 (v := (8 : Int32)) (by decide) 46 rfl ?_
        refine y_iload_n hC dX11_digest_46 1 rfl 47 rfl ?_
        refine y_iadd hC dX11_digest_47 48 rfl ?_
        obtain ⟨h48, hk⟩ := ob_if hk
        refine y_iald hC 67 (hB 67 (by decide) (by decide)) (cl_L_w (u := q33.2) rfl) h48 dX11_digest_48 49 rfl ?_
        refine y_i2l hC dX11_digest_49 50 rfl ?_
        obtain ⟨x50, hx50, hk⟩ := ob_bind hk
        refine y_callV hC 66 (hB 66 (by decide) (by decide)) (cl_L (u := q33.2) rfl) rfl (c_X11_mix hJ hB l σ q33.2 (pL_w q33.2 ((8 : Int32) + q33.1).toNatClampNeg).toInt64 x50 hx50) rfl ⟨w5_225, w1_13, cwd_X11_mix, by decide, by decide⟩ w5_222 w5_224 ws6_0 rfl rfl (Nat.le_of_ble_eq_true rfl) (by decide) dX11_digest_50 53 rfl (gL σ x50) rfl [] rfl ?_
        refine y_iinc hC dX11_digest_53 1 rfl (v := (q33.1 + (1 : Int32))) rfl (by decide) [(1, .int (q33.1 + (1 : Int32))), (0, .ref (ad Γ 66))] rfl 56 rfl ?_
        refine y_goto hC dX11_digest_56 33 (by decide) ?_
        refine y_sub [1, 0] rfl ?_
        exact ih33 ((q33.1 + (1 : Int32)), x50) hk
  have J31 : ∀ (gw : LSt), f_X11_digest_j31 gw = some x → Y Γ (GA Γ) p l e ({ frames := 1, cells := 0, slots := 0, locals := 22 } : Room) s' m args below meth c' 0 0 (MQ below (Qg Γ (some (.long x.1)) (gL σ x.2)) args s' 0 0 (GA Γ)) 3 (gL σ gw) 31 [(0, .ref (ad Γ 66))] [] := by
    intro gw hk
    refine y_iconst hC dX11_digest_31 (v := (0 : Int32)) (by decide) 32 rfl ?_
    refine y_istore_n hC dX11_digest_32 (by decide) [(1, .int (0 : Int32)), (0, .ref (ad Γ 66))] rfl 33 rfl ?_
    refine y_sub [1, 0] rfl ?_
    exact L33 1000 ((0 : Int32), gw) hk
  have L9 : ∀ (n9 : Nat) (q9 : Int32 × LSt), lp (f_X11_digest_s9) n9 q9 = some x → Y Γ (GA Γ) p l e ({ frames := 1, cells := 0, slots := 0, locals := 22 } : Room) s' m args below meth c' 0 0 (MQ below (Qg Γ (some (.long x.1)) (gL σ x.2)) args s' 0 0 (GA Γ)) 3 (gL σ q9.2) 9 [(0, .ref (ad Γ 66)), (1, .int q9.1)] [] := by
    intro n9
    induction n9 with
    | zero => intro q9 hk; exact (lp_zero hk).elim
    | succ n9 ih9 =>
      intro q9 hk
      have hk : f_X11_digest_s9 (lp (f_X11_digest_s9) n9) q9 = some x := (lp_succ _ _ _).symm.trans hk
      refine y_iload_n hC dX11_digest_9 1 rfl 10 rfl ?_
      refine y_bipush hC dX11_digest_10 (v := (8 : Int32)) (by decide) 12 rfl ?_
      refine y_icmp_ge hC dX11_digest_12 31 (by decide) 15 rfl (fun h12 => ?_) (fun h12 => ?_)
      · have hk := ob_pos h12 hk
        refine y_sub [0] rfl ?_
        exact J31 q9.2 hk
      · have hk := ob_neg h12 hk
        refine y_aload_n hC dX11_digest_15 0 rfl 16 rfl ?_
        refine y_aload_n hC dX11_digest_16 0 rfl 17 rfl ?_
        refine y_iload_n hC dX11_digest_17 1 rfl 18 rfl ?_
        obtain ⟨x18, hx18, hk⟩ := ob_bind hk
        refine y_callV hC 66 (hB 66 (by decide) (by decide)) (cl_L (u := q9.2) rfl) rfl (c_X11_countOf hJ hB l σ q9.2 q9.1 x18 hx18) rfl ⟨w5_216, w1_13, cwd_X11_countOf, by decide, by decide⟩ w5_213 w5_215 ws5_15 rfl rfl (Nat.le_of_ble_eq_true rfl) (by decide) dX11_digest_18 21 rfl (gL σ q9.2) rfl [.int x18, .ref (ad Γ 66)] rfl ?_
        refine y_i2l hC dX11_digest_21 22 rfl ?_
        obtain ⟨x22, hx22, hk⟩ := ob_bind hk
        refine y_callV hC 66 (hB 66 (by decide) (by decide)) (cl_L (u := q9.2) rfl) rfl (c_X11_mix hJ hB l σ q9.2 x18.toInt64 x22 hx22) rfl ⟨w5_225, w1_13, cwd_X11_mix, by decide, by decide⟩ w5_222 w5_224 ws6_0 rfl rfl (Nat.le_of_ble_eq_true rfl) (by decide) dX11_digest_22 25 rfl (gL σ x22) rfl [] rfl ?_
        refine y_iinc hC dX11_digest_25 1 rfl (v := (q9.1 + (1 : Int32))) rfl (by decide) [(1, .int (q9.1 + (1 : Int32))), (0, .ref (ad Γ 66))] rfl 28 rfl ?_
        refine y_goto hC dX11_digest_28 9 (by decide) ?_
        refine y_sub [1, 0] rfl ?_
        exact ih9 ((q9.1 + (1 : Int32)), x22) hk
  refine y_aload_n hC dX11_digest_0 0 rfl 1 rfl ?_
  refine y_ldc2 hC (v := (967 : Int64)) w5_221 dX11_digest_1 4 rfl ?_
  obtain ⟨g4, eg4, hk⟩ := ob_lt hk
  refine y_put hC 66 (hB 66 (by decide) (by decide)) (cl_L (u := w) rfl) rfl inU11 tyX11_ok nmX11 23 (by decide) w4_121 rfl rfl rfl rfl (Nat.le_of_ble_eq_true rfl) (gL σ g4) (by subst eg4; exact (cu_L_h (u := w) (v := (967 : Int64)) rfl rfl)) dX11_digest_4 7 rfl ?_
  refine y_iconst hC dX11_digest_7 (v := (0 : Int32)) (by decide) 8 rfl ?_
  refine y_istore_n hC dX11_digest_8 (by decide) [(1, .int (0 : Int32)), (0, .ref (ad Γ 66))] rfl 9 rfl ?_
  refine y_sub [1, 0] rfl ?_
  exact L9 1000 ((0 : Int32), g4) hk
