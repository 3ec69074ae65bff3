def f_X6_addByte (r : RSt) (a1 : Int32) : Option (RSt) :=
  if (pR_length r) < 0 then
    some r
  else
    if (pR_length r) < (150 : Int32) then
      if inb (pR_length r) 150 then 
        (lt (sR_bytes r (upd (pR_bytes r) (pR_length r).toNatClampNeg a1)) fun g27 => 
        (lt (sR_length g27 ((pR_length g27) + (1 : Int32))) fun g35 => 
        (some g35)))
      else none
    else
      some r
theorem cwd_X6_addByte : yX6_addByte.cls ≠ "java/lang/invoke/MethodHandle" ∧ yX6_addByte.cls ≠ "java/lang/invoke/VarHandle" ∧ (parseMethodDescriptor yX6_addByte.desc).map (fun d => d.parameters.length) = some 1 := by decide +kernel
set_option maxHeartbeats 4000000 in
set_option maxRecDepth 100000 in
theorem c_X6_addByte {Γ : GC} (hJ : GJ Γ) (hA : ∀ i, i < 66 → act Γ i) (l : Launch) (σ : GSt) (r : RSt) (a1 : Int32) (x : RSt) (hk : f_X6_addByte r a1 = some x) : Mt Γ l yX6_addByte cX6_addByte 2 none 0 0 [.ref (ad Γ 61), .int a1] (gR σ r) none (gR σ x) := by
  refine y_enter (by decide) hJ (Nat.le_of_ble_eq_true rfl) [(0, .ref (ad Γ 61)), (1, .int a1)] rfl ?_
  intro p e s' m args below meth c' hC hr hlk
  refine y_aload_n hC dX6_addByte_0 0 rfl 1 rfl ?_
  refine y_get hC 61 (hA 61 (by decide)) (cl_R (u := r) rfl) rfl inU6 1 (by decide) w2_8 rfl dX6_addByte_1 4 rfl ?_
  refine y_if_lt hC dX6_addByte_4 17 (by decide) 7 rfl (fun h4 => ?_) (fun h4 => ?_)
  · have hk := ob_pos h4 hk
    have e := Option.some.inj hk
    exact y_vret hC hr hlk (by rw [← e]) dX6_addByte_17
  · have hk := ob_neg h4 hk
    refine y_aload_n hC dX6_addByte_7 0 rfl 8 rfl ?_
    refine y_get hC 61 (hA 61 (by decide)) (cl_R (u := r) rfl) rfl inU6 1 (by decide) w2_8 rfl dX6_addByte_8 11 rfl ?_
    refine y_sipush hC dX6_addByte_11 (v := (150 : Int32)) (by decide) 14 rfl ?_
    refine y_icmp_lt hC dX6_addByte_14 18 (by decide) 17 rfl (fun h14 => ?_) (fun h14 => ?_)
    · have hk := ob_pos h14 hk
      refine y_aload_n hC dX6_addByte_18 0 rfl 19 rfl ?_
      refine y_get hC 61 (hA 61 (by decide)) (cl_R (u := r) rfl) rfl inU6 0 (by decide) w2_7 rfl dX6_addByte_19 22 rfl ?_
      refine y_aload_n hC dX6_addByte_22 0 rfl 23 rfl ?_
      refine y_get hC 61 (hA 61 (by decide)) (cl_R (u := r) rfl) rfl inU6 1 (by decide) w2_8 rfl dX6_addByte_23 26 rfl ?_
      refine y_iload_n hC dX6_addByte_26 1 rfl 27 rfl ?_
      obtain ⟨h27, hk⟩ := ob_if hk
      obtain ⟨g27, eg27, hk⟩ := ob_lt hk
      refine y_iast hC 62 (hA 62 (by decide)) (cl_R_bytes (u := r) rfl) h27 (gR σ g27) (by subst eg27; exact (cu_R_bytes (u := r) (v := (upd (pR_bytes r) (pR_length r).toNatClampNeg a1)) rfl rfl)) dX6_addByte_27 28 rfl ?_
      refine y_aload_n hC dX6_addByte_28 0 rfl 29 rfl ?_
      refine y_dup hC dX6_addByte_29 rfl 30 rfl ?_
      refine y_get hC 61 (hA 61 (by decide)) (cl_R (u := g27) rfl) rfl inU6 1 (by decide) w2_8 rfl dX6_addByte_30 33 rfl ?_
      refine y_iconst hC dX6_addByte_33 (v := (1 : Int32)) (by decide) 34 rfl ?_
      refine y_iadd hC dX6_addByte_34 35 rfl ?_
      obtain ⟨g35, eg35, hk⟩ := ob_lt hk
      refine y_put hC 61 (hA 61 (by decide)) (cl_R (u := g27) rfl) rfl inU6 tyX6_ok nmX6 1 (by decide) w2_8 rfl rfl rfl rfl (Nat.le_of_ble_eq_true rfl) (gR σ g35) (by subst eg35; exact (cu_R_length (u := g27) (v := ((pR_length g27) + (1 : Int32))) rfl rfl)) dX6_addByte_35 38 rfl ?_
      have e := Option.some.inj hk
      exact y_vret hC hr hlk (by rw [← e]) dX6_addByte_38
    · have hk := ob_neg h14 hk
      have e := Option.some.inj hk
      exact y_vret hC hr hlk (by rw [← e]) dX6_addByte_17
def f_X6_byteAt (r : RSt) (a1 : Int32) : Option (Int32) :=
  if a1 < 0 then
    some (0 : Int32)
  else
    if (150 : Int32) ≤ a1 then
      some (0 : Int32)
    else
      if inb a1 150 then 
        (some (pR_bytes r a1.toNatClampNeg))
      else none
theorem cwd_X6_byteAt : yX6_byteAt.cls ≠ "java/lang/invoke/MethodHandle" ∧ yX6_byteAt.cls ≠ "java/lang/invoke/VarHandle" ∧ (parseMethodDescriptor yX6_byteAt.desc).map (fun d => d.parameters.length) = some 1 := by decide +kernel
set_option maxHeartbeats 4000000 in
set_option maxRecDepth 100000 in
theorem c_X6_byteAt {Γ : GC} (hJ : GJ Γ) (hA : ∀ i, i < 66 → act Γ i) (l : Launch) (σ : GSt) (r : RSt) (a1 : Int32) (x : Int32) (hk : f_X6_byteAt r a1 = some x) : Mt Γ l yX6_byteAt cX6_byteAt 2 (some .int) 0 0 [.ref (ad Γ 61), .int a1] (gR σ r) (some (.int x)) (gR σ r) := by
  refine y_enter (by decide) hJ (Nat.le_of_ble_eq_true rfl) [(0, .ref (ad Γ 61)), (1, .int a1)] rfl ?_
  intro p e s' m args below meth c' hC hr hlk
  refine y_iload_n hC dX6_byteAt_0 1 rfl 1 rfl ?_
  refine y_if_lt hC dX6_byteAt_1 20 (by decide) 4 rfl (fun h1 => ?_) (fun h1 => ?_)
  · have hk := ob_pos h1 hk
    refine y_iconst hC dX6_byteAt_20 (v := (0 : Int32)) (by decide) 21 rfl ?_
    have e := Option.some.inj hk
    exact y_iret hC hr hlk (by rw [← e]) (by first | rfl | rw [← e]) dX6_byteAt_21
  · have hk := ob_neg h1 hk
    refine y_iload_n hC dX6_byteAt_4 1 rfl 5 rfl ?_
    refine y_sipush hC dX6_byteAt_5 (v := (150 : Int32)) (by decide) 8 rfl ?_
    refine y_icmp_ge hC dX6_byteAt_8 20 (by decide) 11 rfl (fun h8 => ?_) (fun h8 => ?_)
    · have hk := ob_pos h8 hk
      refine y_iconst hC dX6_byteAt_20 (v := (0 : Int32)) (by decide) 21 rfl ?_
      have e := Option.some.inj hk
      exact y_iret hC hr hlk (by rw [← e]) (by first | rfl | rw [← e]) dX6_byteAt_21
    · have hk := ob_neg h8 hk
      refine y_aload_n hC dX6_byteAt_11 0 rfl 12 rfl ?_
      refine y_get hC 61 (hA 61 (by decide)) (cl_R (u := r) rfl) rfl inU6 0 (by decide) w2_7 rfl dX6_byteAt_12 15 rfl ?_
      refine y_iload_n hC dX6_byteAt_15 1 rfl 16 rfl ?_
      obtain ⟨h16, hk⟩ := ob_if hk
      refine y_iald hC 62 (hA 62 (by decide)) (cl_R_bytes (u := r) rfl) h16 dX6_byteAt_16 17 rfl ?_
      refine y_goto hC dX6_byteAt_17 21 (by decide) ?_
      have e := Option.some.inj hk
      exact y_iret hC hr hlk (by rw [← e]) (by first | rfl | rw [← e]) dX6_byteAt_21
def f_X6_isLetter (a1 : Int32) : Option (Int32) :=
  if a1 < (97 : Int32) then
    some (0 : Int32)
  else
    if (122 : Int32) < a1 then
      some (0 : Int32)
    else
      some (1 : Int32)
theorem cwd_X6_isLetter : yX6_isLetter.cls ≠ "java/lang/invoke/MethodHandle" ∧ yX6_isLetter.cls ≠ "java/lang/invoke/VarHandle" ∧ (parseMethodDescriptor yX6_isLetter.desc).map (fun d => d.parameters.length) = some 1 := by decide +kernel
set_option maxHeartbeats 4000000 in
set_option maxRecDepth 100000 in
theorem c_X6_isLetter {Γ : GC} (hJ : GJ Γ) (l : Launch) (σ : GSt) (a1 : Int32) (x : Int32) (hk : f_X6_isLetter a1 = some x) : Mt Γ l yX6_isLetter cX6_isLetter 1 (some .boolean) 0 0 [.int a1] σ (some (.int x)) σ := by
  refine y_enter (by decide) hJ (Nat.le_of_ble_eq_true rfl) [(0, .int a1)] rfl ?_
  intro p e s' m args below meth c' hC hr hlk
  refine y_iload_n hC dX6_isLetter_0 0 rfl 1 rfl ?_
  refine y_bipush hC dX6_isLetter_1 (v := (97 : Int32)) (by decide) 3 rfl ?_
  refine y_icmp_lt hC dX6_isLetter_3 16 (by decide) 6 rfl (fun h3 => ?_) (fun h3 => ?_)
  · have hk := ob_pos h3 hk
    refine y_iconst hC dX6_isLetter_16 (v := (0 : Int32)) (by decide) 17 rfl ?_
    have e := Option.some.inj hk
    exact y_zret hC hr hlk rfl (by rw [← e]) (by first | rfl | rw [← e]) dX6_isLetter_17
  · have hk := ob_neg h3 hk
    refine y_iload_n hC dX6_isLetter_6 0 rfl 7 rfl ?_
    refine y_bipush hC dX6_isLetter_7 (v := (122 : Int32)) (by decide) 9 rfl ?_
    refine y_icmp_gt hC dX6_isLetter_9 16 (by decide) 12 rfl (fun h9 => ?_) (fun h9 => ?_)
    · have hk := ob_pos h9 hk
      refine y_iconst hC dX6_isLetter_16 (v := (0 : Int32)) (by decide) 17 rfl ?_
      have e := Option.some.inj hk
      exact y_zret hC hr hlk rfl (by rw [← e]) (by first | rfl | rw [← e]) dX6_isLetter_17
    · have hk := ob_neg h9 hk
      refine y_iconst hC dX6_isLetter_12 (v := (1 : Int32)) (by decide) 13 rfl ?_
      refine y_goto hC dX6_isLetter_13 17 (by decide) ?_
      have e := Option.some.inj hk
      exact y_zret hC hr hlk rfl (by rw [← e]) (by first | rfl | rw [← e]) dX6_isLetter_17
def f_X6_isFigure (a1 : Int32) : Option (Int32) :=
  if a1 < (48 : Int32) then
    some (0 : Int32)
  else
    if (57 : Int32) < a1 then
      some (0 : Int32)
    else
      some (1 : Int32)
theorem cwd_X6_isFigure : yX6_isFigure.cls ≠ "java/lang/invoke/MethodHandle" ∧ yX6_isFigure.cls ≠ "java/lang/invoke/VarHandle" ∧ (parseMethodDescriptor yX6_isFigure.desc).map (fun d => d.parameters.length) = some 1 := by decide +kernel
set_option maxHeartbeats 4000000 in
set_option maxRecDepth 100000 in
theorem c_X6_isFigure {Γ : GC} (hJ : GJ Γ) (l : Launch) (σ : GSt) (a1 : Int32) (x : Int32) (hk : f_X6_isFigure a1 = some x) : Mt Γ l yX6_isFigure cX6_isFigure 1 (some .boolean) 0 0 [.int a1] σ (some (.int x)) σ := by
  refine y_enter (by decide) hJ (Nat.le_of_ble_eq_true rfl) [(0, .int a1)] rfl ?_
  intro p e s' m args below meth c' hC hr hlk
  refine y_iload_n hC dX6_isFigure_0 0 rfl 1 rfl ?_
  refine y_bipush hC dX6_isFigure_1 (v := (48 : Int32)) (by decide) 3 rfl ?_
  refine y_icmp_lt hC dX6_isFigure_3 16 (by decide) 6 rfl (fun h3 => ?_) (fun h3 => ?_)
  · have hk := ob_pos h3 hk
    refine y_iconst hC dX6_isFigure_16 (v := (0 : Int32)) (by decide) 17 rfl ?_
    have e := Option.some.inj hk
    exact y_zret hC hr hlk rfl (by rw [← e]) (by first | rfl | rw [← e]) dX6_isFigure_17
  · have hk := ob_neg h3 hk
    refine y_iload_n hC dX6_isFigure_6 0 rfl 7 rfl ?_
    refine y_bipush hC dX6_isFigure_7 (v := (57 : Int32)) (by decide) 9 rfl ?_
    refine y_icmp_gt hC dX6_isFigure_9 16 (by decide) 12 rfl (fun h9 => ?_) (fun h9 => ?_)
    · have hk := ob_pos h9 hk
      refine y_iconst hC dX6_isFigure_16 (v := (0 : Int32)) (by decide) 17 rfl ?_
      have e := Option.some.inj hk
      exact y_zret hC hr hlk rfl (by rw [← e]) (by first | rfl | rw [← e]) dX6_isFigure_17
    · have hk := ob_neg h9 hk
      refine y_iconst hC dX6_isFigure_12 (v := (1 : Int32)) (by decide) 13 rfl ?_
      refine y_goto hC dX6_isFigure_13 17 (by decide) ?_
      have e := Option.some.inj hk
      exact y_zret hC hr hlk rfl (by rw [← e]) (by first | rfl | rw [← e]) dX6_isFigure_17
def f_X6_step_j233 (t0 : Int32) (gr : RSt) : Option (RSt) :=
  lt (sR_token gr t0) fun g233 => 
    (lt (sR_next g233 ((pR_next g233) + (1 : Int32))) fun g243 => 
    (some g243))
def f_X6_step_j215 (t0 : Int32) (gr : RSt) : Option (RSt) :=
  lt (sR_token gr t0) fun g215 => 
    (some g215)
def f_X6_step_j196 (gr : RSt) : Option (RSt) :=
  if (2 : Int32) < ((pR_next gr) - (pR_start gr)) then
    f_X6_step_j215 (4 : Int32) gr
  else
    f_X6_step_j215 (2 : Int32) gr
def f_X6_step_s135 (K135 : (RSt) → Option (RSt)) (q135 : RSt) : Option (RSt) :=
  if (pR_length q135) ≤ (pR_next q135) then
    f_X6_step_j196 q135
  else
    (f_X6_byteAt q135 (pR_next q135)).bind fun x151 => 
      ((f_X6_isFigure x151).bind fun x154 => 
      (if x154 = 0 then
        f_X6_step_j196 q135
      else
        (f_X6_byteAt q135 (pR_next q135)).bind fun x173 => 
          (lt (sR_number q135 ((((10 : Int32) * (pR_number q135)) + x173) - (48 : Int32))) fun g180 => 
          (lt (sR_next g180 ((pR_next g180) + (1 : Int32))) fun g190 => 
          (K135 g190)))))
def f_X6_step_s85 (K85 : (RSt) → Option (RSt)) (q85 : RSt) : Option (RSt) :=
  if (pR_length q85) ≤ (pR_next q85) then
    some q85
  else
    (f_X6_byteAt q85 (pR_next q85)).bind fun x101 => 
      ((f_X6_isLetter x101).bind fun x104 => 
      (if x104 = 0 then
        some q85
      else
        lt (sR_next q85 ((pR_next q85) + (1 : Int32))) fun g117 => 
          (K85 g117)))
def f_X6_step_j37 (gr : RSt) : Option (RSt) :=
  lt (sR_start gr (pR_next gr)) fun g42 => 
    ((f_X6_byteAt g42 (pR_start g42)).bind fun x50 => 
    (if (pR_start g42) < (pR_length g42) then
      (f_X6_isLetter x50).bind fun x74 => 
        (if x74 = 0 then
          (f_X6_isFigure x50).bind fun x124 => 
            (if x124 = 0 then
              if x50 = (59 : Int32) then
                f_X6_step_j233 (3 : Int32) g42
              else
                f_X6_step_j233 (4 : Int32) g42
            else
              lt (sR_number g42 (0 : Int32)) fun g132 => 
                (lp (f_X6_step_s135) 1000 g132))
        else
          lt (sR_token g42 (1 : Int32)) fun g82 => 
            (lp (f_X6_step_s85) 1000 g82))
    else
      lt (sR_token g42 (0 : Int32)) fun g67 => 
        (some g67)))
def f_X6_step_s0 (K0 : (RSt) → Option (RSt)) (q0 : RSt) : Option (RSt) :=
  if (pR_length q0) ≤ (pR_next q0) then
    f_X6_step_j37 q0
  else
    (f_X6_byteAt q0 (pR_next q0)).bind fun x16 => 
      (if x16 = (32 : Int32) then
        lt (sR_next q0 ((pR_next q0) + (1 : Int32))) fun g31 => 
          (K0 g31)
      else
        f_X6_step_j37 q0)
def f_X6_step (r : RSt) : Option (RSt) :=
  lp (f_X6_step_s0) 1000 r
theorem cwd_X6_step : yX6_step.cls ≠ "java/lang/invoke/MethodHandle" ∧ yX6_step.cls ≠ "java/lang/invoke/VarHandle" ∧ (parseMethodDescriptor yX6_step.desc).map (fun d => d.parameters.length) = some 0 := by decide +kernel
set_option maxHeartbeats 4000000 in
set_option maxRecDepth 100000 in
theorem c_X6_step {Γ : GC} (hJ : GJ Γ) (hA : ∀ i, i < 66 → act Γ i) (l : Launch) (σ : GSt) (r : RSt) (x : RSt) (hk : f_X6_step r = some x) : Mt Γ l yX6_step cX6_step 2 none 1 21 [.ref (ad Γ 61)] (gR σ r) none (gR σ x) := by
  refine y_enter (by decide) hJ (Nat.le_of_ble_eq_true rfl) [(0, .ref (ad Γ 61))] rfl ?_
  intro p e s' m args below meth c' hC hr hlk
  have J233 : ∀ (t0 : Int32) (gr : RSt), f_X6_step_j233 t0 gr = some x → Y Γ (GA Γ) p l e ({ frames := 1, cells := 0, slots := 0, locals := 21 } : Room) s' m args below meth c' 0 0 (MQ below (Qg Γ none (gR σ x)) args s' 0 0 (GA Γ)) 2 (gR σ gr) 233 [(0, .ref (ad Γ 61))] [.int t0, .ref (ad Γ 61)] := by
    intro t0 gr hk
    obtain ⟨g233, eg233, hk⟩ := ob_lt hk
    refine y_put hC 61 (hA 61 (by decide)) (cl_R (u := gr) rfl) rfl inU6 tyX6_ok nmX6 2 (by decide) w2_10 rfl rfl rfl rfl (Nat.le_of_ble_eq_true rfl) (gR σ g233) (by subst eg233; exact (cu_R_token (u := gr) (v := t0) rfl rfl)) dX6_step_233 236 rfl ?_
    refine y_aload_n hC dX6_step_236 0 rfl 237 rfl ?_
    refine y_dup hC dX6_step_237 rfl 238 rfl ?_
    refine y_get hC 61 (hA 61 (by decide)) (cl_R (u := g233) rfl) rfl inU6 4 (by decide) w2_12 rfl dX6_step_238 241 rfl ?_
    refine y_iconst hC dX6_step_241 (v := (1 : Int32)) (by decide) 242 rfl ?_
    refine y_iadd hC dX6_step_242 243 rfl ?_
    obtain ⟨g243, eg243, hk⟩ := ob_lt hk
    refine y_put hC 61 (hA 61 (by decide)) (cl_R (u := g233) rfl) rfl inU6 tyX6_ok nmX6 4 (by decide) w2_12 rfl rfl rfl rfl (Nat.le_of_ble_eq_true rfl) (gR σ g243) (by subst eg243; exact (cu_R_next (u := g233) (v := ((pR_next g233) + (1 : Int32))) rfl rfl)) dX6_step_243 246 rfl ?_
    have e := Option.some.inj hk
    exact y_vret hC hr hlk (by rw [← e]) dX6_step_246
  have J215 : ∀ (t0 : Int32) (gr : RSt), f_X6_step_j215 t0 gr = some x → Y Γ (GA Γ) p l e ({ frames := 1, cells := 0, slots := 0, locals := 21 } : Room) s' m args below meth c' 0 0 (MQ below (Qg Γ none (gR σ x)) args s' 0 0 (GA Γ)) 2 (gR σ gr) 215 [(0, .ref (ad Γ 61))] [.int t0, .ref (ad Γ 61)] := by
    intro t0 gr hk
    obtain ⟨g215, eg215, hk⟩ := ob_lt hk
    refine y_put hC 61 (hA 61 (by decide)) (cl_R (u := gr) rfl) rfl inU6 tyX6_ok nmX6 2 (by decide) w2_10 rfl rfl rfl rfl (Nat.le_of_ble_eq_true rfl) (gR σ g215) (by subst eg215; exact (cu_R_token (u := gr) (v := t0) rfl rfl)) dX6_step_215 218 rfl ?_
    refine y_goto hC dX6_step_218 246 (by decide) ?_
    have e := Option.some.inj hk
    exact y_vret hC hr hlk (by rw [← e]) dX6_step_246
  have J196 : ∀ (gr : RSt), f_X6_step_j196 gr = some x → Y Γ (GA Γ) p l e ({ frames := 1, cells := 0, slots := 0, locals := 21 } : Room) s' m args below meth c' 0 0 (MQ below (Qg Γ none (gR σ x)) args s' 0 0 (GA Γ)) 2 (gR σ gr) 196 [(0, .ref (ad Γ 61))] [] := by
    intro gr hk
    refine y_aload_n hC dX6_step_196 0 rfl 197 rfl ?_
    refine y_aload_n hC dX6_step_197 0 rfl 198 rfl ?_
    refine y_get hC 61 (hA 61 (by decide)) (cl_R (u := gr) rfl) rfl inU6 4 (by decide) w2_12 rfl dX6_step_198 201 rfl ?_
    refine y_aload_n hC dX6_step_201 0 rfl 202 rfl ?_
    refine y_get hC 61 (hA 61 (by decide)) (cl_R (u := gr) rfl) rfl inU6 3 (by decide) w2_11 rfl dX6_step_202 205 rfl ?_
    refine y_isub hC dX6_step_205 206 rfl ?_
    refine y_iconst hC dX6_step_206 (v := (2 : Int32)) (by decide) 207 rfl ?_
    refine y_icmp_gt hC dX6_step_207 214 (by decide) 210 rfl (fun h207 => ?_) (fun h207 => ?_)
    · have hk := ob_pos h207 hk
      refine y_iconst hC dX6_step_214 (v := (4 : Int32)) (by decide) 215 rfl ?_
      refine y_sub [0] rfl ?_
      exact J215 (4 : Int32) gr hk
    · have hk := ob_neg h207 hk
      refine y_iconst hC dX6_step_210 (v := (2 : Int32)) (by decide) 211 rfl ?_
      refine y_goto hC dX6_step_211 215 (by decide) ?_
      refine y_sub [0] rfl ?_
      exact J215 (2 : Int32) gr hk
  have L135 : ∀ (n135 : Nat) (q135 : RSt), lp (f_X6_step_s135) n135 q135 = some x → Y Γ (GA Γ) p l e ({ frames := 1, cells := 0, slots := 0, locals := 21 } : Room) s' m args below meth c' 0 0 (MQ below (Qg Γ none (gR σ x)) args s' 0 0 (GA Γ)) 2 (gR σ q135) 135 [(0, .ref (ad Γ 61))] [] := by
    intro n135
    induction n135 with
    | zero => intro q135 hk; exact (lp_zero hk).elim
    | succ n135 ih135 =>
      intro q135 hk
      have hk : f_X6_step_s135 (lp (f_X6_step_s135) n135) q135 = some x := (lp_succ _ _ _).symm.trans hk
      refine y_aload_n hC dX6_step_135 0 rfl 136 rfl ?_
      refine y_get hC 61 (hA 61 (by decide)) (cl_R (u := q135) rfl) rfl inU6 4 (by decide) w2_12 rfl dX6_step_136 139 rfl ?_
      refine y_aload_n hC dX6_step_139 0 rfl 140 rfl ?_
      refine y_get hC 61 (hA 61 (by decide)) (cl_R (u := q135) rfl) rfl inU6 1 (by decide) w2_8 rfl dX6_step_140 143 rfl ?_
      refine y_icmp_ge hC dX6_step_143 196 (by decide) 146 rfl (fun h143 => ?_) (fun h143 => ?_)
      · have hk := ob_pos h143 hk
        refine y_sub [0] rfl ?_
        exact J196 q135 hk
      · have hk := ob_neg h143 hk
        refine y_aload_n hC dX6_step_146 0 rfl 147 rfl ?_
        refine y_aload_n hC dX6_step_147 0 rfl 148 rfl ?_
        refine y_get hC 61 (hA 61 (by decide)) (cl_R (u := q135) rfl) rfl inU6 4 (by decide) w2_12 rfl dX6_step_148 151 rfl ?_
        obtain ⟨x151, hx151, hk⟩ := ob_bind hk
        refine y_callV hC 61 (hA 61 (by decide)) (cl_R (u := q135) rfl) rfl (c_X6_byteAt hJ hA l σ q135 (pR_next q135) x151 hx151) rfl ⟨w2_152, w1_12, cwd_X6_byteAt, by decide, by decide⟩ w2_149 w2_151 ws1_10 rfl rfl (Nat.le_of_ble_eq_true rfl) (by decide) dX6_step_151 154 rfl (gR σ q135) rfl [.int x151] rfl ?_
        obtain ⟨x154, hx154, hk⟩ := ob_bind hk
        refine y_callS hC (c_X6_isFigure hJ l (gR σ q135) x151 x154 hx154) rfl ⟨w2_158, w1_12, cwd_X6_isFigure, by decide, by decide⟩ w2_156 w2_157 rfl rfl (Nat.le_of_ble_eq_true rfl) (by decide) dX6_step_154 157 rfl (gR σ q135) rfl [.int x154] rfl ?_
        refine y_if_eq hC dX6_step_157 196 (by decide) 160 rfl (fun h157 => ?_) (fun h157 => ?_)
        · have hk := ob_pos h157 hk
          refine y_sub [0] rfl ?_
          exact J196 q135 hk
        · have hk := ob_neg h157 hk
          refine y_aload_n hC dX6_step_160 0 rfl 161 rfl ?_
          refine y_bipush hC dX6_step_161 (v := (10 : Int32)) (by decide) 163 rfl ?_
          refine y_aload_n hC dX6_step_163 0 rfl 164 rfl ?_
          refine y_get hC 61 (hA 61 (by decide)) (cl_R (u := q135) rfl) rfl inU6 5 (by decide) w2_13 rfl dX6_step_164 167 rfl ?_
          refine y_imul hC dX6_step_167 168 rfl ?_
          refine y_aload_n hC dX6_step_168 0 rfl 169 rfl ?_
          refine y_aload_n hC dX6_step_169 0 rfl 170 rfl ?_
          refine y_get hC 61 (hA 61 (by decide)) (cl_R (u := q135) rfl) rfl inU6 4 (by decide) w2_12 rfl dX6_step_170 173 rfl ?_
          obtain ⟨x173, hx173, hk⟩ := ob_bind hk
          refine y_callV hC 61 (hA 61 (by decide)) (cl_R (u := q135) rfl) rfl (c_X6_byteAt hJ hA l σ q135 (pR_next q135) x173 hx173) rfl ⟨w2_152, w1_12, cwd_X6_byteAt, by decide, by decide⟩ w2_149 w2_151 ws1_10 rfl rfl (Nat.le_of_ble_eq_true rfl) (by decide) dX6_step_173 176 rfl (gR σ q135) rfl [.int x173, .int ((10 : Int32) * (pR_number q135)), .ref (ad Γ 61)] rfl ?_
          refine y_iadd hC dX6_step_176 177 rfl ?_
          refine y_bipush hC dX6_step_177 (v := (48 : Int32)) (by decide) 179 rfl ?_
          refine y_isub hC dX6_step_179 180 rfl ?_
          obtain ⟨g180, eg180, hk⟩ := ob_lt hk
          refine y_put hC 61 (hA 61 (by decide)) (cl_R (u := q135) rfl) rfl inU6 tyX6_ok nmX6 5 (by decide) w2_13 rfl rfl rfl rfl (Nat.le_of_ble_eq_true rfl) (gR σ g180) (by subst eg180; exact (cu_R_number (u := q135) (v := ((((10 : Int32) * (pR_number q135)) + x173) - (48 : Int32))) rfl rfl)) dX6_step_180 183 rfl ?_
          refine y_aload_n hC dX6_step_183 0 rfl 184 rfl ?_
          refine y_dup hC dX6_step_184 rfl 185 rfl ?_
          refine y_get hC 61 (hA 61 (by decide)) (cl_R (u := g180) rfl) rfl inU6 4 (by decide) w2_12 rfl dX6_step_185 188 rfl ?_
          refine y_iconst hC dX6_step_188 (v := (1 : Int32)) (by decide) 189 rfl ?_
          refine y_iadd hC dX6_step_189 190 rfl ?_
          obtain ⟨g190, eg190, hk⟩ := ob_lt hk
          refine y_put hC 61 (hA 61 (by decide)) (cl_R (u := g180) rfl) rfl inU6 tyX6_ok nmX6 4 (by decide) w2_12 rfl rfl rfl rfl (Nat.le_of_ble_eq_true rfl) (gR σ g190) (by subst eg190; exact (cu_R_next (u := g180) (v := ((pR_next g180) + (1 : Int32))) rfl rfl)) dX6_step_190 193 rfl ?_
          refine y_goto hC dX6_step_193 135 (by decide) ?_
          refine y_sub [0] rfl ?_
          exact ih135 g190 hk
  have L85 : ∀ (n85 : Nat) (q85 : RSt), lp (f_X6_step_s85) n85 q85 = some x → Y Γ (GA Γ) p l e ({ frames := 1, cells := 0, slots := 0, locals := 21 } : Room) s' m args below meth c' 0 0 (MQ below (Qg Γ none (gR σ x)) args s' 0 0 (GA Γ)) 2 (gR σ q85) 85 [(0, .ref (ad Γ 61))] [] := by
    intro n85
    induction n85 with
    | zero => intro q85 hk; exact (lp_zero hk).elim
    | succ n85 ih85 =>
      intro q85 hk
      have hk : f_X6_step_s85 (lp (f_X6_step_s85) n85) q85 = some x := (lp_succ _ _ _).symm.trans hk
      refine y_aload_n hC dX6_step_85 0 rfl 86 rfl ?_
      refine y_get hC 61 (hA 61 (by decide)) (cl_R (u := q85) rfl) rfl inU6 4 (by decide) w2_12 rfl dX6_step_86 89 rfl ?_
      refine y_aload_n hC dX6_step_89 0 rfl 90 rfl ?_
      refine y_get hC 61 (hA 61 (by decide)) (cl_R (u := q85) rfl) rfl inU6 1 (by decide) w2_8 rfl dX6_step_90 93 rfl ?_
      refine y_icmp_ge hC dX6_step_93 246 (by decide) 96 rfl (fun h93 => ?_) (fun h93 => ?_)
      · have hk := ob_pos h93 hk
        have e := Option.some.inj hk
        exact y_vret hC hr hlk (by rw [← e]) dX6_step_246
      · have hk := ob_neg h93 hk
        refine y_aload_n hC dX6_step_96 0 rfl 97 rfl ?_
        refine y_aload_n hC dX6_step_97 0 rfl 98 rfl ?_
        refine y_get hC 61 (hA 61 (by decide)) (cl_R (u := q85) rfl) rfl inU6 4 (by decide) w2_12 rfl dX6_step_98 101 rfl ?_
        obtain ⟨x101, hx101, hk⟩ := ob_bind hk
        refine y_callV hC 61 (hA 61 (by decide)) (cl_R (u := q85) rfl) rfl (c_X6_byteAt hJ hA l σ q85 (pR_next q85) x101 hx101) rfl ⟨w2_152, w1_12, cwd_X6_byteAt, by decide, by decide⟩ w2_149 w2_151 ws1_10 rfl rfl (Nat.le_of_ble_eq_true rfl) (by decide) dX6_step_101 104 rfl (gR σ q85) rfl [.int x101] rfl ?_
        obtain ⟨x104, hx104, hk⟩ := ob_bind hk
        refine y_callS hC (c_X6_isLetter hJ l (gR σ q85) x101 x104 hx104) rfl ⟨w2_155, w1_12, cwd_X6_isLetter, by decide, by decide⟩ w2_153 w2_154 rfl rfl (Nat.le_of_ble_eq_true rfl) (by decide) dX6_step_104 107 rfl (gR σ q85) rfl [.int x104] rfl ?_
        refine y_if_eq hC dX6_step_107 246 (by decide) 110 rfl (fun h107 => ?_) (fun h107 => ?_)
        · have hk := ob_pos h107 hk
          have e := Option.some.inj hk
          exact y_vret hC hr hlk (by rw [← e]) dX6_step_246
        · have hk := ob_neg h107 hk
          refine y_aload_n hC dX6_step_110 0 rfl 111 rfl ?_
          refine y_dup hC dX6_step_111 rfl 112 rfl ?_
          refine y_get hC 61 (hA 61 (by decide)) (cl_R (u := q85) rfl) rfl inU6 4 (by decide) w2_12 rfl dX6_step_112 115 rfl ?_
          refine y_iconst hC dX6_step_115 (v := (1 : Int32)) (by decide) 116 rfl ?_
          refine y_iadd hC dX6_step_116 117 rfl ?_
          obtain ⟨g117, eg117, hk⟩ := ob_lt hk
          refine y_put hC 61 (hA 61 (by decide)) (cl_R (u := q85) rfl) rfl inU6 tyX6_ok nmX6 4 (by decide) w2_12 rfl rfl rfl rfl (Nat.le_of_ble_eq_true rfl) (gR σ g117) (by subst eg117; exact (cu_R_next (u := q85) (v := ((pR_next q85) + (1 : Int32))) rfl rfl)) dX6_step_117 120 rfl ?_
          refine y_goto hC dX6_step_120 85 (by decide) ?_
          refine y_sub [0] rfl ?_
          exact ih85 g117 hk
  have J37 : ∀ (gr : RSt), f_X6_step_j37 gr = some x → Y Γ (GA Γ) p l e ({ frames := 1, cells := 0, slots := 0, locals := 21 } : Room) s' m args below meth c' 0 0 (MQ below (Qg Γ none (gR σ x)) args s' 0 0 (GA Γ)) 2 (gR σ gr) 37 [(0, .ref (ad Γ 61))] [] := by
    intro gr hk
    refine y_aload_n hC dX6_step_37 0 rfl 38 rfl ?_
    refine y_aload_n hC dX6_step_38 0 rfl 39 rfl ?_
    refine y_get hC 61 (hA 61 (by decide)) (cl_R (u := gr) rfl) rfl inU6 4 (by decide) w2_12 rfl dX6_step_39 42 rfl ?_
    obtain ⟨g42, eg42, hk⟩ := ob_lt hk
    refine y_put hC 61 (hA 61 (by decide)) (cl_R (u := gr) rfl) rfl inU6 tyX6_ok nmX6 3 (by decide) w2_11 rfl rfl rfl rfl (Nat.le_of_ble_eq_true rfl) (gR σ g42) (by subst eg42; exact (cu_R_start (u := gr) (v := (pR_next gr)) rfl rfl)) dX6_step_42 45 rfl ?_
    refine y_aload_n hC dX6_step_45 0 rfl 46 rfl ?_
    refine y_aload_n hC dX6_step_46 0 rfl 47 rfl ?_
    refine y_get hC 61 (hA 61 (by decide)) (cl_R (u := g42) rfl) rfl inU6 3 (by decide) w2_11 rfl dX6_step_47 50 rfl ?_
    obtain ⟨x50, hx50, hk⟩ := ob_bind hk
    refine y_callV hC 61 (hA 61 (by decide)) (cl_R (u := g42) rfl) rfl (c_X6_byteAt hJ hA l σ g42 (pR_start g42) x50 hx50) rfl ⟨w2_152, w1_12, cwd_X6_byteAt, by decide, by decide⟩ w2_149 w2_151 ws1_10 rfl rfl (Nat.le_of_ble_eq_true rfl) (by decide) dX6_step_50 53 rfl (gR σ g42) rfl [.int x50] rfl ?_
    refine y_istore_n hC dX6_step_53 (by decide) [(1, .int x50), (0, .ref (ad Γ 61))] rfl 54 rfl ?_
    refine y_aload_n hC dX6_step_54 1 rfl 55 rfl ?_
    refine y_get hC 61 (hA 61 (by decide)) (cl_R (u := g42) rfl) rfl inU6 3 (by decide) w2_11 rfl dX6_step_55 58 rfl ?_
    refine y_aload_n hC dX6_step_58 1 rfl 59 rfl ?_
    refine y_get hC 61 (hA 61 (by decide)) (cl_R (u := g42) rfl) rfl inU6 1 (by decide) w2_8 rfl dX6_step_59 62 rfl ?_
    refine y_icmp_lt hC dX6_step_62 73 (by decide) 65 rfl (fun h62 => ?_) (fun h62 => ?_)
    · have hk := ob_pos h62 hk
      refine y_iload_n hC dX6_step_73 0 rfl 74 rfl ?_
      obtain ⟨x74, hx74, hk⟩ := ob_bind hk
      refine y_callS hC (c_X6_isLetter hJ l (gR σ g42) x50 x74 hx74) rfl ⟨w2_155, w1_12, cwd_X6_isLetter, by decide, by decide⟩ w2_153 w2_154 rfl rfl (Nat.le_of_ble_eq_true rfl) (by decide) dX6_step_74 77 rfl (gR σ g42) rfl [.int x74] rfl ?_
      refine y_if_eq hC dX6_step_77 123 (by decide) 80 rfl (fun h77 => ?_) (fun h77 => ?_)
      · have hk := ob_pos h77 hk
        refine y_iload_n hC dX6_step_123 0 rfl 124 rfl ?_
        obtain ⟨x124, hx124, hk⟩ := ob_bind hk
        refine y_callS hC (c_X6_isFigure hJ l (gR σ g42) x50 x124 hx124) rfl ⟨w2_158, w1_12, cwd_X6_isFigure, by decide, by decide⟩ w2_156 w2_157 rfl rfl (Nat.le_of_ble_eq_true rfl) (by decide) dX6_step_124 127 rfl (gR σ g42) rfl [.int x124] rfl ?_
        refine y_if_eq hC dX6_step_127 221 (by decide) 130 rfl (fun h127 => ?_) (fun h127 => ?_)
        · have hk := ob_pos h127 hk
          refine y_aload_n hC dX6_step_221 1 rfl 222 rfl ?_
          refine y_iload_n hC dX6_step_222 0 rfl 223 rfl ?_
          refine y_bipush hC dX6_step_223 (v := (59 : Int32)) (by decide) 225 rfl ?_
          refine y_icmp_ne hC dX6_step_225 232 (by decide) 228 rfl (fun h225 => ?_) (fun h225 => ?_)
          · have hk := ob_neg h225 hk
            refine y_iconst hC dX6_step_232 (v := (4 : Int32)) (by decide) 233 rfl ?_
            refine y_sub [1] rfl ?_
            exact J233 (4 : Int32) g42 hk
          · have hk := ob_pos h225 hk
            refine y_iconst hC dX6_step_228 (v := (3 : Int32)) (by decide) 229 rfl ?_
            refine y_goto hC dX6_step_229 233 (by decide) ?_
            refine y_sub [1] rfl ?_
            exact J233 (3 : Int32) g42 hk
        · have hk := ob_neg h127 hk
          refine y_aload_n hC dX6_step_130 1 rfl 131 rfl ?_
          refine y_iconst hC dX6_step_131 (v := (0 : Int32)) (by decide) 132 rfl ?_
          obtain ⟨g132, eg132, hk⟩ := ob_lt hk
          refine y_put hC 61 (hA 61 (by decide)) (cl_R (u := g42) rfl) rfl inU6 tyX6_ok nmX6 5 (by decide) w2_13 rfl rfl rfl rfl (Nat.le_of_ble_eq_true rfl) (gR σ g132) (by subst eg132; exact (cu_R_number (u := g42) (v := (0 : Int32)) rfl rfl)) dX6_step_132 135 rfl ?_
          refine y_sub [1] rfl ?_
          exact L135 1000 g132 hk
      · have hk := ob_neg h77 hk
        refine y_aload_n hC dX6_step_80 1 rfl 81 rfl ?_
        refine y_iconst hC dX6_step_81 (v := (1 : Int32)) (by decide) 82 rfl ?_
        obtain ⟨g82, eg82, hk⟩ := ob_lt hk
        refine y_put hC 61 (hA 61 (by decide)) (cl_R (u := g42) rfl) rfl inU6 tyX6_ok nmX6 2 (by decide) w2_10 rfl rfl rfl rfl (Nat.le_of_ble_eq_true rfl) (gR σ g82) (by subst eg82; exact (cu_R_token (u := g42) (v := (1 : Int32)) rfl rfl)) dX6_step_82 85 rfl ?_
        refine y_sub [1] rfl ?_
        exact L85 1000 g82 hk
    · have hk := ob_neg h62 hk
      refine y_aload_n hC dX6_step_65 1 rfl 66 rfl ?_
      refine y_iconst hC dX6_step_66 (v := (0 : Int32)) (by decide) 67 rfl ?_
      obtain ⟨g67, eg67, hk⟩ := ob_lt hk
      refine y_put hC 61 (hA 61 (by decide)) (cl_R (u := g42) rfl) rfl inU6 tyX6_ok nmX6 2 (by decide) w2_10 rfl rfl rfl rfl (Nat.le_of_ble_eq_true rfl) (gR σ g67) (by subst eg67; exact (cu_R_token (u := g42) (v := (0 : Int32)) rfl rfl)) dX6_step_67 70 rfl ?_
      refine y_goto hC dX6_step_70 246 (by decide) ?_
      have e := Option.some.inj hk
      exact y_vret hC hr hlk (by rw [← e]) dX6_step_246
  have L0 : ∀ (n0 : Nat) (q0 : RSt), lp (f_X6_step_s0) n0 q0 = some x → Y Γ (GA Γ) p l e ({ frames := 1, cells := 0, slots := 0, locals := 21 } : Room) s' m args below meth c' 0 0 (MQ below (Qg Γ none (gR σ x)) args s' 0 0 (GA Γ)) 2 (gR σ q0) 0 [(0, .ref (ad Γ 61))] [] := by
    intro n0
    induction n0 with
    | zero => intro q0 hk; exact (lp_zero hk).elim
    | succ n0 ih0 =>
      intro q0 hk
      have hk : f_X6_step_s0 (lp (f_X6_step_s0) n0) q0 = some x := (lp_succ _ _ _).symm.trans hk
      refine y_aload_n hC dX6_step_0 0 rfl 1 rfl ?_
      refine y_get hC 61 (hA 61 (by decide)) (cl_R (u := q0) rfl) rfl inU6 4 (by decide) w2_12 rfl dX6_step_1 4 rfl ?_
      refine y_aload_n hC dX6_step_4 0 rfl 5 rfl ?_
      refine y_get hC 61 (hA 61 (by decide)) (cl_R (u := q0) rfl) rfl inU6 1 (by decide) w2_8 rfl dX6_step_5 8 rfl ?_
      refine y_icmp_ge hC dX6_step_8 37 (by decide) 11 rfl (fun h8 => ?_) (fun h8 => ?_)
      · have hk := ob_pos h8 hk
        refine y_sub [0] rfl ?_
        exact J37 q0 hk
      · have hk := ob_neg h8 hk
        refine y_aload_n hC dX6_step_11 0 rfl 12 rfl ?_
        refine y_aload_n hC dX6_step_12 0 rfl 13 rfl ?_
        refine y_get hC 61 (hA 61 (by decide)) (cl_R (u := q0) rfl) rfl inU6 4 (by decide) w2_12 rfl dX6_step_13 16 rfl ?_
        obtain ⟨x16, hx16, hk⟩ := ob_bind hk
        refine y_callV hC 61 (hA 61 (by decide)) (cl_R (u := q0) rfl) rfl (c_X6_byteAt hJ hA l σ q0 (pR_next q0) x16 hx16) rfl ⟨w2_152, w1_12, cwd_X6_byteAt, by decide, by decide⟩ w2_149 w2_151 ws1_10 rfl rfl (Nat.le_of_ble_eq_true rfl) (by decide) dX6_step_16 19 rfl (gR σ q0) rfl [.int x16] rfl ?_
        refine y_bipush hC dX6_step_19 (v := (32 : Int32)) (by decide) 21 rfl ?_
        refine y_icmp_ne hC dX6_step_21 37 (by decide) 24 rfl (fun h21 => ?_) (fun h21 => ?_)
        · have hk := ob_neg h21 hk
          refine y_sub [0] rfl ?_
          exact J37 q0 hk
        · have hk := ob_pos h21 hk
          refine y_aload_n hC dX6_step_24 0 rfl 25 rfl ?_
          refine y_dup hC dX6_step_25 rfl 26 rfl ?_
          refine y_get hC 61 (hA 61 (by decide)) (cl_R (u := q0) rfl) rfl inU6 4 (by decide) w2_12 rfl dX6_step_26 29 rfl ?_
          refine y_iconst hC dX6_step_29 (v := (1 : Int32)) (by decide) 30 rfl ?_
          refine y_iadd hC dX6_step_30 31 rfl ?_
          obtain ⟨g31, eg31, hk⟩ := ob_lt hk
          refine y_put hC 61 (hA 61 (by decide)) (cl_R (u := q0) rfl) rfl inU6 tyX6_ok nmX6 4 (by decide) w2_12 rfl rfl rfl rfl (Nat.le_of_ble_eq_true rfl) (gR σ g31) (by subst eg31; exact (cu_R_next (u := q0) (v := ((pR_next q0) + (1 : Int32))) rfl rfl)) dX6_step_31 34 rfl ?_
          refine y_goto hC dX6_step_34 0 (by decide) ?_
          refine y_sub [0] rfl ?_
          exact ih0 g31 hk
  refine y_sub [0] rfl ?_
  exact L0 1000 r hk
def f_X6_isWord_s28 (r : RSt) (si : Nat) (K28 : (Int32) → Option (Int32)) (q28 : Int32) : Option (Int32) :=
  if (nI (lenS.getD si 0)) ≤ q28 then
    some (1 : Int32)
  else
    (f_X6_byteAt r ((pR_start r) + q28)).bind fun x43 => 
      (if inb q28 (lenS.getD si 0) then 
      (if x43 = (chS si q28.toNatClampNeg) then
        K28 (q28 + (1 : Int32))
      else
        some (0 : Int32))
    else none)
def f_X6_isWord (r : RSt) (si : Nat) : Option (Int32) :=
  if (pR_token r) = (1 : Int32) then
    if ((pR_next r) - (pR_start r)) = (nI (lenS.getD si 0)) then
      lp (f_X6_isWord_s28 r si) 1000 (0 : Int32)
    else
      some (0 : Int32)
  else
    some (0 : Int32)
theorem cwd_X6_isWord : yX6_isWord.cls ≠ "java/lang/invoke/MethodHandle" ∧ yX6_isWord.cls ≠ "java/lang/invoke/VarHandle" ∧ (parseMethodDescriptor yX6_isWord.desc).map (fun d => d.parameters.length) = some 1 := by decide +kernel
set_option maxHeartbeats 4000000 in
set_option maxRecDepth 100000 in
theorem c_X6_isWord {Γ : GC} (hJ : GJ Γ) (hA : ∀ i, i < 66 → act Γ i) (l : Launch) (σ : GSt) (r : RSt) (si : Nat) (hsi : si < 5) (x : Int32) (hk : f_X6_isWord r si = some x) : Mt Γ l yX6_isWord cX6_isWord 3 (some .boolean) 4 85 [.ref (ad Γ 61), .ref (ad Γ (100 + si))] (gR σ r) (some (.int x)) (gR σ r) := by
  refine y_enter (by decide) hJ (Nat.le_of_ble_eq_true rfl) [(0, .ref (ad Γ 61)), (1, .ref (ad Γ (100 + si)))] rfl ?_
  intro p e s' m args below meth c' hC hr hlk
  have L28 : ∀ (n28 : Nat) (q28 : Int32), lp (f_X6_isWord_s28 r si) n28 q28 = some x → Y Γ (GA Γ) p l e ({ frames := 4, cells := 0, slots := 0, locals := 85 } : Room) s' m args below meth c' 0 0 (MQ below (Qg Γ (some (.int x)) (gR σ r)) args s' 0 0 (GA Γ)) 3 (gR σ r) 28 [(0, .ref (ad Γ 61)), (1, .ref (ad Γ (100 + si))), (2, .int q28)] [] := by
    intro n28
    induction n28 with
    | zero => intro q28 hk; exact (lp_zero hk).elim
    | succ n28 ih28 =>
      intro q28 hk
      have hk : f_X6_isWord_s28 r si (lp (f_X6_isWord_s28 r si) n28) q28 = some x := (lp_succ _ _ _).symm.trans hk
      refine y_iload_n hC dX6_isWord_28 2 rfl 29 rfl ?_
      refine y_aload_n hC dX6_isWord_29 1 rfl 30 rfl ?_
      refine y_callStr hC si hsi (c_J0_length_8abf5 hJ l (gR σ r) si hsi) rfl ⟨w2_171, w1_15, cwd_J0_length_8abf5, by decide, by decide⟩ w2_168 w2_169 w2_170 rfl rfl (Nat.le_of_ble_eq_true rfl) (by decide) dX6_isWord_30 33 rfl (gR σ r) rfl [.int (nI (lenS.getD si 0)), .int q28] rfl ?_
      refine y_icmp_ge hC dX6_isWord_33 62 (by decide) 36 rfl (fun h33 => ?_) (fun h33 => ?_)
      · have hk := ob_pos h33 hk
        refine y_iconst hC dX6_isWord_62 (v := (1 : Int32)) (by decide) 63 rfl ?_
        have e := Option.some.inj hk
        exact y_zret hC hr hlk rfl (by rw [← e]) (by first | rfl | rw [← e]) dX6_isWord_63
      · have hk := ob_neg h33 hk
        refine y_aload_n hC dX6_isWord_36 0 rfl 37 rfl ?_
        refine y_aload_n hC dX6_isWord_37 0 rfl 38 rfl ?_
        refine y_get hC 61 (hA 61 (by decide)) (cl_R (u := r) rfl) rfl inU6 3 (by decide) w2_11 rfl dX6_isWord_38 41 rfl ?_
        refine y_iload_n hC dX6_isWord_41 2 rfl 42 rfl ?_
        refine y_iadd hC dX6_isWord_42 43 rfl ?_
        obtain ⟨x43, hx43, hk⟩ := ob_bind hk
        refine y_callV hC 61 (hA 61 (by decide)) (cl_R (u := r) rfl) rfl (c_X6_byteAt hJ hA l σ r ((pR_start r) + q28) x43 hx43) rfl ⟨w2_152, w1_12, cwd_X6_byteAt, by decide, by decide⟩ w2_149 w2_151 ws1_10 rfl rfl (Nat.le_of_ble_eq_true rfl) (by decide) dX6_isWord_43 46 rfl (gR σ r) rfl [.int x43] rfl ?_
        refine y_aload_n hC dX6_isWord_46 1 rfl 47 rfl ?_
        refine y_iload_n hC dX6_isWord_47 2 rfl 48 rfl ?_
        obtain ⟨h48, hk⟩ := ob_if hk
        refine y_callStr hC si hsi (c_J0_charAt_5068e hJ l (gR σ r) si hsi q28 h48) rfl ⟨w2_181, w1_15, cwd_J0_charAt_5068e, by decide, by decide⟩ w2_178 w2_179 w2_180 rfl rfl (Nat.le_of_ble_eq_true rfl) (by decide) dX6_isWord_48 51 rfl (gR σ r) rfl [.int (chS si q28.toNatClampNeg), .int x43] rfl ?_
        refine y_icmp_eq hC dX6_isWord_51 56 (by decide) 54 rfl (fun h51 => ?_) (fun h51 => ?_)
        · have hk := ob_pos h51 hk
          refine y_iinc hC dX6_isWord_56 2 rfl (v := (q28 + (1 : Int32))) rfl (by decide) [(2, .int (q28 + (1 : Int32))), (0, .ref (ad Γ 61)), (1, .ref (ad Γ (100 + si)))] rfl 59 rfl ?_
          refine y_goto hC dX6_isWord_59 28 (by decide) ?_
          refine y_sub [1, 2, 0] rfl ?_
          exact ih28 (q28 + (1 : Int32)) hk
        · have hk := ob_neg h51 hk
          refine y_iconst hC dX6_isWord_54 (v := (0 : Int32)) (by decide) 55 rfl ?_
          have e := Option.some.inj hk
          exact y_zret hC hr hlk rfl (by rw [← e]) (by first | rfl | rw [← e]) dX6_isWord_55
  refine y_aload_n hC dX6_isWord_0 0 rfl 1 rfl ?_
  refine y_get hC 61 (hA 61 (by decide)) (cl_R (u := r) rfl) rfl inU6 2 (by decide) w2_10 rfl dX6_isWord_1 4 rfl ?_
  refine y_iconst hC dX6_isWord_4 (v := (1 : Int32)) (by decide) 5 rfl ?_
  refine y_icmp_ne hC dX6_isWord_5 24 (by decide) 8 rfl (fun h5 => ?_) (fun h5 => ?_)
  · have hk := ob_neg h5 hk
    refine y_iconst hC dX6_isWord_24 (v := (0 : Int32)) (by decide) 25 rfl ?_
    have e := Option.some.inj hk
    exact y_zret hC hr hlk rfl (by rw [← e]) (by first | rfl | rw [← e]) dX6_isWord_25
  · have hk := ob_pos h5 hk
    refine y_aload_n hC dX6_isWord_8 0 rfl 9 rfl ?_
    refine y_get hC 61 (hA 61 (by decide)) (cl_R (u := r) rfl) rfl inU6 4 (by decide) w2_12 rfl dX6_isWord_9 12 rfl ?_
    refine y_aload_n hC dX6_isWord_12 0 rfl 13 rfl ?_
    refine y_get hC 61 (hA 61 (by decide)) (cl_R (u := r) rfl) rfl inU6 3 (by decide) w2_11 rfl dX6_isWord_13 16 rfl ?_
    refine y_isub hC dX6_isWord_16 17 rfl ?_
    refine y_aload_n hC dX6_isWord_17 1 rfl 18 rfl ?_
    refine y_callStr hC si hsi (c_J0_length_8abf5 hJ l (gR σ r) si hsi) rfl ⟨w2_171, w1_15, cwd_J0_length_8abf5, by decide, by decide⟩ w2_168 w2_169 w2_170 rfl rfl (Nat.le_of_ble_eq_true rfl) (by decide) dX6_isWord_18 21 rfl (gR σ r) rfl [.int (nI (lenS.getD si 0)), .int ((pR_next r) - (pR_start r))] rfl ?_
    refine y_icmp_eq hC dX6_isWord_21 26 (by decide) 24 rfl (fun h21 => ?_) (fun h21 => ?_)
    · have hk := ob_pos h21 hk
      refine y_iconst hC dX6_isWord_26 (v := (0 : Int32)) (by decide) 27 rfl ?_
      refine y_istore_n hC dX6_isWord_27 (by decide) [(2, .int (0 : Int32)), (0, .ref (ad Γ 61)), (1, .ref (ad Γ (100 + si)))] rfl 28 rfl ?_
      refine y_sub [1, 2, 0] rfl ?_
      exact L28 1000 (0 : Int32) hk
    · have hk := ob_neg h21 hk
      refine y_iconst hC dX6_isWord_24 (v := (0 : Int32)) (by decide) 25 rfl ?_
      have e := Option.some.inj hk
      exact y_zret hC hr hlk rfl (by rw [← e]) (by first | rfl | rw [← e]) dX6_isWord_25
def f_X6_readNumber (r : RSt) (a1 : Int32) (a2 : Int32) : Option (Int32 × RSt) :=
  (f_X6_step r).bind fun x1 => 
    (if (pR_token x1) = (2 : Int32) then
      (f_X10_within (pR_number x1) a1 a2).bind fun x18 => 
        (if x18 = 0 then
          some ((-1 : Int32), x1)
        else
          some ((pR_number x1), x1))
    else
      some ((-1 : Int32), x1))
theorem cwd_X6_readNumber : yX6_readNumber.cls ≠ "java/lang/invoke/MethodHandle" ∧ yX6_readNumber.cls ≠ "java/lang/invoke/VarHandle" ∧ (parseMethodDescriptor yX6_readNumber.desc).map (fun d => d.parameters.length) = some 2 := by decide +kernel
set_option maxHeartbeats 4000000 in
set_option maxRecDepth 100000 in
theorem c_X6_readNumber {Γ : GC} (hJ : GJ Γ) (hA : ∀ i, i < 66 → act Γ i) (l : Launch) (σ : GSt) (r : RSt) (a1 : Int32) (a2 : Int32) (x : Int32 × RSt) (hk : f_X6_readNumber r a1 a2 = some x) : Mt Γ l yX6_readNumber cX6_readNumber 3 (some .int) 2 42 [.ref (ad Γ 61), .int a1, .int a2] (gR σ r) (some (.int x.1)) (gR σ x.2) := by
  refine y_enter (by decide) hJ (Nat.le_of_ble_eq_true rfl) [(0, .ref (ad Γ 61)), (1, .int a1), (2, .int a2)] rfl ?_
  intro p e s' m args below meth c' hC hr hlk
  refine y_aload_n hC dX6_readNumber_0 0 rfl 1 rfl ?_
  obtain ⟨x1, hx1, hk⟩ := ob_bind hk
  refine y_callV hC 61 (hA 61 (by decide)) (cl_R (u := r) rfl) rfl (c_X6_step hJ hA l σ r x1 hx1) rfl ⟨w2_148, w1_12, cwd_X6_step, by decide, by decide⟩ w2_145 w2_147 ws1_9 rfl rfl (Nat.le_of_ble_eq_true rfl) (by decide) dX6_readNumber_1 4 rfl (gR σ x1) rfl [] rfl ?_
  refine y_aload_n hC dX6_readNumber_4 0 rfl 5 rfl ?_
  refine y_get hC 61 (hA 61 (by decide)) (cl_R (u := x1) rfl) rfl inU6 2 (by decide) w2_10 rfl dX6_readNumber_5 8 rfl ?_
  refine y_iconst hC dX6_readNumber_8 (v := (2 : Int32)) (by decide) 9 rfl ?_
  refine y_icmp_ne hC dX6_readNumber_9 31 (by decide) 12 rfl (fun h9 => ?_) (fun h9 => ?_)
  · have hk := ob_neg h9 hk
    refine y_iconst hC dX6_readNumber_31 (v := (-1 : Int32)) (by decide) 32 rfl ?_
    have e := Option.some.inj hk
    exact y_iret hC hr hlk (by rw [← e]) (by first | rfl | rw [← e]) dX6_readNumber_32
  · have hk := ob_pos h9 hk
    refine y_aload_n hC dX6_readNumber_12 0 rfl 13 rfl ?_
    refine y_get hC 61 (hA 61 (by decide)) (cl_R (u := x1) rfl) rfl inU6 5 (by decide) w2_13 rfl dX6_readNumber_13 16 rfl ?_
    refine y_iload_n hC dX6_readNumber_16 1 rfl 17 rfl ?_
    refine y_iload_n hC dX6_readNumber_17 2 rfl 18 rfl ?_
    obtain ⟨x18, hx18, hk⟩ := ob_bind hk
    refine y_callSN hC (c_X10_within hJ l (gR σ x1) (pR_number x1) a1 a2 x18 hx18) rfl ⟨w2_70, w1_1, cwd_X10_within, by decide, by decide⟩ w2_220 w2_69 rfl rfl (Nat.le_of_ble_eq_true rfl) (by decide) dX6_readNumber_18 21 rfl (gR σ x1) rfl [.int x18] rfl ?_
    refine y_if_eq hC dX6_readNumber_21 31 (by decide) 24 rfl (fun h21 => ?_) (fun h21 => ?_)
    · have hk := ob_pos h21 hk
      refine y_iconst hC dX6_readNumber_31 (v := (-1 : Int32)) (by decide) 32 rfl ?_
      have e := Option.some.inj hk
      exact y_iret hC hr hlk (by rw [← e]) (by first | rfl | rw [← e]) dX6_readNumber_32
    · have hk := ob_neg h21 hk
      refine y_aload_n hC dX6_readNumber_24 0 rfl 25 rfl ?_
      refine y_get hC 61 (hA 61 (by decide)) (cl_R (u := x1) rfl) rfl inU6 5 (by decide) w2_13 rfl dX6_readNumber_25 28 rfl ?_
      refine y_goto hC dX6_readNumber_28 32 (by decide) ?_
      have e := Option.some.inj hk
      exact y_iret hC hr hlk (by rw [← e]) (by first | rfl | rw [← e]) dX6_readNumber_32
def f_X6_readsStop (r : RSt) : Option (Int32 × RSt) :=
  (f_X6_step r).bind fun x1 => 
    (if (pR_token x1) = (3 : Int32) then
      (f_X6_step x1).bind fun x15 => 
        (some ((1 : Int32), x15))
    else
      some ((0 : Int32), x1))
theorem cwd_X6_readsStop : yX6_readsStop.cls ≠ "java/lang/invoke/MethodHandle" ∧ yX6_readsStop.cls ≠ "java/lang/invoke/VarHandle" ∧ (parseMethodDescriptor yX6_readsStop.desc).map (fun d => d.parameters.length) = some 0 := by decide +kernel
set_option maxHeartbeats 4000000 in
set_option maxRecDepth 100000 in
theorem c_X6_readsStop {Γ : GC} (hJ : GJ Γ) (hA : ∀ i, i < 66 → act Γ i) (l : Launch) (σ : GSt) (r : RSt) (x : Int32 × RSt) (hk : f_X6_readsStop r = some x) : Mt Γ l yX6_readsStop cX6_readsStop 1 (some .boolean) 2 42 [.ref (ad Γ 61)] (gR σ r) (some (.int x.1)) (gR σ x.2) := by
  refine y_enter (by decide) hJ (Nat.le_of_ble_eq_true rfl) [(0, .ref (ad Γ 61))] rfl ?_
  intro p e s' m args below meth c' hC hr hlk
  refine y_aload_n hC dX6_readsStop_0 0 rfl 1 rfl ?_
  obtain ⟨x1, hx1, hk⟩ := ob_bind hk
  refine y_callV hC 61 (hA 61 (by decide)) (cl_R (u := r) rfl) rfl (c_X6_step hJ hA l σ r x1 hx1) rfl ⟨w2_148, w1_12, cwd_X6_step, by decide, by decide⟩ w2_145 w2_147 ws1_9 rfl rfl (Nat.le_of_ble_eq_true rfl) (by decide) dX6_readsStop_1 4 rfl (gR σ x1) rfl [] rfl ?_
  refine y_aload_n hC dX6_readsStop_4 0 rfl 5 rfl ?_
  refine y_get hC 61 (hA 61 (by decide)) (cl_R (u := x1) rfl) rfl inU6 2 (by decide) w2_10 rfl dX6_readsStop_5 8 rfl ?_
  refine y_iconst hC dX6_readsStop_8 (v := (3 : Int32)) (by decide) 9 rfl ?_
  refine y_icmp_eq hC dX6_readsStop_9 14 (by decide) 12 rfl (fun h9 => ?_) (fun h9 => ?_)
  · have hk := ob_pos h9 hk
    refine y_aload_n hC dX6_readsStop_14 0 rfl 15 rfl ?_
    obtain ⟨x15, hx15, hk⟩ := ob_bind hk
    refine y_callV hC 61 (hA 61 (by decide)) (cl_R (u := x1) rfl) rfl (c_X6_step hJ hA l σ x1 x15 hx15) rfl ⟨w2_148, w1_12, cwd_X6_step, by decide, by decide⟩ w2_145 w2_147 ws1_9 rfl rfl (Nat.le_of_ble_eq_true rfl) (by decide) dX6_readsStop_15 18 rfl (gR σ x15) rfl [] rfl ?_
    refine y_iconst hC dX6_readsStop_18 (v := (1 : Int32)) (by decide) 19 rfl ?_
    have e := Option.some.inj hk
    exact y_zret hC hr hlk rfl (by rw [← e]) (by first | rfl | rw [← e]) dX6_readsStop_19
  · have hk := ob_neg h9 hk
    refine y_iconst hC dX6_readsStop_12 (v := (0 : Int32)) (by decide) 13 rfl ?_
    have e := Option.some.inj hk
    exact y_zret hC hr hlk rfl (by rw [← e]) (by first | rfl | rw [← e]) dX6_readsStop_13
def f_X6_readsMarket (r : RSt) (u : MSt) : Option (Int32 × RSt × MSt) :=
  (f_X6_isWord r 0).bind fun x3 => 
    (if x3 = 0 then
      some ((0 : Int32), r, u)
    else
      (f_X6_readNumber r (0 : Int32) (99 : Int32)).bind fun x15 => 
        (if 0 ≤ x15.1 then
          (f_X6_readNumber x15.2 (0 : Int32) (9 : Int32)).bind fun x29 => 
            (if x29.1 < 0 then
              some ((0 : Int32), x29.2, u)
            else
              (f_X6_readsStop x29.2).bind fun x38 => 
                (if x38.1 = 0 then
                  some ((0 : Int32), x38.2, u)
                else
                  (f_X3_startAnew u x15.1 x29.1).bind fun x49 => 
                    (some ((1 : Int32), x38.2, x49))))
        else
          some ((0 : Int32), x15.2, u)))
theorem cwd_X6_readsMarket : yX6_readsMarket.cls ≠ "java/lang/invoke/MethodHandle" ∧ yX6_readsMarket.cls ≠ "java/lang/invoke/VarHandle" ∧ (parseMethodDescriptor yX6_readsMarket.desc).map (fun d => d.parameters.length) = some 1 := by decide +kernel
set_option maxHeartbeats 4000000 in
set_option maxRecDepth 100000 in
theorem c_X6_readsMarket {Γ : GC} (hJ : GJ Γ) (hA : ∀ i, i < 66 → act Γ i) (l : Launch) (σ : GSt) (k : Nat) (hk4 : k < 4) (r : RSt) (u : MSt) (x : Int32 × RSt × MSt) (hk : f_X6_readsMarket r u = some x) : Mt Γ l yX6_readsMarket cX6_readsMarket 4 (some .boolean) 5 107 [.ref (ad Γ 61), .ref (ad Γ (10 * k))] (gR (gM k σ u) r) (some (.int x.1)) (gR (gM k σ x.2.2) x.2.1) := by
  refine y_enter (by decide) hJ (Nat.le_of_ble_eq_true rfl) [(0, .ref (ad Γ 61)), (1, .ref (ad Γ (10 * k)))] rfl ?_
  intro p e s' m args below meth c' hC hr hlk
  have hM : ∀ j, j < 10 → act Γ (10 * k + j) := fun j hj => hA _ (by omega)
  refine y_aload_n hC dX6_readsMarket_0 0 rfl 1 rfl ?_
  refine y_ldcS hC 0 (by decide) rfl dX6_readsMarket_1 3 rfl ?_
  obtain ⟨x3, hx3, hk⟩ := ob_bind hk
  refine y_callV hC 61 (hA 61 (by decide)) (cl_R (u := r) rfl) rfl (c_X6_isWord hJ hA l (gM k σ u) r 0 (by decide) x3 hx3) rfl ⟨w2_167, w1_12, cwd_X6_isWord, by decide, by decide⟩ w2_164 w2_166 ws1_12 rfl rfl (Nat.le_of_ble_eq_true rfl) (by decide) dX6_readsMarket_3 6 rfl (gR (gM k σ u) r) rfl [.int x3] rfl ?_
  refine y_if_ne hC dX6_readsMarket_6 11 (by decide) 9 rfl (fun h6 => ?_) (fun h6 => ?_)
  · have hk := ob_neg h6 hk
    refine y_aload_n hC dX6_readsMarket_11 0 rfl 12 rfl ?_
    refine y_iconst hC dX6_readsMarket_12 (v := (0 : Int32)) (by decide) 13 rfl ?_
    refine y_bipush hC dX6_readsMarket_13 (v := (99 : Int32)) (by decide) 15 rfl ?_
    obtain ⟨x15, hx15, hk⟩ := ob_bind hk
    refine y_callV hC 61 (hA 61 (by decide)) (cl_R (u := r) rfl) rfl (c_X6_readNumber hJ hA l (gM k σ u) r (0 : Int32) (99 : Int32) x15 hx15) rfl ⟨w2_219, w1_12, cwd_X6_readNumber, by decide, by decide⟩ w2_216 w2_218 ws1_13 rfl rfl (Nat.le_of_ble_eq_true rfl) (by decide) dX6_readsMarket_15 18 rfl (gR (gM k σ u) x15.2) rfl [.int x15.1] rfl ?_
    refine y_istore_n hC dX6_readsMarket_18 (by decide) [(2, .int x15.1), (0, .ref (ad Γ 61)), (1, .ref (ad Γ (10 * k)))] rfl 19 rfl ?_
    refine y_iload_n hC dX6_readsMarket_19 0 rfl 20 rfl ?_
    refine y_if_ge hC dX6_readsMarket_20 25 (by decide) 23 rfl (fun h20 => ?_) (fun h20 => ?_)
    · have hk := ob_pos h20 hk
      refine y_aload_n hC dX6_readsMarket_25 1 rfl 26 rfl ?_
      refine y_iconst hC dX6_readsMarket_26 (v := (0 : Int32)) (by decide) 27 rfl ?_
      refine y_bipush hC dX6_readsMarket_27 (v := (9 : Int32)) (by decide) 29 rfl ?_
      obtain ⟨x29, hx29, hk⟩ := ob_bind hk
      refine y_callV hC 61 (hA 61 (by decide)) (cl_R (u := x15.2) rfl) rfl (c_X6_readNumber hJ hA l (gM k σ u) x15.2 (0 : Int32) (9 : Int32) x29 hx29) rfl ⟨w2_219, w1_12, cwd_X6_readNumber, by decide, by decide⟩ w2_216 w2_218 ws1_13 rfl rfl (Nat.le_of_ble_eq_true rfl) (by decide) dX6_readsMarket_29 32 rfl (gR (gM k σ u) x29.2) rfl [.int x29.1] rfl ?_
      refine y_istore_n hC dX6_readsMarket_32 (by decide) [(3, .int x29.1), (2, .int x15.1), (0, .ref (ad Γ 61)), (1, .ref (ad Γ (10 * k)))] rfl 33 rfl ?_
      refine y_iload_n hC dX6_readsMarket_33 0 rfl 34 rfl ?_
      refine y_if_lt hC dX6_readsMarket_34 44 (by decide) 37 rfl (fun h34 => ?_) (fun h34 => ?_)
      · have hk := ob_pos h34 hk
        refine y_iconst hC dX6_readsMarket_44 (v := (0 : Int32)) (by decide) 45 rfl ?_
        have e := Option.some.inj hk
        exact y_zret hC hr hlk rfl (by rw [← e]) (by first | rfl | rw [← e]) dX6_readsMarket_45
      · have hk := ob_neg h34 hk
        refine y_aload_n hC dX6_readsMarket_37 2 rfl 38 rfl ?_
        obtain ⟨x38, hx38, hk⟩ := ob_bind hk
        refine y_callV hC 61 (hA 61 (by decide)) (cl_R (u := x29.2) rfl) rfl (c_X6_readsStop hJ hA l (gM k σ u) x29.2 x38 hx38) rfl ⟨w2_224, w1_12, cwd_X6_readsStop, by decide, by decide⟩ w2_221 w2_223 ws1_14 rfl rfl (Nat.le_of_ble_eq_true rfl) (by decide) dX6_readsMarket_38 41 rfl (gR (gM k σ u) x38.2) rfl [.int x38.1] rfl ?_
        refine y_if_ne hC dX6_readsMarket_41 46 (by decide) 44 rfl (fun h41 => ?_) (fun h41 => ?_)
        · have hk := ob_neg h41 hk
          refine y_aload_n hC dX6_readsMarket_46 3 rfl 47 rfl ?_
          refine y_iload_n hC dX6_readsMarket_47 1 rfl 48 rfl ?_
          refine y_iload_n hC dX6_readsMarket_48 0 rfl 49 rfl ?_
          obtain ⟨x49, hx49, hk⟩ := ob_bind hk
          refine y_callVN hC (10 * k) (hM 0 (by decide)) (cl_M (k := k) (mm := σ.1.2.1) (u := u) hk4 rfl) rfl (c_X3_startAnew hJ hA l (gR σ x38.2) k hk4 u x15.1 x29.1 x49 hx49) rfl ⟨w2_78, w1_2, cwd_X3_startAnew, by decide, by decide⟩ w2_225 w2_77 ws1_1 rfl rfl (Nat.le_of_ble_eq_true rfl) (by decide) dX6_readsMarket_49 52 rfl (gR (gM k σ x49) x38.2) rfl [] rfl ?_
          refine y_iconst hC dX6_readsMarket_52 (v := (1 : Int32)) (by decide) 53 rfl ?_
          have e := Option.some.inj hk
          exact y_zret hC hr hlk rfl (by rw [← e]) (by first | rfl | rw [← e]) dX6_readsMarket_53
        · have hk := ob_pos h41 hk
          refine y_iconst hC dX6_readsMarket_44 (v := (0 : Int32)) (by decide) 45 rfl ?_
          have e := Option.some.inj hk
          exact y_zret hC hr hlk rfl (by rw [← e]) (by first | rfl | rw [← e]) dX6_readsMarket_45
    · have hk := ob_neg h20 hk
      refine y_iconst hC dX6_readsMarket_23 (v := (0 : Int32)) (by decide) 24 rfl ?_
      have e := Option.some.inj hk
      exact y_zret hC hr hlk rfl (by rw [← e]) (by first | rfl | rw [← e]) dX6_readsMarket_24
  · have hk := ob_pos h6 hk
    refine y_iconst hC dX6_readsMarket_9 (v := (0 : Int32)) (by decide) 10 rfl ?_
    have e := Option.some.inj hk
    exact y_zret hC hr hlk rfl (by rw [← e]) (by first | rfl | rw [← e]) dX6_readsMarket_10
def f_X6_readsPrice (r : RSt) (u : MSt) : Option (Int32 × RSt × MSt) :=
  (f_X6_readNumber r (0 : Int32) (9 : Int32)).bind fun x4 => 
    (if 0 ≤ x4.1 then
      (f_X6_readNumber x4.2 (0 : Int32) (99 : Int32)).bind fun x18 => 
        (if x18.1 < 0 then
          some ((0 : Int32), x18.2, u)
        else
          (f_X6_readsStop x18.2).bind fun x27 => 
            (if x27.1 = 0 then
              some ((0 : Int32), x27.2, u)
            else
              (f_X3_setPricesFrom u x4.1 x18.1).bind fun x38 => 
                (some ((1 : Int32), x27.2, x38))))
    else
      some ((0 : Int32), x4.2, u))
theorem cwd_X6_readsPrice : yX6_readsPrice.cls ≠ "java/lang/invoke/MethodHandle" ∧ yX6_readsPrice.cls ≠ "java/lang/invoke/VarHandle" ∧ (parseMethodDescriptor yX6_readsPrice.desc).map (fun d => d.parameters.length) = some 1 := by decide +kernel
set_option maxHeartbeats 4000000 in
set_option maxRecDepth 100000 in
theorem c_X6_readsPrice {Γ : GC} (hJ : GJ Γ) (hA : ∀ i, i < 66 → act Γ i) (l : Launch) (σ : GSt) (k : Nat) (hk4 : k < 4) (r : RSt) (u : MSt) (x : Int32 × RSt × MSt) (hk : f_X6_readsPrice r u = some x) : Mt Γ l yX6_readsPrice cX6_readsPrice 4 (some .boolean) 3 64 [.ref (ad Γ 61), .ref (ad Γ (10 * k))] (gR (gM k σ u) r) (some (.int x.1)) (gR (gM k σ x.2.2) x.2.1) := by
  refine y_enter (by decide) hJ (Nat.le_of_ble_eq_true rfl) [(0, .ref (ad Γ 61)), (1, .ref (ad Γ (10 * k)))] rfl ?_
  intro p e s' m args below meth c' hC hr hlk
  have hM : ∀ j, j < 10 → act Γ (10 * k + j) := fun j hj => hA _ (by omega)
  refine y_aload_n hC dX6_readsPrice_0 0 rfl 1 rfl ?_
  refine y_iconst hC dX6_readsPrice_1 (v := (0 : Int32)) (by decide) 2 rfl ?_
  refine y_bipush hC dX6_readsPrice_2 (v := (9 : Int32)) (by decide) 4 rfl ?_
  obtain ⟨x4, hx4, hk⟩ := ob_bind hk
  refine y_callV hC 61 (hA 61 (by decide)) (cl_R (u := r) rfl) rfl (c_X6_readNumber hJ hA l (gM k σ u) r (0 : Int32) (9 : Int32) x4 hx4) rfl ⟨w2_219, w1_12, cwd_X6_readNumber, by decide, by decide⟩ w2_216 w2_218 ws1_13 rfl rfl (Nat.le_of_ble_eq_true rfl) (by decide) dX6_readsPrice_4 7 rfl (gR (gM k σ u) x4.2) rfl [.int x4.1] rfl ?_
  refine y_istore_n hC dX6_readsPrice_7 (by decide) [(2, .int x4.1), (0, .ref (ad Γ 61)), (1, .ref (ad Γ (10 * k)))] rfl 8 rfl ?_
  refine y_iload_n hC dX6_readsPrice_8 0 rfl 9 rfl ?_
  refine y_if_ge hC dX6_readsPrice_9 14 (by decide) 12 rfl (fun h9 => ?_) (fun h9 => ?_)
  · have hk := ob_pos h9 hk
    refine y_aload_n hC dX6_readsPrice_14 1 rfl 15 rfl ?_
    refine y_iconst hC dX6_readsPrice_15 (v := (0 : Int32)) (by decide) 16 rfl ?_
    refine y_bipush hC dX6_readsPrice_16 (v := (99 : Int32)) (by decide) 18 rfl ?_
    obtain ⟨x18, hx18, hk⟩ := ob_bind hk
    refine y_callV hC 61 (hA 61 (by decide)) (cl_R (u := x4.2) rfl) rfl (c_X6_readNumber hJ hA l (gM k σ u) x4.2 (0 : Int32) (99 : Int32) x18 hx18) rfl ⟨w2_219, w1_12, cwd_X6_readNumber, by decide, by decide⟩ w2_216 w2_218 ws1_13 rfl rfl (Nat.le_of_ble_eq_true rfl) (by decide) dX6_readsPrice_18 21 rfl (gR (gM k σ u) x18.2) rfl [.int x18.1] rfl ?_
    refine y_istore_n hC dX6_readsPrice_21 (by decide) [(3, .int x18.1), (2, .int x4.1), (0, .ref (ad Γ 61)), (1, .ref (ad Γ (10 * k)))] rfl 22 rfl ?_
    refine y_iload_n hC dX6_readsPrice_22 0 rfl 23 rfl ?_
    refine y_if_lt hC dX6_readsPrice_23 33 (by decide) 26 rfl (fun h23 => ?_) (fun h23 => ?_)
    · have hk := ob_pos h23 hk
      refine y_iconst hC dX6_readsPrice_33 (v := (0 : Int32)) (by decide) 34 rfl ?_
      have e := Option.some.inj hk
      exact y_zret hC hr hlk rfl (by rw [← e]) (by first | rfl | rw [← e]) dX6_readsPrice_34
    · have hk := ob_neg h23 hk
      refine y_aload_n hC dX6_readsPrice_26 2 rfl 27 rfl ?_
      obtain ⟨x27, hx27, hk⟩ := ob_bind hk
      refine y_callV hC 61 (hA 61 (by decide)) (cl_R (u := x18.2) rfl) rfl (c_X6_readsStop hJ hA l (gM k σ u) x18.2 x27 hx27) rfl ⟨w2_224, w1_12, cwd_X6_readsStop, by decide, by decide⟩ w2_221 w2_223 ws1_14 rfl rfl (Nat.le_of_ble_eq_true rfl) (by decide) dX6_readsPrice_27 30 rfl (gR (gM k σ u) x27.2) rfl [.int x27.1] rfl ?_
      refine y_if_ne hC dX6_readsPrice_30 35 (by decide) 33 rfl (fun h30 => ?_) (fun h30 => ?_)
      · have hk := ob_neg h30 hk
        refine y_aload_n hC dX6_readsPrice_35 3 rfl 36 rfl ?_
        refine y_iload_n hC dX6_readsPrice_36 1 rfl 37 rfl ?_
        refine y_iload_n hC dX6_readsPrice_37 0 rfl 38 rfl ?_
        obtain ⟨x38, hx38, hk⟩ := ob_bind hk
        refine y_callVN hC (10 * k) (hM 0 (by decide)) (cl_M (k := k) (mm := σ.1.2.1) (u := u) hk4 rfl) rfl (c_X3_setPricesFrom hJ hA l (gR σ x27.2) k hk4 u x4.1 x18.1 x38 hx38) rfl ⟨w2_97, w1_2, cwd_X3_setPricesFrom, by decide, by decide⟩ w2_235 w2_96 ws1_3 rfl rfl (Nat.le_of_ble_eq_true rfl) (by decide) dX6_readsPrice_38 41 rfl (gR (gM k σ x38) x27.2) rfl [] rfl ?_
        refine y_iconst hC dX6_readsPrice_41 (v := (1 : Int32)) (by decide) 42 rfl ?_
        have e := Option.some.inj hk
        exact y_zret hC hr hlk rfl (by rw [← e]) (by first | rfl | rw [← e]) dX6_readsPrice_42
      · have hk := ob_pos h30 hk
        refine y_iconst hC dX6_readsPrice_33 (v := (0 : Int32)) (by decide) 34 rfl ?_
        have e := Option.some.inj hk
        exact y_zret hC hr hlk rfl (by rw [← e]) (by first | rfl | rw [← e]) dX6_readsPrice_34
  · have hk := ob_neg h9 hk
    refine y_iconst hC dX6_readsPrice_12 (v := (0 : Int32)) (by decide) 13 rfl ?_
    have e := Option.some.inj hk
    exact y_zret hC hr hlk rfl (by rw [← e]) (by first | rfl | rw [← e]) dX6_readsPrice_13
def f_X6_readsTheirs (r : RSt) (u : MSt) : Option (Int32 × RSt × MSt) :=
  (f_X6_readNumber r (0 : Int32) (9 : Int32)).bind fun x4 => 
    (if 0 ≤ x4.1 then
      (f_X6_readNumber x4.2 (0 : Int32) (99 : Int32)).bind fun x18 => 
        (if x18.1 < 0 then
          some ((0 : Int32), x18.2, u)
        else
          (f_X6_readsStop x18.2).bind fun x27 => 
            (if x27.1 = 0 then
              some ((0 : Int32), x27.2, u)
            else
              (f_X3_setTheirPrice u x4.1 x18.1).bind fun x38 => 
                (some ((1 : Int32), x27.2, x38))))
    else
      some ((0 : Int32), x4.2, u))
theorem cwd_X6_readsTheirs : yX6_readsTheirs.cls ≠ "java/lang/invoke/MethodHandle" ∧ yX6_readsTheirs.cls ≠ "java/lang/invoke/VarHandle" ∧ (parseMethodDescriptor yX6_readsTheirs.desc).map (fun d => d.parameters.length) = some 1 := by decide +kernel
set_option maxHeartbeats 4000000 in
set_option maxRecDepth 100000 in
theorem c_X6_readsTheirs {Γ : GC} (hJ : GJ Γ) (hA : ∀ i, i < 66 → act Γ i) (l : Launch) (σ : GSt) (k : Nat) (hk4 : k < 4) (r : RSt) (u : MSt) (x : Int32 × RSt × MSt) (hk : f_X6_readsTheirs r u = some x) : Mt Γ l yX6_readsTheirs cX6_readsTheirs 4 (some .boolean) 3 64 [.ref (ad Γ 61), .ref (ad Γ (10 * k))] (gR (gM k σ u) r) (some (.int x.1)) (gR (gM k σ x.2.2) x.2.1) := by
  refine y_enter (by decide) hJ (Nat.le_of_ble_eq_true rfl) [(0, .ref (ad Γ 61)), (1, .ref (ad Γ (10 * k)))] rfl ?_
  intro p e s' m args below meth c' hC hr hlk
  have hM : ∀ j, j < 10 → act Γ (10 * k + j) := fun j hj => hA _ (by omega)
  refine y_aload_n hC dX6_readsTheirs_0 0 rfl 1 rfl ?_
  refine y_iconst hC dX6_readsTheirs_1 (v := (0 : Int32)) (by decide) 2 rfl ?_
  refine y_bipush hC dX6_readsTheirs_2 (v := (9 : Int32)) (by decide) 4 rfl ?_
  obtain ⟨x4, hx4, hk⟩ := ob_bind hk
  refine y_callV hC 61 (hA 61 (by decide)) (cl_R (u := r) rfl) rfl (c_X6_readNumber hJ hA l (gM k σ u) r (0 : Int32) (9 : Int32) x4 hx4) rfl ⟨w2_219, w1_12, cwd_X6_readNumber, by decide, by decide⟩ w2_216 w2_218 ws1_13 rfl rfl (Nat.le_of_ble_eq_true rfl) (by decide) dX6_readsTheirs_4 7 rfl (gR (gM k σ u) x4.2) rfl [.int x4.1] rfl ?_
  refine y_istore_n hC dX6_readsTheirs_7 (by decide) [(2, .int x4.1), (0, .ref (ad Γ 61)), (1, .ref (ad Γ (10 * k)))] rfl 8 rfl ?_
  refine y_iload_n hC dX6_readsTheirs_8 0 rfl 9 rfl ?_
  refine y_if_ge hC dX6_readsTheirs_9 14 (by decide) 12 rfl (fun h9 => ?_) (fun h9 => ?_)
  · have hk := ob_pos h9 hk
    refine y_aload_n hC dX6_readsTheirs_14 1 rfl 15 rfl ?_
    refine y_iconst hC dX6_readsTheirs_15 (v := (0 : Int32)) (by decide) 16 rfl ?_
    refine y_bipush hC dX6_readsTheirs_16 (v := (99 : Int32)) (by decide) 18 rfl ?_
    obtain ⟨x18, hx18, hk⟩ := ob_bind hk
    refine y_callV hC 61 (hA 61 (by decide)) (cl_R (u := x4.2) rfl) rfl (c_X6_readNumber hJ hA l (gM k σ u) x4.2 (0 : Int32) (99 : Int32) x18 hx18) rfl ⟨w2_219, w1_12, cwd_X6_readNumber, by decide, by decide⟩ w2_216 w2_218 ws1_13 rfl rfl (Nat.le_of_ble_eq_true rfl) (by decide) dX6_readsTheirs_18 21 rfl (gR (gM k σ u) x18.2) rfl [.int x18.1] rfl ?_
    refine y_istore_n hC dX6_readsTheirs_21 (by decide) [(3, .int x18.1), (2, .int x4.1), (0, .ref (ad Γ 61)), (1, .ref (ad Γ (10 * k)))] rfl 22 rfl ?_
    refine y_iload_n hC dX6_readsTheirs_22 0 rfl 23 rfl ?_
    refine y_if_lt hC dX6_readsTheirs_23 33 (by decide) 26 rfl (fun h23 => ?_) (fun h23 => ?_)
    · have hk := ob_pos h23 hk
      refine y_iconst hC dX6_readsTheirs_33 (v := (0 : Int32)) (by decide) 34 rfl ?_
      have e := Option.some.inj hk
      exact y_zret hC hr hlk rfl (by rw [← e]) (by first | rfl | rw [← e]) dX6_readsTheirs_34
    · have hk := ob_neg h23 hk
      refine y_aload_n hC dX6_readsTheirs_26 2 rfl 27 rfl ?_
      obtain ⟨x27, hx27, hk⟩ := ob_bind hk
      refine y_callV hC 61 (hA 61 (by decide)) (cl_R (u := x18.2) rfl) rfl (c_X6_readsStop hJ hA l (gM k σ u) x18.2 x27 hx27) rfl ⟨w2_224, w1_12, cwd_X6_readsStop, by decide, by decide⟩ w2_221 w2_223 ws1_14 rfl rfl (Nat.le_of_ble_eq_true rfl) (by decide) dX6_readsTheirs_27 30 rfl (gR (gM k σ u) x27.2) rfl [.int x27.1] rfl ?_
      refine y_if_ne hC dX6_readsTheirs_30 35 (by decide) 33 rfl (fun h30 => ?_) (fun h30 => ?_)
      · have hk := ob_neg h30 hk
        refine y_aload_n hC dX6_readsTheirs_35 3 rfl 36 rfl ?_
        refine y_iload_n hC dX6_readsTheirs_36 1 rfl 37 rfl ?_
        refine y_iload_n hC dX6_readsTheirs_37 0 rfl 38 rfl ?_
        obtain ⟨x38, hx38, hk⟩ := ob_bind hk
        refine y_callVN hC (10 * k) (hM 0 (by decide)) (cl_M (k := k) (mm := σ.1.2.1) (u := u) hk4 rfl) rfl (c_X3_setTheirPrice hJ hA l (gR σ x27.2) k hk4 u x4.1 x18.1 x38 hx38) rfl ⟨w2_112, w1_2, cwd_X3_setTheirPrice, by decide, by decide⟩ w3_1 w2_111 ws1_5 rfl rfl (Nat.le_of_ble_eq_true rfl) (by decide) dX6_readsTheirs_38 41 rfl (gR (gM k σ x38) x27.2) rfl [] rfl ?_
        refine y_iconst hC dX6_readsTheirs_41 (v := (1 : Int32)) (by decide) 42 rfl ?_
        have e := Option.some.inj hk
        exact y_zret hC hr hlk rfl (by rw [← e]) (by first | rfl | rw [← e]) dX6_readsTheirs_42
      · have hk := ob_pos h30 hk
        refine y_iconst hC dX6_readsTheirs_33 (v := (0 : Int32)) (by decide) 34 rfl ?_
        have e := Option.some.inj hk
        exact y_zret hC hr hlk rfl (by rw [← e]) (by first | rfl | rw [← e]) dX6_readsTheirs_34
  · have hk := ob_neg h9 hk
    refine y_iconst hC dX6_readsTheirs_12 (v := (0 : Int32)) (by decide) 13 rfl ?_
    have e := Option.some.inj hk
    exact y_zret hC hr hlk rfl (by rw [← e]) (by first | rfl | rw [← e]) dX6_readsTheirs_13
def f_X6_readsRain (r : RSt) (u : MSt) : Option (Int32 × RSt × MSt) :=
  (f_X6_readNumber r (0 : Int32) (9 : Int32)).bind fun x4 => 
    (if x4.1 < 0 then
      some ((0 : Int32), x4.2, u)
    else
      (f_X6_readsStop x4.2).bind fun x13 => 
        (if x13.1 = 0 then
          some ((0 : Int32), x13.2, u)
        else
          lt (sM_rainHours u ((pM_rainHours u) ||| ((1 : Int32) <<< (x4.1 &&& 31)))) fun g30 => 
            (some ((1 : Int32), x13.2, g30))))
theorem cwd_X6_readsRain : yX6_readsRain.cls ≠ "java/lang/invoke/MethodHandle" ∧ yX6_readsRain.cls ≠ "java/lang/invoke/VarHandle" ∧ (parseMethodDescriptor yX6_readsRain.desc).map (fun d => d.parameters.length) = some 1 := by decide +kernel
set_option maxHeartbeats 4000000 in
set_option maxRecDepth 100000 in
theorem c_X6_readsRain {Γ : GC} (hJ : GJ Γ) (hA : ∀ i, i < 66 → act Γ i) (l : Launch) (σ : GSt) (k : Nat) (hk4 : k < 4) (r : RSt) (u : MSt) (x : Int32 × RSt × MSt) (hk : f_X6_readsRain r u = some x) : Mt Γ l yX6_readsRain cX6_readsRain 3 (some .boolean) 3 64 [.ref (ad Γ 61), .ref (ad Γ (10 * k))] (gR (gM k σ u) r) (some (.int x.1)) (gR (gM k σ x.2.2) x.2.1) := by
  refine y_enter (by decide) hJ (Nat.le_of_ble_eq_true rfl) [(0, .ref (ad Γ 61)), (1, .ref (ad Γ (10 * k)))] rfl ?_
  intro p e s' m args below meth c' hC hr hlk
  have hM : ∀ j, j < 10 → act Γ (10 * k + j) := fun j hj => hA _ (by omega)
  refine y_aload_n hC dX6_readsRain_0 0 rfl 1 rfl ?_
  refine y_iconst hC dX6_readsRain_1 (v := (0 : Int32)) (by decide) 2 rfl ?_
  refine y_bipush hC dX6_readsRain_2 (v := (9 : Int32)) (by decide) 4 rfl ?_
  obtain ⟨x4, hx4, hk⟩ := ob_bind hk
  refine y_callV hC 61 (hA 61 (by decide)) (cl_R (u := r) rfl) rfl (c_X6_readNumber hJ hA l (gM k σ u) r (0 : Int32) (9 : Int32) x4 hx4) rfl ⟨w2_219, w1_12, cwd_X6_readNumber, by decide, by decide⟩ w2_216 w2_218 ws1_13 rfl rfl (Nat.le_of_ble_eq_true rfl) (by decide) dX6_readsRain_4 7 rfl (gR (gM k σ u) x4.2) rfl [.int x4.1] rfl ?_
  refine y_istore_n hC dX6_readsRain_7 (by decide) [(2, .int x4.1), (0, .ref (ad Γ 61)), (1, .ref (ad Γ (10 * k)))] rfl 8 rfl ?_
  refine y_iload_n hC dX6_readsRain_8 0 rfl 9 rfl ?_
  refine y_if_lt hC dX6_readsRain_9 19 (by decide) 12 rfl (fun h9 => ?_) (fun h9 => ?_)
  · have hk := ob_pos h9 hk
    refine y_iconst hC dX6_readsRain_19 (v := (0 : Int32)) (by decide) 20 rfl ?_
    have e := Option.some.inj hk
    exact y_zret hC hr hlk rfl (by rw [← e]) (by first | rfl | rw [← e]) dX6_readsRain_20
  · have hk := ob_neg h9 hk
    refine y_aload_n hC dX6_readsRain_12 1 rfl 13 rfl ?_
    obtain ⟨x13, hx13, hk⟩ := ob_bind hk
    refine y_callV hC 61 (hA 61 (by decide)) (cl_R (u := x4.2) rfl) rfl (c_X6_readsStop hJ hA l (gM k σ u) x4.2 x13 hx13) rfl ⟨w2_224, w1_12, cwd_X6_readsStop, by decide, by decide⟩ w2_221 w2_223 ws1_14 rfl rfl (Nat.le_of_ble_eq_true rfl) (by decide) dX6_readsRain_13 16 rfl (gR (gM k σ u) x13.2) rfl [.int x13.1] rfl ?_
    refine y_if_ne hC dX6_readsRain_16 21 (by decide) 19 rfl (fun h16 => ?_) (fun h16 => ?_)
    · have hk := ob_neg h16 hk
      refine y_aload_n hC dX6_readsRain_21 2 rfl 22 rfl ?_
      refine y_dup hC dX6_readsRain_22 rfl 23 rfl ?_
      refine y_getN hC (10 * k) (hM 0 (by decide)) (cl_M (k := k) (mm := σ.1.2.1) (u := u) hk4 rfl) rfl inU3 2 (by decide) w1_46 rfl dX6_readsRain_23 26 rfl ?_
      refine y_iconst hC dX6_readsRain_26 (v := (1 : Int32)) (by decide) 27 rfl ?_
      refine y_iload_n hC dX6_readsRain_27 0 rfl 28 rfl ?_
      refine y_ishl hC dX6_readsRain_28 29 rfl ?_
      refine y_ior hC dX6_readsRain_29 30 rfl ?_
      obtain ⟨g30, eg30, hk⟩ := ob_lt hk
      refine y_putN hC (10 * k) (hM 0 (by decide)) (cl_M (k := k) (mm := σ.1.2.1) (u := u) hk4 rfl) rfl inU3 tyX3_ok nmX3 2 (by decide) w1_46 rfl rfl rfl rfl (Nat.le_of_ble_eq_true rfl) (gR (gM k σ g30) x13.2) (by subst eg30; exact (cu_M_rainHours (v := ((pM_rainHours u) ||| ((1 : Int32) <<< (x4.1 &&& 31)))) (k := k) (mm := σ.1.2.1) (u := u) hk4 rfl rfl)) dX6_readsRain_30 33 rfl ?_
      refine y_iconst hC dX6_readsRain_33 (v := (1 : Int32)) (by decide) 34 rfl ?_
      have e := Option.some.inj hk
      exact y_zret hC hr hlk rfl (by rw [← e]) (by first | rfl | rw [← e]) dX6_readsRain_34
    · have hk := ob_pos h16 hk
      refine y_iconst hC dX6_readsRain_19 (v := (0 : Int32)) (by decide) 20 rfl ?_
      have e := Option.some.inj hk
      exact y_zret hC hr hlk rfl (by rw [← e]) (by first | rfl | rw [← e]) dX6_readsRain_20
def f_X6_readsBuyer (r : RSt) (u : MSt) : Option (Int32 × RSt × MSt) :=
  (f_X6_readNumber r (0 : Int32) (5 : Int32)).bind fun x3 => 
    (if 0 ≤ x3.1 then
      (f_X6_readNumber x3.2 (0 : Int32) (9 : Int32)).bind fun x17 => 
        (if 0 ≤ x17.1 then
          (f_X6_readNumber x17.2 (0 : Int32) (99 : Int32)).bind fun x31 => 
            (if 0 ≤ x31.1 then
              (f_X6_readNumber x31.2 (1 : Int32) (3 : Int32)).bind fun x46 => 
                (if x46.1 < 0 then
                  some ((0 : Int32), x46.2, u)
                else
                  (f_X6_readsStop x46.2).bind fun x57 => 
                    (if x57.1 = 0 then
                      some ((0 : Int32), x57.2, u)
                    else
                      (f_X3_addBuyer u x3.1 x17.1 x31.1 x46.1).bind fun x72 => 
                        (some ((1 : Int32), x57.2, x72))))
            else
              some ((0 : Int32), x31.2, u))
        else
          some ((0 : Int32), x17.2, u))
    else
      some ((0 : Int32), x3.2, u))
theorem cwd_X6_readsBuyer : yX6_readsBuyer.cls ≠ "java/lang/invoke/MethodHandle" ∧ yX6_readsBuyer.cls ≠ "java/lang/invoke/VarHandle" ∧ (parseMethodDescriptor yX6_readsBuyer.desc).map (fun d => d.parameters.length) = some 1 := by decide +kernel
set_option maxHeartbeats 4000000 in
set_option maxRecDepth 100000 in
theorem c_X6_readsBuyer {Γ : GC} (hJ : GJ Γ) (hA : ∀ i, i < 66 → act Γ i) (l : Launch) (σ : GSt) (k : Nat) (hk4 : k < 4) (r : RSt) (u : MSt) (x : Int32 × RSt × MSt) (hk : f_X6_readsBuyer r u = some x) : Mt Γ l yX6_readsBuyer cX6_readsBuyer 6 (some .boolean) 3 64 [.ref (ad Γ 61), .ref (ad Γ (10 * k))] (gR (gM k σ u) r) (some (.int x.1)) (gR (gM k σ x.2.2) x.2.1) := by
  refine y_enter (by decide) hJ (Nat.le_of_ble_eq_true rfl) [(0, .ref (ad Γ 61)), (1, .ref (ad Γ (10 * k)))] rfl ?_
  intro p e s' m args below meth c' hC hr hlk
  have hM : ∀ j, j < 10 → act Γ (10 * k + j) := fun j hj => hA _ (by omega)
  refine y_aload_n hC dX6_readsBuyer_0 0 rfl 1 rfl ?_
  refine y_iconst hC dX6_readsBuyer_1 (v := (0 : Int32)) (by decide) 2 rfl ?_
  refine y_iconst hC dX6_readsBuyer_2 (v := (5 : Int32)) (by decide) 3 rfl ?_
  obtain ⟨x3, hx3, hk⟩ := ob_bind hk
  refine y_callV hC 61 (hA 61 (by decide)) (cl_R (u := r) rfl) rfl (c_X6_readNumber hJ hA l (gM k σ u) r (0 : Int32) (5 : Int32) x3 hx3) rfl ⟨w2_219, w1_12, cwd_X6_readNumber, by decide, by decide⟩ w2_216 w2_218 ws1_13 rfl rfl (Nat.le_of_ble_eq_true rfl) (by decide) dX6_readsBuyer_3 6 rfl (gR (gM k σ u) x3.2) rfl [.int x3.1] rfl ?_
  refine y_istore_n hC dX6_readsBuyer_6 (by decide) [(2, .int x3.1), (0, .ref (ad Γ 61)), (1, .ref (ad Γ (10 * k)))] rfl 7 rfl ?_
  refine y_iload_n hC dX6_readsBuyer_7 0 rfl 8 rfl ?_
  refine y_if_ge hC dX6_readsBuyer_8 13 (by decide) 11 rfl (fun h8 => ?_) (fun h8 => ?_)
  · have hk := ob_pos h8 hk
    refine y_aload_n hC dX6_readsBuyer_13 1 rfl 14 rfl ?_
    refine y_iconst hC dX6_readsBuyer_14 (v := (0 : Int32)) (by decide) 15 rfl ?_
    refine y_bipush hC dX6_readsBuyer_15 (v := (9 : Int32)) (by decide) 17 rfl ?_
    obtain ⟨x17, hx17, hk⟩ := ob_bind hk
    refine y_callV hC 61 (hA 61 (by decide)) (cl_R (u := x3.2) rfl) rfl (c_X6_readNumber hJ hA l (gM k σ u) x3.2 (0 : Int32) (9 : Int32) x17 hx17) rfl ⟨w2_219, w1_12, cwd_X6_readNumber, by decide, by decide⟩ w2_216 w2_218 ws1_13 rfl rfl (Nat.le_of_ble_eq_true rfl) (by decide) dX6_readsBuyer_17 20 rfl (gR (gM k σ u) x17.2) rfl [.int x17.1] rfl ?_
    refine y_istore_n hC dX6_readsBuyer_20 (by decide) [(3, .int x17.1), (2, .int x3.1), (0, .ref (ad Γ 61)), (1, .ref (ad Γ (10 * k)))] rfl 21 rfl ?_
    refine y_iload_n hC dX6_readsBuyer_21 0 rfl 22 rfl ?_
    refine y_if_ge hC dX6_readsBuyer_22 27 (by decide) 25 rfl (fun h22 => ?_) (fun h22 => ?_)
    · have hk := ob_pos h22 hk
      refine y_aload_n hC dX6_readsBuyer_27 2 rfl 28 rfl ?_
      refine y_iconst hC dX6_readsBuyer_28 (v := (0 : Int32)) (by decide) 29 rfl ?_
      refine y_bipush hC dX6_readsBuyer_29 (v := (99 : Int32)) (by decide) 31 rfl ?_
      obtain ⟨x31, hx31, hk⟩ := ob_bind hk
      refine y_callV hC 61 (hA 61 (by decide)) (cl_R (u := x17.2) rfl) rfl (c_X6_readNumber hJ hA l (gM k σ u) x17.2 (0 : Int32) (99 : Int32) x31 hx31) rfl ⟨w2_219, w1_12, cwd_X6_readNumber, by decide, by decide⟩ w2_216 w2_218 ws1_13 rfl rfl (Nat.le_of_ble_eq_true rfl) (by decide) dX6_readsBuyer_31 34 rfl (gR (gM k σ u) x31.2) rfl [.int x31.1] rfl ?_
      refine y_istore hC dX6_readsBuyer_34 (by decide) [(4, .int x31.1), (3, .int x17.1), (2, .int x3.1), (0, .ref (ad Γ 61)), (1, .ref (ad Γ (10 * k)))] rfl 36 rfl ?_
      refine y_iload hC dX6_readsBuyer_36 0 rfl 38 rfl ?_
      refine y_if_ge hC dX6_readsBuyer_38 43 (by decide) 41 rfl (fun h38 => ?_) (fun h38 => ?_)
      · have hk := ob_pos h38 hk
        refine y_aload_n hC dX6_readsBuyer_43 3 rfl 44 rfl ?_
        refine y_iconst hC dX6_readsBuyer_44 (v := (1 : Int32)) (by decide) 45 rfl ?_
        refine y_iconst hC dX6_readsBuyer_45 (v := (3 : Int32)) (by decide) 46 rfl ?_
        obtain ⟨x46, hx46, hk⟩ := ob_bind hk
        refine y_callV hC 61 (hA 61 (by decide)) (cl_R (u := x31.2) rfl) rfl (c_X6_readNumber hJ hA l (gM k σ u) x31.2 (1 : Int32) (3 : Int32) x46 hx46) rfl ⟨w2_219, w1_12, cwd_X6_readNumber, by decide, by decide⟩ w2_216 w2_218 ws1_13 rfl rfl (Nat.le_of_ble_eq_true rfl) (by decide) dX6_readsBuyer_46 49 rfl (gR (gM k σ u) x46.2) rfl [.int x46.1] rfl ?_
        refine y_istore hC dX6_readsBuyer_49 (by decide) [(5, .int x46.1), (4, .int x31.1), (3, .int x17.1), (2, .int x3.1), (0, .ref (ad Γ 61)), (1, .ref (ad Γ (10 * k)))] rfl 51 rfl ?_
        refine y_iload hC dX6_readsBuyer_51 0 rfl 53 rfl ?_
        refine y_if_lt hC dX6_readsBuyer_53 63 (by decide) 56 rfl (fun h53 => ?_) (fun h53 => ?_)
        · have hk := ob_pos h53 hk
          refine y_iconst hC dX6_readsBuyer_63 (v := (0 : Int32)) (by decide) 64 rfl ?_
          have e := Option.some.inj hk
          exact y_zret hC hr hlk rfl (by rw [← e]) (by first | rfl | rw [← e]) dX6_readsBuyer_64
        · have hk := ob_neg h53 hk
          refine y_aload_n hC dX6_readsBuyer_56 4 rfl 57 rfl ?_
          obtain ⟨x57, hx57, hk⟩ := ob_bind hk
          refine y_callV hC 61 (hA 61 (by decide)) (cl_R (u := x46.2) rfl) rfl (c_X6_readsStop hJ hA l (gM k σ u) x46.2 x57 hx57) rfl ⟨w2_224, w1_12, cwd_X6_readsStop, by decide, by decide⟩ w2_221 w2_223 ws1_14 rfl rfl (Nat.le_of_ble_eq_true rfl) (by decide) dX6_readsBuyer_57 60 rfl (gR (gM k σ u) x57.2) rfl [.int x57.1] rfl ?_
          refine y_if_ne hC dX6_readsBuyer_60 65 (by decide) 63 rfl (fun h60 => ?_) (fun h60 => ?_)
          · have hk := ob_neg h60 hk
            refine y_aload_n hC dX6_readsBuyer_65 5 rfl 66 rfl ?_
            refine y_iload_n hC dX6_readsBuyer_66 3 rfl 67 rfl ?_
            refine y_iload_n hC dX6_readsBuyer_67 2 rfl 68 rfl ?_
            refine y_iload hC dX6_readsBuyer_68 1 rfl 70 rfl ?_
            refine y_iload hC dX6_readsBuyer_70 0 rfl 72 rfl ?_
            obtain ⟨x72, hx72, hk⟩ := ob_bind hk
            refine y_callVN hC (10 * k) (hM 0 (by decide)) (cl_M (k := k) (mm := σ.1.2.1) (u := u) hk4 rfl) rfl (c_X3_addBuyer hJ hA l (gR σ x57.2) k hk4 u x3.1 x17.1 x31.1 x46.1 x72 hx72) rfl ⟨w2_124, w1_2, cwd_X3_addBuyer, by decide, by decide⟩ w3_12 w2_123 ws1_6 rfl rfl (Nat.le_of_ble_eq_true rfl) (by decide) dX6_readsBuyer_72 75 rfl (gR (gM k σ x72) x57.2) rfl [] rfl ?_
            refine y_iconst hC dX6_readsBuyer_75 (v := (1 : Int32)) (by decide) 76 rfl ?_
            have e := Option.some.inj hk
            exact y_zret hC hr hlk rfl (by rw [← e]) (by first | rfl | rw [← e]) dX6_readsBuyer_76
          · have hk := ob_pos h60 hk
            refine y_iconst hC dX6_readsBuyer_63 (v := (0 : Int32)) (by decide) 64 rfl ?_
            have e := Option.some.inj hk
            exact y_zret hC hr hlk rfl (by rw [← e]) (by first | rfl | rw [← e]) dX6_readsBuyer_64
      · have hk := ob_neg h38 hk
        refine y_iconst hC dX6_readsBuyer_41 (v := (0 : Int32)) (by decide) 42 rfl ?_
        have e := Option.some.inj hk
        exact y_zret hC hr hlk rfl (by rw [← e]) (by first | rfl | rw [← e]) dX6_readsBuyer_42
    · have hk := ob_neg h22 hk
      refine y_iconst hC dX6_readsBuyer_25 (v := (0 : Int32)) (by decide) 26 rfl ?_
      have e := Option.some.inj hk
      exact y_zret hC hr hlk rfl (by rw [← e]) (by first | rfl | rw [← e]) dX6_readsBuyer_26
  · have hk := ob_neg h8 hk
    refine y_iconst hC dX6_readsBuyer_11 (v := (0 : Int32)) (by decide) 12 rfl ?_
    have e := Option.some.inj hk
    exact y_zret hC hr hlk rfl (by rw [← e]) (by first | rfl | rw [← e]) dX6_readsBuyer_12
def f_X6_readsItem (r : RSt) (u : MSt) : Option (Int32 × RSt × MSt) :=
  (f_X6_isWord r 1).bind fun x3 => 
    (if x3 = 0 then
      (f_X6_isWord r 2).bind fun x18 => 
        (if x18 = 0 then
          (f_X6_isWord r 3).bind fun x33 => 
            (if x33 = 0 then
              (f_X6_isWord r 4).bind fun x48 => 
                (if x48 = 0 then
                  some ((0 : Int32), r, u)
                else
                  if (8 : Int32) ≤ (pM_size u) then
                    some ((0 : Int32), r, u)
                  else
                    (f_X6_readsBuyer r u).bind fun x65 => 
                      (if x65.1 = 0 then
                        some ((0 : Int32), x65.2.1, x65.2.2)
                      else
                        some ((1 : Int32), x65.2.1, x65.2.2)))
            else
              (f_X6_readsRain r u).bind fun x41 => 
                (if x41.1 = 0 ∨ x41.1 = 1 then 
                (some (x41.1, x41.2.1, x41.2.2))
              else none))
        else
          (f_X6_readsTheirs r u).bind fun x26 => 
            (if x26.1 = 0 ∨ x26.1 = 1 then 
            (some (x26.1, x26.2.1, x26.2.2))
          else none))
    else
      (f_X6_readsPrice r u).bind fun x11 => 
        (if x11.1 = 0 ∨ x11.1 = 1 then 
        (some (x11.1, x11.2.1, x11.2.2))
      else none))
theorem cwd_X6_readsItem : yX6_readsItem.cls ≠ "java/lang/invoke/MethodHandle" ∧ yX6_readsItem.cls ≠ "java/lang/invoke/VarHandle" ∧ (parseMethodDescriptor yX6_readsItem.desc).map (fun d => d.parameters.length) = some 1 := by decide +kernel
set_option maxHeartbeats 4000000 in
set_option maxRecDepth 100000 in
theorem c_X6_readsItem {Γ : GC} (hJ : GJ Γ) (hA : ∀ i, i < 66 → act Γ i) (l : Launch) (σ : GSt) (k : Nat) (hk4 : k < 4) (r : RSt) (u : MSt) (x : Int32 × RSt × MSt) (hk : f_X6_readsItem r u = some x) : Mt Γ l yX6_readsItem cX6_readsItem 2 (some .boolean) 5 107 [.ref (ad Γ 61), .ref (ad Γ (10 * k))] (gR (gM k σ u) r) (some (.int x.1)) (gR (gM k σ x.2.2) x.2.1) := by
  refine y_enter (by decide) hJ (Nat.le_of_ble_eq_true rfl) [(0, .ref (ad Γ 61)), (1, .ref (ad Γ (10 * k)))] rfl ?_
  intro p e s' m args below meth c' hC hr hlk
  have hM : ∀ j, j < 10 → act Γ (10 * k + j) := fun j hj => hA _ (by omega)
  refine y_aload_n hC dX6_readsItem_0 0 rfl 1 rfl ?_
  refine y_ldcS hC 1 (by decide) rfl dX6_readsItem_1 3 rfl ?_
  obtain ⟨x3, hx3, hk⟩ := ob_bind hk
  refine y_callV hC 61 (hA 61 (by decide)) (cl_R (u := r) rfl) rfl (c_X6_isWord hJ hA l (gM k σ u) r 1 (by decide) x3 hx3) rfl ⟨w2_167, w1_12, cwd_X6_isWord, by decide, by decide⟩ w2_164 w2_166 ws1_12 rfl rfl (Nat.le_of_ble_eq_true rfl) (by decide) dX6_readsItem_3 6 rfl (gR (gM k σ u) r) rfl [.int x3] rfl ?_
  refine y_if_eq hC dX6_readsItem_6 15 (by decide) 9 rfl (fun h6 => ?_) (fun h6 => ?_)
  · have hk := ob_pos h6 hk
    refine y_aload_n hC dX6_readsItem_15 0 rfl 16 rfl ?_
    refine y_ldcS hC 2 (by decide) rfl dX6_readsItem_16 18 rfl ?_
    obtain ⟨x18, hx18, hk⟩ := ob_bind hk
    refine y_callV hC 61 (hA 61 (by decide)) (cl_R (u := r) rfl) rfl (c_X6_isWord hJ hA l (gM k σ u) r 2 (by decide) x18 hx18) rfl ⟨w2_167, w1_12, cwd_X6_isWord, by decide, by decide⟩ w2_164 w2_166 ws1_12 rfl rfl (Nat.le_of_ble_eq_true rfl) (by decide) dX6_readsItem_18 21 rfl (gR (gM k σ u) r) rfl [.int x18] rfl ?_
    refine y_if_eq hC dX6_readsItem_21 30 (by decide) 24 rfl (fun h21 => ?_) (fun h21 => ?_)
    · have hk := ob_pos h21 hk
      refine y_aload_n hC dX6_readsItem_30 0 rfl 31 rfl ?_
      refine y_ldcS hC 3 (by decide) rfl dX6_readsItem_31 33 rfl ?_
      obtain ⟨x33, hx33, hk⟩ := ob_bind hk
      refine y_callV hC 61 (hA 61 (by decide)) (cl_R (u := r) rfl) rfl (c_X6_isWord hJ hA l (gM k σ u) r 3 (by decide) x33 hx33) rfl ⟨w2_167, w1_12, cwd_X6_isWord, by decide, by decide⟩ w2_164 w2_166 ws1_12 rfl rfl (Nat.le_of_ble_eq_true rfl) (by decide) dX6_readsItem_33 36 rfl (gR (gM k σ u) r) rfl [.int x33] rfl ?_
      refine y_if_eq hC dX6_readsItem_36 45 (by decide) 39 rfl (fun h36 => ?_) (fun h36 => ?_)
      · have hk := ob_pos h36 hk
        refine y_aload_n hC dX6_readsItem_45 0 rfl 46 rfl ?_
        refine y_ldcS hC 4 (by decide) rfl dX6_readsItem_46 48 rfl ?_
        obtain ⟨x48, hx48, hk⟩ := ob_bind hk
        refine y_callV hC 61 (hA 61 (by decide)) (cl_R (u := r) rfl) rfl (c_X6_isWord hJ hA l (gM k σ u) r 4 (by decide) x48 hx48) rfl ⟨w2_167, w1_12, cwd_X6_isWord, by decide, by decide⟩ w2_164 w2_166 ws1_12 rfl rfl (Nat.le_of_ble_eq_true rfl) (by decide) dX6_readsItem_48 51 rfl (gR (gM k σ u) r) rfl [.int x48] rfl ?_
        refine y_if_eq hC dX6_readsItem_51 75 (by decide) 54 rfl (fun h51 => ?_) (fun h51 => ?_)
        · have hk := ob_pos h51 hk
          refine y_iconst hC dX6_readsItem_75 (v := (0 : Int32)) (by decide) 76 rfl ?_
          have e := Option.some.inj hk
          exact y_zret hC hr hlk rfl (by rw [← e]) (by first | rfl | rw [← e]) dX6_readsItem_76
        · have hk := ob_neg h51 hk
          refine y_aload_n hC dX6_readsItem_54 1 rfl 55 rfl ?_
          refine y_getN hC (10 * k) (hM 0 (by decide)) (cl_M (k := k) (mm := σ.1.2.1) (u := u) hk4 rfl) rfl inU3 3 (by decide) w1_50 rfl dX6_readsItem_55 58 rfl ?_
          refine y_bipush hC dX6_readsItem_58 (v := (8 : Int32)) (by decide) 60 rfl ?_
          refine y_icmp_ge hC dX6_readsItem_60 75 (by decide) 63 rfl (fun h60 => ?_) (fun h60 => ?_)
          · have hk := ob_pos h60 hk
            refine y_iconst hC dX6_readsItem_75 (v := (0 : Int32)) (by decide) 76 rfl ?_
            have e := Option.some.inj hk
            exact y_zret hC hr hlk rfl (by rw [← e]) (by first | rfl | rw [← e]) dX6_readsItem_76
          · have hk := ob_neg h60 hk
            refine y_aload_n hC dX6_readsItem_63 0 rfl 64 rfl ?_
            refine y_aload_n hC dX6_readsItem_64 1 rfl 65 rfl ?_
            obtain ⟨x65, hx65, hk⟩ := ob_bind hk
            refine y_callV hC 61 (hA 61 (by decide)) (cl_R (u := r) rfl) rfl (c_X6_readsBuyer hJ hA l σ k hk4 r u x65 hx65) rfl ⟨w3_11, w1_12, cwd_X6_readsBuyer, by decide, by decide⟩ w3_8 w3_10 ws2_3 rfl rfl (Nat.le_of_ble_eq_true rfl) (by decide) dX6_readsItem_65 68 rfl (gR (gM k σ x65.2.2) x65.2.1) rfl [.int x65.1] rfl ?_
            refine y_if_eq hC dX6_readsItem_68 75 (by decide) 71 rfl (fun h68 => ?_) (fun h68 => ?_)
            · have hk := ob_pos h68 hk
              refine y_iconst hC dX6_readsItem_75 (v := (0 : Int32)) (by decide) 76 rfl ?_
              have e := Option.some.inj hk
              exact y_zret hC hr hlk rfl (by rw [← e]) (by first | rfl | rw [← e]) dX6_readsItem_76
            · have hk := ob_neg h68 hk
              refine y_iconst hC dX6_readsItem_71 (v := (1 : Int32)) (by decide) 72 rfl ?_
              refine y_goto hC dX6_readsItem_72 76 (by decide) ?_
              have e := Option.some.inj hk
              exact y_zret hC hr hlk rfl (by rw [← e]) (by first | rfl | rw [← e]) dX6_readsItem_76
      · have hk := ob_neg h36 hk
        refine y_aload_n hC dX6_readsItem_39 0 rfl 40 rfl ?_
        refine y_aload_n hC dX6_readsItem_40 1 rfl 41 rfl ?_
        obtain ⟨x41, hx41, hk⟩ := ob_bind hk
        refine y_callV hC 61 (hA 61 (by decide)) (cl_R (u := r) rfl) rfl (c_X6_readsRain hJ hA l σ k hk4 r u x41 hx41) rfl ⟨w3_6, w1_12, cwd_X6_readsRain, by decide, by decide⟩ w3_3 w3_5 ws2_2 rfl rfl (Nat.le_of_ble_eq_true rfl) (by decide) dX6_readsItem_41 44 rfl (gR (gM k σ x41.2.2) x41.2.1) rfl [.int x41.1] rfl ?_
        obtain ⟨h44, hk⟩ := ob_if hk
        have e := Option.some.inj hk
        exact y_zret hC hr hlk (nz_bool h44) (by rw [← e]) (by first | rfl | rw [← e]) dX6_readsItem_44
    · have hk := ob_neg h21 hk
      refine y_aload_n hC dX6_readsItem_24 0 rfl 25 rfl ?_
      refine y_aload_n hC dX6_readsItem_25 1 rfl 26 rfl ?_
      obtain ⟨x26, hx26, hk⟩ := ob_bind hk
      refine y_callV hC 61 (hA 61 (by decide)) (cl_R (u := r) rfl) rfl (c_X6_readsTheirs hJ hA l σ k hk4 r u x26 hx26) rfl ⟨w3_0, w1_12, cwd_X6_readsTheirs, by decide, by decide⟩ w2_237 w2_239 ws2_1 rfl rfl (Nat.le_of_ble_eq_true rfl) (by decide) dX6_readsItem_26 29 rfl (gR (gM k σ x26.2.2) x26.2.1) rfl [.int x26.1] rfl ?_
      obtain ⟨h29, hk⟩ := ob_if hk
      have e := Option.some.inj hk
      exact y_zret hC hr hlk (nz_bool h29) (by rw [← e]) (by first | rfl | rw [← e]) dX6_readsItem_29
  · have hk := ob_neg h6 hk
    refine y_aload_n hC dX6_readsItem_9 0 rfl 10 rfl ?_
    refine y_aload_n hC dX6_readsItem_10 1 rfl 11 rfl ?_
    obtain ⟨x11, hx11, hk⟩ := ob_bind hk
    refine y_callV hC 61 (hA 61 (by decide)) (cl_R (u := r) rfl) rfl (c_X6_readsPrice hJ hA l σ k hk4 r u x11 hx11) rfl ⟨w2_234, w1_12, cwd_X6_readsPrice, by decide, by decide⟩ w2_231 w2_233 ws2_0 rfl rfl (Nat.le_of_ble_eq_true rfl) (by decide) dX6_readsItem_11 14 rfl (gR (gM k σ x11.2.2) x11.2.1) rfl [.int x11.1] rfl ?_
    obtain ⟨h14, hk⟩ := ob_if hk
    have e := Option.some.inj hk
    exact y_zret hC hr hlk (nz_bool h14) (by rw [← e]) (by first | rfl | rw [← e]) dX6_readsItem_14
def f_X6_readInto_j51 (gr : RSt) (gu : MSt) : Option (Int32 × RSt × MSt) :=
  some (((-10 : Int32) - (pR_start gr)), gr, gu)
def f_X6_readInto_s29 (K29 : (Int32 × Int32 × RSt × MSt) → Option (Int32 × RSt × MSt)) (q29 : Int32 × Int32 × RSt × MSt) : Option (Int32 × RSt × MSt) :=
  if (150 : Int32) ≤ q29.2.1 then
    some (q29.1, q29.2.2.1, q29.2.2.2)
  else
    if (pR_token q29.2.2.1) = 0 then
      some (q29.1, q29.2.2.1, q29.2.2.2)
    else
      (f_X6_readsItem q29.2.2.1 q29.2.2.2).bind fun x45 => 
        (if x45.1 = 0 then
          f_X6_readInto_j51 x45.2.1 x45.2.2
        else
          K29 ((q29.1 + (1 : Int32)), (q29.2.1 + (1 : Int32)), x45.2.1, x45.2.2))
def f_X6_readInto (r : RSt) (u : MSt) : Option (Int32 × RSt × MSt) :=
  lt (sR_next r (0 : Int32)) fun g2 => 
    ((f_X6_step g2).bind fun x6 => 
    ((f_X6_readsMarket x6 u).bind fun x11 => 
    (if x11.1 = 0 then
      some (((-10 : Int32) - (pR_start x11.2.1)), x11.2.1, x11.2.2)
    else
      lp (f_X6_readInto_s29) 1000 ((1 : Int32), (0 : Int32), x11.2.1, x11.2.2))))
theorem cwd_X6_readInto : yX6_readInto.cls ≠ "java/lang/invoke/MethodHandle" ∧ yX6_readInto.cls ≠ "java/lang/invoke/VarHandle" ∧ (parseMethodDescriptor yX6_readInto.desc).map (fun d => d.parameters.length) = some 1 := by decide +kernel
set_option maxHeartbeats 4000000 in
set_option maxRecDepth 100000 in
theorem c_X6_readInto {Γ : GC} (hJ : GJ Γ) (hA : ∀ i, i < 66 → act Γ i) (l : Launch) (σ : GSt) (k : Nat) (hk4 : k < 4) (r : RSt) (u : MSt) (x : Int32 × RSt × MSt) (hk : f_X6_readInto r u = some x) : Mt Γ l yX6_readInto cX6_readInto 4 (some .int) 6 130 [.ref (ad Γ 61), .ref (ad Γ (10 * k))] (gR (gM k σ u) r) (some (.int x.1)) (gR (gM k σ x.2.2) x.2.1) := by
  refine y_enter (by decide) hJ (Nat.le_of_ble_eq_true rfl) [(0, .ref (ad Γ 61)), (1, .ref (ad Γ (10 * k)))] rfl ?_
  intro p e s' m args below meth c' hC hr hlk
  have hM : ∀ j, j < 10 → act Γ (10 * k + j) := fun j hj => hA _ (by omega)
  have J51 : ∀ (gr : RSt) (gu : MSt), f_X6_readInto_j51 gr gu = some x → Y Γ (GA Γ) p l e ({ frames := 6, cells := 0, slots := 0, locals := 130 } : Room) s' m args below meth c' 0 0 (MQ below (Qg Γ (some (.int x.1)) (gR (gM k σ x.2.2) x.2.1)) args s' 0 0 (GA Γ)) 4 (gR (gM k σ gu) gr) 51 [(0, .ref (ad Γ 61)), (1, .ref (ad Γ (10 * k)))] [] := by
    intro gr gu hk
    refine y_bipush hC dX6_readInto_51 (v := (-10 : Int32)) (by decide) 53 rfl ?_
    refine y_aload_n hC dX6_readInto_53 0 rfl 54 rfl ?_
    refine y_get hC 61 (hA 61 (by decide)) (cl_R (u := gr) rfl) rfl inU6 3 (by decide) w2_11 rfl dX6_readInto_54 57 rfl ?_
    refine y_isub hC dX6_readInto_57 58 rfl ?_
    have e := Option.some.inj hk
    exact y_iret hC hr hlk (by rw [← e]) (by first | rfl | rw [← e]) dX6_readInto_58
  have L29 : ∀ (n29 : Nat) (q29 : Int32 × Int32 × RSt × MSt), lp (f_X6_readInto_s29) n29 q29 = some x → Y Γ (GA Γ) p l e ({ frames := 6, cells := 0, slots := 0, locals := 130 } : Room) s' m args below meth c' 0 0 (MQ below (Qg Γ (some (.int x.1)) (gR (gM k σ x.2.2) x.2.1)) args s' 0 0 (GA Γ)) 4 (gR (gM k σ q29.2.2.2) q29.2.2.1) 29 [(0, .ref (ad Γ 61)), (1, .ref (ad Γ (10 * k))), (2, .int q29.1), (3, .int q29.2.1)] [] := by
    intro n29
    induction n29 with
    | zero => intro q29 hk; exact (lp_zero hk).elim
    | succ n29 ih29 =>
      intro q29 hk
      have hk : f_X6_readInto_s29 (lp (f_X6_readInto_s29) n29) q29 = some x := (lp_succ _ _ _).symm.trans hk
      refine y_iload_n hC dX6_readInto_29 3 rfl 30 rfl ?_
      refine y_sipush hC dX6_readInto_30 (v := (150 : Int32)) (by decide) 33 rfl ?_
      refine y_icmp_ge hC dX6_readInto_33 68 (by decide) 36 rfl (fun h33 => ?_) (fun h33 => ?_)
      · have hk := ob_pos h33 hk
        refine y_iload_n hC dX6_readInto_68 2 rfl 69 rfl ?_
        have e := Option.some.inj hk
        exact y_iret hC hr hlk (by rw [← e]) (by first | rfl | rw [← e]) dX6_readInto_69
      · have hk := ob_neg h33 hk
        refine y_aload_n hC dX6_readInto_36 0 rfl 37 rfl ?_
        refine y_get hC 61 (hA 61 (by decide)) (cl_R (u := q29.2.2.1) rfl) rfl inU6 2 (by decide) w2_10 rfl dX6_readInto_37 40 rfl ?_
        refine y_if_eq hC dX6_readInto_40 68 (by decide) 43 rfl (fun h40 => ?_) (fun h40 => ?_)
        · have hk := ob_pos h40 hk
          refine y_iload_n hC dX6_readInto_68 2 rfl 69 rfl ?_
          have e := Option.some.inj hk
          exact y_iret hC hr hlk (by rw [← e]) (by first | rfl | rw [← e]) dX6_readInto_69
        · have hk := ob_neg h40 hk
          refine y_aload_n hC dX6_readInto_43 0 rfl 44 rfl ?_
          refine y_aload_n hC dX6_readInto_44 1 rfl 45 rfl ?_
          obtain ⟨x45, hx45, hk⟩ := ob_bind hk
          refine y_callV hC 61 (hA 61 (by decide)) (cl_R (u := q29.2.2.1) rfl) rfl (c_X6_readsItem hJ hA l σ k hk4 q29.2.2.1 q29.2.2.2 x45 hx45) rfl ⟨w2_229, w1_12, cwd_X6_readsItem, by decide, by decide⟩ w2_226 w2_228 ws1_15 rfl rfl (Nat.le_of_ble_eq_true rfl) (by decide) dX6_readInto_45 48 rfl (gR (gM k σ x45.2.2) x45.2.1) rfl [.int x45.1] rfl ?_
          refine y_if_ne hC dX6_readInto_48 59 (by decide) 51 rfl (fun h48 => ?_) (fun h48 => ?_)
          · have hk := ob_neg h48 hk
            refine y_iinc hC dX6_readInto_59 2 rfl (v := (q29.1 + (1 : Int32))) rfl (by decide) [(2, .int (q29.1 + (1 : Int32))), (0, .ref (ad Γ 61)), (1, .ref (ad Γ (10 * k))), (3, .int q29.2.1)] rfl 62 rfl ?_
            refine y_iinc hC dX6_readInto_62 3 rfl (v := (q29.2.1 + (1 : Int32))) rfl (by decide) [(3, .int (q29.2.1 + (1 : Int32))), (2, .int (q29.1 + (1 : Int32))), (0, .ref (ad Γ 61)), (1, .ref (ad Γ (10 * k)))] rfl 65 rfl ?_
            refine y_goto hC dX6_readInto_65 29 (by decide) ?_
            refine y_sub [2, 3, 1, 0] rfl ?_
            exact ih29 ((q29.1 + (1 : Int32)), (q29.2.1 + (1 : Int32)), x45.2.1, x45.2.2) hk
          · have hk := ob_pos h48 hk
            refine y_sub [0, 1] rfl ?_
            exact J51 x45.2.1 x45.2.2 hk
  refine y_aload_n hC dX6_readInto_0 0 rfl 1 rfl ?_
  refine y_iconst hC dX6_readInto_1 (v := (0 : Int32)) (by decide) 2 rfl ?_
  obtain ⟨g2, eg2, hk⟩ := ob_lt hk
  refine y_put hC 61 (hA 61 (by decide)) (cl_R (u := r) rfl) rfl inU6 tyX6_ok nmX6 4 (by decide) w2_12 rfl rfl rfl rfl (Nat.le_of_ble_eq_true rfl) (gR (gM k σ u) g2) (by subst eg2; exact (cu_R_next (u := r) (v := (0 : Int32)) rfl rfl)) dX6_readInto_2 5 rfl ?_
  refine y_aload_n hC dX6_readInto_5 0 rfl 6 rfl ?_
  obtain ⟨x6, hx6, hk⟩ := ob_bind hk
  refine y_callV hC 61 (hA 61 (by decide)) (cl_R (u := g2) rfl) rfl (c_X6_step hJ hA l (gM k σ u) g2 x6 hx6) rfl ⟨w2_148, w1_12, cwd_X6_step, by decide, by decide⟩ w2_145 w2_147 ws1_9 rfl rfl (Nat.le_of_ble_eq_true rfl) (by decide) dX6_readInto_6 9 rfl (gR (gM k σ u) x6) rfl [] rfl ?_
  refine y_aload_n hC dX6_readInto_9 0 rfl 10 rfl ?_
  refine y_aload_n hC dX6_readInto_10 1 rfl 11 rfl ?_
  obtain ⟨x11, hx11, hk⟩ := ob_bind hk
  refine y_callV hC 61 (hA 61 (by decide)) (cl_R (u := x6) rfl) rfl (c_X6_readsMarket hJ hA l σ k hk4 x6 u x11 hx11) rfl ⟨w2_162, w1_12, cwd_X6_readsMarket, by decide, by decide⟩ w2_159 w2_161 ws1_11 rfl rfl (Nat.le_of_ble_eq_true rfl) (by decide) dX6_readInto_11 14 rfl (gR (gM k σ x11.2.2) x11.2.1) rfl [.int x11.1] rfl ?_
  refine y_if_ne hC dX6_readInto_14 25 (by decide) 17 rfl (fun h14 => ?_) (fun h14 => ?_)
  · have hk := ob_neg h14 hk
    refine y_iconst hC dX6_readInto_25 (v := (1 : Int32)) (by decide) 26 rfl ?_
    refine y_istore_n hC dX6_readInto_26 (by decide) [(2, .int (1 : Int32)), (0, .ref (ad Γ 61)), (1, .ref (ad Γ (10 * k)))] rfl 27 rfl ?_
    refine y_iconst hC dX6_readInto_27 (v := (0 : Int32)) (by decide) 28 rfl ?_
    refine y_istore_n hC dX6_readInto_28 (by decide) [(3, .int (0 : Int32)), (2, .int (1 : Int32)), (0, .ref (ad Γ 61)), (1, .ref (ad Γ (10 * k)))] rfl 29 rfl ?_
    refine y_sub [2, 3, 1, 0] rfl ?_
    exact L29 1000 ((1 : Int32), (0 : Int32), x11.2.1, x11.2.2) hk
  · have hk := ob_pos h14 hk
    refine y_bipush hC dX6_readInto_17 (v := (-10 : Int32)) (by decide) 19 rfl ?_
    refine y_aload_n hC dX6_readInto_19 0 rfl 20 rfl ?_
    refine y_get hC 61 (hA 61 (by decide)) (cl_R (u := x11.2.1) rfl) rfl inU6 3 (by decide) w2_11 rfl dX6_readInto_20 23 rfl ?_
    refine y_isub hC dX6_readInto_23 24 rfl ?_
    have e := Option.some.inj hk
    exact y_iret hC hr hlk (by rw [← e]) (by first | rfl | rw [← e]) dX6_readInto_24
