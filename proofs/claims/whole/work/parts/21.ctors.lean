def u0M : MSt := ((20 : Int32), (0 : Int32), (0 : Int32), (0 : Int32), (0 : Int32), (0 : Int32), (0 : Int32), (0 : Int32), (fun j => if j < 10 then (40 : Int32) else 0), (fun _ => (0 : Int32)), (fun _ => (0 : Int32)), (fun _ => (0 : Int32)), (fun _ => (0 : Int32)), (fun _ => (0 : Int32)), (fun _ => (0 : Int32)), (fun _ => (0 : Int32)), (fun _ => (0 : Int32)))
def u0D : DSt := ((fun _ => (0 : Int32)), (fun _ => (0 : Int32)), (fun _ => (0 : Int32)), (fun _ => (0 : Int32)), (fun _ => (0 : Int32)), (fun _ => (0 : Int32)), (fun _ => (0 : Int32)), (fun _ => (0 : Int32)), (0 : Int32), (0 : Int32), (0 : Int32))
def u0S : SSt := ((fun _ => (0 : Int32)), (fun _ => (0 : Int32)), (fun _ => (0 : Int32)), (fun _ => (0 : Int32)), (0 : Int32), (-1 : Int32))
def u0R : RSt := ((fun _ => (0 : Int32)), (0 : Int32), (0 : Int32), (0 : Int32), (0 : Int32), (0 : Int32))
def u0H : HSt := ((fun _ => (0 : Int32)), (0 : Int64), (1 : Int64), (0 : Int32), (0 : Int32), (0 : Int32))
def u0L : LSt := ((fun _ => (0 : Int32)), (fun _ => (0 : Int32)), (fun _ => (0 : Int32)), (0 : Int32), (fun _ => (0 : Int32)), (0 : Int64), (1 : Int64), (0 : Int32), (0 : Int32), (0 : Int32), (0 : Int32), (0 : Int32), (0 : Int32), (0 : Int32), (fun _ => (0 : Int32)), (fun _ => (0 : Int32)), (fun _ => (0 : Int32)), (0 : Int32), (0 : Int32), (0 : Int32), (fun _ => (0 : Int32)), (fun _ => (0 : Int32)), (fun _ => (0 : Int32)), (0 : Int64))
def c0C : CSt := (u0H, (u0M, u0M, u0M, u0M), u0D, u0S, u0R)
def ofM (a : Nat → Nat) (u : MSt) : List Value := [.int (pM_punnets u), .int (pM_heat u), .int (pM_rainHours u), .int (pM_size u), .int (pM_totalTakings u), .int (pM_totalThrown u), .int (pM_soldSize u), .int (pM_pastSize u), .ref (a 1), .ref (a 2), .ref (a 3), .ref (a 4), .ref (a 5), .ref (a 6), .ref (a 7), .ref (a 8), .ref (a 9)]
def lsM (Γ : GC) (a : Nat → Nat) (u : MSt) : va_W := [(a 0, .inr (3, ofM a u)), (a 1, .inl (ca Γ 0, 10, .inl (pM_prices u))), (a 2, .inl (ca Γ 0, 10, .inl (pM_theirPrices u))), (a 3, .inl (ca Γ 0, 8, .inl (pM_kinds u))), (a 4, .inl (ca Γ 0, 8, .inl (pM_hours u))), (a 5, .inl (ca Γ 0, 8, .inl (pM_worths u))), (a 6, .inl (ca Γ 0, 8, .inl (pM_wants u))), (a 7, .inl (ca Γ 0, 6, .inl (pM_soldHours u))), (a 8, .inl (ca Γ 0, 6, .inl (pM_soldNumbers u))), (a 9, .inl (ca Γ 0, 80, .inl (pM_past u)))]
def ofD (a : Nat → Nat) (u : DSt) : List Value := [.ref (a 9), .ref (a 1), .ref (a 2), .ref (a 3), .ref (a 4), .ref (a 5), .ref (a 6), .ref (a 7), .ref (a 8), .int (pD_left u), .int (pD_takings u), .int (pD_theirTakings u)]
def lsD (Γ : GC) (a : Nat → Nat) (u : DSt) (f : Nat → Option Nat) : va_W := [(a 0, .inr (2, ofD a u)), (a 1, .inl (ca Γ 0, 8, .inl (pD_when u))), (a 2, .inl (ca Γ 0, 8, .inl (pD_pays u))), (a 3, .inl (ca Γ 0, 8, .inl (pD_carries u))), (a 4, .inl (ca Γ 1, 8, .inl (pD_staysAway u))), (a 5, .inl (ca Γ 0, 8, .inl (pD_order u))), (a 6, .inl (ca Γ 0, 10, .inl (pD_gone u))), (a 7, .inl (ca Γ 0, 8, .inl (pD_got u))), (a 8, .inl (ca Γ 0, 8, .inl (pD_served u))), (a 9, .inl (ca Γ 2, 6, .inr (.inr (.inr (.inr f))))), (a 10, .inr (5, [])), (a 11, .inr (9, [])), (a 12, .inr (1, [])), (a 13, .inr (7, [])), (a 14, .inr (0, [])), (a 15, .inr (4, []))]
def ofS (a : Nat → Nat) (u : SSt) : List Value := [.ref (a 1), .ref (a 2), .ref (a 3), .ref (a 4), .int (pS_rests u), .int (pS_firstRest u)]
def lsS (Γ : GC) (a : Nat → Nat) (u : SSt) : va_W := [(a 0, .inr (8, ofS a u)), (a 1, .inl (ca Γ 0, 121, .inl (pS_mine u))), (a 2, .inl (ca Γ 0, 121, .inl (pS_others u))), (a 3, .inl (ca Γ 0, 11, .inl (pS_mostMine u))), (a 4, .inl (ca Γ 0, 11, .inl (pS_mostOthers u)))]
def ofR (a : Nat → Nat) (u : RSt) : List Value := [.ref (a 1), .int (pR_length u), .int (pR_token u), .int (pR_start u), .int (pR_next u), .int (pR_number u)]
def lsR (Γ : GC) (a : Nat → Nat) (u : RSt) : va_W := [(a 0, .inr (6, ofR a u)), (a 1, .inl (ca Γ 0, 150, .inl (pR_bytes u)))]
def blM : List Value := [.int 0, .int 0, .int 0, .int 0, .int 0, .int 0, .int 0, .int 0, .null, .null, .null, .null, .null, .null, .null, .null, .null]
theorem blM_ok : ∀ j, j < 17 → defaultValue (tyX3 j) = vp_V blM j := by
  intro j hj
  match j, hj with
  | 0, _ => rfl
  | 1, _ => rfl
  | 2, _ => rfl
  | 3, _ => rfl
  | 4, _ => rfl
  | 5, _ => rfl
  | 6, _ => rfl
  | 7, _ => rfl
  | 8, _ => rfl
  | 9, _ => rfl
  | 10, _ => rfl
  | 11, _ => rfl
  | 12, _ => rfl
  | 13, _ => rfl
  | 14, _ => rfl
  | 15, _ => rfl
  | 16, _ => rfl
  | j + 17, h => exact absurd h (by omega)
def blD : List Value := [.null, .null, .null, .null, .null, .null, .null, .null, .null, .int 0, .int 0, .int 0]
theorem blD_ok : ∀ j, j < 12 → defaultValue (tyX2 j) = vp_V blD j := by
  intro j hj
  match j, hj with
  | 0, _ => rfl
  | 1, _ => rfl
  | 2, _ => rfl
  | 3, _ => rfl
  | 4, _ => rfl
  | 5, _ => rfl
  | 6, _ => rfl
  | 7, _ => rfl
  | 8, _ => rfl
  | 9, _ => rfl
  | 10, _ => rfl
  | 11, _ => rfl
  | j + 12, h => exact absurd h (by omega)
def blS : List Value := [.null, .null, .null, .null, .int 0, .int 0]
theorem blS_ok : ∀ j, j < 6 → defaultValue (tyX8 j) = vp_V blS j := by
  intro j hj
  match j, hj with
  | 0, _ => rfl
  | 1, _ => rfl
  | 2, _ => rfl
  | 3, _ => rfl
  | 4, _ => rfl
  | 5, _ => rfl
  | j + 6, h => exact absurd h (by omega)
def blR : List Value := [.null, .int 0, .int 0, .int 0, .int 0, .int 0]
theorem blR_ok : ∀ j, j < 6 → defaultValue (tyX6 j) = vp_V blR j := by
  intro j hj
  match j, hj with
  | 0, _ => rfl
  | 1, _ => rfl
  | 2, _ => rfl
  | 3, _ => rfl
  | 4, _ => rfl
  | 5, _ => rfl
  | j + 6, h => exact absurd h (by omega)
def blH : List Value := [.null, .null, .null, .null, .null, .null, .null, .long 0, .long 0, .int 0, .int 0, .int 0]
theorem blH_ok : ∀ j, j < 12 → defaultValue (tyX10 j) = vp_V blH j := by
  intro j hj
  match j, hj with
  | 0, _ => rfl
  | 1, _ => rfl
  | 2, _ => rfl
  | 3, _ => rfl
  | 4, _ => rfl
  | 5, _ => rfl
  | 6, _ => rfl
  | 7, _ => rfl
  | 8, _ => rfl
  | 9, _ => rfl
  | 10, _ => rfl
  | 11, _ => rfl
  | j + 12, h => exact absurd h (by omega)
def blL : List Value := [.null, .null, .null, .int 0, .null, .long 0, .long 0, .int 0, .int 0, .int 0, .int 0, .int 0, .int 0, .int 0, .null, .null, .null, .int 0, .int 0, .int 0, .null, .null, .null, .long 0]
theorem blL_ok : ∀ j, j < 24 → defaultValue (tyX11 j) = vp_V blL j := by
  intro j hj
  match j, hj with
  | 0, _ => rfl
  | 1, _ => rfl
  | 2, _ => rfl
  | 3, _ => rfl
  | 4, _ => rfl
  | 5, _ => rfl
  | 6, _ => rfl
  | 7, _ => rfl
  | 8, _ => rfl
  | 9, _ => rfl
  | 10, _ => rfl
  | 11, _ => rfl
  | 12, _ => rfl
  | 13, _ => rfl
  | 14, _ => rfl
  | 15, _ => rfl
  | 16, _ => rfl
  | 17, _ => rfl
  | 18, _ => rfl
  | 19, _ => rfl
  | 20, _ => rfl
  | 21, _ => rfl
  | 22, _ => rfl
  | 23, _ => rfl
  | j + 24, h => exact absurd h (by omega)
theorem cwd_X5_init : yX5_init.cls ≠ "java/lang/invoke/MethodHandle" ∧ yX5_init.cls ≠ "java/lang/invoke/VarHandle" ∧ (parseMethodDescriptor yX5_init.desc).map (fun d => d.parameters.length) = some 0 := by decide +kernel
set_option maxHeartbeats 4000000 in
set_option maxRecDepth 100000 in
theorem c_X5_init {Γ : GC} (l : Launch) (ciW : Nat) (h0 sz : Nat) : Mz Γ l yX5_init cX5_init 1 1 20 0 0 h0 (.inr (ciW, [])) sz (fun w => w = [(h0, .inr (ciW, []))]) := by
  refine z_enter (by decide) rfl (by decide) ?_
  intro p e s' m args below meth c' hsz hC hmi hr hlk
  refine z_aload_n hC dX5_init_0 0 rfl 1 rfl ?_
  refine z_objInit hC w1_130 w1_27 w1_28 ⟨by decide, Nat.le_of_ble_eq_true rfl⟩ dX5_init_1 4 rfl ?_
  exact z_vret hC hr hlk rfl dX5_init_4
theorem cwd_X9_init : yX9_init.cls ≠ "java/lang/invoke/MethodHandle" ∧ yX9_init.cls ≠ "java/lang/invoke/VarHandle" ∧ (parseMethodDescriptor yX9_init.desc).map (fun d => d.parameters.length) = some 0 := by decide +kernel
set_option maxHeartbeats 4000000 in
set_option maxRecDepth 100000 in
theorem c_X9_init {Γ : GC} (l : Launch) (ciW : Nat) (h0 sz : Nat) : Mz Γ l yX9_init cX9_init 1 2 40 0 0 h0 (.inr (ciW, [])) sz (fun w => w = [(h0, .inr (ciW, []))]) := by
  refine z_enter (by decide) rfl (by decide) ?_
  intro p e s' m args below meth c' hsz hC hmi hr hlk
  refine z_aload_n hC dX9_init_0 0 rfl 1 rfl ?_
  refine z_callIN hC 0 rfl (fun sz => c_X5_init l ciW h0 sz) ⟨w1_129, w1_5, cwd_X5_init, by decide, by decide⟩ w1_138 w1_128 rfl [] [] rfl (by decide) (by decide) (Nat.le_of_ble_eq_true rfl) (by decide) dX9_init_1 4 rfl (fun w1 hw1 => ?_)
  subst hw1
  refine z_eq (ws' := [(h0, .inr (ciW, []))]) rfl ?_
  exact z_vret hC hr hlk rfl dX9_init_4
theorem cwd_X1_init : yX1_init.cls ≠ "java/lang/invoke/MethodHandle" ∧ yX1_init.cls ≠ "java/lang/invoke/VarHandle" ∧ (parseMethodDescriptor yX1_init.desc).map (fun d => d.parameters.length) = some 0 := by decide +kernel
set_option maxHeartbeats 4000000 in
set_option maxRecDepth 100000 in
theorem c_X1_init {Γ : GC} (l : Launch) (ciW : Nat) (h0 sz : Nat) : Mz Γ l yX1_init cX1_init 1 2 40 0 0 h0 (.inr (ciW, [])) sz (fun w => w = [(h0, .inr (ciW, []))]) := by
  refine z_enter (by decide) rfl (by decide) ?_
  intro p e s' m args below meth c' hsz hC hmi hr hlk
  refine z_aload_n hC dX1_init_0 0 rfl 1 rfl ?_
  refine z_callIN hC 0 rfl (fun sz => c_X5_init l ciW h0 sz) ⟨w1_129, w1_5, cwd_X5_init, by decide, by decide⟩ w1_145 w1_128 rfl [] [] rfl (by decide) (by decide) (Nat.le_of_ble_eq_true rfl) (by decide) dX1_init_1 4 rfl (fun w1 hw1 => ?_)
  subst hw1
  refine z_eq (ws' := [(h0, .inr (ciW, []))]) rfl ?_
  exact z_vret hC hr hlk rfl dX1_init_4
theorem cwd_X7_init : yX7_init.cls ≠ "java/lang/invoke/MethodHandle" ∧ yX7_init.cls ≠ "java/lang/invoke/VarHandle" ∧ (parseMethodDescriptor yX7_init.desc).map (fun d => d.parameters.length) = some 0 := by decide +kernel
set_option maxHeartbeats 4000000 in
set_option maxRecDepth 100000 in
theorem c_X7_init {Γ : GC} (l : Launch) (ciW : Nat) (h0 sz : Nat) : Mz Γ l yX7_init cX7_init 1 3 60 0 0 h0 (.inr (ciW, [])) sz (fun w => w = [(h0, .inr (ciW, []))]) := by
  refine z_enter (by decide) rfl (by decide) ?_
  intro p e s' m args below meth c' hsz hC hmi hr hlk
  refine z_aload_n hC dX7_init_0 0 rfl 1 rfl ?_
  refine z_callIN hC 0 rfl (fun sz => c_X9_init l ciW h0 sz) ⟨w1_137, w1_6, cwd_X9_init, by decide, by decide⟩ w1_152 w1_136 rfl [] [] rfl (by decide) (by decide) (Nat.le_of_ble_eq_true rfl) (by decide) dX7_init_1 4 rfl (fun w1 hw1 => ?_)
  subst hw1
  refine z_eq (ws' := [(h0, .inr (ciW, []))]) rfl ?_
  exact z_vret hC hr hlk rfl dX7_init_4
theorem cwd_X0_init : yX0_init.cls ≠ "java/lang/invoke/MethodHandle" ∧ yX0_init.cls ≠ "java/lang/invoke/VarHandle" ∧ (parseMethodDescriptor yX0_init.desc).map (fun d => d.parameters.length) = some 0 := by decide +kernel
set_option maxHeartbeats 4000000 in
set_option maxRecDepth 100000 in
theorem c_X0_init {Γ : GC} (l : Launch) (ciW : Nat) (h0 sz : Nat) : Mz Γ l yX0_init cX0_init 1 3 60 0 0 h0 (.inr (ciW, [])) sz (fun w => w = [(h0, .inr (ciW, []))]) := by
  refine z_enter (by decide) rfl (by decide) ?_
  intro p e s' m args below meth c' hsz hC hmi hr hlk
  refine z_aload_n hC dX0_init_0 0 rfl 1 rfl ?_
  refine z_callIN hC 0 rfl (fun sz => c_X9_init l ciW h0 sz) ⟨w1_137, w1_6, cwd_X9_init, by decide, by decide⟩ w1_159 w1_136 rfl [] [] rfl (by decide) (by decide) (Nat.le_of_ble_eq_true rfl) (by decide) dX0_init_1 4 rfl (fun w1 hw1 => ?_)
  subst hw1
  refine z_eq (ws' := [(h0, .inr (ciW, []))]) rfl ?_
  exact z_vret hC hr hlk rfl dX0_init_4
theorem cwd_X4_init : yX4_init.cls ≠ "java/lang/invoke/MethodHandle" ∧ yX4_init.cls ≠ "java/lang/invoke/VarHandle" ∧ (parseMethodDescriptor yX4_init.desc).map (fun d => d.parameters.length) = some 0 := by decide +kernel
set_option maxHeartbeats 4000000 in
set_option maxRecDepth 100000 in
theorem c_X4_init {Γ : GC} (l : Launch) (ciW : Nat) (h0 sz : Nat) : Mz Γ l yX4_init cX4_init 1 2 40 0 0 h0 (.inr (ciW, [])) sz (fun w => w = [(h0, .inr (ciW, []))]) := by
  refine z_enter (by decide) rfl (by decide) ?_
  intro p e s' m args below meth c' hsz hC hmi hr hlk
  refine z_aload_n hC dX4_init_0 0 rfl 1 rfl ?_
  refine z_callIN hC 0 rfl (fun sz => c_X5_init l ciW h0 sz) ⟨w1_129, w1_5, cwd_X5_init, by decide, by decide⟩ w1_166 w1_128 rfl [] [] rfl (by decide) (by decide) (Nat.le_of_ble_eq_true rfl) (by decide) dX4_init_1 4 rfl (fun w1 hw1 => ?_)
  subst hw1
  refine z_eq (ws' := [(h0, .inr (ciW, []))]) rfl ?_
  exact z_vret hC hr hlk rfl dX4_init_4
theorem GJ_one (Γ : GC) {a : Nat → Nat} : GJ (atG Γ a [1]) := ⟨List.nodup_cons.mpr ⟨List.not_mem_nil, List.nodup_nil⟩, fun i j hi hj _ => by rw [List.mem_singleton.mp hi, List.mem_singleton.mp hj], fun i hi => by rw [List.mem_singleton.mp hi]; decide⟩
theorem cwd_X3_init : yX3_init.cls ≠ "java/lang/invoke/MethodHandle" ∧ yX3_init.cls ≠ "java/lang/invoke/VarHandle" ∧ (parseMethodDescriptor yX3_init.desc).map (fun d => d.parameters.length) = some 0 := by decide +kernel
set_option maxHeartbeats 4000000 in
set_option maxRecDepth 100000 in
theorem c_X3_init {Γ : GC} (l : Launch) (h0 sz : Nat) : Mz Γ l yX3_init cX3_init 1 2 40 9 144 h0 (.inr (3, blM)) sz (fun w => ∃ a : Nat → Nat, a 0 = h0 ∧ w = lsM Γ a u0M) := by
  refine z_enter (by decide) rfl (by decide) ?_
  intro p e s' m args below meth c' hsz hC hmi hr hlk
  refine z_aload_n hC dX3_init_0 0 rfl 1 rfl ?_
  refine z_objInit hC w1_34 w1_27 w1_28 ⟨by decide, Nat.le_of_ble_eq_true rfl⟩ dX3_init_1 4 rfl ?_
  refine z_aload_n hC dX3_init_4 0 rfl 5 rfl ?_
  refine z_bipush hC dX3_init_5 (v := (20 : Int32)) (by decide) 7 rfl ?_
  refine z_put hC 0 rfl rfl inU3 tyX3_ok nmX3 0 (by decide) w1_38 rfl rfl rfl rfl (Nat.le_of_ble_eq_true rfl) [(h0, .inr (3, [.int (20 : Int32), .int 0, .int 0, .int 0, .int 0, .int 0, .int 0, .int 0, .null, .null, .null, .null, .null, .null, .null, .null, .null]))] rfl dX3_init_7 10 rfl ?_
  refine z_aload_n hC dX3_init_10 0 rfl 11 rfl ?_
  refine z_iconst hC dX3_init_11 (v := (0 : Int32)) (by decide) 12 rfl ?_
  refine z_put hC 0 rfl rfl inU3 tyX3_ok nmX3 1 (by decide) w1_41 rfl rfl rfl rfl (Nat.le_of_ble_eq_true rfl) [(h0, .inr (3, [.int (20 : Int32), .int (0 : Int32), .int 0, .int 0, .int 0, .int 0, .int 0, .int 0, .null, .null, .null, .null, .null, .null, .null, .null, .null]))] rfl dX3_init_12 15 rfl ?_
  refine z_aload_n hC dX3_init_15 0 rfl 16 rfl ?_
  refine z_iconst hC dX3_init_16 (v := (0 : Int32)) (by decide) 17 rfl ?_
  refine z_put hC 0 rfl rfl inU3 tyX3_ok nmX3 2 (by decide) w1_44 rfl rfl rfl rfl (Nat.le_of_ble_eq_true rfl) [(h0, .inr (3, [.int (20 : Int32), .int (0 : Int32), .int (0 : Int32), .int 0, .int 0, .int 0, .int 0, .int 0, .null, .null, .null, .null, .null, .null, .null, .null, .null]))] rfl dX3_init_17 20 rfl ?_
  refine z_aload_n hC dX3_init_20 0 rfl 21 rfl ?_
  refine z_iconst hC dX3_init_21 (v := (0 : Int32)) (by decide) 22 rfl ?_
  refine z_put hC 0 rfl rfl inU3 tyX3_ok nmX3 3 (by decide) w1_47 rfl rfl rfl rfl (Nat.le_of_ble_eq_true rfl) [(h0, .inr (3, [.int (20 : Int32), .int (0 : Int32), .int (0 : Int32), .int (0 : Int32), .int 0, .int 0, .int 0, .int 0, .null, .null, .null, .null, .null, .null, .null, .null, .null]))] rfl dX3_init_22 25 rfl ?_
  refine z_aload_n hC dX3_init_25 0 rfl 26 rfl ?_
  refine z_iconst hC dX3_init_26 (v := (0 : Int32)) (by decide) 27 rfl ?_
  refine z_put hC 0 rfl rfl inU3 tyX3_ok nmX3 4 (by decide) w1_51 rfl rfl rfl rfl (Nat.le_of_ble_eq_true rfl) [(h0, .inr (3, [.int (20 : Int32), .int (0 : Int32), .int (0 : Int32), .int (0 : Int32), .int (0 : Int32), .int 0, .int 0, .int 0, .null, .null, .null, .null, .null, .null, .null, .null, .null]))] rfl dX3_init_27 30 rfl ?_
  refine z_aload_n hC dX3_init_30 0 rfl 31 rfl ?_
  refine z_iconst hC dX3_init_31 (v := (0 : Int32)) (by decide) 32 rfl ?_
  refine z_put hC 0 rfl rfl inU3 tyX3_ok nmX3 5 (by decide) w1_53 rfl rfl rfl rfl (Nat.le_of_ble_eq_true rfl) [(h0, .inr (3, [.int (20 : Int32), .int (0 : Int32), .int (0 : Int32), .int (0 : Int32), .int (0 : Int32), .int (0 : Int32), .int 0, .int 0, .null, .null, .null, .null, .null, .null, .null, .null, .null]))] rfl dX3_init_32 35 rfl ?_
  refine z_aload_n hC dX3_init_35 0 rfl 36 rfl ?_
  refine z_iconst hC dX3_init_36 (v := (0 : Int32)) (by decide) 37 rfl ?_
  refine z_put hC 0 rfl rfl inU3 tyX3_ok nmX3 6 (by decide) w1_55 rfl rfl rfl rfl (Nat.le_of_ble_eq_true rfl) [(h0, .inr (3, [.int (20 : Int32), .int (0 : Int32), .int (0 : Int32), .int (0 : Int32), .int (0 : Int32), .int (0 : Int32), .int (0 : Int32), .int 0, .null, .null, .null, .null, .null, .null, .null, .null, .null]))] rfl dX3_init_37 40 rfl ?_
  refine z_aload_n hC dX3_init_40 0 rfl 41 rfl ?_
  refine z_iconst hC dX3_init_41 (v := (0 : Int32)) (by decide) 42 rfl ?_
  refine z_put hC 0 rfl rfl inU3 tyX3_ok nmX3 7 (by decide) w1_58 rfl rfl rfl rfl (Nat.le_of_ble_eq_true rfl) [(h0, .inr (3, [.int (20 : Int32), .int (0 : Int32), .int (0 : Int32), .int (0 : Int32), .int (0 : Int32), .int (0 : Int32), .int (0 : Int32), .int (0 : Int32), .null, .null, .null, .null, .null, .null, .null, .null, .null]))] rfl dX3_init_42 45 rfl ?_
  refine z_aload_n hC dX3_init_45 0 rfl 46 rfl ?_
  refine z_bipush hC dX3_init_46 (v := (10 : Int32)) (by decide) 48 rfl ?_
  refine z_newaI hC w1_116 10 (by decide) (by decide) (by decide) (by decide) dX3_init_48 50 rfl (fun a48 => ?_)
  refine z_eq (ws' := [(h0, .inr (3, [.int (20 : Int32), .int (0 : Int32), .int (0 : Int32), .int (0 : Int32), .int (0 : Int32), .int (0 : Int32), .int (0 : Int32), .int (0 : Int32), .null, .null, .null, .null, .null, .null, .null, .null, .null])), (a48, .inl (ca Γ 0, 10, .inl (fun _ => 0)))]) rfl ?_
  refine z_putF hC hmi 0 rfl rfl inU3 tyX3_ok nmX3 8 (by decide) w1_60 rfl rfl rfl rfl rfl (Nat.le_of_ble_eq_true rfl) [(h0, .inr (3, [.int (20 : Int32), .int (0 : Int32), .int (0 : Int32), .int (0 : Int32), .int (0 : Int32), .int (0 : Int32), .int (0 : Int32), .int (0 : Int32), .ref a48, .null, .null, .null, .null, .null, .null, .null, .null])), (a48, .inl (ca Γ 0, 10, .inl (fun _ => 0)))] rfl dX3_init_50 53 rfl ?_
  refine z_aload_n hC dX3_init_53 0 rfl 54 rfl ?_
  refine z_bipush hC dX3_init_54 (v := (10 : Int32)) (by decide) 56 rfl ?_
  refine z_newaI hC w1_116 10 (by decide) (by decide) (by decide) (by decide) dX3_init_56 58 rfl (fun a56 => ?_)
  refine z_eq (ws' := [(h0, .inr (3, [.int (20 : Int32), .int (0 : Int32), .int (0 : Int32), .int (0 : Int32), .int (0 : Int32), .int (0 : Int32), .int (0 : Int32), .int (0 : Int32), .ref a48, .null, .null, .null, .null, .null, .null, .null, .null])), (a48, .inl (ca Γ 0, 10, .inl (fun _ => 0))), (a56, .inl (ca Γ 0, 10, .inl (fun _ => 0)))]) rfl ?_
  refine z_putF hC hmi 0 rfl rfl inU3 tyX3_ok nmX3 9 (by decide) w1_61 rfl rfl rfl rfl rfl (Nat.le_of_ble_eq_true rfl) [(h0, .inr (3, [.int (20 : Int32), .int (0 : Int32), .int (0 : Int32), .int (0 : Int32), .int (0 : Int32), .int (0 : Int32), .int (0 : Int32), .int (0 : Int32), .ref a48, .ref a56, .null, .null, .null, .null, .null, .null, .null])), (a48, .inl (ca Γ 0, 10, .inl (fun _ => 0))), (a56, .inl (ca Γ 0, 10, .inl (fun _ => 0)))] rfl dX3_init_58 61 rfl ?_
  refine z_aload_n hC dX3_init_61 0 rfl 62 rfl ?_
  refine z_bipush hC dX3_init_62 (v := (8 : Int32)) (by decide) 64 rfl ?_
  refine z_newaI hC w1_116 8 (by decide) (by decide) (by decide) (by decide) dX3_init_64 66 rfl (fun a64 => ?_)
  refine z_eq (ws' := [(h0, .inr (3, [.int (20 : Int32), .int (0 : Int32), .int (0 : Int32), .int (0 : Int32), .int (0 : Int32), .int (0 : Int32), .int (0 : Int32), .int (0 : Int32), .ref a48, .ref a56, .null, .null, .null, .null, .null, .null, .null])), (a48, .inl (ca Γ 0, 10, .inl (fun _ => 0))), (a56, .inl (ca Γ 0, 10, .inl (fun _ => 0))), (a64, .inl (ca Γ 0, 8, .inl (fun _ => 0)))]) rfl ?_
  refine z_putF hC hmi 0 rfl rfl inU3 tyX3_ok nmX3 10 (by decide) w1_62 rfl rfl rfl rfl rfl (Nat.le_of_ble_eq_true rfl) [(h0, .inr (3, [.int (20 : Int32), .int (0 : Int32), .int (0 : Int32), .int (0 : Int32), .int (0 : Int32), .int (0 : Int32), .int (0 : Int32), .int (0 : Int32), .ref a48, .ref a56, .ref a64, .null, .null, .null, .null, .null, .null])), (a48, .inl (ca Γ 0, 10, .inl (fun _ => 0))), (a56, .inl (ca Γ 0, 10, .inl (fun _ => 0))), (a64, .inl (ca Γ 0, 8, .inl (fun _ => 0)))] rfl dX3_init_66 69 rfl ?_
  refine z_aload_n hC dX3_init_69 0 rfl 70 rfl ?_
  refine z_bipush hC dX3_init_70 (v := (8 : Int32)) (by decide) 72 rfl ?_
  refine z_newaI hC w1_116 8 (by decide) (by decide) (by decide) (by decide) dX3_init_72 74 rfl (fun a72 => ?_)
  refine z_eq (ws' := [(h0, .inr (3, [.int (20 : Int32), .int (0 : Int32), .int (0 : Int32), .int (0 : Int32), .int (0 : Int32), .int (0 : Int32), .int (0 : Int32), .int (0 : Int32), .ref a48, .ref a56, .ref a64, .null, .null, .null, .null, .null, .null])), (a48, .inl (ca Γ 0, 10, .inl (fun _ => 0))), (a56, .inl (ca Γ 0, 10, .inl (fun _ => 0))), (a64, .inl (ca Γ 0, 8, .inl (fun _ => 0))), (a72, .inl (ca Γ 0, 8, .inl (fun _ => 0)))]) rfl ?_
  refine z_putF hC hmi 0 rfl rfl inU3 tyX3_ok nmX3 11 (by decide) w1_65 rfl rfl rfl rfl rfl (Nat.le_of_ble_eq_true rfl) [(h0, .inr (3, [.int (20 : Int32), .int (0 : Int32), .int (0 : Int32), .int (0 : Int32), .int (0 : Int32), .int (0 : Int32), .int (0 : Int32), .int (0 : Int32), .ref a48, .ref a56, .ref a64, .ref a72, .null, .null, .null, .null, .null])), (a48, .inl (ca Γ 0, 10, .inl (fun _ => 0))), (a56, .inl (ca Γ 0, 10, .inl (fun _ => 0))), (a64, .inl (ca Γ 0, 8, .inl (fun _ => 0))), (a72, .inl (ca Γ 0, 8, .inl (fun _ => 0)))] rfl dX3_init_74 77 rfl ?_
  refine z_aload_n hC dX3_init_77 0 rfl 78 rfl ?_
  refine z_bipush hC dX3_init_78 (v := (8 : Int32)) (by decide) 80 rfl ?_
  refine z_newaI hC w1_116 8 (by decide) (by decide) (by decide) (by decide) dX3_init_80 82 rfl (fun a80 => ?_)
  refine z_eq (ws' := [(h0, .inr (3, [.int (20 : Int32), .int (0 : Int32), .int (0 : Int32), .int (0 : Int32), .int (0 : Int32), .int (0 : Int32), .int (0 : Int32), .int (0 : Int32), .ref a48, .ref a56, .ref a64, .ref a72, .null, .null, .null, .null, .null])), (a48, .inl (ca Γ 0, 10, .inl (fun _ => 0))), (a56, .inl (ca Γ 0, 10, .inl (fun _ => 0))), (a64, .inl (ca Γ 0, 8, .inl (fun _ => 0))), (a72, .inl (ca Γ 0, 8, .inl (fun _ => 0))), (a80, .inl (ca Γ 0, 8, .inl (fun _ => 0)))]) rfl ?_
  refine z_putF hC hmi 0 rfl rfl inU3 tyX3_ok nmX3 12 (by decide) w1_68 rfl rfl rfl rfl rfl (Nat.le_of_ble_eq_true rfl) [(h0, .inr (3, [.int (20 : Int32), .int (0 : Int32), .int (0 : Int32), .int (0 : Int32), .int (0 : Int32), .int (0 : Int32), .int (0 : Int32), .int (0 : Int32), .ref a48, .ref a56, .ref a64, .ref a72, .ref a80, .null, .null, .null, .null])), (a48, .inl (ca Γ 0, 10, .inl (fun _ => 0))), (a56, .inl (ca Γ 0, 10, .inl (fun _ => 0))), (a64, .inl (ca Γ 0, 8, .inl (fun _ => 0))), (a72, .inl (ca Γ 0, 8, .inl (fun _ => 0))), (a80, .inl (ca Γ 0, 8, .inl (fun _ => 0)))] rfl dX3_init_82 85 rfl ?_
  refine z_aload_n hC dX3_init_85 0 rfl 86 rfl ?_
  refine z_bipush hC dX3_init_86 (v := (8 : Int32)) (by decide) 88 rfl ?_
  refine z_newaI hC w1_116 8 (by decide) (by decide) (by decide) (by decide) dX3_init_88 90 rfl (fun a88 => ?_)
  refine z_eq (ws' := [(h0, .inr (3, [.int (20 : Int32), .int (0 : Int32), .int (0 : Int32), .int (0 : Int32), .int (0 : Int32), .int (0 : Int32), .int (0 : Int32), .int (0 : Int32), .ref a48, .ref a56, .ref a64, .ref a72, .ref a80, .null, .null, .null, .null])), (a48, .inl (ca Γ 0, 10, .inl (fun _ => 0))), (a56, .inl (ca Γ 0, 10, .inl (fun _ => 0))), (a64, .inl (ca Γ 0, 8, .inl (fun _ => 0))), (a72, .inl (ca Γ 0, 8, .inl (fun _ => 0))), (a80, .inl (ca Γ 0, 8, .inl (fun _ => 0))), (a88, .inl (ca Γ 0, 8, .inl (fun _ => 0)))]) rfl ?_
  refine z_putF hC hmi 0 rfl rfl inU3 tyX3_ok nmX3 13 (by decide) w1_71 rfl rfl rfl rfl rfl (Nat.le_of_ble_eq_true rfl) [(h0, .inr (3, [.int (20 : Int32), .int (0 : Int32), .int (0 : Int32), .int (0 : Int32), .int (0 : Int32), .int (0 : Int32), .int (0 : Int32), .int (0 : Int32), .ref a48, .ref a56, .ref a64, .ref a72, .ref a80, .ref a88, .null, .null, .null])), (a48, .inl (ca Γ 0, 10, .inl (fun _ => 0))), (a56, .inl (ca Γ 0, 10, .inl (fun _ => 0))), (a64, .inl (ca Γ 0, 8, .inl (fun _ => 0))), (a72, .inl (ca Γ 0, 8, .inl (fun _ => 0))), (a80, .inl (ca Γ 0, 8, .inl (fun _ => 0))), (a88, .inl (ca Γ 0, 8, .inl (fun _ => 0)))] rfl dX3_init_90 93 rfl ?_
  refine z_aload_n hC dX3_init_93 0 rfl 94 rfl ?_
  refine z_bipush hC dX3_init_94 (v := (6 : Int32)) (by decide) 96 rfl ?_
  refine z_newaI hC w1_116 6 (by decide) (by decide) (by decide) (by decide) dX3_init_96 98 rfl (fun a96 => ?_)
  refine z_eq (ws' := [(h0, .inr (3, [.int (20 : Int32), .int (0 : Int32), .int (0 : Int32), .int (0 : Int32), .int (0 : Int32), .int (0 : Int32), .int (0 : Int32), .int (0 : Int32), .ref a48, .ref a56, .ref a64, .ref a72, .ref a80, .ref a88, .null, .null, .null])), (a48, .inl (ca Γ 0, 10, .inl (fun _ => 0))), (a56, .inl (ca Γ 0, 10, .inl (fun _ => 0))), (a64, .inl (ca Γ 0, 8, .inl (fun _ => 0))), (a72, .inl (ca Γ 0, 8, .inl (fun _ => 0))), (a80, .inl (ca Γ 0, 8, .inl (fun _ => 0))), (a88, .inl (ca Γ 0, 8, .inl (fun _ => 0))), (a96, .inl (ca Γ 0, 6, .inl (fun _ => 0)))]) rfl ?_
  refine z_putF hC hmi 0 rfl rfl inU3 tyX3_ok nmX3 14 (by decide) w1_74 rfl rfl rfl rfl rfl (Nat.le_of_ble_eq_true rfl) [(h0, .inr (3, [.int (20 : Int32), .int (0 : Int32), .int (0 : Int32), .int (0 : Int32), .int (0 : Int32), .int (0 : Int32), .int (0 : Int32), .int (0 : Int32), .ref a48, .ref a56, .ref a64, .ref a72, .ref a80, .ref a88, .ref a96, .null, .null])), (a48, .inl (ca Γ 0, 10, .inl (fun _ => 0))), (a56, .inl (ca Γ 0, 10, .inl (fun _ => 0))), (a64, .inl (ca Γ 0, 8, .inl (fun _ => 0))), (a72, .inl (ca Γ 0, 8, .inl (fun _ => 0))), (a80, .inl (ca Γ 0, 8, .inl (fun _ => 0))), (a88, .inl (ca Γ 0, 8, .inl (fun _ => 0))), (a96, .inl (ca Γ 0, 6, .inl (fun _ => 0)))] rfl dX3_init_98 101 rfl ?_
  refine z_aload_n hC dX3_init_101 0 rfl 102 rfl ?_
  refine z_bipush hC dX3_init_102 (v := (6 : Int32)) (by decide) 104 rfl ?_
  refine z_newaI hC w1_116 6 (by decide) (by decide) (by decide) (by decide) dX3_init_104 106 rfl (fun a104 => ?_)
  refine z_eq (ws' := [(h0, .inr (3, [.int (20 : Int32), .int (0 : Int32), .int (0 : Int32), .int (0 : Int32), .int (0 : Int32), .int (0 : Int32), .int (0 : Int32), .int (0 : Int32), .ref a48, .ref a56, .ref a64, .ref a72, .ref a80, .ref a88, .ref a96, .null, .null])), (a48, .inl (ca Γ 0, 10, .inl (fun _ => 0))), (a56, .inl (ca Γ 0, 10, .inl (fun _ => 0))), (a64, .inl (ca Γ 0, 8, .inl (fun _ => 0))), (a72, .inl (ca Γ 0, 8, .inl (fun _ => 0))), (a80, .inl (ca Γ 0, 8, .inl (fun _ => 0))), (a88, .inl (ca Γ 0, 8, .inl (fun _ => 0))), (a96, .inl (ca Γ 0, 6, .inl (fun _ => 0))), (a104, .inl (ca Γ 0, 6, .inl (fun _ => 0)))]) rfl ?_
  refine z_putF hC hmi 0 rfl rfl inU3 tyX3_ok nmX3 15 (by decide) w1_77 rfl rfl rfl rfl rfl (Nat.le_of_ble_eq_true rfl) [(h0, .inr (3, [.int (20 : Int32), .int (0 : Int32), .int (0 : Int32), .int (0 : Int32), .int (0 : Int32), .int (0 : Int32), .int (0 : Int32), .int (0 : Int32), .ref a48, .ref a56, .ref a64, .ref a72, .ref a80, .ref a88, .ref a96, .ref a104, .null])), (a48, .inl (ca Γ 0, 10, .inl (fun _ => 0))), (a56, .inl (ca Γ 0, 10, .inl (fun _ => 0))), (a64, .inl (ca Γ 0, 8, .inl (fun _ => 0))), (a72, .inl (ca Γ 0, 8, .inl (fun _ => 0))), (a80, .inl (ca Γ 0, 8, .inl (fun _ => 0))), (a88, .inl (ca Γ 0, 8, .inl (fun _ => 0))), (a96, .inl (ca Γ 0, 6, .inl (fun _ => 0))), (a104, .inl (ca Γ 0, 6, .inl (fun _ => 0)))] rfl dX3_init_106 109 rfl ?_
  refine z_aload_n hC dX3_init_109 0 rfl 110 rfl ?_
  refine z_bipush hC dX3_init_110 (v := (80 : Int32)) (by decide) 112 rfl ?_
  refine z_newaI hC w1_116 80 (by decide) (by decide) (by decide) (by decide) dX3_init_112 114 rfl (fun a112 => ?_)
  refine z_eq (ws' := [(h0, .inr (3, [.int (20 : Int32), .int (0 : Int32), .int (0 : Int32), .int (0 : Int32), .int (0 : Int32), .int (0 : Int32), .int (0 : Int32), .int (0 : Int32), .ref a48, .ref a56, .ref a64, .ref a72, .ref a80, .ref a88, .ref a96, .ref a104, .null])), (a48, .inl (ca Γ 0, 10, .inl (fun _ => 0))), (a56, .inl (ca Γ 0, 10, .inl (fun _ => 0))), (a64, .inl (ca Γ 0, 8, .inl (fun _ => 0))), (a72, .inl (ca Γ 0, 8, .inl (fun _ => 0))), (a80, .inl (ca Γ 0, 8, .inl (fun _ => 0))), (a88, .inl (ca Γ 0, 8, .inl (fun _ => 0))), (a96, .inl (ca Γ 0, 6, .inl (fun _ => 0))), (a104, .inl (ca Γ 0, 6, .inl (fun _ => 0))), (a112, .inl (ca Γ 0, 80, .inl (fun _ => 0)))]) rfl ?_
  refine z_putF hC hmi 0 rfl rfl inU3 tyX3_ok nmX3 16 (by decide) w1_80 rfl rfl rfl rfl rfl (Nat.le_of_ble_eq_true rfl) [(h0, .inr (3, [.int (20 : Int32), .int (0 : Int32), .int (0 : Int32), .int (0 : Int32), .int (0 : Int32), .int (0 : Int32), .int (0 : Int32), .int (0 : Int32), .ref a48, .ref a56, .ref a64, .ref a72, .ref a80, .ref a88, .ref a96, .ref a104, .ref a112])), (a48, .inl (ca Γ 0, 10, .inl (fun _ => 0))), (a56, .inl (ca Γ 0, 10, .inl (fun _ => 0))), (a64, .inl (ca Γ 0, 8, .inl (fun _ => 0))), (a72, .inl (ca Γ 0, 8, .inl (fun _ => 0))), (a80, .inl (ca Γ 0, 8, .inl (fun _ => 0))), (a88, .inl (ca Γ 0, 8, .inl (fun _ => 0))), (a96, .inl (ca Γ 0, 6, .inl (fun _ => 0))), (a104, .inl (ca Γ 0, 6, .inl (fun _ => 0))), (a112, .inl (ca Γ 0, 80, .inl (fun _ => 0)))] rfl dX3_init_114 117 rfl ?_
  refine z_aload_n hC dX3_init_117 0 rfl 118 rfl ?_
  refine z_get hC 0 rfl rfl inU3 8 (by decide) w1_60 rfl dX3_init_118 121 rfl ?_
  refine z_bipush hC dX3_init_121 (v := (40 : Int32)) (by decide) 123 rfl ?_
  refine z_callYS (a := fun _ => a48) (ids := [1]) (σ1 := gM 0 (c0C, u0L) (sM_prices u0M (fun _ => 0))) hC (GJ_one _) (c_J7_fill_53178 (GJ_one _) l (fun z => gM 0 (c0C, u0L) (sM_prices u0M z)) 1 (List.mem_singleton.mpr rfl) 10 (fun z => cl_M_prices (k := 0) (mm := (u0M, u0M, u0M, u0M)) (u := sM_prices u0M z) (by decide) rfl) (fun z z2 => cuf_M_prices (k := 0) (mm := (u0M, u0M, u0M, u0M)) (u := u0M) (z := z) (v := z2) (by decide) rfl rfl) (40 : Int32) (fun _ => 0) _ (fill_spec 10 (by decide) (40 : Int32) (fun _ => 0))) ⟨w1_37, w1_3, cwd_J7_fill_53178, by decide, by decide⟩ w1_35 w1_36 rfl [1] [0, 2, 3, 4, 5, 6, 7, 8, 9] [(h0, .inr (3, [.int (20 : Int32), .int (0 : Int32), .int (0 : Int32), .int (0 : Int32), .int (0 : Int32), .int (0 : Int32), .int (0 : Int32), .int (0 : Int32), .ref a48, .ref a56, .ref a64, .ref a72, .ref a80, .ref a88, .ref a96, .ref a104, .ref a112])), (a56, .inl (ca Γ 0, 10, .inl (fun _ => 0))), (a64, .inl (ca Γ 0, 8, .inl (fun _ => 0))), (a72, .inl (ca Γ 0, 8, .inl (fun _ => 0))), (a80, .inl (ca Γ 0, 8, .inl (fun _ => 0))), (a88, .inl (ca Γ 0, 8, .inl (fun _ => 0))), (a96, .inl (ca Γ 0, 6, .inl (fun _ => 0))), (a104, .inl (ca Γ 0, 6, .inl (fun _ => 0))), (a112, .inl (ca Γ 0, 80, .inl (fun _ => 0)))] rfl rfl (by decide) (by decide) rfl (Nat.le_of_ble_eq_true rfl) (by decide) dX3_init_123 126 rfl ?_
  refine z_eq (ws' := [(h0, .inr (3, [.int (20 : Int32), .int (0 : Int32), .int (0 : Int32), .int (0 : Int32), .int (0 : Int32), .int (0 : Int32), .int (0 : Int32), .int (0 : Int32), .ref a48, .ref a56, .ref a64, .ref a72, .ref a80, .ref a88, .ref a96, .ref a104, .ref a112])), (a56, .inl (ca Γ 0, 10, .inl (fun _ => 0))), (a64, .inl (ca Γ 0, 8, .inl (fun _ => 0))), (a72, .inl (ca Γ 0, 8, .inl (fun _ => 0))), (a80, .inl (ca Γ 0, 8, .inl (fun _ => 0))), (a88, .inl (ca Γ 0, 8, .inl (fun _ => 0))), (a96, .inl (ca Γ 0, 6, .inl (fun _ => 0))), (a104, .inl (ca Γ 0, 6, .inl (fun _ => 0))), (a112, .inl (ca Γ 0, 80, .inl (fun _ => 0))), (a48, .inl (ca Γ 0, 10, .inl (fun j => if j < 10 then (40 : Int32) else 0)))]) rfl ?_
  refine z_perm [0, 9, 1, 2, 3, 4, 5, 6, 7, 8] (by decide) (ws' := lsM Γ (fun j => ([h0, a48, a56, a64, a72, a80, a88, a96, a104, a112] : List Nat).getD j 0) u0M) rfl rfl ?_
  exact z_vret hC hr hlk ⟨(fun j => ([h0, a48, a56, a64, a72, a80, a88, a96, a104, a112] : List Nat).getD j 0), rfl, rfl⟩ dX3_init_126
theorem cwd_X2_init : yX2_init.cls ≠ "java/lang/invoke/MethodHandle" ∧ yX2_init.cls ≠ "java/lang/invoke/VarHandle" ∧ (parseMethodDescriptor yX2_init.desc).map (fun d => d.parameters.length) = some 0 := by decide +kernel
set_option maxHeartbeats 4000000 in
set_option maxRecDepth 100000 in
theorem c_X2_init {Γ : GC} (l : Launch) (h0 sz : Nat) : Mz Γ l yX2_init cX2_init 1 4 80 15 72 h0 (.inr (2, blD)) sz (fun w => ∃ a : Nat → Nat, a 0 = h0 ∧ ∃ f : Nat → Option Nat, (∀ j, j < 6 → f j = some (a (10 + j))) ∧ w = lsD Γ a u0D f) := by
  refine z_enter (by decide) rfl (by decide) ?_
  intro p e s' m args below meth c' hsz hC hmi hr hlk
  refine z_aload_n hC dX2_init_0 0 rfl 1 rfl ?_
  refine z_objInit hC w1_123 w1_27 w1_28 ⟨by decide, Nat.le_of_ble_eq_true rfl⟩ dX2_init_1 4 rfl ?_
  refine z_aload_n hC dX2_init_4 0 rfl 5 rfl ?_
  refine z_bipush hC dX2_init_5 (v := (6 : Int32)) (by decide) 7 rfl ?_
  refine z_newq hC 2 rfl hC.2.2.2.2.2.2.1.2.2 w1_124 6 (by decide) (by decide) (by decide) (by decide) dX2_init_7 10 rfl (fun a7 => ?_)
  refine z_eq (ws' := [(h0, .inr (2, blD)), (a7, .inl (ca Γ 2, 6, .inr (.inr (.inr (.inr (fun _ => none))))))]) rfl ?_
  refine z_dup hC dX2_init_10 rfl 11 rfl ?_
  refine z_iconst hC dX2_init_11 (v := (0 : Int32)) (by decide) 12 rfl ?_
  refine z_new hC 5 inU5 tyX5_ok w1_124 w1_126 w1_5 rfl (fs := []) (fun j h => absurd h (Nat.not_lt_zero j)) (by decide) dX2_init_12 15 rfl (fun a12 => ?_)
  refine z_eq (ws' := [(h0, .inr (2, blD)), (a7, .inl (ca Γ 2, 6, .inr (.inr (.inr (.inr (fun _ => none)))))), (a12, .inr (5, []))]) rfl ?_
  refine z_dup hC dX2_init_15 rfl 16 rfl ?_
  refine z_callIN hC 2 rfl (fun sz => c_X5_init l 5 a12 sz) ⟨w1_129, w1_5, cwd_X5_init, by decide, by decide⟩ w1_127 w1_128 rfl [0, 1] [(h0, .inr (2, blD)), (a7, .inl (ca Γ 2, 6, .inr (.inr (.inr (.inr (fun _ => none))))))] rfl (by decide) (by decide) (Nat.le_of_ble_eq_true rfl) (by decide) dX2_init_16 19 rfl (fun w1 hw1 => ?_)
  subst hw1
  refine z_eq (ws' := [(h0, .inr (2, blD)), (a7, .inl (ca Γ 2, 6, .inr (.inr (.inr (.inr (fun _ => none)))))), (a12, .inr (5, []))]) rfl ?_
  refine z_astq hC 1 2 2 5 rfl rfl rfl rfl (Or.inl rfl) (by decide) [(h0, .inr (2, blD)), (a7, .inl (ca Γ 2, 6, .inr (.inr (.inr (.inr (va_up (fun _ => none) 0 (some a12))))))), (a12, .inr (5, []))] rfl dX2_init_19 20 rfl ?_
  refine z_dup hC dX2_init_20 rfl 21 rfl ?_
  refine z_iconst hC dX2_init_21 (v := (1 : Int32)) (by decide) 22 rfl ?_
  refine z_new hC 9 inU9 tyX9_ok w1_133 w1_134 w1_6 rfl (fs := []) (fun j h => absurd h (Nat.not_lt_zero j)) (by decide) dX2_init_22 25 rfl (fun a22 => ?_)
  refine z_eq (ws' := [(h0, .inr (2, blD)), (a7, .inl (ca Γ 2, 6, .inr (.inr (.inr (.inr (va_up (fun _ => none) 0 (some a12))))))), (a12, .inr (5, [])), (a22, .inr (9, []))]) rfl ?_
  refine z_dup hC dX2_init_25 rfl 26 rfl ?_
  refine z_callIN hC 3 rfl (fun sz => c_X9_init l 9 a22 sz) ⟨w1_137, w1_6, cwd_X9_init, by decide, by decide⟩ w1_135 w1_136 rfl [0, 1, 2] [(h0, .inr (2, blD)), (a7, .inl (ca Γ 2, 6, .inr (.inr (.inr (.inr (va_up (fun _ => none) 0 (some a12))))))), (a12, .inr (5, []))] rfl (by decide) (by decide) (Nat.le_of_ble_eq_true rfl) (by decide) dX2_init_26 29 rfl (fun w1 hw1 => ?_)
  subst hw1
  refine z_eq (ws' := [(h0, .inr (2, blD)), (a7, .inl (ca Γ 2, 6, .inr (.inr (.inr (.inr (va_up (fun _ => none) 0 (some a12))))))), (a12, .inr (5, [])), (a22, .inr (9, []))]) rfl ?_
  refine z_astq hC 1 2 3 9 rfl rfl rfl rfl (Or.inr w5_228) (by decide) [(h0, .inr (2, blD)), (a7, .inl (ca Γ 2, 6, .inr (.inr (.inr (.inr (va_up (va_up (fun _ => none) 0 (some a12)) 1 (some a22))))))), (a12, .inr (5, [])), (a22, .inr (9, []))] rfl dX2_init_29 30 rfl ?_
  refine z_dup hC dX2_init_30 rfl 31 rfl ?_
  refine z_iconst hC dX2_init_31 (v := (2 : Int32)) (by decide) 32 rfl ?_
  refine z_new hC 1 inU1 tyX1_ok w1_140 w1_141 w1_7 rfl (fs := []) (fun j h => absurd h (Nat.not_lt_zero j)) (by decide) dX2_init_32 35 rfl (fun a32 => ?_)
  refine z_eq (ws' := [(h0, .inr (2, blD)), (a7, .inl (ca Γ 2, 6, .inr (.inr (.inr (.inr (va_up (va_up (fun _ => none) 0 (some a12)) 1 (some a22))))))), (a12, .inr (5, [])), (a22, .inr (9, [])), (a32, .inr (1, []))]) rfl ?_
  refine z_dup hC dX2_init_35 rfl 36 rfl ?_
  refine z_callIN hC 4 rfl (fun sz => c_X1_init l 1 a32 sz) ⟨w1_144, w1_7, cwd_X1_init, by decide, by decide⟩ w1_142 w1_143 rfl [0, 1, 2, 3] [(h0, .inr (2, blD)), (a7, .inl (ca Γ 2, 6, .inr (.inr (.inr (.inr (va_up (va_up (fun _ => none) 0 (some a12)) 1 (some a22))))))), (a12, .inr (5, [])), (a22, .inr (9, []))] rfl (by decide) (by decide) (Nat.le_of_ble_eq_true rfl) (by decide) dX2_init_36 39 rfl (fun w1 hw1 => ?_)
  subst hw1
  refine z_eq (ws' := [(h0, .inr (2, blD)), (a7, .inl (ca Γ 2, 6, .inr (.inr (.inr (.inr (va_up (va_up (fun _ => none) 0 (some a12)) 1 (some a22))))))), (a12, .inr (5, [])), (a22, .inr (9, [])), (a32, .inr (1, []))]) rfl ?_
  refine z_astq hC 1 2 4 1 rfl rfl rfl rfl (Or.inr w5_229) (by decide) [(h0, .inr (2, blD)), (a7, .inl (ca Γ 2, 6, .inr (.inr (.inr (.inr (va_up (va_up (va_up (fun _ => none) 0 (some a12)) 1 (some a22)) 2 (some a32))))))), (a12, .inr (5, [])), (a22, .inr (9, [])), (a32, .inr (1, []))] rfl dX2_init_39 40 rfl ?_
  refine z_dup hC dX2_init_40 rfl 41 rfl ?_
  refine z_iconst hC dX2_init_41 (v := (3 : Int32)) (by decide) 42 rfl ?_
  refine z_new hC 7 inU7 tyX7_ok w1_147 w1_148 w1_8 rfl (fs := []) (fun j h => absurd h (Nat.not_lt_zero j)) (by decide) dX2_init_42 45 rfl (fun a42 => ?_)
  refine z_eq (ws' := [(h0, .inr (2, blD)), (a7, .inl (ca Γ 2, 6, .inr (.inr (.inr (.inr (va_up (va_up (va_up (fun _ => none) 0 (some a12)) 1 (some a22)) 2 (some a32))))))), (a12, .inr (5, [])), (a22, .inr (9, [])), (a32, .inr (1, [])), (a42, .inr (7, []))]) rfl ?_
  refine z_dup hC dX2_init_45 rfl 46 rfl ?_
  refine z_callIN hC 5 rfl (fun sz => c_X7_init l 7 a42 sz) ⟨w1_151, w1_8, cwd_X7_init, by decide, by decide⟩ w1_149 w1_150 rfl [0, 1, 2, 3, 4] [(h0, .inr (2, blD)), (a7, .inl (ca Γ 2, 6, .inr (.inr (.inr (.inr (va_up (va_up (va_up (fun _ => none) 0 (some a12)) 1 (some a22)) 2 (some a32))))))), (a12, .inr (5, [])), (a22, .inr (9, [])), (a32, .inr (1, []))] rfl (by decide) (by decide) (Nat.le_of_ble_eq_true rfl) (by decide) dX2_init_46 49 rfl (fun w1 hw1 => ?_)
  subst hw1
  refine z_eq (ws' := [(h0, .inr (2, blD)), (a7, .inl (ca Γ 2, 6, .inr (.inr (.inr (.inr (va_up (va_up (va_up (fun _ => none) 0 (some a12)) 1 (some a22)) 2 (some a32))))))), (a12, .inr (5, [])), (a22, .inr (9, [])), (a32, .inr (1, [])), (a42, .inr (7, []))]) rfl ?_
  refine z_astq hC 1 2 5 7 rfl rfl rfl rfl (Or.inr w5_230) (by decide) [(h0, .inr (2, blD)), (a7, .inl (ca Γ 2, 6, .inr (.inr (.inr (.inr (va_up (va_up (va_up (va_up (fun _ => none) 0 (some a12)) 1 (some a22)) 2 (some a32)) 3 (some a42))))))), (a12, .inr (5, [])), (a22, .inr (9, [])), (a32, .inr (1, [])), (a42, .inr (7, []))] rfl dX2_init_49 50 rfl ?_
  refine z_dup hC dX2_init_50 rfl 51 rfl ?_
  refine z_iconst hC dX2_init_51 (v := (4 : Int32)) (by decide) 52 rfl ?_
  refine z_new hC 0 inU0 tyX0_ok w1_154 w1_155 w1_9 rfl (fs := []) (fun j h => absurd h (Nat.not_lt_zero j)) (by decide) dX2_init_52 55 rfl (fun a52 => ?_)
  refine z_eq (ws' := [(h0, .inr (2, blD)), (a7, .inl (ca Γ 2, 6, .inr (.inr (.inr (.inr (va_up (va_up (va_up (va_up (fun _ => none) 0 (some a12)) 1 (some a22)) 2 (some a32)) 3 (some a42))))))), (a12, .inr (5, [])), (a22, .inr (9, [])), (a32, .inr (1, [])), (a42, .inr (7, [])), (a52, .inr (0, []))]) rfl ?_
  refine z_dup hC dX2_init_55 rfl 56 rfl ?_
  refine z_callIN hC 6 rfl (fun sz => c_X0_init l 0 a52 sz) ⟨w1_158, w1_9, cwd_X0_init, by decide, by decide⟩ w1_156 w1_157 rfl [0, 1, 2, 3, 4, 5] [(h0, .inr (2, blD)), (a7, .inl (ca Γ 2, 6, .inr (.inr (.inr (.inr (va_up (va_up (va_up (va_up (fun _ => none) 0 (some a12)) 1 (some a22)) 2 (some a32)) 3 (some a42))))))), (a12, .inr (5, [])), (a22, .inr (9, [])), (a32, .inr (1, [])), (a42, .inr (7, []))] rfl (by decide) (by decide) (Nat.le_of_ble_eq_true rfl) (by decide) dX2_init_56 59 rfl (fun w1 hw1 => ?_)
  subst hw1
  refine z_eq (ws' := [(h0, .inr (2, blD)), (a7, .inl (ca Γ 2, 6, .inr (.inr (.inr (.inr (va_up (va_up (va_up (va_up (fun _ => none) 0 (some a12)) 1 (some a22)) 2 (some a32)) 3 (some a42))))))), (a12, .inr (5, [])), (a22, .inr (9, [])), (a32, .inr (1, [])), (a42, .inr (7, [])), (a52, .inr (0, []))]) rfl ?_
  refine z_astq hC 1 2 6 0 rfl rfl rfl rfl (Or.inr w5_231) (by decide) [(h0, .inr (2, blD)), (a7, .inl (ca Γ 2, 6, .inr (.inr (.inr (.inr (va_up (va_up (va_up (va_up (va_up (fun _ => none) 0 (some a12)) 1 (some a22)) 2 (some a32)) 3 (some a42)) 4 (some a52))))))), (a12, .inr (5, [])), (a22, .inr (9, [])), (a32, .inr (1, [])), (a42, .inr (7, [])), (a52, .inr (0, []))] rfl dX2_init_59 60 rfl ?_
  refine z_dup hC dX2_init_60 rfl 61 rfl ?_
  refine z_iconst hC dX2_init_61 (v := (5 : Int32)) (by decide) 62 rfl ?_
  refine z_new hC 4 inU4 tyX4_ok w1_161 w1_162 w1_10 rfl (fs := []) (fun j h => absurd h (Nat.not_lt_zero j)) (by decide) dX2_init_62 65 rfl (fun a62 => ?_)
  refine z_eq (ws' := [(h0, .inr (2, blD)), (a7, .inl (ca Γ 2, 6, .inr (.inr (.inr (.inr (va_up (va_up (va_up (va_up (va_up (fun _ => none) 0 (some a12)) 1 (some a22)) 2 (some a32)) 3 (some a42)) 4 (some a52))))))), (a12, .inr (5, [])), (a22, .inr (9, [])), (a32, .inr (1, [])), (a42, .inr (7, [])), (a52, .inr (0, [])), (a62, .inr (4, []))]) rfl ?_
  refine z_dup hC dX2_init_65 rfl 66 rfl ?_
  refine z_callIN hC 7 rfl (fun sz => c_X4_init l 4 a62 sz) ⟨w1_165, w1_10, cwd_X4_init, by decide, by decide⟩ w1_163 w1_164 rfl [0, 1, 2, 3, 4, 5, 6] [(h0, .inr (2, blD)), (a7, .inl (ca Γ 2, 6, .inr (.inr (.inr (.inr (va_up (va_up (va_up (va_up (va_up (fun _ => none) 0 (some a12)) 1 (some a22)) 2 (some a32)) 3 (some a42)) 4 (some a52))))))), (a12, .inr (5, [])), (a22, .inr (9, [])), (a32, .inr (1, [])), (a42, .inr (7, [])), (a52, .inr (0, []))] rfl (by decide) (by decide) (Nat.le_of_ble_eq_true rfl) (by decide) dX2_init_66 69 rfl (fun w1 hw1 => ?_)
  subst hw1
  refine z_eq (ws' := [(h0, .inr (2, blD)), (a7, .inl (ca Γ 2, 6, .inr (.inr (.inr (.inr (va_up (va_up (va_up (va_up (va_up (fun _ => none) 0 (some a12)) 1 (some a22)) 2 (some a32)) 3 (some a42)) 4 (some a52))))))), (a12, .inr (5, [])), (a22, .inr (9, [])), (a32, .inr (1, [])), (a42, .inr (7, [])), (a52, .inr (0, [])), (a62, .inr (4, []))]) rfl ?_
  refine z_astq hC 1 2 7 4 rfl rfl rfl rfl (Or.inr w5_232) (by decide) [(h0, .inr (2, blD)), (a7, .inl (ca Γ 2, 6, .inr (.inr (.inr (.inr (va_up (va_up (va_up (va_up (va_up (va_up (fun _ => none) 0 (some a12)) 1 (some a22)) 2 (some a32)) 3 (some a42)) 4 (some a52)) 5 (some a62))))))), (a12, .inr (5, [])), (a22, .inr (9, [])), (a32, .inr (1, [])), (a42, .inr (7, [])), (a52, .inr (0, [])), (a62, .inr (4, []))] rfl dX2_init_69 70 rfl ?_
  refine z_putF hC hmi 0 rfl rfl inU2 tyX2_ok nmX2 0 (by decide) w1_168 rfl rfl rfl rfl rfl (Nat.le_of_ble_eq_true rfl) [(h0, .inr (2, [.ref a7, .null, .null, .null, .null, .null, .null, .null, .null, .int 0, .int 0, .int 0])), (a7, .inl (ca Γ 2, 6, .inr (.inr (.inr (.inr (va_up (va_up (va_up (va_up (va_up (va_up (fun _ => none) 0 (some a12)) 1 (some a22)) 2 (some a32)) 3 (some a42)) 4 (some a52)) 5 (some a62))))))), (a12, .inr (5, [])), (a22, .inr (9, [])), (a32, .inr (1, [])), (a42, .inr (7, [])), (a52, .inr (0, [])), (a62, .inr (4, []))] rfl dX2_init_70 73 rfl ?_
  refine z_aload_n hC dX2_init_73 0 rfl 74 rfl ?_
  refine z_bipush hC dX2_init_74 (v := (8 : Int32)) (by decide) 76 rfl ?_
  refine z_newaI hC w1_116 8 (by decide) (by decide) (by decide) (by decide) dX2_init_76 78 rfl (fun a76 => ?_)
  refine z_eq (ws' := [(h0, .inr (2, [.ref a7, .null, .null, .null, .null, .null, .null, .null, .null, .int 0, .int 0, .int 0])), (a7, .inl (ca Γ 2, 6, .inr (.inr (.inr (.inr (va_up (va_up (va_up (va_up (va_up (va_up (fun _ => none) 0 (some a12)) 1 (some a22)) 2 (some a32)) 3 (some a42)) 4 (some a52)) 5 (some a62))))))), (a12, .inr (5, [])), (a22, .inr (9, [])), (a32, .inr (1, [])), (a42, .inr (7, [])), (a52, .inr (0, [])), (a62, .inr (4, [])), (a76, .inl (ca Γ 0, 8, .inl (fun _ => 0)))]) rfl ?_
  refine z_putF hC hmi 0 rfl rfl inU2 tyX2_ok nmX2 1 (by decide) w1_169 rfl rfl rfl rfl rfl (Nat.le_of_ble_eq_true rfl) [(h0, .inr (2, [.ref a7, .ref a76, .null, .null, .null, .null, .null, .null, .null, .int 0, .int 0, .int 0])), (a7, .inl (ca Γ 2, 6, .inr (.inr (.inr (.inr (va_up (va_up (va_up (va_up (va_up (va_up (fun _ => none) 0 (some a12)) 1 (some a22)) 2 (some a32)) 3 (some a42)) 4 (some a52)) 5 (some a62))))))), (a12, .inr (5, [])), (a22, .inr (9, [])), (a32, .inr (1, [])), (a42, .inr (7, [])), (a52, .inr (0, [])), (a62, .inr (4, [])), (a76, .inl (ca Γ 0, 8, .inl (fun _ => 0)))] rfl dX2_init_78 81 rfl ?_
  refine z_aload_n hC dX2_init_81 0 rfl 82 rfl ?_
  refine z_bipush hC dX2_init_82 (v := (8 : Int32)) (by decide) 84 rfl ?_
  refine z_newaI hC w1_116 8 (by decide) (by decide) (by decide) (by decide) dX2_init_84 86 rfl (fun a84 => ?_)
  refine z_eq (ws' := [(h0, .inr (2, [.ref a7, .ref a76, .null, .null, .null, .null, .null, .null, .null, .int 0, .int 0, .int 0])), (a7, .inl (ca Γ 2, 6, .inr (.inr (.inr (.inr (va_up (va_up (va_up (va_up (va_up (va_up (fun _ => none) 0 (some a12)) 1 (some a22)) 2 (some a32)) 3 (some a42)) 4 (some a52)) 5 (some a62))))))), (a12, .inr (5, [])), (a22, .inr (9, [])), (a32, .inr (1, [])), (a42, .inr (7, [])), (a52, .inr (0, [])), (a62, .inr (4, [])), (a76, .inl (ca Γ 0, 8, .inl (fun _ => 0))), (a84, .inl (ca Γ 0, 8, .inl (fun _ => 0)))]) rfl ?_
  refine z_putF hC hmi 0 rfl rfl inU2 tyX2_ok nmX2 2 (by decide) w1_171 rfl rfl rfl rfl rfl (Nat.le_of_ble_eq_true rfl) [(h0, .inr (2, [.ref a7, .ref a76, .ref a84, .null, .null, .null, .null, .null, .null, .int 0, .int 0, .int 0])), (a7, .inl (ca Γ 2, 6, .inr (.inr (.inr (.inr (va_up (va_up (va_up (va_up (va_up (va_up (fun _ => none) 0 (some a12)) 1 (some a22)) 2 (some a32)) 3 (some a42)) 4 (some a52)) 5 (some a62))))))), (a12, .inr (5, [])), (a22, .inr (9, [])), (a32, .inr (1, [])), (a42, .inr (7, [])), (a52, .inr (0, [])), (a62, .inr (4, [])), (a76, .inl (ca Γ 0, 8, .inl (fun _ => 0))), (a84, .inl (ca Γ 0, 8, .inl (fun _ => 0)))] rfl dX2_init_86 89 rfl ?_
  refine z_aload_n hC dX2_init_89 0 rfl 90 rfl ?_
  refine z_bipush hC dX2_init_90 (v := (8 : Int32)) (by decide) 92 rfl ?_
  refine z_newaI hC w1_116 8 (by decide) (by decide) (by decide) (by decide) dX2_init_92 94 rfl (fun a92 => ?_)
  refine z_eq (ws' := [(h0, .inr (2, [.ref a7, .ref a76, .ref a84, .null, .null, .null, .null, .null, .null, .int 0, .int 0, .int 0])), (a7, .inl (ca Γ 2, 6, .inr (.inr (.inr (.inr (va_up (va_up (va_up (va_up (va_up (va_up (fun _ => none) 0 (some a12)) 1 (some a22)) 2 (some a32)) 3 (some a42)) 4 (some a52)) 5 (some a62))))))), (a12, .inr (5, [])), (a22, .inr (9, [])), (a32, .inr (1, [])), (a42, .inr (7, [])), (a52, .inr (0, [])), (a62, .inr (4, [])), (a76, .inl (ca Γ 0, 8, .inl (fun _ => 0))), (a84, .inl (ca Γ 0, 8, .inl (fun _ => 0))), (a92, .inl (ca Γ 0, 8, .inl (fun _ => 0)))]) rfl ?_
  refine z_putF hC hmi 0 rfl rfl inU2 tyX2_ok nmX2 3 (by decide) w1_173 rfl rfl rfl rfl rfl (Nat.le_of_ble_eq_true rfl) [(h0, .inr (2, [.ref a7, .ref a76, .ref a84, .ref a92, .null, .null, .null, .null, .null, .int 0, .int 0, .int 0])), (a7, .inl (ca Γ 2, 6, .inr (.inr (.inr (.inr (va_up (va_up (va_up (va_up (va_up (va_up (fun _ => none) 0 (some a12)) 1 (some a22)) 2 (some a32)) 3 (some a42)) 4 (some a52)) 5 (some a62))))))), (a12, .inr (5, [])), (a22, .inr (9, [])), (a32, .inr (1, [])), (a42, .inr (7, [])), (a52, .inr (0, [])), (a62, .inr (4, [])), (a76, .inl (ca Γ 0, 8, .inl (fun _ => 0))), (a84, .inl (ca Γ 0, 8, .inl (fun _ => 0))), (a92, .inl (ca Γ 0, 8, .inl (fun _ => 0)))] rfl dX2_init_94 97 rfl ?_
  refine z_aload_n hC dX2_init_97 0 rfl 98 rfl ?_
  refine z_bipush hC dX2_init_98 (v := (8 : Int32)) (by decide) 100 rfl ?_
  refine z_newaZ hC w1_132 8 (by decide) (by decide) (by decide) (by decide) dX2_init_100 102 rfl (fun a100 => ?_)
  refine z_eq (ws' := [(h0, .inr (2, [.ref a7, .ref a76, .ref a84, .ref a92, .null, .null, .null, .null, .null, .int 0, .int 0, .int 0])), (a7, .inl (ca Γ 2, 6, .inr (.inr (.inr (.inr (va_up (va_up (va_up (va_up (va_up (va_up (fun _ => none) 0 (some a12)) 1 (some a22)) 2 (some a32)) 3 (some a42)) 4 (some a52)) 5 (some a62))))))), (a12, .inr (5, [])), (a22, .inr (9, [])), (a32, .inr (1, [])), (a42, .inr (7, [])), (a52, .inr (0, [])), (a62, .inr (4, [])), (a76, .inl (ca Γ 0, 8, .inl (fun _ => 0))), (a84, .inl (ca Γ 0, 8, .inl (fun _ => 0))), (a92, .inl (ca Γ 0, 8, .inl (fun _ => 0))), (a100, .inl (ca Γ 1, 8, .inl (fun _ => 0)))]) rfl ?_
  refine z_putF hC hmi 0 rfl rfl inU2 tyX2_ok nmX2 4 (by decide) w1_175 rfl rfl rfl rfl rfl (Nat.le_of_ble_eq_true rfl) [(h0, .inr (2, [.ref a7, .ref a76, .ref a84, .ref a92, .ref a100, .null, .null, .null, .null, .int 0, .int 0, .int 0])), (a7, .inl (ca Γ 2, 6, .inr (.inr (.inr (.inr (va_up (va_up (va_up (va_up (va_up (va_up (fun _ => none) 0 (some a12)) 1 (some a22)) 2 (some a32)) 3 (some a42)) 4 (some a52)) 5 (some a62))))))), (a12, .inr (5, [])), (a22, .inr (9, [])), (a32, .inr (1, [])), (a42, .inr (7, [])), (a52, .inr (0, [])), (a62, .inr (4, [])), (a76, .inl (ca Γ 0, 8, .inl (fun _ => 0))), (a84, .inl (ca Γ 0, 8, .inl (fun _ => 0))), (a92, .inl (ca Γ 0, 8, .inl (fun _ => 0))), (a100, .inl (ca Γ 1, 8, .inl (fun _ => 0)))] rfl dX2_init_102 105 rfl ?_
  refine z_aload_n hC dX2_init_105 0 rfl 106 rfl ?_
  refine z_bipush hC dX2_init_106 (v := (8 : Int32)) (by decide) 108 rfl ?_
  refine z_newaI hC w1_116 8 (by decide) (by decide) (by decide) (by decide) dX2_init_108 110 rfl (fun a108 => ?_)
  refine z_eq (ws' := [(h0, .inr (2, [.ref a7, .ref a76, .ref a84, .ref a92, .ref a100, .null, .null, .null, .null, .int 0, .int 0, .int 0])), (a7, .inl (ca Γ 2, 6, .inr (.inr (.inr (.inr (va_up (va_up (va_up (va_up (va_up (va_up (fun _ => none) 0 (some a12)) 1 (some a22)) 2 (some a32)) 3 (some a42)) 4 (some a52)) 5 (some a62))))))), (a12, .inr (5, [])), (a22, .inr (9, [])), (a32, .inr (1, [])), (a42, .inr (7, [])), (a52, .inr (0, [])), (a62, .inr (4, [])), (a76, .inl (ca Γ 0, 8, .inl (fun _ => 0))), (a84, .inl (ca Γ 0, 8, .inl (fun _ => 0))), (a92, .inl (ca Γ 0, 8, .inl (fun _ => 0))), (a100, .inl (ca Γ 1, 8, .inl (fun _ => 0))), (a108, .inl (ca Γ 0, 8, .inl (fun _ => 0)))]) rfl ?_
  refine z_putF hC hmi 0 rfl rfl inU2 tyX2_ok nmX2 5 (by decide) w1_176 rfl rfl rfl rfl rfl (Nat.le_of_ble_eq_true rfl) [(h0, .inr (2, [.ref a7, .ref a76, .ref a84, .ref a92, .ref a100, .ref a108, .null, .null, .null, .int 0, .int 0, .int 0])), (a7, .inl (ca Γ 2, 6, .inr (.inr (.inr (.inr (va_up (va_up (va_up (va_up (va_up (va_up (fun _ => none) 0 (some a12)) 1 (some a22)) 2 (some a32)) 3 (some a42)) 4 (some a52)) 5 (some a62))))))), (a12, .inr (5, [])), (a22, .inr (9, [])), (a32, .inr (1, [])), (a42, .inr (7, [])), (a52, .inr (0, [])), (a62, .inr (4, [])), (a76, .inl (ca Γ 0, 8, .inl (fun _ => 0))), (a84, .inl (ca Γ 0, 8, .inl (fun _ => 0))), (a92, .inl (ca Γ 0, 8, .inl (fun _ => 0))), (a100, .inl (ca Γ 1, 8, .inl (fun _ => 0))), (a108, .inl (ca Γ 0, 8, .inl (fun _ => 0)))] rfl dX2_init_110 113 rfl ?_
  refine z_aload_n hC dX2_init_113 0 rfl 114 rfl ?_
  refine z_bipush hC dX2_init_114 (v := (10 : Int32)) (by decide) 116 rfl ?_
  refine z_newaI hC w1_116 10 (by decide) (by decide) (by decide) (by decide) dX2_init_116 118 rfl (fun a116 => ?_)
  refine z_eq (ws' := [(h0, .inr (2, [.ref a7, .ref a76, .ref a84, .ref a92, .ref a100, .ref a108, .null, .null, .null, .int 0, .int 0, .int 0])), (a7, .inl (ca Γ 2, 6, .inr (.inr (.inr (.inr (va_up (va_up (va_up (va_up (va_up (va_up (fun _ => none) 0 (some a12)) 1 (some a22)) 2 (some a32)) 3 (some a42)) 4 (some a52)) 5 (some a62))))))), (a12, .inr (5, [])), (a22, .inr (9, [])), (a32, .inr (1, [])), (a42, .inr (7, [])), (a52, .inr (0, [])), (a62, .inr (4, [])), (a76, .inl (ca Γ 0, 8, .inl (fun _ => 0))), (a84, .inl (ca Γ 0, 8, .inl (fun _ => 0))), (a92, .inl (ca Γ 0, 8, .inl (fun _ => 0))), (a100, .inl (ca Γ 1, 8, .inl (fun _ => 0))), (a108, .inl (ca Γ 0, 8, .inl (fun _ => 0))), (a116, .inl (ca Γ 0, 10, .inl (fun _ => 0)))]) rfl ?_
  refine z_putF hC hmi 0 rfl rfl inU2 tyX2_ok nmX2 6 (by decide) w1_177 rfl rfl rfl rfl rfl (Nat.le_of_ble_eq_true rfl) [(h0, .inr (2, [.ref a7, .ref a76, .ref a84, .ref a92, .ref a100, .ref a108, .ref a116, .null, .null, .int 0, .int 0, .int 0])), (a7, .inl (ca Γ 2, 6, .inr (.inr (.inr (.inr (va_up (va_up (va_up (va_up (va_up (va_up (fun _ => none) 0 (some a12)) 1 (some a22)) 2 (some a32)) 3 (some a42)) 4 (some a52)) 5 (some a62))))))), (a12, .inr (5, [])), (a22, .inr (9, [])), (a32, .inr (1, [])), (a42, .inr (7, [])), (a52, .inr (0, [])), (a62, .inr (4, [])), (a76, .inl (ca Γ 0, 8, .inl (fun _ => 0))), (a84, .inl (ca Γ 0, 8, .inl (fun _ => 0))), (a92, .inl (ca Γ 0, 8, .inl (fun _ => 0))), (a100, .inl (ca Γ 1, 8, .inl (fun _ => 0))), (a108, .inl (ca Γ 0, 8, .inl (fun _ => 0))), (a116, .inl (ca Γ 0, 10, .inl (fun _ => 0)))] rfl dX2_init_118 121 rfl ?_
  refine z_aload_n hC dX2_init_121 0 rfl 122 rfl ?_
  refine z_bipush hC dX2_init_122 (v := (8 : Int32)) (by decide) 124 rfl ?_
  refine z_newaI hC w1_116 8 (by decide) (by decide) (by decide) (by decide) dX2_init_124 126 rfl (fun a124 => ?_)
  refine z_eq (ws' := [(h0, .inr (2, [.ref a7, .ref a76, .ref a84, .ref a92, .ref a100, .ref a108, .ref a116, .null, .null, .int 0, .int 0, .int 0])), (a7, .inl (ca Γ 2, 6, .inr (.inr (.inr (.inr (va_up (va_up (va_up (va_up (va_up (va_up (fun _ => none) 0 (some a12)) 1 (some a22)) 2 (some a32)) 3 (some a42)) 4 (some a52)) 5 (some a62))))))), (a12, .inr (5, [])), (a22, .inr (9, [])), (a32, .inr (1, [])), (a42, .inr (7, [])), (a52, .inr (0, [])), (a62, .inr (4, [])), (a76, .inl (ca Γ 0, 8, .inl (fun _ => 0))), (a84, .inl (ca Γ 0, 8, .inl (fun _ => 0))), (a92, .inl (ca Γ 0, 8, .inl (fun _ => 0))), (a100, .inl (ca Γ 1, 8, .inl (fun _ => 0))), (a108, .inl (ca Γ 0, 8, .inl (fun _ => 0))), (a116, .inl (ca Γ 0, 10, .inl (fun _ => 0))), (a124, .inl (ca Γ 0, 8, .inl (fun _ => 0)))]) rfl ?_
  refine z_putF hC hmi 0 rfl rfl inU2 tyX2_ok nmX2 7 (by decide) w1_178 rfl rfl rfl rfl rfl (Nat.le_of_ble_eq_true rfl) [(h0, .inr (2, [.ref a7, .ref a76, .ref a84, .ref a92, .ref a100, .ref a108, .ref a116, .ref a124, .null, .int 0, .int 0, .int 0])), (a7, .inl (ca Γ 2, 6, .inr (.inr (.inr (.inr (va_up (va_up (va_up (va_up (va_up (va_up (fun _ => none) 0 (some a12)) 1 (some a22)) 2 (some a32)) 3 (some a42)) 4 (some a52)) 5 (some a62))))))), (a12, .inr (5, [])), (a22, .inr (9, [])), (a32, .inr (1, [])), (a42, .inr (7, [])), (a52, .inr (0, [])), (a62, .inr (4, [])), (a76, .inl (ca Γ 0, 8, .inl (fun _ => 0))), (a84, .inl (ca Γ 0, 8, .inl (fun _ => 0))), (a92, .inl (ca Γ 0, 8, .inl (fun _ => 0))), (a100, .inl (ca Γ 1, 8, .inl (fun _ => 0))), (a108, .inl (ca Γ 0, 8, .inl (fun _ => 0))), (a116, .inl (ca Γ 0, 10, .inl (fun _ => 0))), (a124, .inl (ca Γ 0, 8, .inl (fun _ => 0)))] rfl dX2_init_126 129 rfl ?_
  refine z_aload_n hC dX2_init_129 0 rfl 130 rfl ?_
  refine z_bipush hC dX2_init_130 (v := (8 : Int32)) (by decide) 132 rfl ?_
  refine z_newaI hC w1_116 8 (by decide) (by decide) (by decide) (by decide) dX2_init_132 134 rfl (fun a132 => ?_)
  refine z_eq (ws' := [(h0, .inr (2, [.ref a7, .ref a76, .ref a84, .ref a92, .ref a100, .ref a108, .ref a116, .ref a124, .null, .int 0, .int 0, .int 0])), (a7, .inl (ca Γ 2, 6, .inr (.inr (.inr (.inr (va_up (va_up (va_up (va_up (va_up (va_up (fun _ => none) 0 (some a12)) 1 (some a22)) 2 (some a32)) 3 (some a42)) 4 (some a52)) 5 (some a62))))))), (a12, .inr (5, [])), (a22, .inr (9, [])), (a32, .inr (1, [])), (a42, .inr (7, [])), (a52, .inr (0, [])), (a62, .inr (4, [])), (a76, .inl (ca Γ 0, 8, .inl (fun _ => 0))), (a84, .inl (ca Γ 0, 8, .inl (fun _ => 0))), (a92, .inl (ca Γ 0, 8, .inl (fun _ => 0))), (a100, .inl (ca Γ 1, 8, .inl (fun _ => 0))), (a108, .inl (ca Γ 0, 8, .inl (fun _ => 0))), (a116, .inl (ca Γ 0, 10, .inl (fun _ => 0))), (a124, .inl (ca Γ 0, 8, .inl (fun _ => 0))), (a132, .inl (ca Γ 0, 8, .inl (fun _ => 0)))]) rfl ?_
  refine z_putF hC hmi 0 rfl rfl inU2 tyX2_ok nmX2 8 (by decide) w1_180 rfl rfl rfl rfl rfl (Nat.le_of_ble_eq_true rfl) [(h0, .inr (2, [.ref a7, .ref a76, .ref a84, .ref a92, .ref a100, .ref a108, .ref a116, .ref a124, .ref a132, .int 0, .int 0, .int 0])), (a7, .inl (ca Γ 2, 6, .inr (.inr (.inr (.inr (va_up (va_up (va_up (va_up (va_up (va_up (fun _ => none) 0 (some a12)) 1 (some a22)) 2 (some a32)) 3 (some a42)) 4 (some a52)) 5 (some a62))))))), (a12, .inr (5, [])), (a22, .inr (9, [])), (a32, .inr (1, [])), (a42, .inr (7, [])), (a52, .inr (0, [])), (a62, .inr (4, [])), (a76, .inl (ca Γ 0, 8, .inl (fun _ => 0))), (a84, .inl (ca Γ 0, 8, .inl (fun _ => 0))), (a92, .inl (ca Γ 0, 8, .inl (fun _ => 0))), (a100, .inl (ca Γ 1, 8, .inl (fun _ => 0))), (a108, .inl (ca Γ 0, 8, .inl (fun _ => 0))), (a116, .inl (ca Γ 0, 10, .inl (fun _ => 0))), (a124, .inl (ca Γ 0, 8, .inl (fun _ => 0))), (a132, .inl (ca Γ 0, 8, .inl (fun _ => 0)))] rfl dX2_init_134 137 rfl ?_
  refine z_aload_n hC dX2_init_137 0 rfl 138 rfl ?_
  refine z_iconst hC dX2_init_138 (v := (0 : Int32)) (by decide) 139 rfl ?_
  refine z_put hC 0 rfl rfl inU2 tyX2_ok nmX2 9 (by decide) w1_182 rfl rfl rfl rfl (Nat.le_of_ble_eq_true rfl) [(h0, .inr (2, [.ref a7, .ref a76, .ref a84, .ref a92, .ref a100, .ref a108, .ref a116, .ref a124, .ref a132, .int (0 : Int32), .int 0, .int 0])), (a7, .inl (ca Γ 2, 6, .inr (.inr (.inr (.inr (va_up (va_up (va_up (va_up (va_up (va_up (fun _ => none) 0 (some a12)) 1 (some a22)) 2 (some a32)) 3 (some a42)) 4 (some a52)) 5 (some a62))))))), (a12, .inr (5, [])), (a22, .inr (9, [])), (a32, .inr (1, [])), (a42, .inr (7, [])), (a52, .inr (0, [])), (a62, .inr (4, [])), (a76, .inl (ca Γ 0, 8, .inl (fun _ => 0))), (a84, .inl (ca Γ 0, 8, .inl (fun _ => 0))), (a92, .inl (ca Γ 0, 8, .inl (fun _ => 0))), (a100, .inl (ca Γ 1, 8, .inl (fun _ => 0))), (a108, .inl (ca Γ 0, 8, .inl (fun _ => 0))), (a116, .inl (ca Γ 0, 10, .inl (fun _ => 0))), (a124, .inl (ca Γ 0, 8, .inl (fun _ => 0))), (a132, .inl (ca Γ 0, 8, .inl (fun _ => 0)))] rfl dX2_init_139 142 rfl ?_
  refine z_aload_n hC dX2_init_142 0 rfl 143 rfl ?_
  refine z_iconst hC dX2_init_143 (v := (0 : Int32)) (by decide) 144 rfl ?_
  refine z_put hC 0 rfl rfl inU2 tyX2_ok nmX2 10 (by decide) w1_184 rfl rfl rfl rfl (Nat.le_of_ble_eq_true rfl) [(h0, .inr (2, [.ref a7, .ref a76, .ref a84, .ref a92, .ref a100, .ref a108, .ref a116, .ref a124, .ref a132, .int (0 : Int32), .int (0 : Int32), .int 0])), (a7, .inl (ca Γ 2, 6, .inr (.inr (.inr (.inr (va_up (va_up (va_up (va_up (va_up (va_up (fun _ => none) 0 (some a12)) 1 (some a22)) 2 (some a32)) 3 (some a42)) 4 (some a52)) 5 (some a62))))))), (a12, .inr (5, [])), (a22, .inr (9, [])), (a32, .inr (1, [])), (a42, .inr (7, [])), (a52, .inr (0, [])), (a62, .inr (4, [])), (a76, .inl (ca Γ 0, 8, .inl (fun _ => 0))), (a84, .inl (ca Γ 0, 8, .inl (fun _ => 0))), (a92, .inl (ca Γ 0, 8, .inl (fun _ => 0))), (a100, .inl (ca Γ 1, 8, .inl (fun _ => 0))), (a108, .inl (ca Γ 0, 8, .inl (fun _ => 0))), (a116, .inl (ca Γ 0, 10, .inl (fun _ => 0))), (a124, .inl (ca Γ 0, 8, .inl (fun _ => 0))), (a132, .inl (ca Γ 0, 8, .inl (fun _ => 0)))] rfl dX2_init_144 147 rfl ?_
  refine z_aload_n hC dX2_init_147 0 rfl 148 rfl ?_
  refine z_iconst hC dX2_init_148 (v := (0 : Int32)) (by decide) 149 rfl ?_
  refine z_put hC 0 rfl rfl inU2 tyX2_ok nmX2 11 (by decide) w1_187 rfl rfl rfl rfl (Nat.le_of_ble_eq_true rfl) [(h0, .inr (2, [.ref a7, .ref a76, .ref a84, .ref a92, .ref a100, .ref a108, .ref a116, .ref a124, .ref a132, .int (0 : Int32), .int (0 : Int32), .int (0 : Int32)])), (a7, .inl (ca Γ 2, 6, .inr (.inr (.inr (.inr (va_up (va_up (va_up (va_up (va_up (va_up (fun _ => none) 0 (some a12)) 1 (some a22)) 2 (some a32)) 3 (some a42)) 4 (some a52)) 5 (some a62))))))), (a12, .inr (5, [])), (a22, .inr (9, [])), (a32, .inr (1, [])), (a42, .inr (7, [])), (a52, .inr (0, [])), (a62, .inr (4, [])), (a76, .inl (ca Γ 0, 8, .inl (fun _ => 0))), (a84, .inl (ca Γ 0, 8, .inl (fun _ => 0))), (a92, .inl (ca Γ 0, 8, .inl (fun _ => 0))), (a100, .inl (ca Γ 1, 8, .inl (fun _ => 0))), (a108, .inl (ca Γ 0, 8, .inl (fun _ => 0))), (a116, .inl (ca Γ 0, 10, .inl (fun _ => 0))), (a124, .inl (ca Γ 0, 8, .inl (fun _ => 0))), (a132, .inl (ca Γ 0, 8, .inl (fun _ => 0)))] rfl dX2_init_149 152 rfl ?_
  refine z_perm [0, 8, 9, 10, 11, 12, 13, 14, 15, 1, 2, 3, 4, 5, 6, 7] (by decide) (ws' := lsD Γ (fun j => ([h0, a76, a84, a92, a100, a108, a116, a124, a132, a7, a12, a22, a32, a42, a52, a62] : List Nat).getD j 0) u0D (va_up (va_up (va_up (va_up (va_up (va_up (fun _ => none) 0 (some a12)) 1 (some a22)) 2 (some a32)) 3 (some a42)) 4 (some a52)) 5 (some a62))) rfl rfl ?_
  exact z_vret hC hr hlk ⟨(fun j => ([h0, a76, a84, a92, a100, a108, a116, a124, a132, a7, a12, a22, a32, a42, a52, a62] : List Nat).getD j 0), rfl,  (va_up (va_up (va_up (va_up (va_up (va_up (fun _ => none) 0 (some a12)) 1 (some a22)) 2 (some a32)) 3 (some a42)) 4 (some a52)) 5 (some a62)), (fun j hj => by match j, hj with | 0, _ => rfl | 1, _ => rfl | 2, _ => rfl | 3, _ => rfl | 4, _ => rfl | 5, _ => rfl | j + 6, h => exact absurd h (by omega)), rfl⟩ dX2_init_152
theorem cwd_X8_init : yX8_init.cls ≠ "java/lang/invoke/MethodHandle" ∧ yX8_init.cls ≠ "java/lang/invoke/VarHandle" ∧ (parseMethodDescriptor yX8_init.desc).map (fun d => d.parameters.length) = some 0 := by decide +kernel
set_option maxHeartbeats 4000000 in
set_option maxRecDepth 100000 in
theorem c_X8_init {Γ : GC} (l : Launch) (h0 sz : Nat) : Mz Γ l yX8_init cX8_init 1 1 20 4 264 h0 (.inr (8, blS)) sz (fun w => ∃ a : Nat → Nat, a 0 = h0 ∧ w = lsS Γ a u0S) := by
  refine z_enter (by decide) rfl (by decide) ?_
  intro p e s' m args below meth c' hsz hC hmi hr hlk
  refine z_aload_n hC dX8_init_0 0 rfl 1 rfl ?_
  refine z_objInit hC w1_219 w1_27 w1_28 ⟨by decide, Nat.le_of_ble_eq_true rfl⟩ dX8_init_1 4 rfl ?_
  refine z_aload_n hC dX8_init_4 0 rfl 5 rfl ?_
  refine z_bipush hC dX8_init_5 (v := (121 : Int32)) (by decide) 7 rfl ?_
  refine z_newaI hC w1_116 121 (by decide) (by decide) (by decide) (by decide) dX8_init_7 9 rfl (fun a7 => ?_)
  refine z_eq (ws' := [(h0, .inr (8, blS)), (a7, .inl (ca Γ 0, 121, .inl (fun _ => 0)))]) rfl ?_
  refine z_putF hC hmi 0 rfl rfl inU8 tyX8_ok nmX8 0 (by decide) w1_220 rfl rfl rfl rfl rfl (Nat.le_of_ble_eq_true rfl) [(h0, .inr (8, [.ref a7, .null, .null, .null, .int 0, .int 0])), (a7, .inl (ca Γ 0, 121, .inl (fun _ => 0)))] rfl dX8_init_9 12 rfl ?_
  refine z_aload_n hC dX8_init_12 0 rfl 13 rfl ?_
  refine z_bipush hC dX8_init_13 (v := (121 : Int32)) (by decide) 15 rfl ?_
  refine z_newaI hC w1_116 121 (by decide) (by decide) (by decide) (by decide) dX8_init_15 17 rfl (fun a15 => ?_)
  refine z_eq (ws' := [(h0, .inr (8, [.ref a7, .null, .null, .null, .int 0, .int 0])), (a7, .inl (ca Γ 0, 121, .inl (fun _ => 0))), (a15, .inl (ca Γ 0, 121, .inl (fun _ => 0)))]) rfl ?_
  refine z_putF hC hmi 0 rfl rfl inU8 tyX8_ok nmX8 1 (by decide) w1_221 rfl rfl rfl rfl rfl (Nat.le_of_ble_eq_true rfl) [(h0, .inr (8, [.ref a7, .ref a15, .null, .null, .int 0, .int 0])), (a7, .inl (ca Γ 0, 121, .inl (fun _ => 0))), (a15, .inl (ca Γ 0, 121, .inl (fun _ => 0)))] rfl dX8_init_17 20 rfl ?_
  refine z_aload_n hC dX8_init_20 0 rfl 21 rfl ?_
  refine z_bipush hC dX8_init_21 (v := (11 : Int32)) (by decide) 23 rfl ?_
  refine z_newaI hC w1_116 11 (by decide) (by decide) (by decide) (by decide) dX8_init_23 25 rfl (fun a23 => ?_)
  refine z_eq (ws' := [(h0, .inr (8, [.ref a7, .ref a15, .null, .null, .int 0, .int 0])), (a7, .inl (ca Γ 0, 121, .inl (fun _ => 0))), (a15, .inl (ca Γ 0, 121, .inl (fun _ => 0))), (a23, .inl (ca Γ 0, 11, .inl (fun _ => 0)))]) rfl ?_
  refine z_putF hC hmi 0 rfl rfl inU8 tyX8_ok nmX8 2 (by decide) w1_222 rfl rfl rfl rfl rfl (Nat.le_of_ble_eq_true rfl) [(h0, .inr (8, [.ref a7, .ref a15, .ref a23, .null, .int 0, .int 0])), (a7, .inl (ca Γ 0, 121, .inl (fun _ => 0))), (a15, .inl (ca Γ 0, 121, .inl (fun _ => 0))), (a23, .inl (ca Γ 0, 11, .inl (fun _ => 0)))] rfl dX8_init_25 28 rfl ?_
  refine z_aload_n hC dX8_init_28 0 rfl 29 rfl ?_
  refine z_bipush hC dX8_init_29 (v := (11 : Int32)) (by decide) 31 rfl ?_
  refine z_newaI hC w1_116 11 (by decide) (by decide) (by decide) (by decide) dX8_init_31 33 rfl (fun a31 => ?_)
  refine z_eq (ws' := [(h0, .inr (8, [.ref a7, .ref a15, .ref a23, .null, .int 0, .int 0])), (a7, .inl (ca Γ 0, 121, .inl (fun _ => 0))), (a15, .inl (ca Γ 0, 121, .inl (fun _ => 0))), (a23, .inl (ca Γ 0, 11, .inl (fun _ => 0))), (a31, .inl (ca Γ 0, 11, .inl (fun _ => 0)))]) rfl ?_
  refine z_putF hC hmi 0 rfl rfl inU8 tyX8_ok nmX8 3 (by decide) w1_223 rfl rfl rfl rfl rfl (Nat.le_of_ble_eq_true rfl) [(h0, .inr (8, [.ref a7, .ref a15, .ref a23, .ref a31, .int 0, .int 0])), (a7, .inl (ca Γ 0, 121, .inl (fun _ => 0))), (a15, .inl (ca Γ 0, 121, .inl (fun _ => 0))), (a23, .inl (ca Γ 0, 11, .inl (fun _ => 0))), (a31, .inl (ca Γ 0, 11, .inl (fun _ => 0)))] rfl dX8_init_33 36 rfl ?_
  refine z_aload_n hC dX8_init_36 0 rfl 37 rfl ?_
  refine z_iconst hC dX8_init_37 (v := (0 : Int32)) (by decide) 38 rfl ?_
  refine z_put hC 0 rfl rfl inU8 tyX8_ok nmX8 4 (by decide) w1_224 rfl rfl rfl rfl (Nat.le_of_ble_eq_true rfl) [(h0, .inr (8, [.ref a7, .ref a15, .ref a23, .ref a31, .int (0 : Int32), .int 0])), (a7, .inl (ca Γ 0, 121, .inl (fun _ => 0))), (a15, .inl (ca Γ 0, 121, .inl (fun _ => 0))), (a23, .inl (ca Γ 0, 11, .inl (fun _ => 0))), (a31, .inl (ca Γ 0, 11, .inl (fun _ => 0)))] rfl dX8_init_38 41 rfl ?_
  refine z_aload_n hC dX8_init_41 0 rfl 42 rfl ?_
  refine z_iconst hC dX8_init_42 (v := (-1 : Int32)) (by decide) 43 rfl ?_
  refine z_put hC 0 rfl rfl inU8 tyX8_ok nmX8 5 (by decide) w1_226 rfl rfl rfl rfl (Nat.le_of_ble_eq_true rfl) [(h0, .inr (8, [.ref a7, .ref a15, .ref a23, .ref a31, .int (0 : Int32), .int (-1 : Int32)])), (a7, .inl (ca Γ 0, 121, .inl (fun _ => 0))), (a15, .inl (ca Γ 0, 121, .inl (fun _ => 0))), (a23, .inl (ca Γ 0, 11, .inl (fun _ => 0))), (a31, .inl (ca Γ 0, 11, .inl (fun _ => 0)))] rfl dX8_init_43 46 rfl ?_
  refine z_perm [0, 1, 2, 3, 4] (by decide) (ws' := lsS Γ (fun j => ([h0, a7, a15, a23, a31] : List Nat).getD j 0) u0S) rfl rfl ?_
  exact z_vret hC hr hlk ⟨(fun j => ([h0, a7, a15, a23, a31] : List Nat).getD j 0), rfl, rfl⟩ dX8_init_46
theorem cwd_X6_init : yX6_init.cls ≠ "java/lang/invoke/MethodHandle" ∧ yX6_init.cls ≠ "java/lang/invoke/VarHandle" ∧ (parseMethodDescriptor yX6_init.desc).map (fun d => d.parameters.length) = some 0 := by decide +kernel
set_option maxHeartbeats 4000000 in
set_option maxRecDepth 100000 in
theorem c_X6_init {Γ : GC} (l : Launch) (h0 sz : Nat) : Mz Γ l yX6_init cX6_init 1 1 20 1 150 h0 (.inr (6, blR)) sz (fun w => ∃ a : Nat → Nat, a 0 = h0 ∧ w = lsR Γ a u0R) := by
  refine z_enter (by decide) rfl (by decide) ?_
  intro p e s' m args below meth c' hsz hC hmi hr hlk
  refine z_aload_n hC dX6_init_0 0 rfl 1 rfl ?_
  refine z_objInit hC w2_6 w1_27 w1_28 ⟨by decide, Nat.le_of_ble_eq_true rfl⟩ dX6_init_1 4 rfl ?_
  refine z_aload_n hC dX6_init_4 0 rfl 5 rfl ?_
  refine z_sipush hC dX6_init_5 (v := (150 : Int32)) (by decide) 8 rfl ?_
  refine z_newaI hC w1_116 150 (by decide) (by decide) (by decide) (by decide) dX6_init_8 10 rfl (fun a8 => ?_)
  refine z_eq (ws' := [(h0, .inr (6, blR)), (a8, .inl (ca Γ 0, 150, .inl (fun _ => 0)))]) rfl ?_
  refine z_putF hC hmi 0 rfl rfl inU6 tyX6_ok nmX6 0 (by decide) w2_7 rfl rfl rfl rfl rfl (Nat.le_of_ble_eq_true rfl) [(h0, .inr (6, [.ref a8, .int 0, .int 0, .int 0, .int 0, .int 0])), (a8, .inl (ca Γ 0, 150, .inl (fun _ => 0)))] rfl dX6_init_10 13 rfl ?_
  refine z_aload_n hC dX6_init_13 0 rfl 14 rfl ?_
  refine z_iconst hC dX6_init_14 (v := (0 : Int32)) (by decide) 15 rfl ?_
  refine z_put hC 0 rfl rfl inU6 tyX6_ok nmX6 1 (by decide) w2_8 rfl rfl rfl rfl (Nat.le_of_ble_eq_true rfl) [(h0, .inr (6, [.ref a8, .int (0 : Int32), .int 0, .int 0, .int 0, .int 0])), (a8, .inl (ca Γ 0, 150, .inl (fun _ => 0)))] rfl dX6_init_15 18 rfl ?_
  refine z_aload_n hC dX6_init_18 0 rfl 19 rfl ?_
  refine z_iconst hC dX6_init_19 (v := (0 : Int32)) (by decide) 20 rfl ?_
  refine z_put hC 0 rfl rfl inU6 tyX6_ok nmX6 2 (by decide) w2_10 rfl rfl rfl rfl (Nat.le_of_ble_eq_true rfl) [(h0, .inr (6, [.ref a8, .int (0 : Int32), .int (0 : Int32), .int 0, .int 0, .int 0])), (a8, .inl (ca Γ 0, 150, .inl (fun _ => 0)))] rfl dX6_init_20 23 rfl ?_
  refine z_aload_n hC dX6_init_23 0 rfl 24 rfl ?_
  refine z_iconst hC dX6_init_24 (v := (0 : Int32)) (by decide) 25 rfl ?_
  refine z_put hC 0 rfl rfl inU6 tyX6_ok nmX6 3 (by decide) w2_11 rfl rfl rfl rfl (Nat.le_of_ble_eq_true rfl) [(h0, .inr (6, [.ref a8, .int (0 : Int32), .int (0 : Int32), .int (0 : Int32), .int 0, .int 0])), (a8, .inl (ca Γ 0, 150, .inl (fun _ => 0)))] rfl dX6_init_25 28 rfl ?_
  refine z_aload_n hC dX6_init_28 0 rfl 29 rfl ?_
  refine z_iconst hC dX6_init_29 (v := (0 : Int32)) (by decide) 30 rfl ?_
  refine z_put hC 0 rfl rfl inU6 tyX6_ok nmX6 4 (by decide) w2_12 rfl rfl rfl rfl (Nat.le_of_ble_eq_true rfl) [(h0, .inr (6, [.ref a8, .int (0 : Int32), .int (0 : Int32), .int (0 : Int32), .int (0 : Int32), .int 0])), (a8, .inl (ca Γ 0, 150, .inl (fun _ => 0)))] rfl dX6_init_30 33 rfl ?_
  refine z_aload_n hC dX6_init_33 0 rfl 34 rfl ?_
  refine z_iconst hC dX6_init_34 (v := (0 : Int32)) (by decide) 35 rfl ?_
  refine z_put hC 0 rfl rfl inU6 tyX6_ok nmX6 5 (by decide) w2_13 rfl rfl rfl rfl (Nat.le_of_ble_eq_true rfl) [(h0, .inr (6, [.ref a8, .int (0 : Int32), .int (0 : Int32), .int (0 : Int32), .int (0 : Int32), .int (0 : Int32)])), (a8, .inl (ca Γ 0, 150, .inl (fun _ => 0)))] rfl dX6_init_35 38 rfl ?_
  refine z_perm [0, 1] (by decide) (ws' := lsR Γ (fun j => ([h0, a8] : List Nat).getD j 0) u0R) rfl rfl ?_
  exact z_vret hC hr hlk ⟨(fun j => ([h0, a8] : List Nat).getD j 0), rfl, rfl⟩ dX6_init_38
