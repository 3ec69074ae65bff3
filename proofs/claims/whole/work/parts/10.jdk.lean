def f_J7_fill_53178_s5 (n : Nat) (a1 : Int32) (K5 : (Int32 × Int32 × (Nat → Int32)) → Option ((Nat → Int32))) (q5 : Int32 × Int32 × (Nat → Int32)) : Option ((Nat → Int32)) :=
  if q5.2.1 ≤ q5.1 then
    some q5.2.2
  else
    if inb q5.1 n then 
      (lt (upd q5.2.2 q5.1.toNatClampNeg a1) fun g13 => 
      (K5 ((q5.1 + (1 : Int32)), q5.2.1, g13)))
    else none
def f_J7_fill_53178 (n : Nat) (a1 : Int32) (a : Nat → Int32) : Option ((Nat → Int32)) :=
  lp (f_J7_fill_53178_s5 n a1) 1000 ((0 : Int32), (nI n), a)
theorem cwd_J7_fill_53178 : yJ7_fill_53178.cls ≠ "java/lang/invoke/MethodHandle" ∧ yJ7_fill_53178.cls ≠ "java/lang/invoke/VarHandle" ∧ (parseMethodDescriptor yJ7_fill_53178.desc).map (fun d => d.parameters.length) = some 2 := by decide +kernel
set_option maxHeartbeats 4000000 in
set_option maxRecDepth 100000 in
theorem c_J7_fill_53178 {Γ : GC} (hJ : GJ Γ) (l : Launch) (wsf : (Nat → Int32) → GSt) (ia : Nat) (hia : act Γ ia) (n : Nat) (hw1 : ∀ z, cell Γ (wsf z) ia = .inl (ca Γ 0, n, .inl z)) (hw2 : ∀ z z2, cu Γ (wsf z) ia (.inl (ca Γ 0, n, .inl z2)) (wsf z2)) (a1 : Int32) (a : Nat → Int32) (x : (Nat → Int32)) (hk : f_J7_fill_53178 n a1 a = some x) : Mt Γ l yJ7_fill_53178 cJ7_fill_53178 4 none 0 0 [.ref (ad Γ ia), .int a1] (wsf a) none (wsf x) := by
  refine y_enter (by decide) hJ (Nat.le_of_ble_eq_true rfl) [(0, .ref (ad Γ ia)), (1, .int a1)] rfl ?_
  intro p e s' m args below meth c' hC hr hlk
  have hw := fun z => And.intro (hw1 z) trivial
  have L5 : ∀ (n5 : Nat) (q5 : Int32 × Int32 × (Nat → Int32)), lp (f_J7_fill_53178_s5 n a1) n5 q5 = some x → Y Γ (GA Γ) p l e ({ frames := 0, cells := 0, slots := 0, locals := 0 } : Room) s' m args below meth c' 0 0 (MQ below (Qg Γ none (wsf x)) args s' 0 0 (GA Γ)) 4 (wsf q5.2.2) 5 [(0, .ref (ad Γ ia)), (1, .int a1), (2, .int q5.1), (3, .int q5.2.1)] [] := by
    intro n5
    induction n5 with
    | zero => intro q5 hk; exact (lp_zero hk).elim
    | succ n5 ih5 =>
      intro q5 hk
      have hk : f_J7_fill_53178_s5 n a1 (lp (f_J7_fill_53178_s5 n a1) n5) q5 = some x := (lp_succ _ _ _).symm.trans hk
      refine y_iload_n hC dJ7_fill_53178_5 2 rfl 6 rfl ?_
      refine y_iload_n hC dJ7_fill_53178_6 3 rfl 7 rfl ?_
      refine y_icmp_ge hC dJ7_fill_53178_7 20 (by decide) 10 rfl (fun h7 => ?_) (fun h7 => ?_)
      · have hk := ob_pos h7 hk
        have e := Option.some.inj hk
        exact y_vret hC hr hlk (by rw [← e]) dJ7_fill_53178_20
      · have hk := ob_neg h7 hk
        refine y_aload_n hC dJ7_fill_53178_10 0 rfl 11 rfl ?_
        refine y_iload_n hC dJ7_fill_53178_11 2 rfl 12 rfl ?_
        refine y_iload_n hC dJ7_fill_53178_12 1 rfl 13 rfl ?_
        obtain ⟨h13, hk⟩ := ob_if hk
        obtain ⟨g13, eg13, hk⟩ := ob_lt hk
        refine y_iast hC ia hia (hw q5.2.2).1 h13 (wsf g13) (by subst eg13; exact (hw2 q5.2.2 (upd q5.2.2 q5.1.toNatClampNeg a1))) dJ7_fill_53178_13 14 rfl ?_
        refine y_iinc hC dJ7_fill_53178_14 2 rfl (v := (q5.1 + (1 : Int32))) rfl (by decide) [(2, .int (q5.1 + (1 : Int32))), (0, .ref (ad Γ ia)), (1, .int a1), (3, .int q5.2.1)] rfl 17 rfl ?_
        refine y_goto hC dJ7_fill_53178_17 5 (by decide) ?_
        refine y_sub [1, 2, 0, 3] rfl ?_
        exact ih5 ((q5.1 + (1 : Int32)), q5.2.1, g13) hk
  refine y_iconst hC dJ7_fill_53178_0 (v := (0 : Int32)) (by decide) 1 rfl ?_
  refine y_istore_n hC dJ7_fill_53178_1 (by decide) [(2, .int (0 : Int32)), (0, .ref (ad Γ ia)), (1, .int a1)] rfl 2 rfl ?_
  refine y_aload_n hC dJ7_fill_53178_2 1 rfl 3 rfl ?_
  refine y_alen hC ia hia (hw a).1 dJ7_fill_53178_3 4 rfl ?_
  refine y_istore_n hC dJ7_fill_53178_4 (by decide) [(3, .int (nI n)), (2, .int (0 : Int32)), (0, .ref (ad Γ ia)), (1, .int a1)] rfl 5 rfl ?_
  refine y_sub [2, 3, 1, 0] rfl ?_
  exact L5 1000 ((0 : Int32), (nI n), a) hk
def f_J6_bitCount_0f7a4 (a1 : Int32) : Option (Int32) :=
  lt (a1 - ((a1.toUInt32 >>> ((1 : Int32).toUInt32 &&& Int32.toUInt32 31)).toInt32 &&& (1431655765 : Int32))) fun n9 => 
    (lt ((n9 &&& (858993459 : Int32)) + ((n9.toUInt32 >>> ((2 : Int32).toUInt32 &&& Int32.toUInt32 31)).toInt32 &&& (858993459 : Int32))) fun n23 => 
    (lt ((n23 + (n23.toUInt32 >>> ((4 : Int32).toUInt32 &&& Int32.toUInt32 31)).toInt32) &&& (252645135 : Int32)) fun n33 => 
    (lt (n33 + (n33.toUInt32 >>> ((8 : Int32).toUInt32 &&& Int32.toUInt32 31)).toInt32) fun n40 => 
    (lt (n40 + (n40.toUInt32 >>> ((16 : Int32).toUInt32 &&& Int32.toUInt32 31)).toInt32) fun n47 => 
    (some (n47 &&& (63 : Int32)))))))
theorem cwd_J6_bitCount_0f7a4 : yJ6_bitCount_0f7a4.cls ≠ "java/lang/invoke/MethodHandle" ∧ yJ6_bitCount_0f7a4.cls ≠ "java/lang/invoke/VarHandle" ∧ (parseMethodDescriptor yJ6_bitCount_0f7a4.desc).map (fun d => d.parameters.length) = some 1 := by decide +kernel
set_option maxHeartbeats 4000000 in
set_option maxRecDepth 100000 in
theorem c_J6_bitCount_0f7a4 {Γ : GC} (hJ : GJ Γ) (l : Launch) (σ : GSt) (a1 : Int32) (x : Int32) (hk : f_J6_bitCount_0f7a4 a1 = some x) : Mt Γ l yJ6_bitCount_0f7a4 cJ6_bitCount_0f7a4 1 (some .int) 0 0 [.int a1] σ (some (.int x)) σ := by
  refine y_enter (by decide) hJ (Nat.le_of_ble_eq_true rfl) [(0, .int a1)] rfl ?_
  intro p e s' m args below meth c' hC hr hlk
  refine y_iload_n hC dJ6_bitCount_0f7a4_0 0 rfl 1 rfl ?_
  refine y_iload_n hC dJ6_bitCount_0f7a4_1 0 rfl 2 rfl ?_
  refine y_iconst hC dJ6_bitCount_0f7a4_2 (v := (1 : Int32)) (by decide) 3 rfl ?_
  refine y_iushr hC dJ6_bitCount_0f7a4_3 4 rfl ?_
  refine y_ldcw hC (v := (1431655765 : Int32)) w4_6 dJ6_bitCount_0f7a4_4 7 rfl ?_
  refine y_iand hC dJ6_bitCount_0f7a4_7 8 rfl ?_
  refine y_isub hC dJ6_bitCount_0f7a4_8 9 rfl ?_
  obtain ⟨n9, en9, hk⟩ := ob_lt hk
  refine y_topi en9 ?_
  refine y_istore_n hC dJ6_bitCount_0f7a4_9 (by decide) [(0, .int n9)] rfl 10 rfl ?_
  refine y_iload_n hC dJ6_bitCount_0f7a4_10 0 rfl 11 rfl ?_
  refine y_ldcw hC (v := (858993459 : Int32)) w4_7 dJ6_bitCount_0f7a4_11 14 rfl ?_
  refine y_iand hC dJ6_bitCount_0f7a4_14 15 rfl ?_
  refine y_iload_n hC dJ6_bitCount_0f7a4_15 0 rfl 16 rfl ?_
  refine y_iconst hC dJ6_bitCount_0f7a4_16 (v := (2 : Int32)) (by decide) 17 rfl ?_
  refine y_iushr hC dJ6_bitCount_0f7a4_17 18 rfl ?_
  refine y_ldcw hC (v := (858993459 : Int32)) w4_7 dJ6_bitCount_0f7a4_18 21 rfl ?_
  refine y_iand hC dJ6_bitCount_0f7a4_21 22 rfl ?_
  refine y_iadd hC dJ6_bitCount_0f7a4_22 23 rfl ?_
  obtain ⟨n23, en23, hk⟩ := ob_lt hk
  refine y_topi en23 ?_
  refine y_istore_n hC dJ6_bitCount_0f7a4_23 (by decide) [(0, .int n23)] rfl 24 rfl ?_
  refine y_iload_n hC dJ6_bitCount_0f7a4_24 0 rfl 25 rfl ?_
  refine y_iload_n hC dJ6_bitCount_0f7a4_25 0 rfl 26 rfl ?_
  refine y_iconst hC dJ6_bitCount_0f7a4_26 (v := (4 : Int32)) (by decide) 27 rfl ?_
  refine y_iushr hC dJ6_bitCount_0f7a4_27 28 rfl ?_
  refine y_iadd hC dJ6_bitCount_0f7a4_28 29 rfl ?_
  refine y_ldcw hC (v := (252645135 : Int32)) w4_8 dJ6_bitCount_0f7a4_29 32 rfl ?_
  refine y_iand hC dJ6_bitCount_0f7a4_32 33 rfl ?_
  obtain ⟨n33, en33, hk⟩ := ob_lt hk
  refine y_topi en33 ?_
  refine y_istore_n hC dJ6_bitCount_0f7a4_33 (by decide) [(0, .int n33)] rfl 34 rfl ?_
  refine y_iload_n hC dJ6_bitCount_0f7a4_34 0 rfl 35 rfl ?_
  refine y_iload_n hC dJ6_bitCount_0f7a4_35 0 rfl 36 rfl ?_
  refine y_bipush hC dJ6_bitCount_0f7a4_36 (v := (8 : Int32)) (by decide) 38 rfl ?_
  refine y_iushr hC dJ6_bitCount_0f7a4_38 39 rfl ?_
  refine y_iadd hC dJ6_bitCount_0f7a4_39 40 rfl ?_
  obtain ⟨n40, en40, hk⟩ := ob_lt hk
  refine y_topi en40 ?_
  refine y_istore_n hC dJ6_bitCount_0f7a4_40 (by decide) [(0, .int n40)] rfl 41 rfl ?_
  refine y_iload_n hC dJ6_bitCount_0f7a4_41 0 rfl 42 rfl ?_
  refine y_iload_n hC dJ6_bitCount_0f7a4_42 0 rfl 43 rfl ?_
  refine y_bipush hC dJ6_bitCount_0f7a4_43 (v := (16 : Int32)) (by decide) 45 rfl ?_
  refine y_iushr hC dJ6_bitCount_0f7a4_45 46 rfl ?_
  refine y_iadd hC dJ6_bitCount_0f7a4_46 47 rfl ?_
  obtain ⟨n47, en47, hk⟩ := ob_lt hk
  refine y_topi en47 ?_
  refine y_istore_n hC dJ6_bitCount_0f7a4_47 (by decide) [(0, .int n47)] rfl 48 rfl ?_
  refine y_iload_n hC dJ6_bitCount_0f7a4_48 0 rfl 49 rfl ?_
  refine y_bipush hC dJ6_bitCount_0f7a4_49 (v := (63 : Int32)) (by decide) 51 rfl ?_
  refine y_iand hC dJ6_bitCount_0f7a4_51 52 rfl ?_
  have e := Option.some.inj hk
  exact y_iret hC hr hlk (by rw [← e]) (by first | rfl | rw [← e]) dJ6_bitCount_0f7a4_52
