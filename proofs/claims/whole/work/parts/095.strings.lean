-- ===== the JDK's members of String that the reader reaches, over its five constants =====
def chS (i k : Nat) : Int32 := (bytS.getD i []).getD k 0
theorem ch_byte : ∀ i, i < 5 → ∀ k, k < lenS.getD i 0 → (((chS i k) &&& 255).toUInt32 % 65536).toInt32 = chS i k ∧ narrow .char (.int (chS i k)) = .int (chS i k) := by decide +kernel
theorem len_shr : ∀ i, i < 5 → nI (lenS.getD i 0) >>> ((0 : Int32) &&& 31) = nI (lenS.getD i 0) := by decide +kernel
theorem len_small : ∀ i, i < 5 → lenS.getD i 0 < 7 := by decide +kernel
section YS
variable {Γ : GC} {A : Nat → Prop} {p : Program} {l : Launch} {e : Env} {R : Room} {s : State} {m : MethodId} {args : Array Value} {below : List Frame} {meth : Method} {c : Code} {cells slots : Nat} {Q : State → Prop} {nL : Nat} {σ : GSt} {pc : Nat} {lv : List (Nat × Value)} {st : List Value} {own : String} {cc : ByteArray}
theorem y_ldcS (hC : CX Γ A p s m args c "HalfByFive$Reader" cc nL) (i : Nat) (hi : i < 5) {index : Nat} (hx : idxS.getD i 0 = index) (hdg : decode cc pc = .ok (.ldc index, 2)) (q : Nat) (hq : pc + 2 = q) (k : Y Γ A p l e R s m args below meth c cells slots Q nL σ q lv (.ref (ad Γ (100 + i)) :: st)) : Y Γ A p l e R s m args below meth c cells slots Q nL σ pc lv st := by
  subst hq; subst hx
  exact fun H locs ls hP hS hl => va_ldcS hC.1 hC.2.1 hC.2.2.2.1 (hC.2.2.2.2.2.2.1.2.2.2.2 i hi) hdg (k H locs ls hP hS hl)
theorem y_sval (hC : CX Γ A p s m args c own cc nL) (i : Nat) (hi : i < 5) {index : Nat} (hlink : Cond.fieldLink own index "java/lang/String" "value" "[B" ∈ wU) (hdg : decode cc pc = .ok (.getfield index, 3)) (q : Nat) (hq : pc + 3 = q) (k : Y Γ A p l e R s m args below meth c cells slots Q nL σ q lv (.ref (ad Γ (110 + i)) :: st)) : Y Γ A p l e R s m args below meth c cells slots Q nL σ pc lv (.ref (ad Γ (100 + i)) :: st) := by
  subst hq
  exact fun H locs ls hP hS hl => vk_getf hC.1 hC.2.1 (hC.2.2.2.2.2.2.1.2.1.1 i hi).2.2.1 hS hC.2.2.2.1 (hC.2.2.2.2.1 _ hlink) (fun _ h => h) hdg (k H locs ls hP hS hl)
theorem y_scod (hC : CX Γ A p s m args c own cc nL) (i : Nat) (hi : i < 5) {index : Nat} (hlink : Cond.fieldLink own index "java/lang/String" "coder" "B" ∈ wU) (hdg : decode cc pc = .ok (.getfield index, 3)) (q : Nat) (hq : pc + 3 = q) (k : Y Γ A p l e R s m args below meth c cells slots Q nL σ q lv (.int 0 :: st)) : Y Γ A p l e R s m args below meth c cells slots Q nL σ pc lv (.ref (ad Γ (100 + i)) :: st) := by
  subst hq
  exact fun H locs ls hP hS hl => vk_getf hC.1 hC.2.1 (hC.2.2.2.2.2.2.1.2.1.1 i hi).2.1 hS hC.2.2.2.1 (hC.2.2.2.2.1 _ hlink) (fun _ h => h) hdg (k H locs ls hP hS hl)
theorem y_scom (hC : CX Γ A p s m args c own cc nL) {index : Nat} (hlink : Cond.fieldLink own index "java/lang/String" "COMPACT_STRINGS" "Z" ∈ wU) (hdg : decode cc pc = .ok (.getstatic index, 3)) (q : Nat) (hq : pc + 3 = q) (k : Y Γ A p l e R s m args below meth c cells slots Q nL σ q lv (.int 1 :: st)) : Y Γ A p l e R s m args below meth c cells slots Q nL σ pc lv st := by
  subst hq
  exact fun H locs ls hP hS hl => va_gets hC.1 hC.2.1 hC.2.2.2.2.2.2.1.2.2.1 hS hC.2.2.2.1 (hC.2.2.2.2.1 _ hlink) (fun _ h => h) hdg (k H locs ls hP hS hl)
theorem y_sfmt (hC : CX Γ A p s m args c own cc nL) {index : Nat} (hlink : Cond.fieldLink own index "jdk/internal/util/Preconditions" "SIOOBE_FORMATTER" "Ljava/util/function/BiFunction;" ∈ wU) (hdg : decode cc pc = .ok (.getstatic index, 3)) (q : Nat) (hq : pc + 3 = q) (k : ∀ v : Value, v.category = 1 → Y Γ A p l e R s m args below meth c cells slots Q nL σ q lv (v :: st)) : Y Γ A p l e R s m args below meth c cells slots Q nL σ pc lv st := by
  subst hq
  intro H locs ls hP hS hl
  rcases hC.2.2.2.2.2.2.1.2.2.2.1 with h | ⟨t, h⟩
  · exact va_gets hC.1 hC.2.1 h hS hC.2.2.2.1 (hC.2.2.2.2.1 _ hlink) (fun _ h => h) hdg (k _ rfl H locs ls hP hS hl)
  · exact va_gets hC.1 hC.2.1 h hS hC.2.2.2.1 (hC.2.2.2.2.1 _ hlink) (fun _ h => h) hdg (k _ rfl H locs ls hP hS hl)
theorem y_slen (hC : CX Γ A p s m args c own cc nL) (i : Nat) (hi : i < 5) (hdg : decode cc pc = .ok (.arraylength, 1)) (q : Nat) (hq : pc + 1 = q) (k : Y Γ A p l e R s m args below meth c cells slots Q nL σ q lv (.int (nI (lenS.getD i 0)) :: st)) : Y Γ A p l e R s m args below meth c cells slots Q nL σ pc lv (.ref (ad Γ (110 + i)) :: st) := by
  subst hq
  exact fun H locs ls hP hS hl => va_tlen hC.1 hC.2.1 (hC.2.2.2.2.2.2.1.2.1.1 i hi).2.2.2 hS rfl hdg (k H locs ls hP hS hl)
theorem y_sbal (hC : CX Γ A p s m args c own cc nL) (i : Nat) (hi : i < 5) {x : Int32} (hin : inb x (lenS.getD i 0)) (hdg : decode cc pc = .ok (.baload, 1)) (q : Nat) (hq : pc + 1 = q) (k : Y Γ A p l e R s m args below meth c cells slots Q nL σ q lv (.int (chS i x.toNatClampNeg) :: st)) : Y Γ A p l e R s m args below meth c cells slots Q nL σ pc lv (.int x :: .ref (ad Γ (110 + i)) :: st) := by
  subst hq
  exact fun H locs ls hP hS hl => va_tb hC.1 hC.2.1 (hC.2.2.2.2.2.2.1.2.1.1 i hi).2.2.2 hS (inb_vp hin) rfl hdg (k H locs ls hP hS hl)
theorem y_i2c (hC : CX Γ A p s m args c own cc nL) {x v : Int32} (hdg : decode cc pc = .ok (.i2c, 1)) (hv : (x.toUInt32 % 65536).toInt32 = v) (q : Nat) (hq : pc + 1 = q) (k : Y Γ A p l e R s m args below meth c cells slots Q nL σ q lv (.int v :: st)) : Y Γ A p l e R s m args below meth c cells slots Q nL σ pc lv (.int x :: st) := by
  subst hq
  exact fun H locs ls hP hS hl => lv_i2c hC.1 hC.2.1 hdg hv (k H locs ls hP hS hl)
theorem y_popv (hC : CX Γ A p s m args c own cc nL) {va : Value} (hdg : decode cc pc = .ok (.pop, 1)) (hva : va.category = 1) (q : Nat) (hq : pc + 1 = q) (k : Y Γ A p l e R s m args below meth c cells slots Q nL σ q lv st) : Y Γ A p l e R s m args below meth c cells slots Q nL σ pc lv (va :: st) := y_pop hC hdg hva q hq k
variable {y : MethodName} {bytes : ByteArray} {maxL : Nat} {ret : Option FieldType} {fr lo : Nat} {As : List Value} {ov : Option Value} {σ1 σ2 : GSt} {index : Nat}
theorem y_callStr (hC : CX Γ A p s m args c own cc nL) {n : Nat} (i : Nat) (hi : i < 5) (hM : Mt Γ l y bytes maxL ret fr lo (.ref (ad Γ (100 + i)) :: As) σ1 ov σ2) (h1 : σ = σ1) (cw : CW R y bytes maxL ret fr lo n) (hl : Cond.methodLink own index y ∈ wU) (hin : Cond.instanceMethod y ∈ wU) (hse : Cond.selects "java/lang/String" y y ∈ wU) (hn : As.length = n) {st0 : List Value} (hst : As.reverse ++ .ref (ad Γ (100 + i)) :: st = st0) (hW : (st.map fun v => v.category).sum ≤ 8) (hcs : cells ≤ R.cells ∧ slots ≤ R.slots) (hdg : decode cc pc = .ok (.invokevirtual index, 3)) (pq : Nat) (hq : pc + 3 = pq) (σ3 : GSt) (h3 : σ2 = σ3) (st1 : List Value) (hs1 : ov.toList ++ st = st1) (kk : Y Γ A p l e R s m args below meth c cells slots Q nL σ3 pq lv st1) : Y Γ A p l e R s m args below meth c cells slots Q nL σ pc lv st0 := by
  subst hq; subst hst; subst h1; subst h3; subst hs1
  exact fun H locs ls hP hS hlv => y_run hC (va_runV (As := As) (rest := st) ⟨hC.1, hC.2.1, hC.2.2.1, hC.2.2.2.1, hC.2.2.2.2.1⟩ hM ⟨cw_B hC cw hl, hC.2.2.2.2.1 _ hin, hC.2.2.2.2.1 _ hse⟩ ⟨Pg_blind _ _ _, vk_recv hC.2.2.2.2.2.2.1.2.1 hi hS, fun U hU hW => ⟨rfl, by rw [hU]; exact hP, va_K.moved hW.alike hC.2.2.2.2.2.1, nk_of hC hS hU hW⟩⟩ rfl hn hlv.1 rfl (by show 2 * 0 + _ ≤ 8; omega) hdg hcs) hS hlv kk
end YS
theorem cwd_J0_coder_7d493 : yJ0_coder_7d493.cls ≠ "java/lang/invoke/MethodHandle" ∧ yJ0_coder_7d493.cls ≠ "java/lang/invoke/VarHandle" ∧ (parseMethodDescriptor yJ0_coder_7d493.desc).map (fun d => d.parameters.length) = some 0 := by decide +kernel
theorem cwd_J0_length_8abf5 : yJ0_length_8abf5.cls ≠ "java/lang/invoke/MethodHandle" ∧ yJ0_length_8abf5.cls ≠ "java/lang/invoke/VarHandle" ∧ (parseMethodDescriptor yJ0_length_8abf5.desc).map (fun d => d.parameters.length) = some 0 := by decide +kernel
theorem cwd_J0_isLatin1_aae02 : yJ0_isLatin1_aae02.cls ≠ "java/lang/invoke/MethodHandle" ∧ yJ0_isLatin1_aae02.cls ≠ "java/lang/invoke/VarHandle" ∧ (parseMethodDescriptor yJ0_isLatin1_aae02.desc).map (fun d => d.parameters.length) = some 0 := by decide +kernel
theorem cwd_J0_charAt_5068e : yJ0_charAt_5068e.cls ≠ "java/lang/invoke/MethodHandle" ∧ yJ0_charAt_5068e.cls ≠ "java/lang/invoke/VarHandle" ∧ (parseMethodDescriptor yJ0_charAt_5068e.desc).map (fun d => d.parameters.length) = some 1 := by decide +kernel
theorem cwd_J0_checkIndex_df160 : yJ0_checkIndex_df160.cls ≠ "java/lang/invoke/MethodHandle" ∧ yJ0_checkIndex_df160.cls ≠ "java/lang/invoke/VarHandle" ∧ (parseMethodDescriptor yJ0_checkIndex_df160.desc).map (fun d => d.parameters.length) = some 2 := by decide +kernel
theorem cwd_J1_charAt_3b067 : yJ1_charAt_3b067.cls ≠ "java/lang/invoke/MethodHandle" ∧ yJ1_charAt_3b067.cls ≠ "java/lang/invoke/VarHandle" ∧ (parseMethodDescriptor yJ1_charAt_3b067.desc).map (fun d => d.parameters.length) = some 2 := by decide +kernel
theorem cwd_J3_checkIndex_8e157 : yJ3_checkIndex_8e157.cls ≠ "java/lang/invoke/MethodHandle" ∧ yJ3_checkIndex_8e157.cls ≠ "java/lang/invoke/VarHandle" ∧ (parseMethodDescriptor yJ3_checkIndex_8e157.desc).map (fun d => d.parameters.length) = some 3 := by decide +kernel
set_option maxHeartbeats 4000000 in
set_option maxRecDepth 100000 in
theorem c_J0_coder_7d493 {Γ : GC} (hJ : GJ Γ) (l : Launch) (σ : GSt) (i : Nat) (hi : i < 5) : Mt Γ l yJ0_coder_7d493 cJ0_coder_7d493 1 (some .byte) 0 0 [.ref (ad Γ (100 + i))] σ (some (.int 0)) σ := by
  refine y_enter (by decide) hJ (Nat.le_of_ble_eq_true rfl) [(0, .ref (ad Γ (100 + i)))] rfl ?_
  intro p e s' m args below meth c' hC hr hlk
  refine y_scom hC w2_176 dJ0_coder_7d493_0 3 rfl ?_
  refine y_if_eq hC dJ0_coder_7d493_3 13 (by decide) 6 rfl (fun h => absurd h (by decide)) (fun _ => ?_)
  refine y_aload_n hC dJ0_coder_7d493_6 0 rfl 7 rfl ?_
  refine y_scod hC i hi w5_234 dJ0_coder_7d493_7 10 rfl ?_
  refine y_goto hC dJ0_coder_7d493_10 14 (by decide) ?_
  exact y_zret hC hr hlk rfl rfl rfl dJ0_coder_7d493_14
set_option maxHeartbeats 4000000 in
set_option maxRecDepth 100000 in
theorem c_J0_length_8abf5 {Γ : GC} (hJ : GJ Γ) (l : Launch) (σ : GSt) (i : Nat) (hi : i < 5) : Mt Γ l yJ0_length_8abf5 cJ0_length_8abf5 1 (some .int) 1 20 [.ref (ad Γ (100 + i))] σ (some (.int (nI (lenS.getD i 0)))) σ := by
  refine y_enter (by decide) hJ (Nat.le_of_ble_eq_true rfl) [(0, .ref (ad Γ (100 + i)))] rfl ?_
  intro p e s' m args below meth c' hC hr hlk
  refine y_aload_n hC dJ0_length_8abf5_0 0 rfl 1 rfl ?_
  refine y_sval hC i hi w5_233 dJ0_length_8abf5_1 4 rfl ?_
  refine y_slen hC i hi dJ0_length_8abf5_4 5 rfl ?_
  refine y_aload_n hC dJ0_length_8abf5_5 0 rfl 6 rfl ?_
  refine y_callStr hC i hi (c_J0_coder_7d493 hJ l σ i hi) rfl ⟨w2_175, w1_15, cwd_J0_coder_7d493, by decide, by decide⟩ w2_172 w2_173 w2_174 rfl rfl (Nat.le_of_ble_eq_true rfl) (by decide) dJ0_length_8abf5_6 9 rfl σ rfl [.int 0, .int (nI (lenS.getD i 0))] rfl ?_
  refine y_ishr hC dJ0_length_8abf5_9 10 rfl ?_
  exact y_iret hC hr hlk (len_shr i hi) rfl dJ0_length_8abf5_10
set_option maxHeartbeats 4000000 in
set_option maxRecDepth 100000 in
theorem c_J0_isLatin1_aae02 {Γ : GC} (hJ : GJ Γ) (l : Launch) (σ : GSt) (i : Nat) (hi : i < 5) : Mt Γ l yJ0_isLatin1_aae02 cJ0_isLatin1_aae02 1 (some .boolean) 0 0 [.ref (ad Γ (100 + i))] σ (some (.int 1)) σ := by
  refine y_enter (by decide) hJ (Nat.le_of_ble_eq_true rfl) [(0, .ref (ad Γ (100 + i)))] rfl ?_
  intro p e s' m args below meth c' hC hr hlk
  refine y_scom hC w2_176 dJ0_isLatin1_aae02_0 3 rfl ?_
  refine y_if_eq hC dJ0_isLatin1_aae02_3 17 (by decide) 6 rfl (fun h => absurd h (by decide)) (fun _ => ?_)
  refine y_aload_n hC dJ0_isLatin1_aae02_6 0 rfl 7 rfl ?_
  refine y_scod hC i hi w5_234 dJ0_isLatin1_aae02_7 10 rfl ?_
  refine y_if_ne hC dJ0_isLatin1_aae02_10 17 (by decide) 13 rfl (fun h => absurd rfl h) (fun _ => ?_)
  refine y_iconst hC dJ0_isLatin1_aae02_13 (v := 1) (by decide) 14 rfl ?_
  refine y_goto hC dJ0_isLatin1_aae02_14 18 (by decide) ?_
  exact y_zret hC hr hlk rfl rfl rfl dJ0_isLatin1_aae02_18
set_option maxHeartbeats 4000000 in
set_option maxRecDepth 100000 in
theorem c_J3_checkIndex_8e157 {Γ : GC} (hJ : GJ Γ) (l : Launch) (σ : GSt) (x n : Int32) (v : Value) (hv : v.category = 1) (h0 : ¬ x < 0) (h1 : x < n) : Mt Γ l yJ3_checkIndex_8e157 cJ3_checkIndex_8e157 3 (some .int) 0 0 [.int x, .int n, v] σ (some (.int x)) σ := by
  refine y_enter (by decide) hJ (by rcases v with _ | _ | _ | _ | _ | _ | _ <;> first | exact Nat.le_of_ble_eq_true rfl | (exact absurd hv (by decide)) | (simp [Value.category] at hv)) (lv_args 0 [.int x, .int n, v]) rfl ?_
  intro p e s' m args below meth c' hC hr hlk
  refine y_iload_n hC dJ3_checkIndex_8e157_0 0 rfl 1 rfl ?_
  refine y_if_lt hC dJ3_checkIndex_8e157_1 9 (by decide) 4 rfl (fun h => absurd h h0) (fun _ => ?_)
  refine y_iload_n hC dJ3_checkIndex_8e157_4 0 rfl 5 rfl ?_
  refine y_iload_n hC dJ3_checkIndex_8e157_5 1 rfl 6 rfl ?_
  refine y_icmp_lt hC dJ3_checkIndex_8e157_6 16 (by decide) 9 rfl (fun _ => ?_) (fun h => absurd h1 h)
  refine y_iload_n hC dJ3_checkIndex_8e157_16 0 rfl 17 rfl ?_
  exact y_iret hC hr hlk rfl rfl dJ3_checkIndex_8e157_17
set_option maxHeartbeats 4000000 in
set_option maxRecDepth 100000 in
theorem c_J0_checkIndex_df160 {Γ : GC} (hJ : GJ Γ) (l : Launch) (σ : GSt) (x n : Int32) (h0 : ¬ x < 0) (h1 : x < n) : Mt Γ l yJ0_checkIndex_df160 cJ0_checkIndex_df160 2 none 1 22 [.int x, .int n] σ none σ := by
  refine y_enter (by decide) hJ (Nat.le_of_ble_eq_true rfl) [(0, .int x), (1, .int n)] rfl ?_
  intro p e s' m args below meth c' hC hr hlk
  refine y_iload_n hC dJ0_checkIndex_df160_0 0 rfl 1 rfl ?_
  refine y_iload_n hC dJ0_checkIndex_df160_1 1 rfl 2 rfl ?_
  refine y_sfmt hC w2_192 dJ0_checkIndex_df160_2 5 rfl (fun v hv => ?_)
  refine y_callS hC (c_J3_checkIndex_8e157 hJ l σ x n v hv h0 h1) rfl ⟨w2_196, w1_17, cwd_J3_checkIndex_8e157, by decide, by decide⟩ w2_194 w2_195 rfl rfl (Nat.le_of_ble_eq_true rfl) (by decide) dJ0_checkIndex_df160_5 8 rfl σ rfl [.int x] rfl ?_
  refine y_pop hC dJ0_checkIndex_df160_8 rfl 9 rfl ?_
  exact y_vret hC hr hlk rfl dJ0_checkIndex_df160_9
set_option maxHeartbeats 4000000 in
set_option maxRecDepth 100000 in
theorem c_J1_charAt_3b067 {Γ : GC} (hJ : GJ Γ) (l : Launch) (σ : GSt) (i : Nat) (hi : i < 5) (x : Int32) (hx : inb x (lenS.getD i 0)) : Mt Γ l yJ1_charAt_3b067 cJ1_charAt_3b067 2 (some .char) 2 43 [.ref (ad Γ (110 + i)), .int x] σ (some (.int (chS i x.toNatClampNeg))) σ := by
  refine y_enter (by decide) hJ (Nat.le_of_ble_eq_true rfl) [(0, .ref (ad Γ (110 + i))), (1, .int x)] rfl ?_
  intro p e s' m args below meth c' hC hr hlk
  have hl7 := len_small i hi
  have h0 : ¬ x < 0 := fun h => by
    have := Int32.lt_iff_toInt_lt.mp h
    have e0 : (0 : Int32).toInt = 0 := rfl
    omega
  have h1 : x < nI (lenS.getD i 0) := by
    refine Int32.lt_iff_toInt_lt.mpr ?_
    rw [nI_toInt (by omega)]
    exact hx.2
  have hk : x.toNatClampNeg < lenS.getD i 0 := by
    show x.toInt.toNat < _
    omega
  refine y_iload_n hC dJ1_charAt_3b067_0 1 rfl 1 rfl ?_
  refine y_aload_n hC dJ1_charAt_3b067_1 0 rfl 2 rfl ?_
  refine y_slen hC i hi dJ1_charAt_3b067_2 3 rfl ?_
  refine y_callS hC (c_J0_checkIndex_df160 hJ l σ x (nI (lenS.getD i 0)) h0 h1) rfl ⟨w2_191, w1_15, cwd_J0_checkIndex_df160, by decide, by decide⟩ w2_189 w2_190 rfl rfl (Nat.le_of_ble_eq_true rfl) (by decide) dJ1_charAt_3b067_3 6 rfl σ rfl [] rfl ?_
  refine y_aload_n hC dJ1_charAt_3b067_6 0 rfl 7 rfl ?_
  refine y_iload_n hC dJ1_charAt_3b067_7 1 rfl 8 rfl ?_
  refine y_sbal hC i hi hx dJ1_charAt_3b067_8 9 rfl ?_
  refine y_sipush hC dJ1_charAt_3b067_9 (v := 255) (by decide) 12 rfl ?_
  refine y_iand hC dJ1_charAt_3b067_12 13 rfl ?_
  refine y_i2c hC dJ1_charAt_3b067_13 (ch_byte i hi _ hk).1 14 rfl ?_
  exact y_zret hC hr hlk (ch_byte i hi _ hk).2 rfl rfl dJ1_charAt_3b067_14
set_option maxHeartbeats 4000000 in
set_option maxRecDepth 100000 in
theorem c_J0_charAt_5068e {Γ : GC} (hJ : GJ Γ) (l : Launch) (σ : GSt) (i : Nat) (hi : i < 5) (x : Int32) (hx : inb x (lenS.getD i 0)) : Mt Γ l yJ0_charAt_5068e cJ0_charAt_5068e 2 (some .char) 3 64 [.ref (ad Γ (100 + i)), .int x] σ (some (.int (chS i x.toNatClampNeg))) σ := by
  refine y_enter (by decide) hJ (Nat.le_of_ble_eq_true rfl) [(0, .ref (ad Γ (100 + i))), (1, .int x)] rfl ?_
  intro p e s' m args below meth c' hC hr hlk
  have hk : x.toNatClampNeg < lenS.getD i 0 := by
    have h2 := hx.2
    have h1 := hx.1
    show x.toInt.toNat < _
    omega
  refine y_aload_n hC dJ0_charAt_5068e_0 0 rfl 1 rfl ?_
  refine y_callStr hC i hi (c_J0_isLatin1_aae02 hJ l σ i hi) rfl ⟨w2_185, w1_15, cwd_J0_isLatin1_aae02, by decide, by decide⟩ w2_182 w2_183 w2_184 rfl rfl (Nat.le_of_ble_eq_true rfl) (by decide) dJ0_charAt_5068e_1 4 rfl σ rfl [.int 1] rfl ?_
  refine y_if_eq hC dJ0_charAt_5068e_4 16 (by decide) 7 rfl (fun h => absurd h (by decide)) (fun _ => ?_)
  refine y_aload_n hC dJ0_charAt_5068e_7 0 rfl 8 rfl ?_
  refine y_sval hC i hi w5_233 dJ0_charAt_5068e_8 11 rfl ?_
  refine y_iload_n hC dJ0_charAt_5068e_11 1 rfl 12 rfl ?_
  refine y_callS hC (c_J1_charAt_3b067 hJ l σ i hi x hx) rfl ⟨w2_188, w1_16, cwd_J1_charAt_3b067, by decide, by decide⟩ w2_186 w2_187 rfl rfl (Nat.le_of_ble_eq_true rfl) (by decide) dJ0_charAt_5068e_12 15 rfl σ rfl [.int (chS i x.toNatClampNeg)] rfl ?_
  exact y_zret hC hr hlk (ch_byte i hi _ hk).2 rfl rfl dJ0_charAt_5068e_15
