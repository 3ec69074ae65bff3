def wl (Γ : GC) (σ : GSt) : va_W := Γ.2.2.2.map (fun i => (ad Γ i, cell Γ σ i))
def GP (Γ : GC) (σ : GSt) (H : Heap) : Prop := va_P Γ.1 vwCl (wl Γ σ) H
def GA (Γ : GC) : Nat → Prop := fun q => ∃ i, act Γ i ∧ q = ad Γ i
/-- the addresses in use are apart -/
def GJ (Γ : GC) : Prop := Γ.2.2.2.Nodup ∧ (∀ i j, act Γ i → act Γ j → ad Γ i = ad Γ j → i = j) ∧ ∀ i, act Γ i → i < 77
def cu (Γ : GC) (σ : GSt) (i : Nat) (e : va_E) (σ' : GSt) : Prop := cell Γ σ' i = e ∧ ∀ j, j < 77 → j ≠ i → cell Γ σ' j = cell Γ σ j
-- ===== the String constants of the reader =====
def lenS : List Nat := [6, 5, 6, 4, 5]
def bytS : List (List Int32) := [[109, 97, 114, 107, 101, 116], [112, 114, 105, 99, 101], [116, 104, 101, 105, 114, 115], [114, 97, 105, 110], [98, 117, 121, 101, 114]]
def idxS : List Nat := [41, 61, 66, 71, 76]
def txS : List String := ["market", "price", "theirs", "rain", "buyer"]
def SK (Γ : GC) (A : Nat → Prop) (U : State) (H : Heap) : Prop :=
  vk_S 5 lenS bytS (fun i => ad Γ (100 + i)) (fun i => ad Γ (110 + i)) A U H ∧ va_Z "java/lang/String" "COMPACT_STRINGS" "Z" (.int 1) A U H ∧ va_Zq "jdk/internal/util/Preconditions" "SIOOBE_FORMATTER" "Ljava/util/function/BiFunction;" A U H ∧ ∀ i, i < 5 → vk_R "HalfByFive$Reader" (idxS.getD i 0) (txS.getD i "") (ad Γ (100 + i)) U
def NK (Γ : GC) (A : Nat → Prop) (U : State) : Prop := NW U ∧ SK Γ A U U.heap
theorem SK.kept {Γ : GC} {A : Nat → Prop} {U : State} {H H1 : Heap} (h : SK Γ A U H) (hq : ∀ a : Nat, a < H.size → ¬ A a → H1[a]? = H[a]?) : SK Γ A U H1 := ⟨h.1.kept hq, h.2.1.kept hq, h.2.2.1.kept hq, h.2.2.2⟩
theorem SK.narrow {Γ : GC} {A B : Nat → Prop} {U : State} {H : Heap} (h : SK Γ A U H) (hAB : ∀ q, B q → A q) : SK Γ B U H := ⟨h.1.narrow hAB, h.2.1.narrow hAB, h.2.2.1.narrow hAB, h.2.2.2⟩
theorem SK.warm {Γ : GC} {A : Nat → Prop} {s U : State} {H : Heap} (hW : s.WarmedH U.vm) (h : SK Γ A s H) : SK Γ A U H := ⟨h.1.moved hW.alike, h.2.1.moved hW.alike, h.2.2.1.moved hW.alike, fun i hi => (h.2.2.2 i hi).warm hW⟩
theorem SK.same {Γ : GC} {A : Nat → Prop} {s U : State} {H : Heap} (hv : U.vm = s.vm) (h : SK Γ A s H) : SK Γ A U H := ⟨h.1.moved (by rw [hv]; exact Vm.Alike.refl _), h.2.1.moved (by rw [hv]; exact Vm.Alike.refl _), h.2.2.1.moved (by rw [hv]; exact Vm.Alike.refl _), fun i hi => (h.2.2.2 i hi).same hv⟩
def CX (Γ : GC) (A : Nat → Prop) (p : Program) (s : State) (m : MethodId) (args : Array Value) (c : Code) (own : String) (cc : ByteArray) (nL : Nat) : Prop :=
  p.tables.exec = Jvm.exec ∧ c.code = cc ∧ c.maxLocals = nL ∧ s.vm.findClass own = some m.cls ∧ (∀ w ∈ wU, w.before args s = true) ∧ va_K Γ.1 vwCl (tysG Γ) s ∧ NK Γ A s ∧ GJ Γ ∧ ∀ q, GA Γ q → A q
def Y (Γ : GC) (A : Nat → Prop) (p : Program) (l : Launch) (e : Env) (R : Room) (s : State) (m : MethodId) (args : Array Value) (below : List Frame) (meth : Method) (c : Code) (cells slots : Nat) (Q : State → Prop) (nL : Nat) (σ : GSt) (pc : Nat) (lv : List (Nat × Value)) (st : List Value) : Prop :=
  ∀ (H : Heap) (locs : List Loc) (ls : Array Slot), GP Γ σ H → va_S A s.heap H locs → lv_has ls nL lv → W p l e R s m args below meth c H locs cells slots Q (F0 m pc ls st)
theorem wl_at {Γ : GC} {σ : GSt} {i : Nat} (hi : act Γ i) {e : va_E} (hc : cell Γ σ i = e) : ∃ n : Nat, (wl Γ σ)[n]? = some (ad Γ i, e) := by
  obtain ⟨n, hn⟩ := List.getElem?_of_mem hi
  refine ⟨n, ?_⟩
  unfold wl
  rw [List.getElem?_map, hn, ← hc]
  rfl
theorem wl_of {Γ : GC} {σ : GSt} {n : Nat} {q : Nat × va_E} (h : (wl Γ σ)[n]? = some q) : ∃ i, Γ.2.2.2[n]? = some i ∧ act Γ i ∧ q = (ad Γ i, cell Γ σ i) := by
  unfold wl at h
  rw [List.getElem?_map] at h
  cases hn : Γ.2.2.2[n]? with
  | none => rw [hn] at h; cases h
  | some i => rw [hn] at h; cases h; exact ⟨i, rfl, List.mem_of_getElem? hn, rfl⟩
theorem wl_D {Γ : GC} {σ : GSt} {A : Nat → Prop} (hJ : GJ Γ) (hA : ∀ q, GA Γ q → A q) : va_D A (wl Γ σ) := by
  refine ⟨fun i j p q hi hj e => ?_, fun k q hk => ?_⟩
  · obtain ⟨a, ha, ma, rfl⟩ := wl_of hi
    obtain ⟨b, hb, mb, rfl⟩ := wl_of hj
    have hab := hJ.2.1 a b ma mb e
    subst hab
    exact (List.getElem?_inj (List.getElem?_eq_some_iff.mp ha).1 hJ.1).mp (ha.trans hb.symm)
  · obtain ⟨a, -, ma, rfl⟩ := wl_of hk
    exact hA _ ⟨a, ma, rfl⟩
theorem wl_set {Γ : GC} {σ σ' : GSt} {i n : Nat} {e e' : va_E} (hJ : GJ Γ) (hn : (wl Γ σ)[n]? = some (ad Γ i, e')) (hi : act Γ i) (hu : cu Γ σ i e σ') : (wl Γ σ).set n (ad Γ i, e) = wl Γ σ' := by
  obtain ⟨a, ha, ma, he⟩ := wl_of hn
  have hai : a = i := (hJ.2.1 i a hi ma (Prod.mk.inj he).1).symm
  subst hai
  apply List.ext_getElem?
  intro k
  rw [List.getElem?_set]
  have hl : n < (wl Γ σ).length := (List.getElem?_eq_some_iff.mp hn).1
  by_cases hk : n = k
  · subst hk
    rw [if_pos rfl, if_pos hl]
    unfold wl
    rw [List.getElem?_map, ha]
    show some (ad Γ a, e) = some (ad Γ a, cell Γ σ' a)
    rw [hu.1]
  · rw [if_neg hk]
    unfold wl
    rw [List.getElem?_map, List.getElem?_map]
    cases hb : Γ.2.2.2[k]? with
    | none => rfl
    | some b =>
      have hne : b ≠ a := fun e => by
        subst e
        exact hk ((List.getElem?_inj (List.getElem?_eq_some_iff.mp ha).1 hJ.1).mp (ha.trans hb.symm))
      show some (ad Γ b, cell Γ σ b) = some (ad Γ b, cell Γ σ' b)
      rw [hu.2 b (hJ.2.2 b (List.mem_of_getElem? hb)) hne]
section YR
variable {Γ : GC} {A : Nat → Prop} {p : Program} {l : Launch} {e : Env} {R : Room} {s : State} {m : MethodId} {args : Array Value} {below : List Frame} {meth : Method} {c : Code} {cells slots : Nat} {Q : State → Prop} {nL : Nat} {σ : GSt} {pc : Nat} {lv : List (Nat × Value)} {st : List Value} {own : String} {cc : ByteArray}
theorem y_iconst (hC : CX Γ A p s m args c own cc nL) {n : Int} {v : Int32} (hdg : decode cc pc = .ok (.iconst n, 1)) (hv : Int32.ofInt n = v) (q : Nat) (hq : pc + 1 = q) (k : Y Γ A p l e R s m args below meth c cells slots Q nL σ q lv (.int v :: st)) : Y Γ A p l e R s m args below meth c cells slots Q nL σ pc lv st := by
  subst hq; exact fun H locs ls hP hS hl => lv_iconst hC.1 hC.2.1 hdg hv (k H locs ls hP hS hl)
theorem y_bipush (hC : CX Γ A p s m args c own cc nL) {n : Int} {v : Int32} (hdg : decode cc pc = .ok (.bipush n, 2)) (hv : (Int8.ofInt n).toInt32 = v) (q : Nat) (hq : pc + 2 = q) (k : Y Γ A p l e R s m args below meth c cells slots Q nL σ q lv (.int v :: st)) : Y Γ A p l e R s m args below meth c cells slots Q nL σ pc lv st := by
  subst hq; exact fun H locs ls hP hS hl => lv_bipush hC.1 hC.2.1 hdg hv (k H locs ls hP hS hl)
theorem y_sipush (hC : CX Γ A p s m args c own cc nL) {n : Int} {v : Int32} (hdg : decode cc pc = .ok (.sipush n, 3)) (hv : (Int16.ofInt n).toInt32 = v) (q : Nat) (hq : pc + 3 = q) (k : Y Γ A p l e R s m args below meth c cells slots Q nL σ q lv (.int v :: st)) : Y Γ A p l e R s m args below meth c cells slots Q nL σ pc lv st := by
  subst hq; exact fun H locs ls hP hS hl => lv_sipush hC.1 hC.2.1 hdg hv (k H locs ls hP hS hl)
theorem y_lconst (hC : CX Γ A p s m args c own cc nL) {n : Fin 2} {v : Int64} (hdg : decode cc pc = .ok (.lconst n, 1)) (hv : Int64.ofNat (n : Nat) = v) (q : Nat) (hq : pc + 1 = q) (k : Y Γ A p l e R s m args below meth c cells slots Q nL σ q lv (.long v :: st)) : Y Γ A p l e R s m args below meth c cells slots Q nL σ pc lv st := by
  subst hq; exact fun H locs ls hP hS hl => lv_lconst hC.1 hC.2.1 hdg hv (k H locs ls hP hS hl)
theorem y_ldc (hC : CX Γ A p s m args c own cc nL) {index : Nat} {v : Int32} (hw : Cond.constant own index v ∈ wU) (hdg : decode cc pc = .ok (.ldc index, 2)) (q : Nat) (hq : pc + 2 = q) (k : Y Γ A p l e R s m args below meth c cells slots Q nL σ q lv (.int v :: st)) : Y Γ A p l e R s m args below meth c cells slots Q nL σ pc lv st := by
  subst hq; exact fun H locs ls hP hS hl => lv_ldc hC.1 hC.2.1 hC.2.2.2.1 (hC.2.2.2.2.1 _ hw) hdg (k H locs ls hP hS hl)
theorem y_ldcw (hC : CX Γ A p s m args c own cc nL) {index : Nat} {v : Int32} (hw : Cond.constant own index v ∈ wU) (hdg : decode cc pc = .ok (.ldc_w index, 3)) (q : Nat) (hq : pc + 3 = q) (k : Y Γ A p l e R s m args below meth c cells slots Q nL σ q lv (.int v :: st)) : Y Γ A p l e R s m args below meth c cells slots Q nL σ pc lv st := by
  subst hq; exact fun H locs ls hP hS hl => lv_ldcw hC.1 hC.2.1 hC.2.2.2.1 (hC.2.2.2.2.1 _ hw) hdg (k H locs ls hP hS hl)
theorem y_ldc2 (hC : CX Γ A p s m args c own cc nL) {index : Nat} {v : Int64} (hw : Cond.constantLong own index v ∈ wU) (hdg : decode cc pc = .ok (.ldc2_w index, 3)) (q : Nat) (hq : pc + 3 = q) (k : Y Γ A p l e R s m args below meth c cells slots Q nL σ q lv (.long v :: st)) : Y Γ A p l e R s m args below meth c cells slots Q nL σ pc lv st := by
  subst hq; exact fun H locs ls hP hS hl => lv_ldc2 hC.1 hC.2.1 hC.2.2.2.1 (hC.2.2.2.2.1 _ hw) hdg (k H locs ls hP hS hl)
theorem y_iload_n (hC : CX Γ A p s m args c own cc nL) {kf : Fin 4} {x : Int32} (hdg : decode cc pc = .ok (.iload_n kf, 1)) (j : Nat) (hj : lv[j]? = some ((kf : Nat), .int x)) (q : Nat) (hq : pc + 1 = q) (k : Y Γ A p l e R s m args below meth c cells slots Q nL σ q lv (.int x :: st)) : Y Γ A p l e R s m args below meth c cells slots Q nL σ pc lv st := by
  subst hq; exact fun H locs ls hP hS hl => lv_iload_n hC.1 hC.2.1 hdg rfl (lv_at hl j hj) (k H locs ls hP hS hl)
theorem y_iload (hC : CX Γ A p s m args c own cc nL) {i : Nat} {x : Int32} (hdg : decode cc pc = .ok (.iload i, 2)) (j : Nat) (hj : lv[j]? = some (i, .int x)) (q : Nat) (hq : pc + 2 = q) (k : Y Γ A p l e R s m args below meth c cells slots Q nL σ q lv (.int x :: st)) : Y Γ A p l e R s m args below meth c cells slots Q nL σ pc lv st := by
  subst hq; exact fun H locs ls hP hS hl => lv_iload hC.1 hC.2.1 hdg (lv_at hl j hj) (k H locs ls hP hS hl)
theorem y_lload_n (hC : CX Γ A p s m args c own cc nL) {kf : Fin 4} {x : Int64} (hdg : decode cc pc = .ok (.lload_n kf, 1)) (j : Nat) (hj : lv[j]? = some ((kf : Nat), .long x)) (q : Nat) (hq : pc + 1 = q) (k : Y Γ A p l e R s m args below meth c cells slots Q nL σ q lv (.long x :: st)) : Y Γ A p l e R s m args below meth c cells slots Q nL σ pc lv st := by
  subst hq; exact fun H locs ls hP hS hl => lv_lload_n hC.1 hC.2.1 hdg rfl (lv_at hl j hj) (k H locs ls hP hS hl)
theorem y_lload (hC : CX Γ A p s m args c own cc nL) {i : Nat} {x : Int64} (hdg : decode cc pc = .ok (.lload i, 2)) (j : Nat) (hj : lv[j]? = some (i, .long x)) (q : Nat) (hq : pc + 2 = q) (k : Y Γ A p l e R s m args below meth c cells slots Q nL σ q lv (.long x :: st)) : Y Γ A p l e R s m args below meth c cells slots Q nL σ pc lv st := by
  subst hq; exact fun H locs ls hP hS hl => lv_lload hC.1 hC.2.1 hdg (lv_at hl j hj) (k H locs ls hP hS hl)
theorem y_aload_n (hC : CX Γ A p s m args c own cc nL) {kf : Fin 4} {x : Nat} (hdg : decode cc pc = .ok (.aload_n kf, 1)) (j : Nat) (hj : lv[j]? = some ((kf : Nat), .ref x)) (q : Nat) (hq : pc + 1 = q) (k : Y Γ A p l e R s m args below meth c cells slots Q nL σ q lv (.ref x :: st)) : Y Γ A p l e R s m args below meth c cells slots Q nL σ pc lv st := by
  subst hq; exact fun H locs ls hP hS hl => lv_aload_n hC.1 hC.2.1 hdg rfl (lv_at hl j hj) (k H locs ls hP hS hl)
theorem y_istore_n (hC : CX Γ A p s m args c own cc nL) {kf : Fin 4} {x : Int32} (hdg : decode cc pc = .ok (.istore_n kf, 1)) (hn : (kf : Nat) < nL) (lv' : List (Nat × Value)) (hl' : ((kf : Nat), Value.int x) :: lv.filter (fun q => !(q.1 == (kf : Nat)) && !(q.1 + 1 == (kf : Nat) && q.2.category == 2)) = lv') (q : Nat) (hq : pc + 1 = q) (k : Y Γ A p l e R s m args below meth c cells slots Q nL σ q lv' st) : Y Γ A p l e R s m args below meth c cells slots Q nL σ pc lv (.int x :: st) := by
  subst hq; exact fun H locs ls hP hS hl => lv_istore_n hC.1 hC.2.1 hdg rfl hl hn hl' (fun ls hl => k H locs ls hP hS hl)
theorem y_istore (hC : CX Γ A p s m args c own cc nL) {i : Nat} {x : Int32} (hdg : decode cc pc = .ok (.istore i, 2)) (hn : i < nL) (lv' : List (Nat × Value)) (hl' : (i, Value.int x) :: lv.filter (fun q => !(q.1 == i) && !(q.1 + 1 == i && q.2.category == 2)) = lv') (q : Nat) (hq : pc + 2 = q) (k : Y Γ A p l e R s m args below meth c cells slots Q nL σ q lv' st) : Y Γ A p l e R s m args below meth c cells slots Q nL σ pc lv (.int x :: st) := by
  subst hq; exact fun H locs ls hP hS hl => lv_istore hC.1 hC.2.1 hdg hl hn hl' (fun ls hl => k H locs ls hP hS hl)
theorem y_lstore_n (hC : CX Γ A p s m args c own cc nL) {kf : Fin 4} {x : Int64} (hdg : decode cc pc = .ok (.lstore_n kf, 1)) (hn : (kf : Nat) + 1 < nL) (lv' : List (Nat × Value)) (hl' : ((kf : Nat), Value.long x) :: lv.filter (fun q => !(q.1 == (kf : Nat)) && (!(q.1 == (kf : Nat) + 1) && !(q.1 + 1 == (kf : Nat) && q.2.category == 2))) = lv') (q : Nat) (hq : pc + 1 = q) (k : Y Γ A p l e R s m args below meth c cells slots Q nL σ q lv' st) : Y Γ A p l e R s m args below meth c cells slots Q nL σ pc lv (.long x :: st) := by
  subst hq; exact fun H locs ls hP hS hl => lv_lstore_n hC.1 hC.2.1 hdg rfl hl hn hl' (fun ls hl => k H locs ls hP hS hl)
theorem y_lstore (hC : CX Γ A p s m args c own cc nL) {i : Nat} {x : Int64} (hdg : decode cc pc = .ok (.lstore i, 2)) (hn : i + 1 < nL) (lv' : List (Nat × Value)) (hl' : (i, Value.long x) :: lv.filter (fun q => !(q.1 == i) && (!(q.1 == i + 1) && !(q.1 + 1 == i && q.2.category == 2))) = lv') (q : Nat) (hq : pc + 2 = q) (k : Y Γ A p l e R s m args below meth c cells slots Q nL σ q lv' st) : Y Γ A p l e R s m args below meth c cells slots Q nL σ pc lv (.long x :: st) := by
  subst hq; exact fun H locs ls hP hS hl => lv_lstore hC.1 hC.2.1 hdg hl hn hl' (fun ls hl => k H locs ls hP hS hl)
theorem y_astore_n (hC : CX Γ A p s m args c own cc nL) {kf : Fin 4} {x : Nat} (hdg : decode cc pc = .ok (.astore_n kf, 1)) (hn : (kf : Nat) < nL) (lv' : List (Nat × Value)) (hl' : ((kf : Nat), Value.ref x) :: lv.filter (fun q => !(q.1 == (kf : Nat)) && !(q.1 + 1 == (kf : Nat) && q.2.category == 2)) = lv') (q : Nat) (hq : pc + 1 = q) (k : Y Γ A p l e R s m args below meth c cells slots Q nL σ q lv' st) : Y Γ A p l e R s m args below meth c cells slots Q nL σ pc lv (.ref x :: st) := by
  subst hq; exact fun H locs ls hP hS hl => lv_astore_n hC.1 hC.2.1 hdg rfl hl hn hl' (fun ls hl => k H locs ls hP hS hl)
theorem y_iinc (hC : CX Γ A p s m args c own cc nL) {i : Nat} {n : Int} {x v : Int32} (hdg : decode cc pc = .ok (.iinc i n, 3)) (j : Nat) (hj : lv[j]? = some (i, .int x)) (hv : x + Int32.ofInt n = v) (hn : i < nL) (lv' : List (Nat × Value)) (hl' : (i, Value.int v) :: lv.filter (fun q => !(q.1 == i) && !(q.1 + 1 == i && q.2.category == 2)) = lv') (q : Nat) (hq : pc + 3 = q) (k : Y Γ A p l e R s m args below meth c cells slots Q nL σ q lv' st) : Y Γ A p l e R s m args below meth c cells slots Q nL σ pc lv st := by
  subst hq; exact fun H locs ls hP hS hl => lv_iinc hC.1 hC.2.1 hdg hl hj hv hn hl' (fun ls hl => k H locs ls hP hS hl)
theorem y_sub (ks : List Nat) {lv' : List (Nat × Value)} (hl' : lv_pick lv ks = lv') (k : Y Γ A p l e R s m args below meth c cells slots Q nL σ pc lv' st) : Y Γ A p l e R s m args below meth c cells slots Q nL σ pc lv st := fun H locs ls hP hS hl => k H locs ls hP hS (lv_sub hl ks hl')
theorem y_topi {x y : Int32} (h : y = x) (k : Y Γ A p l e R s m args below meth c cells slots Q nL σ pc lv (.int y :: st)) : Y Γ A p l e R s m args below meth c cells slots Q nL σ pc lv (.int x :: st) := h ▸ k
theorem y_topl {x y : Int64} (h : y = x) (k : Y Γ A p l e R s m args below meth c cells slots Q nL σ pc lv (.long y :: st)) : Y Γ A p l e R s m args below meth c cells slots Q nL σ pc lv (.long x :: st) := h ▸ k
theorem y_dup (hC : CX Γ A p s m args c own cc nL) {va : Value} (hdg : decode cc pc = .ok (.dup, 1)) (hva : va.category = 1) (q : Nat) (hq : pc + 1 = q) (k : Y Γ A p l e R s m args below meth c cells slots Q nL σ q lv (va :: va :: st)) : Y Γ A p l e R s m args below meth c cells slots Q nL σ pc lv (va :: st) := by
  subst hq; exact fun H locs ls hP hS hl => lv_dup hC.1 hC.2.1 hdg hva (k H locs ls hP hS hl)
theorem y_pop (hC : CX Γ A p s m args c own cc nL) {va : Value} (hdg : decode cc pc = .ok (.pop, 1)) (hva : va.category = 1) (q : Nat) (hq : pc + 1 = q) (k : Y Γ A p l e R s m args below meth c cells slots Q nL σ q lv st) : Y Γ A p l e R s m args below meth c cells slots Q nL σ pc lv (va :: st) := by
  subst hq; exact fun H locs ls hP hS hl => lv_pop hC.1 hC.2.1 hdg hva (k H locs ls hP hS hl)
theorem y_dup2 (hC : CX Γ A p s m args c own cc nL) {va vb : Value} (hdg : decode cc pc = .ok (.dup2, 1)) (hva : va.category = 1) (hvb : vb.category = 1) (q : Nat) (hq : pc + 1 = q) (k : Y Γ A p l e R s m args below meth c cells slots Q nL σ q lv (va :: vb :: va :: vb :: st)) : Y Γ A p l e R s m args below meth c cells slots Q nL σ pc lv (va :: vb :: st) := by
  subst hq; exact fun H locs ls hP hS hl => lv_dup2_11 hC.1 hC.2.1 hdg hva hvb (k H locs ls hP hS hl)
theorem y_iadd (hC : CX Γ A p s m args c own cc nL) {x y : Int32} (hdg : decode cc pc = .ok (.iadd, 1)) (q : Nat) (hq : pc + 1 = q) (k : Y Γ A p l e R s m args below meth c cells slots Q nL σ q lv (.int (x + y) :: st)) : Y Γ A p l e R s m args below meth c cells slots Q nL σ pc lv (.int y :: .int x :: st) := by
  subst hq; exact fun H locs ls hP hS hl => lv_iadd hC.1 hC.2.1 hdg (k H locs ls hP hS hl)
theorem y_isub (hC : CX Γ A p s m args c own cc nL) {x y : Int32} (hdg : decode cc pc = .ok (.isub, 1)) (q : Nat) (hq : pc + 1 = q) (k : Y Γ A p l e R s m args below meth c cells slots Q nL σ q lv (.int (x - y) :: st)) : Y Γ A p l e R s m args below meth c cells slots Q nL σ pc lv (.int y :: .int x :: st) := by
  subst hq; exact fun H locs ls hP hS hl => lv_isub hC.1 hC.2.1 hdg (k H locs ls hP hS hl)
theorem y_imul (hC : CX Γ A p s m args c own cc nL) {x y : Int32} (hdg : decode cc pc = .ok (.imul, 1)) (q : Nat) (hq : pc + 1 = q) (k : Y Γ A p l e R s m args below meth c cells slots Q nL σ q lv (.int (x * y) :: st)) : Y Γ A p l e R s m args below meth c cells slots Q nL σ pc lv (.int y :: .int x :: st) := by
  subst hq; exact fun H locs ls hP hS hl => lv_imul hC.1 hC.2.1 hdg (k H locs ls hP hS hl)
theorem y_iand (hC : CX Γ A p s m args c own cc nL) {x y : Int32} (hdg : decode cc pc = .ok (.iand, 1)) (q : Nat) (hq : pc + 1 = q) (k : Y Γ A p l e R s m args below meth c cells slots Q nL σ q lv (.int (x &&& y) :: st)) : Y Γ A p l e R s m args below meth c cells slots Q nL σ pc lv (.int y :: .int x :: st) := by
  subst hq; exact fun H locs ls hP hS hl => lv_iand hC.1 hC.2.1 hdg (k H locs ls hP hS hl)
theorem y_ior (hC : CX Γ A p s m args c own cc nL) {x y : Int32} (hdg : decode cc pc = .ok (.ior, 1)) (q : Nat) (hq : pc + 1 = q) (k : Y Γ A p l e R s m args below meth c cells slots Q nL σ q lv (.int (x ||| y) :: st)) : Y Γ A p l e R s m args below meth c cells slots Q nL σ pc lv (.int y :: .int x :: st) := by
  subst hq; exact fun H locs ls hP hS hl => lv_ior hC.1 hC.2.1 hdg (k H locs ls hP hS hl)
theorem y_ishl (hC : CX Γ A p s m args c own cc nL) {x y : Int32} (hdg : decode cc pc = .ok (.ishl, 1)) (q : Nat) (hq : pc + 1 = q) (k : Y Γ A p l e R s m args below meth c cells slots Q nL σ q lv (.int (x <<< (y &&& 31)) :: st)) : Y Γ A p l e R s m args below meth c cells slots Q nL σ pc lv (.int y :: .int x :: st) := by
  subst hq; exact fun H locs ls hP hS hl => lv_ishl hC.1 hC.2.1 hdg (k H locs ls hP hS hl)
theorem y_ishr (hC : CX Γ A p s m args c own cc nL) {x y : Int32} (hdg : decode cc pc = .ok (.ishr, 1)) (q : Nat) (hq : pc + 1 = q) (k : Y Γ A p l e R s m args below meth c cells slots Q nL σ q lv (.int (x >>> (y &&& 31)) :: st)) : Y Γ A p l e R s m args below meth c cells slots Q nL σ pc lv (.int y :: .int x :: st) := by
  subst hq; exact fun H locs ls hP hS hl => lv_ishr hC.1 hC.2.1 hdg (k H locs ls hP hS hl)
theorem y_ladd (hC : CX Γ A p s m args c own cc nL) {x y : Int64} (hdg : decode cc pc = .ok (.ladd, 1)) (q : Nat) (hq : pc + 1 = q) (k : Y Γ A p l e R s m args below meth c cells slots Q nL σ q lv (.long (x + y) :: st)) : Y Γ A p l e R s m args below meth c cells slots Q nL σ pc lv (.long y :: .long x :: st) := by
  subst hq; exact fun H locs ls hP hS hl => lv_ladd hC.1 hC.2.1 hdg (k H locs ls hP hS hl)
theorem y_lmul (hC : CX Γ A p s m args c own cc nL) {x y : Int64} (hdg : decode cc pc = .ok (.lmul, 1)) (q : Nat) (hq : pc + 1 = q) (k : Y Γ A p l e R s m args below meth c cells slots Q nL σ q lv (.long (x * y) :: st)) : Y Γ A p l e R s m args below meth c cells slots Q nL σ pc lv (.long y :: .long x :: st) := by
  subst hq; exact fun H locs ls hP hS hl => lv_lmul hC.1 hC.2.1 hdg (k H locs ls hP hS hl)
theorem y_idiv (hC : CX Γ A p s m args c own cc nL) {x y : Int32} (hdg : decode cc pc = .ok (.idiv, 1)) (hne : ¬ y = 0) (q : Nat) (hq : pc + 1 = q) (k : Y Γ A p l e R s m args below meth c cells slots Q nL σ q lv (.int (x / y) :: st)) : Y Γ A p l e R s m args below meth c cells slots Q nL σ pc lv (.int y :: .int x :: st) := by
  subst hq; exact fun H locs ls hP hS hl => lv_idiv hC.1 hC.2.1 hdg hne (k H locs ls hP hS hl)
theorem y_irem (hC : CX Γ A p s m args c own cc nL) {x y : Int32} (hdg : decode cc pc = .ok (.irem, 1)) (hne : ¬ y = 0) (q : Nat) (hq : pc + 1 = q) (k : Y Γ A p l e R s m args below meth c cells slots Q nL σ q lv (.int (x - x / y * y) :: st)) : Y Γ A p l e R s m args below meth c cells slots Q nL σ pc lv (.int y :: .int x :: st) := by
  subst hq; exact fun H locs ls hP hS hl => lv_irem hC.1 hC.2.1 hdg hne (k H locs ls hP hS hl)
theorem y_ldiv (hC : CX Γ A p s m args c own cc nL) {x y : Int64} (hdg : decode cc pc = .ok (.ldiv, 1)) (hne : ¬ y = 0) (q : Nat) (hq : pc + 1 = q) (k : Y Γ A p l e R s m args below meth c cells slots Q nL σ q lv (.long (x / y) :: st)) : Y Γ A p l e R s m args below meth c cells slots Q nL σ pc lv (.long y :: .long x :: st) := by
  subst hq; exact fun H locs ls hP hS hl => lv_ldiv hC.1 hC.2.1 hdg hne (k H locs ls hP hS hl)
theorem y_lrem (hC : CX Γ A p s m args c own cc nL) {x y : Int64} (hdg : decode cc pc = .ok (.lrem, 1)) (hne : ¬ y = 0) (q : Nat) (hq : pc + 1 = q) (k : Y Γ A p l e R s m args below meth c cells slots Q nL σ q lv (.long (x - x / y * y) :: st)) : Y Γ A p l e R s m args below meth c cells slots Q nL σ pc lv (.long y :: .long x :: st) := by
  subst hq; exact fun H locs ls hP hS hl => lv_lrem hC.1 hC.2.1 hdg hne (k H locs ls hP hS hl)
theorem y_i2l (hC : CX Γ A p s m args c own cc nL) {x : Int32} (hdg : decode cc pc = .ok (.i2l, 1)) (q : Nat) (hq : pc + 1 = q) (k : Y Γ A p l e R s m args below meth c cells slots Q nL σ q lv (.long x.toInt64 :: st)) : Y Γ A p l e R s m args below meth c cells slots Q nL σ pc lv (.int x :: st) := by
  subst hq; exact fun H locs ls hP hS hl => lv_i2l hC.1 hC.2.1 hdg rfl (k H locs ls hP hS hl)
theorem y_iushr (hC : CX Γ A p s m args c own cc nL) {x y : Int32} (hdg : decode cc pc = .ok (.iushr, 1)) (q : Nat) (hq : pc + 1 = q) (k : Y Γ A p l e R s m args below meth c cells slots Q nL σ q lv (.int (x.toUInt32 >>> (y.toUInt32 &&& Int32.toUInt32 31)).toInt32 :: st)) : Y Γ A p l e R s m args below meth c cells slots Q nL σ pc lv (.int y :: .int x :: st) := by
  subst hq; exact fun H locs ls hP hS hl => lv_iushr hC.1 hC.2.1 hdg rfl (k H locs ls hP hS hl)
theorem y_lcmp (hC : CX Γ A p s m args c own cc nL) {x y : Int64} (hdg : decode cc pc = .ok (.lcmp, 1)) (q : Nat) (hq : pc + 1 = q) (k : Y Γ A p l e R s m args below meth c cells slots Q nL σ q lv (.int (lg_cmp x y) :: st)) : Y Γ A p l e R s m args below meth c cells slots Q nL σ pc lv (.long y :: .long x :: st) := by
  subst hq; exact fun H locs ls hP hS hl => W.lcmp hC.1 hC.2.1 hdg (k H locs ls hP hS hl)
theorem y_if_eq (hC : CX Γ A p s m args c own cc nL) {x : Int32} {off : Int} (hdg : decode cc pc = .ok (.ifCond .eq off, 3)) (t : Nat) (ht : (pc : Int) + off = (t : Int)) (q : Nat) (hq : pc + 3 = q) (kt : x = 0 → Y Γ A p l e R s m args below meth c cells slots Q nL σ t lv st) (kf : ¬ x = 0 → Y Γ A p l e R s m args below meth c cells slots Q nL σ q lv st) : Y Γ A p l e R s m args below meth c cells slots Q nL σ pc lv (.int x :: st) := by
  subst hq; exact fun H locs ls hP hS hl => lv_if_eq hC.1 hC.2.1 hdg ht (fun h => kt h H locs ls hP hS hl) (fun h => kf h H locs ls hP hS hl)
theorem y_if_ne (hC : CX Γ A p s m args c own cc nL) {x : Int32} {off : Int} (hdg : decode cc pc = .ok (.ifCond .ne off, 3)) (t : Nat) (ht : (pc : Int) + off = (t : Int)) (q : Nat) (hq : pc + 3 = q) (kt : ¬ x = 0 → Y Γ A p l e R s m args below meth c cells slots Q nL σ t lv st) (kf : x = 0 → Y Γ A p l e R s m args below meth c cells slots Q nL σ q lv st) : Y Γ A p l e R s m args below meth c cells slots Q nL σ pc lv (.int x :: st) := by
  subst hq; exact fun H locs ls hP hS hl => lv_if_ne hC.1 hC.2.1 hdg ht (fun h => kt h H locs ls hP hS hl) (fun h => kf h H locs ls hP hS hl)
theorem y_if_lt (hC : CX Γ A p s m args c own cc nL) {x : Int32} {off : Int} (hdg : decode cc pc = .ok (.ifCond .lt off, 3)) (t : Nat) (ht : (pc : Int) + off = (t : Int)) (q : Nat) (hq : pc + 3 = q) (kt : x < 0 → Y Γ A p l e R s m args below meth c cells slots Q nL σ t lv st) (kf : ¬ x < 0 → Y Γ A p l e R s m args below meth c cells slots Q nL σ q lv st) : Y Γ A p l e R s m args below meth c cells slots Q nL σ pc lv (.int x :: st) := by
  subst hq; exact fun H locs ls hP hS hl => lv_if_lt hC.1 hC.2.1 hdg ht (fun h => kt h H locs ls hP hS hl) (fun h => kf h H locs ls hP hS hl)
theorem y_if_ge (hC : CX Γ A p s m args c own cc nL) {x : Int32} {off : Int} (hdg : decode cc pc = .ok (.ifCond .ge off, 3)) (t : Nat) (ht : (pc : Int) + off = (t : Int)) (q : Nat) (hq : pc + 3 = q) (kt : 0 ≤ x → Y Γ A p l e R s m args below meth c cells slots Q nL σ t lv st) (kf : ¬ 0 ≤ x → Y Γ A p l e R s m args below meth c cells slots Q nL σ q lv st) : Y Γ A p l e R s m args below meth c cells slots Q nL σ pc lv (.int x :: st) := by
  subst hq; exact fun H locs ls hP hS hl => lv_if_ge hC.1 hC.2.1 hdg ht (fun h => kt h H locs ls hP hS hl) (fun h => kf h H locs ls hP hS hl)
theorem y_if_gt (hC : CX Γ A p s m args c own cc nL) {x : Int32} {off : Int} (hdg : decode cc pc = .ok (.ifCond .gt off, 3)) (t : Nat) (ht : (pc : Int) + off = (t : Int)) (q : Nat) (hq : pc + 3 = q) (kt : 0 < x → Y Γ A p l e R s m args below meth c cells slots Q nL σ t lv st) (kf : ¬ 0 < x → Y Γ A p l e R s m args below meth c cells slots Q nL σ q lv st) : Y Γ A p l e R s m args below meth c cells slots Q nL σ pc lv (.int x :: st) := by
  subst hq; exact fun H locs ls hP hS hl => lv_if_gt hC.1 hC.2.1 hdg ht (fun h => kt h H locs ls hP hS hl) (fun h => kf h H locs ls hP hS hl)
theorem y_if_le (hC : CX Γ A p s m args c own cc nL) {x : Int32} {off : Int} (hdg : decode cc pc = .ok (.ifCond .le off, 3)) (t : Nat) (ht : (pc : Int) + off = (t : Int)) (q : Nat) (hq : pc + 3 = q) (kt : x ≤ 0 → Y Γ A p l e R s m args below meth c cells slots Q nL σ t lv st) (kf : ¬ x ≤ 0 → Y Γ A p l e R s m args below meth c cells slots Q nL σ q lv st) : Y Γ A p l e R s m args below meth c cells slots Q nL σ pc lv (.int x :: st) := by
  subst hq; exact fun H locs ls hP hS hl => lv_if_le hC.1 hC.2.1 hdg ht (fun h => kt h H locs ls hP hS hl) (fun h => kf h H locs ls hP hS hl)
theorem y_icmp_eq (hC : CX Γ A p s m args c own cc nL) {x y : Int32} {off : Int} (hdg : decode cc pc = .ok (.if_icmp .eq off, 3)) (t : Nat) (ht : (pc : Int) + off = (t : Int)) (q : Nat) (hq : pc + 3 = q) (kt : x = y → Y Γ A p l e R s m args below meth c cells slots Q nL σ t lv st) (kf : ¬ x = y → Y Γ A p l e R s m args below meth c cells slots Q nL σ q lv st) : Y Γ A p l e R s m args below meth c cells slots Q nL σ pc lv (.int y :: .int x :: st) := by
  subst hq; exact fun H locs ls hP hS hl => lv_icmp_eq hC.1 hC.2.1 hdg ht (fun h => kt h H locs ls hP hS hl) (fun h => kf h H locs ls hP hS hl)
theorem y_icmp_ne (hC : CX Γ A p s m args c own cc nL) {x y : Int32} {off : Int} (hdg : decode cc pc = .ok (.if_icmp .ne off, 3)) (t : Nat) (ht : (pc : Int) + off = (t : Int)) (q : Nat) (hq : pc + 3 = q) (kt : ¬ x = y → Y Γ A p l e R s m args below meth c cells slots Q nL σ t lv st) (kf : x = y → Y Γ A p l e R s m args below meth c cells slots Q nL σ q lv st) : Y Γ A p l e R s m args below meth c cells slots Q nL σ pc lv (.int y :: .int x :: st) := by
  subst hq; exact fun H locs ls hP hS hl => lv_icmp_ne hC.1 hC.2.1 hdg ht (fun h => kt h H locs ls hP hS hl) (fun h => kf h H locs ls hP hS hl)
theorem y_icmp_lt (hC : CX Γ A p s m args c own cc nL) {x y : Int32} {off : Int} (hdg : decode cc pc = .ok (.if_icmp .lt off, 3)) (t : Nat) (ht : (pc : Int) + off = (t : Int)) (q : Nat) (hq : pc + 3 = q) (kt : x < y → Y Γ A p l e R s m args below meth c cells slots Q nL σ t lv st) (kf : ¬ x < y → Y Γ A p l e R s m args below meth c cells slots Q nL σ q lv st) : Y Γ A p l e R s m args below meth c cells slots Q nL σ pc lv (.int y :: .int x :: st) := by
  subst hq; exact fun H locs ls hP hS hl => lv_icmp_lt hC.1 hC.2.1 hdg ht (fun h => kt h H locs ls hP hS hl) (fun h => kf h H locs ls hP hS hl)
theorem y_icmp_ge (hC : CX Γ A p s m args c own cc nL) {x y : Int32} {off : Int} (hdg : decode cc pc = .ok (.if_icmp .ge off, 3)) (t : Nat) (ht : (pc : Int) + off = (t : Int)) (q : Nat) (hq : pc + 3 = q) (kt : y ≤ x → Y Γ A p l e R s m args below meth c cells slots Q nL σ t lv st) (kf : ¬ y ≤ x → Y Γ A p l e R s m args below meth c cells slots Q nL σ q lv st) : Y Γ A p l e R s m args below meth c cells slots Q nL σ pc lv (.int y :: .int x :: st) := by
  subst hq; exact fun H locs ls hP hS hl => lv_icmp_ge hC.1 hC.2.1 hdg ht (fun h => kt h H locs ls hP hS hl) (fun h => kf h H locs ls hP hS hl)
theorem y_icmp_gt (hC : CX Γ A p s m args c own cc nL) {x y : Int32} {off : Int} (hdg : decode cc pc = .ok (.if_icmp .gt off, 3)) (t : Nat) (ht : (pc : Int) + off = (t : Int)) (q : Nat) (hq : pc + 3 = q) (kt : y < x → Y Γ A p l e R s m args below meth c cells slots Q nL σ t lv st) (kf : ¬ y < x → Y Γ A p l e R s m args below meth c cells slots Q nL σ q lv st) : Y Γ A p l e R s m args below meth c cells slots Q nL σ pc lv (.int y :: .int x :: st) := by
  subst hq; exact fun H locs ls hP hS hl => lv_icmp_gt hC.1 hC.2.1 hdg ht (fun h => kt h H locs ls hP hS hl) (fun h => kf h H locs ls hP hS hl)
theorem y_icmp_le (hC : CX Γ A p s m args c own cc nL) {x y : Int32} {off : Int} (hdg : decode cc pc = .ok (.if_icmp .le off, 3)) (t : Nat) (ht : (pc : Int) + off = (t : Int)) (q : Nat) (hq : pc + 3 = q) (kt : x ≤ y → Y Γ A p l e R s m args below meth c cells slots Q nL σ t lv st) (kf : ¬ x ≤ y → Y Γ A p l e R s m args below meth c cells slots Q nL σ q lv st) : Y Γ A p l e R s m args below meth c cells slots Q nL σ pc lv (.int y :: .int x :: st) := by
  subst hq; exact fun H locs ls hP hS hl => lv_icmp_le hC.1 hC.2.1 hdg ht (fun h => kt h H locs ls hP hS hl) (fun h => kf h H locs ls hP hS hl)
theorem y_goto (hC : CX Γ A p s m args c own cc nL) {off : Int} (hdg : decode cc pc = .ok (.goto off, 3)) (t : Nat) (ht : (pc : Int) + off = (t : Int)) (k : Y Γ A p l e R s m args below meth c cells slots Q nL σ t lv st) : Y Γ A p l e R s m args below meth c cells slots Q nL σ pc lv st :=
  fun H locs ls hP hS hl => lv_goto hC.1 hC.2.1 hdg ht (k H locs ls hP hS hl)
theorem y_tabO (hC : CX Γ A p s m args c own cc nL) {dflt lo hi : Int} {offs : Array Int} {len : Nat} {x : Int32} (hdg : decode cc pc = .ok (.tableswitch dflt lo hi offs, len)) (h : x.toInt < lo ∨ hi < x.toInt) (t : Nat) (ht : (pc : Int) + dflt = (t : Int)) (k : Y Γ A p l e R s m args below meth c cells slots Q nL σ t lv st) : Y Γ A p l e R s m args below meth c cells slots Q nL σ pc lv (.int x :: st) :=
  fun H locs ls hP hS hl => lv_tableOut hC.1 hC.2.1 hdg h ht (k H locs ls hP hS hl)
theorem y_tabI (hC : CX Γ A p s m args c own cc nL) {dflt lo hi : Int} {offs : Array Int} {len : Nat} {x : Int32} (hdg : decode cc pc = .ok (.tableswitch dflt lo hi offs, len)) {z : Int} (hz : x.toInt = z) (h1 : ¬ z < lo) (h2 : ¬ hi < z) {off : Int} (ho : offs[(z - lo).toNat]? = some off) (t : Nat) (ht : (pc : Int) + off = (t : Int)) (k : Y Γ A p l e R s m args below meth c cells slots Q nL σ t lv st) : Y Γ A p l e R s m args below meth c cells slots Q nL σ pc lv (.int x :: st) := by
  subst hz
  exact fun H locs ls hP hS hl => lv_tableIn hC.1 hC.2.1 hdg h1 h2 ho ht (k H locs ls hP hS hl)
-- fields
theorem y_get (hC : CX Γ A p s m args c own cc nL) (i : Nat) (hi : act Γ i) {ci : Nat} {fs : List Value} (hc : cell Γ σ i = .inr (ci, fs)) {C : String} {T : u_T} {N : Nat} (hcl : vwCl[ci]? = some (C, T, N)) (hin : ∀ w ∈ u_ws C T N, w ∈ wU) (k : Nat) (hk : k < N) {index : Nat} (hlink : Cond.fieldLink own index (T k).1 (T k).2.1 (T k).2.2.1 ∈ wU) {v : Value} (hv : fs[k]? = some v) (hdg : decode cc pc = .ok (.getfield index, 3)) (q : Nat) (hq : pc + 3 = q) (kk : Y Γ A p l e R s m args below meth c cells slots Q nL σ q lv (v :: st)) : Y Γ A p l e R s m args below meth c cells slots Q nL σ pc lv (.ref (ad Γ i) :: st) := by
  subst hq
  obtain ⟨n, hn⟩ := wl_at hi hc
  exact fun H locs ls hP hS hl => va_get hC.1 hC.2.1 hC.2.2.2.2.1 hin hC.2.2.2.1 hC.2.2.2.2.2.1 hP n hn hcl k hk (hC.2.2.2.2.1 _ hlink) (fun _ h => h) hv hdg (kk H locs ls hP hS hl)
theorem y_getN (hC : CX Γ A p s m args c own cc nL) (i : Nat) (hi : act Γ i) {ci : Nat} {fs : List Value} (hc : cell Γ σ i = .inr (ci, fs)) {C : String} {T : u_T} {N : Nat} (hcl : vwCl[ci]? = some (C, T, N)) (hin : ∀ w ∈ u_ws C T N, w ∈ wU) (k : Nat) (hk : k < N) {index : Nat} {host : String} (hlink : Cond.fieldLinkNest own index (T k).1 (T k).2.1 (T k).2.2.1 host ∈ wN) {v : Value} (hv : fs[k]? = some v) (hdg : decode cc pc = .ok (.getfield index, 3)) (q : Nat) (hq : pc + 3 = q) (kk : Y Γ A p l e R s m args below meth c cells slots Q nL σ q lv (v :: st)) : Y Γ A p l e R s m args below meth c cells slots Q nL σ pc lv (.ref (ad Γ i) :: st) := by
  subst hq
  obtain ⟨n, hn⟩ := wl_at hi hc
  exact fun H locs ls hP hS hl => va_getN hC.1 hC.2.1 hC.2.2.2.2.1 hin hC.2.2.2.1 hC.2.2.2.2.2.1 hP n hn hcl k hk (va_Nw.use rfl (hC.2.2.2.2.2.2.1.1 _ hlink)) (fun _ h => h) hv hdg (kk H locs ls hP hS hl)
theorem y_put (hC : CX Γ A p s m args c own cc nL) (i : Nat) (hi : act Γ i) {ci : Nat} {fs : List Value} (hc : cell Γ σ i = .inr (ci, fs)) {C : String} {T : u_T} {N : Nat} (hcl : vwCl[ci]? = some (C, T, N)) (hin : ∀ w ∈ u_ws C T N, w ∈ wU) {ty0 : Nat → FieldType} (hty : ∀ k, k < N → parseFieldDescriptor (T k).2.2.1 = some (ty0 k)) (hnm : ∀ a, a < N → ∀ b, b < N → a ≠ b → (T a).2.1 ≠ (T b).2.1) (k : Nat) (hk : k < N) {index : Nat} (hlink : Cond.fieldLink own index (T k).1 (T k).2.1 (T k).2.2.1 ∈ wU) (hfin : (T k).2.2.2 = false) {ty : FieldType} {v : Value} (hd : ty0 k = ty) (hn : narrow ty v = v) (hfit : fits ty v = true) (hlen : k < fs.length) (σ' : GSt) (hu : cu Γ σ i (.inr (ci, fs.set k v)) σ') (hdg : decode cc pc = .ok (.putfield index, 3)) (q : Nat) (hq : pc + 3 = q) (kk : Y Γ A p l e R s m args below meth c cells slots Q nL σ' q lv st) : Y Γ A p l e R s m args below meth c cells slots Q nL σ pc lv (v :: .ref (ad Γ i) :: st) := by
  subst hq; subst hd
  obtain ⟨n, hn'⟩ := wl_at hi hc
  exact fun H locs ls hP hS hl => va_put hC.1 hC.2.1 hC.2.2.2.2.1 hin ty0 hty hnm hC.2.2.2.1 hC.2.2.2.2.2.1 hP (wl_D hC.2.2.2.2.2.2.2.1 hC.2.2.2.2.2.2.2.2) hS n hn' hcl k hk (hC.2.2.2.2.1 _ hlink) (fun _ h => h) hfin (hty k hk) hn hfit hlen hdg (fun H1 locs1 hP1 _ hS1 => kk H1 locs1 ls (by rw [wl_set hC.2.2.2.2.2.2.2.1 hn' hi hu] at hP1; exact hP1) hS1 hl)
theorem y_putN (hC : CX Γ A p s m args c own cc nL) (i : Nat) (hi : act Γ i) {ci : Nat} {fs : List Value} (hc : cell Γ σ i = .inr (ci, fs)) {C : String} {T : u_T} {N : Nat} (hcl : vwCl[ci]? = some (C, T, N)) (hin : ∀ w ∈ u_ws C T N, w ∈ wU) {ty0 : Nat → FieldType} (hty : ∀ k, k < N → parseFieldDescriptor (T k).2.2.1 = some (ty0 k)) (hnm : ∀ a, a < N → ∀ b, b < N → a ≠ b → (T a).2.1 ≠ (T b).2.1) (k : Nat) (hk : k < N) {index : Nat} {host : String} (hlink : Cond.fieldLinkNest own index (T k).1 (T k).2.1 (T k).2.2.1 host ∈ wN) (hfin : (T k).2.2.2 = false) {ty : FieldType} {v : Value} (hd : ty0 k = ty) (hn : narrow ty v = v) (hfit : fits ty v = true) (hlen : k < fs.length) (σ' : GSt) (hu : cu Γ σ i (.inr (ci, fs.set k v)) σ') (hdg : decode cc pc = .ok (.putfield index, 3)) (q : Nat) (hq : pc + 3 = q) (kk : Y Γ A p l e R s m args below meth c cells slots Q nL σ' q lv st) : Y Γ A p l e R s m args below meth c cells slots Q nL σ pc lv (v :: .ref (ad Γ i) :: st) := by
  subst hq; subst hd
  obtain ⟨n, hn'⟩ := wl_at hi hc
  exact fun H locs ls hP hS hl => va_putN hC.1 hC.2.1 hC.2.2.2.2.1 hin ty0 hty hnm hC.2.2.2.1 hC.2.2.2.2.2.1 hP (wl_D hC.2.2.2.2.2.2.2.1 hC.2.2.2.2.2.2.2.2) hS n hn' hcl k hk (va_Nw.use rfl (hC.2.2.2.2.2.2.1.1 _ hlink)) (fun _ h => h) hfin (hty k hk) hn hfit hlen hdg (fun H1 locs1 hP1 _ hS1 => kk H1 locs1 ls (by rw [wl_set hC.2.2.2.2.2.2.2.1 hn' hi hu] at hP1; exact hP1) hS1 hl)
-- arrays
theorem y_iald (hC : CX Γ A p s m args c own cc nL) (i : Nat) (hi : act Γ i) {n : Nat} {f : Nat → Int32} (hc : cell Γ σ i = .inl (ca Γ 0, n, .inl f)) {x : Int32} (hin : inb x n) (hdg : decode cc pc = .ok (.iaload, 1)) (q : Nat) (hq : pc + 1 = q) (kk : Y Γ A p l e R s m args below meth c cells slots Q nL σ q lv (.int (f x.toNatClampNeg) :: st)) : Y Γ A p l e R s m args below meth c cells slots Q nL σ pc lv (.int x :: .ref (ad Γ i) :: st) := by
  subst hq
  obtain ⟨k, hn⟩ := wl_at hi hc
  exact fun H locs ls hP hS hl => va_iald hC.1 hC.2.1 hC.2.2.2.2.2.1 hP k 0 hn rfl (inb_vp hin) hdg (kk H locs ls hP hS hl)
theorem y_zald (hC : CX Γ A p s m args c own cc nL) (i : Nat) (hi : act Γ i) {n : Nat} {f : Nat → Int32} (hc : cell Γ σ i = .inl (ca Γ 1, n, .inl f)) {x : Int32} (hin : inb x n) (hdg : decode cc pc = .ok (.baload, 1)) (q : Nat) (hq : pc + 1 = q) (kk : Y Γ A p l e R s m args below meth c cells slots Q nL σ q lv (.int (f x.toNatClampNeg) :: st)) : Y Γ A p l e R s m args below meth c cells slots Q nL σ pc lv (.int x :: .ref (ad Γ i) :: st) := by
  subst hq
  obtain ⟨k, hn⟩ := wl_at hi hc
  exact fun H locs ls hP hS hl => va_zald hC.1 hC.2.1 hC.2.2.2.2.2.1 hP k 1 hn rfl (inb_vp hin) hdg (kk H locs ls hP hS hl)
theorem y_iast (hC : CX Γ A p s m args c own cc nL) (i : Nat) (hi : act Γ i) {n : Nat} {f : Nat → Int32} (hc : cell Γ σ i = .inl (ca Γ 0, n, .inl f)) {x v : Int32} (hin : inb x n) (σ' : GSt) (hu : cu Γ σ i (.inl (ca Γ 0, n, .inl (upd f x.toNatClampNeg v))) σ') (hdg : decode cc pc = .ok (.iastore, 1)) (q : Nat) (hq : pc + 1 = q) (kk : Y Γ A p l e R s m args below meth c cells slots Q nL σ' q lv st) : Y Γ A p l e R s m args below meth c cells slots Q nL σ pc lv (.int v :: .int x :: .ref (ad Γ i) :: st) := by
  subst hq
  obtain ⟨k, hn⟩ := wl_at hi hc
  exact fun H locs ls hP hS hl => va_iast hC.1 hC.2.1 hC.2.2.2.2.2.1 hP (wl_D hC.2.2.2.2.2.2.2.1 hC.2.2.2.2.2.2.2.2) hS k 0 hn rfl (inb_vp hin) hdg (fun H1 locs1 hP1 _ hS1 => kk H1 locs1 ls (by rw [wl_set hC.2.2.2.2.2.2.2.1 hn hi hu] at hP1; exact hP1) hS1 hl)
theorem y_zast (hC : CX Γ A p s m args c own cc nL) (i : Nat) (hi : act Γ i) {n : Nat} {f : Nat → Int32} (hc : cell Γ σ i = .inl (ca Γ 1, n, .inl f)) {x v : Int32} (hin : inb x n) (σ' : GSt) (hu : cu Γ σ i (.inl (ca Γ 1, n, .inl (upd f x.toNatClampNeg (vp_nar .boolean v)))) σ') (hdg : decode cc pc = .ok (.bastore, 1)) (q : Nat) (hq : pc + 1 = q) (kk : Y Γ A p l e R s m args below meth c cells slots Q nL σ' q lv st) : Y Γ A p l e R s m args below meth c cells slots Q nL σ pc lv (.int v :: .int x :: .ref (ad Γ i) :: st) := by
  subst hq
  obtain ⟨k, hn⟩ := wl_at hi hc
  exact fun H locs ls hP hS hl => va_zast hC.1 hC.2.1 hC.2.2.2.2.2.1 hP (wl_D hC.2.2.2.2.2.2.2.1 hC.2.2.2.2.2.2.2.2) hS k 1 hn rfl (inb_vp hin) hdg (fun H1 locs1 hP1 _ hS1 => kk H1 locs1 ls (by rw [wl_set hC.2.2.2.2.2.2.2.1 hn hi hu] at hP1; exact hP1) hS1 hl)
theorem y_aald (hC : CX Γ A p s m args c own cc nL) (i t : Nat) (hi : act Γ i) {n : Nat} {C : String} {f : Nat → Option Nat} (hc : cell Γ σ i = .inl (ca Γ t, n, .inr (.inr (.inr (.inr f))))) (ht : (tysG Γ)[t]? = some (ca Γ t, .object C)) {x : Int32} (hin : inb x n) (hdg : decode cc pc = .ok (.aaload, 1)) {a : Nat} (ha : f x.toNatClampNeg = some a) (q : Nat) (hq : pc + 1 = q) (kk : Y Γ A p l e R s m args below meth c cells slots Q nL σ q lv (.ref a :: st)) : Y Γ A p l e R s m args below meth c cells slots Q nL σ pc lv (.int x :: .ref (ad Γ i) :: st) := by
  subst hq
  obtain ⟨k, hn⟩ := wl_at hi hc
  exact fun H locs ls hP hS hl => va_aldq hC.1 hC.2.1 hC.2.2.2.2.2.1 hP k t hn ht (inb_vp hin) hdg (by rw [ha]; exact kk H locs ls hP hS hl)
theorem y_alen (hC : CX Γ A p s m args c own cc nL) (i : Nat) (hi : act Γ i) {n : Nat} {f : Nat → Int32} (hc : cell Γ σ i = .inl (ca Γ 0, n, .inl f)) (hdg : decode cc pc = .ok (.arraylength, 1)) (q : Nat) (hq : pc + 1 = q) (kk : Y Γ A p l e R s m args below meth c cells slots Q nL σ q lv (.int (nI n) :: st)) : Y Γ A p l e R s m args below meth c cells slots Q nL σ pc lv (.ref (ad Γ i) :: st) := by
  subst hq
  obtain ⟨k, hn⟩ := wl_at hi hc
  exact fun H locs ls hP hS hl => va_alen hC.1 hC.2.1 hC.2.2.2.2.2.1 hP k 0 hn rfl rfl hdg (kk H locs ls hP hS hl)
theorem y_copy (hC : CX Γ A p s m args c own cc nL) {index : Nat} (h1 : Cond.methodLink own index arraycopyName ∈ wU) (h2 : Cond.native arraycopyName ∈ wU) (h3 : Cond.static arraycopyName ∈ wU) (h4 : Cond.initialized "java/lang/System" ∈ wU) (i0 i1 : Nat) (hi0 : act Γ i0) (hi1 : act Γ i1) {n0 n1 : Nat} {f g : Nat → Int32} (hc0 : cell Γ σ i0 = .inl (ca Γ 0, n0, .inl f)) (hc1 : cell Γ σ i1 = .inl (ca Γ 0, n1, .inl g)) {sp dp n : Int32} (hb : (¬ sp < 0 ∧ ¬ dp < 0 ∧ ¬ n < 0) ∧ sp.toNatClampNeg + n.toNatClampNeg ≤ n0 ∧ dp.toNatClampNeg + n.toNatClampNeg ≤ n1) (hR : 1 ≤ R.frames ∧ (st.map fun v => v.category).sum + (nativeFrameWords "java/lang/System" "arraycopy" 5 + 11) ≤ R.locals) (σ' : GSt) (hu : cu Γ σ i1 (.inl (ca Γ 0, n1, .inl (va_cpy f g sp.toNatClampNeg dp.toNatClampNeg n.toNatClampNeg))) σ') (hdg : decode cc pc = .ok (.invokestatic index, 3)) (q : Nat) (hq : pc + 3 = q) (kk : Y Γ A p l e R s m args below meth c cells slots Q nL σ' q lv st) : Y Γ A p l e R s m args below meth c cells slots Q nL σ pc lv (.int n :: .int dp :: .ref (ad Γ i1) :: .int sp :: .ref (ad Γ i0) :: st) := by
  subst hq
  obtain ⟨k0, hn0⟩ := wl_at hi0 hc0
  obtain ⟨k1, hn1⟩ := wl_at hi1 hc1
  exact fun H locs ls hP hS hl => va_copyi hC.1 hC.2.1 (hC.2.2.1.trans hl.1.symm) hC.2.2.2.1 (hC.2.2.2.2.1 _ h1) (hC.2.2.2.2.1 _ h2) (hC.2.2.2.2.1 _ h3) (hC.2.2.2.2.1 _ h4) hC.2.2.2.2.2.1 hP (wl_D hC.2.2.2.2.2.2.2.1 hC.2.2.2.2.2.2.2.2) hS k0 k1 0 0 hn0 hn1 rfl rfl rfl hb.1.1 hb.1.2.1 hb.1.2.2 hb.2.1 hb.2.2 (fun _ _ => rfl) hR.1 hR.2 hdg (fun H1 locs1 hP1 _ hS1 => kk H1 locs1 ls (by rw [wl_set hC.2.2.2.2.2.2.2.1 hn1 hi1 hu] at hP1; exact hP1) hS1 hl)
theorem y_max (hC : CX Γ A p s m args c own cc nL) {index : Nat} (h1 : Cond.methodLink own index Lib.Math.max.name ∈ wU) (h2 : Cond.static Lib.Math.max.name ∈ wU) (h3 : Cond.initialized "java/lang/Math" ∈ wU) (h4 : Cond.code Lib.Math.max.name Lib.Math.max.code 2 (some .int) ∈ wU) (hR : 1 ≤ R.frames ∧ (st.map fun v => v.category).sum + 13 ≤ R.locals) (hcs : cells ≤ R.cells ∧ slots ≤ R.slots) {x y : Int32} (hdg : decode cc pc = .ok (.invokestatic index, 3)) (q : Nat) (hq : pc + 3 = q) (kk : Y Γ A p l e R s m args below meth c cells slots Q nL σ q lv (.int (if x < y then y else x) :: st)) : Y Γ A p l e R s m args below meth c cells slots Q nL σ pc lv (.int y :: .int x :: st) := by
  subst hq
  exact fun H locs ls hP hS hl => va_mmax hC.1 hC.2.1 (hC.2.2.1.trans hl.1.symm) hC.2.2.2.1 (hC.2.2.2.2.1 _ h1) (hC.2.2.2.2.1 _ h2) (hC.2.2.2.2.1 _ h3) (hC.2.2.2.2.1 _ h4) hR.1 hR.2 hcs.1 hcs.2 hdg (kk H locs ls hP hS hl)
theorem y_min (hC : CX Γ A p s m args c own cc nL) {index : Nat} (h1 : Cond.methodLink own index Lib.Math.min.name ∈ wU) (h2 : Cond.static Lib.Math.min.name ∈ wU) (h3 : Cond.initialized "java/lang/Math" ∈ wU) (h4 : Cond.code Lib.Math.min.name Lib.Math.min.code 2 (some .int) ∈ wU) (hR : 1 ≤ R.frames ∧ (st.map fun v => v.category).sum + 13 ≤ R.locals) (hcs : cells ≤ R.cells ∧ slots ≤ R.slots) {x y : Int32} (hdg : decode cc pc = .ok (.invokestatic index, 3)) (q : Nat) (hq : pc + 3 = q) (kk : Y Γ A p l e R s m args below meth c cells slots Q nL σ q lv (.int (if y < x then y else x) :: st)) : Y Γ A p l e R s m args below meth c cells slots Q nL σ pc lv (.int y :: .int x :: st) := by
  subst hq
  exact fun H locs ls hP hS hl => va_mmin hC.1 hC.2.1 (hC.2.2.1.trans hl.1.symm) hC.2.2.2.1 (hC.2.2.2.2.1 _ h1) (hC.2.2.2.2.1 _ h2) (hC.2.2.2.2.1 _ h3) (hC.2.2.2.2.1 _ h4) hR.1 hR.2 hcs.1 hcs.2 hdg (kk H locs ls hP hS hl)
end YR
-- ===== CONTRACTS =====
def Pg (Γ : GC) (avs : List Value) (σ : GSt) : Array Value → State → Prop := va_Pc avs (fun U => GP Γ σ U.heap ∧ va_K Γ.1 vwCl (tysG Γ) U ∧ NK Γ (GA Γ) U)
def Qg (Γ : GC) (ov : Option Value) (σ' : GSt) : Array Value → State → Outcome → State → Prop := fun _ st oc t => oc = .returned ov ∧ GP Γ σ' t.heap ∧ va_F (GA Γ) st t
abbrev Mt (Γ : GC) (l : Launch) (y : MethodName) (bytes : ByteArray) (maxL : Nat) (ret : Option FieldType) (fr lo : Nat) (avs : List Value) (σ : GSt) (ov : Option Value) (σ' : GSt) : Prop :=
  Met l y (Cond.code y bytes maxL ret :: wU) ({ frames := fr, cells := 0, slots := 0, locals := lo } : Room) (Pg Γ avs σ) (Qg Γ ov σ') 0 0 (GA Γ)
theorem Pg_blind (Γ : GC) (avs : List Value) (σ : GSt) : FrameBlind (Pg Γ avs σ) := fun a U g mk q => by
  obtain ⟨q0, qP, qK, qN⟩ := q
  exact ⟨q0, qP, va_K.moved (u := U) (U := U.calling g mk a) (Vm.Alike.refl U.vm) qK, ⟨NW.same (u := U) (U := U.calling g mk a) rfl qN.1, SK.same (s := U) (U := U.calling g mk a) rfl qN.2⟩⟩
theorem y_enter {Γ : GC} {l : Launch} {y : MethodName} {bytes : ByteArray} {maxL : Nat} {ret : Option FieldType} {fr lo : Nat} {avs : List Value} {σ : GSt} {ov : Option Value} {σ' : GSt} (hy : plainName y.cls = true) (hJ : GJ Γ) (hlen : (lg_sl avs).length ≤ maxL) (lv : List (Nat × Value)) (hlv : lv_args 0 avs = lv)
    (body : ∀ (p : Program) (e : Env) (s : State) (m : MethodId) (args : Array Value) (below : List Frame) (meth : Method) (c : Code), CX Γ (GA Γ) p s m args c y.cls bytes maxL → meth.sig.returnType = ret → meth.locks = false → Y Γ (GA Γ) p l e ({ frames := fr, cells := 0, slots := 0, locals := lo } : Room) s m args below meth c 0 0 (MQ below (Qg Γ ov σ') args s 0 0 (GA Γ)) maxL σ 0 lv []) : Mt Γ l y bytes maxL ret fr lo avs σ ov σ' := by
  subst hlv
  refine Met.ofW (cc := bytes) (maxL := maxL) (ret := ret) hy rfl ?_
  intro p e s m args below meth c s₁ B hml hv
  obtain ⟨rfl, hP, hK, hN⟩ := hv
  have hts := atoms_spec (ws := Cond.code y bytes maxL ret :: wU) B.pre
  have hb := body p e s m avs.toArray below meth c ⟨B.exec, B.bytes, hml, findClass_of_methodNamed B.named, fun w hw => hts w (List.mem_cons_of_mem _ hw), hK, hN, hJ, fun _ h => h⟩ B.returns B.notSynchronized
  have hl := lv_entry avs (n := maxL) hlen
  rw [lg_entry_eq]
  exact hb _ _ _ hP va_S.rf hl
section YC
variable {Γ : GC} {A : Nat → Prop} {p : Program} {l : Launch} {e : Env} {R : Room} {s : State} {m : MethodId} {args : Array Value} {below : List Frame} {meth : Method} {c : Code} {cells slots : Nat} {Q : State → Prop} {nL : Nat} {σ : GSt} {pc : Nat} {lv : List (Nat × Value)} {st : List Value} {own : String} {cc : ByteArray}
theorem y_run (hC : CX Γ A p s m args c own cc nL) {H : Heap} {locs : List Loc} {ls : Array Slot} {ov : Option Value} {σ2 : GSt} {a : Array Value} {st0 rest : List Value} (hr : va_Run p l e R s m args below meth c H locs cells slots 0 0 (F0 m pc ls st0) rest (Qg Γ ov σ2 a) (GA Γ)) (hS : va_S A s.heap H locs) (hl : lv_has ls nL lv) (kk : Y Γ A p l e R s m args below meth c cells slots Q nL σ2 (pc + 3) lv (ov.toList ++ rest)) : W p l e R s m args below meth c H locs cells slots Q (F0 m pc ls st0) := by
  intro T hT X
  obtain ⟨v, st₀, t, T', L, h0, X', hL, e1, e2, ⟨hv, hP, hz, hk⟩, stp⟩ := hr T hT X
  cases hv
  rw [h0] at hz hk
  have hS' : va_S A s.heap T'.heap (locs ++ L) := by
    refine ⟨Nat.le_trans hS.1 (by rw [e1]; exact hz), fun q h1 h2 => ?_, fun q hq => ?_⟩
    · rw [e1, hk q (Nat.lt_of_lt_of_le h1 hS.1) (fun z => h2 (hC.2.2.2.2.2.2.2.2 q z))]
      exact hS.2.1 q h1 h2
    · rcases List.mem_append.mp hq with h | h
      · exact hS.2.2 q h
      · exact hC.2.2.2.2.2.2.2.2 _ (hL q h)
  obtain ⟨t2, a1, b1⟩ := kk T'.heap (locs ++ L) ls (by rw [e1]; exact hP) hS' hl T' rfl X'
  exact ⟨t2, stp t2 a1, b1⟩
variable {y : MethodName} {bytes : ByteArray} {maxL : Nat} {ret : Option FieldType} {fr lo : Nat} {As : List Value} {ov : Option Value} {σ1 σ2 : GSt} {index : Nat}
theorem y_recv {i : Nat} (hC : CX Γ A p s m args c own cc nL) {H : Heap} (hP : GP Γ σ H) (hi : act Γ i) {ci : Nat} {fs : List Value} (hc : cell Γ σ i = .inr (ci, fs)) {q : vw_C} (hcl : vwCl[ci]? = some q) : ∃ cell : Cell, H[ad Γ i]? = some cell ∧ cell.vm.isStatics = false ∧ s.vm.findClass q.1 = some cell.cls := by
  obtain ⟨n, hn⟩ := wl_at hi hc
  exact va_recv hC.2.2.2.2.2.1 hP hcl hn
/-- what a call asks of the words and of the room -/
abbrev CW (R : Room) (y : MethodName) (bytes : ByteArray) (maxL : Nat) (ret : Option FieldType) (fr lo n : Nat) : Prop :=
  Cond.code y bytes maxL ret ∈ wU ∧ Cond.initialized y.cls ∈ wU ∧ (y.cls ≠ "java/lang/invoke/MethodHandle" ∧ y.cls ≠ "java/lang/invoke/VarHandle" ∧ (parseMethodDescriptor y.desc).map (fun d => d.parameters.length) = some n) ∧ fr + 1 ≤ R.frames ∧ 8 + (maxL + 11) + lo ≤ R.locals
theorem cw_B {n : Nat} (hC : CX Γ A p s m args c own cc nL) (cw : CW R y bytes maxL ret fr lo n) (hl : Cond.methodLink own index y ∈ wU) : CallB R s args own index y bytes maxL ret (Cond.code y bytes maxL ret :: wU) ({ frames := fr, cells := 0, slots := 0, locals := lo } : Room) 0 0 n :=
  callB_of n hC.2.2.2.2.1 (gU cw.1) rfl rfl rfl (hC.2.2.2.2.1 _ cw.2.1) (hC.2.2.2.2.1 _ hl) cw.2.2.1 cw.2.2.2
theorem cw_N {n : Nat} {host : String} (hC : CX Γ A p s m args c own cc nL) (cw : CW R y bytes maxL ret fr lo n) (hl : Cond.methodLinkNest own index y host ∈ wN) : va_CN R s args own index y host bytes maxL ret (Cond.code y bytes maxL ret :: wU) ({ frames := fr, cells := 0, slots := 0, locals := lo } : Room) 0 0 n :=
  va_cnB n hC.2.2.2.2.1 (gU cw.1) rfl rfl rfl (hC.2.2.2.2.2.2.1.1 _ hl) (hC.2.2.2.2.1 _ cw.2.1) cw.2.2.1 cw.2.2.2
theorem nk_of {H : Heap} {locs : List Loc} (hC : CX Γ A p s m args c own cc nL) (hS : va_S A s.heap H locs) {U : State} (hU : U.heap = H) (hW : s.WarmedH U.vm) : NK Γ (GA Γ) U :=
  ⟨hC.2.2.2.2.2.2.1.1.warm hW, by rw [hU]; exact ((hC.2.2.2.2.2.2.1.2.kept hS.2.1).warm hW).narrow hC.2.2.2.2.2.2.2.2⟩
theorem pre_V {i : Nat} (hC : CX Γ A p s m args c own cc nL) {H : Heap} {locs : List Loc} (hS : va_S A s.heap H locs) (hP : GP Γ σ H) (hi : act Γ i) {ci : Nat} {fs : List Value} (hc : cell Γ σ i = .inr (ci, fs)) {q : vw_C} (hcl : vwCl[ci]? = some q) : PreV s H q.1 (ad Γ i) (Pg Γ (.ref (ad Γ i) :: As) σ) As :=
  ⟨Pg_blind _ _ _, y_recv hC hP hi hc hcl, fun U hU hW => ⟨rfl, by rw [hU]; exact hP, va_K.moved hW.alike hC.2.2.2.2.2.1, nk_of hC hS hU hW⟩⟩
theorem pre_S (hC : CX Γ A p s m args c own cc nL) {H : Heap} {locs : List Loc} (hS : va_S A s.heap H locs) (hP : GP Γ σ H) : PreS s H (Pg Γ As σ) As :=
  ⟨Pg_blind _ _ _, fun U hU hW => ⟨rfl, by rw [hU]; exact hP, va_K.moved hW.alike hC.2.2.2.2.2.1, nk_of hC hS hU hW⟩⟩
/-- a method of one's own class, or one that is public -/
theorem y_callV (hC : CX Γ A p s m args c own cc nL) {n : Nat} (i : Nat) (hi : act Γ i) {ci : Nat} {fs : List Value} (hc : cell Γ σ i = .inr (ci, fs)) {q : vw_C} (hcl : vwCl[ci]? = some q) (hM : Mt Γ l y bytes maxL ret fr lo (.ref (ad Γ i) :: As) σ1 ov σ2) (h1 : σ = σ1) (cw : CW R y bytes maxL ret fr lo n) (hl : Cond.methodLink own index y ∈ wU) (hin : Cond.instanceMethod y ∈ wU) (hse : Cond.selects q.1 y y ∈ wU) (hn : As.length = n) {st0 : List Value} (hst : As.reverse ++ .ref (ad Γ i) :: st = st0) (hW : (st.map fun v => v.category).sum ≤ 8) (hcs : cells ≤ R.cells ∧ slots ≤ R.slots) (hdg : decode cc pc = .ok (.invokevirtual index, 3)) (pq : Nat) (hq : pc + 3 = pq) (σ3 : GSt) (h3 : σ2 = σ3) (st1 : List Value) (hs1 : ov.toList ++ st = st1) (kk : Y Γ A p l e R s m args below meth c cells slots Q nL σ3 pq lv st1) : Y Γ A p l e R s m args below meth c cells slots Q nL σ pc lv st0 := by
  subst hq; subst hst; subst h1; subst h3; subst hs1
  exact fun H locs ls hP hS hlv => y_run hC (va_runV (As := As) (rest := st) ⟨hC.1, hC.2.1, hC.2.2.1, hC.2.2.2.1, hC.2.2.2.2.1⟩ hM ⟨cw_B hC cw hl, hC.2.2.2.2.1 _ hin, hC.2.2.2.2.1 _ hse⟩ (pre_V hC hS hP hi hc hcl) rfl hn hlv.1 rfl (by show 2 * 0 + _ ≤ 8; omega) hdg hcs) hS hlv kk
/-- a private method of a nest mate -/
theorem y_callVN (hC : CX Γ A p s m args c own cc nL) {n : Nat} {host : String} (i : Nat) (hi : act Γ i) {ci : Nat} {fs : List Value} (hc : cell Γ σ i = .inr (ci, fs)) {q : vw_C} (hcl : vwCl[ci]? = some q) (hM : Mt Γ l y bytes maxL ret fr lo (.ref (ad Γ i) :: As) σ1 ov σ2) (h1 : σ = σ1) (cw : CW R y bytes maxL ret fr lo n) (hl : Cond.methodLinkNest own index y host ∈ wN) (hin : Cond.instanceMethod y ∈ wU) (hse : Cond.selects q.1 y y ∈ wU) (hn : As.length = n) {st0 : List Value} (hst : As.reverse ++ .ref (ad Γ i) :: st = st0) (hW : (st.map fun v => v.category).sum ≤ 8) (hcs : cells ≤ R.cells ∧ slots ≤ R.slots) (hdg : decode cc pc = .ok (.invokevirtual index, 3)) (pq : Nat) (hq : pc + 3 = pq) (σ3 : GSt) (h3 : σ2 = σ3) (st1 : List Value) (hs1 : ov.toList ++ st = st1) (kk : Y Γ A p l e R s m args below meth c cells slots Q nL σ3 pq lv st1) : Y Γ A p l e R s m args below meth c cells slots Q nL σ pc lv st0 := by
  subst hq; subst hst; subst h1; subst h3; subst hs1
  exact fun H locs ls hP hS hlv => y_run hC (va_runVN (As := As) (rest := st) ⟨hC.1, hC.2.1, hC.2.2.1, hC.2.2.2.1, hC.2.2.2.2.1⟩ hM ⟨cw_N hC cw hl, hC.2.2.2.2.1 _ hin, hC.2.2.2.2.1 _ hse⟩ (pre_V hC hS hP hi hc hcl) rfl hn hlv.1 rfl (by show 2 * 0 + _ ≤ 8; omega) hdg hcs) hS hlv kk
theorem y_callS (hC : CX Γ A p s m args c own cc nL) {n : Nat} (hM : Mt Γ l y bytes maxL ret fr lo As σ1 ov σ2) (h1 : σ = σ1) (cw : CW R y bytes maxL ret fr lo n) (hl : Cond.methodLink own index y ∈ wU) (hin : Cond.static y ∈ wU) (hn : As.length = n) {st0 : List Value} (hst : As.reverse ++ st = st0) (hW : (st.map fun v => v.category).sum ≤ 8) (hcs : cells ≤ R.cells ∧ slots ≤ R.slots) (hdg : decode cc pc = .ok (.invokestatic index, 3)) (pq : Nat) (hq : pc + 3 = pq) (σ3 : GSt) (h3 : σ2 = σ3) (st1 : List Value) (hs1 : ov.toList ++ st = st1) (kk : Y Γ A p l e R s m args below meth c cells slots Q nL σ3 pq lv st1) : Y Γ A p l e R s m args below meth c cells slots Q nL σ pc lv st0 := by
  subst hq; subst hst; subst h1; subst h3; subst hs1
  exact fun H locs ls hP hS hlv => y_run hC (va_runS (As := As) (rest := st) ⟨hC.1, hC.2.1, hC.2.2.1, hC.2.2.2.1, hC.2.2.2.2.1⟩ hM ⟨cw_B hC cw hl, hC.2.2.2.2.1 _ hin⟩ (pre_S hC hS hP) rfl hn hlv.1 rfl (by show 2 * 0 + _ ≤ 8; omega) hdg hcs) hS hlv kk
theorem y_callSN (hC : CX Γ A p s m args c own cc nL) {n : Nat} {host : String} (hM : Mt Γ l y bytes maxL ret fr lo As σ1 ov σ2) (h1 : σ = σ1) (cw : CW R y bytes maxL ret fr lo n) (hl : Cond.methodLinkNest own index y host ∈ wN) (hin : Cond.static y ∈ wU) (hn : As.length = n) {st0 : List Value} (hst : As.reverse ++ st = st0) (hW : (st.map fun v => v.category).sum ≤ 8) (hcs : cells ≤ R.cells ∧ slots ≤ R.slots) (hdg : decode cc pc = .ok (.invokestatic index, 3)) (pq : Nat) (hq : pc + 3 = pq) (σ3 : GSt) (h3 : σ2 = σ3) (st1 : List Value) (hs1 : ov.toList ++ st = st1) (kk : Y Γ A p l e R s m args below meth c cells slots Q nL σ3 pq lv st1) : Y Γ A p l e R s m args below meth c cells slots Q nL σ pc lv st0 := by
  subst hq; subst hst; subst h1; subst h3; subst hs1
  exact fun H locs ls hP hS hlv => y_run hC (va_runSN (As := As) (rest := st) ⟨hC.1, hC.2.1, hC.2.2.1, hC.2.2.2.1, hC.2.2.2.2.1⟩ hM ⟨cw_N hC cw hl, hC.2.2.2.2.1 _ hin, trivial⟩ (pre_S hC hS hP) rfl hn hlv.1 rfl (by show 2 * 0 + _ ≤ 8; omega) hdg hcs) hS hlv kk
/-- a method of the class above, by super -/
theorem y_callSU (hC : CX Γ A p s m args c own cc nL) {n : Nat} (i : Nat) (hi : act Γ i) {ci : Nat} {fs : List Value} (hc : cell Γ σ i = .inr (ci, fs)) {q : vw_C} (hcl : vwCl[ci]? = some q) (hM : Mt Γ l y bytes maxL ret fr lo (.ref (ad Γ i) :: As) σ1 ov σ2) (h1 : σ = σ1) (cw : CW R y bytes maxL ret fr lo n) (hl : Cond.methodLink own index y ∈ wU) (hsm : Cond.sameMethod y.cls y.cls y.name y.desc ∈ wU) (hsu : Cond.superclass own y.cls ∈ wU) (hin : Cond.instanceMethod y ∈ wU) (hni : y.name ≠ "<init>") (hn : As.length = n) {st0 : List Value} (hst : As.reverse ++ .ref (ad Γ i) :: st = st0) (hW : (st.map fun v => v.category).sum ≤ 8) (hcs : cells ≤ R.cells ∧ slots ≤ R.slots) (hdg : decode cc pc = .ok (.invokespecial index, 3)) (pq : Nat) (hq : pc + 3 = pq) (σ3 : GSt) (h3 : σ2 = σ3) (st1 : List Value) (hs1 : ov.toList ++ st = st1) (kk : Y Γ A p l e R s m args below meth c cells slots Q nL σ3 pq lv st1) : Y Γ A p l e R s m args below meth c cells slots Q nL σ pc lv st0 := by
  subst hq; subst hst; subst h1; subst h3; subst hs1
  have hws : va_CS R s args own index y bytes maxL ret (Cond.code y bytes maxL ret :: wU) ({ frames := fr, cells := 0, slots := 0, locals := lo } : Room) 0 0 n := by
    refine ⟨⟨rfl, rfl, cw.2.2.2.1, cw.2.2.2.2, pay_in hC.2.2.2.2.1 (gU cw.1), List.mem_cons_self⟩, hC.2.2.2.2.1 _ hl, hC.2.2.2.2.1 _ hsm, hC.2.2.2.2.1 _ hsu, hC.2.2.2.2.1 _ hin, hC.2.2.2.2.1 _ cw.2.1, hC.2.2.2.2.1 _ cw.1, hni, fun sig h => ?_⟩
    have h2 := cw.2.2.1.2.2
    rw [h] at h2
    exact (Option.some.inj h2).symm
  exact fun H locs ls hP hS hlv => y_run hC (va_runSU (As := As) (rest := st) (hC.2.2.2.2.2.1.1 ci q hcl).2 ⟨hC.1, hC.2.1, hC.2.2.1, hC.2.2.2.1, hC.2.2.2.2.1⟩ hM hws (pre_V hC hS hP hi hc hcl) rfl hn hlv.1 rfl (by show 2 * 0 + _ ≤ 8; omega) hdg hcs) hS hlv kk
/-- a method that the receiver's class chooses -/
theorem y_callU (hC : CX Γ A p s m args c own cc nL) {n : Nat} {x : MethodName} {owner : String} (i : Nat) (hi : act Γ i) {ci : Nat} {fs : List Value} (hc : cell Γ σ i = .inr (ci, fs)) {q : vw_C} (hcl : vwCl[ci]? = some q) (hM : Mt Γ l y bytes maxL ret fr lo (.ref (ad Γ i) :: As) σ1 ov σ2) (h1 : σ = σ1) (hcode : Cond.code y bytes maxL ret ∈ wU) (hini : Cond.initialized y.cls ∈ wU) (hd : owner ≠ "java/lang/invoke/MethodHandle" ∧ owner ≠ "java/lang/invoke/VarHandle" ∧ (parseMethodDescriptor x.desc).map (fun d => d.parameters.length) = some n) (hR : fr + 1 ≤ R.frames ∧ 8 + (maxL + 11) + lo ≤ R.locals) (hl : Cond.methodLink own index x ∈ wU) (hsm : Cond.sameMethod x.cls owner x.name x.desc ∈ wU) {b0 : ByteArray} {m0 : Nat} {r0 : Option FieldType} (hc0 : Cond.code ⟨owner, x.name, x.desc⟩ b0 m0 r0 ∈ wU) (hi0 : Cond.instanceMethod ⟨owner, x.name, x.desc⟩ ∈ wU) (hin : Cond.instanceMethod y ∈ wU) (hse : Cond.selects q.1 x y ∈ wU) (hn : As.length = n) {st0 : List Value} (hst : As.reverse ++ .ref (ad Γ i) :: st = st0) (hW : (st.map fun v => v.category).sum ≤ 8) (hcs : cells ≤ R.cells ∧ slots ≤ R.slots) (hdg : decode cc pc = .ok (.invokevirtual index, 3)) (pq : Nat) (hq : pc + 3 = pq) (σ3 : GSt) (h3 : σ2 = σ3) (st1 : List Value) (hs1 : ov.toList ++ st = st1) (kk : Y Γ A p l e R s m args below meth c cells slots Q nL σ3 pq lv st1) : Y Γ A p l e R s m args below meth c cells slots Q nL σ pc lv st0 := by
  subst hq; subst hst; subst h1; subst h3; subst hs1
  have hws : va_CU R s args own q.1 owner index x y bytes maxL ret (Cond.code y bytes maxL ret :: wU) ({ frames := fr, cells := 0, slots := 0, locals := lo } : Room) 0 0 n := by
    refine ⟨⟨rfl, rfl, hR.1, hR.2, pay_in hC.2.2.2.2.1 (gU hcode), List.mem_cons_self⟩, hC.2.2.2.2.1 _ hcode, hC.2.2.2.2.1 _ hini, ⟨hd.1, hd.2.1⟩, fun sig h => ?_, hC.2.2.2.2.1 _ hl, hC.2.2.2.2.1 _ hsm, va_Decl.of (hC.2.2.2.2.1 _ hi0) (hC.2.2.2.2.1 _ hc0), hC.2.2.2.2.1 _ hse, hC.2.2.2.2.1 _ hin⟩
    have h2 := hd.2.2
    rw [h] at h2
    exact (Option.some.inj h2).symm
  exact fun H locs ls hP hS hlv => y_run hC (va_runU (As := As) (rest := st) ⟨hC.1, hC.2.1, hC.2.2.1, hC.2.2.2.1, hC.2.2.2.2.1⟩ hM hws (pre_V hC hS hP hi hc hcl) rfl hn hlv.1 rfl (by show 2 * 0 + _ ≤ 8; omega) hdg hcs) hS hlv kk
-- returns
theorem y_iret (hC : CX Γ (GA Γ) p s m args c own cc nL) {v v' : Int32} {σ' : GSt} (hr : meth.sig.returnType = some .int) (hk : meth.locks = false) (hv : v = v') (hs : σ = σ') (hdg : decode cc pc = .ok (.ireturn, 1)) : Y Γ (GA Γ) p l e R s m args below meth c 0 0 (MQ below (Qg Γ (some (.int v')) σ') args s 0 0 (GA Γ)) nL σ pc lv [.int v] := by
  subst hs; subst hv
  exact fun H locs ls hP hS hl => W.iret hC.1 hC.2.1 hr (fun t ht hW => ⟨rfl, by rw [ht]; exact hP, hS.F ht⟩) hS.2.2 hdg hk
theorem y_zret (hC : CX Γ (GA Γ) p s m args c own cc nL) {v v' : Int32} {σ' : GSt} {ty : FieldType} (hr : meth.sig.returnType = some ty) (hk : meth.locks = false) (hn : narrow ty (.int v) = .int v) (hv : v = v') (hs : σ = σ') (hdg : decode cc pc = .ok (.ireturn, 1)) : Y Γ (GA Γ) p l e R s m args below meth c 0 0 (MQ below (Qg Γ (some (.int v')) σ') args s 0 0 (GA Γ)) nL σ pc lv [.int v] := by
  subst hs; subst hv
  exact fun H locs ls hP hS hl => W.zret hC.1 hC.2.1 hr hn (fun t ht hW => ⟨rfl, by rw [ht]; exact hP, hS.F ht⟩) hS.2.2 hdg hk
theorem y_lret (hC : CX Γ (GA Γ) p s m args c own cc nL) {v v' : Int64} {σ' : GSt} (hr : meth.sig.returnType = some .long) (hk : meth.locks = false) (hv : v = v') (hs : σ = σ') (hdg : decode cc pc = .ok (.lreturn, 1)) : Y Γ (GA Γ) p l e R s m args below meth c 0 0 (MQ below (Qg Γ (some (.long v')) σ') args s 0 0 (GA Γ)) nL σ pc lv [.long v] := by
  subst hs; subst hv
  exact fun H locs ls hP hS hl => W.lret hC.1 hC.2.1 hr (fun t ht hW => ⟨rfl, by rw [ht]; exact hP, hS.F ht⟩) hS.2.2 hdg hk
theorem y_vret (hC : CX Γ (GA Γ) p s m args c own cc nL) {σ' : GSt} (hr : meth.sig.returnType = none) (hk : meth.locks = false) (hs : σ = σ') (hdg : decode cc pc = .ok (.return_, 1)) : Y Γ (GA Γ) p l e R s m args below meth c 0 0 (MQ below (Qg Γ none σ') args s 0 0 (GA Γ)) nL σ pc lv [] := by
  subst hs
  exact fun H locs ls hP hS hl => W.vret hC.1 hC.2.1 hr (fun t ht hW => ⟨rfl, by rw [ht]; exact hP, hS.F ht⟩) hS.2.2 hdg hk
theorem y_aret (hC : CX Γ (GA Γ) p s m args c own cc nL) {v v' : Nat} {σ' : GSt} {C : String} (hr : meth.sig.returnType = some (.object C)) (hk : meth.locks = false) (hv : v = v') (hs : σ = σ') (hdg : decode cc pc = .ok (.areturn, 1)) : Y Γ (GA Γ) p l e R s m args below meth c 0 0 (MQ below (Qg Γ (some (.ref v')) σ') args s 0 0 (GA Γ)) nL σ pc lv [.ref v] := by
  subst hs; subst hv
  exact fun H locs ls hP hS hl => W.aret hC.1 hC.2.1 hr (Or.inl ⟨_, rfl⟩) (Or.inr ⟨_, rfl⟩) (fun t ht hW => ⟨rfl, by rw [ht]; exact hP, hS.F ht⟩) hS.2.2 hdg hk
end YC
theorem nz_bool {v : Int32} (h : v = 0 ∨ v = 1) : narrow .boolean (.int v) = .int v := by
  rcases h with h | h <;> subst h <;> rfl
theorem fz_bool {v : Int32} (h : v = 0 ∨ v = 1) : fits .boolean (.int v) = true := by
  rcases h with h | h <;> subst h <;> rfl
theorem setM_comm {k j : Nat} (h : k ≠ j) (hk : k < 4) (hj : j < 4) (mm : MMt) (u v : MSt) : setM k (setM j mm v) u = setM j (setM k mm u) v := by
  match k, j, hk, hj, h with
  | 0, 0, _, _, h => exact absurd rfl h
  | 0, 1, _, _, _ => rfl
  | 0, 2, _, _, _ => rfl
  | 0, 3, _, _, _ => rfl
  | 1, 0, _, _, _ => rfl
  | 1, 1, _, _, h => exact absurd rfl h
  | 1, 2, _, _, _ => rfl
  | 1, 3, _, _, _ => rfl
  | 2, 0, _, _, _ => rfl
  | 2, 1, _, _, _ => rfl
  | 2, 2, _, _, h => exact absurd rfl h
  | 2, 3, _, _, _ => rfl
  | 3, 0, _, _, _ => rfl
  | 3, 1, _, _, _ => rfl
  | 3, 2, _, _, _ => rfl
  | 3, 3, _, _, h => exact absurd rfl h
  | k + 4, _, hk, _, _ => omega
  | _, j + 4, _, hj, _ => omega
theorem setM_get (k : Nat) (mm : MMt) : setM k mm (getM k mm) = mm := by
  match k with
  | 0 => rfl
  | 1 => rfl
  | 2 => rfl
  | k + 3 => rfl
theorem y_cast {Γ : GC} {A : Nat → Prop} {p : Program} {l : Launch} {e : Env} {R : Room} {s : State} {m : MethodId} {args : Array Value} {below : List Frame} {meth : Method} {c : Code} {cells slots : Nat} {Q : State → Prop} {nL : Nat} {σ σ' : GSt} {pc : Nat} {lv : List (Nat × Value)} {st : List Value} (h : σ = σ') (k : Y Γ A p l e R s m args below meth c cells slots Q nL σ' pc lv st) : Y Γ A p l e R s m args below meth c cells slots Q nL σ pc lv st := h ▸ k
def sc_k (k : Nat) (c : CSt) (u : MSt) : CSt := (c.1, setM k c.2.1 u, c.2.2)
theorem img_pre (σ : GSt) (k k2 : Nat) : σ = gM k (gM k2 σ (getM k2 σ.1.2.1)) (getM k σ.1.2.1) := by
  show σ = ((σ.1.1, setM k (setM k2 σ.1.2.1 (getM k2 σ.1.2.1)) (getM k σ.1.2.1), σ.1.2.2), σ.2)
  rw [setM_get k2, setM_get k]
theorem img_post (σ : GSt) (c : CSt) (k k2 : Nat) (x : MSt) : gM k (gM k2 (gC σ c) (getM k2 c.2.1)) x = gC σ (sc_k k c x) := by
  show ((c.1, setM k (setM k2 c.2.1 (getM k2 c.2.1)) x, c.2.2), σ.2) = ((c.1, setM k c.2.1 x, c.2.2), σ.2)
  rw [setM_get k2]
theorem inb_k {x : Int32} (h : inb x 2) : 2 + x.toNatClampNeg < 4 := by
  have h2 := h.2
  have h1 := h.1
  show 2 + x.toInt.toNat < 4
  omega
