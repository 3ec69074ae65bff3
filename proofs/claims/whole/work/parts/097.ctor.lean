-- ===== WHERE OBJECTS ARE MADE: a judgement over lists of cells =====
theorem D_one (a : Nat) (e : va_E) : va_D (fun q => q = a) [(a, e)] := by
  refine ⟨fun i j p q hi hj _ => ?_, fun k q hk => ?_⟩
  · have h1 : i < 1 := (List.getElem?_eq_some_iff.mp hi).1
    have h2 : j < 1 := (List.getElem?_eq_some_iff.mp hj).1
    omega
  · have hz : k < 1 := (List.getElem?_eq_some_iff.mp hk).1
    rw [show k = 0 by omega] at hk
    cases hk
    rfl
def AOs (U : State) : Prop := va_AO "HalfByFive$Market" U ∧ va_AO "HalfByFive$Plain" U
theorem AOs.moved {u U : State} (hvm : u.vm.Alike U.vm) (h : AOs u) : AOs U := ⟨va_AO.moved hvm h.1, va_AO.moved hvm h.2⟩
def CZ (Γ : GC) (A : Nat → Prop) (p : Program) (s : State) (m : MethodId) (args : Array Value) (c : Code) (own : String) (cc : ByteArray) (nL : Nat) : Prop :=
  p.tables.exec = Jvm.exec ∧ c.code = cc ∧ c.maxLocals = nL ∧ s.vm.findClass own = some m.cls ∧ (∀ w ∈ wU, w.before args s = true) ∧ va_K Γ.1 vwCl (tysG Γ) s ∧ (NK Γ A s ∧ AOs s) ∧ ∀ q, s.heap.size ≤ q → A q
def Z (Γ : GC) (A : Nat → Prop) (p : Program) (l : Launch) (e : Env) (R : Room) (s : State) (m : MethodId) (args : Array Value) (below : List Frame) (meth : Method) (c : Code) (cells slots : Nat) (Q : State → Prop) (nL : Nat) (ws : va_W) (pc : Nat) (lv : List (Nat × Value)) (st : List Value) : Prop :=
  ∀ (H : Heap) (locs : List Loc) (ls : Array Slot), va_P Γ.1 vwCl ws H → va_D A ws → va_S A s.heap H locs → lv_has ls nL lv → W p l e R s m args below meth c H locs cells slots Q (F0 m pc ls st)
section ZR
variable {Γ : GC} {A : Nat → Prop} {p : Program} {l : Launch} {e : Env} {R : Room} {s : State} {m : MethodId} {args : Array Value} {below : List Frame} {meth : Method} {c : Code} {cells slots : Nat} {Q : State → Prop} {nL : Nat} {ws : va_W} {pc : Nat} {lv : List (Nat × Value)} {st : List Value} {own : String} {cc : ByteArray}
theorem z_iconst (hC : CZ Γ A p s m args c own cc nL) {n : Int} {v : Int32} (hdg : decode cc pc = .ok (.iconst n, 1)) (hv : Int32.ofInt n = v) (q : Nat) (hq : pc + 1 = q) (k : Z Γ A p l e R s m args below meth c cells slots Q nL ws q lv (.int v :: st)) : Z Γ A p l e R s m args below meth c cells slots Q nL ws pc lv st := by
  subst hq; exact fun H locs ls hP hD hS hl => lv_iconst hC.1 hC.2.1 hdg hv (k H locs ls hP hD hS hl)
theorem z_bipush (hC : CZ Γ A p s m args c own cc nL) {n : Int} {v : Int32} (hdg : decode cc pc = .ok (.bipush n, 2)) (hv : (Int8.ofInt n).toInt32 = v) (q : Nat) (hq : pc + 2 = q) (k : Z Γ A p l e R s m args below meth c cells slots Q nL ws q lv (.int v :: st)) : Z Γ A p l e R s m args below meth c cells slots Q nL ws pc lv st := by
  subst hq; exact fun H locs ls hP hD hS hl => lv_bipush hC.1 hC.2.1 hdg hv (k H locs ls hP hD hS hl)
theorem z_sipush (hC : CZ Γ A p s m args c own cc nL) {n : Int} {v : Int32} (hdg : decode cc pc = .ok (.sipush n, 3)) (hv : (Int16.ofInt n).toInt32 = v) (q : Nat) (hq : pc + 3 = q) (k : Z Γ A p l e R s m args below meth c cells slots Q nL ws q lv (.int v :: st)) : Z Γ A p l e R s m args below meth c cells slots Q nL ws pc lv st := by
  subst hq; exact fun H locs ls hP hD hS hl => lv_sipush hC.1 hC.2.1 hdg hv (k H locs ls hP hD hS hl)
theorem z_lconst (hC : CZ Γ A p s m args c own cc nL) {n : Fin 2} {v : Int64} (hdg : decode cc pc = .ok (.lconst n, 1)) (hv : Int64.ofNat (n : Nat) = v) (q : Nat) (hq : pc + 1 = q) (k : Z Γ A p l e R s m args below meth c cells slots Q nL ws q lv (.long v :: st)) : Z Γ A p l e R s m args below meth c cells slots Q nL ws pc lv st := by
  subst hq; exact fun H locs ls hP hD hS hl => lv_lconst hC.1 hC.2.1 hdg hv (k H locs ls hP hD hS hl)
theorem z_aload_n (hC : CZ Γ A p s m args c own cc nL) {kf : Fin 4} {x : Nat} (hdg : decode cc pc = .ok (.aload_n kf, 1)) (j : Nat) (hj : lv[j]? = some ((kf : Nat), .ref x)) (q : Nat) (hq : pc + 1 = q) (k : Z Γ A p l e R s m args below meth c cells slots Q nL ws q lv (.ref x :: st)) : Z Γ A p l e R s m args below meth c cells slots Q nL ws pc lv st := by
  subst hq; exact fun H locs ls hP hD hS hl => lv_aload_n hC.1 hC.2.1 hdg rfl (lv_at hl j hj) (k H locs ls hP hD hS hl)
theorem z_astore_n (hC : CZ Γ A p s m args c own cc nL) {kf : Fin 4} {x : Nat} (hdg : decode cc pc = .ok (.astore_n kf, 1)) (hn : (kf : Nat) < nL) (lv' : List (Nat × Value)) (hl' : ((kf : Nat), Value.ref x) :: lv.filter (fun q => !(q.1 == (kf : Nat)) && !(q.1 + 1 == (kf : Nat) && q.2.category == 2)) = lv') (q : Nat) (hq : pc + 1 = q) (k : Z Γ A p l e R s m args below meth c cells slots Q nL ws q lv' st) : Z Γ A p l e R s m args below meth c cells slots Q nL ws pc lv (.ref x :: st) := by
  subst hq; exact fun H locs ls hP hD hS hl => lv_astore_n hC.1 hC.2.1 hdg rfl hl hn hl' (fun ls hl => k H locs ls hP hD hS hl)
theorem z_dup (hC : CZ Γ A p s m args c own cc nL) {va : Value} (hdg : decode cc pc = .ok (.dup, 1)) (hva : va.category = 1) (q : Nat) (hq : pc + 1 = q) (k : Z Γ A p l e R s m args below meth c cells slots Q nL ws q lv (va :: va :: st)) : Z Γ A p l e R s m args below meth c cells slots Q nL ws pc lv (va :: st) := by
  subst hq; exact fun H locs ls hP hD hS hl => lv_dup hC.1 hC.2.1 hdg hva (k H locs ls hP hD hS hl)
theorem z_new (hC : CZ Γ A p s m args c own cc nL) (ci : Nat) {C : String} {T : u_T} {N index : Nat} (hin : ∀ w ∈ u_ws C T N, w ∈ wU) {ty : Nat → FieldType} (hty : ∀ k, k < N → parseFieldDescriptor (T k).2.2.1 = some (ty k)) (hcl : Cond.classLink own index C ∈ wU) (hinst : Cond.instantiable C N ∈ wU) (hini : Cond.initialized C ∈ wU) (hc : vwCl[ci]? = some (C, T, N)) {fs : List Value} (hfs : ∀ j, j < N → defaultValue (ty j) = vp_V fs j) (hR : cells + 1 ≤ R.cells ∧ slots + N ≤ R.slots) (hdg : decode cc pc = .ok (.new index, 3)) (q : Nat) (hq : pc + 3 = q) (kk : ∀ a, Z Γ A p l e R s m args below meth c (cells + 1) (slots + N) Q nL (ws ++ [(a, .inr (ci, fs))]) q lv (.ref a :: st)) : Z Γ A p l e R s m args below meth c cells slots Q nL ws pc lv st := by
  subst hq
  exact fun H locs ls hP hD hS hl => va_new hC.1 hC.2.1 hC.2.2.2.2.1 hin ty hty hC.2.2.2.1 (hC.2.2.2.2.1 _ hcl) (hC.2.2.2.2.1 _ hinst) (hC.2.2.2.2.1 _ hini) hC.2.2.2.2.2.1 hP hD hS hC.2.2.2.2.2.2.2 hc hfs hR.1 hR.2 hdg (fun a H1 hP hD hS => kk a H1 locs ls hP hD hS hl)
theorem ra_one {s : State} {t1 t2 : List (ClassId × FieldType)} {D : va_G} {cA cB : ClassId} {ty : FieldType} {k : Nat} (h1 : va_K D vwCl t1 s) (hk : t1[k]? = some (cB, ty)) (h2 : va_K D vwCl (t2 ++ [(cA, ty)]) s) : cA = cB := by
  have g2 := (h2.2 t2.length (cA, ty) (by rw [List.getElem?_append_right (Nat.le_refl _)]; simp)).2
  have g1 := (h1.2 k _ hk).2
  cases ty with
  | object C =>
    obtain ⟨k1, c1, a1, a2, a3, a4⟩ := g1
    obtain ⟨k2, c2, b1, b2, b3, b4⟩ := g2
    exact Option.some.inj (b4.symm.trans a4)
  | _ => exact Option.some.inj (g2.symm.trans g1)
theorem z_newaI (hC : CZ Γ A p s m args c own cc nL) (hw : Cond.arrayClass .int ∈ wU) {n : Int32} (N' : Nat) (hn : ¬ n < 0) (hN : n.toNatClampNeg = N') (hbytes : N' * 4 ≤ 536870912) (hR : cells + 1 ≤ R.cells ∧ slots + N' ≤ R.slots) (hdg : decode cc pc = .ok (.newarray .int, 2)) (q : Nat) (hq : pc + 2 = q) (kk : ∀ a, Z Γ A p l e R s m args below meth c (cells + 1) (slots + N') Q nL (ws ++ [(a, .inl (ca Γ 0, N', .inl (fun _ => 0)))]) q lv (.ref a :: st)) : Z Γ A p l e R s m args below meth c cells slots Q nL ws pc lv (.int n :: st) := by
  subst hq
  intro H locs ls hP hD hS hl
  refine va_newa (atype := .int) (ty := .int) (a0 := (N', .inl (fun _ => 0))) hC.1 hC.2.1 (hC.2.2.2.2.1 _ hw) rfl hC.2.2.2.2.2.1 hP hD hS hC.2.2.2.2.2.2.2 (fun _ => rfl) hn hN hbytes hR.1 hR.2 hdg (fun a cA H1 hK1 hP hD hS => ?_)
  have e := ra_one (k := 0) hC.2.2.2.2.2.1 rfl hK1
  subst e
  exact kk a H1 locs ls hP hD hS hl
theorem z_newaZ (hC : CZ Γ A p s m args c own cc nL) (hw : Cond.arrayClass .boolean ∈ wU) {n : Int32} (N' : Nat) (hn : ¬ n < 0) (hN : n.toNatClampNeg = N') (hbytes : N' * 1 ≤ 536870912) (hR : cells + 1 ≤ R.cells ∧ slots + N' ≤ R.slots) (hdg : decode cc pc = .ok (.newarray .boolean, 2)) (q : Nat) (hq : pc + 2 = q) (kk : ∀ a, Z Γ A p l e R s m args below meth c (cells + 1) (slots + N') Q nL (ws ++ [(a, .inl (ca Γ 1, N', .inl (fun _ => 0)))]) q lv (.ref a :: st)) : Z Γ A p l e R s m args below meth c cells slots Q nL ws pc lv (.int n :: st) := by
  subst hq
  intro H locs ls hP hD hS hl
  refine va_newa (atype := .boolean) (ty := .boolean) (a0 := (N', .inl (fun _ => 0))) hC.1 hC.2.1 (hC.2.2.2.2.1 _ hw) rfl hC.2.2.2.2.2.1 hP hD hS hC.2.2.2.2.2.2.2 (fun _ => rfl) hn hN hbytes hR.1 hR.2 hdg (fun a cA H1 hK1 hP hD hS => ?_)
  have e := ra_one (k := 1) hC.2.2.2.2.2.1 rfl hK1
  subst e
  exact kk a H1 locs ls hP hD hS hl
theorem z_newq (hC : CZ Γ A p s m args c own cc nL) (t : Nat) {C : String} (ht : (tysG Γ)[t]? = some (ca Γ t, .object C)) (hover : va_AO C s) {index : Nat} (hcl : Cond.classLink own index C ∈ wU) {n : Int32} (N' : Nat) (hn : ¬ n < 0) (hN : n.toNatClampNeg = N') (hbytes : N' * 4 ≤ 536870912) (hR : cells + 1 ≤ R.cells ∧ slots + N' ≤ R.slots) (hdg : decode cc pc = .ok (.anewarray index, 3)) (q : Nat) (hq : pc + 3 = q) (kk : ∀ a, Z Γ A p l e R s m args below meth c (cells + 1) (slots + N') Q nL (ws ++ [(a, .inl (ca Γ t, N', .inr (.inr (.inr (.inr (fun _ => none))))))]) q lv (.ref a :: st)) : Z Γ A p l e R s m args below meth c cells slots Q nL ws pc lv (.int n :: st) := by
  subst hq
  intro H locs ls hP hD hS hl
  refine va_newq hC.1 hC.2.1 hC.2.2.2.1 (hC.2.2.2.2.1 _ hcl) hover hC.2.2.2.2.2.1 hP hD hS hC.2.2.2.2.2.2.2 hn hN hbytes hR.1 hR.2 hdg (fun a cA H1 hK1 hP hD hS => ?_)
  have e := ra_one hC.2.2.2.2.2.1 ht hK1
  subst e
  exact kk a H1 locs ls hP hD hS hl
theorem z_astq (hC : CZ Γ A p s m args c own cc nL) (q0 t qk ci : Nat) {C : String} (ht : (tysG Γ)[t]? = some (ca Γ t, .object C)) {a n v : Nat} {fs : List Value} {f : Nat → Option Nat} (ha : ws[q0]? = some (a, .inl (ca Γ t, n, .inr (.inr (.inr (.inr f)))))) (hv : ws[qk]? = some (v, .inr (ci, fs))) {r : vw_C} (hc : vwCl[ci]? = some r) (hcast : r.1 = C ∨ Cond.castable r.1 C ∈ wN) {i : Int32} (hin : inb i n) (ws' : va_W) (hws : ws.set q0 (a, .inl (ca Γ t, n, .inr (.inr (.inr (.inr (va_up f i.toNatClampNeg (some v))))))) = ws') (hdg : decode cc pc = .ok (.aastore, 1)) (q : Nat) (hq : pc + 1 = q) (kk : Z Γ A p l e R s m args below meth c cells slots Q nL ws' q lv st) : Z Γ A p l e R s m args below meth c cells slots Q nL ws pc lv (.ref v :: .int i :: .ref a :: st) := by
  subst hq; subst hws
  intro H locs ls hP hD hS hl
  have hasg : ∀ comp c0 : ClassId, s.vm.findClass C = some comp → s.vm.findClass r.1 = some c0 → s.vm.assignable c0 comp = true := by
    intro comp c0 h1 h2
    rcases hcast with h | h
    · rw [h] at h2
      have e := Option.some.inj (h1.symm.trans h2)
      subst e
      exact va_asg _ _
    · obtain ⟨c1, t1, g1, g2, g3⟩ := Cond.castable_spec (hC.2.2.2.2.2.2.1.1.1 _ h)
      have e1 := Option.some.inj (h2.symm.trans g1)
      have e2 := Option.some.inj (h1.symm.trans g2)
      subst e1; subst e2
      exact g3
  exact va_astqM hC.1 hC.2.1 hC.2.2.2.2.2.1 hP hD hS q0 t ha ht (va_rAny hC.2.2.2.2.2.1 hP hv hc hasg) (inb_vp hin) hdg (fun H1 locs1 hP hD hS => kk H1 locs1 ls hP hD hS hl)
theorem z_putF (hC : CZ Γ A p s m args c own cc nL) (hmi : meth.name = "<init>") (q0 : Nat) {a ci : Nat} {fs : List Value} (he : ws[q0]? = some (a, .inr (ci, fs))) {C : String} {T : u_T} {N : Nat} (hcl : vwCl[ci]? = some (C, T, N)) (hin : ∀ w ∈ u_ws C T N, w ∈ wU) {ty0 : Nat → FieldType} (hty : ∀ k, k < N → parseFieldDescriptor (T k).2.2.1 = some (ty0 k)) (hnm : ∀ a, a < N → ∀ b, b < N → a ≠ b → (T a).2.1 ≠ (T b).2.1) (k : Nat) (hk : k < N) {index : Nat} (hlink : Cond.fieldLink own index (T k).1 (T k).2.1 (T k).2.2.1 ∈ wU) (hfin : (T k).2.2.2 = true) (hdecl : (T k).1 = own) {ty : FieldType} {v : Value} (hd : ty0 k = ty) (hn : narrow ty v = v) (hfit : fits ty v = true) (hlen : k < fs.length) (ws' : va_W) (hws : ws.set q0 (a, .inr (ci, fs.set k v)) = ws') (hdg : decode cc pc = .ok (.putfield index, 3)) (q : Nat) (hq : pc + 3 = q) (kk : Z Γ A p l e R s m args below meth c cells slots Q nL ws' q lv st) : Z Γ A p l e R s m args below meth c cells slots Q nL ws pc lv (v :: .ref a :: st) := by
  subst hq; subst hd; subst hws
  exact fun H locs ls hP hD hS hl => va_putF hC.1 hC.2.1 hC.2.2.2.2.1 hin ty0 hty hnm hC.2.2.2.1 hC.2.2.2.2.2.1 hP hD hS q0 he hcl k hk (hC.2.2.2.2.1 _ hlink) (fun _ h => h) hfin hmi hdecl (hty k hk) hn hfit hlen hdg (fun H1 locs1 hP hD hS => kk H1 locs1 ls hP hD hS hl)
theorem z_put (hC : CZ Γ A p s m args c own cc nL) (q0 : Nat) {a ci : Nat} {fs : List Value} (he : ws[q0]? = some (a, .inr (ci, fs))) {C : String} {T : u_T} {N : Nat} (hcl : vwCl[ci]? = some (C, T, N)) (hin : ∀ w ∈ u_ws C T N, w ∈ wU) {ty0 : Nat → FieldType} (hty : ∀ k, k < N → parseFieldDescriptor (T k).2.2.1 = some (ty0 k)) (hnm : ∀ a, a < N → ∀ b, b < N → a ≠ b → (T a).2.1 ≠ (T b).2.1) (k : Nat) (hk : k < N) {index : Nat} (hlink : Cond.fieldLink own index (T k).1 (T k).2.1 (T k).2.2.1 ∈ wU) (hfin : (T k).2.2.2 = false) {ty : FieldType} {v : Value} (hd : ty0 k = ty) (hn : narrow ty v = v) (hfit : fits ty v = true) (hlen : k < fs.length) (ws' : va_W) (hws : ws.set q0 (a, .inr (ci, fs.set k v)) = ws') (hdg : decode cc pc = .ok (.putfield index, 3)) (q : Nat) (hq : pc + 3 = q) (kk : Z Γ A p l e R s m args below meth c cells slots Q nL ws' q lv st) : Z Γ A p l e R s m args below meth c cells slots Q nL ws pc lv (v :: .ref a :: st) := by
  subst hq; subst hd; subst hws
  exact fun H locs ls hP hD hS hl => va_put hC.1 hC.2.1 hC.2.2.2.2.1 hin ty0 hty hnm hC.2.2.2.1 hC.2.2.2.2.2.1 hP hD hS q0 he hcl k hk (hC.2.2.2.2.1 _ hlink) (fun _ h => h) hfin (hty k hk) hn hfit hlen hdg (fun H1 locs1 hP hD hS => kk H1 locs1 ls hP hD hS hl)
theorem z_get (hC : CZ Γ A p s m args c own cc nL) (q0 : Nat) {a ci : Nat} {fs : List Value} (he : ws[q0]? = some (a, .inr (ci, fs))) {C : String} {T : u_T} {N : Nat} (hcl : vwCl[ci]? = some (C, T, N)) (hin : ∀ w ∈ u_ws C T N, w ∈ wU) (k : Nat) (hk : k < N) {index : Nat} (hlink : Cond.fieldLink own index (T k).1 (T k).2.1 (T k).2.2.1 ∈ wU) {v : Value} (hv : fs[k]? = some v) (hdg : decode cc pc = .ok (.getfield index, 3)) (q : Nat) (hq : pc + 3 = q) (kk : Z Γ A p l e R s m args below meth c cells slots Q nL ws q lv (v :: st)) : Z Γ A p l e R s m args below meth c cells slots Q nL ws pc lv (.ref a :: st) := by
  subst hq
  exact fun H locs ls hP hD hS hl => va_get hC.1 hC.2.1 hC.2.2.2.2.1 hin hC.2.2.2.1 hC.2.2.2.2.2.1 hP q0 he hcl k hk (hC.2.2.2.2.1 _ hlink) (fun _ h => h) hv hdg (kk H locs ls hP hD hS hl)
theorem z_objInit (hC : CZ Γ A p s m args c own cc nL) {index : Nat} (h1 : Cond.methodLink own index Lib.objectInit ∈ wU) (h2 : Cond.instanceMethod Lib.objectInit ∈ wU) (h3 : Cond.code Lib.objectInit ⟨#[0xb1]⟩ 1 none ∈ wU) {a : Nat} (hR : 1 ≤ R.frames ∧ (st.map fun v => v.category).sum + 12 ≤ R.locals) (hdg : decode cc pc = .ok (.invokespecial index, 3)) (q : Nat) (hq : pc + 3 = q) (kk : Z Γ A p l e R s m args below meth c cells slots Q nL ws q lv st) : Z Γ A p l e R s m args below meth c cells slots Q nL ws pc lv (.ref a :: st) := by
  subst hq
  exact fun H locs ls hP hD hS hl => W.objInit hC.1 hC.2.1 hC.2.2.2.1 (hC.2.2.2.2.1 _ h1) (hC.2.2.2.2.1 _ h2) (hC.2.2.2.2.1 _ h3) (g := F0 m pc ls (.ref a :: st)) rfl (hl.1.trans hC.2.2.1.symm) rfl hdg hR.1 (by show 2 * 0 + _ + 12 ≤ _; omega) (kk H locs ls hP hD hS hl)
theorem z_perm (is : List Nat) (hn : va_nd is = true) {ws' : va_W} (h1 : is.filterMap (fun i => ws[i]?) = ws') (h2 : is.map (fun i => ws[i]?) = ws'.map some) (kk : Z Γ A p l e R s m args below meth c cells slots Q nL ws' pc lv st) : Z Γ A p l e R s m args below meth c cells slots Q nL ws pc lv st := fun H locs ls hP hD hS hl => kk H locs ls (hP.sub is h1) (hD.sub is hn h2) hS hl
theorem z_eq {ws' : va_W} (h : ws = ws') (kk : Z Γ A p l e R s m args below meth c cells slots Q nL ws' pc lv st) : Z Γ A p l e R s m args below meth c cells slots Q nL ws pc lv st := h ▸ kk
end ZR
-- contracts of constructors
def Pz (Γ : GC) (h0 : Nat) (e0 : va_E) (sz : Nat) : Array Value → State → Prop := va_Pc [.ref h0] (fun U => U.heap.size = sz ∧ va_P Γ.1 vwCl [(h0, e0)] U.heap ∧ va_K Γ.1 vwCl (tysG Γ) U ∧ NK Γ (va_A [(h0, e0)] sz) U ∧ AOs U)
def Qz (Γ : GC) (h0 : Nat) (e0 : va_E) (sz : Nat) (sh : va_W → Prop) : Array Value → State → Outcome → State → Prop := fun _ st oc t => oc = .returned none ∧ (∃ ws', sh ws' ∧ va_P Γ.1 vwCl ws' t.heap ∧ va_D (va_A [(h0, e0)] sz) ws') ∧ va_F (va_A [(h0, e0)] sz) st t
abbrev Mz (Γ : GC) (l : Launch) (y : MethodName) (bytes : ByteArray) (maxL fr lo mc ms : Nat) (h0 : Nat) (e0 : va_E) (sz : Nat) (sh : va_W → Prop) : Prop :=
  Met l y (Cond.code y bytes maxL none :: wU) ({ frames := fr, cells := mc, slots := ms, locals := lo } : Room) (Pz Γ h0 e0 sz) (Qz Γ h0 e0 sz sh) mc ms (va_A [(h0, e0)] sz)
theorem z_enter {Γ : GC} {l : Launch} {y : MethodName} {bytes : ByteArray} {maxL fr lo mc ms : Nat} {h0 : Nat} {e0 : va_E} {sz : Nat} {sh : va_W → Prop} (hy : plainName y.cls = true) (hni : y.name = "<init>") (hlen : 1 ≤ maxL)
    (body : ∀ (p : Program) (e : Env) (s : State) (m : MethodId) (args : Array Value) (below : List Frame) (meth : Method) (c : Code), s.heap.size = sz → CZ Γ (va_A [(h0, e0)] sz) p s m args c y.cls bytes maxL → meth.name = "<init>" → meth.sig.returnType = none → meth.locks = false → Z Γ (va_A [(h0, e0)] sz) p l e ({ frames := fr, cells := mc, slots := ms, locals := lo } : Room) s m args below meth c 0 0 (MQ below (Qz Γ h0 e0 sz sh) args s mc ms (va_A [(h0, e0)] sz)) maxL [(h0, e0)] 0 [(0, .ref h0)] []) : Mz Γ l y bytes maxL fr lo mc ms h0 e0 sz sh := by
  refine Met.ofW (cc := bytes) (maxL := maxL) (ret := none) hy rfl ?_
  intro p e s m args below meth c s₁ B hml hv
  obtain ⟨rfl, hsz, hP, hK, hN, hO⟩ := hv
  have hts := atoms_spec (ws := Cond.code y bytes maxL none :: wU) B.pre
  have hin : meth.name = "<init>" := (name_of_methodNamed B.named B.method).1.trans hni
  have hb := body p e s m [Value.ref h0].toArray below meth c hsz ⟨B.exec, B.bytes, hml, findClass_of_methodNamed B.named, fun w hw => hts w (List.mem_cons_of_mem _ hw), hK, ⟨hN, hO⟩, fun q h => Or.inr (by rw [← hsz]; exact h)⟩ hin B.returns B.notSynchronized
  have hl := lv_entry [Value.ref h0] (n := maxL) hlen
  rw [lg_entry_eq]
  exact hb _ _ _ hP ((D_one h0 e0).self) va_S.rf hl
section ZC
variable {Γ : GC} {A : Nat → Prop} {p : Program} {l : Launch} {e : Env} {R : Room} {s : State} {m : MethodId} {args : Array Value} {below : List Frame} {meth : Method} {c : Code} {cells slots : Nat} {Q : State → Prop} {nL : Nat} {ws : va_W} {pc : Nat} {lv : List (Nat × Value)} {st : List Value} {own : String} {cc : ByteArray}
theorem z_vret {h0 : Nat} {e0 : va_E} {sz : Nat} {sh : va_W → Prop} (hC : CZ Γ (va_A [(h0, e0)] sz) p s m args c own cc nL) (hr : meth.sig.returnType = none) (hk : meth.locks = false) (hsh : sh ws) (hdg : decode cc pc = .ok (.return_, 1)) : Z Γ (va_A [(h0, e0)] sz) p l e R s m args below meth c cells slots (MQ below (Qz Γ h0 e0 sz sh) args s cells slots (va_A [(h0, e0)] sz)) nL ws pc lv [] :=
  fun H locs ls hP hD hS hl => W.vret hC.1 hC.2.1 hr (fun t ht hW => ⟨rfl, ⟨ws, hsh, by rw [ht]; exact hP, hD⟩, hS.F ht⟩) hS.2.2 hdg hk
theorem nkz_of {H : Heap} {locs : List Loc} {B : Nat → Prop} (hC : CZ Γ A p s m args c own cc nL) (hS : va_S A s.heap H locs) (hAB : ∀ q, B q → A q) {U : State} (hU : U.heap = H) (hW : s.WarmedH U.vm) : NK Γ B U :=
  ⟨hC.2.2.2.2.2.2.1.1.1.warm hW, by rw [hU]; exact ((hC.2.2.2.2.2.2.1.1.2.kept hS.2.1).warm hW).narrow hAB⟩
theorem Pz_blind (Γ : GC) (h0 : Nat) (e0 : va_E) (sz : Nat) : FrameBlind (Pz Γ h0 e0 sz) := fun a U g mk q => by
  obtain ⟨q0, q1, qP, qK, qN, qO⟩ := q
  exact ⟨q0, q1, qP, va_K.moved (u := U) (U := U.calling g mk a) (Vm.Alike.refl U.vm) qK, ⟨NW.same (u := U) (U := U.calling g mk a) rfl qN.1, SK.same (s := U) (U := U.calling g mk a) rfl qN.2⟩, AOs.moved (u := U) (U := U.calling g mk a) (Vm.Alike.refl U.vm) qO⟩
theorem z_run (hC : CZ Γ A p s m args c own cc nL) {H : Heap} {locs : List Loc} {ls : Array Slot} {a0 : Nat} {e0 : va_E} {sh : va_W → Prop} {a : Array Value} {st0 rest : List Value} {mc ms : Nat} (hr : va_Run p l e R s m args below meth c H locs cells slots mc ms (F0 m pc ls st0) rest (Qz Γ a0 e0 H.size sh a) (va_A [(a0, e0)] H.size)) (hP : va_P Γ.1 vwCl ws H) (hD : va_D A ws) (hS : va_S A s.heap H locs) (hl : lv_has ls nL lv) (k0 : Nat) (isR : List Nat) {wr : va_W} (h0 : ws[k0]? = some (a0, e0)) (hR : isR.map (fun i => ws[i]?) = wr.map some) (hn : va_nd isR = true) (hdis : ∀ i ∈ isR, i ∉ [k0]) (kk : ∀ w1, sh w1 → Z Γ A p l e R s m args below meth c (cells + mc) (slots + ms) Q nL (wr ++ w1) (pc + 3) lv rest) : W p l e R s m args below meth c H locs cells slots Q (F0 m pc ls st0) := by
  have hCC : [k0].map (fun i => ws[i]?) = ([(a0, e0)] : va_W).map some := by simp [h0]
  have hFc := va_free (wc := [(a0, e0)]) hD hS hC.2.2.2.2.2.2.2 [k0] hCC
  intro T hT X
  obtain ⟨v, st₀, t, T', L, g0, X', hL, e1, e2, ⟨hv, ⟨w1, hsh, hP1, hD1⟩, hz, hk⟩, stp⟩ := hr T hT X
  cases hv
  rw [g0] at hz hk
  rw [← e1] at hP1 hz hk
  obtain ⟨hPn, hDn⟩ := va_join (wr := wr) (w1 := w1) hP hD [k0] isR hCC hR hn hdis hk hFc hP1 hD1
  have hS' : va_S A s.heap T'.heap (locs ++ L) := by
    refine ⟨Nat.le_trans hS.1 hz, fun q h1 h2 => ?_, fun q hq => ?_⟩
    · rw [hk q (Nat.lt_of_lt_of_le h1 hS.1) (fun z => h2 (hFc q z))]
      exact hS.2.1 q h1 h2
    · rcases List.mem_append.mp hq with h | h
      · exact hS.2.2 q h
      · exact hFc _ (hL q h)
  obtain ⟨t2, a1, b1⟩ := kk w1 hsh T'.heap (locs ++ L) ls hPn hDn hS' hl T' rfl X'
  exact ⟨t2, stp t2 a1, b1⟩
variable {y : MethodName} {bytes : ByteArray} {maxL fr lo mc ms : Nat} {index : Nat}
/-- a constructor of one's own package face -/
theorem z_callI (hC : CZ Γ A p s m args c own cc nL) (k0 : Nat) {a0 : Nat} {e0 : va_E} (h0 : ws[k0]? = some (a0, e0)) {sh : va_W → Prop} (hM : ∀ sz, Mz Γ l y bytes maxL fr lo mc ms a0 e0 sz sh) (cw : CW R y bytes maxL none fr lo 0) (hl : Cond.methodLink own index y ∈ wU) (hin : Cond.instanceMethod y ∈ wU) (hni : y.name = "<init>") (isR : List Nat) (wr : va_W) (hR : isR.map (fun i => ws[i]?) = wr.map some) (hn : va_nd isR = true) (hdis : ∀ i ∈ isR, i ∉ [k0]) (hW : (st.map fun v => v.category).sum ≤ 8) (hcs : cells + mc ≤ R.cells ∧ slots + ms ≤ R.slots) (hdg : decode cc pc = .ok (.invokespecial index, 3)) (pq : Nat) (hq : pc + 3 = pq) (kk : ∀ w1, sh w1 → Z Γ A p l e R s m args below meth c (cells + mc) (slots + ms) Q nL (wr ++ w1) pq lv st) : Z Γ A p l e R s m args below meth c cells slots Q nL ws pc lv (.ref a0 :: st) := by
  subst hq
  intro H locs ls hP hD hS hlv
  have hCC : [k0].map (fun i => ws[i]?) = ([(a0, e0)] : va_W).map some := by simp [h0]
  have hFc := va_free (wc := [(a0, e0)]) hD hS hC.2.2.2.2.2.2.2 [k0] hCC
  exact z_run hC (va_runI (As := []) (rest := st) ⟨hC.1, hC.2.1, hC.2.2.1, hC.2.2.2.1, hC.2.2.2.2.1⟩ (hM H.size) ⟨callB_of 0 hC.2.2.2.2.1 (gU cw.1) rfl rfl rfl (hC.2.2.2.2.1 _ cw.2.1) (hC.2.2.2.2.1 _ hl) cw.2.2.1 cw.2.2.2, hni, hC.2.2.2.2.1 _ hin⟩ ⟨Pz_blind _ _ _ _, fun U hU hW => ⟨rfl, by rw [hU], by rw [hU]; exact hP.sub [k0] (by simp [h0]), va_K.moved hW.alike hC.2.2.2.2.2.1, nkz_of hC hS hFc hU hW, hC.2.2.2.2.2.2.1.2.moved hW.alike⟩⟩ rfl rfl hlv.1 rfl (by show 2 * 0 + _ ≤ 8; omega) hdg hcs) hP hD hS hlv k0 isR h0 hR hn hdis kk
/-- a private constructor of a nest mate -/
theorem z_callIN (hC : CZ Γ A p s m args c own cc nL) {host : String} (k0 : Nat) {a0 : Nat} {e0 : va_E} (h0 : ws[k0]? = some (a0, e0)) {sh : va_W → Prop} (hM : ∀ sz, Mz Γ l y bytes maxL fr lo mc ms a0 e0 sz sh) (cw : CW R y bytes maxL none fr lo 0) (hl : Cond.methodLinkNest own index y host ∈ wN) (hin : Cond.instanceMethod y ∈ wU) (hni : y.name = "<init>") (isR : List Nat) (wr : va_W) (hR : isR.map (fun i => ws[i]?) = wr.map some) (hn : va_nd isR = true) (hdis : ∀ i ∈ isR, i ∉ [k0]) (hW : (st.map fun v => v.category).sum ≤ 8) (hcs : cells + mc ≤ R.cells ∧ slots + ms ≤ R.slots) (hdg : decode cc pc = .ok (.invokespecial index, 3)) (pq : Nat) (hq : pc + 3 = pq) (kk : ∀ w1, sh w1 → Z Γ A p l e R s m args below meth c (cells + mc) (slots + ms) Q nL (wr ++ w1) pq lv st) : Z Γ A p l e R s m args below meth c cells slots Q nL ws pc lv (.ref a0 :: st) := by
  subst hq
  intro H locs ls hP hD hS hlv
  have hCC : [k0].map (fun i => ws[i]?) = ([(a0, e0)] : va_W).map some := by simp [h0]
  have hFc := va_free (wc := [(a0, e0)]) hD hS hC.2.2.2.2.2.2.2 [k0] hCC
  exact z_run hC (va_runIN (As := []) (rest := st) ⟨hC.1, hC.2.1, hC.2.2.1, hC.2.2.2.1, hC.2.2.2.2.1⟩ (hM H.size) ⟨va_cnB 0 hC.2.2.2.2.1 (gU cw.1) rfl rfl rfl (hC.2.2.2.2.2.2.1.1.1 _ hl) (hC.2.2.2.2.1 _ cw.2.1) cw.2.2.1 cw.2.2.2, hni, hC.2.2.2.2.1 _ hin⟩ ⟨Pz_blind _ _ _ _, fun U hU hW => ⟨rfl, by rw [hU], by rw [hU]; exact hP.sub [k0] (by simp [h0]), va_K.moved hW.alike hC.2.2.2.2.2.1, nkz_of hC hS hFc hU hW, hC.2.2.2.2.2.2.1.2.moved hW.alike⟩⟩ rfl rfl hlv.1 rfl (by show 2 * 0 + _ ≤ 8; omega) hdg hcs) hP hD hS hlv k0 isR h0 hR hn hdis kk
end ZC
/-- the same tables, other addresses -/
def atG (Γ : GC) (a : Nat → Nat) (ids : List Nat) : GC := (Γ.1, Γ.2.1, (fun i => if i < 77 then a i else ad Γ i), ids)
theorem SK_at {Γ : GC} {a : Nat → Nat} {ids : List Nat} {A : Nat → Prop} {U : State} {H : Heap} (h : SK Γ A U H) : SK (atG Γ a ids) A U H := by
  have e1 : (fun i => ad (atG Γ a ids) (100 + i)) = fun i => ad Γ (100 + i) := by
    funext i
    show (if 100 + i < 77 then a (100 + i) else ad Γ (100 + i)) = _
    rw [if_neg (by omega)]
  have e2 : (fun i => ad (atG Γ a ids) (110 + i)) = fun i => ad Γ (110 + i) := by
    funext i
    show (if 110 + i < 77 then a (110 + i) else ad Γ (110 + i)) = _
    rw [if_neg (by omega)]
  refine ⟨?_, h.2.1, h.2.2.1, fun i hi => ?_⟩
  · rw [e1, e2]; exact h.1
  · have e3 : ad (atG Γ a ids) (100 + i) = ad Γ (100 + i) := congrFun e1 i
    rw [e3]; exact h.2.2.2 i hi
theorem GA_A {Γ : GC} {σ : GSt} {q sz : Nat} (h : GA Γ q) : va_A (wl Γ σ) sz q := by
  obtain ⟨i, hi, rfl⟩ := h
  obtain ⟨n, hn⟩ := wl_at (σ := σ) hi rfl
  exact Or.inl ⟨n, _, hn⟩
section ZY
variable {Γ : GC} {A : Nat → Prop} {p : Program} {l : Launch} {e : Env} {R : Room} {s : State} {m : MethodId} {args : Array Value} {below : List Frame} {meth : Method} {c : Code} {cells slots : Nat} {Q : State → Prop} {nL : Nat} {ws : va_W} {pc : Nat} {lv : List (Nat × Value)} {st : List Value} {own : String} {cc : ByteArray}
variable {y : MethodName} {bytes : ByteArray} {maxL : Nat} {ret : Option FieldType} {fr lo : Nat} {As : List Value} {ov : Option Value} {σ1 σ2 : GSt} {index : Nat} {a : Nat → Nat} {ids : List Nat}
theorem z_runY (hC : CZ Γ A p s m args c own cc nL) (hJ : GJ (atG Γ a ids)) {H : Heap} {locs : List Loc} {ls : Array Slot} {ar : Array Value} {st0 rest : List Value} (hr : va_Run p l e R s m args below meth c H locs cells slots 0 0 (F0 m pc ls st0) rest (Qg (atG Γ a ids) ov σ2 ar) (GA (atG Γ a ids))) (hP : va_P Γ.1 vwCl ws H) (hD : va_D A ws) (hS : va_S A s.heap H locs) (hl : lv_has ls nL lv) (isC isR : List Nat) {wr : va_W} (hCC : isC.map (fun i => ws[i]?) = (wl (atG Γ a ids) σ1).map some) (hR : isR.map (fun i => ws[i]?) = wr.map some) (hn : va_nd isR = true) (hdis : ∀ i ∈ isR, i ∉ isC) (kk : Z Γ A p l e R s m args below meth c cells slots Q nL (wr ++ wl (atG Γ a ids) σ2) (pc + 3) lv (ov.toList ++ rest)) : W p l e R s m args below meth c H locs cells slots Q (F0 m pc ls st0) := by
  have hFc := va_free (wc := wl (atG Γ a ids) σ1) hD hS hC.2.2.2.2.2.2.2 isC hCC
  intro T hT X
  obtain ⟨v, st₀, t, T', L, g0, X', hL, e1, e2, ⟨hv, hP1, hz, hk⟩, stp⟩ := hr T hT X
  cases hv
  rw [g0] at hz hk
  rw [← e1] at hz hk
  have hP1 : va_P Γ.1 vwCl (wl (atG Γ a ids) σ2) T'.heap := by rw [e1]; exact hP1
  have hk1 : ∀ q : Nat, q < H.size → ¬ va_A (wl (atG Γ a ids) σ1) H.size q → T'.heap[q]? = H[q]? := fun q h1 h2 => hk q h1 (fun z => h2 (GA_A z))
  obtain ⟨hPn, hDn⟩ := va_join (wr := wr) (w1 := wl (atG Γ a ids) σ2) hP hD isC isR hCC hR hn hdis hk1 hFc hP1 (wl_D hJ (fun q h => GA_A h))
  have hS' : va_S A s.heap T'.heap (locs ++ L) := by
    refine ⟨Nat.le_trans hS.1 hz, fun q h1 h2 => ?_, fun q hq => ?_⟩
    · rw [hk q (Nat.lt_of_lt_of_le h1 hS.1) (fun z => h2 (hFc q (GA_A z)))]
      exact hS.2.1 q h1 h2
    · rcases List.mem_append.mp hq with h | h
      · exact hS.2.2 q h
      · exact hFc _ (GA_A (hL q h))
  obtain ⟨t2, a1, b1⟩ := kk T'.heap (locs ++ L) ls hPn hDn hS' hl T' rfl X'
  exact ⟨t2, stp t2 a1, b1⟩
theorem wl_P {H : Heap} (hP : va_P Γ.1 vwCl ws H) (isC : List Nat) (hCC : isC.map (fun i => ws[i]?) = (wl (atG Γ a ids) σ1).map some) : GP (atG Γ a ids) σ1 H := by
  intro k q hk
  have h1 : (isC.map (fun i => ws[i]?))[k]? = some (some q) := by rw [hCC, List.getElem?_map, hk]; rfl
  rw [List.getElem?_map] at h1
  cases hi : isC[k]? with
  | none => rw [hi] at h1; cases h1
  | some i => rw [hi] at h1; exact hP i q (Option.some.inj h1)
theorem z_callYS (hC : CZ Γ A p s m args c own cc nL) (hJ : GJ (atG Γ a ids)) {n : Nat} (hM : Mt (atG Γ a ids) l y bytes maxL ret fr lo As σ1 ov σ2) (cw : CW R y bytes maxL ret fr lo n) (hl : Cond.methodLink own index y ∈ wU) (hin : Cond.static y ∈ wU) (hna : As.length = n) (isC isR : List Nat) (wr : va_W) (hCC : isC.map (fun i => ws[i]?) = (wl (atG Γ a ids) σ1).map some) (hR : isR.map (fun i => ws[i]?) = wr.map some) (hn : va_nd isR = true) (hdis : ∀ i ∈ isR, i ∉ isC) {st0 : List Value} (hst : As.reverse ++ st = st0) (hW : (st.map fun v => v.category).sum ≤ 8) (hcs : cells ≤ R.cells ∧ slots ≤ R.slots) (hdg : decode cc pc = .ok (.invokestatic index, 3)) (pq : Nat) (hq : pc + 3 = pq) (kk : Z Γ A p l e R s m args below meth c cells slots Q nL (wr ++ wl (atG Γ a ids) σ2) pq lv (ov.toList ++ st)) : Z Γ A p l e R s m args below meth c cells slots Q nL ws pc lv st0 := by
  subst hq; subst hst
  intro H locs ls hP hD hS hlv
  have hFc := va_free (wc := wl (atG Γ a ids) σ1) hD hS hC.2.2.2.2.2.2.2 isC hCC
  refine z_runY hC hJ (va_runS (As := As) (rest := st) ⟨hC.1, hC.2.1, hC.2.2.1, hC.2.2.2.1, hC.2.2.2.2.1⟩ hM ⟨callB_of n hC.2.2.2.2.1 (gU cw.1) rfl rfl rfl (hC.2.2.2.2.1 _ cw.2.1) (hC.2.2.2.2.1 _ hl) cw.2.2.1 cw.2.2.2, hC.2.2.2.2.1 _ hin⟩ ⟨Pg_blind _ _ _, fun U hU hW => ⟨rfl, by rw [hU]; exact wl_P hP isC hCC, va_K.moved hW.alike hC.2.2.2.2.2.1, ?_⟩⟩ rfl hna hlv.1 rfl (by show 2 * 0 + _ ≤ 8; omega) hdg hcs) hP hD hS hlv isC isR hCC hR hn hdis kk
  have hN := nkz_of hC hS (B := GA (atG Γ a ids)) (fun q h => hFc q (GA_A h)) hU hW
  exact ⟨hN.1, SK_at hN.2⟩
theorem z_callYV (hC : CZ Γ A p s m args c own cc nL) (hJ : GJ (atG Γ a ids)) {n : Nat} (i : Nat) (hi : act (atG Γ a ids) i) {ci : Nat} {fs : List Value} (hc : cell (atG Γ a ids) σ1 i = .inr (ci, fs)) {qc : vw_C} (hcl : vwCl[ci]? = some qc) (hM : Mt (atG Γ a ids) l y bytes maxL ret fr lo (.ref (ad (atG Γ a ids) i) :: As) σ1 ov σ2) (cw : CW R y bytes maxL ret fr lo n) (hl : Cond.methodLink own index y ∈ wU) (hin : Cond.instanceMethod y ∈ wU) (hse : Cond.selects qc.1 y y ∈ wU) (hna : As.length = n) (isC isR : List Nat) (wr : va_W) (hCC : isC.map (fun i => ws[i]?) = (wl (atG Γ a ids) σ1).map some) (hR : isR.map (fun i => ws[i]?) = wr.map some) (hn : va_nd isR = true) (hdis : ∀ i ∈ isR, i ∉ isC) {st0 : List Value} (hst : As.reverse ++ .ref (ad (atG Γ a ids) i) :: st = st0) (hW : (st.map fun v => v.category).sum ≤ 8) (hcs : cells ≤ R.cells ∧ slots ≤ R.slots) (hdg : decode cc pc = .ok (.invokevirtual index, 3)) (pq : Nat) (hq : pc + 3 = pq) (kk : Z Γ A p l e R s m args below meth c cells slots Q nL (wr ++ wl (atG Γ a ids) σ2) pq lv (ov.toList ++ st)) : Z Γ A p l e R s m args below meth c cells slots Q nL ws pc lv st0 := by
  subst hq; subst hst
  intro H locs ls hP hD hS hlv
  have hFc := va_free (wc := wl (atG Γ a ids) σ1) hD hS hC.2.2.2.2.2.2.2 isC hCC
  have hG := wl_P (σ1 := σ1) hP isC hCC
  obtain ⟨nn, hnn⟩ := wl_at hi hc
  refine z_runY hC hJ (va_runV (As := As) (rest := st) ⟨hC.1, hC.2.1, hC.2.2.1, hC.2.2.2.1, hC.2.2.2.2.1⟩ hM ⟨callB_of n hC.2.2.2.2.1 (gU cw.1) rfl rfl rfl (hC.2.2.2.2.1 _ cw.2.1) (hC.2.2.2.2.1 _ hl) cw.2.2.1 cw.2.2.2, hC.2.2.2.2.1 _ hin, hC.2.2.2.2.1 _ hse⟩ ⟨Pg_blind _ _ _, va_recv (tys := tysG Γ) hC.2.2.2.2.2.1 hG hcl hnn, fun U hU hW => ⟨rfl, by rw [hU]; exact hG, va_K.moved hW.alike hC.2.2.2.2.2.1, ?_⟩⟩ rfl hna hlv.1 rfl (by show 2 * 0 + _ ≤ 8; omega) hdg hcs) hP hD hS hlv isC isR hCC hR hn hdis kk
  have hN := nkz_of hC hS (B := GA (atG Γ a ids)) (fun q h => hFc q (GA_A h)) hU hW
  exact ⟨hN.1, SK_at hN.2⟩
end ZY
