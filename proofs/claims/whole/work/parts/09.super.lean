-- ===== super.m(..), where m stands two classes up =====
section VSG
variable {p : Program} {l : Launch} {e : Env} {R : Room} {s : State} {m : MethodId} {args : Array Value} {below : List Frame} {meth : Method} {c : Code}
theorem sub_two {vm : Vm} {a b : ClassId} {k : Class} (hk : vm.classes[a]? = some k) (hs : k.super = some b) : vm.isSubclass a b = true := by
  have hsz : 0 < vm.classes.size := Nat.lt_of_le_of_lt (Nat.zero_le a) (Array.getElem?_eq_some_iff.mp hk).1
  obtain ⟨n, hn⟩ : ∃ n, vm.classes.size = n + 1 := ⟨vm.classes.size - 1, by omega⟩
  unfold Vm.isSubclass
  rw [hn]
  simp [Vm.isSubclassAux, hk, hs]
theorem va_callSG {T : State} {locs : List Loc} {cells slots : Nat} (X : Stand p l e R s m args below meth c T locs cells slots) (hexec : p.tables.exec = Jvm.exec) {own owner : String} {index : Nat} {x y : MethodName} {bytes : ByteArray} {maxL : Nat} {ret : Option FieldType}
    (hown : s.vm.findClass own = some m.cls) (hlink : (Cond.methodLink own index x).before args s = true) (hsame : (Cond.sameMethod x.cls owner x.name x.desc).before args s = true) (hsup : (Cond.superclass own x.cls).before args s = true) (hsup2 : (Cond.superclass x.cls owner).before args s = true) (hy : y = ⟨owner, x.name, x.desc⟩)
    (hinst : (Cond.instanceMethod y).before args s = true) (hcode : (Cond.code y bytes maxL ret).before args s = true) (hno : x.name ≠ "<init>")
    {W : Nat} {Pre : Pt → Array Value → Prop} {Post : Pt → Array Value → Option Value → Pt → Prop} (hK : Back l R p e below s args y 3 W Pre Post)
    {b : Addr} {cellB : Cell} {kB : Class} (hcell : T.heap[b]? = some cellB) (hobj : cellB.vm.isStatics = false) (hkB : s.vm.classes[cellB.cls]? = some kB)
    {g : JFrame} (hg : g.method = m) (hsize : g.locals.size = c.maxLocals) {argsL rest : List Value} (hlen : ∀ sig, parseMethodDescriptor y.desc = some sig → argsL.length = sig.parameters.length)
    (hstack : g.stack = argsL.reverse ++ .ref b :: rest) (hW : 2 * g.monitorRoom + (rest.map fun v => v.category).sum ≤ W) (hdg : decode c.code g.pc = .ok (.invokespecial index, 3))
    (hpre : ∀ vm₁, s.WarmedH vm₁ → Pre ⟨T.setVm vm₁, locs, cells, slots⟩ (Value.ref b :: argsL).toArray) :
    ∃ (v : Option Value) (vm₁ : Vm) (B : Pt), s.WarmedH vm₁ ∧ Stand p l e R s m args below meth c B.U B.locs B.cells B.slots ∧ Post ⟨T.setVm vm₁, locs, cells, slots⟩ (Value.ref b :: argsL).toArray v B ∧
      ∀ target, Steps p.tables e below (B.U.setTop { g with pc := g.pc + 3, stack := v.toList ++ rest }) target → Steps p.tables e below (T.setTop g) target := by
  subst hy
  obtain ⟨mk, methM, hnamed, hmethM, hstM, habM⟩ := Cond.instanceMethod_spec hinst
  obtain ⟨methM', cM, hmethM', -, -, -, -, -, -, hsigM⟩ := Cond.code_spec hnamed hcode
  cases hmethM.symm.trans hmethM'
  obtain ⟨ps, dk, kp, hps, hdk, hkp, hsuper, -, -, hnid⟩ := Cond.superclass_spec hown hsup
  obtain ⟨p2, k2, kp2, hp2, hk2, hkp2, hsuper2, -, -, -⟩ := Cond.superclass_spec hps hsup2
  have hpm : p2 = mk.cls := Option.some.inj (hp2.symm.trans (findClass_of_methodNamed hnamed))
  have hsub : s.vm.isSubclass ps mk.cls = true := by rw [← hpm]; exact sub_two hk2 hsuper2
  obtain ⟨vm₁, X₁, hstep₁⟩ := X.invokespecialUp hexec hown hlink hsame hnamed hmethM hstM habM hno hdk hnid hps hsuper hsub (a := b) (cell := cellB) hcell
    (fun z h => by rw [h] at hobj; cases hobj) hkB (g := g) hg (argsL := argsL) (rest := rest) (hlen _ hsigM) hstack hdg
  obtain ⟨v, B, X', hpost, hsteps⟩ := hK m meth c ⟨T.setVm vm₁, locs, cells, slots⟩ { g with stack := rest } (.invokespecial index) mk (Value.ref b :: argsL).toArray X₁ hg hsize hdg hW (X₁.named hnamed) (hpre vm₁ X₁.warmed)
  exact ⟨v, vm₁, B, X₁.warmed, X', hpost, fun target h => hstep₁ _ (by rw [doInvoke_state]; exact hsteps.trans h)⟩
end VSG
section YG
variable {Γ : GC} {A : Nat → Prop} {p : Program} {l : Launch} {e : Env} {R : Room} {s : State} {m : MethodId} {args : Array Value} {below : List Frame} {meth : Method} {c : Code} {cells slots : Nat} {Q : State → Prop} {nL : Nat} {σ : GSt} {pc : Nat} {lv : List (Nat × Value)} {st : List Value} {own : String} {cc : ByteArray}
variable {x y : MethodName} {owner : String} {bytes : ByteArray} {maxL : Nat} {ret : Option FieldType} {fr lo : Nat} {As : List Value} {ov : Option Value} {σ1 σ2 : GSt} {index : Nat}
theorem y_callSG (hC : CX Γ A p s m args c own cc nL) {n : Nat} (i : Nat) (hi : act Γ i) {ci : Nat} {fs : List Value} (hc : cell Γ σ i = .inr (ci, fs)) {q : vw_C} (hcl : vwCl[ci]? = some q) (hM : Mt Γ l y bytes maxL ret fr lo (.ref (ad Γ i) :: As) σ1 ov σ2) (h1 : σ = σ1) (cw : CW R y bytes maxL ret fr lo n) (hl : Cond.methodLink own index x ∈ wU) (hsm : Cond.sameMethod x.cls owner x.name x.desc ∈ wU) (hsu : Cond.superclass own x.cls ∈ wU) (hsu2 : Cond.superclass x.cls owner ∈ wU) (hy : y = ⟨owner, x.name, x.desc⟩) (hin : Cond.instanceMethod y ∈ wU) (hni : x.name ≠ "<init>") (hn : As.length = n) {st0 : List Value} (hst : As.reverse ++ .ref (ad Γ i) :: st = st0) (hW : (st.map fun v => v.category).sum ≤ 8) (hcs : cells ≤ R.cells ∧ slots ≤ R.slots) (hdg : decode cc pc = .ok (.invokespecial index, 3)) (pq : Nat) (hq : pc + 3 = pq) (σ3 : GSt) (h3 : σ2 = σ3) (st1 : List Value) (hs1 : ov.toList ++ st = st1) (kk : Y Γ A p l e R s m args below meth c cells slots Q nL σ3 pq lv st1) : Y Γ A p l e R s m args below meth c cells slots Q nL σ pc lv st0 := by
  subst hq; subst hst; subst h1; subst h3; subst hs1
  intro H locs ls hP hS hlv
  refine y_run hC (a := (Value.ref (ad Γ i) :: As).toArray) (rest := st) ?_ hS hlv kk
  have hp := pre_V (As := As) hC hS hP hi hc hcl
  have hini := hC.2.2.2.2.1 _ cw.2.1
  have hK : Back l R p e below s args y 3 8 (PreOf R 0 0 (Pg Γ (.ref (ad Γ i) :: As) σ)) (PostOf (Qg Γ ov σ2) 0 0 (GA Γ)) := back_of (bytes := bytes) (maxL := maxL) (ret := ret) hM hp.1 rfl rfl cw.2.2.2.1 cw.2.2.2.2 (pay_in hC.2.2.2.2.1 (gU cw.1)) List.mem_cons_self (fun a' U hW => word_at hW (Or.inl (by first | rfl | simp [Cond.onTables, Cond.keeps, Cond.steady])) hini)
  obtain ⟨-, ⟨cellB, hcB, hoB, hclB⟩, hPc⟩ := hp
  obtain ⟨hfc, kB, hkB, -⟩ := (hC.2.2.2.2.2.1.1 ci q hcl).2
  have hce : Γ.1.1 ci = cellB.cls := Option.some.inj (hfc.symm.trans hclB)
  rw [hce] at hkB
  intro T hT X
  have hlen : ∀ sig, parseMethodDescriptor y.desc = some sig → As.length = sig.parameters.length := fun sig h => by
    have h2 := cw.2.2.1.2.2
    rw [h] at h2
    exact hn.trans (Option.some.inj h2).symm
  obtain ⟨v, vm₁, ⟨U', l2, c2, s2⟩, hW₁, X', ⟨g', mk, t, L, e1, e2, hq, h1, hL, h2, h3⟩, stp⟩ := va_callSG X hC.1 (bytes := bytes) (maxL := maxL) (ret := ret) hC.2.2.2.1 (hC.2.2.2.2.1 _ hl) (hC.2.2.2.2.1 _ hsm) (hC.2.2.2.2.1 _ hsu) (hC.2.2.2.2.1 _ hsu2) hy (hC.2.2.2.2.1 _ hin) (hC.2.2.2.2.1 _ cw.1) hni hK (by rw [hT]; exact hcB) hoB hkB (g := F0 m pc ls (As.reverse ++ .ref (ad Γ i) :: st)) rfl (hlv.1.trans hC.2.2.1.symm) (argsL := As) (rest := st) hlen rfl (by show 2 * 0 + _ ≤ 8; omega) (by rw [hC.2.1]; exact hdg)
    (fun vm₁ hW₁ => ⟨hcs.1, hcs.2, hPc (T.setVm vm₁) hT hW₁⟩)
  dsimp only [Pt.U, Pt.locs, Pt.cells, Pt.slots] at X' e1 e2 h1 h2 h3 stp
  subst h1; subst h2; subst h3
  exact ⟨v, (T.setVm vm₁).calling g' mk (Value.ref (ad Γ i) :: As).toArray, t, U', L, hT, X', hL, e1, e2, hq, stp⟩
end YG
theorem cl_wayN {Γ : GC} {σ : GSt} {wi : Nat} (h : wi < 6) : ∃ (ci : Nat) (q : vw_C), cell Γ σ (50 + wi) = .inr (ci, []) ∧ vwCl[ci]? = some q := by
  match wi, h with
  | 0, _ => exact ⟨5, _, cl_way0, rfl⟩
  | 1, _ => exact ⟨9, _, cl_way1, rfl⟩
  | 2, _ => exact ⟨1, _, cl_way2, rfl⟩
  | 3, _ => exact ⟨7, _, cl_way3, rfl⟩
  | 4, _ => exact ⟨0, _, cl_way4, rfl⟩
  | 5, _ => exact ⟨4, _, cl_way5, rfl⟩
  | w + 6, h => exact absurd h (by omega)
