theorem vk_S_congr {N : Nat} {len : List Nat} {byt : List (List Int32)} {f f' g g' : Nat → Nat} {A : Nat → Prop} {U : State} {H : Heap} (hf : ∀ i, i < N → f i = f' i) (hg : ∀ i, i < N → g i = g' i) (h : vk_S N len byt f g A U H) : vk_S N len byt f' g' A U H := by
  refine ⟨fun i hi => ?_, fun i j hi hj e => h.2 i j hi hj (by rw [hf i hi, hf j hj]; exact e)⟩
  rw [← hf i hi, ← hg i hi]
  exact h.1 i hi
theorem z_toY {Γ Γ' : GC} {A : Nat → Prop} {p : Program} {l : Launch} {e : Env} {R : Room} {s : State} {m : MethodId} {args : Array Value} {below : List Frame} {meth : Method} {c : Code} {cells slots : Nat} {Q : State → Prop} {nL : Nat} {ws : va_W} {σ : GSt} {pc : Nat} {lv : List (Nat × Value)} {st : List Value} (h : ws = wl Γ' σ) (hΓ : Γ'.1 = Γ.1) (hn : Γ'.2.2.2.Nodup) (h77 : ∀ i, i ∈ Γ'.2.2.2 → i < 77) (kk : GJ Γ' → (∀ q, GA Γ' q → A q) → Y Γ' A p l e R s m args below meth c cells slots Q nL σ pc lv st) : Z Γ A p l e R s m args below meth c cells slots Q nL ws pc lv st := by
  subst h
  intro H locs ls hP hD hS hl
  refine kk (GJ_of hD hn h77) (fun q hq => ?_) H locs ls ?_ hS hl
  · obtain ⟨i, hi, rfl⟩ := hq
    obtain ⟨n, hn'⟩ := wl_at (σ := σ) hi rfl
    exact hD.2 n _ hn'
  · show va_P Γ'.1 vwCl _ H
    rw [hΓ]
    exact hP
set_option maxHeartbeats 8000000 in
set_option maxRecDepth 100000 in
/-- THE LAW, from its entry, once the two sides are tied -/
theorem whole_of {p : Program} {e : Env} {s : State} {m : MethodId} {below : List Frame} {meth : Method} {c : Code} (l : Launch) {b L : Nat} {xs : Nat → Int32} (hL : L ≤ 2560) (C0 : lw_At p s m meth c b L xs) {Rel : CSt → LSt → Prop} (hs : SimAll Rel) (wL : LSt) (hbg : f_X11_begins u0L 0 20 0 = some wL) (hR0 : Rel c0C wL) : W p l e room_1 s m #[Value.ref b] below meth c s.heap [] 0 0 (lw_Z below #[Value.ref b] s) (entryFrame m ([Value.ref b] : List Value).toArray 4) := by
  obtain ⟨hx, hb, hr, hml, hown, hts, hX, hbl, hlocks, hgv⟩ := C0
  have hA0 : ∀ a : Nat, a < s.heap.size → ¬ (fun q : Nat => s.heap.size ≤ q) a := fun a h h2 => absurd h (Nat.not_lt.mpr h2)
  have hfl := flat_of_before _ hgv
  obtain ⟨c0, iS0, hKn0⟩ := u_known (C := RX0) (T := TX0) (N := 0) (n := 0) hts (fun w hw => wU_in (inU0 w hw)) (hts (.instantiable RX0 0) (wU_in w1_155))
  obtain ⟨c1, iS1, hKn1⟩ := u_known (C := RX1) (T := TX1) (N := 0) (n := 0) hts (fun w hw => wU_in (inU1 w hw)) (hts (.instantiable RX1 0) (wU_in w1_141))
  obtain ⟨c2, iS2, hKn2⟩ := u_known (C := RX2) (T := TX2) (N := 12) (n := 12) hts (fun w hw => wU_in (inU2 w hw)) (hts (.instantiable RX2 12) (wU_in w1_119))
  obtain ⟨c3, iS3, hKn3⟩ := u_known (C := RX3) (T := TX3) (N := 17) (n := 17) hts (fun w hw => wU_in (inU3 w hw)) (hts (.instantiable RX3 17) (wU_in w1_30))
  obtain ⟨c4, iS4, hKn4⟩ := u_known (C := RX4) (T := TX4) (N := 0) (n := 0) hts (fun w hw => wU_in (inU4 w hw)) (hts (.instantiable RX4 0) (wU_in w1_162))
  obtain ⟨c5, iS5, hKn5⟩ := u_known (C := RX5) (T := TX5) (N := 0) (n := 0) hts (fun w hw => wU_in (inU5 w hw)) (hts (.instantiable RX5 0) (wU_in w1_126))
  obtain ⟨c6, iS6, hKn6⟩ := u_known (C := RX6) (T := TX6) (N := 6) (n := 6) hts (fun w hw => wU_in (inU6 w hw)) (hts (.instantiable RX6 6) (wU_in w2_2))
  obtain ⟨c7, iS7, hKn7⟩ := u_known (C := RX7) (T := TX7) (N := 0) (n := 0) hts (fun w hw => wU_in (inU7 w hw)) (hts (.instantiable RX7 0) (wU_in w1_148))
  obtain ⟨c8, iS8, hKn8⟩ := u_known (C := RX8) (T := TX8) (N := 6) (n := 6) hts (fun w hw => wU_in (inU8 w hw)) (hts (.instantiable RX8 6) (wU_in w1_215))
  obtain ⟨c9, iS9, hKn9⟩ := u_known (C := RX9) (T := TX9) (N := 0) (n := 0) hts (fun w hw => wU_in (inU9 w hw)) (hts (.instantiable RX9 0) (wU_in w1_134))
  obtain ⟨c10, iS10, hKn10⟩ := u_known (C := RX10) (T := TX10) (N := 12) (n := 12) hts (fun w hw => wU_in (inU10 w hw)) (hts (.instantiable RX10 12) (wU_in w1_22))
  obtain ⟨c11, iS11, hKn11⟩ := u_known (C := RX11) (T := TX11) (N := 24) (n := 24) hts (fun w hw => wU_in (inU11 w hw)) (hts (.instantiable RX11 24) (wU_in w4_89))
  obtain ⟨cI, kI, mI, gI1, gI2, gI3⟩ := Cond.arrayClass_spec (hts (.arrayClass .int) (wU_in w1_116))
  obtain ⟨cZ, kZ, mZ, gZ1, gZ2, gZ3⟩ := Cond.arrayClass_spec (hts (.arrayClass .boolean) (wU_in w1_132))
  have aoM := hts (.arrayOver (.object "HalfByFive$Market")) (List.mem_append_right _ (List.mem_append_left _ (List.mem_of_getElem? (l := tables_1_1) (i := 117) rfl)))
  have aoP := hts (.arrayOver (.object "HalfByFive$Plain")) (List.mem_append_right _ (List.mem_append_left _ (List.mem_of_getElem? (l := tables_1_1) (i := 125) rfl)))
  obtain ⟨mP, cP, kP, gP0, -, gP1, gP2, gP3⟩ := Cond.arrayOver_spec aoP
  obtain ⟨mM, cM, kM, gM0, -, gM1, gM2, gM3⟩ := Cond.arrayOver_spec aoM
  obtain ⟨adK, adV, hSt, hev⟩ := vk_Sof (N := 5) (tm := fun i => Jvm.Term.string "HalfByFive$Reader" (idxS.getD i 0)) (len := lenS) (byt := bytS) (A := fun q : Nat => s.heap.size ≤ q) (by decide)
    (fun i hi => by match i, hi with | 0, _ => exact hfl (Jvm.Cond.exactly (Jvm.Term.string "HalfByFive$Reader" 41) "java/lang/String") (by decide +kernel) | 1, _ => exact hfl (Jvm.Cond.exactly (Jvm.Term.string "HalfByFive$Reader" 61) "java/lang/String") (by decide +kernel) | 2, _ => exact hfl (Jvm.Cond.exactly (Jvm.Term.string "HalfByFive$Reader" 66) "java/lang/String") (by decide +kernel) | 3, _ => exact hfl (Jvm.Cond.exactly (Jvm.Term.string "HalfByFive$Reader" 71) "java/lang/String") (by decide +kernel) | 4, _ => exact hfl (Jvm.Cond.exactly (Jvm.Term.string "HalfByFive$Reader" 76) "java/lang/String") (by decide +kernel) | i + 5, h => exact absurd h (by omega))
    (fun i hi => by match i, hi with | 0, _ => exact hfl (Jvm.Cond.eq (.field (Jvm.Term.string "HalfByFive$Reader" 41) "java/lang/String" "coder" "B") (.int 0)) (by decide +kernel) | 1, _ => exact hfl (Jvm.Cond.eq (.field (Jvm.Term.string "HalfByFive$Reader" 61) "java/lang/String" "coder" "B") (.int 0)) (by decide +kernel) | 2, _ => exact hfl (Jvm.Cond.eq (.field (Jvm.Term.string "HalfByFive$Reader" 66) "java/lang/String" "coder" "B") (.int 0)) (by decide +kernel) | 3, _ => exact hfl (Jvm.Cond.eq (.field (Jvm.Term.string "HalfByFive$Reader" 71) "java/lang/String" "coder" "B") (.int 0)) (by decide +kernel) | 4, _ => exact hfl (Jvm.Cond.eq (.field (Jvm.Term.string "HalfByFive$Reader" 76) "java/lang/String" "coder" "B") (.int 0)) (by decide +kernel) | i + 5, h => exact absurd h (by omega))
    (fun i hi => by match i, hi with | 0, _ => exact hfl (Jvm.Cond.arrayOf (.field (Jvm.Term.string "HalfByFive$Reader" 41) "java/lang/String" "value" "[B") .byte) (by decide +kernel) | 1, _ => exact hfl (Jvm.Cond.arrayOf (.field (Jvm.Term.string "HalfByFive$Reader" 61) "java/lang/String" "value" "[B") .byte) (by decide +kernel) | 2, _ => exact hfl (Jvm.Cond.arrayOf (.field (Jvm.Term.string "HalfByFive$Reader" 66) "java/lang/String" "value" "[B") .byte) (by decide +kernel) | 3, _ => exact hfl (Jvm.Cond.arrayOf (.field (Jvm.Term.string "HalfByFive$Reader" 71) "java/lang/String" "value" "[B") .byte) (by decide +kernel) | 4, _ => exact hfl (Jvm.Cond.arrayOf (.field (Jvm.Term.string "HalfByFive$Reader" 76) "java/lang/String" "value" "[B") .byte) (by decide +kernel) | i + 5, h => exact absurd h (by omega))
    (fun i hi => by match i, hi with | 0, _ => exact hfl (Jvm.Cond.eq (.length (.field (Jvm.Term.string "HalfByFive$Reader" 41) "java/lang/String" "value" "[B")) (.int 6)) (by decide +kernel) | 1, _ => exact hfl (Jvm.Cond.eq (.length (.field (Jvm.Term.string "HalfByFive$Reader" 61) "java/lang/String" "value" "[B")) (.int 5)) (by decide +kernel) | 2, _ => exact hfl (Jvm.Cond.eq (.length (.field (Jvm.Term.string "HalfByFive$Reader" 66) "java/lang/String" "value" "[B")) (.int 6)) (by decide +kernel) | 3, _ => exact hfl (Jvm.Cond.eq (.length (.field (Jvm.Term.string "HalfByFive$Reader" 71) "java/lang/String" "value" "[B")) (.int 4)) (by decide +kernel) | 4, _ => exact hfl (Jvm.Cond.eq (.length (.field (Jvm.Term.string "HalfByFive$Reader" 76) "java/lang/String" "value" "[B")) (.int 5)) (by decide +kernel) | i + 5, h => exact absurd h (by omega))
    (fun i hi => by match i, hi with | 0, _ => exact (fun j hj => by match j, hj with | 0, _ => exact hfl (Jvm.Cond.eq (.elem (.field (Jvm.Term.string "HalfByFive$Reader" 41) "java/lang/String" "value" "[B") (.int 0)) (.int 109)) (by decide +kernel) | 1, _ => exact hfl (Jvm.Cond.eq (.elem (.field (Jvm.Term.string "HalfByFive$Reader" 41) "java/lang/String" "value" "[B") (.int 1)) (.int 97)) (by decide +kernel) | 2, _ => exact hfl (Jvm.Cond.eq (.elem (.field (Jvm.Term.string "HalfByFive$Reader" 41) "java/lang/String" "value" "[B") (.int 2)) (.int 114)) (by decide +kernel) | 3, _ => exact hfl (Jvm.Cond.eq (.elem (.field (Jvm.Term.string "HalfByFive$Reader" 41) "java/lang/String" "value" "[B") (.int 3)) (.int 107)) (by decide +kernel) | 4, _ => exact hfl (Jvm.Cond.eq (.elem (.field (Jvm.Term.string "HalfByFive$Reader" 41) "java/lang/String" "value" "[B") (.int 4)) (.int 101)) (by decide +kernel) | 5, _ => exact hfl (Jvm.Cond.eq (.elem (.field (Jvm.Term.string "HalfByFive$Reader" 41) "java/lang/String" "value" "[B") (.int 5)) (.int 116)) (by decide +kernel) | j + 6, h => exact absurd h (by show ¬ (j + 6 < 6); omega)) | 1, _ => exact (fun j hj => by match j, hj with | 0, _ => exact hfl (Jvm.Cond.eq (.elem (.field (Jvm.Term.string "HalfByFive$Reader" 61) "java/lang/String" "value" "[B") (.int 0)) (.int 112)) (by decide +kernel) | 1, _ => exact hfl (Jvm.Cond.eq (.elem (.field (Jvm.Term.string "HalfByFive$Reader" 61) "java/lang/String" "value" "[B") (.int 1)) (.int 114)) (by decide +kernel) | 2, _ => exact hfl (Jvm.Cond.eq (.elem (.field (Jvm.Term.string "HalfByFive$Reader" 61) "java/lang/String" "value" "[B") (.int 2)) (.int 105)) (by decide +kernel) | 3, _ => exact hfl (Jvm.Cond.eq (.elem (.field (Jvm.Term.string "HalfByFive$Reader" 61) "java/lang/String" "value" "[B") (.int 3)) (.int 99)) (by decide +kernel) | 4, _ => exact hfl (Jvm.Cond.eq (.elem (.field (Jvm.Term.string "HalfByFive$Reader" 61) "java/lang/String" "value" "[B") (.int 4)) (.int 101)) (by decide +kernel) | j + 5, h => exact absurd h (by show ¬ (j + 5 < 5); omega)) | 2, _ => exact (fun j hj => by match j, hj with | 0, _ => exact hfl (Jvm.Cond.eq (.elem (.field (Jvm.Term.string "HalfByFive$Reader" 66) "java/lang/String" "value" "[B") (.int 0)) (.int 116)) (by decide +kernel) | 1, _ => exact hfl (Jvm.Cond.eq (.elem (.field (Jvm.Term.string "HalfByFive$Reader" 66) "java/lang/String" "value" "[B") (.int 1)) (.int 104)) (by decide +kernel) | 2, _ => exact hfl (Jvm.Cond.eq (.elem (.field (Jvm.Term.string "HalfByFive$Reader" 66) "java/lang/String" "value" "[B") (.int 2)) (.int 101)) (by decide +kernel) | 3, _ => exact hfl (Jvm.Cond.eq (.elem (.field (Jvm.Term.string "HalfByFive$Reader" 66) "java/lang/String" "value" "[B") (.int 3)) (.int 105)) (by decide +kernel) | 4, _ => exact hfl (Jvm.Cond.eq (.elem (.field (Jvm.Term.string "HalfByFive$Reader" 66) "java/lang/String" "value" "[B") (.int 4)) (.int 114)) (by decide +kernel) | 5, _ => exact hfl (Jvm.Cond.eq (.elem (.field (Jvm.Term.string "HalfByFive$Reader" 66) "java/lang/String" "value" "[B") (.int 5)) (.int 115)) (by decide +kernel) | j + 6, h => exact absurd h (by show ¬ (j + 6 < 6); omega)) | 3, _ => exact (fun j hj => by match j, hj with | 0, _ => exact hfl (Jvm.Cond.eq (.elem (.field (Jvm.Term.string "HalfByFive$Reader" 71) "java/lang/String" "value" "[B") (.int 0)) (.int 114)) (by decide +kernel) | 1, _ => exact hfl (Jvm.Cond.eq (.elem (.field (Jvm.Term.string "HalfByFive$Reader" 71) "java/lang/String" "value" "[B") (.int 1)) (.int 97)) (by decide +kernel) | 2, _ => exact hfl (Jvm.Cond.eq (.elem (.field (Jvm.Term.string "HalfByFive$Reader" 71) "java/lang/String" "value" "[B") (.int 2)) (.int 105)) (by decide +kernel) | 3, _ => exact hfl (Jvm.Cond.eq (.elem (.field (Jvm.Term.string "HalfByFive$Reader" 71) "java/lang/String" "value" "[B") (.int 3)) (.int 110)) (by decide +kernel) | j + 4, h => exact absurd h (by show ¬ (j + 4 < 4); omega)) | 4, _ => exact (fun j hj => by match j, hj with | 0, _ => exact hfl (Jvm.Cond.eq (.elem (.field (Jvm.Term.string "HalfByFive$Reader" 76) "java/lang/String" "value" "[B") (.int 0)) (.int 98)) (by decide +kernel) | 1, _ => exact hfl (Jvm.Cond.eq (.elem (.field (Jvm.Term.string "HalfByFive$Reader" 76) "java/lang/String" "value" "[B") (.int 1)) (.int 117)) (by decide +kernel) | 2, _ => exact hfl (Jvm.Cond.eq (.elem (.field (Jvm.Term.string "HalfByFive$Reader" 76) "java/lang/String" "value" "[B") (.int 2)) (.int 121)) (by decide +kernel) | 3, _ => exact hfl (Jvm.Cond.eq (.elem (.field (Jvm.Term.string "HalfByFive$Reader" 76) "java/lang/String" "value" "[B") (.int 3)) (.int 101)) (by decide +kernel) | 4, _ => exact hfl (Jvm.Cond.eq (.elem (.field (Jvm.Term.string "HalfByFive$Reader" 76) "java/lang/String" "value" "[B") (.int 4)) (.int 114)) (by decide +kernel) | j + 5, h => exact absurd h (by show ¬ (j + 5 < 5); omega)) | i + 5, h => exact absurd h (by omega))
    (fun i j hi hj hij => by
      match i, j, hi, hj, hij with
      | 0, 0, _, _, h => exact absurd rfl h
      | 0, 1, _, _, _ => exact Or.inl (hfl (Jvm.Cond.not (Jvm.Cond.eq (Jvm.Term.string "HalfByFive$Reader" 41) (Jvm.Term.string "HalfByFive$Reader" 61))) (by decide +kernel))
      | 0, 2, _, _, _ => exact Or.inl (hfl (Jvm.Cond.not (Jvm.Cond.eq (Jvm.Term.string "HalfByFive$Reader" 41) (Jvm.Term.string "HalfByFive$Reader" 66))) (by decide +kernel))
      | 0, 3, _, _, _ => exact Or.inl (hfl (Jvm.Cond.not (Jvm.Cond.eq (Jvm.Term.string "HalfByFive$Reader" 41) (Jvm.Term.string "HalfByFive$Reader" 71))) (by decide +kernel))
      | 0, 4, _, _, _ => exact Or.inl (hfl (Jvm.Cond.not (Jvm.Cond.eq (Jvm.Term.string "HalfByFive$Reader" 41) (Jvm.Term.string "HalfByFive$Reader" 76))) (by decide +kernel))
      | 1, 0, _, _, _ => exact Or.inr (hfl (Jvm.Cond.not (Jvm.Cond.eq (Jvm.Term.string "HalfByFive$Reader" 41) (Jvm.Term.string "HalfByFive$Reader" 61))) (by decide +kernel))
      | 1, 1, _, _, h => exact absurd rfl h
      | 1, 2, _, _, _ => exact Or.inl (hfl (Jvm.Cond.not (Jvm.Cond.eq (Jvm.Term.string "HalfByFive$Reader" 61) (Jvm.Term.string "HalfByFive$Reader" 66))) (by decide +kernel))
      | 1, 3, _, _, _ => exact Or.inl (hfl (Jvm.Cond.not (Jvm.Cond.eq (Jvm.Term.string "HalfByFive$Reader" 61) (Jvm.Term.string "HalfByFive$Reader" 71))) (by decide +kernel))
      | 1, 4, _, _, _ => exact Or.inl (hfl (Jvm.Cond.not (Jvm.Cond.eq (Jvm.Term.string "HalfByFive$Reader" 61) (Jvm.Term.string "HalfByFive$Reader" 76))) (by decide +kernel))
      | 2, 0, _, _, _ => exact Or.inr (hfl (Jvm.Cond.not (Jvm.Cond.eq (Jvm.Term.string "HalfByFive$Reader" 41) (Jvm.Term.string "HalfByFive$Reader" 66))) (by decide +kernel))
      | 2, 1, _, _, _ => exact Or.inr (hfl (Jvm.Cond.not (Jvm.Cond.eq (Jvm.Term.string "HalfByFive$Reader" 61) (Jvm.Term.string "HalfByFive$Reader" 66))) (by decide +kernel))
      | 2, 2, _, _, h => exact absurd rfl h
      | 2, 3, _, _, _ => exact Or.inl (hfl (Jvm.Cond.not (Jvm.Cond.eq (Jvm.Term.string "HalfByFive$Reader" 66) (Jvm.Term.string "HalfByFive$Reader" 71))) (by decide +kernel))
      | 2, 4, _, _, _ => exact Or.inl (hfl (Jvm.Cond.not (Jvm.Cond.eq (Jvm.Term.string "HalfByFive$Reader" 66) (Jvm.Term.string "HalfByFive$Reader" 76))) (by decide +kernel))
      | 3, 0, _, _, _ => exact Or.inr (hfl (Jvm.Cond.not (Jvm.Cond.eq (Jvm.Term.string "HalfByFive$Reader" 41) (Jvm.Term.string "HalfByFive$Reader" 71))) (by decide +kernel))
      | 3, 1, _, _, _ => exact Or.inr (hfl (Jvm.Cond.not (Jvm.Cond.eq (Jvm.Term.string "HalfByFive$Reader" 61) (Jvm.Term.string "HalfByFive$Reader" 71))) (by decide +kernel))
      | 3, 2, _, _, _ => exact Or.inr (hfl (Jvm.Cond.not (Jvm.Cond.eq (Jvm.Term.string "HalfByFive$Reader" 66) (Jvm.Term.string "HalfByFive$Reader" 71))) (by decide +kernel))
      | 3, 3, _, _, h => exact absurd rfl h
      | 3, 4, _, _, _ => exact Or.inl (hfl (Jvm.Cond.not (Jvm.Cond.eq (Jvm.Term.string "HalfByFive$Reader" 71) (Jvm.Term.string "HalfByFive$Reader" 76))) (by decide +kernel))
      | 4, 0, _, _, _ => exact Or.inr (hfl (Jvm.Cond.not (Jvm.Cond.eq (Jvm.Term.string "HalfByFive$Reader" 41) (Jvm.Term.string "HalfByFive$Reader" 76))) (by decide +kernel))
      | 4, 1, _, _, _ => exact Or.inr (hfl (Jvm.Cond.not (Jvm.Cond.eq (Jvm.Term.string "HalfByFive$Reader" 61) (Jvm.Term.string "HalfByFive$Reader" 76))) (by decide +kernel))
      | 4, 2, _, _, _ => exact Or.inr (hfl (Jvm.Cond.not (Jvm.Cond.eq (Jvm.Term.string "HalfByFive$Reader" 66) (Jvm.Term.string "HalfByFive$Reader" 76))) (by decide +kernel))
      | 4, 3, _, _, _ => exact Or.inr (hfl (Jvm.Cond.not (Jvm.Cond.eq (Jvm.Term.string "HalfByFive$Reader" 71) (Jvm.Term.string "HalfByFive$Reader" 76))) (by decide +kernel))
      | 4, 4, _, _, h => exact absurd rfl h
      | i + 5, _, h, _, _ => exact absurd h (by omega)
      | _, j + 5, _, h, _ => exact absurd h (by omega)) hA0
  have hZ1 : va_Z "java/lang/String" "COMPACT_STRINGS" "Z" (.int 1) (fun q : Nat => s.heap.size ≤ q) s s.heap := va_Zof (hts _ (List.mem_append_right _ (List.mem_append_right _ (List.mem_append_left _ (List.mem_of_getElem? (l := tables_1_2) (i := 177) rfl))))) (hts _ (wU_in w1_15)) (va_eqi (hfl (Jvm.Cond.eq (.static "java/lang/String" "COMPACT_STRINGS" "Z") (.int 1)) (by decide +kernel))) hA0
  have hZ2 : va_Zq "jdk/internal/util/Preconditions" "SIOOBE_FORMATTER" "Ljava/util/function/BiFunction;" (fun q : Nat => s.heap.size ≤ q) s s.heap := va_Zqof (hts _ (List.mem_append_right _ (List.mem_append_right _ (List.mem_append_left _ (List.mem_of_getElem? (l := tables_1_2) (i := 193) rfl))))) (hts _ (wU_in w1_17)) (hfl (Jvm.Cond.isRef (.static "jdk/internal/util/Preconditions" "SIOOBE_FORMATTER" "Ljava/util/function/BiFunction;")) (by decide +kernel)) hA0
  obtain ⟨Γ, hΓ1, hΓ2, hΓ3, hΓ4⟩ : ∃ Γ : GC, va_K Γ.1 vwCl (tysG Γ) s ∧ SK Γ (fun q : Nat => s.heap.size ≤ q) s s.heap ∧ True ∧ True := by
    refine ⟨((fun k => match k with | 0 => c0 | 1 => c1 | 2 => c2 | 3 => c3 | 4 => c4 | 5 => c5 | 6 => c6 | 7 => c7 | 8 => c8 | 9 => c9 | 10 => c10 | _ => c11, fun k => match k with | 0 => iS0 | 1 => iS1 | 2 => iS2 | 3 => iS3 | 4 => iS4 | 5 => iS5 | 6 => iS6 | 7 => iS7 | 8 => iS8 | 9 => iS9 | 10 => iS10 | _ => iS11), (fun k => match k with | 0 => cI | 1 => cZ | 2 => cP | _ => cM), (fun i => if i < 110 then adK (i - 100) else adV (i - 110)), []), ⟨?_, ?_⟩, ⟨?_, hZ1, hZ2, ?_⟩, trivial, trivial⟩
    · intro k q hq
      match k, hq with
      | 0, hq => cases hq; exact hKn0
      | 1, hq => cases hq; exact hKn1
      | 2, hq => cases hq; exact hKn2
      | 3, hq => cases hq; exact hKn3
      | 4, hq => cases hq; exact hKn4
      | 5, hq => cases hq; exact hKn5
      | 6, hq => cases hq; exact hKn6
      | 7, hq => cases hq; exact hKn7
      | 8, hq => cases hq; exact hKn8
      | 9, hq => cases hq; exact hKn9
      | 10, hq => cases hq; exact hKn10
      | 11, hq => cases hq; exact hKn11
      | k + 12, hq => simp [vwCl] at hq
    · intro k q hq
      match k, hq with
      | 0, hq => cases hq; exact ⟨fun N z => ⟨(fun k h => by cases h), kI, gI2, mI, gI3⟩, gI1⟩
      | 1, hq => cases hq; exact ⟨fun N z => ⟨(fun k h => by cases h), kZ, gZ2, mZ, gZ3⟩, gZ1⟩
      | 2, hq => cases hq; exact ⟨fun N z => ⟨(fun k h => by cases h), kP, gP1, mP, gP2⟩, kP, mP, gP1, gP2, gP0, gP3⟩
      | 3, hq => cases hq; exact ⟨fun N z => ⟨(fun k h => by cases h), kM, gM1, mM, gM2⟩, kM, mM, gM1, gM2, gM0, gM3⟩
      | k + 4, hq => simp [tysG] at hq
    · refine vk_S_congr (fun i hi => ?_) (fun i hi => ?_) hSt
      · show adK i = if 100 + i < 110 then adK (100 + i - 100) else adV (100 + i - 110)
        rw [if_pos (by omega), show 100 + i - 100 = i by omega]
      · show adV i = if 110 + i < 110 then adK (110 + i - 100) else adV (110 + i - 110)
        rw [if_neg (by omega), show 110 + i - 110 = i by omega]
    · intro i hi
      show vk_R "HalfByFive$Reader" (idxS.getD i 0) (txS.getD i "") (if 100 + i < 110 then adK (100 + i - 100) else adV (100 + i - 110)) s
      rw [if_pos (by omega), show 100 + i - 100 = i by omega]
      refine vk_R.of ?_ (hev i hi)
      match i, hi with
      | 0, _ => exact hts _ (List.mem_append_right _ (List.mem_append_right _ (List.mem_append_left _ (List.mem_of_getElem? (l := tables_1_2) (i := 163) rfl))))
      | 1, _ => exact hts _ (List.mem_append_right _ (List.mem_append_right _ (List.mem_append_left _ (List.mem_of_getElem? (l := tables_1_2) (i := 230) rfl))))
      | 2, _ => exact hts _ (List.mem_append_right _ (List.mem_append_right _ (List.mem_append_left _ (List.mem_of_getElem? (l := tables_1_2) (i := 236) rfl))))
      | 3, _ => exact hts _ (List.mem_append_right _ (List.mem_append_right _ (List.mem_append_right _ (List.mem_append_left _ (List.mem_of_getElem? (l := tables_1_3) (i := 2) rfl)))))
      | 4, _ => exact hts _ (List.mem_append_right _ (List.mem_append_right _ (List.mem_append_right _ (List.mem_append_left _ (List.mem_of_getElem? (l := tables_1_3) (i := 7) rfl)))))
      | i + 5, h => exact absurd h (by omega)
  have hNW : NW s := NW.of hts
  have hCZ : CZ Γ (fun q : Nat => s.heap.size ≤ q) p s m #[Value.ref b] c R_law code 4 := ⟨hx, hb, hml, hown, fun w hw => hts w (wU_in hw), hΓ1, ⟨⟨hNW, hΓ2⟩, va_AO.of aoM, va_AO.of aoP⟩, fun _ h => h⟩
  have hl := lv_entry ([.ref b]) (n := 4) (Nat.le_of_ble_eq_true rfl)
  rw [lg_entry_eq]
  have hZ : Z Γ (fun q : Nat => s.heap.size ≤ q) p l e room_1 s m #[Value.ref b] below meth c 0 0 (lw_Z below #[Value.ref b] s) 4 [] 0 [(0, .ref b)] [] := by
    refine z_new hCZ 10 inU10 tyX10_ok w1_21 w1_22 w1_1 rfl (fs := blH) blH_ok (by decide) dL_law_0 3 rfl (fun a0 => ?_)
    refine z_dup hCZ dL_law_3 rfl 4 rfl ?_
    refine z_callI hCZ 0 rfl (fun sz => c_X10_init l a0 sz) ⟨w1_25, w1_1, cwd_X10_init, by decide, by decide⟩ w1_23 w1_24 rfl [] [] rfl (by decide) (by decide) (Nat.le_of_ble_eq_true rfl) (by decide) dL_law_4 7 rfl (fun w1 hw1 => ?_)
    obtain ⟨fa, hfa, rfl⟩ := hw1
    subst hfa
    refine z_eq (ws' := wl (atG Γ fa ids66) (c0C, u0L)) rfl ?_
    refine z_astore_n hCZ dL_law_7 (by decide) [(1, .ref (fa 63)), (0, .ref b)] rfl 8 rfl ?_
    refine z_new hCZ 11 inU11 tyX11_ok w4_88 w4_89 w1_13 rfl (fs := blL) blL_ok (by decide) dL_law_8 11 rfl (fun a8 => ?_)
    refine z_dup hCZ dL_law_11 rfl 12 rfl ?_
    refine z_callI hCZ 66 rfl (fun sz => c_X11_init l wL hbg a8 sz) ⟨w4_92, w1_13, cwd_X11_init, by decide, by decide⟩ w4_90 w4_91 rfl ids66 (wl (atG Γ fa ids66) (c0C, u0L)) rfl (by decide) (by decide) (Nat.le_of_ble_eq_true rfl) (by decide) dL_law_12 15 rfl (fun w1 hw1 => ?_)
    obtain ⟨fb, hfb, rfl⟩ := hw1
    subst hfb
    refine z_astore_n hCZ dL_law_15 (by decide) [(2, .ref (fb 66)), (1, .ref (fa 63)), (0, .ref b)] rfl 16 rfl ?_
    refine z_refs 49 (fun j => some (ad (atG Γ (fun i => if i < 66 then fa i else fb i) ids77) (50 + j))) rfl (fun j hj => by match j, hj with | 0, _ => rfl | 1, _ => rfl | 2, _ => rfl | 3, _ => rfl | 4, _ => rfl | 5, _ => rfl | j + 6, h => exact absurd h (by omega)) _ rfl ?_
    refine z_refs 64 (fun j => some (ad (atG Γ (fun i => if i < 66 then fa i else fb i) ids77) (10 * (2 + j)))) rfl (fun j hj => by match j, hj with | 0, _ => rfl | 1, _ => rfl | j + 2, h => exact absurd h (by omega)) _ rfl ?_
    refine z_toY (Γ' := atG Γ (fun i => if i < 66 then fa i else fb i) ids77) (σ := (c0C, wL)) rfl rfl (show ids77.Nodup by decide) (show ∀ i, i ∈ ids77 → i < 77 by decide) (fun hJ hGA => ?_)
    have hC : CX (atG Γ (fun i => if i < 66 then fa i else fb i) ids77) (fun q : Nat => s.heap.size ≤ q) p s m #[Value.ref b] c R_law code 4 := ⟨hx, hb, hml, hown, fun w hw => hts w (wU_in hw), hΓ1, ⟨hNW, SK_at hΓ2⟩, hJ, hGA⟩
    refine y_iconst hC dL_law_16 (v := 0) (by decide) 17 rfl ?_
    refine y_istore_n hC dL_law_17 (by decide) [(3, .int 0), (2, .ref (fb 66)), (1, .ref (fa 63)), (0, .ref b)] rfl 18 rfl ?_
    refine y_sub (lv' := [(0, .ref b), (1, .ref (fa 63)), (2, .ref (fb 66)), (3, .int (nI 0))]) [3, 2, 1, 0] rfl ?_
    exact law_loop hC hJ (fun i h => ids77_in (by omega)) (fun i _ h => ids77_in h) hX hbl hL hr hlocks hs (L + 5) 0 c0C wL (by omega) (by omega) hR0
  exact hZ _ _ _ (fun k q h => by simp at h) ⟨fun i j p q h => by simp at h, fun k q h => by simp at h⟩ va_S.rf hl
