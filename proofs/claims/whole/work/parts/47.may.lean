-- ===== may =====
def offB (f : Nat → Int32) (y : DYS) (i : Nat) : Bool := !decide (xG y (f (60 + i)).toNatClampNeg = f (66 + i))
theorem agrees_C {d : DSt} {u : MSt} {f : Nat → Int32} {v : VW} {y : DYS} {s p : Nat} (hr : RM u f v s p) (hd : DayIs d y) : f_X2_agreesWithSold d u = some (if anyF (offB f y) 0 s = true then 0 else 1) := by
  have b3 : pM_soldSize u = nI s := hr.2.2.2.2.2.1
  have b5 : s ≤ 6 := hr.2.2.2.2.2.2.2.1
  have b9 := hr.2.2.2.2.2.2.2.2.2.2.2.1
  unfold f_X2_agreesWithSold
  refine lp_find (step := f_X2_agreesWithSold_s2 d u) (fun k => nI k) (offB f y) s (fun k K hk => ?_) (fun K => ?_) s 0 1000 (by omega) (by omega)
  · obtain ⟨o, h1, h2, h3, h4⟩ := b9 k hk
    have hg := hd.2.2.2.1 o h1
    have e : f_X2_goneIn d (nI o) = some (xG y o) := by
      unfold f_X2_goneIn
      have e0 : (nI o < 0) = False := lt_f (b := 0) (by omega) (by omega)
      simp only [i_10]
      simp (disch := omega) only [lt_eq, Option.bind_some, inb_t, cl_t, le_t, le_f, lt_t, lt_f, eq_t, eq_f, nI_add, nI_1, ↓reduceIte, e0, hg]
    have n1 : ¬ pM_soldSize u ≤ nI k := by
      rw [b3, le_nI (by omega) (by omega)]
      omega
    have n2 : ¬ (6 : Int32) ≤ nI k := by
      rw [i_6, le_nI (by omega) (by omega)]
      omega
    have q1 : inb (nI k) 6 := (inb_nI (by omega)).mpr (by omega)
    have q2 : (nI k).toNatClampNeg = k := cl_nI (by omega)
    unfold f_X2_agreesWithSold_s2 offB
    rw [if_neg n1, if_neg n2, if_pos q1, q2, h2, e, Option.bind_some, if_pos q1, h3, h4, cl_nI (by omega), nI_1]
    by_cases c : xG y o = f (66 + k)
    · rw [if_pos c, decide_eq_true c, if_neg (by decide)]
    · rw [if_neg c, decide_eq_false c, if_pos (by decide)]
  · unfold f_X2_agreesWithSold_s2
    rw [b3]
    exact if_pos (Int32.le_refl _)
theorem mayL_in {gw w' : LSt} {u : MSt} {v : VW} {y : DYS} {s p b k : Nat} (K28 : (Int32 × Int32 × Int32 × LSt) → Option (Int32 × LSt)) (x z : Int32) (hr : RM u (pL_w w') v s p) (hd : DayL w' y) : lp (f_X11_may_s55 (nI b) K28) 1000 (x, z, nI k, (1 : Int32), (0 : Int32), w') = f_X11_may_j113 (nI b) K28 x z (nI k) (if anyF (offB (pL_w w') y) 0 s = true then 0 else 1) w' := by
  have b4 : pL_w w' 6 = nI s := hr.2.2.2.2.2.2.1
  have b5 : s ≤ 6 := hr.2.2.2.2.2.2.2.1
  have b9 := hr.2.2.2.2.2.2.2.2.2.2.2.1
  refine lp_run1 (step := f_X11_may_s55 (nI b) K28) (fun i => (x, z, nI k, (if anyF (offB (pL_w w') y) 0 i = true then 0 else 1), nI i, w')) s (by omega) rfl (fun i K hi => ?_) (fun K => ?_)
  · obtain ⟨o, h1, h2, h3, h4⟩ := b9 i hi
    have hg := hd.2.2.2.1 o h1
    have n1 : ¬ pL_w w' 6 ≤ nI i := by
      rw [b4, le_nI (by omega) (by omega)]
      omega
    have i60 : (60 : Int32) + nI i = nI (60 + i) := nI_add 60 i
    have i66 : (66 : Int32) + nI i = nI (66 + i) := nI_add 66 i
    have q60 : inb (nI (60 + i)) 608 := (inb_nI (by omega)).mpr (by omega)
    have q66 : inb (nI (66 + i)) 608 := (inb_nI (by omega)).mpr (by omega)
    have c60 : (nI (60 + i)).toNatClampNeg = 60 + i := cl_nI (by omega)
    have c66 : (nI (66 + i)).toNatClampNeg = 66 + i := cl_nI (by omega)
    have qo : inb (nI o) 10 := (inb_nI (by omega)).mpr h1
    have co : (nI o).toNatClampNeg = o := cl_nI (by omega)
    have eo : offB (pL_w w') y (0 + i) = !decide (xG y o = pL_w w' (66 + i)) := by
      unfold offB
      rw [Nat.zero_add, h3, co]
    unfold f_X11_may_s55 f_X11_may_j104 f_X11_may_j105
    dsimp only
    rw [anyF_snoc, eo, if_pos (by decide), show (6 : Int32).toNatClampNeg = 6 from rfl, if_neg n1, i60, i66, if_pos q60, c60, h3, if_pos qo, if_pos q66, c66, co, hg, nI_1]
    cases anyF (offB (pL_w w') y) 0 i
    · rw [Bool.false_or, if_neg (by decide)]
      by_cases c : xG y o = pL_w w' (66 + i)
      · rw [decide_eq_true c, if_pos c, if_neg (by decide)]
      · rw [decide_eq_false c, if_neg c, if_pos (by decide)]
    · rw [Bool.true_or, if_pos rfl, if_pos rfl]
  · unfold f_X11_may_s55
    dsimp only
    rw [if_pos (by decide), show (6 : Int32).toNatClampNeg = 6 from rfl, b4, if_pos (Int32.le_refl _)]
def TMy (c0 : CSt) (w0 : LSt) (c : CSt) (w : LSt) (n b s p : Nat) : Prop := RC c0 c ∧ Kp w0 w ∧ (∃ v, RM (c_m1 c) (pL_w w) v s p ∧ vN v = n) ∧ ∀ k, k < 456 → k ≠ 28 + b → pL_w w k = pL_w w0 k
theorem s_may : sim_may Rel := by
  intro c w hR a1
  obtain ⟨v, s, p, hN⟩ := rel_now hR
  obtain ⟨u, b1, b2⟩ := rm_becomes (c_m1 c) hN
  have hn1 := hN.1.2.2.2.2.1
  have hn2 := hN.2.1.2.2.2.2.1
  have h8 := hN.1.2.2.2.2.2.1
  rcases inR_dec a1.toInt 0 ((vN v : Int) - 1) with h | h
  · have y1 := isBuyer_t (c := c) hn1 h8 h
    have y2 := isBuyerL_t (w := w) hn2 h8 h
    obtain ⟨b, hb, hb2, rfl⟩ := of_inR h
    have hb3 : b < vN v := by omega
    have hb8 : b < 8 := by omega
    have i28 : (28 : Int32) + nI b = nI (28 + b) := nI_add 28 b
    have q28 : inb (nI (28 + b)) 608 := (inb_nI (by omega)).mpr (by omega)
    have qb : inb (nI b) 8 := (inb_nI (by omega)).mpr hb8
    have cb : (nI b).toNatClampNeg = b := cl_nI (by omega)
    have c28 : (nI (28 + b)).toNatClampNeg = 28 + b := cl_nI (by omega)
    have e1 : ∀ X, lp (f_X10_may_s30 (nI b)) 1000 ((0 : Int32), (0 : Int32), sc_m1 c u) = X → f_X10_may c (nI b) = X := by
      intro X hX
      unfold f_X10_may
      rw [y1, Option.bind_some, if_neg one0, b1, Option.bind_some, lt_eq]
      exact hX
    have e2 : ∀ X, lp (f_X11_may_s28 (nI b)) 1000 (pL_w w (28 + b), (0 : Int32), (0 : Int32), w) = X → f_X11_may w (nI b) = X := by
      intro X hX
      unfold f_X11_may
      rw [y2, Option.bind_some, if_neg one0, i28, if_pos q28, lt_eq, c28]
      exact hX
    have hP : (fun oc ol => ∃ (x : Int32 × CSt) (y : Int32 × LSt), oc = some x ∧ ol = some y ∧ x.1 = y.1 ∧ Rel x.2 y.2) (lp (f_X10_may_s30 (nI b)) 1000 ((0 : Int32), (0 : Int32), sc_m1 c u)) (lp (f_X11_may_s28 (nI b)) 1000 (pL_w w (28 + b), (0 : Int32), (0 : Int32), w)) := ?_
    · obtain ⟨x, y, q1, q2, q3, q4⟩ := hP
      exact ⟨x, y, e1 _ q1, e2 _ q2, q3, q4⟩
    refine lp_two0 (sC := f_X10_may_s30 (nI b)) (sL := f_X11_may_s28 (nI b)) (fun k a b' => ∃ z gc gw, a = (z, nI k, gc) ∧ b' = (pL_w w (28 + b), z, nI k, gw) ∧ TMy c w gc gw (vN v) b s p) 6 (by omega) (P := fun oc ol => ∃ (x : Int32 × CSt) (y : Int32 × LSt), oc = some x ∧ ol = some y ∧ x.1 = y.1 ∧ Rel x.2 y.2) ?_ (fun k a b' K K' hk hI => ?_) (fun a b' K K' hI => ?_)
    · exact ⟨0, _, _, rfl, rfl, RC_m1 (fun _ h => h) u, Kp_rfl w, ⟨v, b2, rfl⟩, fun _ _ _ => rfl⟩
    · obtain ⟨z, gc, gw, rfl, rfl, t1, t2, ⟨v', t3, t4⟩, t5⟩ := hI
      have hM := rm_kind1 (b := b) (k := k) (by omega) hk t3
      obtain ⟨d', r1, r2, r3⟩ := run_spec (c_d gc) hM.1 hM.2.2.1
      obtain ⟨w', g1, g2, g3, g4, g5, g6⟩ := triesAll_ok (w := sL_w gw (upd (pL_w gw) (28 + b) (nI k))) (by rw [wW]; exact hM.2.1)
      rw [wW] at g4
      have hM2 := hM
      rw [← g4] at hM2
      have a1 := agrees_C hM2 r3
      have a2 := mayL_in (b := b) (k := k) K' (pL_w w (28 + b)) z (gw := gw) hM2 g6
      have nk : ¬ (6 : Int32) ≤ nI k := by
        rw [i_6, le_nI (by omega) (by omega)]
        omega
      have nk5 : ¬ (5 : Int32) < nI k := by
        rw [i_5, lt_nI (by omega) (by omega)]
        omega
      generalize anyF (offB (pL_w w') (dayN _ _ 255)) 0 s = q at a1 a2
      have hT : TMy c w (sc_d (sc_m1 gc (sM_kinds (c_m1 gc) (upd (pM_kinds (c_m1 gc)) b (nI k)))) d') w' (vN v) b s p := ⟨RC_d (RC_m1 t1 _) _, Kp_trans (Kp_trans t2 (kp_w gw _).1) g2, ⟨_, hM2, t4⟩, fun j hj hj2 => by rw [g4, upd_ne _ _ _ _ hj2]; exact t5 j hj hj2⟩
      refine ⟨(if q = true then z else z ||| ((1 : Int32) <<< (nI k &&& 31)), nI (k + 1), sc_d (sc_m1 gc (sM_kinds (c_m1 gc) (upd (pM_kinds (c_m1 gc)) b (nI k)))) d'), (pL_w w (28 + b), if q = true then z else z ||| ((1 : Int32) <<< (nI k &&& 31)), nI (k + 1), w'), ⟨_, _, _, rfl, rfl, hT⟩, ?_, ?_⟩
      · unfold f_X10_may_s30 f_X10_may_j77
        rw [if_neg nk, if_pos qb, lt_eq, cb, c_dm1, c_m1m1, r1, Option.bind_some, lt_eq, c_dd, c_m1d, c_m1m1, a1, Option.bind_some, nI_1]
        cases q
        · rw [if_neg (by decide), lt_eq, if_neg (by decide)]
        · rw [if_pos (by decide), if_pos rfl]
      · unfold f_X11_may_s28
        rw [if_neg nk5, i28, if_pos q28, lt_eq, c28, g1, Option.bind_some, a2]
        unfold f_X11_may_j113 f_X11_may_j127
        rw [nI_1]
        cases q
        · rw [if_neg (by decide), if_neg (by decide)]
        · rw [if_pos (by decide), if_pos rfl, Int32.or_zero]
    · obtain ⟨z, gc, gw, rfl, rfl, t1, t2, -, t5⟩ := hI
      refine ⟨(z, gc), (z, sL_w gw (upd (pL_w gw) (28 + b) (pL_w w (28 + b)))), ?_, ?_, rfl, ?_⟩
      · unfold f_X10_may_s30
        exact if_pos (show (6 : Int32) ≤ nI 6 from by decide)
      · unfold f_X11_may_s28 f_X11_may_j135
        rw [if_pos (show (5 : Int32) < nI 6 from by decide), i28, if_pos q28, lt_eq, c28]
      · refine t1 _ (rel_kp hR (Kp_trans t2 (kp_w gw _).1) (fun k hk => ?_))
        rw [wW, upd_eq]
        by_cases q2 : k = 28 + b
        · rw [if_pos q2, q2]
        · rw [if_neg q2, t5 k hk q2]
  · refine simR (x := (-2, cBad c)) (y := (-2, wRef w 0)) ?_ ?_ rfl (rel_bad hR)
    · unfold f_X10_may
      rw [isBuyer_f hn1 h8 h, Option.bind_some, if_pos rfl, refuse_bad]
      rfl
    · unfold f_X11_may
      rw [isBuyerL_f hn2 h8 h, Option.bind_some, if_pos rfl, bad_spec]
      rfl
