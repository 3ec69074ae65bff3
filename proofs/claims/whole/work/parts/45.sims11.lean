-- ===== brings =====
theorem PD_U {d : DSt} {v : VW} {k : Nat} (a : Int32) (h : PD d v (paysI v) k) : PD d (vP v, vT v, vR v, vH v, a, vN v, vK v, vO v, vW v, vA v) (paysI (vP v, vT v, vR v, vH v, a, vN v, vK v, vO v, vW v, vA v)) k := h
theorem fold_0 {v : VW} {pay : Nat → Int32} {who : Int32} (hB : VBd v) : ∀ (l : List Nat) (x : DYS), (∀ b ∈ l, b < vN v) → xL x = 0 → xT x = 0 → xT (l.foldl (stepG v pay who) x) = 0
  | [], x, _, _, h => h
  | b :: l, x, hm, h1, h2 => by
    have hb := hm b (List.mem_cons_self ..)
    obtain ⟨a0, a1, a2⟩ := hB.2.2.2 b hb
    obtain ⟨t1, t2⟩ := takes_bd a1 a2
    have hs : xL (sellM v pay x b) = 0 ∧ xT (sellM v pay x b) = 0 := by
      unfold sellM
      by_cases q : pay b < vP v (hourN v b)
      · rw [if_pos q]; exact ⟨h1, h2⟩
      · rw [if_neg q, lt_eq, h1, h2]
        have c : (0 : Int32) ≤ takesI v b := Int32.le_iff_toInt_le.mpr (by rw [ti_0]; omega)
        rw [if_pos c]
        exact ⟨Int32.sub_self 0, by show (0 : Int32) + 0 * vP v (hourN v b) = 0; rw [Int32.zero_mul]; rfl⟩
    have hc : xL (comesM v pay x b) = 0 ∧ xT (comesM v pay x b) = 0 := by
      unfold comesM
      by_cases c1 : vT v (hourN v b) ≤ 0
      · rw [if_pos c1]; exact hs
      · rw [if_neg c1]
        by_cases c2 : vP v (hourN v b) ≤ vT v (hourN v b)
        · rw [if_pos c2]; exact hs
        · rw [if_neg c2]
          by_cases c3 : pay b < vT v (hourN v b)
          · rw [if_pos c3]; exact hs
          · rw [if_neg c3]; exact ⟨h1, h2⟩
    have hg : xL (stepG v pay who x b) = 0 ∧ xT (stepG v pay who x b) = 0 := by
      unfold stepG
      split
      · exact hc
      · exact ⟨h1, h2⟩
    rw [List.foldl_cons]
    exact fold_0 hB l _ (fun c hc => hm c (List.mem_cons_of_mem _ hc)) hg.1 hg.2
theorem day_0 {v : VW} {pay : Nat → Int32} {who : Int32} (hB : VBd v) (h0 : vU v = 0) : xT (dayN v pay who) = 0 := by
  obtain ⟨o1, o2, o3⟩ := ord_all v (vN v) (fun c hc => hourN_lt (hB.2.2.2 c hc).1)
  rw [dayN_ord]
  exact fold_0 hB _ _ o2 h0 rfl
def TU (c0 : CSt) (w0 : LSt) (c : CSt) (w : LSt) (v : VW) (s p : Nat) : Prop := (∃ a, Tr c0 w0 c w (vP v, vT v, vR v, vH v, a, vN v, vK v, vO v, vW v, vA v) s p) ∧ PD (c_d c) v (paysI v) (vN v) ∧ ∀ k, k < 456 → k ≠ 0 → pL_w w k = pL_w w0 k
theorem sh_w (w : LSt) (f : Nat → Int32) : pL_shouted (sL_w w f) = pL_shouted w := by
  obtain ⟨w_0, w_1, w_2, w_3, w_4, w_5, w_6, w_7, w_8, w_9, w_10, w_11, w_12, w_13, w_14, w_15, w_16, w_17, w_18, w_19, w_20, w_21, w_22, w_23⟩ := w
  simp only [sL_w_mk, sL_isKept_mk, sL_text_mk, sL_texted_mk, sL_refused_mk, sL_above_mk, sL_below_mk, sL_at_mk, sL_start_mk, sL_isWord_mk, sL_isFigures_mk, sL_value_mk, sL_comers_mk, sL_shouted_mk, sL_gets_mk, sL_isServed_mk, sL_goes_mk, sL_takings_mk, sL_theirTakings_mk, sL_left_mk, sL_aside_mk, sL_own_mk, sL_other_mk, sL_h_mk, pL_w, pL_isKept, pL_text, pL_texted, pL_refused, pL_above, pL_below, pL_at, pL_start, pL_isWord, pL_isFigures, pL_value, pL_comers, pL_shouted, pL_gets, pL_isServed, pL_goes, pL_takings, pL_theirTakings, pL_left, pL_aside, pL_own, pL_other, pL_h]
theorem brings_step {c0 gc : CSt} {w0 gw : LSt} {v : VW} {s p n : Nat} (hn : n ≤ 60) (hT : TU c0 w0 gc gw v s p) : ∃ d' w', f_X2_walk (c_d gc) (sM_punnets (c_m1 gc) (nI n)) 255 = some d' ∧ f_X11_tries (sL_w gw (upd (pL_w gw) 0 (nI n))) 255 = some w' ∧ TU c0 w0 (sc_d (sc_m1 gc (sM_punnets (c_m1 gc) (nI n))) d') w' v s p ∧ pD_takings d' = pL_takings w' ∧ (n = 0 → pD_takings d' = 0) := by
  obtain ⟨⟨a, hT⟩, hP, hf⟩ := hT
  obtain ⟨h1, h2, h3, h4⟩ := hT
  have hM := rm_bring (a := nI n) ⟨by rw [ti_nI (by omega)]; omega, by rw [ti_nI (by omega)]; omega⟩ h4
  obtain ⟨d', r1, r2, r3⟩ := walk_spec 255 hM.1 hM.2.2.1 (PD_U (nI n) hP)
  obtain ⟨w', t1, t2, t3, t4, t5, t6⟩ := tr_day (w := sL_w gw (upd (pL_w gw) 0 (nI n))) (by rw [wW]; exact hM.2.1) ((sh_w gw _).trans h3)
  rw [wW] at t4
  refine ⟨d', w', r1, t1, ⟨⟨nI n, RC_d (RC_m1 h1 _) _, Kp_trans (Kp_trans h2 (kp_w gw _).1) t2, t5, ?_⟩, r2, fun k hk hk2 => ?_⟩, r3.2.1.trans t6.2.1.symm, fun e => ?_⟩
  · rw [t4]
    exact hM
  · rw [t4, upd_ne _ _ _ _ hk2]
    exact hf k hk hk2
  · subst e
    rw [r3.2.1]
    exact day_0 hM.2.2.1 rfl
theorem s_brings : sim_brings Rel := by
  intro c w hR a1
  rcases inR_dec a1.toInt 0 99 with h | h
  · obtain ⟨k1, k2, k3, k4, k5⟩ := kp_sh w (-1)
    obtain ⟨u, v, s, p, b1, b2, b3⟩ := tr_begin hR k1 k3 k4
    obtain ⟨d0, p1, p2⟩ := plan_spec (c_d c) b2.2.2.2.1
    have e1 : ∀ X, lp (f_X10_brings_s46 a1) 1000 ((0 : Int32), (0 : Int32), (0 : Int32), sc_d (sc_m1 c u) d0) = X → f_X10_brings c a1 = X := by
      intro X hX
      unfold f_X10_brings
      rw [within_t h, Option.bind_some, if_neg one0, b1, Option.bind_some, lt_eq, c_dm1, p1, Option.bind_some, lt_eq]
      exact hX
    have e2 : ∀ X, lp (f_X11_brings_s33 a1) 1000 (pL_w w 0, (0 : Int32), (-100000000 : Int32), (0 : Int32), sL_shouted w (-1)) = X → f_X11_brings w a1 = X := by
      intro X hX
      unfold f_X11_brings
      rw [isPrice_t h, Option.bind_some, if_neg one0, if_pos (by decide), lt_eq, lt_eq, show (0 : Int32).toNatClampNeg = 0 from rfl]
      exact hX
    have hP : (fun oc ol => ∃ (x : Int32 × CSt) (y : Int32 × LSt), oc = some x ∧ ol = some y ∧ x.1 = y.1 ∧ Rel x.2 y.2) (lp (f_X10_brings_s46 a1) 1000 ((0 : Int32), (0 : Int32), (0 : Int32), sc_d (sc_m1 c u) d0)) (lp (f_X11_brings_s33 a1) 1000 (pL_w w 0, (0 : Int32), (-100000000 : Int32), (0 : Int32), sL_shouted w (-1))) := ?_
    · obtain ⟨x, y, q1, q2, q3, q4⟩ := hP
      exact ⟨x, y, e1 _ q1, e2 _ q2, q3, q4⟩
    refine lp_two0 (sC := f_X10_brings_s46 a1) (sL := f_X11_brings_s33 a1) (fun k a b => ∃ x z z' gc gw, a = (x, z, nI k, gc) ∧ b = (pL_w w 0, x, z', nI k, gw) ∧ TU c w gc gw v s p ∧ (k = 0 → x = 0 ∧ z = 0 ∧ z' = -100000000) ∧ (k ≠ 0 → z = z')) 61 (by omega) (P := fun oc ol => ∃ (x : Int32 × CSt) (y : Int32 × LSt), oc = some x ∧ ol = some y ∧ x.1 = y.1 ∧ Rel x.2 y.2) ?_ (fun k a b K K' hk hI => ?_) (fun a b K K' hI => ?_)
    · refine ⟨0, 0, -100000000, _, _, rfl, rfl, ⟨⟨vU v, RC_d b2.1 d0, b2.2.1, b2.2.2.1, b2.2.2.2⟩, p2, fun k _ _ => by rw [k3]⟩, fun _ => ⟨rfl, rfl, rfl⟩, fun e => absurd rfl e⟩
    · obtain ⟨x, z, z', gc, gw, rfl, rfl, hT, hk0, hk1⟩ := hI
      obtain ⟨d', w', r1, r2, r3, r4, r5⟩ := brings_step (n := k) (by omega) hT
      have nk : ¬ (60 : Int32) < nI k := by
        rw [i_60, lt_nI (by omega) (by omega)]
        omega
      have eC : f_X10_brings_s46 a1 K (x, z, nI k, gc) = K (if pD_takings d' - a1 * nI k ≤ z then x else nI k, if pD_takings d' - a1 * nI k ≤ z then z else pD_takings d' - a1 * nI k, nI (k + 1), sc_d (sc_m1 gc (sM_punnets (c_m1 gc) (nI k))) d') := by
        unfold f_X10_brings_s46 f_X10_brings_j102
        rw [if_neg nk, lt_eq, c_dm1, c_m1m1, r1, Option.bind_some, lt_eq, lt_eq, c_dd, nI_1]
        by_cases c1 : pD_takings d' - a1 * nI k ≤ z
        · rw [if_pos c1, if_pos c1, if_pos c1]
        · rw [if_neg c1, if_neg c1, if_neg c1]
      have eL : f_X11_brings_s33 a1 K' (pL_w w 0, x, z', nI k, gw) = K' (pL_w w 0, if pL_takings w' - a1 * nI k ≤ z' then x else nI k, if pL_takings w' - a1 * nI k ≤ z' then z' else pL_takings w' - a1 * nI k, nI (k + 1), w') := by
        unfold f_X11_brings_s33 f_X11_brings_j79 f_X11_brings_j94
        rw [if_neg nk, if_pos (by decide), lt_eq, show (0 : Int32).toNatClampNeg = 0 from rfl, r2, Option.bind_some, lt_eq, nI_1]
        by_cases c1 : pL_takings w' - a1 * nI k ≤ z'
        · rw [if_pos c1, if_pos c1, if_pos c1, if_pos c1]
        · rw [if_neg c1, if_neg c1, if_neg c1, if_neg c1]
      refine ⟨_, _, ?_, eC, eL⟩
      rw [← r4]
      by_cases k0 : k = 0
      · subst k0
        obtain ⟨rfl, rfl, rfl⟩ := hk0 rfl
        have ez : pD_takings d' - a1 * nI 0 = 0 := by
          rw [r5 rfl, show nI 0 = (0 : Int32) from rfl, Int32.mul_zero]
          rfl
        rw [ez, if_pos (show (0 : Int32) ≤ 0 from by decide), if_pos (show (0 : Int32) ≤ 0 from by decide), if_neg (show ¬ (0 : Int32) ≤ -100000000 from by decide), if_neg (show ¬ (0 : Int32) ≤ -100000000 from by decide)]
        exact ⟨0, 0, 0, _, _, rfl, rfl, r3, fun e => absurd e (by omega), fun _ => rfl⟩
      · rw [← hk1 k0]
        exact ⟨_, _, _, _, _, rfl, rfl, r3, fun e => absurd e (by omega), fun _ => rfl⟩
    · obtain ⟨x, z, z', gc, gw, rfl, rfl, ⟨⟨a, hT⟩, hP, hf⟩, -, -⟩ := hI
      refine ⟨(x, gc), (x, sL_w gw (upd (pL_w gw) 0 (pL_w w 0))), ?_, ?_, rfl, ?_⟩
      · unfold f_X10_brings_s46
        exact if_pos (show (60 : Int32) < nI 61 from by decide)
      · unfold f_X11_brings_s33 f_X11_brings_j102
        rw [if_pos (show (60 : Int32) < nI 61 from by decide), if_pos (by decide), lt_eq, show (0 : Int32).toNatClampNeg = 0 from rfl]
      · refine hT.1 _ (rel_kp hR (Kp_trans hT.2.1 (kp_w gw _).1) (fun k hk => ?_))
        rw [wW, upd_eq]
        by_cases c0 : k = 0
        · rw [if_pos c0, c0]
        · rw [if_neg c0, hf k hk c0]
  · refine simR (x := (-2, cBad c)) (y := (-2, wRef w 0)) ?_ ?_ rfl (rel_bad hR)
    · unfold f_X10_brings
      rw [within_f h, Option.bind_some, if_pos rfl, refuse_bad]
      rfl
    · unfold f_X11_brings
      rw [isPrice_f h, Option.bind_some, if_pos rfl, bad_spec]
      rfl
