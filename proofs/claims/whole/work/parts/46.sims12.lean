-- ===== come, may =====
theorem rm_kind1 {u : MSt} {f : Nat → Int32} {v : VW} {s p b k : Nat} (hb : b < vN v) (hk : k < 6) (hr : RM u f v s p) : RM (sM_kinds u (upd (pM_kinds u) b (nI k))) (upd f (28 + b) (nI k)) (vP v, vT v, vR v, vH v, vU v, vN v, (fun j => if j = b then k else vK v j), vO v, vW v, vA v) s p := by
  have h8 := hr.1.2.2.2.2.2.1
  have hc := hr.1.2.2.2.2.2.2
  have hl := hr.2.1.2.2.2.2.2.2
  have e : sM_totalThrown (sM_totalTakings (sM_kinds u (upd (pM_kinds u) b (nI k))) (pM_totalTakings u)) (pM_totalThrown u) = sM_kinds u (upd (pM_kinds u) b (nI k)) := by
    obtain ⟨u_0, u_1, u_2, u_3, u_4, u_5, u_6, u_7, u_8, u_9, u_10, u_11, u_12, u_13, u_14, u_15, u_16⟩ := u
    simp only [sM_punnets_mk, sM_heat_mk, sM_rainHours_mk, sM_size_mk, sM_totalTakings_mk, sM_totalThrown_mk, sM_soldSize_mk, sM_pastSize_mk, sM_prices_mk, sM_theirPrices_mk, sM_kinds_mk, sM_hours_mk, sM_worths_mk, sM_wants_mk, sM_soldHours_mk, sM_soldNumbers_mk, sM_past_mk, pM_punnets, pM_heat, pM_rainHours, pM_size, pM_totalTakings, pM_totalThrown, pM_soldSize, pM_pastSize, pM_prices, pM_theirPrices, pM_kinds, pM_hours, pM_worths, pM_wants, pM_soldHours, pM_soldNumbers, pM_past]
  have b1 : pM_totalTakings u = f 4 := hr.2.2.2.1
  have b2 : pM_totalThrown u = f 5 := hr.2.2.2.2.1
  rw [← e]
  refine rm_kinds (fun j hj => ?_) ?_ ?_ (fun j hj h4 h5 h28 => ?_) hr
  · show (if j = b then k else vK v j) < 6 ∧ upd (pM_kinds u) b (nI k) j = nI (if j = b then k else vK v j) ∧ upd f (28 + b) (nI k) (28 + j) = nI (if j = b then k else vK v j)
    by_cases c : j = b
    · rw [if_pos c, c, upd_at, upd_at]
      exact ⟨hk, rfl, rfl⟩
    · rw [if_neg c, upd_ne _ _ _ _ c, upd_ne _ _ _ _ (by omega)]
      exact ⟨(hc j hj).2.1, (hc j hj).1, (hl j hj).1⟩
  · rw [upd_ne _ _ _ _ (by omega)]; exact b1
  · rw [upd_ne _ _ _ _ (by omega)]; exact b2
  · rw [upd_ne _ _ _ _ (by omega)]
theorem rm_hour1 {u : MSt} {f : Nat → Int32} {v : VW} {s p b o : Nat} (hb : b < vN v) (ho : o < 10) (hr : RM u f v s p) : RM (sM_hours u (upd (pM_hours u) b (nI o))) (upd f (36 + b) (nI o)) (vP v, vT v, vR v, vH v, vU v, vN v, vK v, (fun j => if j = b then o else vO v j), vW v, vA v) s p := by
  obtain ⟨⟨cp, cr, ch, cu, cn, c8, cb⟩, ⟨l1, l2, l3, l4, l5, l6, l7⟩, ⟨bp, b0, b1, bb⟩, hx⟩ := hr
  obtain ⟨u_0, u_1, u_2, u_3, u_4, u_5, u_6, u_7, u_8, u_9, u_10, u_11, u_12, u_13, u_14, u_15, u_16⟩ := u
  refine ⟨⟨cp, cr, ch, cu, cn, c8, fun j hj => ?_⟩, ⟨fun k hk => ?_, ?_, ?_, ?_, ?_, l6, fun j hj => ?_⟩, ⟨bp, b0, b1, fun j hj => ?_⟩, RX_congr c8 (fun k hk hk2 => (upd_ne _ _ _ _ (by omega)).symm) hx⟩
  · obtain ⟨q1, q2, q3, q4, q5, q6⟩ := cb j hj
    refine ⟨q1, q2, ?_, ?_, q5, q6⟩
    · show upd u_11 b (nI o) j = nI (if j = b then o else vO v j)
      rw [upd_eq]
      by_cases c : j = b
      · rw [if_pos c, if_pos c]
      · rw [if_neg c, if_neg c]; exact q3
    · show (if j = b then o else vO v j) < 10
      by_cases c : j = b
      · rw [if_pos c]; exact ho
      · rw [if_neg c]; exact q4
  · rw [upd_ne _ _ _ _ (by omega), upd_ne _ _ _ _ (by omega)]; exact l1 k hk
  · rw [upd_ne _ _ _ _ (by omega)]; exact l2
  · rw [upd_ne _ _ _ _ (by omega)]; exact l3
  · rw [upd_ne _ _ _ _ (by omega)]; exact l4
  · rw [upd_ne _ _ _ _ (by omega)]; exact l5
  · have hj2 : j < vN v := hj
    have hb2 : b < vN v := hb
    have h8 : vN v ≤ 8 := l6
    obtain ⟨q1, q2, q3, q4, q5, q6⟩ := l7 j hj2
    refine ⟨?_, q2, ?_, ?_, ?_, ?_⟩
    · rw [upd_ne _ _ _ _ (by omega)]; exact q1
    · show upd f (36 + b) (nI o) (36 + j) = nI (if j = b then o else vO v j)
      rw [upd_eq]
      by_cases c : j = b
      · rw [if_pos c, if_pos (by omega)]
      · rw [if_neg c, if_neg (by omega)]; exact q3
    · show (if j = b then o else vO v j) < 10
      by_cases c : j = b
      · rw [if_pos c]; exact ho
      · rw [if_neg c]; exact q4
    · rw [upd_ne _ _ _ _ (by omega)]; exact q5
    · rw [upd_ne _ _ _ _ (by omega)]; exact q6
  · show (if j = b then o else vO v j) < 10 ∧ _
    by_cases c : j = b
    · rw [if_pos c]; exact ⟨ho, (bb j hj).2⟩
    · rw [if_neg c]; exact bb j hj
def TCm (c0 : CSt) (w0 : LSt) (c : CSt) (w : LSt) (n b s p : Nat) : Prop := (∃ v, Tr c0 w0 c w v s p ∧ vN v = n) ∧ ∀ k, k < 456 → k ≠ 28 + b → k ≠ 36 + b → pL_w w k = pL_w w0 k
theorem come_step {c0 gc : CSt} {w0 gw : LSt} {n b s p h : Nat} (hb : b < n) (hh : h < 10) (hT : TCm c0 w0 gc gw n b s p) : ∃ d' w', f_X2_run (c_d gc) (sM_hours (c_m1 gc) (upd (pM_hours (c_m1 gc)) b (nI h))) = some d' ∧ f_X11_tries (sL_w gw (upd (pL_w gw) (36 + b) (nI h))) 255 = some w' ∧ TCm c0 w0 (sc_d (sc_m1 gc (sM_hours (c_m1 gc) (upd (pM_hours (c_m1 gc)) b (nI h)))) d') w' n b s p ∧ pD_got d' b = pL_gets w' b ∧ ∀ k, k < 10 → pM_prices (sM_hours (c_m1 gc) (upd (pM_hours (c_m1 gc)) b (nI h))) k = pL_w w' (8 + k) := by
  obtain ⟨⟨v, ⟨h1, h2, h3, h4⟩, rfl⟩, hf⟩ := hT
  have h8 := h4.1.2.2.2.2.2.1
  have hM := rm_hour1 hb hh h4
  have hT2 : Tr c0 w0 (sc_m1 gc (sM_hours (c_m1 gc) (upd (pM_hours (c_m1 gc)) b (nI h)))) (sL_w gw (upd (pL_w gw) (36 + b) (nI h))) _ s p := ⟨RC_m1 h1 _, Kp_trans h2 (kp_w gw _).1, (sh_w gw _).trans h3, hM⟩
  obtain ⟨d', w', r1, r2, r3, r4, r5, r6, r7⟩ := tr_run hT2
  rw [wW] at r5
  refine ⟨d', w', r1, r2, ⟨⟨_, r3, rfl⟩, fun k hk k1 k2 => ?_⟩, (r6.2.2.2.2 b (by omega)).1.trans (r7.2.2.2.2 b (by omega)).1.symm, fun k hk => ?_⟩
  · rw [r5, upd_ne _ _ _ _ k2]
    exact hf k hk k1 k2
  · rw [r5]
    exact (pr_eq hM k hk).1
theorem s_come : sim_come Rel := by
  intro c w hR a1
  obtain ⟨k1, k2, k3, k4, k5⟩ := kp_sh w (-1)
  obtain ⟨u, v, s, p, b1, b2, b3⟩ := tr_begin hR k1 k3 k4
  have hn1 := b3.1.2.2.2.2.1
  have hn2 := b3.2.1.2.2.2.2.1
  have h8 := b3.1.2.2.2.2.2.1
  rcases inR_dec a1.toInt 0 ((vN v : Int) - 1) with h | h
  · have y1 := isBuyer_t (c := c) hn1 h8 h
    have y2 := isBuyerL_t (w := w) hn2 h8 h
    obtain ⟨b, hb, hb2, rfl⟩ := of_inR h
    have hb3 : b < vN v := by omega
    have hb8 : b < 8 := by omega
    have i28 : (28 : Int32) + nI b = nI (28 + b) := nI_add 28 b
    have i36 : (36 : Int32) + nI b = nI (36 + b) := nI_add 36 b
    have q28 : inb (nI (28 + b)) 608 := (inb_nI (by omega)).mpr (by omega)
    have q36 : inb (nI (36 + b)) 608 := (inb_nI (by omega)).mpr (by omega)
    have qb : inb (nI b) 8 := (inb_nI (by omega)).mpr hb8
    have cb : (nI b).toNatClampNeg = b := cl_nI (by omega)
    have c28 : (nI (28 + b)).toNatClampNeg = 28 + b := cl_nI (by omega)
    have c36 : (nI (36 + b)).toNatClampNeg = 36 + b := cl_nI (by omega)
    have hM := rm_kind1 (k := 0) hb3 (by omega) b2.2.2.2
    rw [k3] at hM
    have hT0 : TCm c w (sc_m1 (sc_m1 c u) (sM_kinds u (upd (pM_kinds u) b (nI 0)))) (sL_w (sL_shouted w (-1)) (upd (pL_w w) (28 + b) (nI 0))) (vN v) b s p := by
      refine ⟨⟨_, ⟨RC_m1 b2.1 _, Kp_trans b2.2.1 (kp_w _ _).1, (sh_w _ _).trans k4, hM⟩, rfl⟩, fun k hk q1 q2 => ?_⟩
      rw [wW, upd_ne _ _ _ _ q1]
    have e1 : ∀ X, lp (f_X10_come_s43 (nI b)) 1000 ((0 : Int32), (-1 : Int32), (0 : Int32), sc_m1 (sc_m1 c u) (sM_kinds u (upd (pM_kinds u) b (nI 0)))) = X → f_X10_come c (nI b) = X := by
      intro X hX
      unfold f_X10_come
      rw [y1, Option.bind_some, if_neg one0, b1, Option.bind_some, lt_eq, if_pos qb, lt_eq, c_m1m1, cb]
      exact hX
    have e2 : ∀ X, lp (f_X11_come_s57 (nI b)) 1000 (pL_w w (28 + b), pL_w w (36 + b), (0 : Int32), (-1 : Int32), (0 : Int32), sL_w (sL_shouted w (-1)) (upd (pL_w w) (28 + b) (nI 0))) = X → f_X11_come w (nI b) = X := by
      intro X hX
      unfold f_X11_come
      rw [y2, Option.bind_some, if_neg one0, i28, i36, if_pos q28, lt_eq, if_pos q36, lt_eq, lt_eq, if_pos q28, lt_eq, k3, c28, c36]
      exact hX
    have hP : (fun oc ol => ∃ (x : Int32 × CSt) (y : Int32 × LSt), oc = some x ∧ ol = some y ∧ x.1 = y.1 ∧ Rel x.2 y.2) (lp (f_X10_come_s43 (nI b)) 1000 ((0 : Int32), (-1 : Int32), (0 : Int32), sc_m1 (sc_m1 c u) (sM_kinds u (upd (pM_kinds u) b (nI 0))))) (lp (f_X11_come_s57 (nI b)) 1000 (pL_w w (28 + b), pL_w w (36 + b), (0 : Int32), (-1 : Int32), (0 : Int32), sL_w (sL_shouted w (-1)) (upd (pL_w w) (28 + b) (nI 0)))) := ?_
    · obtain ⟨x, y, q1, q2, q3, q4⟩ := hP
      exact ⟨x, y, e1 _ q1, e2 _ q2, q3, q4⟩
    refine lp_two0 (sC := f_X10_come_s43 (nI b)) (sL := f_X11_come_s57 (nI b)) (fun k a b' => ∃ o z gc gw, o < 10 ∧ a = (nI o, z, nI k, gc) ∧ b' = (pL_w w (28 + b), pL_w w (36 + b), nI o, z, nI k, gw) ∧ TCm c w gc gw (vN v) b s p) 10 (by omega) (P := fun oc ol => ∃ (x : Int32 × CSt) (y : Int32 × LSt), oc = some x ∧ ol = some y ∧ x.1 = y.1 ∧ Rel x.2 y.2) ?_ (fun k a b' K K' hk hI => ?_) (fun a b' K K' hI => ?_)
    · exact ⟨0, -1, _, _, by omega, rfl, rfl, hT0⟩
    · obtain ⟨o, z, gc, gw, ho, rfl, rfl, hT⟩ := hI
      obtain ⟨d', w', r1, r2, r3, r4, r5⟩ := come_step hb3 hk hT
      have nk : ¬ (10 : Int32) ≤ nI k := by
        rw [i_10, le_nI (by omega) (by omega)]
        omega
      have i8k : (8 : Int32) + nI k = nI (8 + k) := nI_add 8 k
      have i8o : (8 : Int32) + nI o = nI (8 + o) := nI_add 8 o
      have q8k : inb (nI (8 + k)) 608 := (inb_nI (by omega)).mpr (by omega)
      have q8o : inb (nI (8 + o)) 608 := (inb_nI (by omega)).mpr (by omega)
      have c8k : (nI (8 + k)).toNatClampNeg = 8 + k := cl_nI (by omega)
      have c8o : (nI (8 + o)).toNatClampNeg = 8 + o := cl_nI (by omega)
      have ck : (nI k).toNatClampNeg = k := cl_nI (by omega)
      have g1 := r5 k hk
      have g2 := r5 o ho
      generalize hU : sM_hours (c_m1 gc) (upd (pM_hours (c_m1 gc)) b (nI k)) = U at r1 r3 r5 g1 g2
      have eC : ∀ Y, (if z < pL_gets w' b ∨ pL_gets w' b = z ∧ ¬ pL_w w' (8 + o) ≤ pL_w w' (8 + k) then K (nI k, pL_gets w' b, nI (k + 1), sc_d (sc_m1 gc U) d') else K (nI o, z, nI (k + 1), sc_d (sc_m1 gc U) d')) = Y → f_X10_come_s43 (nI b) K (nI o, z, nI k, gc) = Y := by
        intro Y hY
        unfold f_X10_come_s43 f_X10_come_j108 f_X10_come_j127 f_X10_come_j133
        rw [if_neg nk, if_pos qb, lt_eq, cb, hU, c_dm1, c_m1m1, r1, Option.bind_some, lt_eq, if_pos qb, lt_eq, c_dd, c_m1d, c_m1m1, priceIn_spec hk, Option.bind_some, priceIn_spec ho, Option.bind_some, g1, g2, r4, nI_1, ← hY]
        by_cases t1 : z < pL_gets w' b
        · rw [if_pos (Or.inl t1), if_pos t1, if_pos t1, ite_self]
        · rw [if_neg t1, if_neg t1]
          by_cases t2 : pL_gets w' b = z
          · rw [if_pos t2, if_pos t2]
            by_cases t3 : pL_w w' (8 + o) ≤ pL_w w' (8 + k)
            · rw [if_pos t3, if_pos rfl, if_neg (fun e => e.elim t1 (fun e => e.2 t3))]
            · rw [if_neg t3, if_neg one0, if_pos (Or.inr ⟨t2, t3⟩)]
          · rw [if_neg t2, if_neg t2, ite_self, if_neg (fun e => e.elim t1 (fun e => t2 e.1))]
      have eL : ∀ Y, (if z < pL_gets w' b ∨ pL_gets w' b = z ∧ ¬ pL_w w' (8 + o) ≤ pL_w w' (8 + k) then K' (pL_w w (28 + b), pL_w w (36 + b), nI k, pL_gets w' b, nI (k + 1), w') else K' (pL_w w (28 + b), pL_w w (36 + b), nI o, z, nI (k + 1), w')) = Y → f_X11_come_s57 (nI b) K' (pL_w w (28 + b), pL_w w (36 + b), nI o, z, nI k, gw) = Y := by
        intro Y hY
        have jt : f_X11_come_j127 (nI b) K' (pL_w w (28 + b)) (pL_w w (36 + b)) (nI o) z (nI k) w' = K' (pL_w w (28 + b), pL_w w (36 + b), nI k, pL_gets w' b, nI (k + 1), w') := by
          unfold f_X11_come_j127 f_X11_come_j132 f_X11_come_j146 f_X11_come_j164
          rw [if_neg one0, if_neg one0, if_pos qb, cb, nI_1]
        have jf : f_X11_come_j131 (nI b) K' (pL_w w (28 + b)) (pL_w w (36 + b)) (nI o) z (nI k) w' = K' (pL_w w (28 + b), pL_w w (36 + b), nI o, z, nI (k + 1), w') := by
          unfold f_X11_come_j131 f_X11_come_j132 f_X11_come_j146 f_X11_come_j164
          rw [if_pos rfl, if_pos rfl, nI_1]
        unfold f_X11_come_s57
        rw [if_neg nk, i36, if_pos q36, lt_eq, c36, r2, Option.bind_some, if_pos qb, if_pos qb, cb, i8k, i8o, if_pos q8k, if_pos q8o, c8k, c8o, jt, jf, ← hY]
        by_cases t1 : z < pL_gets w' b
        · rw [if_pos (Or.inl t1), if_pos t1]
        · rw [if_neg t1]
          by_cases t2 : pL_gets w' b = z
          · rw [if_pos t2]
            by_cases t3 : pL_w w' (8 + o) ≤ pL_w w' (8 + k)
            · rw [if_pos t3, if_neg (fun e => e.elim t1 (fun e => e.2 t3))]
            · rw [if_neg t3, if_pos (Or.inr ⟨t2, t3⟩)]
          · rw [if_neg t2, if_neg (fun e => e.elim t1 (fun e => t2 e.1))]
      by_cases tt : z < pL_gets w' b ∨ pL_gets w' b = z ∧ ¬ pL_w w' (8 + o) ≤ pL_w w' (8 + k)
      · exact ⟨_, _, ⟨k, _, _, _, hk, rfl, rfl, r3⟩, eC _ (if_pos tt), eL _ (if_pos tt)⟩
      · exact ⟨_, _, ⟨o, _, _, _, ho, rfl, rfl, r3⟩, eC _ (if_neg tt), eL _ (if_neg tt)⟩
    · obtain ⟨o, z, gc, gw, ho, rfl, rfl, ⟨v', hT, hv'⟩, hf⟩ := hI
      refine ⟨(nI o, gc), (nI o, sL_w gw (upd (upd (pL_w gw) (28 + b) (pL_w w (28 + b))) (36 + b) (pL_w w (36 + b)))), ?_, ?_, rfl, ?_⟩
      · unfold f_X10_come_s43
        exact if_pos (show (10 : Int32) ≤ nI 10 from by decide)
      · unfold f_X11_come_s57 f_X11_come_j172
        rw [if_pos (show (10 : Int32) ≤ nI 10 from by decide), i28, if_pos q28, lt_eq, i36, if_pos q36, lt_eq, wW, wWW, c28, c36]
      · refine hT.1 _ (rel_kp hR (Kp_trans hT.2.1 (kp_w gw _).1) (fun k hk => ?_))
        rw [wW, upd_eq, upd_eq]
        by_cases q1 : k = 36 + b
        · rw [if_pos q1, q1]
        · rw [if_neg q1]
          by_cases q2 : k = 28 + b
          · rw [if_pos q2, q2]
          · rw [if_neg q2, hf k hk q2 q1]
  · refine simR (x := (-2, cBad c)) (y := (-2, wRef w 0)) ?_ ?_ rfl (rel_bad hR)
    · unfold f_X10_come
      rw [isBuyer_f hn1 h8 h, Option.bind_some, if_pos rfl, refuse_bad]
      rfl
    · unfold f_X11_come
      rw [isBuyerL_f hn2 h8 h, Option.bind_some, if_pos rfl, bad_spec]
      rfl
