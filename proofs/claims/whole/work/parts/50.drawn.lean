-- ===== drawn =====
theorem tr_who {w : LSt} {v : VW} (who : Int32) (hv : VL (pL_w w) v) (h : pL_shouted w = -1) : ∃ w', f_X11_tries w who = some w' ∧ Kp w w' ∧ Ka w w' ∧ pL_w w' = pL_w w ∧ pL_shouted w' = -1 ∧ DayL w' (dayN v (paysI v) who) := by
  obtain ⟨w', h1, h2, h3, h4, h5, h6⟩ := tries_ok who hv
  have ho : ∀ b, b < vN v → vO v b < 10 := fun b hb => (hv.2.2.2.2.2.2 b hb).2.2.2.1
  rw [h, dayN_congr (q := paysI v) hv.2.2.2.2.2.1 ho (fun b hb => paySh_none ho b hb)] at h6
  exact ⟨w', h1, h2, h3, h4, h5.trans h, h6⟩
def TD (c0 : CSt) (w0 : LSt) (c : CSt) (w : LSt) (v : VW) : Prop := RC c0 c ∧ c_m0 c = c_m0 c0 ∧ PD (c_d c) v (paysI v) (vN v) ∧ Kp w0 w ∧ pL_w w = pL_w w0 ∧ pL_shouted w = -1
theorem s_drawn : sim_drawn Rel := by
  intro c w hR a1 a2 a3
  by_cases hc : inR a1.toInt 0 999999 ∧ inR a2.toInt 0 30 ∧ inR a3.toInt 0 100
  · obtain ⟨h1, h2, h3⟩ := hc
    obtain ⟨v, s, p, hN⟩ := rel_now hR
    have hn1 := hN.1.2.2.2.2.1
    have hn2 := hN.2.1.2.2.2.2.1
    have h8 := hN.1.2.2.2.2.2.1
    obtain ⟨d0, p1, p2⟩ := plan_spec (c_d c) hN.1
    obtain ⟨k1, k2, k3, k4, k5⟩ := kp_sh w (-1)
    have y1 := within_t (a := a2) (b := 0) (c := 30) h2
    have y2 := inI_t (a := a2) (b := 0) (c := 30) h2
    obtain ⟨n, hn, -, rfl⟩ := of_inR h2
    have e1 : ∀ X, lp (f_X10_drawn_s58 a1 (nI n) a3) 1000 (a1.toInt64, (0 : Int32), (0 : Int32), sc_d c d0) = X → f_X10_drawn c a1 (nI n) a3 = X := by
      intro X hX
      unfold f_X10_drawn
      rw [within_t h1, Option.bind_some, if_neg one0, y1, Option.bind_some, if_neg one0, within_t h3, Option.bind_some, if_neg one0, p1, Option.bind_some, lt_eq]
      exact hX
    have e2 : ∀ X, lp (f_X11_drawn_s56 a1 (nI n) a3) 1000 (a1.toInt64, (0 : Int32), (0 : Int32), sL_shouted w (-1)) = X → f_X11_drawn w a1 (nI n) a3 = X := by
      intro X hX
      unfold f_X11_drawn
      rw [inI_t h1, Option.bind_some, if_neg one0, y2, Option.bind_some, if_neg one0, inI_t h3, Option.bind_some, if_neg one0, lt_eq]
      exact hX
    have hP : (fun oc ol => ∃ (x : Int32 × CSt) (y : Int32 × LSt), oc = some x ∧ ol = some y ∧ x.1 = y.1 ∧ Rel x.2 y.2) (lp (f_X10_drawn_s58 a1 (nI n) a3) 1000 (a1.toInt64, (0 : Int32), (0 : Int32), sc_d c d0)) (lp (f_X11_drawn_s56 a1 (nI n) a3) 1000 (a1.toInt64, (0 : Int32), (0 : Int32), sL_shouted w (-1))) := ?_
    · obtain ⟨x, y, q1, q2, q3, q4⟩ := hP
      exact ⟨x, y, e1 _ q1, e2 _ q2, q3, q4⟩
    refine lp_two0 (sC := f_X10_drawn_s58 a1 (nI n) a3) (sL := f_X11_drawn_s56 a1 (nI n) a3) (fun k a b => ∃ q x gc gw, a = (q, x, nI k, gc) ∧ b = (q, x, nI k, gw) ∧ TD c w gc gw v) n (by omega) (P := fun oc ol => ∃ (x : Int32 × CSt) (y : Int32 × LSt), oc = some x ∧ ol = some y ∧ x.1 = y.1 ∧ Rel x.2 y.2) ?_ (fun k a b K K' hk hI => ?_) (fun a b K K' hI => ?_)
    · exact ⟨_, _, _, _, rfl, rfl, RC_d (fun _ h => h) d0, rfl, p2, k1, k3, k4⟩
    · obtain ⟨q, x, gc, gw, rfl, rfl, hT⟩ := hI
      have nk : ¬ nI n ≤ nI k := by
        rw [le_nI (by omega) (by omega)]
        omega
      have e3 : f_X10_drawn_s58 a1 (nI n) a3 K (q, x, nI k, gc) = lp (f_X10_drawn_s70 a1 (nI n) a3 K) 1000 (q, x, nI k, (0 : Int32), (0 : Int32), gc) := by
        unfold f_X10_drawn_s58
        exact if_neg nk
      have e4 : f_X11_drawn_s56 a1 (nI n) a3 K' (q, x, nI k, gw) = lp (f_X11_drawn_s68 a1 (nI n) a3 K') 1000 (q, x, nI k, (0 : Int32), (0 : Int32), gw) := by
        unfold f_X11_drawn_s56
        exact if_neg nk
      rw [e3, e4]
      obtain ⟨t1, t2, t3, t4, t5, t6⟩ := hT
      have z1 : pM_size (c_m0 gc) = nI (vN v) := by rw [t2]; exact hn1
      have z2 : pL_w gw 3 = nI (vN v) := by rw [t5]; exact hn2
      refine lp_two0 (sC := f_X10_drawn_s70 a1 (nI n) a3 K) (sL := f_X11_drawn_s68 a1 (nI n) a3 K') (fun i a b => ∃ q who, a = (q, x, nI k, who, nI i, gc) ∧ b = (q, x, nI k, who, nI i, gw)) (vN v) (by omega) (P := fun oc ol => ∃ a' b', (∃ q x gc gw, a' = (q, x, nI (k + 1), gc) ∧ b' = (q, x, nI (k + 1), gw) ∧ TD c w gc gw v) ∧ oc = K a' ∧ ol = K' b') ?_ (fun i a b J J' hi hI => ?_) (fun a b J J' hI => ?_)
      · exact ⟨q, 0, rfl, rfl⟩
      · obtain ⟨q, who, rfl, rfl⟩ := hI
        have ni : ¬ nI (vN v) ≤ nI i := by
          rw [le_nI (by omega) (by omega)]
          omega
        have ni8 : ¬ (8 : Int32) ≤ nI i := by
          rw [i_8, le_nI (by omega) (by omega)]
          omega
        have eC : ∀ Y, (if 0 ≤ (lg_cmp (((q * (1103515245 : Int64) + (12345 : Int64) - (q * (1103515245 : Int64) + (12345 : Int64)) / (2147483648 : Int64) * (2147483648 : Int64)) / (65536 : Int64)) - ((q * (1103515245 : Int64) + (12345 : Int64) - (q * (1103515245 : Int64) + (12345 : Int64)) / (2147483648 : Int64) * (2147483648 : Int64)) / (65536 : Int64)) / (100 : Int64) * (100 : Int64)) a3.toInt64) then J (q * (1103515245 : Int64) + (12345 : Int64) - (q * (1103515245 : Int64) + (12345 : Int64)) / (2147483648 : Int64) * (2147483648 : Int64), x, nI k, who, nI (i + 1), gc) else J (q * (1103515245 : Int64) + (12345 : Int64) - (q * (1103515245 : Int64) + (12345 : Int64)) / (2147483648 : Int64) * (2147483648 : Int64), x, nI k, who ||| ((1 : Int32) <<< (nI i &&& 31)), nI (i + 1), gc)) = Y → f_X10_drawn_s70 a1 (nI n) a3 K J (q, x, nI k, who, nI i, gc) = Y := by
          intro Y hY
          unfold f_X10_drawn_s70 f_X10_drawn_j130
          dsimp only
          rw [z1, if_neg ni, if_neg ni8, lt_eq, lt_eq, nI_1]
          exact hY
        have eL : ∀ Y, (if 0 ≤ (lg_cmp (((q * (1103515245 : Int64) + (12345 : Int64) - (q * (1103515245 : Int64) + (12345 : Int64)) / (2147483648 : Int64) * (2147483648 : Int64)) / (65536 : Int64)) - ((q * (1103515245 : Int64) + (12345 : Int64) - (q * (1103515245 : Int64) + (12345 : Int64)) / (2147483648 : Int64) * (2147483648 : Int64)) / (65536 : Int64)) / (100 : Int64) * (100 : Int64)) a3.toInt64) then J' (q * (1103515245 : Int64) + (12345 : Int64) - (q * (1103515245 : Int64) + (12345 : Int64)) / (2147483648 : Int64) * (2147483648 : Int64), x, nI k, who, nI (i + 1), gw) else J' (q * (1103515245 : Int64) + (12345 : Int64) - (q * (1103515245 : Int64) + (12345 : Int64)) / (2147483648 : Int64) * (2147483648 : Int64), x, nI k, who ||| ((1 : Int32) <<< (nI i &&& 31)), nI (i + 1), gw)) = Y → f_X11_drawn_s68 a1 (nI n) a3 K' J' (q, x, nI k, who, nI i, gw) = Y := by
          intro Y hY
          unfold f_X11_drawn_s68 f_X11_drawn_j121
          dsimp only
          rw [if_pos (by decide), show (3 : Int32).toNatClampNeg = 3 from rfl, z2, if_neg ni, lt_eq, nI_1, Int32.or_zero]
          exact hY
        by_cases tt : 0 ≤ (lg_cmp (((q * (1103515245 : Int64) + (12345 : Int64) - (q * (1103515245 : Int64) + (12345 : Int64)) / (2147483648 : Int64) * (2147483648 : Int64)) / (65536 : Int64)) - ((q * (1103515245 : Int64) + (12345 : Int64) - (q * (1103515245 : Int64) + (12345 : Int64)) / (2147483648 : Int64) * (2147483648 : Int64)) / (65536 : Int64)) / (100 : Int64) * (100 : Int64)) a3.toInt64)
        · exact ⟨_, _, ⟨_, _, rfl, rfl⟩, eC _ (if_pos tt), eL _ (if_pos tt)⟩
        · exact ⟨_, _, ⟨_, _, rfl, rfl⟩, eC _ (if_neg tt), eL _ (if_neg tt)⟩
      · obtain ⟨q, who, rfl, rfl⟩ := hI
        have hv1 : VC (c_m0 gc) v := by rw [t2]; exact hN.1
        obtain ⟨d', r1, r2, r3⟩ := walk_spec who hv1 hN.2.2.1 t3
        obtain ⟨w', g1, g2, g3, g4, g5, g6⟩ := tr_who who (w := gw) (v := v) (by rw [t5]; exact hN.2.1) t6
        refine ⟨(q, x + pD_takings d', nI (k + 1), sc_d gc d'), (q, x + pD_takings d', nI (k + 1), w'), ⟨_, _, _, _, rfl, rfl, RC_d t1 _, t2, r2, Kp_trans t4 g2, g4.trans t5, g5⟩, ?_, ?_⟩
        · unfold f_X10_drawn_s70 f_X10_drawn_j136
          dsimp only
          rw [z1, if_pos (Int32.le_refl _), r1, Option.bind_some, lt_eq, lt_eq, c_dd, nI_1]
        · unfold f_X11_drawn_s68 f_X11_drawn_j130
          dsimp only
          rw [if_pos (by decide), show (3 : Int32).toNatClampNeg = 3 from rfl, z2, if_pos (Int32.le_refl _), g1, Option.bind_some, nI_1, g6.2.1, r3.2.1]
    · obtain ⟨q, x, gc, gw, rfl, rfl, t1, t2, t3, t4, t5, t6⟩ := hI
      refine ⟨(x, gc), (x, gw), ?_, ?_, rfl, t1 _ (rel_kp hR t4 (fun k _ => by rw [t5]))⟩
      · unfold f_X10_drawn_s58
        exact if_pos (Int32.le_refl _)
      · unfold f_X11_drawn_s56
        exact if_pos (Int32.le_refl _)
  · refine simR (x := (-2, cBad c)) (y := (-2, wRef w 0)) ?_ ?_ rfl (rel_bad hR)
    · unfold f_X10_drawn f_X10_drawn_j30
      rcases inR_dec a1.toInt 0 999999 with h1 | h1
      · rw [within_t h1, Option.bind_some, if_neg one0]
        rcases inR_dec a2.toInt 0 30 with h2 | h2
        · rw [within_t h2, Option.bind_some, if_neg one0, within_f (fun e => hc ⟨h1, h2, e⟩), Option.bind_some, if_pos rfl, refuse_bad]
          rfl
        · rw [within_f h2, Option.bind_some, if_pos rfl, refuse_bad]
          rfl
      · rw [within_f h1, Option.bind_some, if_pos rfl, refuse_bad]
        rfl
    · unfold f_X11_drawn f_X11_drawn_j36
      rcases inR_dec a1.toInt 0 999999 with h1 | h1
      · rw [inI_t h1, Option.bind_some, if_neg one0]
        rcases inR_dec a2.toInt 0 30 with h2 | h2
        · rw [inI_t h2, Option.bind_some, if_neg one0, inI_f (fun e => hc ⟨h1, h2, e⟩), Option.bind_some, if_pos rfl, bad_spec]
          rfl
        · rw [inI_f h2, Option.bind_some, if_pos rfl, bad_spec]
          rfl
      · rw [inI_f h1, Option.bind_some, if_pos rfl, bad_spec]
        rfl
