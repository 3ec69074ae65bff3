-- ===== the plain operations =====
theorem simR {x : Int32 × CSt} {y : Int32 × LSt} {ox : Option (Int32 × CSt)} {oy : Option (Int32 × LSt)} (h1 : ox = some x) (h2 : oy = some y) (h3 : x.1 = y.1) (h4 : Rel x.2 y.2) : ∃ x y, ox = some x ∧ oy = some y ∧ x.1 = y.1 ∧ Rel x.2 y.2 := ⟨x, y, h1, h2, h3, h4⟩
theorem s_bring : sim_bring Rel := by
  intro c w hR a1
  obtain ⟨v, s, p, hN⟩ := rel_now hR
  rcases inR_dec a1.toInt 0 99 with h | h
  · refine simR (x := (pM_punnets (c_m0 c), sc_m0 c (sM_punnets (c_m0 c) a1))) (y := (pL_w w 0, sL_w w (upd (pL_w w) 0 a1))) ?_ ?_ ?_ (rel_set hR ⟨_, _, _, rm_bring h hN⟩ (fun k hk _ => (upd_ne _ _ _ _ (by omega)).symm))
    · unfold f_X10_bring
      rw [within_t h]
      simp only [Option.bind_some, lt_eq, one0, ↓reduceIte]
    · unfold f_X11_bring
      rw [isPrice_t h]
      simp only [Option.bind_some, lt_eq, one0, ↓reduceIte]
      rfl
    · exact hN.1.2.2.2.1.trans hN.2.1.2.2.2.1.symm
  · refine simR (x := (-2, cBad c)) (y := (-2, wRef w 0)) ?_ ?_ rfl (rel_bad hR)
    · unfold f_X10_bring
      rw [within_f h]
      simp only [Option.bind_some, ↓reduceIte, refuse_bad]
    · unfold f_X11_bring
      rw [isPrice_f h]
      simp only [Option.bind_some, ↓reduceIte, bad_spec]
theorem s_rain : sim_rain Rel := by
  intro c w hR a1
  obtain ⟨v, s, p, hN⟩ := rel_now hR
  rcases inR_dec a1.toInt 0 1023 with h | h
  · refine simR (x := (pM_rainHours (c_m0 c), sc_m0 c (sM_rainHours (c_m0 c) a1))) (y := (pL_w w 2, sL_w w (upd (pL_w w) 2 a1))) ?_ ?_ ?_ (rel_set hR ⟨_, _, _, rm_rain hN⟩ (fun k hk _ => (upd_ne _ _ _ _ (by omega)).symm))
    · unfold f_X10_rain
      rw [within_t h]
      simp only [Option.bind_some, lt_eq, one0, ↓reduceIte]
    · unfold f_X11_rain
      rw [inI_t h]
      simp only [Option.bind_some, lt_eq, one0, ↓reduceIte]
      rfl
    · exact hN.1.2.1.trans hN.2.1.2.1.symm
  · refine simR (x := (-2, cBad c)) (y := (-2, wRef w 0)) ?_ ?_ rfl (rel_bad hR)
    · unfold f_X10_rain
      rw [within_f h]
      simp only [Option.bind_some, ↓reduceIte, refuse_bad]
    · unfold f_X11_rain
      rw [inI_f h]
      simp only [Option.bind_some, ↓reduceIte, bad_spec]
theorem s_market : sim_market Rel := by
  intro c w hR a1 a2
  obtain ⟨v, s, p, hN⟩ := rel_now hR
  rcases inR_dec a1.toInt 0 99 with h | h
  · rcases inR_dec a2.toInt 0 9 with h2 | h2
    · have hb := begins_L w (r := 0) a1 a2 (by omega)
      have hR2 : RelN (anewM (c_m0 c) a1 a2) (beginsF 0 a1 a2 (pL_w w)) := by
        have := rm_anew (c_m0 c) (pL_w w) (h := a2) (r := 0) h
        simp only [Nat.zero_add] at this
        exact ⟨_, _, _, this⟩
      refine simR (x := (pM_size (c_m0 c), sc_m0 c (anewM (c_m0 c) a1 a2))) (y := (pL_w w 3, sL_w w (beginsF 0 a1 a2 (pL_w w)))) ?_ ?_ ?_ (rel_set hR hR2 (fun k hk _ => ?_))
      · unfold f_X10_market
        rw [within_t h, within_t h2, anew_C]
        simp only [Option.bind_some, lt_eq, one0, ↓reduceIte]
      · unfold f_X11_market
        rw [isPrice_t h, inI_t h2, show (0 : Int32) = nI 0 from rfl, hb]
        simp only [Option.bind_some, lt_eq, show ¬ ((1 : Int32) = nI 0) from by decide, ↓reduceIte]
        rfl
      · exact hN.1.2.2.2.2.1.trans hN.2.1.2.2.2.2.1.symm
      · unfold beginsF
        rw [if_neg (by omega), upd_ne _ _ _ _ (by omega), upd_ne _ _ _ _ (by omega), if_neg (by omega)]
    · refine simR (x := (-2, cBad c)) (y := (-2, wRef w 0)) ?_ ?_ rfl (rel_bad hR)
      · unfold f_X10_market f_X10_market_j20
        rw [within_t h, within_f h2]
        simp only [Option.bind_some, one0, ↓reduceIte, refuse_bad]
      · unfold f_X11_market f_X11_market_j19
        rw [isPrice_t h, inI_f h2]
        simp only [Option.bind_some, one0, ↓reduceIte, bad_spec]
  · refine simR (x := (-2, cBad c)) (y := (-2, wRef w 0)) ?_ ?_ rfl (rel_bad hR)
    · unfold f_X10_market f_X10_market_j20
      rw [within_f h]
      simp only [Option.bind_some, ↓reduceIte, refuse_bad]
    · unfold f_X11_market f_X11_market_j19
      rw [isPrice_f h]
      simp only [Option.bind_some, ↓reduceIte, bad_spec]
theorem s_price : sim_price Rel := by
  intro c w hR a1 a2
  obtain ⟨v, s, p, hN⟩ := rel_now hR
  rcases inR_dec a1.toInt 0 9 with h | h
  · rcases inR_dec a2.toInt 0 99 with h2 | h2
    · obtain ⟨k, hk, hk2, rfl⟩ := of_inR h
      have hk3 : k < 10 := by omega
      refine simR (x := (pM_prices (c_m0 c) k, sc_m0 c (sM_prices (c_m0 c) (fun j => if k ≤ j ∧ j < 10 then a2 else pM_prices (c_m0 c) j)))) (y := (pL_w w (8 + k), sL_w w (fun j => if 0 + 8 + k ≤ j ∧ j < 0 + 18 then a2 else pL_w w j))) ?_ ?_ ?_ (rel_set hR (rm_price h2 hN) (fun k hk _ => (if_neg (by omega)).symm))
      · unfold f_X10_price
        rw [isHour_t h, within_t h2, priceIn_spec hk3, setP_C _ _ (by omega)]
        simp only [Option.bind_some, lt_eq, one0, ↓reduceIte]
      · unfold f_X11_price
        rw [isHourL_t h, isPrice_t h2]
        simp only [Option.bind_some, one0, ↓reduceIte]
        rw [show (0 : Int32) = nI 0 from rfl, pricesFrom_L w a2 (by omega) (by omega)]
        simp only [i_8]
        simp (disch := omega) only [lt_eq, Option.bind_some, inb_t, cl_t, le_t, le_f, lt_t, lt_f, eq_t, eq_f, nI_add, nI_1, ↓reduceIte]
      · exact (pr_eq hN k hk3).1
    · refine simR (x := (-2, cBad c)) (y := (-2, wRef w 0)) ?_ ?_ rfl (rel_bad hR)
      · unfold f_X10_price f_X10_price_j17
        rw [isHour_t h, within_f h2]
        simp only [Option.bind_some, one0, ↓reduceIte, refuse_bad]
      · unfold f_X11_price f_X11_price_j14
        rw [isHourL_t h, isPrice_f h2]
        simp only [Option.bind_some, one0, ↓reduceIte, bad_spec]
  · refine simR (x := (-2, cBad c)) (y := (-2, wRef w 0)) ?_ ?_ rfl (rel_bad hR)
    · unfold f_X10_price f_X10_price_j17
      rw [isHour_f h]
      simp only [Option.bind_some, ↓reduceIte, refuse_bad]
    · unfold f_X11_price f_X11_price_j14
      rw [isHourL_f h]
      simp only [Option.bind_some, ↓reduceIte, bad_spec]
theorem becomes_L (w : LSt) {k : Nat} (a : Int32) (hk : k < 608) : f_X11_becomes w (nI k) a = some (pL_w w k, sL_w w (upd (pL_w w) k a)) := by
  unfold f_X11_becomes
  simp (disch := omega) only [lt_eq, Option.bind_some, inb_t, cl_t, le_t, le_f, lt_t, lt_f, eq_t, eq_f, nI_add, nI_1, ↓reduceIte]
theorem setT1_C (u : MSt) {k : Nat} (a : Int32) (hk : k < 10) : f_X3_setTheirPrice u (nI k) a = some (sM_theirPrices u (upd (pM_theirPrices u) k a)) := by
  unfold f_X3_setTheirPrice
  have e0 : (nI k < 0) = False := lt_f (b := 0) (by omega) (by omega)
  simp only [i_10]
  simp (disch := omega) only [lt_eq, Option.bind_some, inb_t, cl_t, le_t, le_f, lt_t, lt_f, eq_t, eq_f, nI_add, nI_1, ↓reduceIte, e0]
theorem s_theirs : sim_theirs Rel := by
  intro c w hR a1 a2
  obtain ⟨v, s, p, hN⟩ := rel_now hR
  rcases inR_dec a1.toInt 0 9 with h | h
  · rcases inR_dec a2.toInt 0 99 with h2 | h2
    · obtain ⟨k, hk, hk2, rfl⟩ := of_inR h
      have hk3 : k < 10 := by omega
      refine simR (x := (pM_theirPrices (c_m0 c) k, sc_m0 c (sM_theirPrices (c_m0 c) (upd (pM_theirPrices (c_m0 c)) k a2)))) (y := (pL_w w (18 + k), sL_w w (upd (pL_w w) (18 + k) a2))) ?_ ?_ ?_ (rel_set hR (rm_theirs hk3 h2 hN) (fun k hk _ => (upd_ne _ _ _ _ (by omega)).symm))
      · unfold f_X10_theirs
        rw [isHour_t h, within_t h2, theirIn_spec hk3, setT1_C _ _ hk3]
        simp only [Option.bind_some, lt_eq, one0, ↓reduceIte]
      · unfold f_X11_theirs
        rw [isHourL_t h, isPrice_t h2]
        simp only [Option.bind_some, one0, ↓reduceIte]
        rw [show (18 : Int32) = nI 18 from rfl, nI_add, becomes_L w a2 (by omega)]
        rfl
      · exact (pr_eq hN k hk3).2
    · refine simR (x := (-2, cBad c)) (y := (-2, wRef w 0)) ?_ ?_ rfl (rel_bad hR)
      · unfold f_X10_theirs f_X10_theirs_j17
        rw [isHour_t h, within_f h2]
        simp only [Option.bind_some, one0, ↓reduceIte, refuse_bad]
      · unfold f_X11_theirs f_X11_theirs_j26
        rw [isHourL_t h, isPrice_f h2]
        simp only [Option.bind_some, one0, ↓reduceIte, bad_spec]
  · refine simR (x := (-2, cBad c)) (y := (-2, wRef w 0)) ?_ ?_ rfl (rel_bad hR)
    · unfold f_X10_theirs f_X10_theirs_j17
      rw [isHour_f h]
      simp only [Option.bind_some, ↓reduceIte, refuse_bad]
    · unfold f_X11_theirs f_X11_theirs_j26
      rw [isHourL_f h]
      simp only [Option.bind_some, ↓reduceIte, bad_spec]
theorem s_buyer : sim_buyer Rel := by
  intro c w hR a1 a2 a3 a4
  obtain ⟨v, s, p, hN⟩ := rel_now hR
  have hbad : ∀ (x : Int32 × CSt) (y : Int32 × LSt), x = (-2, cBad c) → y = (-2, wRef w 0) → f_X10_buyer c a1 a2 a3 a4 = some x → f_X11_buyer w a1 a2 a3 a4 = some y → ∃ x y, f_X10_buyer c a1 a2 a3 a4 = some x ∧ f_X11_buyer w a1 a2 a3 a4 = some y ∧ x.1 = y.1 ∧ Rel x.2 y.2 := by
    intro x y hx hy h1 h2
    subst hx hy
    exact ⟨_, _, h1, h2, rfl, rel_bad hR⟩
  rcases inR_dec a1.toInt 0 5 with h1 | h1
  · rcases inR_dec a2.toInt 0 9 with h2 | h2
    · rcases inR_dec a3.toInt 0 99 with h3 | h3
      · rcases inR_dec a4.toInt 1 3 with h4 | h4
        · obtain ⟨k, hk, hk2, rfl⟩ := of_inR h1
          obtain ⟨h, hh, hh2, rfl⟩ := of_inR h2
          have hn1 := hN.1.2.2.2.2.1
          have hn2 := hN.2.1.2.2.2.2.1
          have h8 := hN.1.2.2.2.2.2.1
          by_cases c8 : vN v < 8
          · have hm := rm_buyer (k := k) (h := h) (a3 := a3) c8 (by omega) (by omega) h4 hN
            refine simR (x := (nI (vN v), sc_m0 c (addM (c_m0 c) (vN v) (nI k) (nI h) a3 a4))) (y := (nI (vN v), sL_w w (addsF 0 (vN v) (nI k) (nI h) a3 a4 (pL_w w)))) ?_ ?_ rfl (rel_set hR ⟨_, _, _, hm⟩ (fun j hj _ => ?_))
            · unfold f_X10_buyer
              rw [within_t h1, isHour_t h2, within_t h3, within_t h4]
              simp only [Option.bind_some, one0, ↓reduceIte]
              rw [if_pos (show pM_size (c_m0 c) < 8 by rw [hn1, i_8]; exact (lt_nI (by omega) (by omega)).mpr c8), addBuyer_C _ _ _ _ _ c8 hn1]
              simp only [Option.bind_some, lt_eq]
              have e : pM_size (c_m0 (sc_m0 c (addM (c_m0 c) (vN v) (nI k) (nI h) a3 a4))) - 1 = nI (vN v) := nI_m1
              rw [e]
            · unfold f_X11_buyer
              rw [inI_t h1, isHourL_t h2, isPrice_t h3, inI_t h4]
              simp only [Option.bind_some, one0, ↓reduceIte]
              rw [if_pos (by decide), show (3 : Int32).toNatClampNeg = 3 from rfl, hn2, if_neg (show ¬ nI (vN v) = 8 by rw [i_8]; intro e; have := (eq_nI (by omega) (by omega)).mp e; omega), show (0 : Int32) = nI 0 from rfl, adds_L w _ _ _ _ (by omega) c8 hn2]
              rfl
            · unfold addsF
              rw [upd_ne _ _ _ _ (by omega), upd_ne _ _ _ _ (by omega), upd_ne _ _ _ _ (by omega), upd_ne _ _ _ _ (by omega), upd_ne _ _ _ _ (by omega), upd_ne _ _ _ _ (by omega)]
          · have c8' : vN v = 8 := by omega
            refine simR (x := (-4, cFull c)) (y := (-4, wRef w 2)) ?_ ?_ rfl (rel_full hR)
            · unfold f_X10_buyer
              rw [within_t h1, isHour_t h2, within_t h3, within_t h4]
              simp only [Option.bind_some, one0, ↓reduceIte]
              rw [if_neg (show ¬ pM_size (c_m0 c) < 8 by rw [hn1, c8']; decide), refuse_full]
              rfl
            · unfold f_X11_buyer
              rw [inI_t h1, isHourL_t h2, isPrice_t h3, inI_t h4]
              simp only [Option.bind_some, one0, ↓reduceIte]
              rw [if_pos (by decide), show (3 : Int32).toNatClampNeg = 3 from rfl, hn2, if_pos (show nI (vN v) = 8 by rw [c8']; rfl), full_spec]
              rfl
        · refine hbad _ _ rfl rfl ?_ ?_
          · unfold f_X10_buyer f_X10_buyer_j43
            rw [within_t h1, isHour_t h2, within_t h3, within_f h4]
            simp only [Option.bind_some, one0, ↓reduceIte, refuse_bad]
          · unfold f_X11_buyer f_X11_buyer_j39
            rw [inI_t h1, isHourL_t h2, isPrice_t h3, inI_f h4]
            simp only [Option.bind_some, one0, ↓reduceIte, bad_spec]
      · refine hbad _ _ rfl rfl ?_ ?_
        · unfold f_X10_buyer f_X10_buyer_j43
          rw [within_t h1, isHour_t h2, within_f h3]
          simp only [Option.bind_some, one0, ↓reduceIte, refuse_bad]
        · unfold f_X11_buyer f_X11_buyer_j39
          rw [inI_t h1, isHourL_t h2, isPrice_f h3]
          simp only [Option.bind_some, one0, ↓reduceIte, bad_spec]
    · refine hbad _ _ rfl rfl ?_ ?_
      · unfold f_X10_buyer f_X10_buyer_j16
        rw [within_t h1, isHour_f h2]
        simp only [Option.bind_some, one0, ↓reduceIte, refuse_bad]
      · unfold f_X11_buyer f_X11_buyer_j39
        rw [inI_t h1, isHourL_f h2]
        simp only [Option.bind_some, one0, ↓reduceIte, bad_spec]
  · refine hbad _ _ rfl rfl ?_ ?_
    · unfold f_X10_buyer f_X10_buyer_j16
      rw [within_f h1]
      simp only [Option.bind_some, ↓reduceIte, refuse_bad]
    · unfold f_X11_buyer f_X11_buyer_j39
      rw [inI_f h1]
      simp only [Option.bind_some, ↓reduceIte, bad_spec]
