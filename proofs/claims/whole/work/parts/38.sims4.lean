-- ===== text, sold, images, counts =====
theorem s_clear : sim_clear Rel := by
  intro c w hR
  refine simR (x := (pR_length (c_r c), sc_r c (sR_length (c_r c) 0))) (y := (pL_texted w, sL_texted w 0)) ?_ ?_ ?_ ?_
  · unfold f_X10_clear
    rw [lt_eq]
  · unfold f_X11_clear
    rw [lt_eq]
  · obtain ⟨L, -, h1, h2, -⟩ := hR.2.2.1
    exact h1.trans h2.symm
  · obtain ⟨⟨h_0, h_1, h_2, h_3, h_4, h_5⟩, ⟨m0, m1, m2, m3⟩, d, s, r⟩ := c
    obtain ⟨w_0, w_1, w_2, w_3, w_4, w_5, w_6, w_7, w_8, w_9, w_10, w_11, w_12, w_13, w_14, w_15, w_16, w_17, w_18, w_19, w_20, w_21, w_22, w_23⟩ := w
    obtain ⟨r_0, r_1, r_2, r_3, r_4, r_5⟩ := r
    rw [rel_mk] at hR
    simp only [sc_h_mk, sc_m0_mk, sc_m1_mk, sc_m2_mk, sc_m3_mk, sc_d_mk, sc_s_mk, sc_r_mk, sc_k2_mk, sc_k3_mk, c_h, c_m0, c_m1, c_m2, c_m3, c_d, c_s, c_r, sR_bytes_mk, sR_length_mk, sR_token_mk, sR_start_mk, sR_next_mk, sR_number_mk, pR_bytes, pR_length, pR_token, pR_start, pR_next, pR_number, sL_w_mk, sL_isKept_mk, sL_text_mk, sL_texted_mk, sL_refused_mk, sL_above_mk, sL_below_mk, sL_at_mk, sL_start_mk, sL_isWord_mk, sL_isFigures_mk, sL_value_mk, sL_comers_mk, sL_shouted_mk, sL_gets_mk, sL_isServed_mk, sL_goes_mk, sL_takings_mk, sL_theirTakings_mk, sL_left_mk, sL_aside_mk, sL_own_mk, sL_other_mk, sL_h_mk, pL_w, pL_isKept, pL_text, pL_texted, pL_refused, pL_above, pL_below, pL_at, pL_start, pL_isWord, pL_isFigures, pL_value, pL_comers, pL_shouted, pL_gets, pL_isServed, pL_goes, pL_takings, pL_theirTakings, pL_left, pL_aside, pL_own, pL_other, pL_h, rel_mk]
    obtain ⟨e1, e2, e3, e4, e5, e6, e7, e8⟩ := hR
    exact ⟨e1, e2, ⟨0, by omega, rfl, rfl, fun k hk => absurd hk (Nat.not_lt_zero k)⟩, e4, e5, e6, e7, e8⟩
theorem s_type : sim_type Rel := by
  intro c w hR a1
  obtain ⟨L, hL, h1, h2, h3⟩ := hR.2.2.1
  have h1 : pR_length (c_r c) = nI L := h1
  have h2 : pL_texted w = nI L := h2
  rcases inR_dec a1.toInt 0 127 with h | h
  · by_cases cL : L < 150
    · refine simR (x := (nI (L + 1), sc_r c (sR_length (sR_bytes (c_r c) (upd (pR_bytes (c_r c)) L a1)) (nI (L + 1))))) (y := (nI (L + 1), sL_texted (sL_text w (upd (pL_text w) L a1)) (nI (L + 1)))) ?_ ?_ rfl ?_
      · have e : f_X6_addByte (c_r c) a1 = some (sR_length (sR_bytes (c_r c) (upd (pR_bytes (c_r c)) L a1)) (nI (L + 1))) := by
          generalize c_r c = r at h1 ⊢
          obtain ⟨r_0, r_1, r_2, r_3, r_4, r_5⟩ := r
          have h1 : r_1 = nI L := h1
          subst h1
          unfold f_X6_addByte
          have e0 : (nI L < 0) = False := lt_f (b := 0) (by omega) (by omega)
          simp only [i_150]
          simp (disch := omega) only [lt_eq, Option.bind_some, inb_t, cl_t, le_t, le_f, lt_t, lt_f, eq_t, eq_f, nI_add, nI_1, ↓reduceIte, e0, sR_bytes_mk, sR_length_mk, sR_token_mk, sR_start_mk, sR_next_mk, sR_number_mk, pR_bytes, pR_length, pR_token, pR_start, pR_next, pR_number]
        unfold f_X10_type
        rw [within_t h, e]
        simp only [Option.bind_some, one0, ↓reduceIte]
        rw [if_pos (show pR_length (c_r c) < 150 by rw [h1, i_150]; exact (lt_nI (by omega) (by omega)).mpr cL)]
        simp only [Option.bind_some, lt_eq]
        rfl
      · unfold f_X11_type
        rw [inI_t h]
        simp only [Option.bind_some, one0, ↓reduceIte]
        rw [h2, if_neg (show ¬ nI L = 150 by rw [i_150]; intro e; have := (eq_nI (by omega) (by omega)).mp e; omega)]
        clear hR h1 h3
        obtain ⟨w_0, w_1, w_2, w_3, w_4, w_5, w_6, w_7, w_8, w_9, w_10, w_11, w_12, w_13, w_14, w_15, w_16, w_17, w_18, w_19, w_20, w_21, w_22, w_23⟩ := w
        have h2 : w_3 = nI L := h2
        subst h2
        simp (disch := omega) only [lt_eq, Option.bind_some, inb_t, cl_t, le_t, le_f, lt_t, lt_f, eq_t, eq_f, nI_add, nI_1, ↓reduceIte, sL_w_mk, sL_isKept_mk, sL_text_mk, sL_texted_mk, sL_refused_mk, sL_above_mk, sL_below_mk, sL_at_mk, sL_start_mk, sL_isWord_mk, sL_isFigures_mk, sL_value_mk, sL_comers_mk, sL_shouted_mk, sL_gets_mk, sL_isServed_mk, sL_goes_mk, sL_takings_mk, sL_theirTakings_mk, sL_left_mk, sL_aside_mk, sL_own_mk, sL_other_mk, sL_h_mk, pL_w, pL_isKept, pL_text, pL_texted, pL_refused, pL_above, pL_below, pL_at, pL_start, pL_isWord, pL_isFigures, pL_value, pL_comers, pL_shouted, pL_gets, pL_isServed, pL_goes, pL_takings, pL_theirTakings, pL_left, pL_aside, pL_own, pL_other, pL_h]
      · obtain ⟨⟨h_0, h_1, h_2, h_3, h_4, h_5⟩, ⟨m0, m1, m2, m3⟩, d, s, r⟩ := c
        obtain ⟨w_0, w_1, w_2, w_3, w_4, w_5, w_6, w_7, w_8, w_9, w_10, w_11, w_12, w_13, w_14, w_15, w_16, w_17, w_18, w_19, w_20, w_21, w_22, w_23⟩ := w
        obtain ⟨r_0, r_1, r_2, r_3, r_4, r_5⟩ := r
        rw [rel_mk] at hR
        simp only [sc_h_mk, sc_m0_mk, sc_m1_mk, sc_m2_mk, sc_m3_mk, sc_d_mk, sc_s_mk, sc_r_mk, sc_k2_mk, sc_k3_mk, c_h, c_m0, c_m1, c_m2, c_m3, c_d, c_s, c_r, sR_bytes_mk, sR_length_mk, sR_token_mk, sR_start_mk, sR_next_mk, sR_number_mk, pR_bytes, pR_length, pR_token, pR_start, pR_next, pR_number, sL_w_mk, sL_isKept_mk, sL_text_mk, sL_texted_mk, sL_refused_mk, sL_above_mk, sL_below_mk, sL_at_mk, sL_start_mk, sL_isWord_mk, sL_isFigures_mk, sL_value_mk, sL_comers_mk, sL_shouted_mk, sL_gets_mk, sL_isServed_mk, sL_goes_mk, sL_takings_mk, sL_theirTakings_mk, sL_left_mk, sL_aside_mk, sL_own_mk, sL_other_mk, sL_h_mk, pL_w, pL_isKept, pL_text, pL_texted, pL_refused, pL_above, pL_below, pL_at, pL_start, pL_isWord, pL_isFigures, pL_value, pL_comers, pL_shouted, pL_gets, pL_isServed, pL_goes, pL_takings, pL_theirTakings, pL_left, pL_aside, pL_own, pL_other, pL_h, rel_mk]
        obtain ⟨e1, e2, e3, e4, e5, e6, e7, e8⟩ := hR
        refine ⟨e1, e2, ⟨L + 1, by omega, rfl, rfl, fun k hk => ?_⟩, e4, e5, e6, e7, e8⟩
        have h3 : ∀ k, k < L → r_0 k = w_2 k := h3
        rw [upd_eq, upd_eq]
        by_cases ck : k = L
        · rw [if_pos ck, if_pos ck]
        · rw [if_neg ck, if_neg ck]
          exact h3 k (by omega)
    · have cL' : L = 150 := by omega
      refine simR (x := (-4, cFull c)) (y := (-4, wRef w 2)) ?_ ?_ rfl (rel_full hR)
      · unfold f_X10_type
        rw [within_t h]
        simp only [Option.bind_some, one0, ↓reduceIte]
        rw [if_neg (show ¬ pR_length (c_r c) < 150 by rw [h1, cL']; decide), refuse_full]
        rfl
      · unfold f_X11_type
        rw [inI_t h]
        simp only [Option.bind_some, one0, ↓reduceIte]
        rw [if_pos (show pL_texted w = 150 by rw [h2, cL']; rfl), full_spec]
        rfl
  · refine simR (x := (-2, cBad c)) (y := (-2, wRef w 0)) ?_ ?_ rfl (rel_bad hR)
    · unfold f_X10_type
      rw [within_f h]
      simp only [Option.bind_some, ↓reduceIte, refuse_bad]
    · unfold f_X11_type
      rw [inI_f h]
      simp only [Option.bind_some, ↓reduceIte, bad_spec]
theorem s_forget : sim_forget Rel := by
  intro c w hR
  obtain ⟨v, s, p, hN⟩ := rel_now hR
  obtain ⟨a1, a2, a3, b1, b2, b3, b4, b5, b6, b7, b8, b9, b10⟩ := hN
  have h8 := a2.2.2.2.2.2.1
  have hM : RM (sM_soldSize (c_m0 c) 0) (upd (pL_w w) 6 0) v 0 p := by
    have e : ∀ k, k ≠ 6 → pL_w w k = upd (pL_w w) 6 0 k := fun k hk => (upd_ne _ _ _ _ hk).symm
    generalize c_m0 c = u at *
    obtain ⟨l1, l2, l3, l4, l5, l6, l7⟩ := a2
    obtain ⟨u_0, u_1, u_2, u_3, u_4, u_5, u_6, u_7, u_8, u_9, u_10, u_11, u_12, u_13, u_14, u_15, u_16⟩ := u
    refine ⟨a1, ⟨fun k hk => ?_, ?_, ?_, ?_, ?_, l6, fun b hb => ?_⟩, a3, ?_, ?_, rfl, upd_at .., Nat.zero_le _, b6, ?_, b8, fun i hi => absurd hi (Nat.not_lt_zero i), fun r hr => ?_⟩
    · rw [← e _ (by omega), ← e _ (by omega)]; exact l1 k hk
    · rw [← e _ (by omega)]; exact l2
    · rw [← e _ (by omega)]; exact l3
    · rw [← e _ (by omega)]; exact l4
    · rw [← e _ (by omega)]; exact l5
    · rw [← e (28 + b) (by omega), ← e (36 + b) (by omega), ← e (44 + b) (by omega), ← e (52 + b) (by omega)]; exact l7 b hb
    · rw [← e _ (by omega)]; exact b1
    · rw [← e _ (by omega)]; exact b2
    · rw [← e _ (by omega)]; exact b7
    · obtain ⟨c1, c2, c3⟩ := b10 r hr
      refine ⟨fun b hb => ?_, ?_, ?_⟩
      · rw [← e (72 + 10 * r + b) (by omega)]; exact c1 b hb
      · rw [← e (72 + 10 * r + 8) (by omega)]; exact c2
      · rw [← e (72 + 10 * r + 9) (by omega)]; exact c3
  refine simR (x := (pM_soldSize (c_m0 c), sc_m0 c (sM_soldSize (c_m0 c) 0))) (y := (pL_w w 6, sL_w w (upd (pL_w w) 6 0))) ?_ ?_ (b3.trans b4.symm) (rel_set hR ⟨_, _, _, hM⟩ (fun k hk _ => (upd_ne _ _ _ _ (by omega)).symm))
  · unfold f_X10_forget
    rw [lt_eq]
  · unfold f_X11_forget
    rw [show (6 : Int32) = nI 6 from rfl, becomes_L w 0 (by omega)]
    rfl
theorem s_sold : sim_sold Rel := by
  intro c w hR a1 a2
  obtain ⟨v, s, p, hN⟩ := rel_now hR
  rcases inR_dec a1.toInt 0 9 with h | h
  · rcases inR_dec a2.toInt 0 99 with h2 | h2
    · obtain ⟨o, ho, ho2, rfl⟩ := of_inR h
      obtain ⟨q1, q2, q3, b1, b2, b3, b4, b5, b6, b7, b8, b9, b10⟩ := hN
      have h8 := q2.2.2.2.2.2.1
      by_cases c6 : s < 6
      · have hM : RM (sM_soldSize (sM_soldNumbers (sM_soldHours (c_m0 c) (upd (pM_soldHours (c_m0 c)) s (nI o))) (upd (pM_soldNumbers (c_m0 c)) s a2)) (nI (s + 1))) (upd (upd (upd (pL_w w) (60 + s) (nI o)) (66 + s) a2) 6 (nI (s + 1))) v (s + 1) p := by
          have e : ∀ k, k ≠ 6 → k ≠ 60 + s → k ≠ 66 + s → pL_w w k = upd (upd (upd (pL_w w) (60 + s) (nI o)) (66 + s) a2) 6 (nI (s + 1)) k := fun k hk hk2 hk3 => by rw [upd_ne _ _ _ _ hk, upd_ne _ _ _ _ hk3, upd_ne _ _ _ _ hk2]
          generalize c_m0 c = u at *
          obtain ⟨l1, l2, l3, l4, l5, l6, l7⟩ := q2
          obtain ⟨u_0, u_1, u_2, u_3, u_4, u_5, u_6, u_7, u_8, u_9, u_10, u_11, u_12, u_13, u_14, u_15, u_16⟩ := u
          refine ⟨q1, ⟨fun k hk => ?_, ?_, ?_, ?_, ?_, l6, fun b hb => ?_⟩, q3, ?_, ?_, rfl, upd_at .., by omega, b6, ?_, b8, fun i hi => ?_, fun r hr => ?_⟩
          · rw [← e _ (by omega) (by omega) (by omega), ← e _ (by omega) (by omega) (by omega)]; exact l1 k hk
          · rw [← e _ (by omega) (by omega) (by omega)]; exact l2
          · rw [← e _ (by omega) (by omega) (by omega)]; exact l3
          · rw [← e _ (by omega) (by omega) (by omega)]; exact l4
          · rw [← e _ (by omega) (by omega) (by omega)]; exact l5
          · rw [← e (28 + b) (by omega) (by omega) (by omega), ← e (36 + b) (by omega) (by omega) (by omega), ← e (44 + b) (by omega) (by omega) (by omega), ← e (52 + b) (by omega) (by omega) (by omega)]; exact l7 b hb
          · rw [← e _ (by omega) (by omega) (by omega)]; exact b1
          · rw [← e _ (by omega) (by omega) (by omega)]; exact b2
          · rw [← e _ (by omega) (by omega) (by omega)]; exact b7
          · by_cases ci : i = s
            · subst ci
              refine ⟨o, by omega, upd_at .., ?_, ?_⟩
              · rw [upd_ne _ _ _ _ (by omega), upd_ne _ _ _ _ (by omega)]; exact upd_at ..
              · show upd u_15 i a2 i = _
                rw [upd_at, upd_ne _ _ _ _ (by omega), upd_at]
            · obtain ⟨o', g1, g2, g3, g4⟩ := b9 i (by omega)
              refine ⟨o', g1, ?_, ?_, ?_⟩
              · show upd u_14 s (nI o) i = nI o'
                rw [upd_ne _ _ _ _ ci]; exact g2
              · rw [← e _ (by omega) (by omega) (by omega)]; exact g3
              · show upd u_15 s a2 i = _
                rw [upd_ne _ _ _ _ ci, ← e _ (by omega) (by omega) (by omega)]; exact g4
          · obtain ⟨c1, c2, c3⟩ := b10 r hr
            refine ⟨fun b hb => ?_, ?_, ?_⟩
            · rw [← e (72 + 10 * r + b) (by omega) (by omega) (by omega)]; exact c1 b hb
            · rw [← e (72 + 10 * r + 8) (by omega) (by omega) (by omega)]; exact c2
            · rw [← e (72 + 10 * r + 9) (by omega) (by omega) (by omega)]; exact c3
        refine simR (x := (nI (s + 1), sc_m0 c _)) (y := (nI (s + 1), sL_w w (upd (upd (upd (pL_w w) (60 + s) (nI o)) (66 + s) a2) 6 (nI (s + 1))))) ?_ ?_ rfl (rel_set hR ⟨_, _, _, hM⟩ (fun k hk _ => ?_))
        · have e : f_X3_addSold (c_m0 c) (nI o) a2 = some (sM_soldSize (sM_soldNumbers (sM_soldHours (c_m0 c) (upd (pM_soldHours (c_m0 c)) s (nI o))) (upd (pM_soldNumbers (c_m0 c)) s a2)) (nI (s + 1))) := by
            clear hM
            generalize c_m0 c = u at b3 ⊢
            obtain ⟨u_0, u_1, u_2, u_3, u_4, u_5, u_6, u_7, u_8, u_9, u_10, u_11, u_12, u_13, u_14, u_15, u_16⟩ := u
            have b3 : u_6 = nI s := b3
            subst b3
            unfold f_X3_addSold
            have e0 : (nI s < 0) = False := lt_f (b := 0) (by omega) (by omega)
            simp only [i_6]
            simp (disch := omega) only [lt_eq, Option.bind_some, inb_t, cl_t, le_t, le_f, lt_t, lt_f, eq_t, eq_f, nI_add, nI_1, ↓reduceIte, e0, sM_punnets_mk, sM_heat_mk, sM_rainHours_mk, sM_size_mk, sM_totalTakings_mk, sM_totalThrown_mk, sM_soldSize_mk, sM_pastSize_mk, sM_prices_mk, sM_theirPrices_mk, sM_kinds_mk, sM_hours_mk, sM_worths_mk, sM_wants_mk, sM_soldHours_mk, sM_soldNumbers_mk, sM_past_mk, pM_punnets, pM_heat, pM_rainHours, pM_size, pM_totalTakings, pM_totalThrown, pM_soldSize, pM_pastSize, pM_prices, pM_theirPrices, pM_kinds, pM_hours, pM_worths, pM_wants, pM_soldHours, pM_soldNumbers, pM_past]
          unfold f_X10_sold
          rw [isHour_t h, within_t h2, e]
          simp only [Option.bind_some, one0, ↓reduceIte]
          rw [if_pos (show pM_soldSize (c_m0 c) < 6 by rw [b3, i_6]; exact (lt_nI (by omega) (by omega)).mpr c6)]
          simp only [Option.bind_some, lt_eq]
          rfl
        · unfold f_X11_sold
          rw [isHourL_t h, isPrice_t h2]
          simp only [Option.bind_some, one0, ↓reduceIte]
          simp only [i_6, i_60, i_66]
          have b4' : pL_w w 6 = nI s := b4
          simp (disch := omega) only [lt_eq, Option.bind_some, inb_t, cl_t, le_t, le_f, lt_t, lt_f, eq_t, eq_f, nI_add, nI_1, ↓reduceIte, b4', wW, wWW, upd_ne, upd_at]
        · rw [upd_ne _ _ _ _ (by omega), upd_ne _ _ _ _ (by omega), upd_ne _ _ _ _ (by omega)]
      · have c6' : s = 6 := by omega
        refine simR (x := (-4, cFull c)) (y := (-4, wRef w 2)) ?_ ?_ rfl (rel_full hR)
        · unfold f_X10_sold
          rw [isHour_t h, within_t h2]
          simp only [Option.bind_some, one0, ↓reduceIte]
          rw [if_neg (show ¬ pM_soldSize (c_m0 c) < 6 by rw [b3, c6']; decide), refuse_full]
          rfl
        · unfold f_X11_sold
          rw [isHourL_t h, isPrice_t h2]
          simp only [Option.bind_some, one0, ↓reduceIte]
          rw [if_pos (by decide), show (6 : Int32).toNatClampNeg = 6 from rfl, if_pos (show pL_w w 6 = 6 by rw [b4, c6']; rfl), full_spec]
          rfl
    · refine simR (x := (-2, cBad c)) (y := (-2, wRef w 0)) ?_ ?_ rfl (rel_bad hR)
      · unfold f_X10_sold f_X10_sold_j17
        rw [isHour_t h, within_f h2]
        simp only [Option.bind_some, one0, ↓reduceIte, refuse_bad]
      · unfold f_X11_sold f_X11_sold_j14
        rw [isHourL_t h, isPrice_f h2]
        simp only [Option.bind_some, one0, ↓reduceIte, bad_spec]
  · refine simR (x := (-2, cBad c)) (y := (-2, wRef w 0)) ?_ ?_ rfl (rel_bad hR)
    · unfold f_X10_sold f_X10_sold_j17
      rw [isHour_f h]
      simp only [Option.bind_some, ↓reduceIte, refuse_bad]
    · unfold f_X11_sold f_X11_sold_j14
      rw [isHourL_f h]
      simp only [Option.bind_some, ↓reduceIte, bad_spec]
theorem s_part : sim_part Rel := by
  intro c w hR a1
  have ha : pH_above (c_h c) = pL_above w := hR.2.2.2.1
  have hb : pH_below (c_h c) = pL_below w := hR.2.2.2.2.1
  by_cases c0 : a1 = 0
  · subst c0
    refine ⟨(pH_above (c_h c), c), (pL_above w, w), ?_, ?_, ha, hR⟩
    · unfold f_X10_part
      rw [within_t (by unfold inR; decide)]
      simp only [Option.bind_some, one0, ↓reduceIte]
    · unfold f_X11_part
      simp only [↓reduceIte]
  · by_cases c1 : a1 = 1
    · subst c1
      refine ⟨(pH_below (c_h c), c), (pL_below w, w), ?_, ?_, hb, hR⟩
      · unfold f_X10_part
        rw [within_t (by unfold inR; decide)]
        simp only [Option.bind_some, one0, ↓reduceIte]
      · unfold f_X11_part
        simp only [one0, ↓reduceIte]
    · have h : ¬ inR a1.toInt 0 1 := by
        intro h
        obtain ⟨k, hk, -, rfl⟩ := of_inR h
        match k, hk with
        | 0, _ => exact c0 rfl
        | 1, _ => exact c1 rfl
        | k + 2, hk => omega
      refine ⟨((-2 : Int32).toInt64, cBad c), ((-2 : Int32).toInt64, wRef w 0), ?_, ?_, rfl, rel_bad hR⟩
      · unfold f_X10_part
        rw [within_f h]
        simp only [Option.bind_some, ↓reduceIte, refuse_bad]
      · unfold f_X11_part
        simp only [c0, c1, ↓reduceIte, bad_spec, Option.bind_some]
theorem f_status_0 (c : CSt) : f_X10_status c (nI 0) = some (pH_refusedBad (c_h c), c) := by
  unfold f_X10_status
  rw [if_pos (by decide)]
theorem f_status_1 (c : CSt) : f_X10_status c (nI 1) = some (pH_refusedNo (c_h c), c) := by
  unfold f_X10_status
  rw [if_neg (by decide), if_pos (by decide)]
theorem f_status_2 (c : CSt) : f_X10_status c (nI 2) = some (pH_refusedFull (c_h c), c) := by
  unfold f_X10_status
  rw [if_neg (by decide), if_neg (by decide), if_pos (by decide)]
theorem s_status : sim_status Rel := by
  intro c w hR a1
  have h0 : pH_refusedBad (c_h c) = pL_refused w 0 := hR.2.2.2.2.2.1
  have h1 : pH_refusedNo (c_h c) = pL_refused w 1 := hR.2.2.2.2.2.2.1
  have h2 : pH_refusedFull (c_h c) = pL_refused w 2 := hR.2.2.2.2.2.2.2
  rcases inR_dec a1.toInt 0 2 with h | h
  · obtain ⟨k, hk, -, rfl⟩ := of_inR h
    match k, hk with
    | 0, _ =>
      refine simR (x := (_, c)) (y := (_, w)) (f_status_0 c) ?_ h0 hR
      unfold f_X11_status
      rw [inI_t h]
      simp only [Option.bind_some, one0, ↓reduceIte]
      rfl
    | 1, _ =>
      refine simR (x := (_, c)) (y := (_, w)) (f_status_1 c) ?_ h1 hR
      unfold f_X11_status
      rw [inI_t h]
      simp only [Option.bind_some, one0, ↓reduceIte]
      rfl
    | 2, _ =>
      refine simR (x := (_, c)) (y := (_, w)) (f_status_2 c) ?_ h2 hR
      unfold f_X11_status
      rw [inI_t h]
      simp only [Option.bind_some, one0, ↓reduceIte]
      rfl
    | k + 3, hk => omega
  · refine simR (x := (-1, cBad c)) (y := (-1, wRef w 0)) ?_ ?_ rfl (rel_bad hR)
    · unfold f_X10_status
      unfold inR at h
      rw [if_neg (by omega), if_neg (by omega), if_neg (by omega), refuse_bad]
      rfl
    · unfold f_X11_status
      rw [inI_f h]
      simp only [Option.bind_some, ↓reduceIte, badAs_spec]
theorem howMany_eq {c : CSt} {w : LSt} (hR : Rel c w) {k : Nat} (hk : k < 8) : ∃ x, f_X10_howMany c (nI k) = some x ∧ f_X11_countOf w (nI k) = some x := by
  obtain ⟨v, s, p, hN⟩ := rel_now hR
  obtain ⟨q1, q2, q3, b1, b2, b3, b4, b5, b6, b7, b8, b9, b10⟩ := hN
  obtain ⟨L, -, t1, t2, -⟩ := hR.2.2.1
  have t1 : pR_length (c_r c) = nI L := t1
  have t2 : pL_texted w = nI L := t2
  unfold f_X10_howMany f_X11_countOf
  match k, hk with
  | 0, _ => exact ⟨_, rfl, congrArg some (q2.2.2.2.1.trans q1.2.2.2.1.symm)⟩
  | 1, _ => exact ⟨_, rfl, congrArg some (q2.2.2.1.trans q1.2.2.1.symm)⟩
  | 2, _ => exact ⟨_, rfl, congrArg some (q2.2.2.2.2.1.trans q1.2.2.2.2.1.symm)⟩
  | 3, _ => exact ⟨_, rfl, congrArg some b1.symm⟩
  | 4, _ => exact ⟨_, rfl, congrArg some b2.symm⟩
  | 5, _ => exact ⟨_, rfl, congrArg some (b4.trans b3.symm)⟩
  | 6, _ => exact ⟨_, rfl, congrArg some (b7.trans b6.symm)⟩
  | 7, _ => exact ⟨_, rfl, congrArg some (t2.trans t1.symm)⟩
  | k + 8, h => omega
theorem s_count : sim_count Rel := by
  intro c w hR a1
  rcases inR_dec a1.toInt 0 7 with h | h
  · obtain ⟨k, hk, -, rfl⟩ := of_inR h
    obtain ⟨x, e1, e2⟩ := howMany_eq hR (k := k) (by omega)
    refine simR (x := (x, c)) (y := (x, w)) ?_ ?_ rfl hR
    · unfold f_X10_count
      rw [within_t h, e1]
      simp only [Option.bind_some, one0, ↓reduceIte]
    · unfold f_X11_count
      rw [inI_t h, e2]
      simp only [Option.bind_some, one0, ↓reduceIte]
  · refine simR (x := (-2, cBad c)) (y := (-2, wRef w 0)) ?_ ?_ rfl (rel_bad hR)
    · unfold f_X10_count
      rw [within_f h]
      simp only [Option.bind_some, ↓reduceIte, refuse_bad]
    · unfold f_X11_count
      rw [inI_f h]
      simp only [Option.bind_some, ↓reduceIte, bad_spec]
