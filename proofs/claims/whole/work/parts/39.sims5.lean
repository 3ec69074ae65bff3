-- ===== images =====
theorem mul152_0 : (152 : Int32) * (1 + nI 0) = nI 152 := by decide
theorem mul152_1 : (152 : Int32) * (1 + nI 1) = nI 304 := by decide
theorem getM2 (mm : MMt) : getM (2 + 0) mm = mm.2.2.1 := rfl
theorem getM3 (mm : MMt) : getM (2 + 1) mm = mm.2.2.2 := rfl
theorem s_image : sim_image Rel := by
  intro c w hR a1
  obtain ⟨v, s1, p1, hN⟩ := rel_now hR
  rcases inR_dec a1.toInt 0 1 with h | h
  · obtain ⟨k, hk, -, rfl⟩ := of_inR h
    match k, hk with
    | 0, _ =>
      obtain ⟨u', g1, g2⟩ := rm_becomes (getM (2 + 0) (c).2.1) hN
      have hc := copy_L w (a := 0) (b := 152) (by omega) (by omega) (by omega)
      refine simR (x := (1, sc_h (sc_k (2 + 0) c u') (sH_kept (c_h (sc_k (2 + 0) c u')) (upd (pH_kept (c_h (sc_k (2 + 0) c u'))) 0 1)))) (y := (1, sL_isKept (sL_w w (fun j => if 152 ≤ j ∧ j < 152 + 152 then pL_w w (0 + (j - 152)) else pL_w w j)) (upd (pL_isKept (sL_w w (fun j => if 152 ≤ j ∧ j < 152 + 152 then pL_w w (0 + (j - 152)) else pL_w w j))) 0 1))) ?_ ?_ rfl ?_
      · unfold f_X10_image
        rw [within_t h]
        simp only [Option.bind_some, one0, ↓reduceIte]
        rw [if_pos (by decide), show (nI 0).toNatClampNeg = 0 from rfl, g1]
        simp only [Option.bind_some, lt_eq]
        rw [if_pos (by decide), nar1]
      · unfold f_X11_image
        rw [inI_t h, mul152_0, show (0 : Int32) = nI 0 from rfl, hc]
        simp only [Option.bind_some, show ¬ ((1 : Int32) = nI 0) from by decide, ↓reduceIte]
        rw [if_pos (by decide), nar1]
        rfl
      · clear g1 hc hN
        obtain ⟨⟨h_0, h_1, h_2, h_3, h_4, h_5⟩, ⟨m0, m1, m2, m3⟩, d, s, r⟩ := c
        obtain ⟨w_0, w_1, w_2, w_3, w_4, w_5, w_6, w_7, w_8, w_9, w_10, w_11, w_12, w_13, w_14, w_15, w_16, w_17, w_18, w_19, w_20, w_21, w_22, w_23⟩ := w
        rw [rel_mk] at hR
        simp only [sc_h_mk, sc_m0_mk, sc_m1_mk, sc_m2_mk, sc_m3_mk, sc_d_mk, sc_s_mk, sc_r_mk, sc_k2_mk, sc_k3_mk, c_h, c_m0, c_m1, c_m2, c_m3, c_d, c_s, c_r, sH_kept_mk, sH_above_mk, sH_below_mk, sH_refusedBad_mk, sH_refusedNo_mk, sH_refusedFull_mk, pH_kept, pH_above, pH_below, pH_refusedBad, pH_refusedNo, pH_refusedFull, sL_w_mk, sL_isKept_mk, sL_text_mk, sL_texted_mk, sL_refused_mk, sL_above_mk, sL_below_mk, sL_at_mk, sL_start_mk, sL_isWord_mk, sL_isFigures_mk, sL_value_mk, sL_comers_mk, sL_shouted_mk, sL_gets_mk, sL_isServed_mk, sL_goes_mk, sL_takings_mk, sL_theirTakings_mk, sL_left_mk, sL_aside_mk, sL_own_mk, sL_other_mk, sL_h_mk, pL_w, pL_isKept, pL_text, pL_texted, pL_refused, pL_above, pL_below, pL_at, pL_start, pL_isWord, pL_isFigures, pL_value, pL_comers, pL_shouted, pL_gets, pL_isServed, pL_goes, pL_takings, pL_theirTakings, pL_left, pL_aside, pL_own, pL_other, pL_h, rel_mk]
        obtain ⟨e1, ⟨i1, i2, i3, i4⟩, e3, e4, e5, e6, e7, e8⟩ := hR
        refine ⟨RelN_congr (fun k hk => (if_neg (by omega)).symm) e1, ⟨?_, ?_, Or.inr ⟨upd_at .., v, s1, p1, RM_congr (fun k hk => ?_) g2⟩, ?_⟩, e3, e4, e5, e6, e7, e8⟩
        · rw [upd_at, upd_at]
        · rw [upd_ne _ _ _ _ (by omega), upd_ne _ _ _ _ (by omega)]; exact i2
        · show w_0 k = if 152 ≤ 152 + k ∧ 152 + k < 152 + 152 then w_0 (0 + (152 + k - 152)) else w_0 (152 + k)
          rw [if_pos (by omega), show 0 + (152 + k - 152) = k from by omega]
        · rw [upd_ne _ _ _ _ (by omega)]
          rcases i4 with i4 | ⟨i4, i5⟩
          · exact Or.inl i4
          · exact Or.inr ⟨i4, RelN_congr (fun k hk => (if_neg (by omega)).symm) i5⟩
    | 1, _ =>
      obtain ⟨u', g1, g2⟩ := rm_becomes (getM (2 + 1) (c).2.1) hN
      have hc := copy_L w (a := 0) (b := 304) (by omega) (by omega) (by omega)
      refine simR (x := (1, sc_h (sc_k (2 + 1) c u') (sH_kept (c_h (sc_k (2 + 1) c u')) (upd (pH_kept (c_h (sc_k (2 + 1) c u'))) 1 1)))) (y := (1, sL_isKept (sL_w w (fun j => if 304 ≤ j ∧ j < 304 + 152 then pL_w w (0 + (j - 304)) else pL_w w j)) (upd (pL_isKept (sL_w w (fun j => if 304 ≤ j ∧ j < 304 + 152 then pL_w w (0 + (j - 304)) else pL_w w j))) 1 1))) ?_ ?_ rfl ?_
      · unfold f_X10_image
        rw [within_t h]
        simp only [Option.bind_some, one0, ↓reduceIte]
        rw [if_pos (by decide), show (nI 1).toNatClampNeg = 1 from rfl, g1]
        simp only [Option.bind_some, lt_eq]
        rw [if_pos (by decide), nar1]
      · unfold f_X11_image
        rw [inI_t h, mul152_1, show (0 : Int32) = nI 0 from rfl, hc]
        simp only [Option.bind_some, show ¬ ((1 : Int32) = nI 0) from by decide, ↓reduceIte]
        rw [if_pos (by decide), nar1]
        rfl
      · clear g1 hc hN
        obtain ⟨⟨h_0, h_1, h_2, h_3, h_4, h_5⟩, ⟨m0, m1, m2, m3⟩, d, s, r⟩ := c
        obtain ⟨w_0, w_1, w_2, w_3, w_4, w_5, w_6, w_7, w_8, w_9, w_10, w_11, w_12, w_13, w_14, w_15, w_16, w_17, w_18, w_19, w_20, w_21, w_22, w_23⟩ := w
        rw [rel_mk] at hR
        simp only [sc_h_mk, sc_m0_mk, sc_m1_mk, sc_m2_mk, sc_m3_mk, sc_d_mk, sc_s_mk, sc_r_mk, sc_k2_mk, sc_k3_mk, c_h, c_m0, c_m1, c_m2, c_m3, c_d, c_s, c_r, sH_kept_mk, sH_above_mk, sH_below_mk, sH_refusedBad_mk, sH_refusedNo_mk, sH_refusedFull_mk, pH_kept, pH_above, pH_below, pH_refusedBad, pH_refusedNo, pH_refusedFull, sL_w_mk, sL_isKept_mk, sL_text_mk, sL_texted_mk, sL_refused_mk, sL_above_mk, sL_below_mk, sL_at_mk, sL_start_mk, sL_isWord_mk, sL_isFigures_mk, sL_value_mk, sL_comers_mk, sL_shouted_mk, sL_gets_mk, sL_isServed_mk, sL_goes_mk, sL_takings_mk, sL_theirTakings_mk, sL_left_mk, sL_aside_mk, sL_own_mk, sL_other_mk, sL_h_mk, pL_w, pL_isKept, pL_text, pL_texted, pL_refused, pL_above, pL_below, pL_at, pL_start, pL_isWord, pL_isFigures, pL_value, pL_comers, pL_shouted, pL_gets, pL_isServed, pL_goes, pL_takings, pL_theirTakings, pL_left, pL_aside, pL_own, pL_other, pL_h, rel_mk]
        obtain ⟨e1, ⟨i1, i2, i3, i4⟩, e3, e4, e5, e6, e7, e8⟩ := hR
        refine ⟨RelN_congr (fun k hk => (if_neg (by omega)).symm) e1, ⟨?_, ?_, ?_, Or.inr ⟨upd_at .., v, s1, p1, RM_congr (fun k hk => ?_) g2⟩⟩, e3, e4, e5, e6, e7, e8⟩
        · rw [upd_ne _ _ _ _ (by omega), upd_ne _ _ _ _ (by omega)]; exact i1
        · rw [upd_at, upd_at]
        · rw [upd_ne _ _ _ _ (by omega)]
          rcases i3 with i4 | ⟨i4, i5⟩
          · exact Or.inl i4
          · exact Or.inr ⟨i4, RelN_congr (fun k hk => (if_neg (by omega)).symm) i5⟩
        · show w_0 k = if 304 ≤ 304 + k ∧ 304 + k < 304 + 152 then w_0 (0 + (304 + k - 304)) else w_0 (304 + k)
          rw [if_pos (by omega), show 0 + (304 + k - 304) = k from by omega]
    | k + 2, hk => omega
  · refine simR (x := (-2, cBad c)) (y := (-2, wRef w 0)) ?_ ?_ rfl (rel_bad hR)
    · unfold f_X10_image
      rw [within_f h]
      simp only [Option.bind_some, ↓reduceIte, refuse_bad]
    · unfold f_X11_image
      rw [inI_f h]
      simp only [Option.bind_some, ↓reduceIte, bad_spec]
theorem s_from : sim_from Rel := by
  intro c w hR a1
  obtain ⟨i1, i2, i3, i4⟩ := hR.2.1
  have i1 : pH_kept (c_h c) 0 = pL_isKept w 0 := i1
  have i2 : pH_kept (c_h c) 1 = pL_isKept w 1 := i2
  rcases inR_dec a1.toInt 0 1 with h | h
  · obtain ⟨k, hk, -, rfl⟩ := of_inR h
    match k, hk with
    | 0, _ =>
      have i3 : pH_kept (c_h c) 0 = 0 ∨ pH_kept (c_h c) 0 = 1 ∧ RelN (getM (2 + 0) (c).2.1) (fun k => pL_w w (152 + k)) := i3
      rcases i3 with i3 | ⟨i3, v, s, p, i5⟩
      · refine simR (x := (-3, cNo c)) (y := (-3, wRef w 1)) ?_ ?_ rfl (rel_no hR)
        · unfold f_X10_from
          rw [within_t h]
          simp only [Option.bind_some, one0, ↓reduceIte]
          rw [if_pos (by decide), show (nI 0).toNatClampNeg = 0 from rfl, if_pos i3, refuse_no]
          rfl
        · unfold f_X11_from
          rw [inI_t h]
          simp only [Option.bind_some, one0, ↓reduceIte]
          rw [if_pos (by decide), show (nI 0).toNatClampNeg = 0 from rfl, if_pos (i1.symm.trans i3), no_spec]
          rfl
      · obtain ⟨u', g1, g2⟩ := rm_becomes (c_m0 c) i5
        have hc := copy_L w (a := 152) (b := 0) (by omega) (by omega) (by omega)
        have hN : RelN u' (fun j => if 0 ≤ j ∧ j < 0 + 152 then pL_w w (152 + (j - 0)) else pL_w w j) := ⟨v, s, p, RM_congr (fun k hk => by
          show pL_w w (152 + k) = if 0 ≤ k ∧ k < 0 + 152 then pL_w w (152 + (k - 0)) else pL_w w k
          rw [if_pos (by omega), Nat.sub_zero]) g2⟩
        refine simR (x := (1, sc_m0 c u')) (y := (1, sL_w w (fun j => if 0 ≤ j ∧ j < 0 + 152 then pL_w w (152 + (j - 0)) else pL_w w j))) ?_ ?_ rfl (rel_set hR hN (fun k hk _ => (if_neg (by omega)).symm))
        · unfold f_X10_from
          rw [within_t h]
          simp only [Option.bind_some, one0, ↓reduceIte]
          rw [if_pos (by decide), show (nI 0).toNatClampNeg = 0 from rfl, if_neg (by rw [i3]; decide), if_pos (by decide), g1]
          simp only [Option.bind_some, lt_eq]
        · unfold f_X11_from
          rw [inI_t h]
          simp only [Option.bind_some, one0, ↓reduceIte]
          rw [if_pos (by decide), show (nI 0).toNatClampNeg = 0 from rfl, if_neg (by rw [← i1, i3]; decide), mul152_0, show (0 : Int32) = nI 0 from rfl, hc]
          rfl
    | 1, _ =>
      have i4 : pH_kept (c_h c) 1 = 0 ∨ pH_kept (c_h c) 1 = 1 ∧ RelN (getM (2 + 1) (c).2.1) (fun k => pL_w w (304 + k)) := i4
      rcases i4 with i3 | ⟨i3, v, s, p, i5⟩
      · refine simR (x := (-3, cNo c)) (y := (-3, wRef w 1)) ?_ ?_ rfl (rel_no hR)
        · unfold f_X10_from
          rw [within_t h]
          simp only [Option.bind_some, one0, ↓reduceIte]
          rw [if_pos (by decide), show (nI 1).toNatClampNeg = 1 from rfl, if_pos i3, refuse_no]
          rfl
        · unfold f_X11_from
          rw [inI_t h]
          simp only [Option.bind_some, one0, ↓reduceIte]
          rw [if_pos (by decide), show (nI 1).toNatClampNeg = 1 from rfl, if_pos (i2.symm.trans i3), no_spec]
          rfl
      · obtain ⟨u', g1, g2⟩ := rm_becomes (c_m0 c) i5
        have hc := copy_L w (a := 304) (b := 0) (by omega) (by omega) (by omega)
        have hN : RelN u' (fun j => if 0 ≤ j ∧ j < 0 + 152 then pL_w w (304 + (j - 0)) else pL_w w j) := ⟨v, s, p, RM_congr (fun k hk => by
          show pL_w w (304 + k) = if 0 ≤ k ∧ k < 0 + 152 then pL_w w (304 + (k - 0)) else pL_w w k
          rw [if_pos (by omega), Nat.sub_zero]) g2⟩
        refine simR (x := (1, sc_m0 c u')) (y := (1, sL_w w (fun j => if 0 ≤ j ∧ j < 0 + 152 then pL_w w (304 + (j - 0)) else pL_w w j))) ?_ ?_ rfl (rel_set hR hN (fun k hk _ => (if_neg (by omega)).symm))
        · unfold f_X10_from
          rw [within_t h]
          simp only [Option.bind_some, one0, ↓reduceIte]
          rw [if_pos (by decide), show (nI 1).toNatClampNeg = 1 from rfl, if_neg (by rw [i3]; decide), if_pos (by decide), g1]
          simp only [Option.bind_some, lt_eq]
        · unfold f_X11_from
          rw [inI_t h]
          simp only [Option.bind_some, one0, ↓reduceIte]
          rw [if_pos (by decide), show (nI 1).toNatClampNeg = 1 from rfl, if_neg (by rw [← i2, i3]; decide), mul152_1, show (0 : Int32) = nI 0 from rfl, hc]
          rfl
    | k + 2, hk => omega
  · refine simR (x := (-2, cBad c)) (y := (-2, wRef w 0)) ?_ ?_ rfl (rel_bad hR)
    · unfold f_X10_from
      rw [within_f h]
      simp only [Option.bind_some, ↓reduceIte, refuse_bad]
    · unfold f_X11_from
      rw [inI_f h]
      simp only [Option.bind_some, ↓reduceIte, bad_spec]
