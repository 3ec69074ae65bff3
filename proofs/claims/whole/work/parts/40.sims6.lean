-- ===== questions about a day =====
def DayL (w : LSt) (y : DYS) : Prop := pL_left w = xL y ∧ pL_takings w = xT y ∧ pL_theirTakings w = xU y ∧ (∀ h, h < 10 → pL_goes w h = xG y h) ∧ ∀ b, b < 8 → pL_gets w b = xB y b ∧ pL_isServed w b = xS y b
def Kp (w w' : LSt) : Prop := pL_isKept w' = pL_isKept w ∧ pL_text w' = pL_text w ∧ pL_texted w' = pL_texted w ∧ pL_refused w' = pL_refused w ∧ pL_above w' = pL_above w ∧ pL_below w' = pL_below w
def Ka (w w' : LSt) : Prop := pL_aside w' = pL_aside w ∧ pL_own w' = pL_own w ∧ pL_other w' = pL_other w
theorem Kp_trans {a b c : LSt} (h : Kp a b) (h2 : Kp b c) : Kp a c := by
  obtain ⟨a1, a2, a3, a4, a5, a6⟩ := h
  obtain ⟨b1, b2, b3, b4, b5, b6⟩ := h2
  exact ⟨b1.trans a1, b2.trans a2, b3.trans a3, b4.trans a4, b5.trans a5, b6.trans a6⟩
theorem Ka_trans {a b c : LSt} (h : Ka a b) (h2 : Ka b c) : Ka a c := by
  obtain ⟨a1, a2, a3⟩ := h
  obtain ⟨b1, b2, b3⟩ := h2
  exact ⟨b1.trans a1, b2.trans a2, b3.trans a3⟩
theorem Kp_rfl (w : LSt) : Kp w w := ⟨rfl, rfl, rfl, rfl, rfl, rfl⟩
theorem Ka_rfl (w : LSt) : Ka w w := ⟨rfl, rfl, rfl⟩
theorem rel_kp {c : CSt} {w w' : LSt} (hR : Rel c w) (hk : Kp w w') (h : ∀ k, k < 456 → pL_w w k = pL_w w' k) : Rel c w' := by
  obtain ⟨⟨h_0, h_1, h_2, h_3, h_4, h_5⟩, ⟨m0, m1, m2, m3⟩, d, s, r⟩ := c
  obtain ⟨w_0, w_1, w_2, w_3, w_4, w_5, w_6, w_7, w_8, w_9, w_10, w_11, w_12, w_13, w_14, w_15, w_16, w_17, w_18, w_19, w_20, w_21, w_22, w_23⟩ := w
  obtain ⟨w'_0, w'_1, w'_2, w'_3, w'_4, w'_5, w'_6, w'_7, w'_8, w'_9, w'_10, w'_11, w'_12, w'_13, w'_14, w'_15, w'_16, w'_17, w'_18, w'_19, w'_20, w'_21, w'_22, w'_23⟩ := w'
  rw [rel_mk] at hR ⊢
  obtain ⟨k1, k2, k3, k4, k5, k6⟩ := hk
  have k1 : w'_1 = w_1 := k1
  have k2 : w'_2 = w_2 := k2
  have k3 : w'_3 = w_3 := k3
  have k4 : w'_4 = w_4 := k4
  have k5 : w'_5 = w_5 := k5
  have k6 : w'_6 = w_6 := k6
  subst k1 k2 k3 k4 k5 k6
  have h : ∀ k, k < 456 → w_0 k = w'_0 k := h
  obtain ⟨e1, e2, e3, e4, e5, e6, e7, e8⟩ := hR
  exact ⟨RelN_congr (fun k hk => h k (by omega)) e1, RelI_congr (fun k _ hk => h k hk) e2, e3, e4, e5, e6, e7, e8⟩
theorem kp_w (w : LSt) (f : Nat → Int32) : Kp w (sL_w w f) ∧ Ka w (sL_w w f) := by
  obtain ⟨w_0, w_1, w_2, w_3, w_4, w_5, w_6, w_7, w_8, w_9, w_10, w_11, w_12, w_13, w_14, w_15, w_16, w_17, w_18, w_19, w_20, w_21, w_22, w_23⟩ := w
  simp only [sL_w_mk]
  exact ⟨⟨rfl, rfl, rfl, rfl, rfl, rfl⟩, rfl, rfl, rfl⟩
theorem kp_sh (w : LSt) (x : Int32) : Kp w (sL_shouted w x) ∧ Ka w (sL_shouted w x) ∧ pL_w (sL_shouted w x) = pL_w w ∧ pL_shouted (sL_shouted w x) = x ∧ pL_takings (sL_shouted w x) = pL_takings w := by
  obtain ⟨w_0, w_1, w_2, w_3, w_4, w_5, w_6, w_7, w_8, w_9, w_10, w_11, w_12, w_13, w_14, w_15, w_16, w_17, w_18, w_19, w_20, w_21, w_22, w_23⟩ := w
  simp only [sL_shouted_mk]
  exact ⟨⟨rfl, rfl, rfl, rfl, rfl, rfl⟩, ⟨rfl, rfl, rfl⟩, trivial, trivial, trivial⟩
theorem tries_ok {w : LSt} {v : VW} (who : Int32) (hv : VL (pL_w w) v) : ∃ w', f_X11_tries w who = some w' ∧ Kp w w' ∧ Ka w w' ∧ pL_w w' = pL_w w ∧ pL_shouted w' = pL_shouted w ∧ DayL w' (dayN v (paySh v (pL_shouted w)) who) := by
  have h := tries_spec (who := who) hv
  rw [triesM_eq hv.2.2.2.2.2.1] at h
  refine ⟨_, h, ?_⟩
  clear h
  generalize dayN v (paySh v (pL_shouted w)) who = y
  clear hv
  obtain ⟨y_0, y_1, y_2, y_3, y_4, y_5⟩ := y
  obtain ⟨w_0, w_1, w_2, w_3, w_4, w_5, w_6, w_7, w_8, w_9, w_10, w_11, w_12, w_13, w_14, w_15, w_16, w_17, w_18, w_19, w_20, w_21, w_22, w_23⟩ := w
  simp only [sL_comers_mk, mkM, xL, xT, xU, xG, xB, xS, setD_mk]
  refine ⟨⟨rfl, rfl, rfl, rfl, rfl, rfl⟩, ⟨rfl, rfl, rfl⟩, trivial, trivial, rfl, rfl, rfl, fun h hh => ?_, fun b hb => ⟨?_, ?_⟩⟩
  · exact if_pos hh
  · exact if_pos hb
  · exact if_pos hb
theorem triesAll_ok {w : LSt} {v : VW} (hv : VL (pL_w w) v) : ∃ w', f_X11_triesAll w = some w' ∧ Kp w w' ∧ Ka w w' ∧ pL_w w' = pL_w w ∧ pL_shouted w' = -1 ∧ DayL w' (dayN v (paysI v) 255) := by
  obtain ⟨k1, k2, k3, k4, -⟩ := kp_sh w (-1)
  have hv2 : VL (pL_w (sL_shouted w (-1))) v := by rw [k3]; exact hv
  obtain ⟨w', h1, h2, h3, h4, h5, h6⟩ := tries_ok 255 hv2
  have ho : ∀ b, b < vN v → vO v b < 10 := fun b hb => (hv.2.2.2.2.2.2 b hb).2.2.2.1
  rw [k4, dayN_congr (q := paysI v) hv.2.2.2.2.2.1 ho (fun b hb => paySh_none ho b hb)] at h6
  refine ⟨w', ?_, Kp_trans k1 h2, Ka_trans k2 h3, h4.trans k3, h5.trans k4, h6⟩
  unfold f_X11_triesAll
  rw [lt_eq, h1]
  rfl
theorem nIm1 {n : Nat} (h : n ≤ 8) : (nI n - 1).toInt = (n : Int) - 1 := by
  rw [ti_sub (by rw [ti_nI (by omega), ti_1]; omega) (by rw [ti_nI (by omega), ti_1]; omega), ti_nI (by omega), ti_1]
theorem isBuyerL_t {w : LSt} {n : Nat} {a : Int32} (hn : pL_w w 3 = nI n) (h8 : n ≤ 8) (h : inR a.toInt 0 ((n : Int) - 1)) : f_X11_isBuyer w a = some 1 := by
  unfold f_X11_isBuyer
  rw [if_pos (by decide), show (3 : Int32).toNatClampNeg = 3 from rfl, hn, inI_t (by rw [Int32.toInt_toInt64, nIm1 h8]; exact h)]
  rfl
theorem isBuyerL_f {w : LSt} {n : Nat} {a : Int32} (hn : pL_w w 3 = nI n) (h8 : n ≤ 8) (h : ¬ inR a.toInt 0 ((n : Int) - 1)) : f_X11_isBuyer w a = some 0 := by
  unfold f_X11_isBuyer
  rw [if_pos (by decide), show (3 : Int32).toNatClampNeg = 3 from rfl, hn, inI_f (by rw [Int32.toInt_toInt64, nIm1 h8]; exact h)]
  rfl
theorem isBuyer_t {c : CSt} {n : Nat} {a : Int32} (hn : pM_size (c_m0 c) = nI n) (h8 : n ≤ 8) (h : inR a.toInt 0 ((n : Int) - 1)) : f_X10_isBuyer c a = some 1 := by
  unfold f_X10_isBuyer
  obtain ⟨h1, h2⟩ := h
  rw [hn, if_neg (fun e => by have := Int32.lt_iff_toInt_lt.mp e; rw [ti_0] at this; omega), if_neg (fun e => by have := Int32.le_iff_toInt_le.mp e; rw [ti_nI (by omega)] at this; omega), if_neg (fun e => by have := Int32.le_iff_toInt_le.mp e; rw [show (8 : Int32).toInt = 8 from rfl] at this; omega)]
theorem isBuyer_f {c : CSt} {n : Nat} {a : Int32} (hn : pM_size (c_m0 c) = nI n) (h8 : n ≤ 8) (h : ¬ inR a.toInt 0 ((n : Int) - 1)) : f_X10_isBuyer c a = some 0 := by
  unfold f_X10_isBuyer
  by_cases c1 : a < 0
  · rw [if_pos c1]
  · rw [if_neg c1, if_pos]
    have h1 : ¬ a.toInt < (0 : Int32).toInt := fun e => c1 (Int32.lt_iff_toInt_lt.mpr e)
    rw [ti_0] at h1
    rw [hn]
    refine Int32.le_iff_toInt_le.mpr ?_
    rw [ti_nI (by omega)]
    unfold inR at h
    omega
theorem s_takes : sim_takes Rel := by
  intro c w hR a1
  obtain ⟨v, s, p, hN⟩ := rel_now hR
  rcases inR_dec a1.toInt 0 1 with h | h
  · obtain ⟨d', r1, r2, r3⟩ := run_spec (c_d c) hN.1 hN.2.2.1
    obtain ⟨w', t1, t2, t3, t4, t5, t6⟩ := triesAll_ok hN.2.1
    have hR2 : Rel (sc_d c d') w' := rel_d (rel_kp hR t2 (fun k _ => by rw [t4])) d'
    by_cases c0 : a1 = 0
    · refine simR (x := (pD_takings d', sc_d c d')) (y := (pL_takings w', w')) ?_ ?_ (r3.2.1.trans t6.2.1.symm) hR2
      · unfold f_X10_takes
        rw [within_t h, r1]
        simp only [Option.bind_some, one0, c0, ↓reduceIte, lt_eq]
        rfl
      · unfold f_X11_takes
        rw [inI_t h, t1]
        simp only [Option.bind_some, one0, c0, ↓reduceIte]
    · refine simR (x := (pD_left d', sc_d c d')) (y := (pL_left w', w')) ?_ ?_ (r3.1.trans t6.1.symm) hR2
      · unfold f_X10_takes
        rw [within_t h, r1]
        simp only [Option.bind_some, one0, c0, ↓reduceIte, lt_eq]
        rfl
      · unfold f_X11_takes
        rw [inI_t h, t1]
        simp only [Option.bind_some, one0, c0, ↓reduceIte]
  · refine simR (x := (-2, cBad c)) (y := (-2, wRef w 0)) ?_ ?_ rfl (rel_bad hR)
    · unfold f_X10_takes
      rw [within_f h]
      simp only [Option.bind_some, ↓reduceIte, refuse_bad]
    · unfold f_X11_takes
      rw [inI_f h]
      simp only [Option.bind_some, ↓reduceIte, bad_spec]
theorem and1 (z : Int32) : z &&& 1 = 0 ∨ z &&& 1 = 1 := by
  have h : (z &&& 1).toBitVec = BitVec.setWidth 32 (BitVec.ofBool (z.toBitVec.getLsbD 0)) := by
    rw [Int32.toBitVec_and]
    exact BitVec.and_one_eq_setWidth_ofBool_getLsbD
  cases hb : z.toBitVec.getLsbD 0
  · rw [hb] at h
    exact Or.inl (Int32.toBitVec_inj.mp (h.trans (by decide)))
  · rw [hb] at h
    exact Or.inr (Int32.toBitVec_inj.mp (h.trans (by decide)))
theorem rain_val (v : VW) (h : Nat) : (vR v >>> (nI h &&& 31)) &&& (1 : Int32) = if rainB v h = true then 1 else 0 := by
  unfold rainB
  by_cases c : (vR v >>> (nI h &&& 31)) &&& (1 : Int32) = 1
  · simp only [c, decide_true, ↓reduceIte]
  · simp only [c, decide_false, Bool.false_eq_true, ↓reduceIte]
    exact (and1 _).resolve_right c
theorem ti_ne {a : Int32} {k : Nat} (hk : k < 2147483648) : a.toInt = (k : Int) ↔ a = nI k := by
  constructor
  · intro h
    refine Int32.toInt_inj.mp ?_
    rw [ti_nI hk]
    exact h
  · intro h
    rw [h, ti_nI hk]
theorem s_of : sim_of Rel := by
  intro c w hR a1 a2
  obtain ⟨v, s, p, hN⟩ := rel_now hR
  rcases inR_dec a1.toInt 0 9 with h | h
  · rcases inR_dec a2.toInt 0 3 with h2 | h2
    · obtain ⟨d', r1, r2, r3⟩ := run_spec (c_d c) hN.1 hN.2.2.1
      obtain ⟨w', t1, t2, t3, t4, t5, t6⟩ := triesAll_ok hN.2.1
      have hR1 : Rel c w' := rel_kp hR t2 (fun k _ => by rw [t4])
      have e1 := within_t (a := a2) (b := 0) (c := 3) h2
      have e2 := inI_t (a := a2) (b := 0) (c := 3) h2
      obtain ⟨k, hk, hk2, rfl⟩ := of_inR h
      obtain ⟨q, hq, hq2, rfl⟩ := of_inR h2
      have hk3 : k < 10 := by omega
      have hL := hN.2.1.1 k hk3
      have hC := hN.1.1 k hk3
      have hr2 := hN.2.1.2.1
      have h9 := isHour_t h
      have h9' := isHourL_t h
      have hq4 : q = 0 ∨ q = 1 ∨ q = 2 ∨ q = 3 := by omega
      rcases hq4 with rfl | rfl | rfl | rfl
      · skip
        refine simR (x := (vP v k, c)) (y := (vP v k, w')) ?_ ?_ rfl hR1
        · unfold f_X10_of
          rw [h9, e1, priceIn_spec hk3, hC.1]
          rfl
        · unfold f_X11_of
          rw [h9', e2, t1]
          simp only [Option.bind_some, one0, ↓reduceIte, i_0, i_8]
          simp (disch := omega) only [lt_eq, Option.bind_some, inb_t, cl_t, le_t, le_f, lt_t, lt_f, eq_t, eq_f, nI_add, nI_1, ↓reduceIte, t4, hL.1]
          rfl
      · skip
        refine simR (x := (vT v k, c)) (y := (vT v k, w')) ?_ ?_ rfl hR1
        · unfold f_X10_of
          rw [h9, e1, theirIn_spec hk3, hC.2]
          rfl
        · unfold f_X11_of
          rw [h9', e2, t1]
          simp only [Option.bind_some, one0, ↓reduceIte, i_0, i_1, i_18]
          simp (disch := omega) only [lt_eq, Option.bind_some, inb_t, cl_t, le_t, le_f, lt_t, lt_f, eq_t, eq_f, nI_add, nI_1, ↓reduceIte, t4, hL.2]
      · skip
        refine simR (x := (if rainB v k = true then 1 else 0, c)) (y := (if rainB v k = true then 1 else 0, w')) ?_ ?_ rfl hR1
        · unfold f_X10_of
          rw [h9, e1, rainsIn_spec k hN.1]
          simp only [Option.bind_some, one0, ↓reduceIte]
          rw [if_neg (by decide), if_neg (by decide), if_pos (by decide)]
          cases rainB v k
          · rfl
          · rfl
        · unfold f_X11_of
          rw [h9', e2, t1, ← rain_val]
          simp only [Option.bind_some, one0, ↓reduceIte]
          rw [if_neg (by decide), if_neg (by decide), if_pos (by decide), if_pos (by decide), show (2 : Int32).toNatClampNeg = 2 from rfl, t4, hr2]
      · skip
        refine simR (x := (pD_gone d' k, sc_d c d')) (y := (pL_goes w' k, w')) ?_ ?_ ((r3.2.2.2.1 k hk3).trans (t6.2.2.2.1 k hk3).symm) (rel_d hR1 d')
        · have e : f_X2_goneIn d' (nI k) = some (pD_gone d' k) := by
            unfold f_X2_goneIn
            have e0 : (nI k < 0) = False := lt_f (b := 0) (by omega) (by omega)
            simp only [i_10]
            simp (disch := omega) only [lt_eq, Option.bind_some, inb_t, cl_t, le_t, le_f, lt_t, lt_f, eq_t, eq_f, nI_add, nI_1, ↓reduceIte, e0]
          unfold f_X10_of
          rw [h9, e1, r1]
          simp only [Option.bind_some, one0, ↓reduceIte, lt_eq]
          rw [if_neg (by decide), if_neg (by decide), if_neg (by decide), show c_d (sc_d c d') = d' from rfl, e]
          rfl
        · unfold f_X11_of
          rw [h9', e2, t1]
          simp only [Option.bind_some, one0, ↓reduceIte, i_0, i_1, i_2]
          simp (disch := omega) only [lt_eq, Option.bind_some, inb_t, cl_t, le_t, le_f, lt_t, lt_f, eq_t, eq_f, nI_add, nI_1, ↓reduceIte]
    · refine simR (x := (-2, cBad c)) (y := (-2, wRef w 0)) ?_ ?_ rfl (rel_bad hR)
      · unfold f_X10_of f_X10_of_j16
        rw [isHour_t h, within_f h2]
        simp only [Option.bind_some, one0, ↓reduceIte, refuse_bad]
      · unfold f_X11_of f_X11_of_j19
        rw [isHourL_t h, inI_f h2]
        simp only [Option.bind_some, one0, ↓reduceIte, bad_spec]
  · refine simR (x := (-2, cBad c)) (y := (-2, wRef w 0)) ?_ ?_ rfl (rel_bad hR)
    · unfold f_X10_of f_X10_of_j16
      rw [isHour_f h]
      simp only [Option.bind_some, ↓reduceIte, refuse_bad]
    · unfold f_X11_of f_X11_of_j19
      rw [isHourL_f h]
      simp only [Option.bind_some, ↓reduceIte, bad_spec]
theorem s_about : sim_about Rel := by
  intro c w hR a1 a2
  obtain ⟨v, s, p, hN⟩ := rel_now hR
  have hn1 := hN.1.2.2.2.2.1
  have hn2 := hN.2.1.2.2.2.2.1
  have h8 := hN.1.2.2.2.2.2.1
  rcases inR_dec a1.toInt 0 ((vN v : Int) - 1) with h | h
  · have b1 := isBuyer_t (c := c) hn1 h8 h
    have b2 := isBuyerL_t (w := w) hn2 h8 h
    rcases inR_dec a2.toInt 0 4 with h2 | h2
    · have e1 := within_t (a := a2) (b := 0) (c := 4) h2
      have e2 := inI_t (a := a2) (b := 0) (c := 4) h2
      obtain ⟨b, hb, hb2, rfl⟩ := of_inR h
      obtain ⟨q, hq, hq2, rfl⟩ := of_inR h2
      have hb3 : b < vN v := by omega
      obtain ⟨l1, l2, l3, l4, l5, l6⟩ := hN.2.1.2.2.2.2.2.2 b hb3
      obtain ⟨g1, g2, g3, g4, g5, g6⟩ := hN.1.2.2.2.2.2.2 b hb3
      have hq4 : q = 0 ∨ q = 1 ∨ q = 2 ∨ q = 3 ∨ q = 4 := by omega
      rcases hq4 with rfl | rfl | rfl | rfl | rfl
      · skip
        refine simR (x := (nI (vK v b), c)) (y := (nI (vK v b), w)) ?_ ?_ rfl hR
        · unfold f_X10_about
          rw [b1, e1]
          simp only [Option.bind_some, one0, ↓reduceIte]
          rw [if_pos (by decide)]
          simp (disch := omega) only [lt_eq, Option.bind_some, inb_t, cl_t, le_t, le_f, lt_t, lt_f, eq_t, eq_f, nI_add, nI_1, ↓reduceIte, g1]
        · unfold f_X11_about
          rw [b2, e2]
          simp only [Option.bind_some, one0, ↓reduceIte]
          rw [if_neg (by decide), show (28 : Int32) + 8 * nI 0 = nI 28 from by decide]
          simp (disch := omega) only [lt_eq, Option.bind_some, inb_t, cl_t, le_t, le_f, lt_t, lt_f, eq_t, eq_f, nI_add, nI_1, ↓reduceIte, l1]
      · skip
        refine simR (x := (nI (vO v b), c)) (y := (nI (vO v b), w)) ?_ ?_ rfl hR
        · unfold f_X10_about
          rw [b1, e1]
          simp only [Option.bind_some, one0, ↓reduceIte]
          rw [if_neg (by decide), if_pos (by decide)]
          simp (disch := omega) only [lt_eq, Option.bind_some, inb_t, cl_t, le_t, le_f, lt_t, lt_f, eq_t, eq_f, nI_add, nI_1, ↓reduceIte, g3]
        · unfold f_X11_about
          rw [b2, e2]
          simp only [Option.bind_some, one0, ↓reduceIte]
          rw [if_neg (by decide), show (28 : Int32) + 8 * nI 1 = nI 36 from by decide]
          simp (disch := omega) only [lt_eq, Option.bind_some, inb_t, cl_t, le_t, le_f, lt_t, lt_f, eq_t, eq_f, nI_add, nI_1, ↓reduceIte, l3]
      · skip
        refine simR (x := (vW v b, c)) (y := (vW v b, w)) ?_ ?_ rfl hR
        · unfold f_X10_about
          rw [b1, e1]
          simp only [Option.bind_some, one0, ↓reduceIte]
          rw [if_neg (by decide), if_neg (by decide), if_pos (by decide)]
          simp (disch := omega) only [lt_eq, Option.bind_some, inb_t, cl_t, le_t, le_f, lt_t, lt_f, eq_t, eq_f, nI_add, nI_1, ↓reduceIte, g5]
        · unfold f_X11_about
          rw [b2, e2]
          simp only [Option.bind_some, one0, ↓reduceIte]
          rw [if_neg (by decide), show (28 : Int32) + 8 * nI 2 = nI 44 from by decide]
          simp (disch := omega) only [lt_eq, Option.bind_some, inb_t, cl_t, le_t, le_f, lt_t, lt_f, eq_t, eq_f, nI_add, nI_1, ↓reduceIte, l5]
      · skip
        refine simR (x := (vA v b, c)) (y := (vA v b, w)) ?_ ?_ rfl hR
        · unfold f_X10_about
          rw [b1, e1]
          simp only [Option.bind_some, one0, ↓reduceIte]
          rw [if_neg (by decide), if_neg (by decide), if_neg (by decide), if_pos (by decide)]
          simp (disch := omega) only [lt_eq, Option.bind_some, inb_t, cl_t, le_t, le_f, lt_t, lt_f, eq_t, eq_f, nI_add, nI_1, ↓reduceIte, g6]
        · unfold f_X11_about
          rw [b2, e2]
          simp only [Option.bind_some, one0, ↓reduceIte]
          rw [if_neg (by decide), show (28 : Int32) + 8 * nI 3 = nI 52 from by decide]
          simp (disch := omega) only [lt_eq, Option.bind_some, inb_t, cl_t, le_t, le_f, lt_t, lt_f, eq_t, eq_f, nI_add, nI_1, ↓reduceIte, l6]
      · skip
        obtain ⟨d', p1, p2⟩ := plan_spec (c_d c) hN.1
        refine simR (x := (takesI v b, sc_d c d')) (y := (takesI v b, w)) ?_ ?_ rfl (rel_d hR d')
        · unfold f_X10_about
          rw [b1, e1, p1]
          simp only [Option.bind_some, one0, ↓reduceIte, lt_eq]
          rw [if_neg (by decide), if_neg (by decide), if_neg (by decide), if_neg (by decide), show c_d (sc_d c d') = d' from rfl]
          simp (disch := omega) only [lt_eq, Option.bind_some, inb_t, cl_t, le_t, le_f, lt_t, lt_f, eq_t, eq_f, nI_add, nI_1, ↓reduceIte, (p2.1 b hb3).2.2.1]
        · unfold f_X11_about
          rw [b2, e2, takesOf_spec hN.2.1 hb3]
          simp only [Option.bind_some, one0, ↓reduceIte]
          rw [if_pos (by decide)]
    · refine simR (x := (-2, cBad c)) (y := (-2, wRef w 0)) ?_ ?_ rfl (rel_bad hR)
      · unfold f_X10_about f_X10_about_j17
        rw [b1, within_f h2]
        simp only [Option.bind_some, one0, ↓reduceIte, refuse_bad]
      · unfold f_X11_about f_X11_about_j20
        rw [b2, inI_f h2]
        simp only [Option.bind_some, one0, ↓reduceIte, bad_spec]
  · refine simR (x := (-2, cBad c)) (y := (-2, wRef w 0)) ?_ ?_ rfl (rel_bad hR)
    · unfold f_X10_about f_X10_about_j17
      rw [isBuyer_f hn1 h8 h]
      simp only [Option.bind_some, ↓reduceIte, refuse_bad]
    · unfold f_X11_about f_X11_about_j20
      rw [isBuyerL_f hn2 h8 h]
      simp only [Option.bind_some, ↓reduceIte, bad_spec]
-- served is 0 or 1
theorem comes_01 {v : VW} {pay : Nat → Int32} {x : DYS} {b j : Nat} (h : xS x j = 0 ∨ xS x j = 1) : xS (comesM v pay x b) j = 0 ∨ xS (comesM v pay x b) j = 1 := by
  have hs : xS (sellM v pay x b) j = 0 ∨ xS (sellM v pay x b) j = 1 := by
    unfold sellM
    by_cases q : pay b < vP v (hourN v b)
    · rw [if_pos q]; exact h
    · rw [if_neg q, lt_eq]
      generalize (if xL x ≤ takesI v b then xL x else takesI v b) = n
      show upd (xS x) b (if n ≤ 0 then 0 else 1) j = 0 ∨ upd (xS x) b (if n ≤ 0 then 0 else 1) j = 1
      rw [upd_eq]
      by_cases c : j = b
      · rw [if_pos c]
        by_cases c2 : n ≤ 0
        · rw [if_pos c2]; exact Or.inl rfl
        · rw [if_neg c2]; exact Or.inr rfl
      · rw [if_neg c]; exact h
  unfold comesM
  by_cases c1 : vT v (hourN v b) ≤ 0
  · rw [if_pos c1]; exact hs
  · rw [if_neg c1]
    by_cases c2 : vP v (hourN v b) ≤ vT v (hourN v b)
    · rw [if_pos c2]; exact hs
    · rw [if_neg c2]
      by_cases c3 : pay b < vT v (hourN v b)
      · rw [if_pos c3]; exact hs
      · rw [if_neg c3]
        show upd (xS x) b 1 j = 0 ∨ upd (xS x) b 1 j = 1
        rw [upd_eq]
        by_cases c : j = b
        · rw [if_pos c]; exact Or.inr rfl
        · rw [if_neg c]; exact h
theorem fold_01 {v : VW} {pay : Nat → Int32} {who : Int32} {j : Nat} : ∀ (l : List Nat) (x : DYS), (xS x j = 0 ∨ xS x j = 1) → xS (l.foldl (stepG v pay who) x) j = 0 ∨ xS (l.foldl (stepG v pay who) x) j = 1
  | [], x, h => h
  | b :: l, x, h => by
    rw [List.foldl_cons]
    refine fold_01 l _ ?_
    unfold stepG
    split
    · exact comes_01 h
    · exact h
theorem day_01 (v : VW) (pay : Nat → Int32) (who : Int32) (j : Nat) : xS (dayN v pay who) j = 0 ∨ xS (dayN v pay who) j = 1 := by
  rw [dayN_ord]
  exact fold_01 _ _ (Or.inl rfl)
theorem s_to : sim_to Rel := by
  intro c w hR a1 a2
  obtain ⟨v, s, p, hN⟩ := rel_now hR
  have hn1 := hN.1.2.2.2.2.1
  have hn2 := hN.2.1.2.2.2.2.1
  have h8 := hN.1.2.2.2.2.2.1
  rcases inR_dec a1.toInt 0 ((vN v : Int) - 1) with h | h
  · have b1 := isBuyer_t (c := c) hn1 h8 h
    have b2 := isBuyerL_t (w := w) hn2 h8 h
    rcases inR_dec a2.toInt 0 3 with h2 | h2
    · have e1 := within_t (a := a2) (b := 0) (c := 3) h2
      have e2 := inI_t (a := a2) (b := 0) (c := 3) h2
      obtain ⟨b, hb, hb2, rfl⟩ := of_inR h
      obtain ⟨q, hq, hq2, rfl⟩ := of_inR h2
      have hb3 : b < vN v := by omega
      have hb8 : b < 8 := by omega
      obtain ⟨d', r1, r2, r3⟩ := run_spec (c_d c) hN.1 hN.2.2.1
      obtain ⟨w', t1, t2, t3, t4, t5, t6⟩ := triesAll_ok hN.2.1
      have hR1 : Rel (sc_d c d') w' := rel_d (rel_kp hR t2 (fun k _ => by rw [t4])) d'
      have hv' : VL (pL_w w') v := by rw [t4]; exact hN.2.1
      have ho : ∀ b, b < vN v → vO v b < 10 := fun b hb => (hN.2.2.1.2.2.2 b hb).1
      obtain ⟨p1, p2, p3, p4⟩ := r2.1 b hb3
      have q3 := r3.2.2.2.2 b hb8
      have q6 := t6.2.2.2.2 b hb8
      have hq4 : q = 0 ∨ q = 1 ∨ q = 2 ∨ q = 3 := by omega
      rcases hq4 with rfl | rfl | rfl | rfl
      · skip
        refine simR (x := (nI (hourN v b), sc_d c d')) (y := (nI (hourN v b), w')) ?_ ?_ rfl hR1
        · unfold f_X10_to
          rw [b1, e1, r1]
          simp only [Option.bind_some, one0, ↓reduceIte, lt_eq]
          rw [if_pos (by decide), show c_d (sc_d c d') = d' from rfl]
          simp (disch := omega) only [lt_eq, Option.bind_some, inb_t, cl_t, le_t, le_f, lt_t, lt_f, eq_t, eq_f, nI_add, nI_1, ↓reduceIte, p1]
        · unfold f_X11_to
          rw [b2, e2, t1]
          simp only [Option.bind_some, one0, ↓reduceIte]
          rw [if_pos (by decide), hourOf_spec hv' hb3]
          rfl
      · skip
        refine simR (x := (paysI v b, sc_d c d')) (y := (paysI v b, w')) ?_ ?_ rfl hR1
        · unfold f_X10_to
          rw [b1, e1, r1]
          simp only [Option.bind_some, one0, ↓reduceIte, lt_eq]
          rw [if_neg (by decide), if_pos (by decide), show c_d (sc_d c d') = d' from rfl]
          simp (disch := omega) only [lt_eq, Option.bind_some, inb_t, cl_t, le_t, le_f, lt_t, lt_f, eq_t, eq_f, nI_add, nI_1, ↓reduceIte, p2]
        · unfold f_X11_to
          rw [b2, e2, t1]
          simp only [Option.bind_some, one0, ↓reduceIte]
          rw [if_neg (by decide), if_pos (by decide), paysOf_spec hv' hb3, t5, paySh_none ho b hb3]
          rfl
      · skip
        refine simR (x := (xB (dayN v (paysI v) 255) b, sc_d c d')) (y := (xB (dayN v (paysI v) 255) b, w')) ?_ ?_ rfl hR1
        · unfold f_X10_to
          rw [b1, e1, r1]
          simp only [Option.bind_some, one0, ↓reduceIte, lt_eq]
          rw [if_neg (by decide), if_neg (by decide), if_pos (by decide), show c_d (sc_d c d') = d' from rfl]
          simp (disch := omega) only [lt_eq, Option.bind_some, inb_t, cl_t, le_t, le_f, lt_t, lt_f, eq_t, eq_f, nI_add, nI_1, ↓reduceIte, q3.1]
        · unfold f_X11_to
          rw [b2, e2, t1]
          simp only [Option.bind_some, one0, ↓reduceIte]
          rw [if_neg (by decide), if_neg (by decide), if_pos (by decide)]
          simp (disch := omega) only [lt_eq, Option.bind_some, inb_t, cl_t, le_t, le_f, lt_t, lt_f, eq_t, eq_f, nI_add, nI_1, ↓reduceIte, q6.1]
      · skip
        refine simR (x := (xS (dayN v (paysI v) 255) b, sc_d c d')) (y := (xS (dayN v (paysI v) 255) b, w')) ?_ ?_ rfl hR1
        · unfold f_X10_to
          rw [b1, e1, r1]
          simp only [Option.bind_some, one0, ↓reduceIte, lt_eq]
          rw [if_neg (by decide), if_neg (by decide), if_neg (by decide), show c_d (sc_d c d') = d' from rfl]
          simp (disch := omega) only [lt_eq, Option.bind_some, inb_t, cl_t, le_t, le_f, lt_t, lt_f, eq_t, eq_f, nI_add, nI_1, ↓reduceIte, q3.2]
        · unfold f_X11_to
          rw [b2, e2, t1]
          simp only [Option.bind_some, one0, ↓reduceIte]
          rw [if_neg (by decide), if_neg (by decide), if_neg (by decide)]
          simp (disch := omega) only [lt_eq, Option.bind_some, inb_t, cl_t, le_t, le_f, lt_t, lt_f, eq_t, eq_f, nI_add, nI_1, ↓reduceIte, q6.2]
          rcases day_01 v (paysI v) 255 b with g | g
          · rw [if_pos g, g]
          · rw [if_neg (by rw [g]; decide), g]
    · refine simR (x := (-2, cBad c)) (y := (-2, wRef w 0)) ?_ ?_ rfl (rel_bad hR)
      · unfold f_X10_to f_X10_to_j17
        rw [b1, within_f h2]
        simp only [Option.bind_some, one0, ↓reduceIte, refuse_bad]
      · unfold f_X11_to f_X11_to_j20
        rw [b2, inI_f h2]
        simp only [Option.bind_some, one0, ↓reduceIte, bad_spec]
  · refine simR (x := (-2, cBad c)) (y := (-2, wRef w 0)) ?_ ?_ rfl (rel_bad hR)
    · unfold f_X10_to f_X10_to_j17
      rw [isBuyer_f hn1 h8 h]
      simp only [Option.bind_some, ↓reduceIte, refuse_bad]
    · unfold f_X11_to f_X11_to_j20
      rw [isBuyerL_f hn2 h8 h]
      simp only [Option.bind_some, ↓reduceIte, bad_spec]
-- the shout
theorem payMore_spec {d : DSt} {v : VW} {h : Nat} (hh : h < 10) (h8 : vN v ≤ 8) (ho : ∀ b, b < vN v → vO v b < 10) (hd : PD d v (paysI v) (vN v)) : ∃ d', f_X2_payMore d (nI h) 5 = some d' ∧ PD d' v (paySh v (nI h)) (vN v) ∧ pD_takings d' = pD_takings d := by
  have e : f_X2_payMore d (nI h) 5 = some (sD_pays d (fun j => if j < 8 ∧ pD_when d j = nI h then pD_pays d j + 5 else pD_pays d j)) := by
    clear hd
    unfold f_X2_payMore
    obtain ⟨d_0, d_1, d_2, d_3, d_4, d_5, d_6, d_7, d_8, d_9, d_10⟩ := d
    refine lp_run1 (step := f_X2_payMore_s2 (nI h) 5) (fun k => (nI k, sD_pays (d_0, d_1, d_2, d_3, d_4, d_5, d_6, d_7, d_8, d_9, d_10) (fun j => if j < k ∧ d_0 j = nI h then d_1 j + 5 else d_1 j))) 8 (by omega) ?_ (fun k K hk => ?_) (fun K => ?_)
    · have e0 : (fun j => if j < 0 ∧ d_0 j = nI h then d_1 j + 5 else d_1 j) = d_1 := by
        funext j
        rw [if_neg (by omega)]
      rw [e0]
      rfl
    · unfold f_X2_payMore_s2 f_X2_payMore_j28
      simp only [i_8, sD_pays_mk]
      simp (disch := omega) only [lt_eq, Option.bind_some, inb_t, cl_t, le_t, le_f, lt_t, lt_f, eq_t, eq_f, nI_add, nI_1, ↓reduceIte, sD_when_mk, sD_pays_mk, sD_carries_mk, sD_staysAway_mk, sD_order_mk, sD_gone_mk, sD_got_mk, sD_served_mk, sD_left_mk, sD_takings_mk, sD_theirTakings_mk, pD_when, pD_pays, pD_carries, pD_staysAway, pD_order, pD_gone, pD_got, pD_served, pD_left, pD_takings, pD_theirTakings]
      have e1 : (if k < k ∧ d_0 k = nI h then d_1 k + 5 else d_1 k) = d_1 k := if_neg (by omega)
      rw [e1]
      by_cases c : d_0 k = nI h
      · rw [if_pos c]
        refine congrArg K (congrArg (Prod.mk _) ?_)
        refine congrArg (fun f => (d_0, f, d_2, d_3, d_4, d_5, d_6, d_7, d_8, d_9, d_10)) ?_
        funext j
        rw [upd_eq]
        by_cases c1 : j = k
        · rw [if_pos c1, if_pos ⟨by omega, by rw [c1]; exact c⟩, c1]
        · rw [if_neg c1]
          by_cases c2 : j < k ∧ d_0 j = nI h
          · rw [if_pos c2, if_pos ⟨by omega, c2.2⟩]
          · rw [if_neg c2, if_neg (fun e => c2 ⟨by omega, e.2⟩)]
      · rw [if_neg c]
        refine congrArg K (congrArg (Prod.mk _) ?_)
        refine congrArg (fun f => (d_0, f, d_2, d_3, d_4, d_5, d_6, d_7, d_8, d_9, d_10)) ?_
        funext j
        by_cases c2 : j < k ∧ d_0 j = nI h
        · rw [if_pos c2, if_pos ⟨by omega, c2.2⟩]
        · rw [if_neg c2, if_neg (fun e => c2 ⟨by
            have : j ≠ k := fun e2 => c (e2 ▸ e.2)
            omega, e.2⟩)]
    · unfold f_X2_payMore_s2
      simp only [i_8]
      simp (disch := omega) only [lt_eq, Option.bind_some, inb_t, cl_t, le_t, le_f, lt_t, lt_f, eq_t, eq_f, nI_add, nI_1, ↓reduceIte]
  refine ⟨_, e, ?_⟩
  clear e
  obtain ⟨p1, p2⟩ := hd
  obtain ⟨d_0, d_1, d_2, d_3, d_4, d_5, d_6, d_7, d_8, d_9, d_10⟩ := d
  simp only [sD_pays_mk]
  refine ⟨⟨fun b hb => ?_, p2⟩, trivial⟩
  obtain ⟨g1, g2, g3, g4⟩ := p1 b hb
  have hb8 : b < 8 := by omega
  refine ⟨g1, ?_, g3, g4⟩
  have g1 : d_0 b = nI (hourN v b) := g1
  have g2 : d_1 b = paysI v b := g2
  show (if b < 8 ∧ d_0 b = nI h then d_1 b + 5 else d_1 b) = paySh v (nI h) b
  unfold paySh
  rw [g1, g2]
  by_cases c : nI (hourN v b) = nI h
  · rw [if_pos ⟨hb8, c⟩, if_pos c]
  · rw [if_neg (fun e => c e.2), if_neg c]
theorem s_shout : sim_shout Rel := by
  intro c w hR a1
  obtain ⟨v, s, p, hN⟩ := rel_now hR
  rcases inR_dec a1.toInt 0 9 with h | h
  · have e1 := isHour_t h
    have e2 := isHourL_t h
    obtain ⟨k, hk, hk2, rfl⟩ := of_inR h
    have hk3 : k < 10 := by omega
    have ho : ∀ b, b < vN v → vO v b < 10 := fun b hb => (hN.2.2.1.2.2.2 b hb).1
    obtain ⟨d1, r1, r2, r3⟩ := run_spec (c_d c) hN.1 hN.2.2.1
    obtain ⟨d2, p1, p2, p3⟩ := payMore_spec hk3 hN.1.2.2.2.2.2.1 ho r2
    obtain ⟨d3, g1, g2, g3⟩ := walk_spec 255 hN.1 hN.2.2.1 p2
    obtain ⟨w1, t1, t2, t3, t4, t5, t6⟩ := triesAll_ok hN.2.1
    obtain ⟨k1, k2, k3, k4, k5⟩ := kp_sh w1 (nI k)
    have hv2 : VL (pL_w (sL_shouted w1 (nI k))) v := by rw [k3, t4]; exact hN.2.1
    obtain ⟨w2, u1, u2, u3, u4, u5, u6⟩ := tries_ok 255 hv2
    obtain ⟨l1, l2, l3, l4, l5⟩ := kp_sh w2 (-1)
    rw [k4] at u6
    refine simR (x := (pD_takings d3 - pD_takings d1, sc_d (sc_d (sc_d c d1) d2) d3)) (y := (pL_takings (sL_shouted w2 (-1)) - pL_takings w1, sL_shouted w2 (-1))) ?_ ?_ ?_ ?_
    · unfold f_X10_shout
      rw [e1, r1]
      simp only [Option.bind_some, one0, ↓reduceIte, lt_eq]
      rw [show c_d (sc_d c d1) = d1 from rfl, p1]
      simp only [Option.bind_some, lt_eq]
      rw [show c_d (sc_d (sc_d c d1) d2) = d2 from rfl, show c_m0 (sc_d (sc_d c d1) d2) = c_m0 c from rfl, g1]
      rfl
    · unfold f_X11_shout
      rw [e2, t1]
      simp only [Option.bind_some, one0, ↓reduceIte, lt_eq]
      rw [u1]
      rfl
    · show pD_takings d3 - pD_takings d1 = pL_takings (sL_shouted w2 (-1)) - pL_takings w1
      rw [l5, g3.2.1, r3.2.1, u6.2.1, t6.2.1]
    · refine rel_d (rel_d (rel_d (rel_kp hR (Kp_trans (Kp_trans (Kp_trans t2 k1) u2) l1) (fun j _ => ?_)) _) _) _
      rw [l3, u4, k3, t4]
  · refine simR (x := (-10000, cBad c)) (y := (-10000, wRef w 0)) ?_ ?_ rfl (rel_bad hR)
    · unfold f_X10_shout
      rw [isHour_f h]
      simp only [Option.bind_some, ↓reduceIte, refuse_bad]
    · unfold f_X11_shout
      rw [isHourL_f h]
      simp only [Option.bind_some, ↓reduceIte, badAs_spec]
