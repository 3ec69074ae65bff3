-- ===== best =====
theorem fall_t {a b : Int32} (h1 : inR a.toInt 0 99) (h2 : inR b.toInt 0 a.toInt) : f_X10_fall a b = some 1 := by
  unfold f_X10_fall
  rw [within_t h1, within_t h2]
  simp only [Option.bind_some, one0, ↓reduceIte]
theorem fall_f {a b : Int32} (h : ¬ (inR a.toInt 0 99 ∧ inR b.toInt 0 a.toInt)) : f_X10_fall a b = some 0 := by
  unfold f_X10_fall
  rcases inR_dec a.toInt 0 99 with h1 | h1
  · rw [within_t h1, within_f (fun e => h ⟨h1, e⟩)]
    simp only [Option.bind_some, one0, ↓reduceIte]
  · rw [within_f h1]
    simp only [Option.bind_some, ↓reduceIte]
theorem bestC (a1 a2 a3 a4 : Int32) (K53 : (Int32 × Int32 × Int32 × CSt) → Option (Int32 × CSt)) (K64 : (Int32 × Int32 × Int32 × Int32 × CSt) → Option (Int32 × CSt)) (x z : Int32) {i j : Nat} (hi : i ≤ 10) (hj : j ≤ 10) (gc : CSt) {d' : DSt} (hd : f_X2_run (c_d gc) (sM_prices (c_m1 gc) (fun h => if j ≤ h ∧ h < 10 then a3 else if i ≤ h ∧ h < 10 then a2 else if 0 ≤ h ∧ h < 10 then a1 else pM_prices (c_m1 gc) h)) = some d') : f_X10_best_s64 a1 a2 a3 a4 K53 K64 (x, z, nI i, nI j, gc) = K64 (if pD_takings d' ≤ x then x else pD_takings d', if pD_takings d' ≤ x then z else 11 * nI i + nI j, nI i, nI (j + 1), sc_d (sc_m1 gc (sM_prices (c_m1 gc) (fun h => if j ≤ h ∧ h < 10 then a3 else if i ≤ h ∧ h < 10 then a2 else if 0 ≤ h ∧ h < 10 then a1 else pM_prices (c_m1 gc) h))) d') := by
  have e0 := setP_C (c_m1 gc) (h := 0) a1 (by omega)
  have e1 := setP_C (sM_prices (c_m1 gc) (fun j => if 0 ≤ j ∧ j < 10 then a1 else pM_prices (c_m1 gc) j)) (h := i) a2 (by omega)
  rw [p_pr, pr_pr] at e1
  have e2 := setP_C (sM_prices (c_m1 gc) (fun h => if i ≤ h ∧ h < 10 then a2 else if 0 ≤ h ∧ h < 10 then a1 else pM_prices (c_m1 gc) h)) (h := j) a3 (by omega)
  rw [p_pr, pr_pr] at e2
  unfold f_X10_best_s64 f_X10_best_j141 f_X10_pairOf
  simp only [i_10, i_0]
  simp (disch := omega) only [lt_eq, Option.bind_some, inb_t, cl_t, le_t, le_f, lt_t, lt_f, eq_t, eq_f, nI_add, nI_1, ↓reduceIte, e0, e1, e2, c_m1m1, c_dm1, m1_m1, hd, c_dd]
  by_cases c : pD_takings d' ≤ x
  · simp only [c, ↓reduceIte]
  · simp only [c, ↓reduceIte]
theorem bestL (a1 a2 a3 a4 : Int32) (K60 : (Int32 × Int32 × Int32 × LSt) → Option (Int32 × LSt)) (K71 : (Int32 × Int32 × Int32 × Int32 × LSt) → Option (Int32 × LSt)) (x z : Int32) {i j : Nat} (hi : i ≤ j) (hj : j ≤ 10) (gw : LSt) {w' : LSt} (hd : f_X11_tries (sL_w gw (fun t => if 8 ≤ t ∧ t < 8 + 10 then prB a1 a2 a3 i j (t - 8) else pL_w gw t)) 255 = some w') : f_X11_best_s71 a1 a2 a3 a4 K60 K71 (x, z, nI i, nI j, gw) = K71 (if pL_takings w' ≤ x then x else pL_takings w', if pL_takings w' ≤ x then z else 11 * nI i + nI j, nI i, nI (j + 1), w') := by
  unfold f_X11_best_s71
  simp only [i_10]
  simp (disch := omega) only [lt_eq, Option.bind_some, inb_t, cl_t, le_t, le_f, lt_t, lt_f, eq_t, eq_f, nI_add, nI_1, ↓reduceIte]
  rw [fillB a1 a2 a3 a4 K60 K71 x z hi hj gw]
  unfold f_X11_best_j127 f_X11_best_j156 f_X11_best_j176
  rw [hd]
  simp only [Option.bind_some, nI_1]
  by_cases c : pL_takings w' ≤ x
  · simp only [c, ↓reduceIte]
  · simp only [c, ↓reduceIte]
def TB (c0 : CSt) (w0 : LSt) (c : CSt) (w : LSt) (s p : Nat) : Prop := (∃ v, Tr c0 w0 c w v s p) ∧ (∀ k, k < 20 → pL_aside w k = pL_w w0 (8 + k)) ∧ ∀ k, k < 456 → ¬ (8 ≤ k ∧ k < 28) → pL_w w k = pL_w w0 k
theorem best_step {c0 gc : CSt} {w0 gw : LSt} {s p i j : Nat} {a1 a2 a3 : Int32} (hij : i ≤ j) (h1 : inR a1.toInt 0 99) (h2 : inR a2.toInt 0 99) (h3 : inR a3.toInt 0 99) (hT : TB c0 w0 gc gw s p) : ∃ d' w', f_X2_run (c_d gc) (sM_prices (c_m1 gc) (fun h => if j ≤ h ∧ h < 10 then a3 else if i ≤ h ∧ h < 10 then a2 else if 0 ≤ h ∧ h < 10 then a1 else pM_prices (c_m1 gc) h)) = some d' ∧ f_X11_tries (sL_w gw (fun t => if 8 ≤ t ∧ t < 8 + 10 then prB a1 a2 a3 i j (t - 8) else pL_w gw t)) 255 = some w' ∧ TB c0 w0 (sc_d (sc_m1 gc (sM_prices (c_m1 gc) (fun h => if j ≤ h ∧ h < 10 then a3 else if i ≤ h ∧ h < 10 then a2 else if 0 ≤ h ∧ h < 10 then a1 else pM_prices (c_m1 gc) h))) d') w' s p ∧ pD_takings d' = pL_takings w' := by
  obtain ⟨⟨v, hT⟩, ha, hf⟩ := hT
  have hp := pr_eq hT.2.2.2
  have hb := pr_bd hT.2.2.2
  have hT2 := tr_pr (q := fun h => if j ≤ h ∧ h < 10 then a3 else if i ≤ h ∧ h < 10 then a2 else if 0 ≤ h ∧ h < 10 then a1 else pM_prices (c_m1 gc) h) (q2 := pM_theirPrices (c_m1 gc)) (g := fun t => if 8 ≤ t ∧ t < 8 + 10 then prB a1 a2 a3 i j (t - 8) else pL_w gw t) hT (fun k hk => ?_) (fun k hk => ?_) (fun k hk => ?_) (fun k hk hk2 => ?_)
  · rw [setPT] at hT2
    obtain ⟨d', w', r1, r2, r3, r4, r5, r6, r7⟩ := tr_run hT2
    rw [wW] at r5
    refine ⟨d', w', r1, r2, ⟨⟨_, r3⟩, fun k hk => ?_, fun k hk hk2 => ?_⟩, r6.2.1.trans r7.2.1.symm⟩
    · rw [r4.1, (kp_w gw _).2.1]
      exact ha k hk
    · rw [r5]
      show (if 8 ≤ k ∧ k < 8 + 10 then prB a1 a2 a3 i j (k - 8) else pL_w gw k) = pL_w w0 k
      rw [if_neg (by omega)]
      exact hf k hk hk2
  · show (if j ≤ k ∧ k < 10 then a3 else if i ≤ k ∧ k < 10 then a2 else if 0 ≤ k ∧ k < 10 then a1 else pM_prices (c_m1 gc) k) = (if 8 ≤ 8 + k ∧ 8 + k < 8 + 10 then prB a1 a2 a3 i j (8 + k - 8) else pL_w gw (8 + k))
    rw [if_pos (show 8 ≤ 8 + k ∧ 8 + k < 8 + 10 by omega), show 8 + k - 8 = k from by omega]
    unfold prB
    by_cases c1 : k < i
    · rw [if_pos c1, if_neg (by omega), if_neg (by omega), if_pos (by omega)]
    · rw [if_neg c1]
      by_cases c2 : k < j
      · rw [if_pos c2, if_neg (by omega), if_pos (by omega)]
      · rw [if_neg c2, if_pos (by omega)]
  · show pM_theirPrices (c_m1 gc) k = (if 8 ≤ 18 + k ∧ 18 + k < 8 + 10 then prB a1 a2 a3 i j (18 + k - 8) else pL_w gw (18 + k))
    rw [if_neg (by omega)]
    exact (hp k hk).2
  · show 0 ≤ (if 8 ≤ 8 + k ∧ 8 + k < 8 + 10 then prB a1 a2 a3 i j (8 + k - 8) else pL_w gw (8 + k)).toInt ∧ (if 8 ≤ 8 + k ∧ 8 + k < 8 + 10 then prB a1 a2 a3 i j (8 + k - 8) else pL_w gw (8 + k)).toInt ≤ 99
    by_cases c : k < 10
    · rw [if_pos (by omega)]
      exact prB_bd h1 h2 h3
    · rw [if_neg (by omega)]
      exact hb k hk
  · show pL_w gw k = (if 8 ≤ k ∧ k < 8 + 10 then prB a1 a2 a3 i j (k - 8) else pL_w gw k)
    rw [if_neg (by omega)]
theorem s_best : sim_best Rel := by
  intro c w hR a1 a2 a3 a4
  by_cases hc : inR a1.toInt 0 99 ∧ inR a2.toInt 0 99 ∧ inR a3.toInt 0 99 ∧ a2.toInt ≤ a1.toInt ∧ a3.toInt ≤ a2.toInt ∧ inR a4.toInt 0 1
  · obtain ⟨h1, h2, h3, h12, h23, h4⟩ := hc
    obtain ⟨w1, l1, l2, l3, l4, l5⟩ := lays_L w
    obtain ⟨u, v, s, p, b1, b2, b3⟩ := tr_begin hR l2 l3 l4
    have e1 : ∀ X, lp (f_X10_best_s53 a1 a2 a3 a4) 1000 ((-1 : Int32), (0 : Int32), (0 : Int32), sc_m1 c u) = X → f_X10_best c a1 a2 a3 a4 = X := by
      intro X hX
      unfold f_X10_best
      rw [fall_t h1 ⟨h2.1, h12⟩, fall_t h2 ⟨h3.1, h23⟩, within_t h4, b1]
      simp only [Option.bind_some, one0, ↓reduceIte]
      rw [lt_eq]
      exact hX
    have e2 : ∀ X, lp (f_X11_best_s60 a1 a2 a3 a4) 1000 ((-1 : Int32), (0 : Int32), (0 : Int32), w1) = X → f_X11_best w a1 a2 a3 a4 = X := by
      intro X hX
      unfold f_X11_best
      have n1 : ¬ a1 < a2 := fun e => by have := Int32.lt_iff_toInt_lt.mp e; omega
      have n2 : ¬ a2 < a3 := fun e => by have := Int32.lt_iff_toInt_lt.mp e; omega
      rw [isPrice_t h1, Option.bind_some, if_neg one0, isPrice_t h2, Option.bind_some, if_neg one0, isPrice_t h3, Option.bind_some, if_neg one0, if_neg n1, if_neg n2, inI_t h4, Option.bind_some, if_neg one0, l1, Option.bind_some]
      exact hX
    have hP : (fun oc ol => ∃ (x : Int32 × CSt) (y : Int32 × LSt), oc = some x ∧ ol = some y ∧ x.1 = y.1 ∧ Rel x.2 y.2) (lp (f_X10_best_s53 a1 a2 a3 a4) 1000 ((-1 : Int32), (0 : Int32), (0 : Int32), sc_m1 c u)) (lp (f_X11_best_s60 a1 a2 a3 a4) 1000 ((-1 : Int32), (0 : Int32), (0 : Int32), w1)) := ?_
    · obtain ⟨x, y, q1, q2, q3, q4⟩ := hP
      exact ⟨x, y, e1 _ q1, e2 _ q2, q3, q4⟩
    refine lp_two0 (sC := f_X10_best_s53 a1 a2 a3 a4) (sL := f_X11_best_s60 a1 a2 a3 a4) (fun k a b => ∃ x z gc gw, a = (x, z, nI k, gc) ∧ b = (x, z, nI k, gw) ∧ TB c w gc gw s p) 11 (by omega) (P := fun oc ol => ∃ x y, oc = some x ∧ ol = some y ∧ x.1 = y.1 ∧ Rel x.2 y.2) ?_ (fun k a b K K' hk hI => ?_) (fun a b K K' hI => ?_)
    · exact ⟨-1, 0, sc_m1 c u, w1, rfl, rfl, ⟨v, b2⟩, l5, fun k _ _ => by rw [l3]⟩
    · obtain ⟨x, z, gc, gw, rfl, rfl, hT⟩ := hI
      have nk : ¬ (10 : Int32) < nI k := by
        rw [i_10, lt_nI (by omega) (by omega)]
        omega
      have e3 : f_X10_best_s53 a1 a2 a3 a4 K (x, z, nI k, gc) = lp (f_X10_best_s64 a1 a2 a3 a4 K) 1000 (x, z, nI k, nI k, gc) := by
        unfold f_X10_best_s53
        exact if_neg nk
      have e4 : f_X11_best_s60 a1 a2 a3 a4 K' (x, z, nI k, gw) = lp (f_X11_best_s71 a1 a2 a3 a4 K') 1000 (x, z, nI k, nI k, gw) := by
        unfold f_X11_best_s60
        exact if_neg nk
      rw [e3, e4]
      refine lp_two0 (sC := f_X10_best_s64 a1 a2 a3 a4 K) (sL := f_X11_best_s71 a1 a2 a3 a4 K') (fun i a b => ∃ x z gc gw, a = (x, z, nI k, nI (k + i), gc) ∧ b = (x, z, nI k, nI (k + i), gw) ∧ TB c w gc gw s p) (11 - k) (by omega) (P := fun oc ol => ∃ a' b', (∃ x z gc gw, a' = (x, z, nI (k + 1), gc) ∧ b' = (x, z, nI (k + 1), gw) ∧ TB c w gc gw s p) ∧ oc = K a' ∧ ol = K' b') ?_ (fun i a b J J' hi hI => ?_) (fun a b J J' hI => ?_)
      · exact ⟨x, z, gc, gw, rfl, rfl, hT⟩
      · obtain ⟨x, z, gc, gw, rfl, rfl, hT⟩ := hI
        obtain ⟨d', w', r1, r2, r3, r4⟩ := best_step (i := k) (j := k + i) (by omega) h1 h2 h3 hT
        refine ⟨_, _, ?_, bestC a1 a2 a3 a4 K J x z (by omega) (by omega) gc r1, bestL a1 a2 a3 a4 K' J' x z (by omega) (by omega) gw r2⟩
        rw [r4]
        exact ⟨_, _, _, _, rfl, rfl, r3⟩
      · obtain ⟨x, z, gc, gw, rfl, rfl, hT⟩ := hI
        refine ⟨_, _, ⟨x, z, gc, gw, rfl, rfl, hT⟩, ?_, ?_⟩
        · unfold f_X10_best_s64 f_X10_best_j147
          simp only [i_10]
          simp (disch := omega) only [lt_eq, Option.bind_some, inb_t, cl_t, le_t, le_f, lt_t, lt_f, eq_t, eq_f, nI_add, nI_1, ↓reduceIte]
        · unfold f_X11_best_s71 f_X11_best_j184
          simp only [i_10]
          simp (disch := omega) only [lt_eq, Option.bind_some, inb_t, cl_t, le_t, le_f, lt_t, lt_f, eq_t, eq_f, nI_add, nI_1, ↓reduceIte]
    · obtain ⟨x, z, gc, gw, rfl, rfl, ⟨v', hT⟩, ha, hf⟩ := hI
      have hR2 := back_rel hR hT ha hf
      refine ⟨(if a4 = 0 then x else z, gc), (if a4 = 0 then x else z, sL_w gw (fun j => if 8 ≤ j ∧ j < 8 + 20 then pL_aside gw (j - 8) else pL_w gw j)), ?_, ?_, rfl, hR2⟩
      · unfold f_X10_best_s53 f_X10_best_j153
        simp only [i_10]
        simp (disch := omega) only [lt_eq, Option.bind_some, inb_t, cl_t, le_t, le_f, lt_t, lt_f, eq_t, eq_f, nI_add, nI_1, ↓reduceIte]
        by_cases c4 : a4 = 0
        · simp only [c4, ↓reduceIte]
        · simp only [c4, ↓reduceIte]
      · unfold f_X11_best_s60 f_X11_best_j190
        simp only [i_10]
        simp (disch := omega) only [lt_eq, Option.bind_some, inb_t, cl_t, le_t, le_f, lt_t, lt_f, eq_t, eq_f, nI_add, nI_1, ↓reduceIte, putsBack_L]
        by_cases c4 : a4 = 0
        · simp only [c4, ↓reduceIte]
        · simp only [c4, ↓reduceIte]
  · refine simR (x := (-2, cBad c)) (y := (-2, wRef w 0)) ?_ ?_ rfl (rel_bad hR)
    · unfold f_X10_best f_X10_best_j26
      by_cases c1 : inR a1.toInt 0 99 ∧ inR a2.toInt 0 a1.toInt
      · rw [fall_t c1.1 c1.2]
        by_cases c2 : inR a2.toInt 0 99 ∧ inR a3.toInt 0 a2.toInt
        · rw [fall_t c2.1 c2.2, within_f (fun e => hc ⟨c1.1, c2.1, ⟨c2.2.1, Int.le_trans c2.2.2 c2.1.2⟩, c1.2.2, c2.2.2, e⟩)]
          simp only [Option.bind_some, one0, ↓reduceIte, refuse_bad]
        · rw [fall_f c2]
          simp only [Option.bind_some, one0, ↓reduceIte, refuse_bad]
      · rw [fall_f c1]
        simp only [Option.bind_some, ↓reduceIte, refuse_bad]
    · unfold f_X11_best f_X11_best_j42
      rcases inR_dec a1.toInt 0 99 with h1 | h1
      · rw [isPrice_t h1]
        rcases inR_dec a2.toInt 0 99 with h2 | h2
        · rw [isPrice_t h2]
          rcases inR_dec a3.toInt 0 99 with h3 | h3
          · rw [isPrice_t h3]
            by_cases c1 : a1 < a2
            · simp only [Option.bind_some, one0, ↓reduceIte, bad_spec, c1]
            · by_cases c2 : a2 < a3
              · simp only [Option.bind_some, one0, ↓reduceIte, bad_spec, c1, c2]
              · have q1 : ¬ a1.toInt < a2.toInt := fun e => c1 (Int32.lt_iff_toInt_lt.mpr e)
                have q2 : ¬ a2.toInt < a3.toInt := fun e => c2 (Int32.lt_iff_toInt_lt.mpr e)
                rw [inI_f (fun e => hc ⟨h1, h2, h3, by omega, by omega, e⟩)]
                simp only [Option.bind_some, one0, ↓reduceIte, bad_spec, c1, c2]
          · rw [isPrice_f h3]
            simp only [Option.bind_some, one0, ↓reduceIte, bad_spec]
        · rw [isPrice_f h2]
          simp only [Option.bind_some, one0, ↓reduceIte, bad_spec]
      · rw [isPrice_f h1]
        simp only [Option.bind_some, ↓reduceIte, bad_spec]
