-- ===== trials =====
theorem lp_two {α β γ δ : Type} {sC : (α → Option γ) → α → Option γ} {sL : (β → Option δ) → β → Option δ} (I : Nat → α → β → Prop) (N : Nat) {P : Option γ → Option δ → Prop} (hs : ∀ k a b K K', k < N → I k a b → ∃ a' b', I (k + 1) a' b' ∧ sC K a = K a' ∧ sL K' b = K' b') (he : ∀ a b K K', I N a b → P (sC K a) (sL K' b)) : ∀ (d k n : Nat) (a : α) (b : β), k + d = N → d < n → I k a b → P (lp sC n a) (lp sL n b) := by
  intro d
  induction d with
  | zero =>
    intro k n a b hk hn hI
    obtain ⟨m, rfl⟩ : ∃ m, n = m + 1 := ⟨n - 1, by omega⟩
    have : k = N := by omega
    subst this
    rw [lp_succ, lp_succ]
    exact he a b _ _ hI
  | succ d ih =>
    intro k n a b hk hn hI
    obtain ⟨m, rfl⟩ : ∃ m, n = m + 1 := ⟨n - 1, by omega⟩
    obtain ⟨a', b', h1, h2, h3⟩ := hs k a b (lp sC m) (lp sL m) (by omega) hI
    rw [lp_succ, lp_succ, h2, h3]
    exact ih (k + 1) m a' b' (by omega) (by omega) h1
theorem lp_two0 {α β γ δ : Type} {sC : (α → Option γ) → α → Option γ} {sL : (β → Option δ) → β → Option δ} (I : Nat → α → β → Prop) (N : Nat) (hN : N < 1000) {P : Option γ → Option δ → Prop} {a : α} {b : β} (h0 : I 0 a b) (hs : ∀ k a b K K', k < N → I k a b → ∃ a' b', I (k + 1) a' b' ∧ sC K a = K a' ∧ sL K' b = K' b') (he : ∀ a b K K', I N a b → P (sC K a) (sL K' b)) : P (lp sC 1000 a) (lp sL 1000 b) := lp_two I N hs he N 0 1000 a b (by omega) hN h0
theorem rngF (F f : Nat → Int32) (a k : Nat) : upd (fun j => if a ≤ j ∧ j < a + k then F (j - a) else f j) (a + k) (F k) = fun j => if a ≤ j ∧ j < a + (k + 1) then F (j - a) else f j := by
  funext j
  rw [upd_eq]
  by_cases h1 : j = a + k
  · rw [if_pos h1, if_pos (by omega), show j - a = k from by omega]
  · rw [if_neg h1]
    by_cases h2 : a ≤ j ∧ j < a + k
    · rw [if_pos h2, if_pos (by omega)]
    · rw [if_neg h2, if_neg (by omega)]
theorem rngF0 (F f : Nat → Int32) (a : Nat) : (fun j => if a ≤ j ∧ j < a + 0 then F (j - a) else f j) = f := by
  funext j
  rw [if_neg (by omega)]
theorem rngZ (F f : Nat → Int32) (k : Nat) : upd (fun j => if j < k then F j else f j) k (F k) = fun j => if j < k + 1 then F j else f j := by
  funext j
  rw [upd_eq]
  by_cases h1 : j = k
  · rw [if_pos h1, if_pos (by omega), h1]
  · rw [if_neg h1]
    by_cases h2 : j < k
    · rw [if_pos h2, if_pos (by omega)]
    · rw [if_neg h2, if_neg (by omega)]
theorem rngZ0 (F f : Nat → Int32) : (fun j => if j < 0 then F j else f j) = f := by
  funext j
  rw [if_neg (by omega)]
def RC (c0 c : CSt) : Prop := ∀ w, Rel c0 w → Rel c w
theorem RC_d {c0 c : CSt} (h : RC c0 c) (d : DSt) : RC c0 (sc_d c d) := fun w hw => rel_d (h w hw) d
theorem RC_m1 {c0 c : CSt} (h : RC c0 c) (u : MSt) : RC c0 (sc_m1 c u) := fun w hw => rel_m1 (h w hw) u
theorem RC_s {c0 c : CSt} (h : RC c0 c) (s : SSt) : RC c0 (sc_s c s) := fun w hw => rel_s (h w hw) s
def Tr (c0 : CSt) (w0 : LSt) (c : CSt) (w : LSt) (v : VW) (s p : Nat) : Prop := RC c0 c ∧ Kp w0 w ∧ pL_shouted w = -1 ∧ RM (c_m1 c) (pL_w w) v s p
theorem tr_day {w : LSt} {v : VW} (hv : VL (pL_w w) v) (h : pL_shouted w = -1) : ∃ w', f_X11_tries w 255 = some w' ∧ Kp w w' ∧ Ka w w' ∧ pL_w w' = pL_w w ∧ pL_shouted w' = -1 ∧ DayL w' (dayN v (paysI v) 255) := by
  obtain ⟨w', h1, h2, h3, h4, h5, h6⟩ := tries_ok 255 hv
  have ho : ∀ b, b < vN v → vO v b < 10 := fun b hb => (hv.2.2.2.2.2.2 b hb).2.2.2.1
  rw [h, dayN_congr (q := paysI v) hv.2.2.2.2.2.1 ho (fun b hb => paySh_none ho b hb)] at h6
  exact ⟨w', h1, h2, h3, h4, h5.trans h, h6⟩
theorem tr_run {c0 c : CSt} {w0 w : LSt} {v : VW} {s p : Nat} (h : Tr c0 w0 c w v s p) : ∃ d' w', f_X2_run (c_d c) (c_m1 c) = some d' ∧ f_X11_tries w 255 = some w' ∧ Tr c0 w0 (sc_d c d') w' v s p ∧ Ka w w' ∧ pL_w w' = pL_w w ∧ DayIs d' (dayN v (paysI v) 255) ∧ DayL w' (dayN v (paysI v) 255) := by
  obtain ⟨h1, h2, h3, h4⟩ := h
  obtain ⟨d', r1, r2, r3⟩ := run_spec (c_d c) h4.1 h4.2.2.1
  obtain ⟨w', t1, t2, t3, t4, t5, t6⟩ := tr_day h4.2.1 h3
  exact ⟨d', w', r1, t1, ⟨RC_d h1 d', Kp_trans h2 t2, t5, by rw [t4]; exact h4⟩, t3, t4, r3, t6⟩
theorem tr_begin {c : CSt} {w w1 : LSt} (hR : Rel c w) (hk : Kp w w1) (hw : pL_w w1 = pL_w w) (hs : pL_shouted w1 = -1) : ∃ u v s p, f_X3_becomes (c_m1 c) (c_m0 c) = some u ∧ Tr c w (sc_m1 c u) w1 v s p ∧ RM (c_m0 c) (pL_w w) v s p := by
  obtain ⟨v, s, p, hN⟩ := rel_now hR
  obtain ⟨u, h1, h2⟩ := rm_becomes (c_m1 c) hN
  exact ⟨u, v, s, p, h1, ⟨RC_m1 (fun _ h => h) u, hk, hs, by rw [hw]; exact h2⟩, hN⟩
theorem kp_aside (w : LSt) (f : Nat → Int32) : Kp w (sL_aside w f) ∧ pL_w (sL_aside w f) = pL_w w ∧ pL_shouted (sL_aside w f) = pL_shouted w ∧ pL_aside (sL_aside w f) = f := by
  obtain ⟨w_0, w_1, w_2, w_3, w_4, w_5, w_6, w_7, w_8, w_9, w_10, w_11, w_12, w_13, w_14, w_15, w_16, w_17, w_18, w_19, w_20, w_21, w_22, w_23⟩ := w
  simp only [sL_aside_mk]
  exact ⟨⟨rfl, rfl, rfl, rfl, rfl, rfl⟩, trivial, trivial, trivial⟩
theorem asAS (w : LSt) (f g : Nat → Int32) : sL_aside (sL_aside w f) g = sL_aside w g := by
  obtain ⟨w_0, w_1, w_2, w_3, w_4, w_5, w_6, w_7, w_8, w_9, w_10, w_11, w_12, w_13, w_14, w_15, w_16, w_17, w_18, w_19, w_20, w_21, w_22, w_23⟩ := w
  simp only [sL_aside_mk]
theorem asSelf (w : LSt) : sL_aside w (pL_aside w) = w := by
  obtain ⟨w_0, w_1, w_2, w_3, w_4, w_5, w_6, w_7, w_8, w_9, w_10, w_11, w_12, w_13, w_14, w_15, w_16, w_17, w_18, w_19, w_20, w_21, w_22, w_23⟩ := w
  simp only [sL_w_mk, sL_isKept_mk, sL_text_mk, sL_texted_mk, sL_refused_mk, sL_above_mk, sL_below_mk, sL_at_mk, sL_start_mk, sL_isWord_mk, sL_isFigures_mk, sL_value_mk, sL_comers_mk, sL_shouted_mk, sL_gets_mk, sL_isServed_mk, sL_goes_mk, sL_takings_mk, sL_theirTakings_mk, sL_left_mk, sL_aside_mk, sL_own_mk, sL_other_mk, sL_h_mk, pL_w, pL_isKept, pL_text, pL_texted, pL_refused, pL_above, pL_below, pL_at, pL_start, pL_isWord, pL_isFigures, pL_value, pL_comers, pL_shouted, pL_gets, pL_isServed, pL_goes, pL_takings, pL_theirTakings, pL_left, pL_aside, pL_own, pL_other, pL_h]
theorem lays_L (w : LSt) : ∃ w1, f_X11_lays w = some w1 ∧ Kp w w1 ∧ pL_w w1 = pL_w w ∧ pL_shouted w1 = -1 ∧ ∀ k, k < 20 → pL_aside w1 k = pL_w w (8 + k) := by
  obtain ⟨k1, k2, k3, k4, k5⟩ := kp_sh w (-1)
  have e : f_X11_lays w = some (sL_aside (sL_shouted w (-1)) (fun j => if j < 20 then pL_w w (8 + j) else pL_aside (sL_shouted w (-1)) j)) := by
    unfold f_X11_lays
    rw [lt_eq]
    have hw : ∀ f, pL_w (sL_aside (sL_shouted w (-1)) f) = pL_w w := fun f => (kp_aside _ f).2.1.trans k3
    have ha : ∀ f, pL_aside (sL_aside (sL_shouted w (-1)) f) = f := fun f => (kp_aside _ f).2.2.2
    generalize sL_shouted w (-1) = w1 at hw ha ⊢
    refine lp_run1 (step := f_X11_lays_s7) (fun k => (nI k, sL_aside w1 (fun j => if j < k then pL_w w (8 + j) else pL_aside w1 j))) 20 (by omega) ?_ (fun k K hk => ?_) (fun K => ?_)
    · rw [rngZ0 (fun j => pL_w w (8 + j)), asSelf]
      rfl
    · unfold f_X11_lays_s7
      simp only [i_20, i_8]
      simp (disch := omega) only [lt_eq, Option.bind_some, inb_t, cl_t, le_t, le_f, lt_t, lt_f, eq_t, eq_f, nI_add, nI_1, ↓reduceIte, hw, ha, asAS, rngZ (fun j => pL_w w (8 + j))]
    · unfold f_X11_lays_s7
      simp only [i_20]
      simp (disch := omega) only [lt_eq, Option.bind_some, inb_t, cl_t, le_t, le_f, lt_t, lt_f, eq_t, eq_f, nI_add, nI_1, ↓reduceIte]
  obtain ⟨a1, a2, a3, a4⟩ := kp_aside (sL_shouted w (-1)) (fun j => if j < 20 then pL_w w (8 + j) else pL_aside (sL_shouted w (-1)) j)
  refine ⟨_, e, Kp_trans k1 a1, a2.trans k3, a3.trans k4, fun k hk => ?_⟩
  rw [a4]
  exact if_pos hk
theorem putsBack_L (w : LSt) : f_X11_putsBack w = some (sL_w w (fun j => if 8 ≤ j ∧ j < 8 + 20 then pL_aside w (j - 8) else pL_w w j)) := by
  unfold f_X11_putsBack
  have ha : ∀ f, pL_aside (sL_w w f) = pL_aside w := fun f => (kp_w w f).2.1
  refine lp_run1 (step := f_X11_putsBack_s2) (fun k => (nI k, sL_w w (fun j => if 8 ≤ j ∧ j < 8 + k then pL_aside w (j - 8) else pL_w w j))) 20 (by omega) ?_ (fun k K hk => ?_) (fun K => ?_)
  · rw [rngF0, wSelf]
    rfl
  · unfold f_X11_putsBack_s2
    simp only [i_20, i_8]
    simp (disch := omega) only [lt_eq, Option.bind_some, inb_t, cl_t, le_t, le_f, lt_t, lt_f, eq_t, eq_f, nI_add, nI_1, ↓reduceIte, wW, wWW, ha, rngF]
  · unfold f_X11_putsBack_s2
    simp only [i_20]
    simp (disch := omega) only [lt_eq, Option.bind_some, inb_t, cl_t, le_t, le_f, lt_t, lt_f, eq_t, eq_f, nI_add, nI_1, ↓reduceIte]
/-- after the last trial the reference puts the prices back -/
theorem back_rel {c0 c : CSt} {w0 w : LSt} {v : VW} {s p : Nat} (hR : Rel c0 w0) (hT : Tr c0 w0 c w v s p) (ha : ∀ k, k < 20 → pL_aside w k = pL_w w0 (8 + k)) (hf : ∀ k, k < 456 → ¬ (8 ≤ k ∧ k < 28) → pL_w w k = pL_w w0 k) : Rel c (sL_w w (fun j => if 8 ≤ j ∧ j < 8 + 20 then pL_aside w (j - 8) else pL_w w j)) := by
  refine hT.1 _ (rel_kp hR (Kp_trans hT.2.1 (kp_w w _).1) (fun k hk => ?_))
  rw [wW]
  show pL_w w0 k = (if 8 ≤ k ∧ k < 8 + 20 then pL_aside w (k - 8) else pL_w w k)
  by_cases c : 8 ≤ k ∧ k < 28
  · rw [if_pos (by omega), ha _ (by omega), show 8 + (k - 8) = k from by omega]
  · rw [if_neg (by omega), hf k hk c]
theorem m1_m1 (c : CSt) (u u' : MSt) : sc_m1 (sc_m1 c u) u' = sc_m1 c u' := by
  obtain ⟨⟨h_0, h_1, h_2, h_3, h_4, h_5⟩, ⟨m0, m1, m2, m3⟩, d, s, r⟩ := c
  simp only [sc_h_mk, sc_m0_mk, sc_m1_mk, sc_m2_mk, sc_m3_mk, sc_d_mk, sc_s_mk, sc_r_mk, sc_k2_mk, sc_k3_mk, c_h, c_m0, c_m1, c_m2, c_m3, c_d, c_s, c_r]
theorem c_m1m1 (c : CSt) (u : MSt) : c_m1 (sc_m1 c u) = u := rfl
theorem c_dm1 (c : CSt) (u : MSt) : c_d (sc_m1 c u) = c_d c := rfl
theorem c_dd (c : CSt) (d : DSt) : c_d (sc_d c d) = d := rfl
theorem c_m1d (c : CSt) (d : DSt) : c_m1 (sc_d c d) = c_m1 c := rfl
theorem pr_pr (u : MSt) (q q' : Nat → Int32) : sM_prices (sM_prices u q) q' = sM_prices u q' := by
  obtain ⟨u_0, u_1, u_2, u_3, u_4, u_5, u_6, u_7, u_8, u_9, u_10, u_11, u_12, u_13, u_14, u_15, u_16⟩ := u
  simp only [sM_punnets_mk, sM_heat_mk, sM_rainHours_mk, sM_size_mk, sM_totalTakings_mk, sM_totalThrown_mk, sM_soldSize_mk, sM_pastSize_mk, sM_prices_mk, sM_theirPrices_mk, sM_kinds_mk, sM_hours_mk, sM_worths_mk, sM_wants_mk, sM_soldHours_mk, sM_soldNumbers_mk, sM_past_mk, pM_punnets, pM_heat, pM_rainHours, pM_size, pM_totalTakings, pM_totalThrown, pM_soldSize, pM_pastSize, pM_prices, pM_theirPrices, pM_kinds, pM_hours, pM_worths, pM_wants, pM_soldHours, pM_soldNumbers, pM_past]
theorem p_pr (u : MSt) (q : Nat → Int32) : pM_prices (sM_prices u q) = q := by
  obtain ⟨u_0, u_1, u_2, u_3, u_4, u_5, u_6, u_7, u_8, u_9, u_10, u_11, u_12, u_13, u_14, u_15, u_16⟩ := u
  simp only [sM_punnets_mk, sM_heat_mk, sM_rainHours_mk, sM_size_mk, sM_totalTakings_mk, sM_totalThrown_mk, sM_soldSize_mk, sM_pastSize_mk, sM_prices_mk, sM_theirPrices_mk, sM_kinds_mk, sM_hours_mk, sM_worths_mk, sM_wants_mk, sM_soldHours_mk, sM_soldNumbers_mk, sM_past_mk, pM_punnets, pM_heat, pM_rainHours, pM_size, pM_totalTakings, pM_totalThrown, pM_soldSize, pM_pastSize, pM_prices, pM_theirPrices, pM_kinds, pM_hours, pM_worths, pM_wants, pM_soldHours, pM_soldNumbers, pM_past]
theorem t_pr (u : MSt) (q : Nat → Int32) : pM_theirPrices (sM_prices u q) = pM_theirPrices u := by
  obtain ⟨u_0, u_1, u_2, u_3, u_4, u_5, u_6, u_7, u_8, u_9, u_10, u_11, u_12, u_13, u_14, u_15, u_16⟩ := u
  simp only [sM_punnets_mk, sM_heat_mk, sM_rainHours_mk, sM_size_mk, sM_totalTakings_mk, sM_totalThrown_mk, sM_soldSize_mk, sM_pastSize_mk, sM_prices_mk, sM_theirPrices_mk, sM_kinds_mk, sM_hours_mk, sM_worths_mk, sM_wants_mk, sM_soldHours_mk, sM_soldNumbers_mk, sM_past_mk, pM_punnets, pM_heat, pM_rainHours, pM_size, pM_totalTakings, pM_totalThrown, pM_soldSize, pM_pastSize, pM_prices, pM_theirPrices, pM_kinds, pM_hours, pM_worths, pM_wants, pM_soldHours, pM_soldNumbers, pM_past]
def prB (a1 a2 a3 : Int32) (i j h : Nat) : Int32 := if h < i then a1 else if h < j then a2 else a3
/-- new prices in both trials -/
theorem tr_pr {c0 c : CSt} {w0 w : LSt} {v : VW} {s p : Nat} {q q2 : Nat → Int32} {g : Nat → Int32} (hT : Tr c0 w0 c w v s p) (hq : ∀ k, k < 10 → q k = g (8 + k)) (hq2 : ∀ k, k < 10 → q2 k = g (18 + k)) (hb : ∀ k, k < 20 → 0 ≤ (g (8 + k)).toInt ∧ (g (8 + k)).toInt ≤ 99) (hg : ∀ k, k < 152 → ¬ (8 ≤ k ∧ k < 28) → pL_w w k = g k) : Tr c0 w0 (sc_m1 c (sM_theirPrices (sM_prices (c_m1 c) q) q2)) (sL_w w g) ((fun k => g (8 + k)), (fun k => g (18 + k)), vR v, vH v, vU v, vN v, vK v, vO v, vW v, vA v) s p := by
  obtain ⟨h1, h2, h3, h4⟩ := hT
  refine ⟨RC_m1 h1 _, Kp_trans h2 (kp_w w g).1, ?_, rm_pr hq hq2 hb hg h4⟩
  rw [← h3]
  obtain ⟨w_0, w_1, w_2, w_3, w_4, w_5, w_6, w_7, w_8, w_9, w_10, w_11, w_12, w_13, w_14, w_15, w_16, w_17, w_18, w_19, w_20, w_21, w_22, w_23⟩ := w
  simp only [sL_w_mk, sL_isKept_mk, sL_text_mk, sL_texted_mk, sL_refused_mk, sL_above_mk, sL_below_mk, sL_at_mk, sL_start_mk, sL_isWord_mk, sL_isFigures_mk, sL_value_mk, sL_comers_mk, sL_shouted_mk, sL_gets_mk, sL_isServed_mk, sL_goes_mk, sL_takings_mk, sL_theirTakings_mk, sL_left_mk, sL_aside_mk, sL_own_mk, sL_other_mk, sL_h_mk, pL_w, pL_isKept, pL_text, pL_texted, pL_refused, pL_above, pL_below, pL_at, pL_start, pL_isWord, pL_isFigures, pL_value, pL_comers, pL_shouted, pL_gets, pL_isServed, pL_goes, pL_takings, pL_theirTakings, pL_left, pL_aside, pL_own, pL_other, pL_h]
theorem prB_bd {a1 a2 a3 : Int32} {i j h : Nat} (h1 : inR a1.toInt 0 99) (h2 : inR a2.toInt 0 99) (h3 : inR a3.toInt 0 99) : 0 ≤ (prB a1 a2 a3 i j h).toInt ∧ (prB a1 a2 a3 i j h).toInt ≤ 99 := by
  unfold prB
  split
  · exact h1
  · split
    · exact h2
    · exact h3
theorem fillB (a1 a2 a3 a4 : Int32) (K60 : (Int32 × Int32 × Int32 × LSt) → Option (Int32 × LSt)) (K71 : (Int32 × Int32 × Int32 × Int32 × LSt) → Option (Int32 × LSt)) (x z : Int32) {i j : Nat} (hi : i ≤ j) (hj : j ≤ 10) (w : LSt) : lp (f_X11_best_s81 a1 a2 a3 a4 K60 K71) 1000 (x, z, nI i, nI j, (0 : Int32), w) = f_X11_best_j127 a1 a2 a3 a4 K60 K71 x z (nI i) (nI j) (sL_w w (fun t => if 8 ≤ t ∧ t < 8 + 10 then prB a1 a2 a3 i j (t - 8) else pL_w w t)) := by
  refine lp_run1 (step := f_X11_best_s81 a1 a2 a3 a4 K60 K71) (fun k => (x, z, nI i, nI j, nI k, sL_w w (fun t => if 8 ≤ t ∧ t < 8 + k then prB a1 a2 a3 i j (t - 8) else pL_w w t))) 10 (by omega) ?_ (fun k K hk => ?_) (fun K => ?_)
  · rw [rngF0, wSelf]
    rfl
  · have j120 : ∀ t, t = prB a1 a2 a3 i j k → f_X11_best_j120 a1 a2 a3 a4 K60 K71 K x z (nI i) (nI j) (nI k) t (nI (8 + k)) (sL_w w (fun t => if 8 ≤ t ∧ t < 8 + k then prB a1 a2 a3 i j (t - 8) else pL_w w t)) = K (x, z, nI i, nI j, nI (k + 1), sL_w w (fun t => if 8 ≤ t ∧ t < 8 + (k + 1) then prB a1 a2 a3 i j (t - 8) else pL_w w t)) := by
      intro t ht
      subst ht
      unfold f_X11_best_j120
      simp (disch := omega) only [lt_eq, Option.bind_some, inb_t, cl_t, le_t, le_f, lt_t, lt_f, eq_t, eq_f, nI_add, nI_1, ↓reduceIte, wW, wWW, rngF]
    unfold f_X11_best_s81
    simp only [i_10, i_8, nI_add]
    by_cases c1 : i ≤ k
    · by_cases c2 : j ≤ k
      · simp (disch := omega) only [lt_eq, Option.bind_some, inb_t, cl_t, le_t, le_f, lt_t, lt_f, eq_t, eq_f, nI_add, nI_1, ↓reduceIte]
        exact j120 _ (by unfold prB; rw [if_neg (by omega), if_neg (by omega)])
      · simp (disch := omega) only [lt_eq, Option.bind_some, inb_t, cl_t, le_t, le_f, lt_t, lt_f, eq_t, eq_f, nI_add, nI_1, ↓reduceIte]
        exact j120 _ (by unfold prB; rw [if_neg (by omega), if_pos (by omega)])
    · simp (disch := omega) only [lt_eq, Option.bind_some, inb_t, cl_t, le_t, le_f, lt_t, lt_f, eq_t, eq_f, nI_add, nI_1, ↓reduceIte]
      exact j120 _ (by unfold prB; rw [if_pos (by omega)])
  · unfold f_X11_best_s81
    simp only [i_10]
    simp (disch := omega) only [lt_eq, Option.bind_some, inb_t, cl_t, le_t, le_f, lt_t, lt_f, eq_t, eq_f, nI_add, nI_1, ↓reduceIte]
