-- ===== the relation kept, market by market =====
theorem RX_congr {tt th ss ps : Int32} {sh sn pa f g : Nat → Int32} {n s p : Nat} (hn : n ≤ 8) (h : ∀ k, k < 152 → (4 ≤ k ∧ k ≤ 7 ∨ 60 ≤ k) → f k = g k) (hr : RX tt th ss ps sh sn pa f n s p) : RX tt th ss ps sh sn pa g n s p := by
  obtain ⟨b1, b2, b3, b4, b5, b6, b7, b8, b9, b10⟩ := hr
  refine ⟨?_, ?_, b3, ?_, b5, b6, ?_, b8, fun i hi => ?_, fun r hr => ?_⟩
  · rw [← h _ (by omega) (by omega)]; exact b1
  · rw [← h _ (by omega) (by omega)]; exact b2
  · rw [← h _ (by omega) (by omega)]; exact b4
  · rw [← h _ (by omega) (by omega)]; exact b7
  · rw [← h (60 + i) (by omega) (by omega), ← h (66 + i) (by omega) (by omega)]; exact b9 i hi
  · obtain ⟨c1, c2, c3⟩ := b10 r hr
    refine ⟨fun b hb => ?_, ?_, ?_⟩
    · rw [← h (72 + 10 * r + b) (by omega) (by omega)]; exact c1 b hb
    · rw [← h (72 + 10 * r + 8) (by omega) (by omega)]; exact c2
    · rw [← h (72 + 10 * r + 9) (by omega) (by omega)]; exact c3
theorem rm_bring {u : MSt} {f : Nat → Int32} {v : VW} {s p : Nat} {a : Int32} (h : inR a.toInt 0 99) (hr : RM u f v s p) : RM (sM_punnets u a) (upd f 0 a) (vP v, vT v, vR v, vH v, a, vN v, vK v, vO v, vW v, vA v) s p := by
  obtain ⟨⟨cp, cr, ch, cu, cn, c8, cb⟩, ⟨lp, lr, lh, lu, ln, l8, lb⟩, ⟨bp, b0, b1, bb⟩, hx⟩ := hr
  obtain ⟨u_0, u_1, u_2, u_3, u_4, u_5, u_6, u_7, u_8, u_9, u_10, u_11, u_12, u_13, u_14, u_15, u_16⟩ := u
  refine ⟨⟨cp, cr, ch, rfl, cn, c8, cb⟩, ⟨fun k hk => ?_, ?_, ?_, upd_at .., ?_, l8, fun b hb => ?_⟩, ⟨bp, h.1, h.2, bb⟩, RX_congr c8 (fun k hk hk2 => (upd_ne _ _ _ _ (by omega)).symm) hx⟩
  · rw [upd_ne _ _ _ _ (by omega), upd_ne _ _ _ _ (by omega)]; exact lp k hk
  · rw [upd_ne _ _ _ _ (by omega)]; exact lr
  · rw [upd_ne _ _ _ _ (by omega)]; exact lh
  · rw [upd_ne _ _ _ _ (by omega)]; exact ln
  · rw [upd_ne _ _ _ _ (by omega), upd_ne _ _ _ _ (by omega), upd_ne _ _ _ _ (by omega), upd_ne _ _ _ _ (by omega)]; exact lb b hb
theorem rm_rain {u : MSt} {f : Nat → Int32} {v : VW} {s p : Nat} {a : Int32} (hr : RM u f v s p) : RM (sM_rainHours u a) (upd f 2 a) (vP v, vT v, a, vH v, vU v, vN v, vK v, vO v, vW v, vA v) s p := by
  obtain ⟨⟨cp, cr, ch, cu, cn, c8, cb⟩, ⟨lp, lr, lh, lu, ln, l8, lb⟩, ⟨bp, b0, b1, bb⟩, hx⟩ := hr
  obtain ⟨u_0, u_1, u_2, u_3, u_4, u_5, u_6, u_7, u_8, u_9, u_10, u_11, u_12, u_13, u_14, u_15, u_16⟩ := u
  refine ⟨⟨cp, rfl, ch, cu, cn, c8, cb⟩, ⟨fun k hk => ?_, upd_at .., ?_, ?_, ?_, l8, fun b hb => ?_⟩, ⟨bp, b0, b1, bb⟩, RX_congr c8 (fun k hk hk2 => (upd_ne _ _ _ _ (by omega)).symm) hx⟩
  · rw [upd_ne _ _ _ _ (by omega), upd_ne _ _ _ _ (by omega)]; exact lp k hk
  · rw [upd_ne _ _ _ _ (by omega)]; exact lh
  · rw [upd_ne _ _ _ _ (by omega)]; exact lu
  · rw [upd_ne _ _ _ _ (by omega)]; exact ln
  · rw [upd_ne _ _ _ _ (by omega), upd_ne _ _ _ _ (by omega), upd_ne _ _ _ _ (by omega), upd_ne _ _ _ _ (by omega)]; exact lb b hb
theorem rm_pr {u : MSt} {f g q q2 : Nat → Int32} {v : VW} {s p : Nat} (hq : ∀ k, k < 10 → q k = g (8 + k)) (hq2 : ∀ k, k < 10 → q2 k = g (18 + k)) (hb : ∀ k, k < 20 → 0 ≤ (g (8 + k)).toInt ∧ (g (8 + k)).toInt ≤ 99) (hg : ∀ k, k < 152 → ¬ (8 ≤ k ∧ k < 28) → f k = g k) (hr : RM u f v s p) : RM (sM_theirPrices (sM_prices u q) q2) g ((fun k => g (8 + k)), (fun k => g (18 + k)), vR v, vH v, vU v, vN v, vK v, vO v, vW v, vA v) s p := by
  obtain ⟨⟨cp, cr, ch, cu, cn, c8, cb⟩, ⟨lp, lr, lh, lu, ln, l8, lb⟩, ⟨bp, b0, b1, bb⟩, hx⟩ := hr
  obtain ⟨u_0, u_1, u_2, u_3, u_4, u_5, u_6, u_7, u_8, u_9, u_10, u_11, u_12, u_13, u_14, u_15, u_16⟩ := u
  refine ⟨⟨fun k hk => ⟨hq k hk, hq2 k hk⟩, cr, ch, cu, cn, c8, cb⟩, ⟨fun k hk => ⟨rfl, rfl⟩, ?_, ?_, ?_, ?_, l8, fun b hb => ?_⟩, ⟨fun k hk => ?_, b0, b1, bb⟩, RX_congr c8 (fun k hk hk2 => hg k hk (by omega)) hx⟩
  · rw [← hg _ (by omega) (by omega)]; exact lr
  · rw [← hg _ (by omega) (by omega)]; exact lh
  · rw [← hg _ (by omega) (by omega)]; exact lu
  · rw [← hg _ (by omega) (by omega)]; exact ln
  · have hb2 : b < vN v := hb
    rw [← hg (28 + b) (by omega) (by omega), ← hg (36 + b) (by omega) (by omega), ← hg (44 + b) (by omega) (by omega), ← hg (52 + b) (by omega) (by omega)]; exact lb b hb
  · have h1 := hb k (by omega)
    have h2 := hb (10 + k) (by omega)
    rw [show 8 + (10 + k) = 18 + k from by omega] at h2
    exact ⟨h1.1, h1.2, h2.1, h2.2⟩
theorem pr_bd {u : MSt} {f : Nat → Int32} {v : VW} {s p : Nat} (hr : RM u f v s p) (k : Nat) (hk : k < 20) : 0 ≤ (f (8 + k)).toInt ∧ (f (8 + k)).toInt ≤ 99 := by
  obtain ⟨-, ⟨lp, -⟩, ⟨bp, -⟩, -⟩ := hr
  by_cases c : k < 10
  · rw [(lp k c).1]
    exact ⟨(bp k c).1, (bp k c).2.1⟩
  · obtain ⟨j, rfl⟩ : ∃ j, k = 10 + j := ⟨k - 10, by omega⟩
    rw [show 8 + (10 + j) = 18 + j from by omega, (lp j (by omega)).2]
    exact ⟨(bp j (by omega)).2.2.1, (bp j (by omega)).2.2.2⟩
theorem pr_eq {u : MSt} {f : Nat → Int32} {v : VW} {s p : Nat} (hr : RM u f v s p) (k : Nat) (hk : k < 10) : pM_prices u k = f (8 + k) ∧ pM_theirPrices u k = f (18 + k) := by
  obtain ⟨⟨cp, -⟩, ⟨lp, -⟩, -, -⟩ := hr
  rw [(cp k hk).1, (cp k hk).2, (lp k hk).1, (lp k hk).2]
  exact ⟨rfl, rfl⟩
theorem setPT (u : MSt) (q : Nat → Int32) : sM_theirPrices (sM_prices u q) (pM_theirPrices u) = sM_prices u q := by
  obtain ⟨u_0, u_1, u_2, u_3, u_4, u_5, u_6, u_7, u_8, u_9, u_10, u_11, u_12, u_13, u_14, u_15, u_16⟩ := u
  simp only [sM_punnets_mk, sM_heat_mk, sM_rainHours_mk, sM_size_mk, sM_totalTakings_mk, sM_totalThrown_mk, sM_soldSize_mk, sM_pastSize_mk, sM_prices_mk, sM_theirPrices_mk, sM_kinds_mk, sM_hours_mk, sM_worths_mk, sM_wants_mk, sM_soldHours_mk, sM_soldNumbers_mk, sM_past_mk, pM_punnets, pM_heat, pM_rainHours, pM_size, pM_totalTakings, pM_totalThrown, pM_soldSize, pM_pastSize, pM_prices, pM_theirPrices, pM_kinds, pM_hours, pM_worths, pM_wants, pM_soldHours, pM_soldNumbers, pM_past]
theorem setTP (u : MSt) (q : Nat → Int32) : sM_theirPrices (sM_prices u (pM_prices u)) q = sM_theirPrices u q := by
  obtain ⟨u_0, u_1, u_2, u_3, u_4, u_5, u_6, u_7, u_8, u_9, u_10, u_11, u_12, u_13, u_14, u_15, u_16⟩ := u
  simp only [sM_punnets_mk, sM_heat_mk, sM_rainHours_mk, sM_size_mk, sM_totalTakings_mk, sM_totalThrown_mk, sM_soldSize_mk, sM_pastSize_mk, sM_prices_mk, sM_theirPrices_mk, sM_kinds_mk, sM_hours_mk, sM_worths_mk, sM_wants_mk, sM_soldHours_mk, sM_soldNumbers_mk, sM_past_mk, pM_punnets, pM_heat, pM_rainHours, pM_size, pM_totalTakings, pM_totalThrown, pM_soldSize, pM_pastSize, pM_prices, pM_theirPrices, pM_kinds, pM_hours, pM_worths, pM_wants, pM_soldHours, pM_soldNumbers, pM_past]
theorem rm_price {u : MSt} {f : Nat → Int32} {v : VW} {s p h : Nat} {a : Int32} (ha : inR a.toInt 0 99) (hr : RM u f v s p) : RelN (sM_prices u (fun j => if h ≤ j ∧ j < 10 then a else pM_prices u j)) (fun j => if 0 + 8 + h ≤ j ∧ j < 0 + 18 then a else f j) := by
  have hp := pr_eq hr
  have hb := pr_bd hr
  rw [← setPT]
  refine ⟨_, _, _, rm_pr (fun k hk => ?_) (fun k hk => ?_) (fun k hk => ?_) (fun k hk hk2 => ?_) hr⟩
  · rw [(hp k hk).1]
    by_cases c : h ≤ k
    · rw [if_pos (by omega), if_pos (by omega)]
    · rw [if_neg (by omega), if_neg (by omega)]
  · rw [(hp k hk).2, if_neg (by omega)]
  · show 0 ≤ (if 0 + 8 + h ≤ 8 + k ∧ 8 + k < 0 + 18 then a else f (8 + k)).toInt ∧ (if 0 + 8 + h ≤ 8 + k ∧ 8 + k < 0 + 18 then a else f (8 + k)).toInt ≤ 99
    by_cases c : 0 + 8 + h ≤ 8 + k ∧ 8 + k < 0 + 18
    · rw [if_pos c]; exact ha
    · rw [if_neg c]; exact hb k hk
  · rw [if_neg (by omega)]
theorem rm_theirs {u : MSt} {f : Nat → Int32} {v : VW} {s p h : Nat} {a : Int32} (hh : h < 10) (ha : inR a.toInt 0 99) (hr : RM u f v s p) : RelN (sM_theirPrices u (upd (pM_theirPrices u) h a)) (upd f (18 + h) a) := by
  have hp := pr_eq hr
  have hb := pr_bd hr
  rw [← setTP]
  refine ⟨_, _, _, rm_pr (fun k hk => ?_) (fun k hk => ?_) (fun k hk => ?_) (fun k hk hk2 => ?_) hr⟩
  · rw [(hp k hk).1, upd_ne _ _ _ _ (by omega)]
  · rw [upd_eq, upd_eq, (hp k hk).2]
    by_cases c : k = h
    · rw [if_pos c, if_pos (by omega)]
    · rw [if_neg c, if_neg (by omega)]
  · rw [upd_eq]
    by_cases c : 8 + k = 18 + h
    · rw [if_pos c]; exact ha
    · rw [if_neg c]; exact hb k hk
  · rw [upd_ne _ _ _ _ (by omega)]
theorem c40 : 0 ≤ (40 : Int32).toInt ∧ (40 : Int32).toInt ≤ 99 ∧ 0 ≤ (0 : Int32).toInt ∧ (0 : Int32).toInt ≤ 99 := by decide
theorem rm_anew (u : MSt) (f : Nat → Int32) {a h : Int32} {r : Nat} (ha : inR a.toInt 0 99) : RM (anewM u a h) (fun k => beginsF r a h f (r + k)) ((fun _ => 40), (fun _ => 0), 0, h, a, 0, (fun _ => 0), (fun _ => 0), (fun _ => 0), (fun _ => 0)) 0 0 := by
  have e0 : beginsF r a h f (r + 0) = a := by
    unfold beginsF
    rw [if_neg (by omega), upd_ne _ _ _ _ (by omega)]
    exact upd_at ..
  have e1 : beginsF r a h f (r + 1) = h := by
    unfold beginsF
    rw [if_neg (by omega)]
    exact upd_at ..
  have e2 : ∀ k, 2 ≤ k → k < 152 → ¬ (8 ≤ k ∧ k < 18) → beginsF r a h f (r + k) = 0 := by
    intro k h1 h2 h3
    unfold beginsF
    rw [if_neg (by omega), upd_ne _ _ _ _ (by omega), upd_ne _ _ _ _ (by omega), if_pos (by omega)]
  refine ⟨⟨fun k hk => ⟨if_pos hk, if_pos hk⟩, rfl, rfl, rfl, rfl, Nat.zero_le _, fun b hb => absurd hb (Nat.not_lt_zero b)⟩, ⟨fun k hk => ⟨?_, e2 _ (by omega) (by omega) (by omega)⟩, e2 2 (by omega) (by omega) (by omega), e1, e0, e2 3 (by omega) (by omega) (by omega), Nat.zero_le _, fun b hb => absurd hb (Nat.not_lt_zero b)⟩, ⟨fun k hk => c40, ha.1, ha.2, fun b hb => absurd hb (Nat.not_lt_zero b)⟩, (e2 4 (by omega) (by omega) (by omega)).symm, (e2 5 (by omega) (by omega) (by omega)).symm, rfl, e2 6 (by omega) (by omega) (by omega), Nat.zero_le _, rfl, e2 7 (by omega) (by omega) (by omega), Nat.zero_le _, fun i hi => absurd hi (Nat.not_lt_zero i), fun i hi => absurd hi (Nat.not_lt_zero i)⟩
  show beginsF r a h f (r + (8 + k)) = 40
  unfold beginsF
  rw [if_pos (by omega)]
def addM (u : MSt) (b : Nat) (a1 a2 a3 a4 : Int32) : MSt := (pM_punnets u, pM_heat u, pM_rainHours u, nI (b + 1), pM_totalTakings u, pM_totalThrown u, pM_soldSize u, 0, pM_prices u, pM_theirPrices u, upd (pM_kinds u) b a1, upd (pM_hours u) b a2, upd (pM_worths u) b a3, upd (pM_wants u) b a4, pM_soldHours u, pM_soldNumbers u, pM_past u)
theorem addBuyer_C (u : MSt) {b : Nat} (a1 a2 a3 a4 : Int32) (hb : b < 8) (hn : pM_size u = nI b) : f_X3_addBuyer u a1 a2 a3 a4 = some (addM u b a1 a2 a3 a4) := by
  obtain ⟨u_0, u_1, u_2, u_3, u_4, u_5, u_6, u_7, u_8, u_9, u_10, u_11, u_12, u_13, u_14, u_15, u_16⟩ := u
  have hn : u_3 = nI b := hn
  subst hn
  unfold f_X3_addBuyer addM
  simp only [i_8]
  have e0 : (nI b < 0) = False := lt_f (b := 0) (by omega) (by omega)
  simp (disch := omega) only [lt_eq, Option.bind_some, inb_t, cl_t, le_t, le_f, lt_t, lt_f, eq_t, eq_f, nI_add, nI_1, ↓reduceIte, sM_punnets_mk, sM_heat_mk, sM_rainHours_mk, sM_size_mk, sM_totalTakings_mk, sM_totalThrown_mk, sM_soldSize_mk, sM_pastSize_mk, sM_prices_mk, sM_theirPrices_mk, sM_kinds_mk, sM_hours_mk, sM_worths_mk, sM_wants_mk, sM_soldHours_mk, sM_soldNumbers_mk, sM_past_mk, pM_punnets, pM_heat, pM_rainHours, pM_size, pM_totalTakings, pM_totalThrown, pM_soldSize, pM_pastSize, pM_prices, pM_theirPrices, pM_kinds, pM_hours, pM_worths, pM_wants, pM_soldHours, pM_soldNumbers, pM_past, e0]
theorem rm_buyer {u : MSt} {f : Nat → Int32} {v : VW} {s p k h : Nat} {a3 a4 : Int32} (hb : vN v < 8) (hk : k < 6) (hh : h < 10) (h4 : inR a4.toInt 1 3) (hr : RM u f v s p) : RM (addM u (vN v) (nI k) (nI h) a3 a4) (addsF 0 (vN v) (nI k) (nI h) a3 a4 f) (vP v, vT v, vR v, vH v, vU v, vN v + 1, (fun b => if b = vN v then k else vK v b), (fun b => if b = vN v then h else vO v b), upd (vW v) (vN v) a3, upd (vA v) (vN v) a4) s 0 := by
  obtain ⟨⟨cp, cr, ch, cu, cn, c8, cb⟩, ⟨lp, lr, lh, lu, ln, l8, lb⟩, ⟨bp, b0, b1, bb⟩, x1, x2, x3, x4, x5, x6, x7, x8, x9, x10⟩ := hr
  obtain ⟨u_0, u_1, u_2, u_3, u_4, u_5, u_6, u_7, u_8, u_9, u_10, u_11, u_12, u_13, u_14, u_15, u_16⟩ := u
  have e : ∀ j, j ≠ 3 → j ≠ 7 → j ≠ 28 + vN v → j ≠ 36 + vN v → j ≠ 44 + vN v → j ≠ 52 + vN v → addsF 0 (vN v) (nI k) (nI h) a3 a4 f j = f j := by
    intro j q1 q2 q3 q4 q5 q6
    unfold addsF
    rw [upd_ne _ _ _ _ (by omega), upd_ne _ _ _ _ (by omega), upd_ne _ _ _ _ (by omega), upd_ne _ _ _ _ (by omega), upd_ne _ _ _ _ (by omega), upd_ne _ _ _ _ (by omega)]
  have e3 : addsF 0 (vN v) (nI k) (nI h) a3 a4 f 3 = nI (vN v + 1) := by
    unfold addsF
    rw [upd_ne _ _ _ _ (by omega)]
    exact upd_at ..
  have e7 : addsF 0 (vN v) (nI k) (nI h) a3 a4 f 7 = 0 := by
    unfold addsF
    exact upd_at ..
  have e28 : addsF 0 (vN v) (nI k) (nI h) a3 a4 f (28 + vN v) = nI k := by
    unfold addsF
    rw [upd_ne _ _ _ _ (by omega), upd_ne _ _ _ _ (by omega), upd_ne _ _ _ _ (by omega), upd_ne _ _ _ _ (by omega), upd_ne _ _ _ _ (by omega), upd_eq, if_pos (by omega)]
  have e36 : addsF 0 (vN v) (nI k) (nI h) a3 a4 f (36 + vN v) = nI h := by
    unfold addsF
    rw [upd_ne _ _ _ _ (by omega), upd_ne _ _ _ _ (by omega), upd_ne _ _ _ _ (by omega), upd_ne _ _ _ _ (by omega), upd_eq, if_pos (by omega)]
  have e44 : addsF 0 (vN v) (nI k) (nI h) a3 a4 f (44 + vN v) = a3 := by
    unfold addsF
    rw [upd_ne _ _ _ _ (by omega), upd_ne _ _ _ _ (by omega), upd_ne _ _ _ _ (by omega), upd_eq, if_pos (by omega)]
  have e52 : addsF 0 (vN v) (nI k) (nI h) a3 a4 f (52 + vN v) = a4 := by
    unfold addsF
    rw [upd_ne _ _ _ _ (by omega), upd_ne _ _ _ _ (by omega), upd_eq, if_pos (by omega)]
  have c8' : vN v ≤ 8 := c8
  refine ⟨⟨cp, cr, ch, cu, rfl, hb, fun b hb2 => ?_⟩, ⟨fun k hk => ?_, ?_, ?_, ?_, e3, hb, fun b hb2 => ?_⟩, ⟨bp, b0, b1, fun b hb2 => ?_⟩, ?_, ?_, x3, ?_, x5, rfl, e7, Nat.zero_le _, fun i hi => ?_, fun i hi => absurd hi (Nat.not_lt_zero i)⟩
  · have hb2 : b < vN v + 1 := hb2
    by_cases c : b = vN v
    · subst c
      refine ⟨?_, ?_, ?_, ?_, ?_, ?_⟩
      · show upd u_10 (vN v) (nI k) (vN v) = nI (if vN v = vN v then k else _)
        rw [upd_at, if_pos rfl]
      · show (if vN v = vN v then k else _) < 6
        rw [if_pos rfl]; exact hk
      · show upd u_11 (vN v) (nI h) (vN v) = nI (if vN v = vN v then h else _)
        rw [upd_at, if_pos rfl]
      · show (if vN v = vN v then h else _) < 10
        rw [if_pos rfl]; exact hh
      · show upd u_12 (vN v) a3 (vN v) = upd (vW v) (vN v) a3 (vN v)
        rw [upd_at, upd_at]
      · show upd u_13 (vN v) a4 (vN v) = upd (vA v) (vN v) a4 (vN v)
        rw [upd_at, upd_at]
    · obtain ⟨q1, q2, q3, q4, q5, q6⟩ := cb b (show b < vN v by omega)
      refine ⟨?_, ?_, ?_, ?_, ?_, ?_⟩
      · show upd u_10 (vN v) (nI k) b = nI (if b = vN v then k else vK v b)
        rw [upd_ne _ _ _ _ c, if_neg c]; exact q1
      · show (if b = vN v then k else vK v b) < 6
        rw [if_neg c]; exact q2
      · show upd u_11 (vN v) (nI h) b = nI (if b = vN v then h else vO v b)
        rw [upd_ne _ _ _ _ c, if_neg c]; exact q3
      · show (if b = vN v then h else vO v b) < 10
        rw [if_neg c]; exact q4
      · show upd u_12 (vN v) a3 b = upd (vW v) (vN v) a3 b
        rw [upd_ne _ _ _ _ c, upd_ne _ _ _ _ c]; exact q5
      · show upd u_13 (vN v) a4 b = upd (vA v) (vN v) a4 b
        rw [upd_ne _ _ _ _ c, upd_ne _ _ _ _ c]; exact q6
  · rw [e _ (by omega) (by omega) (by omega) (by omega) (by omega) (by omega), e _ (by omega) (by omega) (by omega) (by omega) (by omega) (by omega)]; exact lp k hk
  · rw [e _ (by omega) (by omega) (by omega) (by omega) (by omega) (by omega)]; exact lr
  · rw [e _ (by omega) (by omega) (by omega) (by omega) (by omega) (by omega)]; exact lh
  · rw [e _ (by omega) (by omega) (by omega) (by omega) (by omega) (by omega)]; exact lu
  · have hb2 : b < vN v + 1 := hb2
    by_cases c : b = vN v
    · subst c
      refine ⟨?_, ?_, ?_, ?_, ?_, ?_⟩
      · show _ = nI (if vN v = vN v then k else _)
        rw [e28, if_pos rfl]
      · show (if vN v = vN v then k else _) < 6
        rw [if_pos rfl]; exact hk
      · show _ = nI (if vN v = vN v then h else _)
        rw [e36, if_pos rfl]
      · show (if vN v = vN v then h else _) < 10
        rw [if_pos rfl]; exact hh
      · show _ = upd (vW v) (vN v) a3 (vN v)
        rw [e44, upd_at]
      · show _ = upd (vA v) (vN v) a4 (vN v)
        rw [e52, upd_at]
    · obtain ⟨q1, q2, q3, q4, q5, q6⟩ := lb b (show b < vN v by omega)
      have hb3 : b < 8 := by omega
      refine ⟨?_, ?_, ?_, ?_, ?_, ?_⟩
      · show _ = nI (if b = vN v then k else vK v b)
        rw [e _ (by omega) (by omega) (by omega) (by omega) (by omega) (by omega), if_neg c]; exact q1
      · show (if b = vN v then k else vK v b) < 6
        rw [if_neg c]; exact q2
      · show _ = nI (if b = vN v then h else vO v b)
        rw [e _ (by omega) (by omega) (by omega) (by omega) (by omega) (by omega), if_neg c]; exact q3
      · show (if b = vN v then h else vO v b) < 10
        rw [if_neg c]; exact q4
      · show _ = upd (vW v) (vN v) a3 b
        rw [e _ (by omega) (by omega) (by omega) (by omega) (by omega) (by omega), upd_ne _ _ _ _ c]; exact q5
      · show _ = upd (vA v) (vN v) a4 b
        rw [e _ (by omega) (by omega) (by omega) (by omega) (by omega) (by omega), upd_ne _ _ _ _ c]; exact q6
  · have hb2 : b < vN v + 1 := hb2
    show (if b = vN v then h else vO v b) < 10 ∧ 1 ≤ (upd (vA v) (vN v) a4 b).toInt ∧ (upd (vA v) (vN v) a4 b).toInt ≤ 3
    by_cases c : b = vN v
    · subst c
      rw [if_pos rfl, upd_at]
      exact ⟨hh, h4.1, h4.2⟩
    · rw [if_neg c, upd_ne _ _ _ _ c]
      exact bb b (by omega)
  · rw [e _ (by omega) (by omega) (by omega) (by omega) (by omega) (by omega)]; exact x1
  · rw [e _ (by omega) (by omega) (by omega) (by omega) (by omega) (by omega)]; exact x2
  · rw [e _ (by omega) (by omega) (by omega) (by omega) (by omega) (by omega)]; exact x4
  · rw [e _ (by omega) (by omega) (by omega) (by omega) (by omega) (by omega), e _ (by omega) (by omega) (by omega) (by omega) (by omega) (by omega)]; exact x9 i hi
theorem rm_becomes (u : MSt) {x : MSt} {f : Nat → Int32} {v : VW} {s p : Nat} (hr : RM x f v s p) : ∃ u', f_X3_becomes u x = some u' ∧ RM u' f v s p := by
  refine ⟨_, becomes_C u x, ?_⟩
  obtain ⟨⟨cp, cr, ch, cu, cn, c8, cb⟩, hl, hb, x1, x2, x3, x4, x5, x6, x7, x8, x9, x10⟩ := hr
  refine ⟨⟨fun k hk => ?_, cr, ch, cu, cn, c8, fun b hb2 => ?_⟩, hl, hb, x1, x2, x3, x4, x5, x6, x7, x8, fun i hi => ?_, fun r hr2 => ?_⟩
  · show va_cpy (pM_prices x) _ 0 0 10 k = _ ∧ va_cpy (pM_theirPrices x) _ 0 0 10 k = _
    rw [va_c0 hk, va_c0 hk]; exact cp k hk
  · have hb3 : b < 8 := by omega
    show va_cpy (pM_kinds x) _ 0 0 8 b = _ ∧ _ ∧ va_cpy (pM_hours x) _ 0 0 8 b = _ ∧ _ ∧ va_cpy (pM_worths x) _ 0 0 8 b = _ ∧ va_cpy (pM_wants x) _ 0 0 8 b = _
    rw [va_c0 hb3, va_c0 hb3, va_c0 hb3, va_c0 hb3]; exact cb b hb2
  · have hi2 : i < 6 := by omega
    show ∃ o, o < 10 ∧ va_cpy (pM_soldHours x) _ 0 0 6 i = nI o ∧ _ ∧ va_cpy (pM_soldNumbers x) _ 0 0 6 i = _
    rw [va_c0 hi2, va_c0 hi2]; exact x9 i hi
  · obtain ⟨q1, q2, q3⟩ := x10 r hr2
    refine ⟨fun b hb2 => ?_, ?_, ?_⟩
    · show ∃ k, k < 6 ∧ va_cpy (pM_past x) _ 0 0 80 (10 * r + b) = nI k ∧ _
      rw [va_c0 (by omega)]; exact q1 b hb2
    · show va_cpy (pM_past x) _ 0 0 80 (10 * r + 8) = _
      rw [va_c0 (by omega)]; exact q2
    · show va_cpy (pM_past x) _ 0 0 80 (10 * r + 9) = _
      rw [va_c0 (by omega)]; exact q3
