-- ===== two stalls: what rests =====
def mx (F : Nat → Int32) : Nat → Int32
  | 0 => 0
  | n + 1 => if mx F n < F n then F n else mx F n
theorem mx_le {F : Nat → Int32} {x : Int32} (hx : 0 ≤ x.toInt) : ∀ n, (mx F n).toInt ≤ x.toInt ↔ ∀ m, m < n → (F m).toInt ≤ x.toInt
  | 0 => ⟨fun _ m hm => absurd hm (Nat.not_lt_zero m), fun _ => hx⟩
  | n + 1 => by
    have ih := mx_le (F := F) hx n
    show (if mx F n < F n then F n else mx F n).toInt ≤ x.toInt ↔ _
    by_cases c : mx F n < F n
    · have c2 := Int32.lt_iff_toInt_lt.mp c
      rw [if_pos c]
      constructor
      · intro h m hm
        by_cases e : m = n
        · rw [e]; exact h
        · exact ih.mp (by omega) m (by omega)
      · intro h
        exact h n (by omega)
    · have c2 : ¬ (mx F n).toInt < (F n).toInt := fun e => c (Int32.lt_iff_toInt_lt.mpr e)
      rw [if_neg c]
      constructor
      · intro h m hm
        by_cases e : m = n
        · rw [e]; omega
        · exact ih.mp h m (by omega)
      · intro h
        exact ih.mpr (fun m hm => h m (by omega))
theorem anyF_iff (p : Nat → Bool) : ∀ d k, anyF p k d = true ↔ ∃ i, k ≤ i ∧ i < k + d ∧ p i = true
  | 0, k => ⟨fun h => absurd h (by show ¬ false = true; decide), fun ⟨i, h1, h2, _⟩ => by omega⟩
  | d + 1, k => by
    have ih := anyF_iff p d (k + 1)
    show (p k || anyF p (k + 1) d) = true ↔ _
    rw [Bool.or_eq_true, ih]
    constructor
    · rintro (h | ⟨i, h1, h2, h3⟩)
      · exact ⟨k, Nat.le_refl _, by omega, h⟩
      · exact ⟨i, by omega, by omega, h3⟩
    · rintro ⟨i, h1, h2, h3⟩
      by_cases e : i = k
      · subst e; exact Or.inl h3
      · exact Or.inr ⟨i, by omega, by omega, h3⟩
def offS (T U : Nat → Int32) (k m : Nat) : Bool := decide (T k < T (11 * m + k % 11)) || decide (U k < U (11 * (k / 11) + m))
def rsF (R : Nat → Bool) : Nat → Int32 × Int32
  | 0 => (0, -1)
  | k + 1 => if R k = true then rsF R k else ((rsF R k).1 + 1, if (rsF R k).1 = 0 then nI k else (rsF R k).2)
def WI (T U : Nat → Int32) (s : SSt) (i j : Nat) : Prop := (∀ k, k < 11 * i + j → pS_mine s k = T k ∧ pS_others s k = U k) ∧ (∀ q, q < 11 → pS_mostMine s q = mx (fun m => T (11 * m + q)) (if q < j then i + 1 else i)) ∧ ∀ q, q < 11 → pS_mostOthers s q = mx (fun m => U (11 * q + m)) (if q < i then 11 else if q = i then j else 0)
theorem WI_next {T U : Nat → Int32} {s : SSt} {i : Nat} (h : WI T U s i 11) : WI T U s (i + 1) 0 := by
  obtain ⟨h1, h2, h3⟩ := h
  refine ⟨fun k hk => h1 k (by omega), fun q hq => ?_, fun q hq => ?_⟩
  · rw [h2 q hq, if_pos hq, if_neg (by omega)]
  · rw [h3 q hq]
    by_cases c : q < i
    · rw [if_pos c, if_pos (by omega)]
    · rw [if_neg c]
      by_cases c2 : q = i
      · rw [if_pos c2, if_pos (by omega)]
      · rw [if_neg c2, if_neg (by omega), ite_self]
theorem WI_step {T U : Nat → Int32} {i j : Nat} (hi : i < 11) (hj : j < 11) (s_0 s_1 s_2 s_3 : Nat → Int32) (s_4 s_5 : Int32) (h : WI T U (s_0, s_1, s_2, s_3, s_4, s_5) i j) : WI T U (upd s_0 (11 * i + j) (T (11 * i + j)), upd s_1 (11 * i + j) (U (11 * i + j)), upd s_2 j (if s_2 j < T (11 * i + j) then T (11 * i + j) else s_2 j), upd s_3 i (if s_3 i < U (11 * i + j) then U (11 * i + j) else s_3 i), s_4, s_5) i (j + 1) := by
  obtain ⟨h1, h2, h3⟩ := h
  have h1 : ∀ k, k < 11 * i + j → s_0 k = T k ∧ s_1 k = U k := h1
  have h2 : ∀ q, q < 11 → s_2 q = mx (fun m => T (11 * m + q)) (if q < j then i + 1 else i) := h2
  have h3 : ∀ q, q < 11 → s_3 q = mx (fun m => U (11 * q + m)) (if q < i then 11 else if q = i then j else 0) := h3
  refine ⟨fun k hk => ?_, fun q hq => ?_, fun q hq => ?_⟩
  · show upd s_0 (11 * i + j) (T (11 * i + j)) k = T k ∧ upd s_1 (11 * i + j) (U (11 * i + j)) k = U k
    rw [upd_eq, upd_eq]
    by_cases c : k = 11 * i + j
    · rw [if_pos c, if_pos c, c]; exact ⟨rfl, rfl⟩
    · rw [if_neg c, if_neg c]; exact h1 k (by omega)
  · show upd s_2 j (if s_2 j < T (11 * i + j) then T (11 * i + j) else s_2 j) q = mx (fun m => T (11 * m + q)) (if q < j + 1 then i + 1 else i)
    rw [upd_eq]
    by_cases c : q = j
    · subst c
      have e := h2 q hq
      rw [if_neg (Nat.lt_irrefl q)] at e
      rw [if_pos rfl, if_pos (show q < q + 1 by omega), e]
      rfl
    · rw [if_neg c, h2 q hq]
      by_cases c2 : q < j
      · rw [if_pos c2, if_pos (by omega)]
      · rw [if_neg c2, if_neg (by omega)]
  · show upd s_3 i (if s_3 i < U (11 * i + j) then U (11 * i + j) else s_3 i) q = mx (fun m => U (11 * q + m)) (if q < i then 11 else if q = i then j + 1 else 0)
    rw [upd_eq]
    by_cases c : q = i
    · subst c
      have e := h3 q hq
      rw [if_neg (Nat.lt_irrefl q), if_pos rfl] at e
      rw [if_pos rfl, if_neg (Nat.lt_irrefl q), if_pos rfl, e]
      rfl
    · rw [if_neg c, h3 q hq, if_neg c, if_neg c]
theorem their_their (u : MSt) (q q' : Nat → Int32) : sM_theirPrices (sM_theirPrices u q) q' = sM_theirPrices u q' := by
  obtain ⟨u_0, u_1, u_2, u_3, u_4, u_5, u_6, u_7, u_8, u_9, u_10, u_11, u_12, u_13, u_14, u_15, u_16⟩ := u
  simp only [sM_punnets_mk, sM_heat_mk, sM_rainHours_mk, sM_size_mk, sM_totalTakings_mk, sM_totalThrown_mk, sM_soldSize_mk, sM_pastSize_mk, sM_prices_mk, sM_theirPrices_mk, sM_kinds_mk, sM_hours_mk, sM_worths_mk, sM_wants_mk, sM_soldHours_mk, sM_soldNumbers_mk, sM_past_mk, pM_punnets, pM_heat, pM_rainHours, pM_size, pM_totalTakings, pM_totalThrown, pM_soldSize, pM_pastSize, pM_prices, pM_theirPrices, pM_kinds, pM_hours, pM_worths, pM_wants, pM_soldHours, pM_soldNumbers, pM_past]
theorem t_their (u : MSt) (q : Nat → Int32) : pM_theirPrices (sM_theirPrices u q) = q := by
  obtain ⟨u_0, u_1, u_2, u_3, u_4, u_5, u_6, u_7, u_8, u_9, u_10, u_11, u_12, u_13, u_14, u_15, u_16⟩ := u
  simp only [sM_punnets_mk, sM_heat_mk, sM_rainHours_mk, sM_size_mk, sM_totalTakings_mk, sM_totalThrown_mk, sM_soldSize_mk, sM_pastSize_mk, sM_prices_mk, sM_theirPrices_mk, sM_kinds_mk, sM_hours_mk, sM_worths_mk, sM_wants_mk, sM_soldHours_mk, sM_soldNumbers_mk, sM_past_mk, pM_punnets, pM_heat, pM_rainHours, pM_size, pM_totalTakings, pM_totalThrown, pM_soldSize, pM_pastSize, pM_prices, pM_theirPrices, pM_kinds, pM_hours, pM_worths, pM_wants, pM_soldHours, pM_soldNumbers, pM_past]
theorem p_their (u : MSt) (q : Nat → Int32) : pM_prices (sM_theirPrices u q) = pM_prices u := by
  obtain ⟨u_0, u_1, u_2, u_3, u_4, u_5, u_6, u_7, u_8, u_9, u_10, u_11, u_12, u_13, u_14, u_15, u_16⟩ := u
  simp only [sM_punnets_mk, sM_heat_mk, sM_rainHours_mk, sM_size_mk, sM_totalTakings_mk, sM_totalThrown_mk, sM_soldSize_mk, sM_pastSize_mk, sM_prices_mk, sM_theirPrices_mk, sM_kinds_mk, sM_hours_mk, sM_worths_mk, sM_wants_mk, sM_soldHours_mk, sM_soldNumbers_mk, sM_past_mk, pM_punnets, pM_heat, pM_rainHours, pM_size, pM_totalTakings, pM_totalThrown, pM_soldSize, pM_pastSize, pM_prices, pM_theirPrices, pM_kinds, pM_hours, pM_worths, pM_wants, pM_soldHours, pM_soldNumbers, pM_past]
theorem setP2 (u : MSt) {i : Nat} (hi : i ≤ 10) (a1 a2 : Int32) : ∃ q, f_X3_setPricesFrom u 0 a1 = some (sM_prices u (fun j => if 0 ≤ j ∧ j < 10 then a1 else pM_prices u j)) ∧ f_X3_setPricesFrom (sM_prices u (fun j => if 0 ≤ j ∧ j < 10 then a1 else pM_prices u j)) (nI i) a2 = some (sM_prices u q) ∧ ∀ k, k < 10 → q k = pS2 a1 a2 i k := by
  have e0 := setP_C u (h := 0) a1 (by omega)
  have e1 := setP_C (sM_prices u (fun j => if 0 ≤ j ∧ j < 10 then a1 else pM_prices u j)) (h := i) a2 hi
  rw [p_pr, pr_pr] at e1
  refine ⟨_, e0, e1, fun k hk => ?_⟩
  show (if i ≤ k ∧ k < 10 then a2 else if 0 ≤ k ∧ k < 10 then a1 else pM_prices u k) = if i ≤ k then a2 else a1
  by_cases c : i ≤ k
  · rw [if_pos ⟨c, hk⟩, if_pos c]
  · rw [if_neg (fun e => c e.1), if_neg c, if_pos ⟨by omega, hk⟩]
theorem setT2 (u : MSt) {i : Nat} (hi : i ≤ 10) (a1 a2 : Int32) : ∃ q, f_X3_setTheirPricesFrom u 0 a1 = some (sM_theirPrices u (fun j => if 0 ≤ j ∧ j < 10 then a1 else pM_theirPrices u j)) ∧ f_X3_setTheirPricesFrom (sM_theirPrices u (fun j => if 0 ≤ j ∧ j < 10 then a1 else pM_theirPrices u j)) (nI i) a2 = some (sM_theirPrices u q) ∧ ∀ k, k < 10 → q k = pS2 a1 a2 i k := by
  have e0 := setT_C u (h := 0) a1 (by omega)
  have e1 := setT_C (sM_theirPrices u (fun j => if 0 ≤ j ∧ j < 10 then a1 else pM_theirPrices u j)) (h := i) a2 hi
  rw [t_their, their_their] at e1
  refine ⟨_, e0, e1, fun k hk => ?_⟩
  show (if i ≤ k ∧ k < 10 then a2 else if 0 ≤ k ∧ k < 10 then a1 else pM_theirPrices u k) = if i ≤ k then a2 else a1
  by_cases c : i ≤ k
  · rw [if_pos ⟨c, hk⟩, if_pos c]
  · rw [if_neg (fun e => c e.1), if_neg c, if_pos ⟨by omega, hk⟩]
theorem yS_at (v : VW) (a1 a2 : Int32) {i j : Nat} (hj : j < 11) : yS v a1 a2 (11 * i + j) = dayN (vS v a1 a2 i j) (paysI (vS v a1 a2 i j)) 255 := by
  unfold yS
  rw [show (11 * i + j) / 11 = i from by omega, show (11 * i + j) % 11 = j from by omega]
theorem weigh_in {v : VW} {a1 a2 : Int32} (h1 : inR a1.toInt 0 99) (h2 : inR a2.toInt 0 99) (hB : VBd v) {i j : Nat} (hi : i < 11) (hj : j < 11) (K19 : (Int32 × SSt × DSt × MSt) → Option (SSt × DSt × MSt)) (K43 : (Int32 × Int32 × SSt × DSt × MSt) → Option (SSt × DSt × MSt)) {s : SSt} {d : DSt} {u : MSt} (hs : WI (fun k => xT (yS v a1 a2 k)) (fun k => xU (yS v a1 a2 k)) s i j) (hu : ∃ T, VC u (pS2 a1 a2 i, T, vR v, vH v, vU v, vN v, vK v, vO v, vW v, vA v)) : ∃ s' d' u', f_X8_weigh_s43 a1 a2 K19 K43 (nI i, nI j, s, d, u) = K43 (nI i, nI (j + 1), s', d', u') ∧ WI (fun k => xT (yS v a1 a2 k)) (fun k => xU (yS v a1 a2 k)) s' i (j + 1) ∧ ∃ T, VC u' (pS2 a1 a2 i, T, vR v, vH v, vU v, vN v, vK v, vO v, vW v, vA v) := by
  obtain ⟨T, hu⟩ := hu
  obtain ⟨q, e1, e2, e3⟩ := setT2 u (i := j) (by omega) a1 a2
  have hv : VC (sM_theirPrices u q) (vS v a1 a2 i j) := by
    have := vc_pr (P := pS2 a1 a2 i) (T := pS2 a1 a2 j) (q := pM_prices u) (q2 := q) (fun k hk => (hu.1 k hk).1) e3 hu
    rw [setTP] at this
    exact this
  obtain ⟨d', r1, r2, r3⟩ := run_spec d hv (vS_bd h1 h2 hB)
  rw [← yS_at v a1 a2 hj] at r3
  have ep : (11 : Int32) * nI i + nI j = nI (11 * i + j) := by rw [show (11 : Int32) = nI 11 from rfl, nI_mul, nI_add]
  have qp : inb (nI (11 * i + j)) 121 := (inb_nI (by omega)).mpr (by omega)
  have cp : (nI (11 * i + j)).toNatClampNeg = 11 * i + j := cl_nI (by omega)
  have qi : inb (nI i) 11 := (inb_nI (by omega)).mpr hi
  have qj : inb (nI j) 11 := (inb_nI (by omega)).mpr hj
  have ci : (nI i).toNatClampNeg = i := cl_nI (by omega)
  have cj : (nI j).toNatClampNeg = j := cl_nI (by omega)
  have nj : ¬ (11 : Int32) ≤ nI j := by
    rw [show (11 : Int32) = nI 11 from rfl, le_nI (by omega) (by omega)]
    omega
  obtain ⟨s_0, s_1, s_2, s_3, s_4, s_5⟩ := s
  have hw := WI_step hi hj s_0 s_1 s_2 s_3 s_4 s_5 hs
  refine ⟨_, d', sM_theirPrices u q, ?_, hw, pS2 a1 a2 j, hv⟩
  unfold f_X8_weigh_s43 f_X10_pairOf
  dsimp only
  rw [if_neg nj, e1, Option.bind_some, e2, Option.bind_some, r1, Option.bind_some, Option.bind_some, ep, if_pos qp, lt_eq, Option.bind_some, if_pos qp, lt_eq, if_pos qj, if_pos qj, lt_eq, if_pos qi, if_pos qi, lt_eq, cp, ci, cj, nI_1, r3.2.1, r3.2.2.1]
  simp only [sS_mine_mk, sS_others_mk, sS_mostMine_mk, sS_mostOthers_mk, sS_rests_mk, sS_firstRest_mk, pS_mine, pS_others, pS_mostMine, pS_mostOthers, pS_rests, pS_firstRest]
  rfl
theorem weigh_C {v : VW} {a1 a2 : Int32} (h1 : inR a1.toInt 0 99) (h2 : inR a2.toInt 0 99) (s : SSt) (d : DSt) {u : MSt} (hv : VC u v) (hB : VBd v) : ∃ s' d' u', f_X8_weigh s d u a1 a2 = some (s', d', u') ∧ WI (fun k => xT (yS v a1 a2 k)) (fun k => xU (yS v a1 a2 k)) s' 11 0 := by
  have hs0 : ∃ s0, f_X8_weigh s d u a1 a2 = lp (f_X8_weigh_s19 a1 a2) 1000 ((0 : Int32), s0, d, u) ∧ WI (fun k => xT (yS v a1 a2 k)) (fun k => xU (yS v a1 a2 k)) s0 0 0 := by
    obtain ⟨s_0, s_1, s_2, s_3, s_4, s_5⟩ := s
    refine ⟨(s_0, s_1, (fun j => if j < 11 then 0 else s_2 j), (fun j => if j < 11 then 0 else s_3 j), s_4, s_5), ?_, fun k hk => absurd hk (by omega), fun q hq => ?_, fun q hq => ?_⟩
    · unfold f_X8_weigh
      rw [fill_spec 11 (by omega), Option.bind_some, lt_eq, fill_spec 11 (by omega), Option.bind_some, lt_eq]
      simp only [sS_mine_mk, sS_others_mk, sS_mostMine_mk, sS_mostOthers_mk, sS_rests_mk, sS_firstRest_mk, pS_mine, pS_others, pS_mostMine, pS_mostOthers, pS_rests, pS_firstRest]
    · rw [if_neg (by omega)]
      exact if_pos hq
    · rw [if_neg (by omega), ite_self]
      exact if_pos hq
  obtain ⟨s0, e0, w0⟩ := hs0
  rw [e0]
  refine lp_one0 (sC := f_X8_weigh_s19 a1 a2) (fun i q => ∃ s' d' u', q = (nI i, s', d', u') ∧ WI (fun k => xT (yS v a1 a2 k)) (fun k => xU (yS v a1 a2 k)) s' i 0 ∧ ∃ P T, VC u' (P, T, vR v, vH v, vU v, vN v, vK v, vO v, vW v, vA v)) 11 (by omega) (P := fun o => ∃ s' d' u', o = some (s', d', u') ∧ WI (fun k => xT (yS v a1 a2 k)) (fun k => xU (yS v a1 a2 k)) s' 11 0) ?_ (fun i q K hi hI => ?_) (fun q K hI => ?_)
  · exact ⟨s0, d, u, rfl, w0, vP v, vT v, hv⟩
  · obtain ⟨s1, d1, u1, rfl, w1, P, T, hv1⟩ := hI
    obtain ⟨q, e1, e2, e3⟩ := setP2 u1 (i := i) (by omega) a1 a2
    have hv2 : VC (sM_prices u1 q) (pS2 a1 a2 i, T, vR v, vH v, vU v, vN v, vK v, vO v, vW v, vA v) := by
      have := vc_pr (P := pS2 a1 a2 i) (T := T) (q := q) (q2 := pM_theirPrices u1) e3 (fun k hk => (hv1.1 k hk).2) hv1
      rw [setPT] at this
      exact this
    have ni : ¬ (11 : Int32) ≤ nI i := by
      rw [show (11 : Int32) = nI 11 from rfl, le_nI (by omega) (by omega)]
      omega
    have e4 : f_X8_weigh_s19 a1 a2 K (nI i, s1, d1, u1) = lp (f_X8_weigh_s43 a1 a2 K) 1000 (nI i, (0 : Int32), s1, d1, sM_prices u1 q) := by
      unfold f_X8_weigh_s19
      dsimp only
      rw [if_neg ni, e1, Option.bind_some, e2, Option.bind_some]
    rw [e4]
    refine lp_one0 (sC := f_X8_weigh_s43 a1 a2 K) (fun j q => ∃ s' d' u', q = (nI i, nI j, s', d', u') ∧ WI (fun k => xT (yS v a1 a2 k)) (fun k => xU (yS v a1 a2 k)) s' i j ∧ ∃ T, VC u' (pS2 a1 a2 i, T, vR v, vH v, vU v, vN v, vK v, vO v, vW v, vA v)) 11 (by omega) (P := fun o => ∃ a', (∃ s' d' u', a' = (nI (i + 1), s', d', u') ∧ WI (fun k => xT (yS v a1 a2 k)) (fun k => xU (yS v a1 a2 k)) s' (i + 1) 0 ∧ ∃ P T, VC u' (P, T, vR v, vH v, vU v, vN v, vK v, vO v, vW v, vA v)) ∧ o = K a') ?_ (fun j q J hj hI => ?_) (fun q J hI => ?_)
    · exact ⟨s1, d1, _, rfl, w1, T, hv2⟩
    · obtain ⟨s2, d2, u2, rfl, w2, hu2⟩ := hI
      obtain ⟨s', d', u', g1, g2, g3⟩ := weigh_in h1 h2 hB hi hj K J (d := d2) w2 hu2
      exact ⟨_, ⟨s', d', u', rfl, g2, g3⟩, g1⟩
    · obtain ⟨s2, d2, u2, rfl, w2, T2, hu2⟩ := hI
      refine ⟨_, ⟨s2, d2, u2, rfl, WI_next w2, _, T2, hu2⟩, ?_⟩
      unfold f_X8_weigh_s43 f_X8_weigh_j149
      dsimp only
      rw [if_pos (show (11 : Int32) ≤ nI 11 from by decide), nI_1]
  · obtain ⟨s1, d1, u1, rfl, w1, -⟩ := hI
    refine ⟨s1, d1, u1, ?_, w1⟩
    unfold f_X8_weigh_s19
    exact if_pos (show (11 : Int32) ≤ nI 11 from by decide)
theorem off_iff {T U : Nat → Int32} (hT : ∀ k, 0 ≤ (T k).toInt) (hU : ∀ k, 0 ≤ (U k).toInt) {i j : Nat} (hj : j < 11) : anyF (offS T U (11 * i + j)) 0 11 = true ↔ T (11 * i + j) < mx (fun m => T (11 * m + j)) 11 ∨ ¬ mx (fun m => U (11 * i + m)) 11 ≤ U (11 * i + j) := by
  have t1 := mx_le (F := fun m => T (11 * m + j)) (hT (11 * i + j)) 11
  have t2 := mx_le (F := fun m => U (11 * i + m)) (hU (11 * i + j)) 11
  rw [anyF_iff, Int32.lt_iff_toInt_lt, Int32.le_iff_toInt_le, t2]
  have t1' : (T (11 * i + j)).toInt < (mx (fun m => T (11 * m + j)) 11).toInt ↔ ¬ ∀ m, m < 11 → (T (11 * m + j)).toInt ≤ (T (11 * i + j)).toInt := by
    rw [← t1]
    omega
  rw [t1']
  unfold offS
  rw [show (11 * i + j) % 11 = j from by omega, show (11 * i + j) / 11 = i from by omega]
  constructor
  · rintro ⟨m, -, hm, h⟩
    rw [Bool.or_eq_true, decide_eq_true_eq, decide_eq_true_eq, Int32.lt_iff_toInt_lt, Int32.lt_iff_toInt_lt] at h
    rcases h with h | h
    · exact Or.inl (fun e => by have := e m (by omega); omega)
    · exact Or.inr (fun e => by have := e m (by omega); omega)
  · intro h
    refine Classical.byContradiction (fun hn => ?_)
    have hn2 : ∀ m, m < 11 → ¬ (T (11 * i + j)).toInt < (T (11 * m + j)).toInt ∧ ¬ (U (11 * i + j)).toInt < (U (11 * i + m)).toInt := by
      intro m hm
      refine ⟨fun e => hn ⟨m, by omega, by omega, ?_⟩, fun e => hn ⟨m, by omega, by omega, ?_⟩⟩
      · rw [Bool.or_eq_true, decide_eq_true_eq, decide_eq_true_eq, Int32.lt_iff_toInt_lt, Int32.lt_iff_toInt_lt]
        exact Or.inl e
      · rw [Bool.or_eq_true, decide_eq_true_eq, decide_eq_true_eq, Int32.lt_iff_toInt_lt, Int32.lt_iff_toInt_lt]
        exact Or.inr e
    rcases h with h | h
    · exact h (fun m hm => by have := (hn2 m hm).1; omega)
    · exact h (fun m hm => by have := (hn2 m hm).2; show (U (11 * i + m)).toInt ≤ _; omega)
theorem rests_C {T U : Nat → Int32} (hT : ∀ k, 0 ≤ (T k).toInt) (hU : ∀ k, 0 ≤ (U k).toInt) {s : SSt} (hs : WI T U s 11 0) : ∃ s', f_X8_findRests s = some s' ∧ (pS_rests s', pS_firstRest s') = rsF (fun k => anyF (offS T U k) 0 11) 121 := by
  obtain ⟨h1, h2, h3⟩ := hs
  obtain ⟨s_0, s_1, s_2, s_3, s_4, s_5⟩ := s
  have h1 : ∀ k, k < 11 * 11 + 0 → s_0 k = T k ∧ s_1 k = U k := h1
  have h2 : ∀ q, q < 11 → s_2 q = mx (fun m => T (11 * m + q)) (if q < 0 then 11 + 1 else 11) := h2
  have h3 : ∀ q, q < 11 → s_3 q = mx (fun m => U (11 * q + m)) (if q < 11 then 11 else if q = 11 then 0 else 0) := h3
  have e0 : ∀ X, lp (f_X8_findRests_s12) 1000 ((0 : Int32), (s_0, s_1, s_2, s_3, (0 : Int32), (-1 : Int32))) = X → f_X8_findRests (s_0, s_1, s_2, s_3, s_4, s_5) = X := by
    intro X hX
    unfold f_X8_findRests
    rw [lt_eq, lt_eq]
    exact hX
  have hP : (fun o => ∃ s', o = some s' ∧ (pS_rests s', pS_firstRest s') = rsF (fun k => anyF (offS T U k) 0 11) 121) (lp (f_X8_findRests_s12) 1000 ((0 : Int32), (s_0, s_1, s_2, s_3, (0 : Int32), (-1 : Int32)))) := ?_
  · obtain ⟨s', q1, q2⟩ := hP
    exact ⟨s', e0 _ q1, q2⟩
  refine lp_one0 (sC := f_X8_findRests_s12) (fun i q => q = (nI i, (s_0, s_1, s_2, s_3, rsF (fun k => anyF (offS T U k) 0 11) (11 * i)))) 11 (by omega) (P := fun o => ∃ s', o = some s' ∧ (pS_rests s', pS_firstRest s') = rsF (fun k => anyF (offS T U k) 0 11) 121) rfl (fun i q K hi hI => ?_) (fun q K hI => ?_)
  · subst hI
    have ni : ¬ (11 : Int32) ≤ nI i := by
      rw [show (11 : Int32) = nI 11 from rfl, le_nI (by omega) (by omega)]
      omega
    refine ⟨_, rfl, ?_⟩
    have e4 : f_X8_findRests_s12 K (nI i, (s_0, s_1, s_2, s_3, rsF (fun k => anyF (offS T U k) 0 11) (11 * i))) = lp (f_X8_findRests_s20 K) 1000 (nI i, (0 : Int32), (s_0, s_1, s_2, s_3, rsF (fun k => anyF (offS T U k) 0 11) (11 * i))) := by
      unfold f_X8_findRests_s12
      exact if_neg ni
    rw [e4]
    refine lp_run1 (step := f_X8_findRests_s20 K) (fun j => (nI i, nI j, (s_0, s_1, s_2, s_3, rsF (fun k => anyF (offS T U k) 0 11) (11 * i + j)))) 11 (by omega) rfl (fun j J hj => ?_) (fun J => ?_)
    · have ep : (11 : Int32) * nI i + nI j = nI (11 * i + j) := by rw [show (11 : Int32) = nI 11 from rfl, nI_mul, nI_add]
      have qp : inb (nI (11 * i + j)) 121 := (inb_nI (by omega)).mpr (by omega)
      have cp : (nI (11 * i + j)).toNatClampNeg = 11 * i + j := cl_nI (by omega)
      have qi : inb (nI i) 11 := (inb_nI (by omega)).mpr hi
      have qj : inb (nI j) 11 := (inb_nI (by omega)).mpr hj
      have ci : (nI i).toNatClampNeg = i := cl_nI (by omega)
      have cj : (nI j).toNatClampNeg = j := cl_nI (by omega)
      have nj : ¬ (11 : Int32) ≤ nI j := by
        rw [show (11 : Int32) = nI 11 from rfl, le_nI (by omega) (by omega)]
        omega
      have g1 := (h1 (11 * i + j) (by omega)).1
      have g2 := (h1 (11 * i + j) (by omega)).2
      have g3 := h2 j hj
      have g4 := h3 i hi
      rw [if_neg (by omega)] at g3
      rw [if_pos hi] at g4
      have ho := off_iff hT hU (i := i) hj
      have er : rsF (fun k => anyF (offS T U k) 0 11) (11 * i + (j + 1)) = if anyF (offS T U (11 * i + j)) 0 11 = true then rsF (fun k => anyF (offS T U k) 0 11) (11 * i + j) else ((rsF (fun k => anyF (offS T U k) 0 11) (11 * i + j)).1 + 1, if (rsF (fun k => anyF (offS T U k) 0 11) (11 * i + j)).1 = 0 then nI (11 * i + j) else (rsF (fun k => anyF (offS T U k) 0 11) (11 * i + j)).2) := rfl
      rw [er]
      generalize rsF (fun k => anyF (offS T U k) 0 11) (11 * i + j) = z
      obtain ⟨z1, z2⟩ := z
      unfold f_X8_findRests_s20 f_X8_findRests_j77 f_X8_findRests_j87 f_X10_pairOf
      dsimp only
      rw [if_neg nj, Option.bind_some, ep, if_pos qp, if_pos qj, if_pos qp, if_pos qi, cp, ci, cj, nI_1]
      simp only [sS_mine_mk, sS_others_mk, sS_mostMine_mk, sS_mostOthers_mk, sS_rests_mk, sS_firstRest_mk, pS_mine, pS_others, pS_mostMine, pS_mostOthers, pS_rests, pS_firstRest, g1, g2, g3, g4]
      by_cases c : anyF (offS T U (11 * i + j)) 0 11 = true
      · rw [if_pos c]
        rcases ho.mp c with c2 | c2
        · rw [if_pos c2]
        · by_cases c3 : T (11 * i + j) < mx (fun m => T (11 * m + j)) 11
          · rw [if_pos c3]
          · rw [if_neg c3, if_neg c2]
      · have c2 : ¬ T (11 * i + j) < mx (fun m => T (11 * m + j)) 11 := fun e => c (ho.mpr (Or.inl e))
        have c3 : mx (fun m => U (11 * i + m)) 11 ≤ U (11 * i + j) := Classical.byContradiction (fun e => c (ho.mpr (Or.inr e)))
        rw [if_neg c, if_neg c2, if_pos c3]
        by_cases c4 : z1 = 0
        · rw [if_pos c4, if_pos c4, lt_eq, lt_eq]
          rfl
        · rw [if_neg c4, if_neg c4, lt_eq]
    · unfold f_X8_findRests_s20 f_X8_findRests_j93
      dsimp only
      rw [if_pos (show (11 : Int32) ≤ nI 11 from by decide), nI_1]
      rfl
  · subst hI
    refine ⟨(s_0, s_1, s_2, s_3, rsF (fun k => anyF (offS T U k) 0 11) (11 * 11)), ?_, ?_⟩
    · unfold f_X8_findRests_s12
      exact if_pos (show (11 : Int32) ≤ nI 11 from by decide)
    · rfl
theorem inS_L {T U : Nat → Int32} (a1 a2 a3 : Int32) (K164 : (Int32 × Int32 × Int32 × LSt) → Option (Int32 × LSt)) {k : Nat} (hk : k < 121) (x z : Int32) {w : LSt} (h : ∀ k, k < 121 → pL_own w k = T k ∧ pL_other w k = U k) : lp (f_X11_stalls_s177 a1 a2 a3 K164) 1000 (x, z, nI k, (1 : Int32), (0 : Int32), w) = f_X11_stalls_j254 a1 a2 a3 K164 x z (nI k) (if anyF (offS T U k) 0 11 = true then 0 else 1) w := by
  have ed : nI k / (11 : Int32) = nI (k / 11) := nI_div (b := 11) (by omega) (by omega)
  have em : nI k - nI k / (11 : Int32) * (11 : Int32) = nI (k % 11) := nI_mod (b := 11) (by omega) (by omega)
  rw [ed] at em
  have hd : k / 11 < 11 := by omega
  refine lp_run1 (step := f_X11_stalls_s177 a1 a2 a3 K164) (fun m => (x, z, nI k, (if anyF (offS T U k) 0 m = true then 0 else 1), nI m, w)) 11 (by omega) rfl (fun m K hm => ?_) (fun K => ?_)
  · have e1 : (11 : Int32) * nI m + nI (k % 11) = nI (11 * m + k % 11) := by rw [show (11 : Int32) = nI 11 from rfl, nI_mul, nI_add]
    have e2 : nI (k / 11) * (11 : Int32) + nI m = nI (11 * (k / 11) + m) := by rw [show (11 : Int32) = nI 11 from rfl, nI_mul, nI_add, Nat.mul_comm]
    have q1 : inb (nI (11 * m + k % 11)) 121 := (inb_nI (by omega)).mpr (by omega)
    have q2 : inb (nI (11 * (k / 11) + m)) 121 := (inb_nI (by omega)).mpr (by omega)
    have q3 : inb (nI k) 121 := (inb_nI (by omega)).mpr hk
    have c1 : (nI (11 * m + k % 11)).toNatClampNeg = 11 * m + k % 11 := cl_nI (by omega)
    have c2 : (nI (11 * (k / 11) + m)).toNatClampNeg = 11 * (k / 11) + m := cl_nI (by omega)
    have c3 : (nI k).toNatClampNeg = k := cl_nI (by omega)
    have nm : ¬ (10 : Int32) < nI m := by
      rw [i_10, lt_nI (by omega) (by omega)]
      omega
    have g1 := h (11 * m + k % 11) (by omega)
    have g2 := h (11 * (k / 11) + m) (by omega)
    have g3 := h k hk
    have eo : offS T U k (0 + m) = (decide (T k < T (11 * m + k % 11)) || decide (U k < U (11 * (k / 11) + m))) := by rw [Nat.zero_add]; rfl
    unfold f_X11_stalls_s177 f_X11_stalls_j245 f_X11_stalls_j246
    dsimp only
    rw [anyF_snoc, eo, if_neg nm, ed, em, e1, e2, if_pos q1, if_pos q3, if_pos q2, if_pos q3, c1, c2, c3, g1.1, g2.2, g3.1, g3.2, nI_1]
    cases anyF (offS T U k) 0 m
    · rw [Bool.false_or, if_neg (by decide)]
      by_cases t1 : T k < T (11 * m + k % 11)
      · rw [if_pos t1, decide_eq_true t1, Bool.true_or, if_pos rfl]
      · rw [if_neg t1, decide_eq_false t1, Bool.false_or]
        by_cases t2 : U k < U (11 * (k / 11) + m)
        · rw [if_pos t2, decide_eq_true t2, if_pos rfl]
        · rw [if_neg t2, decide_eq_false t2, if_neg (by decide)]
    · rw [Bool.true_or, if_pos rfl, if_pos rfl]
  · unfold f_X11_stalls_s177
    exact if_pos (show (10 : Int32) < nI 11 from by decide)
theorem rests_L {T U : Nat → Int32} (a1 a2 a3 : Int32) {w : LSt} (h : ∀ k, k < 121 → pL_own w k = T k ∧ pL_other w k = U k) : lp (f_X11_stalls_s164 a1 a2 a3) 1000 ((0 : Int32), (-1 : Int32), (0 : Int32), w) = some (if a3 = 0 then (rsF (fun k => anyF (offS T U k) 0 11) 121).1 else (rsF (fun k => anyF (offS T U k) 0 11) 121).2, w) := by
  refine lp_run1 (step := f_X11_stalls_s164 a1 a2 a3) (fun k => ((rsF (fun k => anyF (offS T U k) 0 11) k).1, (rsF (fun k => anyF (offS T U k) 0 11) k).2, nI k, w)) 121 (by omega) rfl (fun k K hk => ?_) (fun K => ?_)
  · have nk : ¬ (121 : Int32) ≤ nI k := by
      rw [show (121 : Int32) = nI 121 from rfl, le_nI (by omega) (by omega)]
      omega
    have er : rsF (fun k => anyF (offS T U k) 0 11) (k + 1) = if anyF (offS T U k) 0 11 = true then rsF (fun k => anyF (offS T U k) 0 11) k else ((rsF (fun k => anyF (offS T U k) 0 11) k).1 + 1, if (rsF (fun k => anyF (offS T U k) 0 11) k).1 = 0 then nI k else (rsF (fun k => anyF (offS T U k) 0 11) k).2) := rfl
    rw [er]
    generalize rsF (fun k => anyF (offS T U k) 0 11) k = y
    obtain ⟨y1, y2⟩ := y
    unfold f_X11_stalls_s164
    dsimp only
    rw [if_neg nk, inS_L a1 a2 a3 K hk y1 y2 h]
    unfold f_X11_stalls_j254 f_X11_stalls_j269 f_X11_stalls_j271 f_X11_stalls_j285
    rw [nI_1]
    cases anyF (offS T U k) 0 11
    · rw [if_neg (show ¬ false = true from by decide), if_neg (show ¬ false = true from by decide), if_neg one0, if_neg one0, if_neg one0]
      by_cases c : y1 = 0
      · rw [if_pos c, if_pos c]
      · rw [if_neg c, if_neg c]
    · rw [if_pos (show true = true from rfl), if_pos (show true = true from rfl), if_pos rfl, if_pos rfl, Int32.add_zero]
  · unfold f_X11_stalls_s164 f_X11_stalls_j294
    dsimp only
    rw [if_pos (show (121 : Int32) ≤ nI 121 from by decide)]
    by_cases c : a3 = 0
    · rw [if_pos c, if_pos c]
    · rw [if_neg c, if_neg c]
theorem s_stalls : sim_stalls Rel := by
  intro c w hR a1 a2 a3
  by_cases hc : inR a1.toInt 0 99 ∧ inR a2.toInt 0 99 ∧ a2.toInt ≤ a1.toInt ∧ inR a3.toInt 0 1
  · obtain ⟨h1, h2, h12, h3⟩ := hc
    obtain ⟨w1, l1, l2, l3, l4, l5⟩ := lays_L w
    obtain ⟨u, v, s, p, b1, b2, b3⟩ := tr_begin hR l2 l3 l4
    have hB := b3.2.2.1
    have h8 := b3.1.2.2.2.2.2.1
    obtain ⟨s', d', u', g1, g2⟩ := weigh_C h1 h2 (c_s c) (c_d c) b2.2.2.2.1 hB
    obtain ⟨s2, g3, g4⟩ := rests_C (fun k => (yS_iv h1 h2 hB h8 k).1) (fun k => (yS_iv h1 h2 hB h8 k).2) g2
    obtain ⟨w2, t1, t2, t3, t4, t5⟩ := weigh_L a1 a2 a3 b3.2.1 l3 l2 l4 l5
    have t6 := rests_L a1 a2 a3 (w := sL_w w2 (fun j => if 8 ≤ j ∧ j < 8 + 20 then pL_aside w2 (j - 8) else pL_w w2 j)) (T := fun k => xT (yS v a1 a2 k)) (U := fun k => xU (yS v a1 a2 k)) (fun k hk => by
      rw [(kp_w w2 _).2.2.1, (kp_w w2 _).2.2.2]
      exact t5 k hk)
    generalize rsF (fun k => anyF (offS (fun k => xT (yS v a1 a2 k)) (fun k => xU (yS v a1 a2 k)) k) 0 11) 121 = z at g4 t6
    obtain ⟨z1, z2⟩ := z
    have g5 : pS_rests s2 = z1 := congrArg Prod.fst g4
    have g6 : pS_firstRest s2 = z2 := congrArg Prod.snd g4
    have hR2 : Rel c (sL_w w2 (fun j => if 8 ≤ j ∧ j < 8 + 20 then pL_aside w2 (j - 8) else pL_w w2 j)) := by
      refine rel_kp hR (Kp_trans t2 (kp_w w2 _).1) (fun k hk => ?_)
      rw [wW]
      show pL_w w k = (if 8 ≤ k ∧ k < 8 + 20 then pL_aside w2 (k - 8) else pL_w w2 k)
      by_cases c : 8 ≤ k ∧ k < 28
      · rw [if_pos (by omega), t3 _ (by omega), show 8 + (k - 8) = k from by omega]
      · rw [if_neg (by omega), t4 k hk c]
    refine simR (x := (if a3 = 0 then z1 else z2, sc_s (sc_m1 (sc_d (sc_s (sc_m1 c u) s') d') u') s2)) (y := (if a3 = 0 then z1 else z2, sL_w w2 (fun j => if 8 ≤ j ∧ j < 8 + 20 then pL_aside w2 (j - 8) else pL_w w2 j))) ?_ ?_ rfl (rel_s (rel_m1 (rel_d (rel_s (rel_m1 hR2 u) s') d') u') s2)
    · unfold f_X10_stalls
      rw [fall_t h1 ⟨h2.1, h12⟩, Option.bind_some, if_neg one0, within_t h3, Option.bind_some, if_neg one0, b1, Option.bind_some, lt_eq, show c_s (sc_m1 c u) = c_s c from rfl, show c_d (sc_m1 c u) = c_d c from rfl, g1, Option.bind_some, lt_eq, show c_s (sc_m1 (sc_d (sc_s (sc_m1 c u) s') d') u') = s' from rfl, g3, Option.bind_some, lt_eq, show c_s (sc_s (sc_m1 (sc_d (sc_s (sc_m1 c u) s') d') u') s2) = s2 from rfl, g5, g6]
      by_cases c3 : a3 = 0
      · rw [if_pos c3, if_pos c3]
      · rw [if_neg c3, if_neg c3]
    · unfold f_X11_stalls
      have n1 : ¬ a1 < a2 := fun e => by have := Int32.lt_iff_toInt_lt.mp e; omega
      rw [isPrice_t h1, Option.bind_some, if_neg one0, isPrice_t h2, Option.bind_some, if_neg one0, if_neg n1, inI_t h3, Option.bind_some, if_neg one0, l1, Option.bind_some, t1]
      unfold f_X11_stalls_j151
      rw [putsBack_L, Option.bind_some, t6]
  · refine simR (x := (-10, cBad c)) (y := (-10, wRef w 0)) ?_ ?_ rfl (rel_bad hR)
    · unfold f_X10_stalls f_X10_stalls_j17
      by_cases c1 : inR a1.toInt 0 99 ∧ inR a2.toInt 0 a1.toInt
      · have h2 : inR a2.toInt 0 99 := ⟨c1.2.1, Int.le_trans c1.2.2 c1.1.2⟩
        rw [fall_t c1.1 c1.2, within_f (fun e => hc ⟨c1.1, h2, c1.2.2, e⟩)]
        simp only [Option.bind_some, one0, ↓reduceIte, refuse_bad]
      · rw [fall_f c1]
        simp only [Option.bind_some, ↓reduceIte, refuse_bad]
    · unfold f_X11_stalls f_X11_stalls_j29
      rcases inR_dec a1.toInt 0 99 with h1 | h1
      · rw [isPrice_t h1]
        rcases inR_dec a2.toInt 0 99 with h2 | h2
        · rw [isPrice_t h2]
          by_cases c1 : a1 < a2
          · rw [Option.bind_some, if_neg one0, Option.bind_some, if_neg one0, if_pos c1, badAs_spec]
            rfl
          · have q1 : ¬ a1.toInt < a2.toInt := fun e => c1 (Int32.lt_iff_toInt_lt.mpr e)
            rw [Option.bind_some, if_neg one0, Option.bind_some, if_neg one0, if_neg c1, inI_f (fun e => hc ⟨h1, h2, by omega, e⟩), Option.bind_some, if_pos rfl, badAs_spec]
            rfl
        · rw [isPrice_f h2, Option.bind_some, if_neg one0, Option.bind_some, if_pos rfl, badAs_spec]
          rfl
      · rw [isPrice_f h1, Option.bind_some, if_pos rfl, badAs_spec]
        rfl
