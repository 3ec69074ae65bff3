-- ===== a day goes by =====
def keepM (u : MSt) (p : Nat) : MSt := sM_pastSize (sM_past u (upd (upd (va_cpy (pM_kinds u) (pM_past u) 0 (10 * p) 8) (10 * p + 8) (pM_totalTakings u)) (10 * p + 9) (pM_totalThrown u))) (nI (p + 1))
theorem keep_j31 {u : MSt} {p : Nat} (hp : p < 8) (h : pM_pastSize u = nI p) : f_X3_keepPast_j31 u = some (keepM u p) := by
  obtain ⟨u_0, u_1, u_2, u_3, u_4, u_5, u_6, u_7, u_8, u_9, u_10, u_11, u_12, u_13, u_14, u_15, u_16⟩ := u
  have h : u_7 = nI p := h
  subst h
  unfold f_X3_keepPast_j31 keepM
  have e0 : (if (0 : Int32) < nI p then nI p else 0) = nI p := by
    rw [i_0]
    by_cases c : 0 < p
    · simp (disch := omega) only [lt_eq, Option.bind_some, inb_t, cl_t, le_t, le_f, lt_t, lt_f, eq_t, eq_f, nI_add, nI_1, ↓reduceIte, c]
    · obtain rfl : p = 0 := by omega
      rfl
  have e1 : nI p * 10 = nI (10 * p) := by rw [i_10, nI_mul, Nat.mul_comm]
  have e2 : (nI (10 * p) < 0) = False := lt_f (b := 0) (by omega) (by omega)
  have d0 : ((0 : Int32) < 0) = False := eq_false (by decide)
  have d8 : ((8 : Int32) < 0) = False := eq_false (by decide)
  have c0 : (0 : Int32).toNatClampNeg = 0 := rfl
  have c8 : (8 : Int32).toNatClampNeg = 8 := rfl
  have a1 : (10 * p + 8 ≤ 80) = True := eq_true (by omega)
  have a2 : (0 + 8 ≤ 8) = True := eq_true (by omega)
  have e3 : nI (10 * p) + 8 = nI (10 * p + 8) := nI_add _ 8
  simp (disch := omega) only [↓reduceIte, lt_eq, sM_punnets_mk, sM_heat_mk, sM_rainHours_mk, sM_size_mk, sM_totalTakings_mk, sM_totalThrown_mk, sM_soldSize_mk, sM_pastSize_mk, sM_prices_mk, sM_theirPrices_mk, sM_kinds_mk, sM_hours_mk, sM_worths_mk, sM_wants_mk, sM_soldHours_mk, sM_soldNumbers_mk, sM_past_mk, pM_punnets, pM_heat, pM_rainHours, pM_size, pM_totalTakings, pM_totalThrown, pM_soldSize, pM_pastSize, pM_prices, pM_theirPrices, pM_kinds, pM_hours, pM_worths, pM_wants, pM_soldHours, pM_soldNumbers, pM_past, e0, e1, e2, d0, d8, c0, c8, cl_t, not_false_eq_true, and_self, a1, a2, e3, inb_t, nI_1]
def shiftM (u : MSt) : MSt := sM_pastSize (sM_past u (va_cpy (pM_past u) (pM_past u) 10 0 70)) (nI 7)
theorem keep_C {u : MSt} {p : Nat} (hp : p ≤ 8) (h : pM_pastSize u = nI p) : f_X3_keepPast u = some (if p < 8 then keepM u p else keepM (shiftM u) 7) := by
  unfold f_X3_keepPast
  by_cases c : p < 8
  · rw [if_pos c, if_pos (show pM_pastSize u < 8 by rw [h, i_8]; exact (lt_nI (by omega) (by omega)).mpr c), keep_j31 c h]
  · obtain rfl : p = 8 := by omega
    have e7 : pM_pastSize (shiftM u) = nI 7 := by
      unfold shiftM
      obtain ⟨u_0, u_1, u_2, u_3, u_4, u_5, u_6, u_7, u_8, u_9, u_10, u_11, u_12, u_13, u_14, u_15, u_16⟩ := u
      simp only [sM_punnets_mk, sM_heat_mk, sM_rainHours_mk, sM_size_mk, sM_totalTakings_mk, sM_totalThrown_mk, sM_soldSize_mk, sM_pastSize_mk, sM_prices_mk, sM_theirPrices_mk, sM_kinds_mk, sM_hours_mk, sM_worths_mk, sM_wants_mk, sM_soldHours_mk, sM_soldNumbers_mk, sM_past_mk, pM_punnets, pM_heat, pM_rainHours, pM_size, pM_totalTakings, pM_totalThrown, pM_soldSize, pM_pastSize, pM_prices, pM_theirPrices, pM_kinds, pM_hours, pM_worths, pM_wants, pM_soldHours, pM_soldNumbers, pM_past]
    rw [if_neg c, if_neg (show ¬ pM_pastSize u < 8 by rw [h]; decide), if_pos (by decide), lt_eq, lt_eq, ← keep_j31 (by omega) e7]
    rfl
def mindF (f : Nat → Int32) (p : Nat) : Nat → Int32 := upd (upd (upd (fun j => if 72 + 10 * p ≤ j ∧ j < 72 + 10 * p + 8 then f (28 + (j - (72 + 10 * p))) else f j) (72 + 10 * p + 8) (f 4)) (72 + 10 * p + 9) (f 5)) 7 (nI (p + 1))
theorem mind_j58 {w : LSt} {p : Nat} (hp : p < 8) (h : pL_w w 7 = nI p) : f_X11_minds_j58 w = some (sL_w w (mindF (pL_w w) p)) := by
  have j103 : ∀ f, f 7 = nI p → f_X11_minds_j103 (nI (72 + 10 * p)) (sL_w w f) = some (sL_w w (upd (upd (upd f (72 + 10 * p + 8) (f 4)) (72 + 10 * p + 9) (f 5)) 7 (nI (p + 1)))) := by
    intro f hf
    unfold f_X11_minds_j103
    simp only [i_8, i_9, i_4, i_5, i_7]
    simp (disch := omega) only [lt_eq, Option.bind_some, inb_t, cl_t, le_t, le_f, lt_t, lt_f, eq_t, eq_f, nI_add, nI_1, ↓reduceIte, wW, wWW, upd_ne, upd_at, hf]
  unfold f_X11_minds_j58
  simp only [i_7]
  simp (disch := omega) only [lt_eq, Option.bind_some, inb_t, cl_t, le_t, le_f, lt_t, lt_f, eq_t, eq_f, nI_add, nI_1, ↓reduceIte, h, minus_p hp]
  have e1 : some (sL_w w (mindF (pL_w w) p)) = f_X11_minds_j103 (nI (72 + 10 * p)) (sL_w w (fun j => if 72 + 10 * p ≤ j ∧ j < 72 + 10 * p + 8 then pL_w w (28 + (j - (72 + 10 * p))) else pL_w w j)) := by
    have g4 : (if 72 + 10 * p ≤ 4 ∧ 4 < 72 + 10 * p + 8 then pL_w w (28 + (4 - (72 + 10 * p))) else pL_w w 4) = pL_w w 4 := if_neg (by omega)
    have g5 : (if 72 + 10 * p ≤ 5 ∧ 5 < 72 + 10 * p + 8 then pL_w w (28 + (5 - (72 + 10 * p))) else pL_w w 5) = pL_w w 5 := if_neg (by omega)
    rw [j103 _ (by rw [if_neg (by omega)]; exact h), g4, g5]
    rfl
  rw [e1]
  refine lp_run1 (step := f_X11_minds_s74) (fun k => (nI (72 + 10 * p), nI k, sL_w w (fun j => if 72 + 10 * p ≤ j ∧ j < 72 + 10 * p + k then pL_w w (28 + (j - (72 + 10 * p))) else pL_w w j))) 8 (by omega) ?_ (fun k K hk => ?_) (fun K => ?_)
  · have e2 : (fun j => if 72 + 10 * p ≤ j ∧ j < 72 + 10 * p + 0 then pL_w w (28 + (j - (72 + 10 * p))) else pL_w w j) = pL_w w := by
      funext j
      rw [if_neg (by omega)]
    rw [e2, wSelf]
    rfl
  · unfold f_X11_minds_s74
    simp only [i_8, i_28]
    simp (disch := omega) only [lt_eq, Option.bind_some, inb_t, cl_t, le_t, le_f, lt_t, lt_f, eq_t, eq_f, nI_add, nI_1, ↓reduceIte, wW, wWW]
    have e3 : (if 72 + 10 * p ≤ 28 + k ∧ 28 + k < 72 + 10 * p + k then pL_w w (28 + (28 + k - (72 + 10 * p))) else pL_w w (28 + k)) = pL_w w (28 + k) := if_neg (by omega)
    rw [e3]
    refine congrArg K (congrArg (Prod.mk _) (congrArg (Prod.mk _) (congrArg (sL_w w) ?_)))
    funext j
    rw [upd_eq]
    by_cases c1 : j = 72 + 10 * p + k
    · rw [if_pos c1, if_pos (by omega), show j - (72 + 10 * p) = k from by omega]
    · rw [if_neg c1]
      by_cases c2 : 72 + 10 * p ≤ j ∧ j < 72 + 10 * p + k
      · rw [if_pos c2, if_pos (by omega)]
      · rw [if_neg c2, if_neg (by omega)]
  · unfold f_X11_minds_s74
    simp only [i_8]
    simp (disch := omega) only [lt_eq, Option.bind_some, inb_t, cl_t, le_t, le_f, lt_t, lt_f, eq_t, eq_f, nI_add, nI_1, ↓reduceIte]
def shiftF (f : Nat → Int32) : Nat → Int32 := upd (fun j => if 72 ≤ j ∧ j < 72 + 70 then f (j + 10) else f j) 7 (nI 7)
theorem minds_L {w : LSt} {p : Nat} (hp : p ≤ 8) (h : pL_w w 7 = nI p) : f_X11_minds w = some (sL_w w (if p < 8 then mindF (pL_w w) p else mindF (shiftF (pL_w w)) 7)) := by
  unfold f_X11_minds
  rw [if_pos (by decide), show (7 : Int32).toNatClampNeg = 7 from rfl, h]
  by_cases c : p < 8
  · rw [if_pos c, if_neg (show ¬ nI p = 8 by rw [i_8]; intro e; have := (eq_nI (by omega) (by omega)).mp e; omega), mind_j58 c h]
  · obtain rfl : p = 8 := by omega
    rw [if_neg c, if_pos (show nI 8 = 8 from rfl)]
    have e1 : some (sL_w w (mindF (shiftF (pL_w w)) 7)) = f_X11_minds_j47 (sL_w w (fun j => if 72 ≤ j ∧ j < 72 + 70 then pL_w w (j + 10) else pL_w w j)) := by
      unfold f_X11_minds_j47
      simp only [i_7]
      have g7 : (if 72 ≤ 7 ∧ 7 < 72 + 70 then pL_w w (7 + 10) else pL_w w 7) = nI (7 + 1) := by rw [if_neg (by omega)]; exact h
      simp (disch := omega) only [lt_eq, Option.bind_some, inb_t, cl_t, le_t, le_f, lt_t, lt_f, eq_t, eq_f, nI_add, nI_1, ↓reduceIte, wW, wWW, g7, nI_m1]
      have hm := mind_j58 (w := sL_w w (shiftF (pL_w w))) (p := 7) (by omega) (by rw [wW]; exact upd_at ..)
      rw [wW, wWW] at hm
      exact hm.symm
    rw [e1]
    refine lp_run1 (step := f_X11_minds_s14) (fun k => (nI k, sL_w w (fun j => if 72 ≤ j ∧ j < 72 + k then pL_w w (j + 10) else pL_w w j))) 70 (by omega) ?_ (fun k K hk => ?_) (fun K => ?_)
    · have e2 : (fun j => if 72 ≤ j ∧ j < 72 + 0 then pL_w w (j + 10) else pL_w w j) = pL_w w := by
        funext j
        rw [if_neg (by omega)]
      rw [e2, wSelf]
      rfl
    · unfold f_X11_minds_s14
      simp only [i_70, i_72, i_10]
      simp (disch := omega) only [lt_eq, Option.bind_some, inb_t, cl_t, le_t, le_f, lt_t, lt_f, eq_t, eq_f, nI_add, nI_1, ↓reduceIte, wW, wWW]
      have e3 : (if 72 ≤ 72 + k + 10 ∧ 72 + k + 10 < 72 + k then pL_w w (72 + k + 10 + 10) else pL_w w (72 + k + 10)) = pL_w w (72 + k + 10) := if_neg (by omega)
      rw [e3]
      refine congrArg K (congrArg (Prod.mk _) (congrArg (sL_w w) ?_))
      funext j
      rw [upd_eq]
      by_cases c1 : j = 72 + k
      · rw [if_pos c1, if_pos (by omega), c1]
      · rw [if_neg c1]
        by_cases c2 : 72 ≤ j ∧ j < 72 + k
        · rw [if_pos c2, if_pos (by omega)]
        · rw [if_neg c2, if_neg (by omega)]
    · unfold f_X11_minds_s14
      simp only [i_70]
      simp (disch := omega) only [lt_eq, Option.bind_some, inb_t, cl_t, le_t, le_f, lt_t, lt_f, eq_t, eq_f, nI_add, nI_1, ↓reduceIte]
theorem rm_keep {u : MSt} {f : Nat → Int32} {v : VW} {s p : Nat} (hp : p < 8) (hr : RM u f v s p) : RM (keepM u p) (mindF f p) v s (p + 1) := by
  have hx := hr.2.2.2.2.2.2.2.2.2.2.2.2
  have h8 := hr.1.2.2.2.2.2.1
  have hb := hr.1.2.2.2.2.2.2
  have hl := hr.2.1.2.2.2.2.2.2
  have b1 : pM_totalTakings u = f 4 := hr.2.2.2.1
  have b2 : pM_totalThrown u = f 5 := hr.2.2.2.2.1
  have eo : ∀ j, j ≠ 7 → ¬ (72 + 10 * p ≤ j ∧ j < 72 + 10 * p + 10) → mindF f p j = f j := by
    intro j c1 c2
    unfold mindF
    rw [upd_ne _ _ _ _ c1, upd_ne _ _ _ _ (by omega), upd_ne _ _ _ _ (by omega), if_neg (by omega)]
  have po : ∀ j, ¬ (10 * p ≤ j ∧ j < 10 * p + 10) → upd (upd (va_cpy (pM_kinds u) (pM_past u) 0 (10 * p) 8) (10 * p + 8) (pM_totalTakings u)) (10 * p + 9) (pM_totalThrown u) j = pM_past u j := by
    intro j c
    rw [upd_ne _ _ _ _ (by omega), upd_ne _ _ _ _ (by omega), vaC, if_neg (by omega)]
  refine rm_past (upd_at ..) (by omega) (fun k hk hk2 => (eo k hk2 (by omega)).symm) (fun r hr2 => ?_) hr
  by_cases c : r = p
  · subst c
    refine ⟨fun b hb2 => ⟨vK v b, (hb b hb2).2.1, ?_, ?_⟩, ?_, ?_⟩
    · rw [upd_ne _ _ _ _ (by omega), upd_ne _ _ _ _ (by omega), vaC, if_pos (by omega), show 0 + (10 * r + b - 10 * r) = b from by omega]
      exact (hb b hb2).1
    · unfold mindF
      rw [upd_ne _ _ _ _ (by omega), upd_ne _ _ _ _ (by omega), upd_ne _ _ _ _ (by omega), if_pos (by omega), show 28 + (72 + 10 * r + b - (72 + 10 * r)) = 28 + b from by omega]
      exact (hl b hb2).1
    · rw [upd_ne _ _ _ _ (by omega), upd_at]
      unfold mindF
      rw [upd_ne _ _ _ _ (by omega), upd_ne _ _ _ _ (by omega), upd_at]
      exact b1
    · rw [upd_at]
      unfold mindF
      rw [upd_ne _ _ _ _ (by omega), upd_at]
      exact b2
  · obtain ⟨d1, d2, d3⟩ := hx r (by omega)
    refine ⟨fun b hb => ?_, ?_, ?_⟩
    · rw [po _ (by omega), eo _ (by omega) (by omega)]; exact d1 b hb
    · rw [po _ (by omega), eo _ (by omega) (by omega)]; exact d2
    · rw [po _ (by omega), eo _ (by omega) (by omega)]; exact d3
theorem rm_shift {u : MSt} {f : Nat → Int32} {v : VW} {s : Nat} (hr : RM u f v s 8) : RM (shiftM u) (shiftF f) v s 7 := by
  have hx := hr.2.2.2.2.2.2.2.2.2.2.2.2
  have h8 := hr.1.2.2.2.2.2.1
  refine rm_past (upd_at ..) (by omega) (fun k hk hk2 => ?_) (fun r hr2 => ?_) hr
  · unfold shiftF
    rw [upd_ne _ _ _ _ hk2, if_neg (by omega)]
  · have pe : ∀ j, j < 70 → va_cpy (pM_past u) (pM_past u) 10 0 70 j = pM_past u (j + 10) := by
      intro j hj
      rw [vaC, if_pos (by omega), show 10 + (j - 0) = j + 10 from by omega]
    have fe : ∀ j, 72 ≤ j → j < 142 → shiftF f j = f (j + 10) := by
      intro j h1 h2
      unfold shiftF
      rw [upd_ne _ _ _ _ (by omega), if_pos (by omega)]
    obtain ⟨d1, d2, d3⟩ := hx (r + 1) (by omega)
    refine ⟨fun b hb => ?_, ?_, ?_⟩
    · rw [pe _ (by omega), fe _ (by omega) (by omega), show 10 * r + b + 10 = 10 * (r + 1) + b from by omega, show 72 + 10 * r + b + 10 = 72 + 10 * (r + 1) + b from by omega]; exact d1 b hb
    · rw [pe _ (by omega), fe _ (by omega) (by omega), show 10 * r + 8 + 10 = 10 * (r + 1) + 8 from by omega, show 72 + 10 * r + 8 + 10 = 72 + 10 * (r + 1) + 8 from by omega]; exact d2
    · rw [pe _ (by omega), fe _ (by omega) (by omega), show 10 * r + 9 + 10 = 10 * (r + 1) + 9 from by omega, show 72 + 10 * r + 9 + 10 = 72 + 10 * (r + 1) + 9 from by omega]; exact d3
/-- both keep the day in mind -/
theorem keep_ok {c0 : CSt} {u : MSt} {w : LSt} {v : VW} {s p : Nat} (hr : RM u (pL_w w) v s p) : ∃ u' f' q, f_X3_keepPast u = some u' ∧ f_X11_minds w = some (sL_w w f') ∧ RM u' f' v s q ∧ ∀ k, 152 ≤ k → k < 456 → pL_w w k = f' k := by
  have b6 : pM_pastSize u = nI p := hr.2.2.2.2.2.2.2.2.1
  have b7 : pL_w w 7 = nI p := hr.2.2.2.2.2.2.2.2.2.1
  have b8 : p ≤ 8 := hr.2.2.2.2.2.2.2.2.2.2.1
  have mo : ∀ (g : Nat → Int32) q k, q < 8 → 152 ≤ k → mindF g q k = g k := by
    intro g q k hq hk
    unfold mindF
    rw [upd_ne _ _ _ _ (by omega), upd_ne _ _ _ _ (by omega), upd_ne _ _ _ _ (by omega), if_neg (by omega)]
  by_cases c : p < 8
  · refine ⟨_, _, p + 1, keep_C b8 b6, minds_L b8 b7, ?_, ?_⟩
    · rw [if_pos c, if_pos c]
      exact rm_keep c hr
    · intro k hk _
      rw [if_pos c, mo _ _ _ c hk]
  · obtain rfl : p = 8 := by omega
    refine ⟨_, _, 7 + 1, keep_C b8 b6, minds_L b8 b7, ?_, ?_⟩
    · rw [if_neg c, if_neg c]
      exact rm_keep (by omega) (rm_shift hr)
    · intro k hk _
      rw [if_neg c, mo _ _ _ (by omega) hk]
      unfold shiftF
      rw [upd_ne _ _ _ _ (by omega), if_neg (by omega)]
-- what buyers learn
def anyF (p : Nat → Bool) (k : Nat) : Nat → Bool
  | 0 => false
  | d + 1 => p k || anyF p (k + 1) d
theorem anyF_snoc (p : Nat → Bool) : ∀ (d k : Nat), anyF p k (d + 1) = (anyF p k d || p (k + d))
  | 0, k => by
    show (p k || false) = (false || p k)
    rw [Bool.or_false, Bool.false_or]
  | d + 1, k => by
    show (p k || anyF p (k + 1) (d + 1)) = ((p k || anyF p (k + 1) d) || p (k + (d + 1)))
    rw [anyF_snoc p d (k + 1), Bool.or_assoc, show k + 1 + d = k + (d + 1) from by omega]
def cheapB (v : VW) (b : Nat) : Bool := anyF (fun h => decide (vP v h < vP v (hourN v b) / 2)) (hourN v b + 1) (9 - hourN v b)
theorem lp_find {α β : Type} {step : (α → Option β) → α → Option β} (st : Nat → α) (p : Nat → Bool) {A B : β} (N : Nat) (hs : ∀ k K, k < N → step K (st k) = if p k = true then some A else K (st (k + 1))) (he : ∀ K, step K (st N) = some B) : ∀ (d k n : Nat), k + d = N → d < n → lp step n (st k) = some (if anyF p k d = true then A else B) := by
  intro d
  induction d with
  | zero =>
    intro k n hk hn
    obtain ⟨m, rfl⟩ : ∃ m, n = m + 1 := ⟨n - 1, by omega⟩
    have : k = N := by omega
    subst this
    rw [lp_succ, he]
    rfl
  | succ d ih =>
    intro k n hk hn
    obtain ⟨m, rfl⟩ : ∃ m, n = m + 1 := ⟨n - 1, by omega⟩
    rw [lp_succ, hs k _ (by omega), ih (k + 1) m (by omega) (by omega)]
    show (if p k = true then some A else _) = some (if (p k || anyF p (k + 1) d) = true then A else B)
    cases p k
    · rfl
    · rfl
theorem falls_C {u : MSt} {v : VW} {h : Nat} (hp0 : ∀ h, h < 10 → pM_prices u h = vP v h) (hh : h < 10) (q : Int32) : f_X3_fallsBelowBehind u (nI h) q = some (if anyF (fun h => decide (vP v h < q)) (h + 1) (9 - h) = true then 1 else 0) := by
  unfold f_X3_fallsBelowBehind
  have e0 : (if (0 : Int32) < nI h + 1 then nI h + 1 else 0) = nI (h + 1) := by
    rw [nI_1, i_0]
    simp (disch := omega) only [lt_eq, Option.bind_some, inb_t, cl_t, le_t, le_f, lt_t, lt_f, eq_t, eq_f, nI_add, nI_1, ↓reduceIte]
  rw [lt_eq, e0]
  refine lp_find (step := f_X3_fallsBelowBehind_s8 u (nI h) q) (fun k => nI k) (fun h => decide (vP v h < q)) 10 (fun k K hk => ?_) (fun K => ?_) (9 - h) (h + 1) 1000 (by omega) (by omega)
  · have hp := hp0 k hk
    unfold f_X3_fallsBelowBehind_s8
    simp only [i_10]
    simp (disch := omega) only [lt_eq, Option.bind_some, inb_t, cl_t, le_t, le_f, lt_t, lt_f, eq_t, eq_f, nI_add, nI_1, ↓reduceIte, hp]
    by_cases c : vP v k < q
    · rw [decide_eq_true c, if_neg (fun e => Int32.lt_irrefl (Int32.lt_of_lt_of_le c e)), if_pos rfl]
    · rw [decide_eq_false c, if_pos (Int32.not_lt.mp c)]
      rfl
  · unfold f_X3_fallsBelowBehind_s8
    simp only [i_10]
    simp (disch := omega) only [lt_eq, Option.bind_some, inb_t, cl_t, le_t, le_f, lt_t, lt_f, eq_t, eq_f, nI_add, nI_1, ↓reduceIte]
theorem cheaper_L {w : LSt} {v : VW} {b : Nat} (hv : VL (pL_w w) v) (hb : b < vN v) : f_X11_isCheaper w (nI b) = some (if cheapB v b = true then 1 else 0) := by
  have hh := hourN_lt (v := v) (hv.2.2.2.2.2.2 b hb).2.2.2.1
  unfold f_X11_isCheaper
  rw [hourOf_spec hv hb]
  simp only [Option.bind_some, nI_1]
  have hp := hv.1
  have hq := (hp _ hh).1
  unfold cheapB
  refine lp_run1 (step := f_X11_isCheaper_s13 w (nI b)) (fun k => (nI (hourN v b), (if anyF (fun h => decide (vP v h < vP v (hourN v b) / 2)) (hourN v b + 1) k = true then 1 else 0), nI (hourN v b + 1 + k))) (9 - hourN v b) (by omega) rfl (fun k K hk => ?_) (fun K => ?_)
  · have hk2 := (hp (hourN v b + 1 + k) (by omega)).1
    unfold f_X11_isCheaper_s13 f_X11_isCheaper_j48 f_X11_isCheaper_j53
    simp only [i_10, i_8]
    rw [anyF_snoc]
    simp (disch := omega) only [lt_eq, Option.bind_some, inb_t, cl_t, le_t, le_f, lt_t, lt_f, eq_t, eq_f, nI_add, nI_1, ↓reduceIte, hq, hk2]
    cases anyF (fun h => decide (vP v h < vP v (hourN v b) / 2)) (hourN v b + 1) k
    · simp only [Bool.false_or, Bool.false_eq_true, ↓reduceIte, decide_eq_true_eq]
      by_cases c : vP v (hourN v b + 1 + k) < vP v (hourN v b) / 2
      · rw [if_neg (fun e => Int32.lt_irrefl (Int32.lt_of_lt_of_le c e)), if_pos c]
        rfl
      · rw [if_pos (Int32.not_lt.mp c), if_neg c]
        rfl
    · simp only [Bool.true_or, ↓reduceIte, one0]
      rfl
  · unfold f_X11_isCheaper_s13
    simp only [i_10]
    simp (disch := omega) only [lt_eq, Option.bind_some, inb_t, cl_t, le_t, le_f, lt_t, lt_f, eq_t, eq_f, nI_add, nI_1, ↓reduceIte]
    generalize anyF (fun h => decide (vP v h < vP v (hourN v b) / 2)) (hourN v b + 1) (9 - hourN v b) = z
    cases z
    · rfl
    · rfl
def learnN (v : VW) (y : DYS) (b : Nat) : Nat :=
  if vK v b = 1 then (if xS y b = 0 then 0 else 1)
  else if vK v b = 0 ∨ vK v b = 2 ∨ vK v b = 5 then (if xB y b ≤ 0 then vK v b else if cheapB v b = true then 1 else vK v b)
  else vK v b
theorem learnN_lt {v : VW} {y : DYS} {b : Nat} (h : vK v b < 6) : learnN v y b < 6 := by
  unfold learnN
  split
  · split <;> omega
  · split
    · split
      · exact h
      · split
        · omega
        · exact h
    · exact h
def learnV (v : VW) (y : DYS) (n b : Nat) : Nat := if b < n then learnN v y b else vK v b
theorem cheapB_congr {v v' : VW} {b : Nat} (hP : vP v' = vP v) (hK : vK v' b = vK v b) (hO : vO v' b = vO v b) : cheapB v' b = cheapB v b := by
  have e : hourN v' b = hourN v b := by
    unfold hourN waitN
    rw [hK, hO, hP]
  unfold cheapB
  rw [e, hP]
theorem teach_C {d : DSt} {u : MSt} {v : VW} {y : DYS} {pay : Nat → Int32} (hv : VC u v) (hd : PD d v pay (vN v)) (hy : DayIs d y) : f_X2_teach d u = some (sM_kinds u (fun b => if b < vN v then nI (learnN v y b) else pM_kinds u b)) := by
  obtain ⟨hp, -, -, -, hn, h8, hb⟩ := hv
  have hd1 := hd.1
  have hg := hy.2.2.2.2
  clear hd hy
  have may0 : ∀ q, q < 6 → f_X2_mayLearnToWait d (nI q) = some (if q = 0 ∨ q = 2 ∨ q = 5 then 1 else 0) := by
    intro q hq
    match q, hq with
    | 0, _ => rfl
    | 1, _ => rfl
    | 2, _ => rfl
    | 3, _ => rfl
    | 4, _ => rfl
    | 5, _ => rfl
    | q + 6, h => omega
  have paid : ∀ k g, k < vN v → f_X2_paidTooMuch d (sM_kinds u g) (nI k) = some (if xB y k ≤ 0 then 0 else if cheapB v k = true then 1 else 0) := by
    intro k g hk
    have hk8 : k < 8 := by omega
    have hh := hourN_lt (v := v) (hb k hk).2.2.2.1
    have hp2 : ∀ h, h < 10 → pM_prices (sM_kinds u g) h = vP v h := by
      intro h hh
      rw [← (hp h hh).1]
      obtain ⟨u_0, u_1, u_2, u_3, u_4, u_5, u_6, u_7, u_8, u_9, u_10, u_11, u_12, u_13, u_14, u_15, u_16⟩ := u
      simp only [sM_punnets_mk, sM_heat_mk, sM_rainHours_mk, sM_size_mk, sM_totalTakings_mk, sM_totalThrown_mk, sM_soldSize_mk, sM_pastSize_mk, sM_prices_mk, sM_theirPrices_mk, sM_kinds_mk, sM_hours_mk, sM_worths_mk, sM_wants_mk, sM_soldHours_mk, sM_soldNumbers_mk, sM_past_mk, pM_punnets, pM_heat, pM_rainHours, pM_size, pM_totalTakings, pM_totalThrown, pM_soldSize, pM_pastSize, pM_prices, pM_theirPrices, pM_kinds, pM_hours, pM_worths, pM_wants, pM_soldHours, pM_soldNumbers, pM_past]
    unfold f_X2_paidTooMuch
    simp (disch := omega) only [lt_eq, Option.bind_some, inb_t, cl_t, le_t, le_f, lt_t, lt_f, eq_t, eq_f, nI_add, nI_1, ↓reduceIte, (hd1 k hk).1, (hg k hk8).1, priceIn_spec hh, hp2 _ hh, falls_C hp2 hh]
    by_cases c : xB y k ≤ 0
    · rw [if_pos c, if_pos c]
    · rw [if_neg c, if_neg c]
      show (if (if cheapB v k = true then (1 : Int32) else 0) = 0 then some 0 else some 1) = some (if cheapB v k = true then 1 else 0)
      cases cheapB v k
      · rfl
      · rfl
  unfold f_X2_teach
  refine lp_run1 (step := f_X2_teach_s2 d) (fun k => (nI k, sM_kinds u (fun b => if b < k then nI (learnN v y b) else pM_kinds u b))) (vN v) (by omega) ?_ (fun k K hk => ?_) (fun K => ?_)
  · have e2 : (fun b => if b < 0 then nI (learnN v y b) else pM_kinds u b) = pM_kinds u := by
      funext j
      rw [if_neg (by omega)]
    rw [e2]
    obtain ⟨u_0, u_1, u_2, u_3, u_4, u_5, u_6, u_7, u_8, u_9, u_10, u_11, u_12, u_13, u_14, u_15, u_16⟩ := u
    rfl
  · have hk8 : k < 8 := by omega
    obtain ⟨q1, q2, q3, q4, -, -⟩ := hb k hk
    have hs := (hg k hk8).2
    have pd := paid k
    have sz : ∀ g, pM_size (sM_kinds u g) = nI (vN v) := by
      intro g
      rw [← hn]
      obtain ⟨u_0, u_1, u_2, u_3, u_4, u_5, u_6, u_7, u_8, u_9, u_10, u_11, u_12, u_13, u_14, u_15, u_16⟩ := u
      simp only [sM_punnets_mk, sM_heat_mk, sM_rainHours_mk, sM_size_mk, sM_totalTakings_mk, sM_totalThrown_mk, sM_soldSize_mk, sM_pastSize_mk, sM_prices_mk, sM_theirPrices_mk, sM_kinds_mk, sM_hours_mk, sM_worths_mk, sM_wants_mk, sM_soldHours_mk, sM_soldNumbers_mk, sM_past_mk, pM_punnets, pM_heat, pM_rainHours, pM_size, pM_totalTakings, pM_totalThrown, pM_soldSize, pM_pastSize, pM_prices, pM_theirPrices, pM_kinds, pM_hours, pM_worths, pM_wants, pM_soldHours, pM_soldNumbers, pM_past]
    have kk : ∀ g, pM_kinds (sM_kinds u g) = g := by
      intro g
      obtain ⟨u_0, u_1, u_2, u_3, u_4, u_5, u_6, u_7, u_8, u_9, u_10, u_11, u_12, u_13, u_14, u_15, u_16⟩ := u
      simp only [sM_punnets_mk, sM_heat_mk, sM_rainHours_mk, sM_size_mk, sM_totalTakings_mk, sM_totalThrown_mk, sM_soldSize_mk, sM_pastSize_mk, sM_prices_mk, sM_theirPrices_mk, sM_kinds_mk, sM_hours_mk, sM_worths_mk, sM_wants_mk, sM_soldHours_mk, sM_soldNumbers_mk, sM_past_mk, pM_punnets, pM_heat, pM_rainHours, pM_size, pM_totalTakings, pM_totalThrown, pM_soldSize, pM_pastSize, pM_prices, pM_theirPrices, pM_kinds, pM_hours, pM_worths, pM_wants, pM_soldHours, pM_soldNumbers, pM_past]
    have ss : ∀ g g', sM_kinds (sM_kinds u g) g' = sM_kinds u g' := by
      intro g g'
      obtain ⟨u_0, u_1, u_2, u_3, u_4, u_5, u_6, u_7, u_8, u_9, u_10, u_11, u_12, u_13, u_14, u_15, u_16⟩ := u
      simp only [sM_punnets_mk, sM_heat_mk, sM_rainHours_mk, sM_size_mk, sM_totalTakings_mk, sM_totalThrown_mk, sM_soldSize_mk, sM_pastSize_mk, sM_prices_mk, sM_theirPrices_mk, sM_kinds_mk, sM_hours_mk, sM_worths_mk, sM_wants_mk, sM_soldHours_mk, sM_soldNumbers_mk, sM_past_mk, pM_punnets, pM_heat, pM_rainHours, pM_size, pM_totalTakings, pM_totalThrown, pM_soldSize, pM_pastSize, pM_prices, pM_theirPrices, pM_kinds, pM_hours, pM_worths, pM_wants, pM_soldHours, pM_soldNumbers, pM_past]
    have e0 : (if k < k then nI (learnN v y k) else pM_kinds u k) = nI (vK v k) := by rw [if_neg (by omega)]; exact q1
    have fin : ∀ z, z = nI (learnN v y k) → upd (fun b => if b < k then nI (learnN v y b) else pM_kinds u b) k z = (fun b => if b < k + 1 then nI (learnN v y b) else pM_kinds u b) := by
      intro z hz
      funext j
      rw [upd_eq]
      by_cases c1 : j = k
      · rw [if_pos c1, if_pos (by omega), hz, c1]
      · rw [if_neg c1]
        by_cases c2 : j < k
        · rw [if_pos c2, if_pos (by omega)]
        · rw [if_neg c2, if_neg (by omega)]
    have fin0 : nI (vK v k) = nI (learnN v y k) → (fun b => if b < k then nI (learnN v y b) else pM_kinds u b) = (fun b => if b < k + 1 then nI (learnN v y b) else pM_kinds u b) := by
      intro hz
      rw [← fin _ rfl, ← hz, ← e0]
      exact (upd_same _ _ _ rfl).symm
    unfold f_X2_teach_s2 f_X2_teach_j44 f_X2_teach_j68
    simp only [i_8]
    simp (disch := omega) only [lt_eq, Option.bind_some, inb_t, cl_t, le_t, le_f, lt_t, lt_f, eq_t, eq_f, nI_add, nI_1, ↓reduceIte, sz, kk, ss, e0, hs, may0 _ q2]
    by_cases c1 : vK v k = 1
    · have d1 : nI (vK v k) = (1 : Int32) := by rw [c1]; rfl
      rw [if_pos d1, if_neg (show ¬ (vK v k = 0 ∨ vK v k = 2 ∨ vK v k = 5) by omega)]
      simp only [↓reduceIte]
      by_cases c2 : xS y k = 0
      · rw [if_pos c2, fin 0 (by unfold learnN; rw [if_pos c1, if_pos c2]; rfl)]
      · rw [if_neg c2, fin0 (by unfold learnN; rw [if_pos c1, if_neg c2, c1])]
    · have d1 : ¬ nI (vK v k) = (1 : Int32) := by
        intro e
        exact c1 ((eq_nI (by omega) (by omega)).mp (e.trans i_1))
      rw [if_neg d1]
      by_cases c3 : vK v k = 0 ∨ vK v k = 2 ∨ vK v k = 5
      · rw [if_pos c3]
        simp only [one0, ↓reduceIte, pd _ hk, Option.bind_some]
        by_cases c4 : xB y k ≤ 0
        · simp only [c4, ↓reduceIte]
          rw [fin0 (by unfold learnN; rw [if_neg c1, if_pos c3, if_pos c4])]
        · simp only [c4, ↓reduceIte]
          by_cases c5 : cheapB v k = true
          · simp only [c5, ↓reduceIte, one0]
            rw [fin 1 (by unfold learnN; rw [if_neg c1, if_pos c3, if_neg c4, if_pos c5]; rfl)]
          · simp only [c5, Bool.false_eq_true, ↓reduceIte]
            rw [fin0 (by unfold learnN; rw [if_neg c1, if_pos c3, if_neg c4, if_neg c5])]
      · rw [if_neg c3]
        simp only [↓reduceIte]
        rw [fin0 (by unfold learnN; rw [if_neg c1, if_neg c3])]
  · have sz : ∀ g, pM_size (sM_kinds u g) = nI (vN v) := by
      intro g
      rw [← hn]
      obtain ⟨u_0, u_1, u_2, u_3, u_4, u_5, u_6, u_7, u_8, u_9, u_10, u_11, u_12, u_13, u_14, u_15, u_16⟩ := u
      simp only [sM_punnets_mk, sM_heat_mk, sM_rainHours_mk, sM_size_mk, sM_totalTakings_mk, sM_totalThrown_mk, sM_soldSize_mk, sM_pastSize_mk, sM_prices_mk, sM_theirPrices_mk, sM_kinds_mk, sM_hours_mk, sM_worths_mk, sM_wants_mk, sM_soldHours_mk, sM_soldNumbers_mk, sM_past_mk, pM_punnets, pM_heat, pM_rainHours, pM_size, pM_totalTakings, pM_totalThrown, pM_soldSize, pM_pastSize, pM_prices, pM_theirPrices, pM_kinds, pM_hours, pM_worths, pM_wants, pM_soldHours, pM_soldNumbers, pM_past]
    unfold f_X2_teach_s2
    simp (disch := omega) only [lt_eq, Option.bind_some, inb_t, cl_t, le_t, le_f, lt_t, lt_f, eq_t, eq_f, nI_add, nI_1, ↓reduceIte, sz]
theorem learns_L {w : LSt} {v : VW} {y : DYS} (hv : VL (pL_w w) v) (hy : DayL w y) : f_X11_learns w = some (sL_w w (fun j => if 28 ≤ j ∧ j < 28 + vN v then nI (learnN v y (j - 28)) else pL_w w j)) := by
  have hv0 := hv
  obtain ⟨hp, l1, l2, l3, hn, h8, hb⟩ := hv
  have hg := hy.2.2.2.2
  have gg : ∀ f, pL_gets (sL_w w f) = pL_gets w := by
    intro f
    obtain ⟨w_0, w_1, w_2, w_3, w_4, w_5, w_6, w_7, w_8, w_9, w_10, w_11, w_12, w_13, w_14, w_15, w_16, w_17, w_18, w_19, w_20, w_21, w_22, w_23⟩ := w
    simp only [sL_w_mk, sL_isKept_mk, sL_text_mk, sL_texted_mk, sL_refused_mk, sL_above_mk, sL_below_mk, sL_at_mk, sL_start_mk, sL_isWord_mk, sL_isFigures_mk, sL_value_mk, sL_comers_mk, sL_shouted_mk, sL_gets_mk, sL_isServed_mk, sL_goes_mk, sL_takings_mk, sL_theirTakings_mk, sL_left_mk, sL_aside_mk, sL_own_mk, sL_other_mk, sL_h_mk, pL_w, pL_isKept, pL_text, pL_texted, pL_refused, pL_above, pL_below, pL_at, pL_start, pL_isWord, pL_isFigures, pL_value, pL_comers, pL_shouted, pL_gets, pL_isServed, pL_goes, pL_takings, pL_theirTakings, pL_left, pL_aside, pL_own, pL_other, pL_h]
  have gs : ∀ f, pL_isServed (sL_w w f) = pL_isServed w := by
    intro f
    obtain ⟨w_0, w_1, w_2, w_3, w_4, w_5, w_6, w_7, w_8, w_9, w_10, w_11, w_12, w_13, w_14, w_15, w_16, w_17, w_18, w_19, w_20, w_21, w_22, w_23⟩ := w
    simp only [sL_w_mk, sL_isKept_mk, sL_text_mk, sL_texted_mk, sL_refused_mk, sL_above_mk, sL_below_mk, sL_at_mk, sL_start_mk, sL_isWord_mk, sL_isFigures_mk, sL_value_mk, sL_comers_mk, sL_shouted_mk, sL_gets_mk, sL_isServed_mk, sL_goes_mk, sL_takings_mk, sL_theirTakings_mk, sL_left_mk, sL_aside_mk, sL_own_mk, sL_other_mk, sL_h_mk, pL_w, pL_isKept, pL_text, pL_texted, pL_refused, pL_above, pL_below, pL_at, pL_start, pL_isWord, pL_isFigures, pL_value, pL_comers, pL_shouted, pL_gets, pL_isServed, pL_goes, pL_takings, pL_theirTakings, pL_left, pL_aside, pL_own, pL_other, pL_h]
  unfold f_X11_learns
  refine lp_run1 (step := f_X11_learns_s2) (fun k => (nI k, sL_w w (fun j => if 28 ≤ j ∧ j < 28 + k then nI (learnN v y (j - 28)) else pL_w w j))) (vN v) (by omega) ?_ (fun k K hk => ?_) (fun K => ?_)
  · have e2 : (fun j => if 28 ≤ j ∧ j < 28 + 0 then nI (learnN v y (j - 28)) else pL_w w j) = pL_w w := by
      funext j
      rw [if_neg (by omega)]
    rw [e2, wSelf]
    rfl
  · have hk8 : k < 8 := by omega
    obtain ⟨q1, q2, q3, q4, q5, q6⟩ := hb k hk
    have e28 : (if 28 ≤ 28 + k ∧ 28 + k < 28 + k then nI (learnN v y (28 + k - 28)) else pL_w w (28 + k)) = nI (vK v k) := by rw [if_neg (by omega)]; exact q1
    have e3 : (if 28 ≤ 3 ∧ 3 < 28 + k then nI (learnN v y (3 - 28)) else pL_w w 3) = nI (vN v) := by rw [if_neg (by omega)]; exact hn
    have hvk : VL (fun j => if 28 ≤ j ∧ j < 28 + k then nI (learnN v y (j - 28)) else pL_w w j) (vP v, vT v, vR v, vH v, vU v, vN v, learnV v y k, vO v, vW v, vA v) := by
      have eo : ∀ j, ¬ (28 ≤ j ∧ j < 36) → (if 28 ≤ j ∧ j < 28 + k then nI (learnN v y (j - 28)) else pL_w w j) = pL_w w j := fun j hj => if_neg (by omega)
      refine ⟨fun h hh => ?_, ?_, ?_, ?_, e3, h8, fun b hb2 => ?_⟩
      · show (if 28 ≤ 8 + h ∧ 8 + h < 28 + k then nI (learnN v y (8 + h - 28)) else pL_w w (8 + h)) = vP v h ∧ (if 28 ≤ 18 + h ∧ 18 + h < 28 + k then nI (learnN v y (18 + h - 28)) else pL_w w (18 + h)) = vT v h
        rw [eo _ (by omega), eo _ (by omega)]; exact hp h hh
      · show (if 28 ≤ 2 ∧ 2 < 28 + k then nI (learnN v y (2 - 28)) else pL_w w 2) = vR v
        rw [eo _ (by omega)]; exact l1
      · show (if 28 ≤ 1 ∧ 1 < 28 + k then nI (learnN v y (1 - 28)) else pL_w w 1) = vH v
        rw [eo _ (by omega)]; exact l2
      · show (if 28 ≤ 0 ∧ 0 < 28 + k then nI (learnN v y (0 - 28)) else pL_w w 0) = vU v
        rw [eo _ (by omega)]; exact l3
      · have hb3 : b < vN v := hb2
        obtain ⟨r1, r2, r3⟩ := hb b hb3
        show (if 28 ≤ 28 + b ∧ 28 + b < 28 + k then nI (learnN v y (28 + b - 28)) else pL_w w (28 + b)) = nI (learnV v y k b) ∧ learnV v y k b < 6 ∧ (if 28 ≤ 36 + b ∧ 36 + b < 28 + k then nI (learnN v y (36 + b - 28)) else pL_w w (36 + b)) = nI (vO v b) ∧ vO v b < 10 ∧ (if 28 ≤ 44 + b ∧ 44 + b < 28 + k then nI (learnN v y (44 + b - 28)) else pL_w w (44 + b)) = vW v b ∧ (if 28 ≤ 52 + b ∧ 52 + b < 28 + k then nI (learnN v y (52 + b - 28)) else pL_w w (52 + b)) = vA v b
        rw [eo (36 + b) (by omega), eo (44 + b) (by omega), eo (52 + b) (by omega)]
        refine ⟨?_, ?_, r3⟩
        · unfold learnV
          by_cases c : b < k
          · rw [if_pos (by omega), if_pos c, show 28 + b - 28 = b from by omega]
          · rw [if_neg (by omega), if_neg c]; exact r1
        · unfold learnV
          by_cases c : b < k
          · rw [if_pos c]; exact learnN_lt r2
          · rw [if_neg c]; exact r2
    have ech : f_X11_isCheaper (sL_w w (fun j => if 28 ≤ j ∧ j < 28 + k then nI (learnN v y (j - 28)) else pL_w w j)) (nI k) = some (if cheapB v k = true then 1 else 0) := by
      rw [cheaper_L (v := (vP v, vT v, vR v, vH v, vU v, vN v, learnV v y k, vO v, vW v, vA v)) (by rw [wW]; exact hvk) hk, cheapB_congr (v := v) (v' := (vP v, vT v, vR v, vH v, vU v, vN v, learnV v y k, vO v, vW v, vA v)) rfl (show learnV v y k k = vK v k from if_neg (by omega)) rfl]
    have fin : ∀ z, z = nI (learnN v y k) → upd (fun j => if 28 ≤ j ∧ j < 28 + k then nI (learnN v y (j - 28)) else pL_w w j) (28 + k) z = (fun j => if 28 ≤ j ∧ j < 28 + (k + 1) then nI (learnN v y (j - 28)) else pL_w w j) := by
      intro z hz
      funext j
      rw [upd_eq]
      by_cases c1 : j = 28 + k
      · rw [if_pos c1, if_pos (by omega), hz, show j - 28 = k from by omega]
      · rw [if_neg c1]
        by_cases c2 : 28 ≤ j ∧ j < 28 + k
        · rw [if_pos c2, if_pos (by omega)]
        · rw [if_neg c2, if_neg (by omega)]
    have hg1 := (hg k hk8).1
    have hg2 := (hg k hk8).2
    have j86 : ∀ t, t = nI (learnN v y k) → f_X11_learns_j86 K (nI k) t (sL_w w (fun j => if 28 ≤ j ∧ j < 28 + k then nI (learnN v y (j - 28)) else pL_w w j)) = K (nI (k + 1), sL_w w (fun j => if 28 ≤ j ∧ j < 28 + (k + 1) then nI (learnN v y (j - 28)) else pL_w w j)) := by
      intro t ht
      unfold f_X11_learns_j86
      simp only [i_28]
      simp (disch := omega) only [lt_eq, Option.bind_some, inb_t, cl_t, le_t, le_f, lt_t, lt_f, eq_t, eq_f, nI_add, nI_1, ↓reduceIte, wW, wWW, fin t ht]
    clear hvk fin
    have e28 : (fun j => if 28 ≤ j ∧ j < 28 + k then nI (learnN v y (j - 28)) else pL_w w j) (28 + k) = nI (vK v k) := e28
    have e3 : (fun j => if 28 ≤ j ∧ j < 28 + k then nI (learnN v y (j - 28)) else pL_w w j) 3 = nI (vN v) := e3
    generalize (fun j => if 28 ≤ j ∧ j < 28 + k then nI (learnN v y (j - 28)) else pL_w w j) = g at e28 e3 ech j86 ⊢
    generalize (fun j => if 28 ≤ j ∧ j < 28 + (k + 1) then nI (learnN v y (j - 28)) else pL_w w j) = g' at j86 ⊢
    have e1 : (nI (vK v k) = (1 : Int32)) = (vK v k = 1) := propext ⟨fun e => (eq_nI (by omega) (by omega)).mp (e.trans i_1), fun e => by rw [e]; rfl⟩
    have e0 : (nI (vK v k) = (0 : Int32)) = (vK v k = 0) := propext ⟨fun e => (eq_nI (by omega) (by omega)).mp (e.trans i_0), fun e => by rw [e]; rfl⟩
    have e2 : (nI (vK v k) = (2 : Int32)) = (vK v k = 2) := propext ⟨fun e => (eq_nI (by omega) (by omega)).mp (e.trans i_2), fun e => by rw [e]; rfl⟩
    have e5 : (nI (vK v k) = (5 : Int32)) = (vK v k = 5) := propext ⟨fun e => (eq_nI (by omega) (by omega)).mp (e.trans i_5), fun e => by rw [e]; rfl⟩
    have j67 : (xB y k ≤ 0 ∨ ¬ (vK v k = 0 ∨ vK v k = 2 ∨ vK v k = 5) ∨ ¬ cheapB v k = true) → f_X11_learns_j67 K (nI k) (nI (vK v k)) (sL_w w g) = K (nI (k + 1), sL_w w g') := by
      intro hc
      unfold f_X11_learns_j67 f_X11_learns_j85
      simp only [e1]
      by_cases c1 : vK v k = 1
      · rw [if_pos c1]
        simp (disch := omega) only [lt_eq, Option.bind_some, inb_t, cl_t, le_t, le_f, lt_t, lt_f, eq_t, eq_f, nI_add, nI_1, ↓reduceIte, gs, hg2]
        by_cases c2 : xS y k = 0
        · rw [if_pos c2]
          exact j86 0 (by unfold learnN; rw [if_pos c1, if_pos c2]; rfl)
        · rw [if_neg c2]
          exact j86 _ (by unfold learnN; rw [if_pos c1, if_neg c2, c1])
      · rw [if_neg c1]
        refine j86 _ ?_
        unfold learnN
        rw [if_neg c1]
        rcases hc with c | c | c
        · simp only [c, ↓reduceIte, ite_self]
        · simp only [c, ↓reduceIte]
        · simp only [c, Bool.false_eq_true, ↓reduceIte, ite_self]
    have j49 : (xB y k ≤ 0 ∨ ¬ (vK v k = 0 ∨ vK v k = 2 ∨ vK v k = 5) ∨ ¬ cheapB v k = true) → f_X11_learns_j49 K (nI k) (nI (vK v k)) (sL_w w g) = K (nI (k + 1), sL_w w g') := by
      intro hc
      unfold f_X11_learns_j49 f_X11_learns_j50
      rw [if_pos rfl]
      exact j67 hc
    have j45 : ¬ xB y k ≤ 0 → (vK v k = 0 ∨ vK v k = 2 ∨ vK v k = 5) → f_X11_learns_j45 K (nI k) (nI (vK v k)) (sL_w w g) = K (nI (k + 1), sL_w w g') := by
      intro c4 c3
      unfold f_X11_learns_j45 f_X11_learns_j50
      rw [if_neg one0, ech]
      simp only [Option.bind_some]
      by_cases c5 : cheapB v k = true
      · simp only [c5, ↓reduceIte, one0]
        refine j86 _ ?_
        unfold learnN
        rw [if_neg (by omega), if_pos c3, if_neg c4, if_pos c5]
        rfl
      · simp only [c5, Bool.false_eq_true, ↓reduceIte]
        exact j67 (Or.inr (Or.inr c5))
    unfold f_X11_learns_s2
    simp only [i_3, i_28]
    simp (disch := omega) only [lt_eq, Option.bind_some, inb_t, cl_t, le_t, le_f, lt_t, lt_f, eq_t, eq_f, nI_add, nI_1, ↓reduceIte, wW, e3, e28, gg, hg1]
    by_cases c4 : xB y k ≤ 0
    · rw [if_pos c4]
      exact j49 (Or.inl c4)
    · rw [if_neg c4]
      simp only [e0, e2, e5]
      by_cases c0 : vK v k = 0
      · rw [if_pos c0]
        exact j45 c4 (Or.inl c0)
      · rw [if_neg c0]
        by_cases c2 : vK v k = 2
        · rw [if_pos c2]
          exact j45 c4 (Or.inr (Or.inl c2))
        · rw [if_neg c2]
          by_cases c5 : vK v k = 5
          · rw [if_pos c5]
            exact j45 c4 (Or.inr (Or.inr c5))
          · rw [if_neg c5]
            exact j49 (Or.inr (Or.inl (by omega)))
  · have e3 : (if 28 ≤ 3 ∧ 3 < 28 + vN v then nI (learnN v y (3 - 28)) else pL_w w 3) = nI (vN v) := by rw [if_neg (by omega)]; exact hn
    unfold f_X11_learns_s2
    simp only [i_3]
    simp (disch := omega) only [lt_eq, Option.bind_some, inb_t, cl_t, le_t, le_f, lt_t, lt_f, eq_t, eq_f, nI_add, nI_1, ↓reduceIte, wW, wWW, e3]
theorem set_kt (u : MSt) (ka : Nat → Int32) (a b : Int32) : sM_kinds (sM_totalThrown (sM_totalTakings u a) b) ka = sM_totalThrown (sM_totalTakings (sM_kinds u ka) a) b := by
  obtain ⟨u_0, u_1, u_2, u_3, u_4, u_5, u_6, u_7, u_8, u_9, u_10, u_11, u_12, u_13, u_14, u_15, u_16⟩ := u
  simp only [sM_punnets_mk, sM_heat_mk, sM_rainHours_mk, sM_size_mk, sM_totalTakings_mk, sM_totalThrown_mk, sM_soldSize_mk, sM_pastSize_mk, sM_prices_mk, sM_theirPrices_mk, sM_kinds_mk, sM_hours_mk, sM_worths_mk, sM_wants_mk, sM_soldHours_mk, sM_soldNumbers_mk, sM_past_mk, pM_punnets, pM_heat, pM_rainHours, pM_size, pM_totalTakings, pM_totalThrown, pM_soldSize, pM_pastSize, pM_prices, pM_theirPrices, pM_kinds, pM_hours, pM_worths, pM_wants, pM_soldHours, pM_soldNumbers, pM_past]
theorem s_day : sim_day Rel := by
  intro c w hR
  obtain ⟨v, s, p, hN⟩ := rel_now hR
  obtain ⟨u1, f1, q, k1, k2, k3, k4⟩ := keep_ok (c0 := c) hN
  have h8 := hN.1.2.2.2.2.2.1
  obtain ⟨d', r1, r2, r3⟩ := run_spec (c_d c) k3.1 k3.2.2.1
  have hv1 : VL (pL_w (sL_w w f1)) v := by rw [wW]; exact k3.2.1
  obtain ⟨w2, t1, t2, t3, t4, t5, t6⟩ := triesAll_ok hv1
  rw [wW] at t4
  have u2v : ∀ a b, VC (sM_totalThrown (sM_totalTakings u1 a) b) v := by
    intro a b
    have := k3.1
    obtain ⟨u1_0, u1_1, u1_2, u1_3, u1_4, u1_5, u1_6, u1_7, u1_8, u1_9, u1_10, u1_11, u1_12, u1_13, u1_14, u1_15, u1_16⟩ := u1
    simp only [sM_punnets_mk, sM_heat_mk, sM_rainHours_mk, sM_size_mk, sM_totalTakings_mk, sM_totalThrown_mk, sM_soldSize_mk, sM_pastSize_mk, sM_prices_mk, sM_theirPrices_mk, sM_kinds_mk, sM_hours_mk, sM_worths_mk, sM_wants_mk, sM_soldHours_mk, sM_soldNumbers_mk, sM_past_mk, pM_punnets, pM_heat, pM_rainHours, pM_size, pM_totalTakings, pM_totalThrown, pM_soldSize, pM_pastSize, pM_prices, pM_theirPrices, pM_kinds, pM_hours, pM_worths, pM_wants, pM_soldHours, pM_soldNumbers, pM_past]
    exact this
  have hy : DayIs d' (dayN v (paysI v) 255) := r3
  have f2v : ∀ a b, VL (upd (upd f1 4 a) 5 b) v := by
    intro a b
    obtain ⟨l1, l2, l3, l4, l5, l6, l7⟩ := k3.2.1
    refine ⟨fun k hk => ?_, ?_, ?_, ?_, ?_, l6, fun b hb => ?_⟩
    · rw [upd_ne _ _ _ _ (by omega), upd_ne _ _ _ _ (by omega), upd_ne _ _ _ _ (by omega), upd_ne _ _ _ _ (by omega)]; exact l1 k hk
    · rw [upd_ne _ _ _ _ (by omega), upd_ne _ _ _ _ (by omega)]; exact l2
    · rw [upd_ne _ _ _ _ (by omega), upd_ne _ _ _ _ (by omega)]; exact l3
    · rw [upd_ne _ _ _ _ (by omega), upd_ne _ _ _ _ (by omega)]; exact l4
    · rw [upd_ne _ _ _ _ (by omega), upd_ne _ _ _ _ (by omega)]; exact l5
    · rw [upd_ne _ _ _ _ (by omega), upd_ne _ _ _ _ (by omega), upd_ne _ _ _ _ (by omega), upd_ne _ _ _ _ (by omega), upd_ne _ _ _ _ (by omega), upd_ne _ _ _ _ (by omega), upd_ne _ _ _ _ (by omega), upd_ne _ _ _ _ (by omega)]; exact l7 b hb
  have wday : ∀ f, DayL (sL_w w2 f) (dayN v (paysI v) 255) := by
    intro f
    have := t6
    obtain ⟨w2_0, w2_1, w2_2, w2_3, w2_4, w2_5, w2_6, w2_7, w2_8, w2_9, w2_10, w2_11, w2_12, w2_13, w2_14, w2_15, w2_16, w2_17, w2_18, w2_19, w2_20, w2_21, w2_22, w2_23⟩ := w2
    simp only [sL_w_mk]
    exact this
  have hte := teach_C (u2v (pM_totalTakings u1 + pD_takings d') (pM_totalThrown u1 + pD_left d')) r2 hy
  have hle := learns_L (w := sL_w w2 (upd (upd f1 4 (f1 4 + pL_takings w2)) 5 (f1 5 + pL_left w2))) (v := v) (by rw [wW]; exact f2v _ _) (wday _)
  rw [wW, wWW] at hle
  have b1 : pM_totalTakings u1 = f1 4 := k3.2.2.2.1
  have b2 : pM_totalThrown u1 = f1 5 := k3.2.2.2.2.1
  have e1 : pD_takings d' = pL_takings w2 := r3.2.1.trans t6.2.1.symm
  have e2 : pD_left d' = pL_left w2 := r3.1.trans t6.1.symm
  generalize hF : (fun j => if 28 ≤ j ∧ j < 28 + vN v then nI (learnN v (dayN v (paysI v) 255) (j - 28)) else upd (upd f1 4 (f1 4 + pL_takings w2)) 5 (f1 5 + pL_left w2) j) = F at hle
  generalize hKa : (fun b => if b < vN v then nI (learnN v (dayN v (paysI v) 255) b) else pM_kinds (sM_totalThrown (sM_totalTakings u1 (pM_totalTakings u1 + pD_takings d')) (pM_totalThrown u1 + pD_left d')) b) = ka at hte
  rw [set_kt] at hte
  have hM : RM (sM_totalThrown (sM_totalTakings (sM_kinds u1 ka) (pM_totalTakings u1 + pD_takings d')) (pM_totalThrown u1 + pD_left d')) F (vP v, vT v, vR v, vH v, vU v, vN v, learnN v (dayN v (paysI v) 255), vO v, vW v, vA v) s q := by
    refine rm_kinds (fun b hb => ?_) ?_ ?_ (fun k hk h4 h5 h28 => ?_) k3
    · refine ⟨learnN_lt (k3.1.2.2.2.2.2.2 b hb).2.1, ?_, ?_⟩
      · rw [← hKa]
        exact if_pos hb
      · rw [← hF]
        show (if 28 ≤ 28 + b ∧ 28 + b < 28 + vN v then nI (learnN v (dayN v (paysI v) 255) (28 + b - 28)) else _) = _
        rw [if_pos (by omega), show 28 + b - 28 = b from by omega]
    · rw [← hF, b1, e1]
      show _ = (if 28 ≤ 4 ∧ 4 < 28 + vN v then _ else upd (upd f1 4 (f1 4 + pL_takings w2)) 5 (f1 5 + pL_left w2) 4)
      rw [if_neg (by omega), upd_ne _ _ _ _ (by omega), upd_at]
    · rw [← hF, b2, e2]
      show _ = (if 28 ≤ 5 ∧ 5 < 28 + vN v then _ else upd (upd f1 4 (f1 4 + pL_takings w2)) 5 (f1 5 + pL_left w2) 5)
      rw [if_neg (by omega), upd_at]
    · rw [← hF]
      show _ = (if 28 ≤ k ∧ k < 28 + vN v then _ else upd (upd f1 4 (f1 4 + pL_takings w2)) 5 (f1 5 + pL_left w2) k)
      rw [if_neg (by omega), upd_ne _ _ _ _ h5, upd_ne _ _ _ _ h4]
  have hFo : ∀ k, 152 ≤ k → k < 456 → pL_w w k = F k := by
    intro k h1 h2
    rw [← hF]
    show _ = (if 28 ≤ k ∧ k < 28 + vN v then _ else upd (upd f1 4 (f1 4 + pL_takings w2)) 5 (f1 5 + pL_left w2) k)
    rw [if_neg (by omega), upd_ne _ _ _ _ (by omega), upd_ne _ _ _ _ (by omega)]
    exact k4 k h1 h2
  have hR2 : Rel (sc_m0 c (sM_totalThrown (sM_totalTakings (sM_kinds u1 ka) (pM_totalTakings u1 + pD_takings d')) (pM_totalThrown u1 + pD_left d'))) (sL_w w F) := rel_set hR ⟨_, _, _, hM⟩ hFo
  have kp2 : Kp (sL_w w F) (sL_w w2 F) := by
    have k5 := t2
    unfold Kp at k5 ⊢
    clear hle hR2 t1 t2 t3 t4 t5 t6 wday hN hR k2 k3 k4 hv1
    obtain ⟨w_0, w_1, w_2, w_3, w_4, w_5, w_6, w_7, w_8, w_9, w_10, w_11, w_12, w_13, w_14, w_15, w_16, w_17, w_18, w_19, w_20, w_21, w_22, w_23⟩ := w
    obtain ⟨w2_0, w2_1, w2_2, w2_3, w2_4, w2_5, w2_6, w2_7, w2_8, w2_9, w2_10, w2_11, w2_12, w2_13, w2_14, w2_15, w2_16, w2_17, w2_18, w2_19, w2_20, w2_21, w2_22, w2_23⟩ := w2
    simp only [sL_w_mk, sL_isKept_mk, sL_text_mk, sL_texted_mk, sL_refused_mk, sL_above_mk, sL_below_mk, sL_at_mk, sL_start_mk, sL_isWord_mk, sL_isFigures_mk, sL_value_mk, sL_comers_mk, sL_shouted_mk, sL_gets_mk, sL_isServed_mk, sL_goes_mk, sL_takings_mk, sL_theirTakings_mk, sL_left_mk, sL_aside_mk, sL_own_mk, sL_other_mk, sL_h_mk, pL_w, pL_isKept, pL_text, pL_texted, pL_refused, pL_above, pL_below, pL_at, pL_start, pL_isWord, pL_isFigures, pL_value, pL_comers, pL_shouted, pL_gets, pL_isServed, pL_goes, pL_takings, pL_theirTakings, pL_left, pL_aside, pL_own, pL_other, pL_h] at k5 ⊢
    exact k5
  have hR3 : Rel (sc_m0 c (sM_totalThrown (sM_totalTakings (sM_kinds u1 ka) (pM_totalTakings u1 + pD_takings d')) (pM_totalThrown u1 + pD_left d'))) (sL_w w2 F) := rel_kp hR2 kp2 (fun k _ => by rw [wW, wW])
  refine simR (x := (pD_takings d', sc_d (sc_m0 c (sM_totalThrown (sM_totalTakings (sM_kinds u1 ka) (pM_totalTakings u1 + pD_takings d')) (pM_totalThrown u1 + pD_left d'))) d')) (y := (pL_takings w2, sL_w w2 F)) ?_ ?_ e1 (rel_d hR3 d')
  · clear hR hR2 hR3 hN
    obtain ⟨⟨h_0, h_1, h_2, h_3, h_4, h_5⟩, ⟨m0, m1, m2, m3⟩, d, s, r⟩ := c
    unfold f_X10_day
    simp only [sc_h_mk, sc_m0_mk, sc_m1_mk, sc_m2_mk, sc_m3_mk, sc_d_mk, sc_s_mk, sc_r_mk, sc_k2_mk, sc_k3_mk, c_h, c_m0, c_m1, c_m2, c_m3, c_d, c_s, c_r, Option.bind_some, lt_eq] at k1 r1 hte ⊢
    rw [k1]
    simp only [sc_h_mk, sc_m0_mk, sc_m1_mk, sc_m2_mk, sc_m3_mk, sc_d_mk, sc_s_mk, sc_r_mk, sc_k2_mk, sc_k3_mk, c_h, c_m0, c_m1, c_m2, c_m3, c_d, c_s, c_r, Option.bind_some, lt_eq]
    rw [r1]
    simp only [sc_h_mk, sc_m0_mk, sc_m1_mk, sc_m2_mk, sc_m3_mk, sc_d_mk, sc_s_mk, sc_r_mk, sc_k2_mk, sc_k3_mk, c_h, c_m0, c_m1, c_m2, c_m3, c_d, c_s, c_r, Option.bind_some, lt_eq]
    have e7 : pM_totalThrown (sM_totalTakings u1 (pM_totalTakings u1 + pD_takings d')) = pM_totalThrown u1 := by
      obtain ⟨u1_0, u1_1, u1_2, u1_3, u1_4, u1_5, u1_6, u1_7, u1_8, u1_9, u1_10, u1_11, u1_12, u1_13, u1_14, u1_15, u1_16⟩ := u1
      simp only [sM_punnets_mk, sM_heat_mk, sM_rainHours_mk, sM_size_mk, sM_totalTakings_mk, sM_totalThrown_mk, sM_soldSize_mk, sM_pastSize_mk, sM_prices_mk, sM_theirPrices_mk, sM_kinds_mk, sM_hours_mk, sM_worths_mk, sM_wants_mk, sM_soldHours_mk, sM_soldNumbers_mk, sM_past_mk, pM_punnets, pM_heat, pM_rainHours, pM_size, pM_totalTakings, pM_totalThrown, pM_soldSize, pM_pastSize, pM_prices, pM_theirPrices, pM_kinds, pM_hours, pM_worths, pM_wants, pM_soldHours, pM_soldNumbers, pM_past]
    rw [e7, hte]
    simp only [sc_h_mk, sc_m0_mk, sc_m1_mk, sc_m2_mk, sc_m3_mk, sc_d_mk, sc_s_mk, sc_r_mk, sc_k2_mk, sc_k3_mk, c_h, c_m0, c_m1, c_m2, c_m3, c_d, c_s, c_r, Option.bind_some, lt_eq]
  · unfold f_X11_day
    rw [k2]
    simp only [Option.bind_some, lt_eq]
    rw [t1]
    simp only [Option.bind_some, lt_eq, i_4, i_5]
    have tk : ∀ f, pL_takings (sL_w w2 f) = pL_takings w2 := by
      intro f
      clear hR2 hR3 hle t1 t2 t3 t4 t5 t6 kp2 wday e1 e2 hM hF hte hFo
      obtain ⟨w2_0, w2_1, w2_2, w2_3, w2_4, w2_5, w2_6, w2_7, w2_8, w2_9, w2_10, w2_11, w2_12, w2_13, w2_14, w2_15, w2_16, w2_17, w2_18, w2_19, w2_20, w2_21, w2_22, w2_23⟩ := w2
      simp only [sL_w_mk, sL_isKept_mk, sL_text_mk, sL_texted_mk, sL_refused_mk, sL_above_mk, sL_below_mk, sL_at_mk, sL_start_mk, sL_isWord_mk, sL_isFigures_mk, sL_value_mk, sL_comers_mk, sL_shouted_mk, sL_gets_mk, sL_isServed_mk, sL_goes_mk, sL_takings_mk, sL_theirTakings_mk, sL_left_mk, sL_aside_mk, sL_own_mk, sL_other_mk, sL_h_mk, pL_w, pL_isKept, pL_text, pL_texted, pL_refused, pL_above, pL_below, pL_at, pL_start, pL_isWord, pL_isFigures, pL_value, pL_comers, pL_shouted, pL_gets, pL_isServed, pL_goes, pL_takings, pL_theirTakings, pL_left, pL_aside, pL_own, pL_other, pL_h]
    have tl : ∀ f, pL_left (sL_w w2 f) = pL_left w2 := by
      intro f
      clear hR2 hR3 hle t1 t2 t3 t4 t5 t6 kp2 wday e1 e2 hM hF hte hFo
      obtain ⟨w2_0, w2_1, w2_2, w2_3, w2_4, w2_5, w2_6, w2_7, w2_8, w2_9, w2_10, w2_11, w2_12, w2_13, w2_14, w2_15, w2_16, w2_17, w2_18, w2_19, w2_20, w2_21, w2_22, w2_23⟩ := w2
      simp only [sL_w_mk, sL_isKept_mk, sL_text_mk, sL_texted_mk, sL_refused_mk, sL_above_mk, sL_below_mk, sL_at_mk, sL_start_mk, sL_isWord_mk, sL_isFigures_mk, sL_value_mk, sL_comers_mk, sL_shouted_mk, sL_gets_mk, sL_isServed_mk, sL_goes_mk, sL_takings_mk, sL_theirTakings_mk, sL_left_mk, sL_aside_mk, sL_own_mk, sL_other_mk, sL_h_mk, pL_w, pL_isKept, pL_text, pL_texted, pL_refused, pL_above, pL_below, pL_at, pL_start, pL_isWord, pL_isFigures, pL_value, pL_comers, pL_shouted, pL_gets, pL_isServed, pL_goes, pL_takings, pL_theirTakings, pL_left, pL_aside, pL_own, pL_other, pL_h]
    simp (disch := omega) only [lt_eq, Option.bind_some, inb_t, cl_t, le_t, le_f, lt_t, lt_f, eq_t, eq_f, nI_add, nI_1, ↓reduceIte, wW, wWW, t4, tl, upd_ne, hle, tk]
