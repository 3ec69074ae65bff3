-- ===== what both do to a market =====
theorem wW (w : LSt) (f : Nat → Int32) : pL_w (sL_w w f) = f := rfl
theorem wWW (w : LSt) (f g : Nat → Int32) : sL_w (sL_w w f) g = sL_w w g := rfl
theorem upd_ne (f : Nat → Int32) (k j : Nat) (z : Int32) (h : j ≠ k) : upd f k z j = f j := by rw [upd_eq, if_neg h]
theorem wSelf (w : LSt) : sL_w w (pL_w w) = w := by
  obtain ⟨w_0, w_1, w_2, w_3, w_4, w_5, w_6, w_7, w_8, w_9, w_10, w_11, w_12, w_13, w_14, w_15, w_16, w_17, w_18, w_19, w_20, w_21, w_22, w_23⟩ := w
  rfl
theorem upd_rng (f : Nat → Int32) (a k : Nat) (z : Int32) : upd (fun j => if a ≤ j ∧ j < a + k then z else f j) (a + k) z = fun j => if a ≤ j ∧ j < a + (k + 1) then z else f j := by
  funext j
  rw [upd_eq]
  by_cases h1 : j = a + k
  · rw [if_pos h1, if_pos (by omega)]
  · rw [if_neg h1]
    by_cases h2 : a ≤ j ∧ j < a + k
    · rw [if_pos h2, if_pos (by omega)]
    · rw [if_neg h2, if_neg (by omega)]
theorem rng_zero (f : Nat → Int32) (a : Nat) (z : Int32) : (fun j => if a ≤ j ∧ j < a + 0 then z else f j) = f := by
  funext j
  rw [if_neg (by omega)]
theorem pricesFrom_L (w : LSt) {r h : Nat} (n : Int32) (hr : r ≤ 456) (hh : h ≤ 10) : f_X11_pricesFrom w (nI r) (nI h) n = some (sL_w w (fun j => if r + 8 + h ≤ j ∧ j < r + 18 then n else pL_w w j)) := by
  unfold f_X11_pricesFrom
  have e : (fun j => if r + 8 + h ≤ j ∧ j < r + 18 then n else pL_w w j) = (fun j => if r + 8 + h ≤ j ∧ j < r + 8 + h + (10 - h) then n else pL_w w j) := by
    rw [show r + 8 + h + (10 - h) = r + 18 from by omega]
  rw [e]
  refine lp_run1 (step := f_X11_pricesFrom_s3 (nI r) (nI h) n) (fun k => (nI (h + k), sL_w w (fun j => if r + 8 + h ≤ j ∧ j < r + 8 + h + k then n else pL_w w j))) (10 - h) (by omega) ?_ (fun k K hk => ?_) (fun K => ?_)
  · rw [rng_zero, wSelf]
    rfl
  · unfold f_X11_pricesFrom_s3
    simp only [i_10, i_8]
    simp (disch := omega) only [lt_eq, Option.bind_some, inb_t, cl_t, le_t, le_f, lt_t, lt_f, eq_t, eq_f, nI_add, nI_1, ↓reduceIte, wW, wWW]
    rw [show r + 8 + (h + k) = r + 8 + h + k from by omega, upd_rng]
    rfl
  · unfold f_X11_pricesFrom_s3
    simp only [i_10, i_8]
    simp (disch := omega) only [lt_eq, Option.bind_some, inb_t, cl_t, le_t, le_f, lt_t, lt_f, eq_t, eq_f, nI_add, nI_1, ↓reduceIte]
def beginsF (r : Nat) (p h : Int32) (f : Nat → Int32) : Nat → Int32 := fun j => if r + 8 ≤ j ∧ j < r + 8 + 10 then 40 else upd (upd (fun j => if r ≤ j ∧ j < r + 152 then 0 else f j) r p) (r + 1) h j
theorem begins_L (w : LSt) {r : Nat} (p h : Int32) (hr : r ≤ 456) : f_X11_begins w (nI r) p h = some (sL_w w (beginsF r p h (pL_w w))) := by
  have j27 : ∀ f, f_X11_begins_j27 (nI r) p h (sL_w w f) = some (sL_w w (fun j => if r + 8 ≤ j ∧ j < r + 8 + 10 then 40 else upd (upd f r p) (r + 1) h j)) := by
    intro f
    unfold f_X11_begins_j27
    simp only [i_0, i_1]
    simp (disch := omega) only [lt_eq, Option.bind_some, inb_t, cl_t, le_t, le_f, lt_t, lt_f, eq_t, eq_f, nI_add, nI_1, ↓reduceIte, wW, wWW, Nat.add_zero]
    refine lp_run1 (step := f_X11_begins_s48 (nI r) p h) (fun k => (nI k, sL_w w (fun j => if r + 8 ≤ j ∧ j < r + 8 + k then 40 else upd (upd f r p) (r + 1) h j))) 10 (by omega) ?_ (fun k K hk => ?_) (fun K => ?_)
    · rw [rng_zero]
    · unfold f_X11_begins_s48
      simp only [i_10, i_8]
      simp (disch := omega) only [lt_eq, Option.bind_some, inb_t, cl_t, le_t, le_f, lt_t, lt_f, eq_t, eq_f, nI_add, nI_1, ↓reduceIte, wW, wWW]
      rw [upd_rng]
    · unfold f_X11_begins_s48
      simp only [i_10]
      simp (disch := omega) only [lt_eq, Option.bind_some, inb_t, cl_t, le_t, le_f, lt_t, lt_f, eq_t, eq_f, nI_add, nI_1, ↓reduceIte]
  unfold f_X11_begins beginsF
  rw [← j27]
  refine lp_run1 (step := f_X11_begins_s3 (nI r) p h) (fun k => (nI k, sL_w w (fun j => if r ≤ j ∧ j < r + k then 0 else pL_w w j))) 152 (by omega) ?_ (fun k K hk => ?_) (fun K => ?_)
  · rw [rng_zero, wSelf]
    rfl
  · unfold f_X11_begins_s3
    simp only [i_152]
    simp (disch := omega) only [lt_eq, Option.bind_some, inb_t, cl_t, le_t, le_f, lt_t, lt_f, eq_t, eq_f, nI_add, nI_1, ↓reduceIte, wW, wWW]
    rw [upd_rng]
  · unfold f_X11_begins_s3
    simp only [i_152]
    simp (disch := omega) only [lt_eq, Option.bind_some, inb_t, cl_t, le_t, le_f, lt_t, lt_f, eq_t, eq_f, nI_add, nI_1, ↓reduceIte]
def addsF (r b : Nat) (a2 a3 a4 a5 : Int32) (f : Nat → Int32) : Nat → Int32 := upd (upd (upd (upd (upd (upd f (r + 28 + b) a2) (r + 36 + b) a3) (r + 44 + b) a4) (r + 52 + b) a5) (r + 3) (nI (b + 1))) (r + 7) 0
theorem adds_L (w : LSt) {r b : Nat} (a2 a3 a4 a5 : Int32) (hr : r ≤ 456) (hb : b < 8) (h3 : pL_w w (r + 3) = nI b) : f_X11_adds w (nI r) a2 a3 a4 a5 = some (nI b, sL_w w (addsF r b a2 a3 a4 a5 (pL_w w))) := by
  unfold f_X11_adds addsF
  simp only [i_3, i_28, i_36, i_44, i_52, i_7]
  simp (disch := omega) only [lt_eq, Option.bind_some, inb_t, cl_t, le_t, le_f, lt_t, lt_f, eq_t, eq_f, nI_add, nI_1, ↓reduceIte, wW, wWW, h3, upd_ne]
theorem copy_L (w : LSt) {a b : Nat} (ha : a ≤ 456) (hb : b ≤ 456) (hab : a + 152 ≤ b ∨ b + 152 ≤ a) : f_X11_copy w (nI a) (nI b) = some (sL_w w (fun j => if b ≤ j ∧ j < b + 152 then pL_w w (a + (j - b)) else pL_w w j)) := by
  unfold f_X11_copy
  refine lp_run1 (step := f_X11_copy_s2 (nI a) (nI b)) (fun k => (nI k, sL_w w (fun j => if b ≤ j ∧ j < b + k then pL_w w (a + (j - b)) else pL_w w j))) 152 (by omega) ?_ (fun k K hk => ?_) (fun K => ?_)
  · have e : (fun j => if b ≤ j ∧ j < b + 0 then pL_w w (a + (j - b)) else pL_w w j) = pL_w w := by
      funext j
      rw [if_neg (by omega)]
    rw [e, wSelf]
    rfl
  · unfold f_X11_copy_s2
    simp only [i_152]
    simp (disch := omega) only [lt_eq, Option.bind_some, inb_t, cl_t, le_t, le_f, lt_t, lt_f, eq_t, eq_f, nI_add, nI_1, ↓reduceIte, wW, wWW]
    have e : upd (fun j => if b ≤ j ∧ j < b + k then pL_w w (a + (j - b)) else pL_w w j) (b + k) (if b ≤ a + k ∧ a + k < b + k then pL_w w (a + (a + k - b)) else pL_w w (a + k)) = fun j => if b ≤ j ∧ j < b + (k + 1) then pL_w w (a + (j - b)) else pL_w w j := by
      funext j
      rw [upd_eq, if_neg (show ¬ (b ≤ a + k ∧ a + k < b + k) from by omega)]
      by_cases h1 : j = b + k
      · rw [if_pos h1, if_pos (by omega), show a + (j - b) = a + k from by omega]
      · rw [if_neg h1]
        by_cases h2 : b ≤ j ∧ j < b + k
        · rw [if_pos h2, if_pos (by omega)]
        · rw [if_neg h2, if_neg (by omega)]
    rw [e]
  · unfold f_X11_copy_s2
    simp only [i_152]
    simp (disch := omega) only [lt_eq, Option.bind_some, inb_t, cl_t, le_t, le_f, lt_t, lt_f, eq_t, eq_f, nI_add, nI_1, ↓reduceIte]
-- the class's
theorem setP_C (u : MSt) {h : Nat} (n : Int32) (hh : h ≤ 10) : f_X3_setPricesFrom u (nI h) n = some (sM_prices u (fun j => if h ≤ j ∧ j < 10 then n else pM_prices u j)) := by
  obtain ⟨u_0, u_1, u_2, u_3, u_4, u_5, u_6, u_7, u_8, u_9, u_10, u_11, u_12, u_13, u_14, u_15, u_16⟩ := u
  unfold f_X3_setPricesFrom
  have e0 : (if (0 : Int32) < nI h then nI h else 0) = nI h := by
    rw [i_0]
    by_cases c : 0 < h
    · simp (disch := omega) only [lt_eq, Option.bind_some, inb_t, cl_t, le_t, le_f, lt_t, lt_f, eq_t, eq_f, nI_add, nI_1, ↓reduceIte, c]
    · obtain rfl : h = 0 := by omega
      rfl
  rw [lt_eq, e0]
  have e : (fun j => if h ≤ j ∧ j < 10 then n else pM_prices (u_0, u_1, u_2, u_3, u_4, u_5, u_6, u_7, u_8, u_9, u_10, u_11, u_12, u_13, u_14, u_15, u_16) j) = (fun j => if h ≤ j ∧ j < h + (10 - h) then n else u_8 j) := by
    rw [show h + (10 - h) = 10 from by omega]
  rw [e]
  refine lp_run1 (step := f_X3_setPricesFrom_s6 (nI h) n) (fun k => (nI (h + k), sM_prices (u_0, u_1, u_2, u_3, u_4, u_5, u_6, u_7, u_8, u_9, u_10, u_11, u_12, u_13, u_14, u_15, u_16) (fun j => if h ≤ j ∧ j < h + k then n else u_8 j))) (10 - h) (by omega) ?_ (fun k K hk => ?_) (fun K => ?_)
  · rw [rng_zero]
    rfl
  · unfold f_X3_setPricesFrom_s6
    simp only [i_10, sM_prices_mk]
    simp (disch := omega) only [lt_eq, Option.bind_some, inb_t, cl_t, le_t, le_f, lt_t, lt_f, eq_t, eq_f, nI_add, nI_1, ↓reduceIte, sM_punnets_mk, sM_heat_mk, sM_rainHours_mk, sM_size_mk, sM_totalTakings_mk, sM_totalThrown_mk, sM_soldSize_mk, sM_pastSize_mk, sM_prices_mk, sM_theirPrices_mk, sM_kinds_mk, sM_hours_mk, sM_worths_mk, sM_wants_mk, sM_soldHours_mk, sM_soldNumbers_mk, sM_past_mk, pM_punnets, pM_heat, pM_rainHours, pM_size, pM_totalTakings, pM_totalThrown, pM_soldSize, pM_pastSize, pM_prices, pM_theirPrices, pM_kinds, pM_hours, pM_worths, pM_wants, pM_soldHours, pM_soldNumbers, pM_past, upd_rng]
    rfl
  · unfold f_X3_setPricesFrom_s6
    simp only [i_10]
    simp (disch := omega) only [lt_eq, Option.bind_some, inb_t, cl_t, le_t, le_f, lt_t, lt_f, eq_t, eq_f, nI_add, nI_1, ↓reduceIte]
theorem setT_C (u : MSt) {h : Nat} (n : Int32) (hh : h ≤ 10) : f_X3_setTheirPricesFrom u (nI h) n = some (sM_theirPrices u (fun j => if h ≤ j ∧ j < 10 then n else pM_theirPrices u j)) := by
  obtain ⟨u_0, u_1, u_2, u_3, u_4, u_5, u_6, u_7, u_8, u_9, u_10, u_11, u_12, u_13, u_14, u_15, u_16⟩ := u
  unfold f_X3_setTheirPricesFrom
  have e0 : (if (0 : Int32) < nI h then nI h else 0) = nI h := by
    rw [i_0]
    by_cases c : 0 < h
    · simp (disch := omega) only [lt_eq, Option.bind_some, inb_t, cl_t, le_t, le_f, lt_t, lt_f, eq_t, eq_f, nI_add, nI_1, ↓reduceIte, c]
    · obtain rfl : h = 0 := by omega
      rfl
  rw [lt_eq, e0]
  have e : (fun j => if h ≤ j ∧ j < 10 then n else pM_theirPrices (u_0, u_1, u_2, u_3, u_4, u_5, u_6, u_7, u_8, u_9, u_10, u_11, u_12, u_13, u_14, u_15, u_16) j) = (fun j => if h ≤ j ∧ j < h + (10 - h) then n else u_9 j) := by
    rw [show h + (10 - h) = 10 from by omega]
  rw [e]
  refine lp_run1 (step := f_X3_setTheirPricesFrom_s6 (nI h) n) (fun k => (nI (h + k), sM_theirPrices (u_0, u_1, u_2, u_3, u_4, u_5, u_6, u_7, u_8, u_9, u_10, u_11, u_12, u_13, u_14, u_15, u_16) (fun j => if h ≤ j ∧ j < h + k then n else u_9 j))) (10 - h) (by omega) ?_ (fun k K hk => ?_) (fun K => ?_)
  · rw [rng_zero]
    rfl
  · unfold f_X3_setTheirPricesFrom_s6
    simp only [i_10, sM_theirPrices_mk]
    simp (disch := omega) only [lt_eq, Option.bind_some, inb_t, cl_t, le_t, le_f, lt_t, lt_f, eq_t, eq_f, nI_add, nI_1, ↓reduceIte, sM_punnets_mk, sM_heat_mk, sM_rainHours_mk, sM_size_mk, sM_totalTakings_mk, sM_totalThrown_mk, sM_soldSize_mk, sM_pastSize_mk, sM_prices_mk, sM_theirPrices_mk, sM_kinds_mk, sM_hours_mk, sM_worths_mk, sM_wants_mk, sM_soldHours_mk, sM_soldNumbers_mk, sM_past_mk, pM_punnets, pM_heat, pM_rainHours, pM_size, pM_totalTakings, pM_totalThrown, pM_soldSize, pM_pastSize, pM_prices, pM_theirPrices, pM_kinds, pM_hours, pM_worths, pM_wants, pM_soldHours, pM_soldNumbers, pM_past, upd_rng]
    rfl
  · unfold f_X3_setTheirPricesFrom_s6
    simp only [i_10]
    simp (disch := omega) only [lt_eq, Option.bind_some, inb_t, cl_t, le_t, le_f, lt_t, lt_f, eq_t, eq_f, nI_add, nI_1, ↓reduceIte]
def anewM (u : MSt) (p h : Int32) : MSt := (p, h, 0, 0, 0, 0, 0, 0, (fun j => if j < 10 then 40 else pM_prices u j), (fun j => if j < 10 then 0 else pM_theirPrices u j), pM_kinds u, pM_hours u, pM_worths u, pM_wants u, pM_soldHours u, pM_soldNumbers u, pM_past u)
theorem anew_C (u : MSt) (p h : Int32) : f_X3_startAnew u p h = some (anewM u p h) := by
  obtain ⟨u_0, u_1, u_2, u_3, u_4, u_5, u_6, u_7, u_8, u_9, u_10, u_11, u_12, u_13, u_14, u_15, u_16⟩ := u
  unfold f_X3_startAnew anewM
  simp (disch := omega) only [lt_eq, Option.bind_some, inb_t, cl_t, le_t, le_f, lt_t, lt_f, eq_t, eq_f, nI_add, nI_1, ↓reduceIte, sM_punnets_mk, sM_heat_mk, sM_rainHours_mk, sM_size_mk, sM_totalTakings_mk, sM_totalThrown_mk, sM_soldSize_mk, sM_pastSize_mk, sM_prices_mk, sM_theirPrices_mk, sM_kinds_mk, sM_hours_mk, sM_worths_mk, sM_wants_mk, sM_soldHours_mk, sM_soldNumbers_mk, sM_past_mk, pM_punnets, pM_heat, pM_rainHours, pM_size, pM_totalTakings, pM_totalThrown, pM_soldSize, pM_pastSize, pM_prices, pM_theirPrices, pM_kinds, pM_hours, pM_worths, pM_wants, pM_soldHours, pM_soldNumbers, pM_past, fill_spec 10 (by omega)]
theorem va_c0 {f g : Nat → Int32} {n k : Nat} (h : k < n) : va_cpy f g 0 0 n k = f k := by
  unfold va_cpy
  rw [if_pos (by omega), Nat.zero_add, Nat.sub_zero]
theorem becomes_C (u x : MSt) : f_X3_becomes u x = some (pM_punnets x, pM_heat x, pM_rainHours x, pM_size x, pM_totalTakings x, pM_totalThrown x, pM_soldSize x, pM_pastSize x, va_cpy (pM_prices x) (pM_prices u) 0 0 10, va_cpy (pM_theirPrices x) (pM_theirPrices u) 0 0 10, va_cpy (pM_kinds x) (pM_kinds u) 0 0 8, va_cpy (pM_hours x) (pM_hours u) 0 0 8, va_cpy (pM_worths x) (pM_worths u) 0 0 8, va_cpy (pM_wants x) (pM_wants u) 0 0 8, va_cpy (pM_soldHours x) (pM_soldHours u) 0 0 6, va_cpy (pM_soldNumbers x) (pM_soldNumbers u) 0 0 6, va_cpy (pM_past x) (pM_past u) 0 0 80) := by
  obtain ⟨u_0, u_1, u_2, u_3, u_4, u_5, u_6, u_7, u_8, u_9, u_10, u_11, u_12, u_13, u_14, u_15, u_16⟩ := u
  obtain ⟨x_0, x_1, x_2, x_3, x_4, x_5, x_6, x_7, x_8, x_9, x_10, x_11, x_12, x_13, x_14, x_15, x_16⟩ := x
  unfold f_X3_becomes
  have d1 : ((¬ (0 : Int32) < 0 ∧ ¬ (0 : Int32) < 0 ∧ ¬ (10 : Int32) < 0) ∧ (0 : Int32).toNatClampNeg + (10 : Int32).toNatClampNeg ≤ 10 ∧ (0 : Int32).toNatClampNeg + (10 : Int32).toNatClampNeg ≤ 10) = True := eq_true (by decide)
  have d2 : ((¬ (0 : Int32) < 0 ∧ ¬ (0 : Int32) < 0 ∧ ¬ (8 : Int32) < 0) ∧ (0 : Int32).toNatClampNeg + (8 : Int32).toNatClampNeg ≤ 8 ∧ (0 : Int32).toNatClampNeg + (8 : Int32).toNatClampNeg ≤ 8) = True := eq_true (by decide)
  have d3 : ((¬ (0 : Int32) < 0 ∧ ¬ (0 : Int32) < 0 ∧ ¬ (6 : Int32) < 0) ∧ (0 : Int32).toNatClampNeg + (6 : Int32).toNatClampNeg ≤ 6 ∧ (0 : Int32).toNatClampNeg + (6 : Int32).toNatClampNeg ≤ 6) = True := eq_true (by decide)
  have d4 : ((¬ (0 : Int32) < 0 ∧ ¬ (0 : Int32) < 0 ∧ ¬ (80 : Int32) < 0) ∧ (0 : Int32).toNatClampNeg + (80 : Int32).toNatClampNeg ≤ 80 ∧ (0 : Int32).toNatClampNeg + (80 : Int32).toNatClampNeg ≤ 80) = True := eq_true (by decide)
  simp only [d1, d2, d3, d4, ↓reduceIte, lt_eq]
  simp only [sM_punnets_mk, sM_heat_mk, sM_rainHours_mk, sM_size_mk, sM_totalTakings_mk, sM_totalThrown_mk, sM_soldSize_mk, sM_pastSize_mk, sM_prices_mk, sM_theirPrices_mk, sM_kinds_mk, sM_hours_mk, sM_worths_mk, sM_wants_mk, sM_soldHours_mk, sM_soldNumbers_mk, sM_past_mk, pM_punnets, pM_heat, pM_rainHours, pM_size, pM_totalTakings, pM_totalThrown, pM_soldSize, pM_pastSize, pM_prices, pM_theirPrices, pM_kinds, pM_hours, pM_worths, pM_wants, pM_soldHours, pM_soldNumbers, pM_past]
  rfl
