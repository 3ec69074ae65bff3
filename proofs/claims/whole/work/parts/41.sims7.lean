-- ===== days gone by =====
theorem vaC (f g : Nat → Int32) (s d n k : Nat) : va_cpy f g s d n k = if d ≤ k ∧ k < d + n then f (s + (k - d)) else g k := rfl
theorem rm_past {u : MSt} {f g pa : Nat → Int32} {v : VW} {s p q : Nat} (h7 : g 7 = nI q) (hq : q ≤ 8) (hf : ∀ k, k < 72 → k ≠ 7 → f k = g k) (hx : ∀ r, r < q → (∀ b, b < vN v → ∃ k, k < 6 ∧ pa (10 * r + b) = nI k ∧ g (72 + 10 * r + b) = nI k) ∧ pa (10 * r + 8) = g (72 + 10 * r + 8) ∧ pa (10 * r + 9) = g (72 + 10 * r + 9)) (hr : RM u f v s p) : RM (sM_pastSize (sM_past u pa) (nI q)) g v s q := by
  obtain ⟨q1, ⟨l1, l2, l3, l4, l5, l6, l7⟩, q3, b1, b2, b3, b4, b5, b6, b7, b8, b9, b10⟩ := hr
  obtain ⟨u_0, u_1, u_2, u_3, u_4, u_5, u_6, u_7, u_8, u_9, u_10, u_11, u_12, u_13, u_14, u_15, u_16⟩ := u
  refine ⟨q1, ⟨fun k hk => ?_, ?_, ?_, ?_, ?_, l6, fun b hb => ?_⟩, q3, ?_, ?_, b3, ?_, b5, rfl, h7, hq, fun i hi => ?_, hx⟩
  · rw [← hf _ (by omega) (by omega), ← hf _ (by omega) (by omega)]; exact l1 k hk
  · rw [← hf _ (by omega) (by omega)]; exact l2
  · rw [← hf _ (by omega) (by omega)]; exact l3
  · rw [← hf _ (by omega) (by omega)]; exact l4
  · rw [← hf _ (by omega) (by omega)]; exact l5
  · rw [← hf (28 + b) (by omega) (by omega), ← hf (36 + b) (by omega) (by omega), ← hf (44 + b) (by omega) (by omega), ← hf (52 + b) (by omega) (by omega)]; exact l7 b hb
  · rw [← hf _ (by omega) (by omega)]; exact b1
  · rw [← hf _ (by omega) (by omega)]; exact b2
  · rw [← hf _ (by omega) (by omega)]; exact b4
  · rw [← hf (60 + i) (by omega) (by omega), ← hf (66 + i) (by omega) (by omega)]; exact b9 i hi
theorem rm_kinds {u : MSt} {f g ka : Nat → Int32} {K : Nat → Nat} {v : VW} {s p : Nat} (hK : ∀ b, b < vN v → K b < 6 ∧ ka b = nI (K b) ∧ g (28 + b) = nI (K b)) {tt th : Int32} (ht : tt = g 4) (hh : th = g 5) (hf : ∀ k, k < 152 → k ≠ 4 → k ≠ 5 → ¬ (28 ≤ k ∧ k < 36) → f k = g k) (hr : RM u f v s p) : RM (sM_totalThrown (sM_totalTakings (sM_kinds u ka) tt) th) g (vP v, vT v, vR v, vH v, vU v, vN v, K, vO v, vW v, vA v) s p := by
  obtain ⟨⟨cp, cr, ch, cu, cn, c8, cb⟩, ⟨l1, l2, l3, l4, l5, l6, l7⟩, q3, b1, b2, b3, b4, b5, b6, b7, b8, b9, b10⟩ := hr
  obtain ⟨u_0, u_1, u_2, u_3, u_4, u_5, u_6, u_7, u_8, u_9, u_10, u_11, u_12, u_13, u_14, u_15, u_16⟩ := u
  refine ⟨⟨cp, cr, ch, cu, cn, c8, fun b hb => ?_⟩, ⟨fun k hk => ?_, ?_, ?_, ?_, ?_, l6, fun b hb => ?_⟩, q3, ht, hh, b3, ?_, b5, b6, ?_, b8, fun i hi => ?_, fun r hr => ?_⟩
  · exact ⟨(hK b hb).2.1, (hK b hb).1, (cb b hb).2.2⟩
  · rw [← hf _ (by omega) (by omega) (by omega) (by omega), ← hf _ (by omega) (by omega) (by omega) (by omega)]; exact l1 k hk
  · rw [← hf _ (by omega) (by omega) (by omega) (by omega)]; exact l2
  · rw [← hf _ (by omega) (by omega) (by omega) (by omega)]; exact l3
  · rw [← hf _ (by omega) (by omega) (by omega) (by omega)]; exact l4
  · rw [← hf _ (by omega) (by omega) (by omega) (by omega)]; exact l5
  · have hb2 : b < vN v := hb
    rw [← hf (36 + b) (by omega) (by omega) (by omega) (by omega), ← hf (44 + b) (by omega) (by omega) (by omega) (by omega), ← hf (52 + b) (by omega) (by omega) (by omega) (by omega)]
    exact ⟨(hK b hb).2.2, (hK b hb).1, (l7 b hb).2.2⟩
  · rw [← hf _ (by omega) (by omega) (by omega) (by omega)]; exact b4
  · rw [← hf _ (by omega) (by omega) (by omega) (by omega)]; exact b7
  · rw [← hf (60 + i) (by omega) (by omega) (by omega) (by omega), ← hf (66 + i) (by omega) (by omega) (by omega) (by omega)]; exact b9 i hi
  · obtain ⟨c1, c2, c3⟩ := b10 r hr
    refine ⟨fun b hb => ?_, ?_, ?_⟩
    · have hb2 : b < vN v := hb
      rw [← hf (72 + 10 * r + b) (by omega) (by omega) (by omega) (by omega)]; exact c1 b hb
    · rw [← hf (72 + 10 * r + 8) (by omega) (by omega) (by omega) (by omega)]; exact c2
    · rw [← hf (72 + 10 * r + 9) (by omega) (by omega) (by omega) (by omega)]; exact c3
theorem nI_mul (a b : Nat) : nI a * nI b = nI (a * b) := (Int32.ofNat_mul a b).symm
-- undo
def backM (u : MSt) (p : Nat) : MSt := sM_totalThrown (sM_totalTakings (sM_kinds (sM_pastSize (sM_past u (pM_past u)) (nI p)) (va_cpy (pM_past u) (pM_kinds u) (10 * p) 0 8)) (pM_past u (10 * p + 8))) (pM_past u (10 * p + 9))
theorem goBack_C {u : MSt} {p : Nat} (hp : p < 8) (h : pM_pastSize u = nI (p + 1)) : f_X3_goBack u = some (backM u p) := by
  obtain ⟨u_0, u_1, u_2, u_3, u_4, u_5, u_6, u_7, u_8, u_9, u_10, u_11, u_12, u_13, u_14, u_15, u_16⟩ := u
  have h : u_7 = nI (p + 1) := h
  subst h
  unfold f_X3_goBack backM
  have e0 : (nI (p + 1) ≤ 0) = False := le_f (b := 0) (by omega) (by omega)
  have e1 : nI p * 10 = nI (10 * p) := by rw [i_10, nI_mul, Nat.mul_comm]
  have e2 : (nI (10 * p) < 0) = False := lt_f (b := 0) (by omega) (by omega)
  have d0 : ((0 : Int32) < 0) = False := eq_false (by decide)
  have d8 : ((8 : Int32) < 0) = False := eq_false (by decide)
  have c0 : (0 : Int32).toNatClampNeg = 0 := rfl
  have c8 : (8 : Int32).toNatClampNeg = 8 := rfl
  have a1 : (10 * p + 8 ≤ 80) = True := eq_true (by omega)
  have a2 : (0 + 8 ≤ 8) = True := eq_true (by omega)
  have e3 : nI (10 * p) + 8 = nI (10 * p + 8) := nI_add _ 8
  have e4 : (nI (p + 1) ≤ 8) = True := le_t (b := 8) (by omega) (by omega)
  simp (disch := omega) only [e0, e4, ↓reduceIte, lt_eq, sM_punnets_mk, sM_heat_mk, sM_rainHours_mk, sM_size_mk, sM_totalTakings_mk, sM_totalThrown_mk, sM_soldSize_mk, sM_pastSize_mk, sM_prices_mk, sM_theirPrices_mk, sM_kinds_mk, sM_hours_mk, sM_worths_mk, sM_wants_mk, sM_soldHours_mk, sM_soldNumbers_mk, sM_past_mk, pM_punnets, pM_heat, pM_rainHours, pM_size, pM_totalTakings, pM_totalThrown, pM_soldSize, pM_pastSize, pM_prices, pM_theirPrices, pM_kinds, pM_hours, pM_worths, pM_wants, pM_soldHours, pM_soldNumbers, pM_past, nI_m1, e1, e2, d0, d8, c0, c8, cl_t, not_false_eq_true, and_self, a1, a2, e3, inb_t, nI_1]
theorem minus_p {p : Nat} (hp : p < 8) : (72 : Int32) + (10 : Int32) * nI p = nI (72 + 10 * p) := by
  rw [show (72 : Int32) = nI 72 from rfl, show (10 : Int32) = nI 10 from rfl, nI_mul, nI_add]
def backF (f : Nat → Int32) (p : Nat) : Nat → Int32 := upd (upd (fun j => if 28 ≤ j ∧ j < 28 + 8 then f (72 + 10 * p + (j - 28)) else upd f 7 (nI p) j) 4 (f (72 + 10 * p + 8))) 5 (f (72 + 10 * p + 9))
theorem undo_L {w : LSt} {p : Nat} (hp : p < 8) (h : pL_w w 7 = nI (p + 1)) : f_X11_undo w = some (pL_w w (72 + 10 * p + 8), sL_w w (backF (pL_w w) p)) := by
  have j71 : ∀ f, f_X11_undo_j71 (nI (72 + 10 * p)) (sL_w w f) = some (f (72 + 10 * p + 8), sL_w w (upd (upd f 4 (f (72 + 10 * p + 8))) 5 (f (72 + 10 * p + 9)))) := by
    intro f
    unfold f_X11_undo_j71
    simp only [i_8, i_9, i_4, i_5]
    simp (disch := omega) only [lt_eq, Option.bind_some, inb_t, cl_t, le_t, le_f, lt_t, lt_f, eq_t, eq_f, nI_add, nI_1, ↓reduceIte, wW, wWW, upd_ne, upd_at]
  have e0 : ¬ nI (p + 1) = 0 := by
    rw [i_0]
    intro e
    have := (eq_nI (by omega) (by omega)).mp e
    omega
  unfold f_X11_undo
  simp only [i_7]
  simp (disch := omega) only [lt_eq, Option.bind_some, inb_t, cl_t, le_t, le_f, lt_t, lt_f, eq_t, eq_f, nI_add, nI_1, ↓reduceIte, e0, h, nI_m1, wW, wWW, upd_at, minus_p hp]
  have e1 : some (pL_w w (72 + 10 * p + 8), sL_w w (backF (pL_w w) p)) = f_X11_undo_j71 (nI (72 + 10 * p)) (sL_w w (fun j => if 28 ≤ j ∧ j < 28 + 8 then pL_w w (72 + 10 * p + (j - 28)) else upd (pL_w w) 7 (nI p) j)) := by
    have g8 : (if 28 ≤ 72 + 10 * p + 8 ∧ 72 + 10 * p + 8 < 28 + 8 then pL_w w (72 + 10 * p + (72 + 10 * p + 8 - 28)) else upd (pL_w w) 7 (nI p) (72 + 10 * p + 8)) = pL_w w (72 + 10 * p + 8) := by rw [if_neg (by omega), upd_ne _ _ _ _ (by omega)]
    have g9 : (if 28 ≤ 72 + 10 * p + 9 ∧ 72 + 10 * p + 9 < 28 + 8 then pL_w w (72 + 10 * p + (72 + 10 * p + 9 - 28)) else upd (pL_w w) 7 (nI p) (72 + 10 * p + 9)) = pL_w w (72 + 10 * p + 9) := by rw [if_neg (by omega), upd_ne _ _ _ _ (by omega)]
    rw [j71, g8, g9]
    rfl
  rw [e1]
  refine lp_run1 (step := f_X11_undo_s42) (fun k => (nI (72 + 10 * p), nI k, sL_w w (fun j => if 28 ≤ j ∧ j < 28 + k then pL_w w (72 + 10 * p + (j - 28)) else upd (pL_w w) 7 (nI p) j))) 8 (by omega) ?_ (fun k K hk => ?_) (fun K => ?_)
  · have e2 : (fun j => if 28 ≤ j ∧ j < 28 + 0 then pL_w w (72 + 10 * p + (j - 28)) else upd (pL_w w) 7 (nI p) j) = upd (pL_w w) 7 (nI p) := by
      funext j
      rw [if_neg (by omega)]
    rw [e2]
    rfl
  · unfold f_X11_undo_s42
    simp only [i_8, i_28]
    simp (disch := omega) only [lt_eq, Option.bind_some, inb_t, cl_t, le_t, le_f, lt_t, lt_f, eq_t, eq_f, nI_add, nI_1, ↓reduceIte, wW, wWW]
    have e3 : (if 28 ≤ 72 + 10 * p + k ∧ 72 + 10 * p + k < 28 + k then pL_w w (72 + 10 * p + (72 + 10 * p + k - 28)) else upd (pL_w w) 7 (nI p) (72 + 10 * p + k)) = pL_w w (72 + 10 * p + k) := by rw [if_neg (by omega), upd_ne _ _ _ _ (by omega)]
    rw [e3]
    refine congrArg K (congrArg (Prod.mk _) (congrArg (Prod.mk _) (congrArg (sL_w w) ?_)))
    funext j
    rw [upd_eq]
    by_cases c1 : j = 28 + k
    · rw [if_pos c1, if_pos (by omega), show j - 28 = k from by omega]
    · rw [if_neg c1]
      by_cases c2 : 28 ≤ j ∧ j < 28 + k
      · rw [if_pos c2, if_pos (by omega)]
      · rw [if_neg c2, if_neg (by omega)]
  · unfold f_X11_undo_s42
    simp only [i_8]
    simp (disch := omega) only [lt_eq, Option.bind_some, inb_t, cl_t, le_t, le_f, lt_t, lt_f, eq_t, eq_f, nI_add, nI_1, ↓reduceIte]
theorem rm_back {u : MSt} {f : Nat → Int32} {v : VW} {s p : Nat} (hr : RM u f v s (p + 1)) : RelN (backM u p) (backF f p) ∧ pM_totalTakings (backM u p) = f (72 + 10 * p + 8) := by
  obtain ⟨c1, c2, c3⟩ := hr.2.2.2.2.2.2.2.2.2.2.2.2 p (by omega)
  have hp8 : p + 1 ≤ 8 := hr.2.2.2.2.2.2.2.2.2.2.1
  have h8 := hr.1.2.2.2.2.2.1
  have hx := hr.2.2.2.2.2.2.2.2.2.2.2.2
  have h1 : RM (sM_pastSize (sM_past u (pM_past u)) (nI p)) (upd f 7 (nI p)) v s p := by
    refine rm_past (upd_at ..) (by omega) (fun k hk hk2 => (upd_ne _ _ _ _ hk2).symm) (fun r hr2 => ?_) hr
    obtain ⟨d1, d2, d3⟩ := hx r (by omega)
    refine ⟨fun b hb => ?_, ?_, ?_⟩
    · rw [upd_ne _ _ _ _ (by omega)]; exact d1 b hb
    · rw [upd_ne _ _ _ _ (by omega)]; exact d2
    · rw [upd_ne _ _ _ _ (by omega)]; exact d3
  refine ⟨⟨_, _, _, rm_kinds (K := fun b => (pM_past u (10 * p + b)).toNatClampNeg) (fun b hb => ?_) ?_ ?_ (fun k hk k4 k5 k28 => ?_) h1⟩, ?_⟩
  · obtain ⟨k, hk, e1, e2⟩ := c1 b hb
    have hb8 : b < 8 := by omega
    refine ⟨?_, ?_, ?_⟩
    · show (pM_past u (10 * p + b)).toNatClampNeg < 6
      rw [e1, cl_nI (by omega)]; exact hk
    · show va_cpy (pM_past u) (pM_kinds u) (10 * p) 0 8 b = nI (pM_past u (10 * p + b)).toNatClampNeg
      rw [vaC, if_pos (by omega), Nat.sub_zero, e1, cl_nI (by omega)]
    · show backF f p (28 + b) = nI (pM_past u (10 * p + b)).toNatClampNeg
      unfold backF
      rw [upd_ne _ _ _ _ (by omega), upd_ne _ _ _ _ (by omega), if_pos (by omega), show 28 + b - 28 = b from by omega, e2, e1, cl_nI (by omega)]
  · unfold backF
    rw [upd_ne _ _ _ _ (by omega), upd_at]
    exact c2
  · unfold backF
    rw [upd_at]
    exact c3
  · unfold backF
    rw [upd_ne _ _ _ _ k5, upd_ne _ _ _ _ k4, if_neg k28]
  · unfold backM
    rw [← c2]
    obtain ⟨u_0, u_1, u_2, u_3, u_4, u_5, u_6, u_7, u_8, u_9, u_10, u_11, u_12, u_13, u_14, u_15, u_16⟩ := u
    simp only [sM_punnets_mk, sM_heat_mk, sM_rainHours_mk, sM_size_mk, sM_totalTakings_mk, sM_totalThrown_mk, sM_soldSize_mk, sM_pastSize_mk, sM_prices_mk, sM_theirPrices_mk, sM_kinds_mk, sM_hours_mk, sM_worths_mk, sM_wants_mk, sM_soldHours_mk, sM_soldNumbers_mk, sM_past_mk, pM_punnets, pM_heat, pM_rainHours, pM_size, pM_totalTakings, pM_totalThrown, pM_soldSize, pM_pastSize, pM_prices, pM_theirPrices, pM_kinds, pM_hours, pM_worths, pM_wants, pM_soldHours, pM_soldNumbers, pM_past]
theorem s_undo : sim_undo Rel := by
  intro c w hR
  obtain ⟨v, s, p, hN⟩ := rel_now hR
  have b6 : pM_pastSize (c_m0 c) = nI p := hN.2.2.2.2.2.2.2.2.1
  have b7 : pL_w w 7 = nI p := hN.2.2.2.2.2.2.2.2.2.1
  have b8 : p ≤ 8 := hN.2.2.2.2.2.2.2.2.2.2.1
  cases p with
  | zero =>
    refine simR (x := (-3, cNo c)) (y := (-3, wRef w 1)) ?_ ?_ rfl (rel_no hR)
    · unfold f_X10_undo
      rw [if_neg (show ¬ 0 < pM_pastSize (c_m0 c) by rw [b6]; decide), refuse_no]
      rfl
    · unfold f_X11_undo
      rw [if_pos (by decide), show (7 : Int32).toNatClampNeg = 7 from rfl, if_pos (show pL_w w 7 = 0 from b7), no_spec]
      rfl
  | succ p =>
    obtain ⟨r1, r2⟩ := rm_back hN
    refine simR (x := (pM_totalTakings (backM (c_m0 c) p), sc_m0 c (backM (c_m0 c) p))) (y := (pL_w w (72 + 10 * p + 8), sL_w w (backF (pL_w w) p))) ?_ (undo_L (by omega) b7) r2 (rel_set hR r1 (fun k hk hk2 => ?_))
    · unfold f_X10_undo
      rw [if_pos (show 0 < pM_pastSize (c_m0 c) by rw [b6, i_0]; exact (lt_nI (by omega) (by omega)).mpr (by omega)), goBack_C (by omega) b6]
      rfl
    · unfold backF
      rw [upd_ne _ _ _ _ (by omega), upd_ne _ _ _ _ (by omega), if_neg (by omega), upd_ne _ _ _ _ (by omega)]
