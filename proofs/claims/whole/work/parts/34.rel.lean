-- ===== the relation =====
theorem sc_h_mk (h : HSt) (m0 m1 m2 m3 : MSt) (d : DSt) (s : SSt) (r : RSt) (x : HSt) : sc_h (h, (m0, m1, m2, m3), d, s, r) x = (x, (m0, m1, m2, m3), d, s, r) := rfl
theorem sc_m0_mk (h : HSt) (m0 m1 m2 m3 : MSt) (d : DSt) (s : SSt) (r : RSt) (x : MSt) : sc_m0 (h, (m0, m1, m2, m3), d, s, r) x = (h, (x, m1, m2, m3), d, s, r) := rfl
theorem sc_m1_mk (h : HSt) (m0 m1 m2 m3 : MSt) (d : DSt) (s : SSt) (r : RSt) (x : MSt) : sc_m1 (h, (m0, m1, m2, m3), d, s, r) x = (h, (m0, x, m2, m3), d, s, r) := rfl
theorem sc_m2_mk (h : HSt) (m0 m1 m2 m3 : MSt) (d : DSt) (s : SSt) (r : RSt) (x : MSt) : sc_m2 (h, (m0, m1, m2, m3), d, s, r) x = (h, (m0, m1, x, m3), d, s, r) := rfl
theorem sc_m3_mk (h : HSt) (m0 m1 m2 m3 : MSt) (d : DSt) (s : SSt) (r : RSt) (x : MSt) : sc_m3 (h, (m0, m1, m2, m3), d, s, r) x = (h, (m0, m1, m2, x), d, s, r) := rfl
theorem sc_d_mk (h : HSt) (m0 m1 m2 m3 : MSt) (d : DSt) (s : SSt) (r : RSt) (x : DSt) : sc_d (h, (m0, m1, m2, m3), d, s, r) x = (h, (m0, m1, m2, m3), x, s, r) := rfl
theorem sc_s_mk (h : HSt) (m0 m1 m2 m3 : MSt) (d : DSt) (s : SSt) (r : RSt) (x : SSt) : sc_s (h, (m0, m1, m2, m3), d, s, r) x = (h, (m0, m1, m2, m3), d, x, r) := rfl
theorem sc_r_mk (h : HSt) (m0 m1 m2 m3 : MSt) (d : DSt) (s : SSt) (r : RSt) (x : RSt) : sc_r (h, (m0, m1, m2, m3), d, s, r) x = (h, (m0, m1, m2, m3), d, s, x) := rfl
theorem sc_k2_mk (h : HSt) (m0 m1 m2 m3 : MSt) (d : DSt) (s : SSt) (r : RSt) (x : MSt) : sc_k (2 + 0) (h, (m0, m1, m2, m3), d, s, r) x = (h, (m0, m1, x, m3), d, s, r) := rfl
theorem sc_k3_mk (h : HSt) (m0 m1 m2 m3 : MSt) (d : DSt) (s : SSt) (r : RSt) (x : MSt) : sc_k (2 + 1) (h, (m0, m1, m2, m3), d, s, r) x = (h, (m0, m1, m2, x), d, s, r) := rfl
def RX (tt th ss ps : Int32) (sh sn pa : Nat → Int32) (f : Nat → Int32) (n s p : Nat) : Prop := tt = f 4 ∧ th = f 5 ∧ ss = nI s ∧ f 6 = nI s ∧ s ≤ 6 ∧ ps = nI p ∧ f 7 = nI p ∧ p ≤ 8 ∧ (∀ i, i < s → ∃ o, o < 10 ∧ sh i = nI o ∧ f (60 + i) = nI o ∧ sn i = f (66 + i)) ∧ ∀ r, r < p → (∀ b, b < n → ∃ k, k < 6 ∧ pa (10 * r + b) = nI k ∧ f (72 + 10 * r + b) = nI k) ∧ pa (10 * r + 8) = f (72 + 10 * r + 8) ∧ pa (10 * r + 9) = f (72 + 10 * r + 9)
def RM (u : MSt) (f : Nat → Int32) (v : VW) (s p : Nat) : Prop := VC u v ∧ VL f v ∧ VBd v ∧ RX (pM_totalTakings u) (pM_totalThrown u) (pM_soldSize u) (pM_pastSize u) (pM_soldHours u) (pM_soldNumbers u) (pM_past u) f (vN v) s p
def RelN (u : MSt) (f : Nat → Int32) : Prop := ∃ v s p, RM u f v s p
def RelI (m2 m3 : MSt) (kept f isk : Nat → Int32) : Prop := kept 0 = isk 0 ∧ kept 1 = isk 1 ∧ (kept 0 = 0 ∨ kept 0 = 1 ∧ RelN m2 (fun k => f (152 + k))) ∧ (kept 1 = 0 ∨ kept 1 = 1 ∧ RelN m3 (fun k => f (304 + k)))
def RelT (b : Nat → Int32) (ln : Int32) (tx : Nat → Int32) (td : Int32) : Prop := ∃ L, L ≤ 150 ∧ ln = nI L ∧ td = nI L ∧ ∀ k, k < L → b k = tx k
def RelO (kept : Nat → Int32) (ab be : Int64) (rb rn rf : Int32) (m0 m2 m3 : MSt) (b : Nat → Int32) (ln : Int32) (f isk tx : Nat → Int32) (td : Int32) (rfd : Nat → Int32) (ab' be' : Int64) : Prop := RelN m0 f ∧ RelI m2 m3 kept f isk ∧ RelT b ln tx td ∧ ab = ab' ∧ be = be' ∧ rb = rfd 0 ∧ rn = rfd 1 ∧ rf = rfd 2
def Rel (c : CSt) (w : LSt) : Prop := RelO c.1.1 c.1.2.1 c.1.2.2.1 c.1.2.2.2.1 c.1.2.2.2.2.1 c.1.2.2.2.2.2 c.2.1.1 c.2.1.2.2.1 c.2.1.2.2.2 c.2.2.2.2.1 c.2.2.2.2.2.1 w.1 w.2.1 w.2.2.1 w.2.2.2.1 w.2.2.2.2.1 w.2.2.2.2.2.1 w.2.2.2.2.2.2.1
theorem rel_mk (h_0 : Nat → Int32) (h_1 h_2 : Int64) (h_3 h_4 h_5 : Int32) (m0 m1 m2 m3 : MSt) (d : DSt) (s : SSt) (r : RSt) (w_0 : Nat → Int32) (w_1 : Nat → Int32) (w_2 : Nat → Int32) (w_3 : Int32) (w_4 : Nat → Int32) (w_5 w_6 : Int64) (w_7 w_8 w_9 w_10 w_11 w_12 w_13 : Int32) (w_14 w_15 w_16 : Nat → Int32) (w_17 w_18 w_19 : Int32) (w_20 w_21 w_22 : Nat → Int32) (w_23 : Int64) : Rel ((h_0, h_1, h_2, h_3, h_4, h_5), (m0, m1, m2, m3), d, s, r) (w_0, w_1, w_2, w_3, w_4, w_5, w_6, w_7, w_8, w_9, w_10, w_11, w_12, w_13, w_14, w_15, w_16, w_17, w_18, w_19, w_20, w_21, w_22, w_23) = RelO h_0 h_1 h_2 h_3 h_4 h_5 m0 m2 m3 (pR_bytes r) (pR_length r) w_0 w_1 w_2 w_3 w_4 w_5 w_6 := rfl
theorem VL_congr {f g : Nat → Int32} {v : VW} (h : ∀ k, k < 152 → f k = g k) (hv : VL f v) : VL g v := by
  obtain ⟨h1, h2, h3, h4, h5, h6, h7⟩ := hv
  refine ⟨fun a ha => ?_, ?_, ?_, ?_, ?_, h6, fun b hb => ?_⟩
  · rw [← h _ (by omega), ← h _ (by omega)]; exact h1 a ha
  · rw [← h _ (by omega)]; exact h2
  · rw [← h _ (by omega)]; exact h3
  · rw [← h _ (by omega)]; exact h4
  · rw [← h _ (by omega)]; exact h5
  · rw [← h (28 + b) (by omega), ← h (36 + b) (by omega), ← h (44 + b) (by omega), ← h (52 + b) (by omega)]
    exact h7 b hb
theorem RM_congr {u : MSt} {f g : Nat → Int32} {v : VW} {s p : Nat} (h : ∀ k, k < 152 → f k = g k) (hr : RM u f v s p) : RM u g v s p := by
  obtain ⟨a1, a2, a3, b1, b2, b3, b4, b5, b6, b7, b8, b9, b10⟩ := hr
  have h8 := a2.2.2.2.2.2.1
  refine ⟨a1, VL_congr h a2, a3, ?_, ?_, b3, ?_, b5, b6, ?_, b8, fun i hi => ?_, fun r hr => ?_⟩
  · rw [← h _ (by omega)]; exact b1
  · rw [← h _ (by omega)]; exact b2
  · rw [← h _ (by omega)]; exact b4
  · rw [← h _ (by omega)]; exact b7
  · rw [← h (60 + i) (by omega), ← h (66 + i) (by omega)]; exact b9 i hi
  · obtain ⟨c1, c2, c3⟩ := b10 r hr
    refine ⟨fun b hb => ?_, ?_, ?_⟩
    · rw [← h (72 + 10 * r + b) (by omega)]; exact c1 b hb
    · rw [← h (72 + 10 * r + 8) (by omega)]; exact c2
    · rw [← h (72 + 10 * r + 9) (by omega)]; exact c3
theorem RelN_congr {u : MSt} {f g : Nat → Int32} (h : ∀ k, k < 152 → f k = g k) (hr : RelN u f) : RelN u g := by
  obtain ⟨v, s, p, hr⟩ := hr
  exact ⟨v, s, p, RM_congr h hr⟩
theorem RelI_congr {m2 m3 : MSt} {kept f g isk : Nat → Int32} (h : ∀ k, 152 ≤ k → k < 456 → f k = g k) (hr : RelI m2 m3 kept f isk) : RelI m2 m3 kept g isk := by
  obtain ⟨h1, h2, h3, h4⟩ := hr
  refine ⟨h1, h2, ?_, ?_⟩
  · rcases h3 with h3 | ⟨h3, h5⟩
    · exact Or.inl h3
    · exact Or.inr ⟨h3, RelN_congr (fun k hk => h _ (by omega) (by omega)) h5⟩
  · rcases h4 with h4 | ⟨h4, h5⟩
    · exact Or.inl h4
    · exact Or.inr ⟨h4, RelN_congr (fun k hk => h _ (by omega) (by omega)) h5⟩
-- ranges
def inR (a lo hi : Int) : Prop := lo ≤ a ∧ a ≤ hi
theorem inR_dec (a lo hi : Int) : inR a lo hi ∨ ¬ inR a lo hi := by unfold inR; exact Decidable.em _
theorem of_inR {a : Int32} {hi : Int} (h : inR a.toInt 0 hi) : ∃ k : Nat, (k : Int) ≤ hi ∧ k < 2147483648 ∧ a = nI k := by
  have hb : a.toInt < 2147483648 := a.toInt_lt
  refine ⟨a.toInt.toNat, ?_, ?_, ?_⟩
  · have := h.1; have := h.2; omega
  · have := h.1; omega
  · refine Int32.toInt_inj.mp ?_
    have h1 := h.1
    rw [ti_nI (by omega)]
    omega
theorem within_t {a b c : Int32} (h : inR a.toInt b.toInt c.toInt) : f_X10_within a b c = some 1 := by
  unfold f_X10_within
  rw [if_neg (fun e => by have := Int32.lt_iff_toInt_lt.mp e; have := h.1; omega), if_neg (fun e => by have := Int32.lt_iff_toInt_lt.mp e; have := h.2; omega)]
theorem within_f {a b c : Int32} (h : ¬ inR a.toInt b.toInt c.toInt) : f_X10_within a b c = some 0 := by
  unfold f_X10_within
  by_cases c1 : a < b
  · rw [if_pos c1]
  · rw [if_neg c1, if_pos]
    have h1 : ¬ a.toInt < b.toInt := fun e => c1 (Int32.lt_iff_toInt_lt.mpr e)
    refine Int32.lt_iff_toInt_lt.mpr ?_
    unfold inR at h
    omega
theorem isHour_t {a : Int32} (h : inR a.toInt 0 9) : f_X10_isHour a = some 1 := by
  unfold f_X10_isHour
  rw [if_neg (fun e => by have := Int32.lt_iff_toInt_lt.mp e; rw [ti_0] at this; have := h.1; omega), if_neg (fun e => by have := Int32.le_iff_toInt_le.mp e; rw [show (10 : Int32).toInt = 10 from rfl] at this; have := h.2; omega)]
theorem isHour_f {a : Int32} (h : ¬ inR a.toInt 0 9) : f_X10_isHour a = some 0 := by
  unfold f_X10_isHour
  by_cases c1 : a < 0
  · rw [if_pos c1]
  · rw [if_neg c1, if_pos]
    have h1 : ¬ a.toInt < (0 : Int32).toInt := fun e => c1 (Int32.lt_iff_toInt_lt.mpr e)
    rw [ti_0] at h1
    refine Int32.le_iff_toInt_le.mpr ?_
    rw [show (10 : Int32).toInt = 10 from rfl]
    unfold inR at h
    omega
theorem lgc {x y : Int64} : (lg_cmp x y < 0 ↔ x.toInt < y.toInt) ∧ (0 < lg_cmp x y ↔ y.toInt < x.toInt) ∧ (lg_cmp x y = 0 ↔ x = y) ∧ (0 ≤ lg_cmp x y ↔ y.toInt ≤ x.toInt) := by
  unfold lg_cmp
  by_cases c1 : x > y
  · rw [if_pos c1]
    have h1 : y.toInt < x.toInt := Int64.lt_iff_toInt_lt.mp c1
    refine ⟨⟨fun e => absurd e (by decide), fun e => by omega⟩, ⟨fun _ => h1, fun _ => by decide⟩, ⟨fun e => absurd e (by decide), fun e => by rw [e] at h1; omega⟩, ⟨fun _ => by omega, fun _ => by decide⟩⟩
  · rw [if_neg c1]
    have h1 : ¬ y.toInt < x.toInt := fun e => c1 (Int64.lt_iff_toInt_lt.mpr e)
    by_cases c2 : x = y
    · rw [if_pos c2]
      subst c2
      refine ⟨⟨fun e => absurd e (by decide), fun e => by omega⟩, ⟨fun e => absurd e (by decide), fun e => by omega⟩, ⟨fun _ => rfl, fun _ => rfl⟩, ⟨fun _ => Int.le_refl _, fun _ => by decide⟩⟩
    · rw [if_neg c2]
      have h2 : ¬ x.toInt = y.toInt := fun e => c2 (Int64.toInt_inj.mp e)
      refine ⟨⟨fun _ => by omega, fun _ => by decide⟩, ⟨fun e => absurd e (by decide), fun e => by omega⟩, ⟨fun e => absurd e (by decide), fun e => absurd e c2⟩, ⟨fun e => absurd e (by decide), fun e => by omega⟩⟩
theorem in_t {a b c : Int64} (h : inR a.toInt b.toInt c.toInt) : f_X11_in a b c = some 1 := by
  unfold f_X11_in
  rw [if_neg (fun e => by have := lgc.1.mp e; have := h.1; omega), if_neg (fun e => by have := lgc.2.1.mp e; have := h.2; omega)]
theorem in_f {a b c : Int64} (h : ¬ inR a.toInt b.toInt c.toInt) : f_X11_in a b c = some 0 := by
  unfold f_X11_in
  by_cases c1 : lg_cmp a b < 0
  · rw [if_pos c1]
  · rw [if_neg c1, if_pos]
    have h1 : ¬ a.toInt < b.toInt := fun e => c1 (lgc.1.mpr e)
    refine lgc.2.1.mpr ?_
    unfold inR at h
    omega
theorem inI_t {a : Int32} {b c : Int64} (h : inR a.toInt b.toInt c.toInt) : f_X11_in a.toInt64 b c = some 1 := in_t (by rw [Int32.toInt_toInt64]; exact h)
theorem inI_f {a : Int32} {b c : Int64} (h : ¬ inR a.toInt b.toInt c.toInt) : f_X11_in a.toInt64 b c = some 0 := in_f (by rw [Int32.toInt_toInt64]; exact h)
theorem isPrice_t {a : Int32} (h : inR a.toInt 0 99) : f_X11_isPrice a = some 1 := by
  unfold f_X11_isPrice
  rw [inI_t h]
  rfl
theorem isPrice_f {a : Int32} (h : ¬ inR a.toInt 0 99) : f_X11_isPrice a = some 0 := by
  unfold f_X11_isPrice
  rw [inI_f h]
  rfl
theorem isHourL_t {a : Int32} (h : inR a.toInt 0 9) : f_X11_isHour a = some 1 := by
  unfold f_X11_isHour
  rw [inI_t h]
  rfl
theorem isHourL_f {a : Int32} (h : ¬ inR a.toInt 0 9) : f_X11_isHour a = some 0 := by
  unfold f_X11_isHour
  rw [inI_f h]
  rfl
theorem one0 : ¬ ((1 : Int32) = 0) := by decide
-- refusals
def cBad (c : CSt) : CSt := sc_h c (sH_refusedBad (c_h c) (pH_refusedBad (c_h c) + 1))
def cNo (c : CSt) : CSt := sc_h c (sH_refusedNo (c_h c) (pH_refusedNo (c_h c) + 1))
def cFull (c : CSt) : CSt := sc_h c (sH_refusedFull (c_h c) (pH_refusedFull (c_h c) + 1))
def wRef (w : LSt) (k : Nat) : LSt := sL_refused w (upd (pL_refused w) k (pL_refused w k + 1))
theorem refuse_bad (c : CSt) : f_X10_refuse c (-2) = some (-2, cBad c) := by
  unfold f_X10_refuse cBad
  rw [if_pos (by decide), lt_eq]
theorem refuse_no (c : CSt) : f_X10_refuse c (-3) = some (-3, cNo c) := by
  unfold f_X10_refuse cNo
  rw [if_neg (by decide), if_pos (by decide), lt_eq]
theorem refuse_full (c : CSt) : f_X10_refuse c (-4) = some (-4, cFull c) := by
  unfold f_X10_refuse cFull
  rw [if_neg (by decide), if_neg (by decide), lt_eq]
theorem bad_spec (w : LSt) : f_X11_bad w = some (-2, wRef w 0) := by
  unfold f_X11_bad wRef
  rw [if_pos (by decide), if_pos (by decide), lt_eq, show (0 : Int32).toNatClampNeg = 0 from rfl]
theorem badAs_spec (w : LSt) (a : Int32) : f_X11_badAs w a = some (a, wRef w 0) := by
  unfold f_X11_badAs wRef
  rw [if_pos (by decide), if_pos (by decide), lt_eq, show (0 : Int32).toNatClampNeg = 0 from rfl]
theorem no_spec (w : LSt) : f_X11_no w = some (-3, wRef w 1) := by
  unfold f_X11_no wRef
  rw [if_pos (by decide), if_pos (by decide), lt_eq, show (1 : Int32).toNatClampNeg = 1 from rfl]
theorem full_spec (w : LSt) : f_X11_full w = some (-4, wRef w 2) := by
  unfold f_X11_full wRef
  rw [if_pos (by decide), if_pos (by decide), lt_eq, show (2 : Int32).toNatClampNeg = 2 from rfl]
theorem rel_bad {c : CSt} {w : LSt} (hR : Rel c w) : Rel (cBad c) (wRef w 0) := by
  obtain ⟨⟨h_0, h_1, h_2, h_3, h_4, h_5⟩, ⟨m0, m1, m2, m3⟩, d, s, r⟩ := c
  obtain ⟨w_0, w_1, w_2, w_3, w_4, w_5, w_6, w_7, w_8, w_9, w_10, w_11, w_12, w_13, w_14, w_15, w_16, w_17, w_18, w_19, w_20, w_21, w_22, w_23⟩ := w
  rw [rel_mk] at hR
  obtain ⟨e1, e2, e3, e4, e5, e6, e7, e8⟩ := hR
  unfold cBad wRef
  simp only [sc_h_mk, sc_m0_mk, sc_m1_mk, sc_m2_mk, sc_m3_mk, sc_d_mk, sc_s_mk, sc_r_mk, sc_k2_mk, sc_k3_mk, c_h, c_m0, c_m1, c_m2, c_m3, c_d, c_s, c_r, sH_kept_mk, sH_above_mk, sH_below_mk, sH_refusedBad_mk, sH_refusedNo_mk, sH_refusedFull_mk, pH_kept, pH_above, pH_below, pH_refusedBad, pH_refusedNo, pH_refusedFull, sL_w_mk, sL_isKept_mk, sL_text_mk, sL_texted_mk, sL_refused_mk, sL_above_mk, sL_below_mk, sL_at_mk, sL_start_mk, sL_isWord_mk, sL_isFigures_mk, sL_value_mk, sL_comers_mk, sL_shouted_mk, sL_gets_mk, sL_isServed_mk, sL_goes_mk, sL_takings_mk, sL_theirTakings_mk, sL_left_mk, sL_aside_mk, sL_own_mk, sL_other_mk, sL_h_mk, pL_w, pL_isKept, pL_text, pL_texted, pL_refused, pL_above, pL_below, pL_at, pL_start, pL_isWord, pL_isFigures, pL_value, pL_comers, pL_shouted, pL_gets, pL_isServed, pL_goes, pL_takings, pL_theirTakings, pL_left, pL_aside, pL_own, pL_other, pL_h, rel_mk]
  exact ⟨e1, e2, e3, e4, e5, (congrArg (· + 1) e6).trans (upd_at ..).symm, e7, e8⟩
theorem rel_no {c : CSt} {w : LSt} (hR : Rel c w) : Rel (cNo c) (wRef w 1) := by
  obtain ⟨⟨h_0, h_1, h_2, h_3, h_4, h_5⟩, ⟨m0, m1, m2, m3⟩, d, s, r⟩ := c
  obtain ⟨w_0, w_1, w_2, w_3, w_4, w_5, w_6, w_7, w_8, w_9, w_10, w_11, w_12, w_13, w_14, w_15, w_16, w_17, w_18, w_19, w_20, w_21, w_22, w_23⟩ := w
  rw [rel_mk] at hR
  obtain ⟨e1, e2, e3, e4, e5, e6, e7, e8⟩ := hR
  unfold cNo wRef
  simp only [sc_h_mk, sc_m0_mk, sc_m1_mk, sc_m2_mk, sc_m3_mk, sc_d_mk, sc_s_mk, sc_r_mk, sc_k2_mk, sc_k3_mk, c_h, c_m0, c_m1, c_m2, c_m3, c_d, c_s, c_r, sH_kept_mk, sH_above_mk, sH_below_mk, sH_refusedBad_mk, sH_refusedNo_mk, sH_refusedFull_mk, pH_kept, pH_above, pH_below, pH_refusedBad, pH_refusedNo, pH_refusedFull, sL_w_mk, sL_isKept_mk, sL_text_mk, sL_texted_mk, sL_refused_mk, sL_above_mk, sL_below_mk, sL_at_mk, sL_start_mk, sL_isWord_mk, sL_isFigures_mk, sL_value_mk, sL_comers_mk, sL_shouted_mk, sL_gets_mk, sL_isServed_mk, sL_goes_mk, sL_takings_mk, sL_theirTakings_mk, sL_left_mk, sL_aside_mk, sL_own_mk, sL_other_mk, sL_h_mk, pL_w, pL_isKept, pL_text, pL_texted, pL_refused, pL_above, pL_below, pL_at, pL_start, pL_isWord, pL_isFigures, pL_value, pL_comers, pL_shouted, pL_gets, pL_isServed, pL_goes, pL_takings, pL_theirTakings, pL_left, pL_aside, pL_own, pL_other, pL_h, rel_mk]
  exact ⟨e1, e2, e3, e4, e5, e6, (congrArg (· + 1) e7).trans (upd_at ..).symm, e8⟩
theorem rel_full {c : CSt} {w : LSt} (hR : Rel c w) : Rel (cFull c) (wRef w 2) := by
  obtain ⟨⟨h_0, h_1, h_2, h_3, h_4, h_5⟩, ⟨m0, m1, m2, m3⟩, d, s, r⟩ := c
  obtain ⟨w_0, w_1, w_2, w_3, w_4, w_5, w_6, w_7, w_8, w_9, w_10, w_11, w_12, w_13, w_14, w_15, w_16, w_17, w_18, w_19, w_20, w_21, w_22, w_23⟩ := w
  rw [rel_mk] at hR
  obtain ⟨e1, e2, e3, e4, e5, e6, e7, e8⟩ := hR
  unfold cFull wRef
  simp only [sc_h_mk, sc_m0_mk, sc_m1_mk, sc_m2_mk, sc_m3_mk, sc_d_mk, sc_s_mk, sc_r_mk, sc_k2_mk, sc_k3_mk, c_h, c_m0, c_m1, c_m2, c_m3, c_d, c_s, c_r, sH_kept_mk, sH_above_mk, sH_below_mk, sH_refusedBad_mk, sH_refusedNo_mk, sH_refusedFull_mk, pH_kept, pH_above, pH_below, pH_refusedBad, pH_refusedNo, pH_refusedFull, sL_w_mk, sL_isKept_mk, sL_text_mk, sL_texted_mk, sL_refused_mk, sL_above_mk, sL_below_mk, sL_at_mk, sL_start_mk, sL_isWord_mk, sL_isFigures_mk, sL_value_mk, sL_comers_mk, sL_shouted_mk, sL_gets_mk, sL_isServed_mk, sL_goes_mk, sL_takings_mk, sL_theirTakings_mk, sL_left_mk, sL_aside_mk, sL_own_mk, sL_other_mk, sL_h_mk, pL_w, pL_isKept, pL_text, pL_texted, pL_refused, pL_above, pL_below, pL_at, pL_start, pL_isWord, pL_isFigures, pL_value, pL_comers, pL_shouted, pL_gets, pL_isServed, pL_goes, pL_takings, pL_theirTakings, pL_left, pL_aside, pL_own, pL_other, pL_h, rel_mk]
  exact ⟨e1, e2, e3, e4, e5, e6, e7, (congrArg (· + 1) e8).trans (upd_at ..).symm⟩
-- what a call that touches neither leaves
theorem rel_d {c : CSt} {w : LSt} (hR : Rel c w) (d' : DSt) : Rel (sc_d c d') w := by
  obtain ⟨⟨h_0, h_1, h_2, h_3, h_4, h_5⟩, ⟨m0, m1, m2, m3⟩, d, s, r⟩ := c
  obtain ⟨w_0, w_1, w_2, w_3, w_4, w_5, w_6, w_7, w_8, w_9, w_10, w_11, w_12, w_13, w_14, w_15, w_16, w_17, w_18, w_19, w_20, w_21, w_22, w_23⟩ := w
  rw [rel_mk] at hR
  simp only [sc_d_mk, rel_mk]
  exact hR
theorem rel_m1 {c : CSt} {w : LSt} (hR : Rel c w) (u : MSt) : Rel (sc_m1 c u) w := by
  obtain ⟨⟨h_0, h_1, h_2, h_3, h_4, h_5⟩, ⟨m0, m1, m2, m3⟩, d, s, r⟩ := c
  obtain ⟨w_0, w_1, w_2, w_3, w_4, w_5, w_6, w_7, w_8, w_9, w_10, w_11, w_12, w_13, w_14, w_15, w_16, w_17, w_18, w_19, w_20, w_21, w_22, w_23⟩ := w
  rw [rel_mk] at hR
  simp only [sc_m1_mk, rel_mk]
  exact hR
theorem rel_s {c : CSt} {w : LSt} (hR : Rel c w) (s' : SSt) : Rel (sc_s c s') w := by
  obtain ⟨⟨h_0, h_1, h_2, h_3, h_4, h_5⟩, ⟨m0, m1, m2, m3⟩, d, s, r⟩ := c
  obtain ⟨w_0, w_1, w_2, w_3, w_4, w_5, w_6, w_7, w_8, w_9, w_10, w_11, w_12, w_13, w_14, w_15, w_16, w_17, w_18, w_19, w_20, w_21, w_22, w_23⟩ := w
  rw [rel_mk] at hR
  simp only [sc_s_mk, rel_mk]
  exact hR
theorem rel_setD {c : CSt} {w : LSt} (hR : Rel c w) (x : DYS) : Rel c (setD w x) := by
  obtain ⟨⟨h_0, h_1, h_2, h_3, h_4, h_5⟩, ⟨m0, m1, m2, m3⟩, d, s, r⟩ := c
  obtain ⟨w_0, w_1, w_2, w_3, w_4, w_5, w_6, w_7, w_8, w_9, w_10, w_11, w_12, w_13, w_14, w_15, w_16, w_17, w_18, w_19, w_20, w_21, w_22, w_23⟩ := w
  obtain ⟨x_0, x_1, x_2, x_3, x_4, x_5⟩ := x
  rw [rel_mk] at hR
  simp only [setD_mk, rel_mk]
  exact hR
theorem rel_comers {c : CSt} {w : LSt} (hR : Rel c w) (x : Int32) : Rel c (sL_comers w x) := by
  obtain ⟨⟨h_0, h_1, h_2, h_3, h_4, h_5⟩, ⟨m0, m1, m2, m3⟩, d, s, r⟩ := c
  obtain ⟨w_0, w_1, w_2, w_3, w_4, w_5, w_6, w_7, w_8, w_9, w_10, w_11, w_12, w_13, w_14, w_15, w_16, w_17, w_18, w_19, w_20, w_21, w_22, w_23⟩ := w
  rw [rel_mk] at hR
  simp only [sL_comers_mk, rel_mk]
  exact hR
theorem rel_shouted {c : CSt} {w : LSt} (hR : Rel c w) (x : Int32) : Rel c (sL_shouted w x) := by
  obtain ⟨⟨h_0, h_1, h_2, h_3, h_4, h_5⟩, ⟨m0, m1, m2, m3⟩, d, s, r⟩ := c
  obtain ⟨w_0, w_1, w_2, w_3, w_4, w_5, w_6, w_7, w_8, w_9, w_10, w_11, w_12, w_13, w_14, w_15, w_16, w_17, w_18, w_19, w_20, w_21, w_22, w_23⟩ := w
  rw [rel_mk] at hR
  simp only [sL_shouted_mk, rel_mk]
  exact hR
theorem rel_aside {c : CSt} {w : LSt} (hR : Rel c w) (x : Nat → Int32) : Rel c (sL_aside w x) := by
  obtain ⟨⟨h_0, h_1, h_2, h_3, h_4, h_5⟩, ⟨m0, m1, m2, m3⟩, d, s, r⟩ := c
  obtain ⟨w_0, w_1, w_2, w_3, w_4, w_5, w_6, w_7, w_8, w_9, w_10, w_11, w_12, w_13, w_14, w_15, w_16, w_17, w_18, w_19, w_20, w_21, w_22, w_23⟩ := w
  rw [rel_mk] at hR
  simp only [sL_aside_mk, rel_mk]
  exact hR
theorem rel_own {c : CSt} {w : LSt} (hR : Rel c w) (x : Nat → Int32) : Rel c (sL_own w x) := by
  obtain ⟨⟨h_0, h_1, h_2, h_3, h_4, h_5⟩, ⟨m0, m1, m2, m3⟩, d, s, r⟩ := c
  obtain ⟨w_0, w_1, w_2, w_3, w_4, w_5, w_6, w_7, w_8, w_9, w_10, w_11, w_12, w_13, w_14, w_15, w_16, w_17, w_18, w_19, w_20, w_21, w_22, w_23⟩ := w
  rw [rel_mk] at hR
  simp only [sL_own_mk, rel_mk]
  exact hR
theorem rel_other {c : CSt} {w : LSt} (hR : Rel c w) (x : Nat → Int32) : Rel c (sL_other w x) := by
  obtain ⟨⟨h_0, h_1, h_2, h_3, h_4, h_5⟩, ⟨m0, m1, m2, m3⟩, d, s, r⟩ := c
  obtain ⟨w_0, w_1, w_2, w_3, w_4, w_5, w_6, w_7, w_8, w_9, w_10, w_11, w_12, w_13, w_14, w_15, w_16, w_17, w_18, w_19, w_20, w_21, w_22, w_23⟩ := w
  rw [rel_mk] at hR
  simp only [sL_other_mk, rel_mk]
  exact hR
theorem rel_h {c : CSt} {w : LSt} (hR : Rel c w) (x : Int64) : Rel c (sL_h w x) := by
  obtain ⟨⟨h_0, h_1, h_2, h_3, h_4, h_5⟩, ⟨m0, m1, m2, m3⟩, d, s, r⟩ := c
  obtain ⟨w_0, w_1, w_2, w_3, w_4, w_5, w_6, w_7, w_8, w_9, w_10, w_11, w_12, w_13, w_14, w_15, w_16, w_17, w_18, w_19, w_20, w_21, w_22, w_23⟩ := w
  rw [rel_mk] at hR
  simp only [sL_h_mk, rel_mk]
  exact hR
theorem rel_now {c : CSt} {w : LSt} (hR : Rel c w) : RelN (c_m0 c) (pL_w w) := hR.1
/-- a new market now, and a new row below 152 -/
theorem rel_set {c : CSt} {w : LSt} (hR : Rel c w) {u : MSt} {f : Nat → Int32} (hN : RelN u f) (h : ∀ k, 152 ≤ k → k < 456 → pL_w w k = f k) : Rel (sc_m0 c u) (sL_w w f) := by
  obtain ⟨⟨h_0, h_1, h_2, h_3, h_4, h_5⟩, ⟨m0, m1, m2, m3⟩, d, s, r⟩ := c
  obtain ⟨w_0, w_1, w_2, w_3, w_4, w_5, w_6, w_7, w_8, w_9, w_10, w_11, w_12, w_13, w_14, w_15, w_16, w_17, w_18, w_19, w_20, w_21, w_22, w_23⟩ := w
  rw [rel_mk] at hR
  obtain ⟨e1, e2, e3, e4, e5, e6, e7, e8⟩ := hR
  simp only [sc_m0_mk, sL_w_mk, rel_mk]
  exact ⟨hN, RelI_congr h e2, e3, e4, e5, e6, e7, e8⟩
