-- ===== the text: tokens =====
def wT (w : LSt) (a s i g v : Int32) : LSt := (w.1, w.2.1, w.2.2.1, w.2.2.2.1, w.2.2.2.2.1, w.2.2.2.2.2.1, w.2.2.2.2.2.2.1, a, s, i, g, v, w.2.2.2.2.2.2.2.2.2.2.2.2)
theorem wT_mk (w_0 : Nat → Int32) (w_1 : Nat → Int32) (w_2 : Nat → Int32) (w_3 : Int32) (w_4 : Nat → Int32) (w_5 w_6 : Int64) (w_7 w_8 w_9 w_10 w_11 w_12 w_13 : Int32) (w_14 w_15 w_16 : Nat → Int32) (w_17 w_18 w_19 : Int32) (w_20 w_21 w_22 : Nat → Int32) (w_23 : Int64) (a s i g v : Int32) : wT (w_0, w_1, w_2, w_3, w_4, w_5, w_6, w_7, w_8, w_9, w_10, w_11, w_12, w_13, w_14, w_15, w_16, w_17, w_18, w_19, w_20, w_21, w_22, w_23) a s i g v = (w_0, w_1, w_2, w_3, w_4, w_5, w_6, a, s, i, g, v, w_12, w_13, w_14, w_15, w_16, w_17, w_18, w_19, w_20, w_21, w_22, w_23) := rfl
theorem wT_p (w : LSt) (a s i g v : Int32) : pL_at (wT w a s i g v) = a ∧ pL_start (wT w a s i g v) = s ∧ pL_isWord (wT w a s i g v) = i ∧ pL_isFigures (wT w a s i g v) = g ∧ pL_value (wT w a s i g v) = v ∧ pL_texted (wT w a s i g v) = pL_texted w ∧ pL_text (wT w a s i g v) = pL_text w ∧ pL_w (wT w a s i g v) = pL_w w := by
  obtain ⟨w_0, w_1, w_2, w_3, w_4, w_5, w_6, w_7, w_8, w_9, w_10, w_11, w_12, w_13, w_14, w_15, w_16, w_17, w_18, w_19, w_20, w_21, w_22, w_23⟩ := w
  simp only [wT_mk]
  exact ⟨trivial, trivial, trivial, trivial, trivial, trivial, trivial, trivial⟩
theorem wT_at (w : LSt) (a s i g v z : Int32) : sL_at (wT w a s i g v) z = wT w z s i g v := by
  obtain ⟨w_0, w_1, w_2, w_3, w_4, w_5, w_6, w_7, w_8, w_9, w_10, w_11, w_12, w_13, w_14, w_15, w_16, w_17, w_18, w_19, w_20, w_21, w_22, w_23⟩ := w
  simp only [wT_mk, sL_w_mk, sL_isKept_mk, sL_text_mk, sL_texted_mk, sL_refused_mk, sL_above_mk, sL_below_mk, sL_at_mk, sL_start_mk, sL_isWord_mk, sL_isFigures_mk, sL_value_mk, sL_comers_mk, sL_shouted_mk, sL_gets_mk, sL_isServed_mk, sL_goes_mk, sL_takings_mk, sL_theirTakings_mk, sL_left_mk, sL_aside_mk, sL_own_mk, sL_other_mk, sL_h_mk, pL_w, pL_isKept, pL_text, pL_texted, pL_refused, pL_above, pL_below, pL_at, pL_start, pL_isWord, pL_isFigures, pL_value, pL_comers, pL_shouted, pL_gets, pL_isServed, pL_goes, pL_takings, pL_theirTakings, pL_left, pL_aside, pL_own, pL_other, pL_h]
theorem wT_st (w : LSt) (a s i g v z : Int32) : sL_start (wT w a s i g v) z = wT w a z i g v := by
  obtain ⟨w_0, w_1, w_2, w_3, w_4, w_5, w_6, w_7, w_8, w_9, w_10, w_11, w_12, w_13, w_14, w_15, w_16, w_17, w_18, w_19, w_20, w_21, w_22, w_23⟩ := w
  simp only [wT_mk, sL_w_mk, sL_isKept_mk, sL_text_mk, sL_texted_mk, sL_refused_mk, sL_above_mk, sL_below_mk, sL_at_mk, sL_start_mk, sL_isWord_mk, sL_isFigures_mk, sL_value_mk, sL_comers_mk, sL_shouted_mk, sL_gets_mk, sL_isServed_mk, sL_goes_mk, sL_takings_mk, sL_theirTakings_mk, sL_left_mk, sL_aside_mk, sL_own_mk, sL_other_mk, sL_h_mk, pL_w, pL_isKept, pL_text, pL_texted, pL_refused, pL_above, pL_below, pL_at, pL_start, pL_isWord, pL_isFigures, pL_value, pL_comers, pL_shouted, pL_gets, pL_isServed, pL_goes, pL_takings, pL_theirTakings, pL_left, pL_aside, pL_own, pL_other, pL_h]
theorem wT_iw (w : LSt) (a s i g v z : Int32) : sL_isWord (wT w a s i g v) z = wT w a s z g v := by
  obtain ⟨w_0, w_1, w_2, w_3, w_4, w_5, w_6, w_7, w_8, w_9, w_10, w_11, w_12, w_13, w_14, w_15, w_16, w_17, w_18, w_19, w_20, w_21, w_22, w_23⟩ := w
  simp only [wT_mk, sL_w_mk, sL_isKept_mk, sL_text_mk, sL_texted_mk, sL_refused_mk, sL_above_mk, sL_below_mk, sL_at_mk, sL_start_mk, sL_isWord_mk, sL_isFigures_mk, sL_value_mk, sL_comers_mk, sL_shouted_mk, sL_gets_mk, sL_isServed_mk, sL_goes_mk, sL_takings_mk, sL_theirTakings_mk, sL_left_mk, sL_aside_mk, sL_own_mk, sL_other_mk, sL_h_mk, pL_w, pL_isKept, pL_text, pL_texted, pL_refused, pL_above, pL_below, pL_at, pL_start, pL_isWord, pL_isFigures, pL_value, pL_comers, pL_shouted, pL_gets, pL_isServed, pL_goes, pL_takings, pL_theirTakings, pL_left, pL_aside, pL_own, pL_other, pL_h]
theorem wT_ig (w : LSt) (a s i g v z : Int32) : sL_isFigures (wT w a s i g v) z = wT w a s i z v := by
  obtain ⟨w_0, w_1, w_2, w_3, w_4, w_5, w_6, w_7, w_8, w_9, w_10, w_11, w_12, w_13, w_14, w_15, w_16, w_17, w_18, w_19, w_20, w_21, w_22, w_23⟩ := w
  simp only [wT_mk, sL_w_mk, sL_isKept_mk, sL_text_mk, sL_texted_mk, sL_refused_mk, sL_above_mk, sL_below_mk, sL_at_mk, sL_start_mk, sL_isWord_mk, sL_isFigures_mk, sL_value_mk, sL_comers_mk, sL_shouted_mk, sL_gets_mk, sL_isServed_mk, sL_goes_mk, sL_takings_mk, sL_theirTakings_mk, sL_left_mk, sL_aside_mk, sL_own_mk, sL_other_mk, sL_h_mk, pL_w, pL_isKept, pL_text, pL_texted, pL_refused, pL_above, pL_below, pL_at, pL_start, pL_isWord, pL_isFigures, pL_value, pL_comers, pL_shouted, pL_gets, pL_isServed, pL_goes, pL_takings, pL_theirTakings, pL_left, pL_aside, pL_own, pL_other, pL_h]
theorem wT_vl (w : LSt) (a s i g v z : Int32) : sL_value (wT w a s i g v) z = wT w a s i g z := by
  obtain ⟨w_0, w_1, w_2, w_3, w_4, w_5, w_6, w_7, w_8, w_9, w_10, w_11, w_12, w_13, w_14, w_15, w_16, w_17, w_18, w_19, w_20, w_21, w_22, w_23⟩ := w
  simp only [wT_mk, sL_w_mk, sL_isKept_mk, sL_text_mk, sL_texted_mk, sL_refused_mk, sL_above_mk, sL_below_mk, sL_at_mk, sL_start_mk, sL_isWord_mk, sL_isFigures_mk, sL_value_mk, sL_comers_mk, sL_shouted_mk, sL_gets_mk, sL_isServed_mk, sL_goes_mk, sL_takings_mk, sL_theirTakings_mk, sL_left_mk, sL_aside_mk, sL_own_mk, sL_other_mk, sL_h_mk, pL_w, pL_isKept, pL_text, pL_texted, pL_refused, pL_above, pL_below, pL_at, pL_start, pL_isWord, pL_isFigures, pL_value, pL_comers, pL_shouted, pL_gets, pL_isServed, pL_goes, pL_takings, pL_theirTakings, pL_left, pL_aside, pL_own, pL_other, pL_h]
theorem wT_w (w : LSt) (a s i g v : Int32) (f : Nat → Int32) : sL_w (wT w a s i g v) f = wT (sL_w w f) a s i g v := by
  obtain ⟨w_0, w_1, w_2, w_3, w_4, w_5, w_6, w_7, w_8, w_9, w_10, w_11, w_12, w_13, w_14, w_15, w_16, w_17, w_18, w_19, w_20, w_21, w_22, w_23⟩ := w
  simp only [wT_mk, sL_w_mk, sL_isKept_mk, sL_text_mk, sL_texted_mk, sL_refused_mk, sL_above_mk, sL_below_mk, sL_at_mk, sL_start_mk, sL_isWord_mk, sL_isFigures_mk, sL_value_mk, sL_comers_mk, sL_shouted_mk, sL_gets_mk, sL_isServed_mk, sL_goes_mk, sL_takings_mk, sL_theirTakings_mk, sL_left_mk, sL_aside_mk, sL_own_mk, sL_other_mk, sL_h_mk, pL_w, pL_isKept, pL_text, pL_texted, pL_refused, pL_above, pL_below, pL_at, pL_start, pL_isWord, pL_isFigures, pL_value, pL_comers, pL_shouted, pL_gets, pL_isServed, pL_goes, pL_takings, pL_theirTakings, pL_left, pL_aside, pL_own, pL_other, pL_h]
theorem wT_self (w : LSt) : wT w (pL_at w) (pL_start w) (pL_isWord w) (pL_isFigures w) (pL_value w) = w := by
  obtain ⟨w_0, w_1, w_2, w_3, w_4, w_5, w_6, w_7, w_8, w_9, w_10, w_11, w_12, w_13, w_14, w_15, w_16, w_17, w_18, w_19, w_20, w_21, w_22, w_23⟩ := w
  simp only [wT_mk, sL_w_mk, sL_isKept_mk, sL_text_mk, sL_texted_mk, sL_refused_mk, sL_above_mk, sL_below_mk, sL_at_mk, sL_start_mk, sL_isWord_mk, sL_isFigures_mk, sL_value_mk, sL_comers_mk, sL_shouted_mk, sL_gets_mk, sL_isServed_mk, sL_goes_mk, sL_takings_mk, sL_theirTakings_mk, sL_left_mk, sL_aside_mk, sL_own_mk, sL_other_mk, sL_h_mk, pL_w, pL_isKept, pL_text, pL_texted, pL_refused, pL_above, pL_below, pL_at, pL_start, pL_isWord, pL_isFigures, pL_value, pL_comers, pL_shouted, pL_gets, pL_isServed, pL_goes, pL_takings, pL_theirTakings, pL_left, pL_aside, pL_own, pL_other, pL_h]
theorem wT_kp (w : LSt) (a s i g v : Int32) : Kp w (wT w a s i g v) := by
  obtain ⟨w_0, w_1, w_2, w_3, w_4, w_5, w_6, w_7, w_8, w_9, w_10, w_11, w_12, w_13, w_14, w_15, w_16, w_17, w_18, w_19, w_20, w_21, w_22, w_23⟩ := w
  simp only [wT_mk]
  exact ⟨rfl, rfl, rfl, rfl, rfl, rfl⟩
theorem lp_mea {α β γ δ : Type} {sC : (α → Option γ) → α → Option γ} {sL : (β → Option δ) → β → Option δ} (I : α → β → Prop) (μ : α → β → Nat) {P : Option γ → Option δ → Prop} (hs : ∀ a b K K', I a b → (∃ a' b', I a' b' ∧ μ a' b' < μ a b ∧ sC K a = K a' ∧ sL K' b = K' b') ∨ P (sC K a) (sL K' b)) : ∀ (d : Nat) (a : α) (b : β) (n n' : Nat), μ a b ≤ d → d < n → d < n' → I a b → P (lp sC n a) (lp sL n' b) := by
  intro d
  induction d with
  | zero =>
    intro a b n n' hd hn hn' hI
    obtain ⟨m, rfl⟩ : ∃ m, n = m + 1 := ⟨n - 1, by omega⟩
    obtain ⟨m', rfl⟩ : ∃ m, n' = m + 1 := ⟨n' - 1, by omega⟩
    rw [lp_succ, lp_succ]
    rcases hs a b (lp sC m) (lp sL m') hI with ⟨a', b', h1, h2, h3, h4⟩ | h
    · omega
    · exact h
  | succ d ih =>
    intro a b n n' hd hn hn' hI
    obtain ⟨m, rfl⟩ : ∃ m, n = m + 1 := ⟨n - 1, by omega⟩
    obtain ⟨m', rfl⟩ : ∃ m, n' = m + 1 := ⟨n' - 1, by omega⟩
    rw [lp_succ, lp_succ]
    rcases hs a b (lp sC m) (lp sL m') hI with ⟨a', b', h1, h2, h3, h4⟩ | h
    · rw [h3, h4]
      exact ih a' b' m m' (by omega) (by omega) (by omega) h1
    · exact h
-- bytes
def TXT (b : Nat → Int32) (w : LSt) (L : Nat) : Prop := L ≤ 150 ∧ pL_texted w = nI L ∧ ∀ k, k < L → b k = pL_text w k
theorem byteC {b : Nat → Int32} {L k : Nat} (t s n m : Int32) (hk : k < 150) : f_X6_byteAt (b, nI L, t, s, n, m) (nI k) = some (b k) := by
  have e0 : (nI k < 0) = False := lt_f (b := 0) (by omega) (by omega)
  unfold f_X6_byteAt
  simp only [i_150]
  simp (disch := omega) only [lt_eq, Option.bind_some, inb_t, cl_t, le_t, le_f, lt_t, lt_f, eq_t, eq_f, nI_add, nI_1, ↓reduceIte, e0]
theorem byteL {b : Nat → Int32} {w : LSt} {L k : Nat} (hT : TXT b w L) (a s i g v : Int32) (hk : k ≤ 150) : f_X11_byteAt (wT w a s i g v) (nI k) = some (if k < L then b k else -1) := by
  obtain ⟨h1, h2, h3⟩ := hT
  obtain ⟨-, -, -, -, -, p6, p7, -⟩ := wT_p w a s i g v
  unfold f_X11_byteAt
  rw [p6, p7, h2]
  by_cases c : k < L
  · rw [if_neg (fun e => by have := (le_nI (by omega) (by omega)).mp e; omega), if_pos ((inb_nI (by omega)).mpr (by omega)), cl_nI (by omega), if_pos c, h3 k c]
  · rw [if_pos ((le_nI (by omega) (by omega)).mpr (by omega)), if_neg c]
theorem letC_t {x : Int32} (h : inR x.toInt 97 122) : f_X6_isLetter x = some 1 := by
  unfold f_X6_isLetter
  rw [if_neg (fun e => by have := Int32.lt_iff_toInt_lt.mp e; rw [show (97 : Int32).toInt = 97 from rfl] at this; have := h.1; omega), if_neg (fun e => by have := Int32.lt_iff_toInt_lt.mp e; rw [show (122 : Int32).toInt = 122 from rfl] at this; have := h.2; omega)]
theorem letC_f {x : Int32} (h : ¬ inR x.toInt 97 122) : f_X6_isLetter x = some 0 := by
  unfold f_X6_isLetter
  by_cases c1 : x < 97
  · rw [if_pos c1]
  · rw [if_neg c1, if_pos]
    have h1 : ¬ x.toInt < (97 : Int32).toInt := fun e => c1 (Int32.lt_iff_toInt_lt.mpr e)
    rw [show (97 : Int32).toInt = 97 from rfl] at h1
    refine Int32.lt_iff_toInt_lt.mpr ?_
    rw [show (122 : Int32).toInt = 122 from rfl]
    unfold inR at h
    omega
theorem figC_t {x : Int32} (h : inR x.toInt 48 57) : f_X6_isFigure x = some 1 := by
  unfold f_X6_isFigure
  rw [if_neg (fun e => by have := Int32.lt_iff_toInt_lt.mp e; rw [show (48 : Int32).toInt = 48 from rfl] at this; have := h.1; omega), if_neg (fun e => by have := Int32.lt_iff_toInt_lt.mp e; rw [show (57 : Int32).toInt = 57 from rfl] at this; have := h.2; omega)]
theorem figC_f {x : Int32} (h : ¬ inR x.toInt 48 57) : f_X6_isFigure x = some 0 := by
  unfold f_X6_isFigure
  by_cases c1 : x < 48
  · rw [if_pos c1]
  · rw [if_neg c1, if_pos]
    have h1 : ¬ x.toInt < (48 : Int32).toInt := fun e => c1 (Int32.lt_iff_toInt_lt.mpr e)
    rw [show (48 : Int32).toInt = 48 from rfl] at h1
    refine Int32.lt_iff_toInt_lt.mpr ?_
    rw [show (57 : Int32).toInt = 57 from rfl]
    unfold inR at h
    omega
def nm (b : Nat → Int32) (q : Nat) : Nat → Int32
  | 0 => 0
  | i + 1 => 10 * nm b q i + b (q + i) - 48
def KIND (b : Nat → Int32) (L q e : Nat) (t m iw ig : Int32) : Prop := (q = L ∧ t = 0 ∧ iw = 0 ∧ ig = 0) ∨ (q < L ∧ t = 1 ∧ iw = 1 ∧ ig = 0 ∧ ¬ b q = 59) ∨ (q < L ∧ t = (if 2 < e - q then 4 else 2) ∧ iw = 0 ∧ ig = 1 ∧ ¬ b q = 59 ∧ m = nm b q (e - q) ∧ ∀ k, q ≤ k → k < e → inR (b k).toInt 48 57) ∨ (q < L ∧ t = (if b q = 59 then 3 else 4) ∧ iw = 0 ∧ ig = 0)
/-- words -/
theorem word_run {b : Nat → Int32} {w : LSt} {L : Nat} (hT : TXT b w L) (t s m s2 v : Int32) {q : Nat} (hq : q < L) (n n' : Nat) (hn : 150 < n) (hn' : 150 < n') : ∃ e, q < e ∧ e ≤ L ∧ lp (f_X6_step_s85) n (b, nI L, t, s, nI (q + 1), m) = some (b, nI L, t, s, nI e, m) ∧ lp (f_X11_token_s103) n' (wT w (nI (q + 1)) s2 1 0 v) = some (wT w (nI e) s2 1 0 v) := by
  have hL := hT.1
  refine lp_mea (sC := f_X6_step_s85) (sL := f_X11_token_s103) (fun x y => ∃ p, q < p ∧ p ≤ L ∧ x = (b, nI L, t, s, nI p, m) ∧ y = wT w (nI p) s2 1 0 v) (fun x y => L - (pR_next x).toNatClampNeg) (P := fun oc ol => ∃ e, q < e ∧ e ≤ L ∧ oc = some (b, nI L, t, s, nI e, m) ∧ ol = some (wT w (nI e) s2 1 0 v)) (fun x y K K' hI => ?_) 150 _ _ n n' ?_ hn hn' ?_
  · obtain ⟨p, h1, h2, rfl, rfl⟩ := hI
    obtain ⟨p1, p2, p3, p4, p5, p6, p7, p8⟩ := wT_p w (nI p) s2 1 0 v
    by_cases c : p < L
    · have nb : ¬ nI L ≤ nI p := by
        rw [le_nI (by omega) (by omega)]
        omega
      rcases inR_dec (b p).toInt 97 122 with hl | hl
      · refine Or.inl ⟨(b, nI L, t, s, nI (p + 1), m), wT w (nI (p + 1)) s2 1 0 v, ⟨p + 1, by omega, by omega, rfl, rfl⟩, ?_, ?_, ?_⟩
        · show L - (nI (p + 1)).toNatClampNeg < L - (nI p).toNatClampNeg
          rw [cl_nI (by omega), cl_nI (by omega)]
          omega
        · unfold f_X6_step_s85
          rw [if_neg (show ¬ pR_length (b, nI L, t, s, nI p, m) ≤ pR_next (b, nI L, t, s, nI p, m) from nb), show pR_next (b, nI L, t, s, nI p, m) = nI p from rfl, byteC t s (nI p) m (by omega), Option.bind_some, letC_t hl, Option.bind_some, if_neg one0, lt_eq, nI_1, sR_next_mk]
        · unfold f_X11_token_s103 f_X11_token_j159
          rw [p3, if_neg one0, p1, byteL hT _ _ _ _ _ (by omega), Option.bind_some, if_pos c, inI_t hl, Option.bind_some, if_neg one0, lt_eq, nI_1, wT_at]
      · refine Or.inr ⟨p, h1, h2, ?_, ?_⟩
        · unfold f_X6_step_s85
          rw [if_neg (show ¬ pR_length (b, nI L, t, s, nI p, m) ≤ pR_next (b, nI L, t, s, nI p, m) from nb), show pR_next (b, nI L, t, s, nI p, m) = nI p from rfl, byteC t s (nI p) m (by omega), Option.bind_some, letC_f hl, Option.bind_some, if_pos rfl]
        · unfold f_X11_token_s103 f_X11_token_j131
          rw [p3, if_neg one0, p1, byteL hT _ _ _ _ _ (by omega), Option.bind_some, if_pos c, inI_f hl, Option.bind_some, if_pos rfl, p4, if_pos rfl]
    · have pL : p = L := by omega
      subst pL
      refine Or.inr ⟨p, h1, h2, ?_, ?_⟩
      · unfold f_X6_step_s85
        exact if_pos (Int32.le_refl _)
      · unfold f_X11_token_s103 f_X11_token_j131
        rw [p3, if_neg one0, p1, byteL hT _ _ _ _ _ (by omega), Option.bind_some, if_neg c, in_f (show ¬ inR (-1 : Int32).toInt64.toInt (97 : Int64).toInt (122 : Int64).toInt from by unfold inR; decide), Option.bind_some, if_pos rfl, p4, if_pos rfl]
  · show L - (nI (q + 1)).toNatClampNeg ≤ 150
    omega
  · exact ⟨q + 1, by omega, by omega, rfl, rfl⟩
/-- figures -/
theorem fig_run {b : Nat → Int32} {w : LSt} {L : Nat} (hT : TXT b w L) (t s s2 v : Int32) {q : Nat} (hq : q < L) (hf : inR (b q).toInt 48 57) (n n' : Nat) (hn : 150 < n) (hn' : 150 < n') : ∃ e, q < e ∧ e ≤ L ∧ (∀ k, q ≤ k → k < e → inR (b k).toInt 48 57) ∧ lp (f_X6_step_s135) n (b, nI L, t, s, nI (q + 1), nm b q 1) = f_X6_step_j196 (b, nI L, t, s, nI e, nm b q (e - q)) ∧ lp (f_X11_token_s103) n' (wT w (nI (q + 1)) s2 0 1 v) = some (wT w (nI e) s2 0 1 v) := by
  have hL := hT.1
  refine lp_mea (sC := f_X6_step_s135) (sL := f_X11_token_s103) (fun x y => ∃ p, q < p ∧ p ≤ L ∧ (∀ k, q ≤ k → k < p → inR (b k).toInt 48 57) ∧ x = (b, nI L, t, s, nI p, nm b q (p - q)) ∧ y = wT w (nI p) s2 0 1 v) (fun x y => L - (pR_next x).toNatClampNeg) (P := fun oc ol => ∃ e, q < e ∧ e ≤ L ∧ (∀ k, q ≤ k → k < e → inR (b k).toInt 48 57) ∧ oc = f_X6_step_j196 (b, nI L, t, s, nI e, nm b q (e - q)) ∧ ol = some (wT w (nI e) s2 0 1 v)) (fun x y K K' hI => ?_) 150 _ _ n n' ?_ hn hn' ?_
  · obtain ⟨p, h1, h2, h3, rfl, rfl⟩ := hI
    obtain ⟨p1, p2, p3, p4, p5, p6, p7, p8⟩ := wT_p w (nI p) s2 0 1 v
    by_cases c : p < L
    · have nb : ¬ nI L ≤ nI p := by
        rw [le_nI (by omega) (by omega)]
        omega
      rcases inR_dec (b p).toInt 48 57 with hl | hl
      · refine Or.inl ⟨(b, nI L, t, s, nI (p + 1), nm b q (p + 1 - q)), wT w (nI (p + 1)) s2 0 1 v, ⟨p + 1, by omega, by omega, fun k k1 k2 => ?_, rfl, rfl⟩, ?_, ?_, ?_⟩
        · by_cases ck : k = p
          · rw [ck]; exact hl
          · exact h3 k k1 (by omega)
        · show L - (nI (p + 1)).toNatClampNeg < L - (nI p).toNatClampNeg
          rw [cl_nI (by omega), cl_nI (by omega)]
          omega
        · have en : nm b q (p + 1 - q) = 10 * nm b q (p - q) + b p - 48 := by
            rw [show p + 1 - q = (p - q) + 1 from by omega]
            show 10 * nm b q (p - q) + b (q + (p - q)) - 48 = _
            rw [show q + (p - q) = p from by omega]
          unfold f_X6_step_s135
          rw [if_neg (show ¬ pR_length (b, nI L, t, s, nI p, nm b q (p - q)) ≤ pR_next (b, nI L, t, s, nI p, nm b q (p - q)) from nb), show pR_next (b, nI L, t, s, nI p, nm b q (p - q)) = nI p from rfl, byteC t s (nI p) _ (by omega), Option.bind_some, figC_t hl, Option.bind_some, if_neg one0, Option.bind_some, lt_eq, lt_eq, en]
          simp only [sR_bytes_mk, sR_length_mk, sR_token_mk, sR_start_mk, sR_next_mk, sR_number_mk, pR_bytes, pR_length, pR_token, pR_start, pR_next, pR_number, nI_1]
        · unfold f_X11_token_s103 f_X11_token_j131 f_X11_token_j159
          rw [p3, if_pos rfl, p4, if_neg one0, p1, byteL hT _ _ _ _ _ (by omega), Option.bind_some, if_pos c, inI_t hl, Option.bind_some, if_neg one0, lt_eq, nI_1, wT_at]
      · refine Or.inr ⟨p, h1, h2, h3, ?_, ?_⟩
        · unfold f_X6_step_s135
          rw [if_neg (show ¬ pR_length (b, nI L, t, s, nI p, nm b q (p - q)) ≤ pR_next (b, nI L, t, s, nI p, nm b q (p - q)) from nb), show pR_next (b, nI L, t, s, nI p, nm b q (p - q)) = nI p from rfl, byteC t s (nI p) _ (by omega), Option.bind_some, figC_f hl, Option.bind_some, if_pos rfl]
        · unfold f_X11_token_s103 f_X11_token_j131
          rw [p3, if_pos rfl, p4, if_neg one0, p1, byteL hT _ _ _ _ _ (by omega), Option.bind_some, if_pos c, inI_f hl, Option.bind_some, if_pos rfl]
    · have pL : p = L := by omega
      subst pL
      refine Or.inr ⟨p, h1, h2, h3, ?_, ?_⟩
      · unfold f_X6_step_s135
        exact if_pos (Int32.le_refl _)
      · unfold f_X11_token_s103 f_X11_token_j131
        rw [p3, if_pos rfl, p4, if_neg one0, p1, byteL hT _ _ _ _ _ (by omega), Option.bind_some, if_neg c, in_f (show ¬ inR (-1 : Int32).toInt64.toInt (48 : Int64).toInt (57 : Int64).toInt from by unfold inR; decide), Option.bind_some, if_pos rfl]
  · show L - (nI (q + 1)).toNatClampNeg ≤ 150
    omega
  · refine ⟨q + 1, by omega, by omega, fun k k1 k2 => ?_, ?_, rfl⟩
    · rw [show k = q from by omega]; exact hf
    · rw [show q + 1 - q = 1 from by omega]
