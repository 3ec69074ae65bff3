-- ===== evaluation =====
theorem lt_eq {α β : Type} (v : α) (f : α → β) : lt v f = f v := by
  have h : ∀ x, x = lt v f → x = f v := fun x h => h.trans rfl
  exact h _ rfl
theorem inb_t {k n : Nat} (h : k < n) (hk : k < 2147483648) : inb (nI k) n = True := eq_true ((inb_nI hk).mpr h)
theorem cl_t {k : Nat} (h : k < 2147483648) : (nI k).toNatClampNeg = k := cl_nI h
theorem le_t {a b : Nat} (h : a ≤ b) (hb : b < 2147483648) : (nI a ≤ nI b) = True := eq_true ((le_nI (by omega) hb).mpr h)
theorem le_f {a b : Nat} (h : b < a) (ha : a < 2147483648) : (nI a ≤ nI b) = False := eq_false (fun e => by have := (le_nI ha (by omega)).mp e; omega)
theorem lt_t {a b : Nat} (h : a < b) (hb : b < 2147483648) : (nI a < nI b) = True := eq_true ((lt_nI (by omega) hb).mpr h)
theorem lt_f {a b : Nat} (h : b ≤ a) (ha : a < 2147483648) : (nI a < nI b) = False := eq_false (fun e => by have := (lt_nI ha (by omega)).mp e; omega)
theorem eq_t {a b : Nat} (h : a = b) : (nI a = nI b) = True := eq_true (congrArg nI h)
theorem eq_f {a b : Nat} (h : a ≠ b) (ha : a < 2147483648) (hb : b < 2147483648) : (nI a = nI b) = False := eq_false (fun e => h ((eq_nI ha hb).mp e))
theorem i_0 : (0 : Int32) = nI 0 := rfl
theorem i_1 : (1 : Int32) = nI 1 := rfl
theorem i_2 : (2 : Int32) = nI 2 := rfl
theorem i_3 : (3 : Int32) = nI 3 := rfl
theorem i_4 : (4 : Int32) = nI 4 := rfl
theorem i_5 : (5 : Int32) = nI 5 := rfl
theorem i_6 : (6 : Int32) = nI 6 := rfl
theorem i_7 : (7 : Int32) = nI 7 := rfl
theorem i_8 : (8 : Int32) = nI 8 := rfl
theorem i_9 : (9 : Int32) = nI 9 := rfl
theorem i_10 : (10 : Int32) = nI 10 := rfl
theorem i_18 : (18 : Int32) = nI 18 := rfl
theorem i_20 : (20 : Int32) = nI 20 := rfl
theorem i_28 : (28 : Int32) = nI 28 := rfl
theorem i_36 : (36 : Int32) = nI 36 := rfl
theorem i_40 : (40 : Int32) = nI 40 := rfl
theorem i_44 : (44 : Int32) = nI 44 := rfl
theorem i_52 : (52 : Int32) = nI 52 := rfl
theorem i_60 : (60 : Int32) = nI 60 := rfl
theorem i_66 : (66 : Int32) = nI 66 := rfl
theorem i_70 : (70 : Int32) = nI 70 := rfl
theorem i_72 : (72 : Int32) = nI 72 := rfl
theorem i_99 : (99 : Int32) = nI 99 := rfl
theorem i_100 : (100 : Int32) = nI 100 := rfl
theorem i_150 : (150 : Int32) = nI 150 := rfl
theorem i_152 : (152 : Int32) = nI 152 := rfl
theorem i_255 : (255 : Int32) = nI 255 := rfl
theorem i_304 : (304 : Int32) = nI 304 := rfl
theorem i_456 : (456 : Int32) = nI 456 := rfl
-- ===== the reference's day =====
abbrev DYS : Type := Int32 × Int32 × Int32 × (Nat → Int32) × (Nat → Int32) × (Nat → Int32)
abbrev xL (x : DYS) : Int32 := x.1
abbrev xT (x : DYS) : Int32 := x.2.1
abbrev xU (x : DYS) : Int32 := x.2.2.1
abbrev xG (x : DYS) : Nat → Int32 := x.2.2.2.1
abbrev xB (x : DYS) : Nat → Int32 := x.2.2.2.2.1
abbrev xS (x : DYS) : Nat → Int32 := x.2.2.2.2.2
def dyL (w : LSt) : DYS := (pL_left w, pL_takings w, pL_theirTakings w, pL_goes w, pL_gets w, pL_isServed w)
def setD (w : LSt) (x : DYS) : LSt := (w.1, w.2.1, w.2.2.1, w.2.2.2.1, w.2.2.2.2.1, w.2.2.2.2.2.1, w.2.2.2.2.2.2.1, w.2.2.2.2.2.2.2.1, w.2.2.2.2.2.2.2.2.1, w.2.2.2.2.2.2.2.2.2.1, w.2.2.2.2.2.2.2.2.2.2.1, w.2.2.2.2.2.2.2.2.2.2.2.1, w.2.2.2.2.2.2.2.2.2.2.2.2.1, w.2.2.2.2.2.2.2.2.2.2.2.2.2.1, xB x, xS x, xG x, xT x, xU x, xL x, w.2.2.2.2.2.2.2.2.2.2.2.2.2.2.2.2.2.2.2.2)
theorem setD_mk (w_0 : Nat → Int32) (w_1 : Nat → Int32) (w_2 : Nat → Int32) (w_3 : Int32) (w_4 : Nat → Int32) (w_5 w_6 : Int64) (w_7 w_8 w_9 w_10 w_11 w_12 w_13 : Int32) (w_14 w_15 w_16 : Nat → Int32) (w_17 w_18 w_19 : Int32) (w_20 w_21 w_22 : Nat → Int32) (w_23 : Int64) (a b c : Int32) (d e f : Nat → Int32) : setD (w_0, w_1, w_2, w_3, w_4, w_5, w_6, w_7, w_8, w_9, w_10, w_11, w_12, w_13, w_14, w_15, w_16, w_17, w_18, w_19, w_20, w_21, w_22, w_23) (a, b, c, d, e, f) = (w_0, w_1, w_2, w_3, w_4, w_5, w_6, w_7, w_8, w_9, w_10, w_11, w_12, w_13, e, f, d, b, c, a, w_20, w_21, w_22, w_23) := rfl
theorem dyL_mk (w_0 : Nat → Int32) (w_1 : Nat → Int32) (w_2 : Nat → Int32) (w_3 : Int32) (w_4 : Nat → Int32) (w_5 w_6 : Int64) (w_7 w_8 w_9 w_10 w_11 w_12 w_13 : Int32) (w_14 w_15 w_16 : Nat → Int32) (w_17 w_18 w_19 : Int32) (w_20 w_21 w_22 : Nat → Int32) (w_23 : Int64) : dyL (w_0, w_1, w_2, w_3, w_4, w_5, w_6, w_7, w_8, w_9, w_10, w_11, w_12, w_13, w_14, w_15, w_16, w_17, w_18, w_19, w_20, w_21, w_22, w_23) = (w_19, w_17, w_18, w_16, w_14, w_15) := rfl
theorem setD_w (w : LSt) (x : DYS) : pL_w (setD w x) = pL_w w := by unfold setD; rfl
theorem setD_c (w : LSt) (x : DYS) : pL_comers (setD w x) = pL_comers w := by unfold setD; rfl
theorem setD_s (w : LSt) (x : DYS) : pL_shouted (setD w x) = pL_shouted w := by unfold setD; rfl
theorem setD_d (w : LSt) (x : DYS) : dyL (setD w x) = x := by
  obtain ⟨a, b, c, d, e, f⟩ := x
  obtain ⟨w_0, w_1, w_2, w_3, w_4, w_5, w_6, w_7, w_8, w_9, w_10, w_11, w_12, w_13, w_14, w_15, w_16, w_17, w_18, w_19, w_20, w_21, w_22, w_23⟩ := w
  simp only [setD_mk, dyL_mk]
theorem setD_setD (w : LSt) (x y : DYS) : setD (setD w x) y = setD w y := by
  obtain ⟨a, b, c, d, e, f⟩ := x
  obtain ⟨a', b', c', d', e', f'⟩ := y
  obtain ⟨w_0, w_1, w_2, w_3, w_4, w_5, w_6, w_7, w_8, w_9, w_10, w_11, w_12, w_13, w_14, w_15, w_16, w_17, w_18, w_19, w_20, w_21, w_22, w_23⟩ := w
  simp only [setD_mk]
theorem setD_self (w : LSt) : setD w (dyL w) = w := by
  obtain ⟨w_0, w_1, w_2, w_3, w_4, w_5, w_6, w_7, w_8, w_9, w_10, w_11, w_12, w_13, w_14, w_15, w_16, w_17, w_18, w_19, w_20, w_21, w_22, w_23⟩ := w
  simp only [setD_mk, dyL_mk]
def paySh (v : VW) (sh : Int32) (b : Nat) : Int32 := if nI (hourN v b) = sh then paysI v b + 5 else paysI v b
theorem nar1 : vp_nar .boolean (1 : Int32) = 1 := by decide
theorem nar0 : vp_nar .boolean (0 : Int32) = 0 := by decide
theorem plainPays_spec {w : LSt} {v : VW} {b : Nat} (hv : VL (pL_w w) v) (hb : b < vN v) : f_X11_plainPays w (nI b) (nI (hourN v b)) = some (plainI v b) := by
  obtain ⟨-, -, hh, -, -, h8, hbs⟩ := hv
  obtain ⟨-, -, -, -, h44, -⟩ := hbs b hb
  unfold f_X11_plainPays plainI
  simp only [lt]
  rw [show (44 : Int32) = nI 44 from rfl, if_pos (inb_add (by omega) (by omega)), cl_add (by omega), h44, if_pos (by decide), show (1 : Int32).toNatClampNeg = 1 from rfl, hh]
  generalize vW v b - vH v * nI (hourN v b) = z
  by_cases h : 0 < z
  · rw [if_pos h, if_pos (Int32.le_of_lt h)]
  · rw [if_neg h]
    by_cases h2 : 0 ≤ z
    · rw [if_pos h2]
      have : z = 0 := Int32.le_antisymm (Int32.not_lt.mp h) h2
      rw [this]
    · rw [if_neg h2]
theorem paysOf_spec {w : LSt} {v : VW} {b : Nat} (hv : VL (pL_w w) v) (hb : b < vN v) : f_X11_paysOf w (nI b) = some (paySh v (pL_shouted w) b) := by
  have h1 := hourOf_spec hv hb
  have h2 := plainPays_spec hv hb
  obtain ⟨-, -, -, -, -, h8, hbs⟩ := hv
  obtain ⟨h28, hk6, -, -, -, -⟩ := hbs b hb
  have hj : ∀ t, f_X11_paysOf_j60 w (nI b) t = some (if nI (hourN v b) = pL_shouted w then t + 5 else t) := by
    intro t
    unfold f_X11_paysOf_j60
    rw [h1]
    simp only [Option.bind_some]
    split <;> rfl
  unfold f_X11_paysOf f_X11_paysOf_j42
  rw [h1]
  simp only [Option.bind_some, h2, lt]
  rw [show (28 : Int32) = nI 28 from rfl, if_pos (inb_add (by omega) (by omega)), cl_add (by omega), h28]
  simp only [hj]
  unfold paySh paysI
  generalize vK v b = q at hk6 ⊢
  match q, hk6 with
  | 0, _ => rfl
  | 1, _ => rfl
  | 2, _ => rfl
  | 3, _ => rfl
  | 4, _ => rfl
  | 5, _ => rfl
  | q + 6, h => omega
theorem takesOf_spec {w : LSt} {v : VW} {b : Nat} (hv : VL (pL_w w) v) (hb : b < vN v) : f_X11_takesOf w (nI b) = some (takesI v b) := by
  obtain ⟨-, -, -, -, -, h8, hbs⟩ := hv
  obtain ⟨h28, hk6, -, -, -, h52⟩ := hbs b hb
  unfold f_X11_takesOf takesI
  simp only [i_52, i_28]
  simp (disch := omega) only [lt_eq, Option.bind_some, inb_t, cl_t, le_t, le_f, lt_t, lt_f, eq_t, eq_f, nI_add, nI_1, ↓reduceIte, h52, h28]
  generalize vK v b = q at hk6 ⊢
  match q, hk6 with
  | 0, _ => rfl
  | 1, _ => rfl
  | 2, _ => rfl
  | 3, _ => rfl
  | 4, _ => rfl
  | 5, _ =>
    rw [if_neg (by decide), if_pos (by decide)]
    split <;> rfl
  | q + 6, h => omega
def sellM (v : VW) (pay : Nat → Int32) (x : DYS) (b : Nat) : DYS :=
  if pay b < vP v (hourN v b) then x
  else lt (if xL x ≤ takesI v b then xL x else takesI v b) fun n => (xL x - n, xT x + n * vP v (hourN v b), xU x, upd (xG x) (hourN v b) (xG x (hourN v b) + n), upd (xB x) b n, upd (xS x) b (if n ≤ 0 then 0 else 1))
def comesM (v : VW) (pay : Nat → Int32) (x : DYS) (b : Nat) : DYS :=
  if vT v (hourN v b) ≤ 0 then sellM v pay x b
  else if vP v (hourN v b) ≤ vT v (hourN v b) then sellM v pay x b
  else if pay b < vT v (hourN v b) then sellM v pay x b
  else (xL x, xT x, xU x + vT v (hourN v b) * takesI v b, xG x, xB x, upd (xS x) b 1)
theorem comes_spec {w : LSt} {v : VW} {b : Nat} (hv : VL (pL_w w) v) (hb : b < vN v) : f_X11_comes w (nI b) (nI (hourN v b)) = some (setD w (comesM v (paySh v (pL_shouted w)) (dyL w) b)) := by
  have h3 := paysOf_spec hv hb
  have h4 := takesOf_spec hv hb
  have hv' := hv
  obtain ⟨hp, -, -, -, -, h8, hbs⟩ := hv
  obtain ⟨-, -, -, h10, -, -⟩ := hbs b hb
  have hh := hourN_lt h10
  have hp1 := (hp _ hh).1
  have hp2 := (hp _ hh).2
  have hb8 : b < 8 := by omega
  have h4' : ∀ f, f_X11_takesOf (sL_isServed w f) (nI b) = some (takesI v b) := fun f => takesOf_spec (w := sL_isServed w f) hv' hb
  obtain ⟨w_0, w_1, w_2, w_3, w_4, w_5, w_6, w_7, w_8, w_9, w_10, w_11, w_12, w_13, w_14, w_15, w_16, w_17, w_18, w_19, w_20, w_21, w_22, w_23⟩ := w
  have hj103 : ∀ (n : Int32), f_X11_comes_j103 (nI b) (nI (hourN v b)) (vP v (hourN v b)) n (w_0, w_1, w_2, w_3, w_4, w_5, w_6, w_7, w_8, w_9, w_10, w_11, w_12, w_13, w_14, w_15, w_16, w_17, w_18, w_19, w_20, w_21, w_22, w_23) = some (setD (w_0, w_1, w_2, w_3, w_4, w_5, w_6, w_7, w_8, w_9, w_10, w_11, w_12, w_13, w_14, w_15, w_16, w_17, w_18, w_19, w_20, w_21, w_22, w_23) (w_19 - n, w_17 + n * vP v (hourN v b), w_18, upd w_16 (hourN v b) (w_16 (hourN v b) + n), upd w_14 b n, upd w_15 b (if n ≤ 0 then 0 else 1))) := by
    intro n
    unfold f_X11_comes_j103 f_X11_comes_j128
    simp (disch := omega) only [lt_eq, Option.bind_some, inb_t, cl_t, le_t, le_f, lt_t, lt_f, eq_t, eq_f, nI_add, nI_1, ↓reduceIte, sL_w_mk, sL_isKept_mk, sL_text_mk, sL_texted_mk, sL_refused_mk, sL_above_mk, sL_below_mk, sL_at_mk, sL_start_mk, sL_isWord_mk, sL_isFigures_mk, sL_value_mk, sL_comers_mk, sL_shouted_mk, sL_gets_mk, sL_isServed_mk, sL_goes_mk, sL_takings_mk, sL_theirTakings_mk, sL_left_mk, sL_aside_mk, sL_own_mk, sL_other_mk, sL_h_mk, pL_w, pL_isKept, pL_text, pL_texted, pL_refused, pL_above, pL_below, pL_at, pL_start, pL_isWord, pL_isFigures, pL_value, pL_comers, pL_shouted, pL_gets, pL_isServed, pL_goes, pL_takings, pL_theirTakings, pL_left, pL_aside, pL_own, pL_other, pL_h, setD_mk]
    by_cases h : n ≤ 0
    · simp only [if_pos h, nar0]
    · simp only [if_neg h, nar1]
  have hj73 : f_X11_comes_j73 (nI b) (nI (hourN v b)) (vP v (hourN v b)) (paySh v w_13 b) (w_0, w_1, w_2, w_3, w_4, w_5, w_6, w_7, w_8, w_9, w_10, w_11, w_12, w_13, w_14, w_15, w_16, w_17, w_18, w_19, w_20, w_21, w_22, w_23) = some (setD (w_0, w_1, w_2, w_3, w_4, w_5, w_6, w_7, w_8, w_9, w_10, w_11, w_12, w_13, w_14, w_15, w_16, w_17, w_18, w_19, w_20, w_21, w_22, w_23) (sellM v (paySh v w_13) (dyL (w_0, w_1, w_2, w_3, w_4, w_5, w_6, w_7, w_8, w_9, w_10, w_11, w_12, w_13, w_14, w_15, w_16, w_17, w_18, w_19, w_20, w_21, w_22, w_23)) b)) := by
    unfold f_X11_comes_j73 sellM
    simp (disch := omega) only [lt_eq, Option.bind_some, inb_t, cl_t, le_t, le_f, lt_t, lt_f, eq_t, eq_f, nI_add, nI_1, ↓reduceIte, h4, hj103, dyL_mk]
    by_cases h : paySh v w_13 b < vP v (hourN v b)
    · simp only [if_pos h, setD_mk]
    · simp only [if_neg h]
      by_cases h2 : w_19 ≤ takesI v b
      · simp only [xL, xT, xU, xG, xB, xS, h2, ↓reduceIte, sL_w_mk, sL_isKept_mk, sL_text_mk, sL_texted_mk, sL_refused_mk, sL_above_mk, sL_below_mk, sL_at_mk, sL_start_mk, sL_isWord_mk, sL_isFigures_mk, sL_value_mk, sL_comers_mk, sL_shouted_mk, sL_gets_mk, sL_isServed_mk, sL_goes_mk, sL_takings_mk, sL_theirTakings_mk, sL_left_mk, sL_aside_mk, sL_own_mk, sL_other_mk, sL_h_mk, pL_w, pL_isKept, pL_text, pL_texted, pL_refused, pL_above, pL_below, pL_at, pL_start, pL_isWord, pL_isFigures, pL_value, pL_comers, pL_shouted, pL_gets, pL_isServed, pL_goes, pL_takings, pL_theirTakings, pL_left, pL_aside, pL_own, pL_other, pL_h]
      · simp only [xL, xT, xU, xG, xB, xS, h2, ↓reduceIte, sL_w_mk, sL_isKept_mk, sL_text_mk, sL_texted_mk, sL_refused_mk, sL_above_mk, sL_below_mk, sL_at_mk, sL_start_mk, sL_isWord_mk, sL_isFigures_mk, sL_value_mk, sL_comers_mk, sL_shouted_mk, sL_gets_mk, sL_isServed_mk, sL_goes_mk, sL_takings_mk, sL_theirTakings_mk, sL_left_mk, sL_aside_mk, sL_own_mk, sL_other_mk, sL_h_mk, pL_w, pL_isKept, pL_text, pL_texted, pL_refused, pL_above, pL_below, pL_at, pL_start, pL_isWord, pL_isFigures, pL_value, pL_comers, pL_shouted, pL_gets, pL_isServed, pL_goes, pL_takings, pL_theirTakings, pL_left, pL_aside, pL_own, pL_other, pL_h]
  unfold f_X11_comes
  simp only [i_8, i_18]
  simp (disch := omega) only [lt_eq, Option.bind_some, inb_t, cl_t, le_t, le_f, lt_t, lt_f, eq_t, eq_f, nI_add, nI_1, ↓reduceIte, hp1, hp2, h3, hj73, h4']
  unfold comesM
  by_cases c1 : vT v (hourN v b) ≤ 0
  · simp only [if_pos c1]
  · simp only [if_neg c1]
    by_cases c2 : vP v (hourN v b) ≤ vT v (hourN v b)
    · simp only [if_pos c2]
    · simp only [if_neg c2]
      by_cases c3 : paySh v w_13 b < vT v (hourN v b)
      · simp only [if_pos c3]
      · simp only [if_neg c3, nar1, sL_w_mk, sL_isKept_mk, sL_text_mk, sL_texted_mk, sL_refused_mk, sL_above_mk, sL_below_mk, sL_at_mk, sL_start_mk, sL_isWord_mk, sL_isFigures_mk, sL_value_mk, sL_comers_mk, sL_shouted_mk, sL_gets_mk, sL_isServed_mk, sL_goes_mk, sL_takings_mk, sL_theirTakings_mk, sL_left_mk, sL_aside_mk, sL_own_mk, sL_other_mk, sL_h_mk, pL_w, pL_isKept, pL_text, pL_texted, pL_refused, pL_above, pL_below, pL_at, pL_start, pL_isWord, pL_isFigures, pL_value, pL_comers, pL_shouted, pL_gets, pL_isServed, pL_goes, pL_takings, pL_theirTakings, pL_left, pL_aside, pL_own, pL_other, pL_h, dyL_mk, setD_mk]
def bitB (who : Int32) (b : Nat) : Bool := decide ((who >>> (nI b &&& 31)) &&& (1 : Int32) = 1)
def goB (v : VW) (who : Int32) (b : Nat) : Bool := bitB who b && !awayB v b
def stepG (v : VW) (pay : Nat → Int32) (who : Int32) (x : DYS) (b : Nat) : DYS := if goB v who b = true then comesM v pay x b else x
def stepH (v : VW) (pay : Nat → Int32) (who : Int32) (h : Nat) (x : DYS) (b : Nat) : DYS := if hourN v b = h then stepG v pay who x b else x
def resetH (x : DYS) (h : Nat) : DYS := (xL x, xT x, xU x, upd (xG x) h 0, xB x, xS x)
def hourM (v : VW) (pay : Nat → Int32) (who : Int32) (x : DYS) (h : Nat) : DYS := (List.range (vN v)).foldl (stepH v pay who h) (resetH x h)
def triesM (v : VW) (pay : Nat → Int32) (who : Int32) (x : DYS) : DYS := (List.range 10).foldl (hourM v pay who) x
theorem fold_succ {α : Type} (f : α → Nat → α) (x : α) (n : Nat) : (List.range (n + 1)).foldl f x = f ((List.range n).foldl f x) n := by rw [List.range_succ, List.foldl_append]; rfl
theorem has_spec (s : Int32) (b : Nat) : f_X11_has s (nI b) = some (if bitB s b = true then 1 else 0) := by
  unfold f_X11_has bitB
  by_cases h : ((s >>> (nI b &&& 31)) &&& (1 : Int32)) = (1 : Int32)
  · simp only [if_pos h, h, decide_true, if_true]
  · simp only [if_neg h, h, decide_false, Bool.false_eq_true, if_false]
theorem tries_in {g : LSt} {v : VW} {who a1 : Int32} (hv : VL (pL_w g) v) (hc : pL_comers g = who) {b h : Nat} (hb : b < vN v) (hh : h < 10) (K55 : (Int32 × LSt) → Option (LSt)) (K70 : (Int32 × Int32 × LSt) → Option (LSt)) (x : DYS) : f_X11_tries_s70 a1 K55 K70 (nI h, nI b, setD g x) = K70 (nI h, nI (b + 1), setD g (stepH v (paySh v (pL_shouted g)) who h x b)) := by
  have hw : pL_w (setD g x) = pL_w g := setD_w g x
  have hv2 : VL (pL_w (setD g x)) v := by rw [hw]; exact hv
  have h1 := hourOf_spec hv2 hb
  have h2 := comes_spec hv2 hb
  rw [setD_d, setD_s, setD_setD] at h2
  obtain ⟨-, hr, -, -, h3, h8, hbs⟩ := hv
  obtain ⟨h28, hk6, -, h10, -, -⟩ := hbs b hb
  have h9 := hourN_lt h10
  have j124 : ∀ t, f_X11_tries_j124 a1 K55 K70 (nI h) (nI b) t (setD g x) = K70 (nI h, nI (b + 1), setD g (if bitB who b = true then if t = 0 then x else if hourN v b = h then comesM v (paySh v (pL_shouted g)) x b else x else x)) := by
    intro t
    unfold f_X11_tries_j124 f_X11_tries_j157
    rw [setD_c, hc, has_spec, h1]
    simp (disch := omega) only [lt_eq, Option.bind_some, inb_t, cl_t, le_t, le_f, lt_t, lt_f, eq_t, eq_f, nI_add, nI_1, ↓reduceIte]
    by_cases c1 : bitB who b = true
    · simp only [if_pos c1, show ¬ ((1 : Int32) = 0) from by decide, if_false]
      by_cases c2 : t = 0
      · simp only [if_pos c2]
      · simp only [if_neg c2]
        by_cases c3 : hourN v b = h
        · subst c3
          simp (disch := omega) only [lt_eq, Option.bind_some, inb_t, cl_t, le_t, le_f, lt_t, lt_f, eq_t, eq_f, nI_add, nI_1, ↓reduceIte, h2]
        · simp (disch := omega) only [lt_eq, Option.bind_some, inb_t, cl_t, le_t, le_f, lt_t, lt_f, eq_t, eq_f, nI_add, nI_1, ↓reduceIte, if_neg c3]
    · simp only [if_neg c1, if_true]
  unfold f_X11_tries_s70 f_X11_tries_j119
  simp only [hw, j124]
  have q3 : (3 : Int32).toNatClampNeg = 3 := rfl
  have q2 : (2 : Int32).toNatClampNeg = 2 := rfl
  rw [if_pos (show inb (3 : Int32) 608 from by decide), q3, h3, if_pos (show inb (2 : Int32) 608 from by decide), q2, hr, has_spec]
  simp only [i_28]
  simp (disch := omega) only [lt_eq, Option.bind_some, inb_t, cl_t, le_t, le_f, lt_t, lt_f, eq_t, eq_f, nI_add, nI_1, ↓reduceIte, h28]
  unfold stepH stepG goB awayB
  have e : bitB (vR v) h = rainB v h := rfl
  rw [e]
  by_cases c1 : hourN v b = h
  · simp only [c1]
    cases bitB who b
    · cases rainB v h
      · simp
      · simp only [Bool.false_and, Bool.false_eq_true, if_false, if_true, ite_self]
    · cases rainB v h
      · simp
      · generalize vK v b = q at hk6 ⊢
        match q, hk6 with
        | 0, _ => rfl
        | 1, _ => rfl
        | 2, _ => rfl
        | 3, _ => rfl
        | 4, _ => rfl
        | 5, _ => rfl
        | q + 6, h => omega
  · simp only [if_neg c1, ite_self]
theorem tries_hour {g : LSt} {v : VW} {who a1 : Int32} (hv : VL (pL_w g) v) (hc : pL_comers g = who) {h : Nat} (hh : h < 10) (K55 : (Int32 × LSt) → Option (LSt)) (x : DYS) : f_X11_tries_s55 a1 K55 (nI h, setD g x) = K55 (nI (h + 1), setD g (hourM v (paySh v (pL_shouted g)) who x h)) := by
  have e : sL_goes (setD g x) (upd (pL_goes (setD g x)) h 0) = setD g (resetH x h) := by
    obtain ⟨a, b, c, d, e, f⟩ := x
    obtain ⟨g_0, g_1, g_2, g_3, g_4, g_5, g_6, g_7, g_8, g_9, g_10, g_11, g_12, g_13, g_14, g_15, g_16, g_17, g_18, g_19, g_20, g_21, g_22, g_23⟩ := g
    simp only [setD_mk, sL_w_mk, sL_isKept_mk, sL_text_mk, sL_texted_mk, sL_refused_mk, sL_above_mk, sL_below_mk, sL_at_mk, sL_start_mk, sL_isWord_mk, sL_isFigures_mk, sL_value_mk, sL_comers_mk, sL_shouted_mk, sL_gets_mk, sL_isServed_mk, sL_goes_mk, sL_takings_mk, sL_theirTakings_mk, sL_left_mk, sL_aside_mk, sL_own_mk, sL_other_mk, sL_h_mk, pL_w, pL_isKept, pL_text, pL_texted, pL_refused, pL_above, pL_below, pL_at, pL_start, pL_isWord, pL_isFigures, pL_value, pL_comers, pL_shouted, pL_gets, pL_isServed, pL_goes, pL_takings, pL_theirTakings, pL_left, pL_aside, pL_own, pL_other, pL_h, resetH, xL, xT, xU, xG, xB, xS]
  have h3 := hv.2.2.2.2.1
  have h8 := hv.2.2.2.2.2.1
  unfold f_X11_tries_s55
  simp only [i_10]
  simp (disch := omega) only [lt_eq, Option.bind_some, inb_t, cl_t, le_t, le_f, lt_t, lt_f, eq_t, eq_f, nI_add, nI_1, ↓reduceIte, e]
  have hl := lp_run0 (step := f_X11_tries_s70 a1 K55) (fun b => (nI h, nI b, setD g ((List.range b).foldl (stepH v (paySh v (pL_shouted g)) who h) (resetH x h)))) (vN v) (by omega) (out := K55 (nI (h + 1), setD g (hourM v (paySh v (pL_shouted g)) who x h))) (fun k K hk => ?_) (fun K => ?_)
  · exact hl
  · rw [fold_succ, tries_in hv hc hk hh]
  · unfold f_X11_tries_s70 f_X11_tries_j163
    have q3 : (3 : Int32).toNatClampNeg = 3 := rfl
    dsimp only
    rw [setD_w, if_pos (by decide), q3, h3]
    simp (disch := omega) only [lt_eq, Option.bind_some, inb_t, cl_t, le_t, le_f, lt_t, lt_f, eq_t, eq_f, nI_add, nI_1, ↓reduceIte]
    rfl
def x0D (v : VW) (g e f : Nat → Int32) : DYS := (vU v, 0, 0, g, (fun j => if j < 8 then 0 else e j), (fun j => if j < 8 then 0 else f j))
theorem lp_run1 {α β : Type} {step : (α → Option β) → α → Option β} (st : Nat → α) (N : Nat) (hN : N < 1000) {a : α} {out : Option β} (h0 : a = st 0) (hs : ∀ k K, k < N → step K (st k) = K (st (k + 1))) (he : ∀ K, step K (st N) = out) : lp step 1000 a = out := by
  rw [h0]
  exact lp_run0 st N hN hs he
theorem tries_out {g : LSt} {v : VW} {who : Int32} (hv2 : VL (pL_w g) v) (hc : pL_comers g = who) (x : DYS) : f_X11_tries_j53 who (setD g x) = some (setD g (triesM v (paySh v (pL_shouted g)) who x)) := by
  unfold f_X11_tries_j53
  refine lp_run1 (step := f_X11_tries_s55 who) (fun h => (nI h, setD g ((List.range h).foldl (hourM v (paySh v (pL_shouted g)) who) x))) 10 (by omega) rfl (fun k K hk => ?_) (fun K => ?_)
  · rw [fold_succ, tries_hour hv2 hc hk]
  · unfold f_X11_tries_s55 triesM
    exact if_pos (show (10 : Int32) ≤ nI 10 from by decide)
theorem z_upd (f : Nat → Int32) (k : Nat) (c : Int32) : upd (fun j => if j < k then c else f j) k c = fun j => if j < k + 1 then c else f j := by
  funext j
  rw [upd_eq]
  by_cases h1 : j = k
  · rw [if_pos h1, if_pos (by omega)]
  · rw [if_neg h1]
    by_cases h2 : j < k
    · rw [if_pos h2, if_pos (by omega)]
    · rw [if_neg h2, if_neg (by omega)]
theorem z_zero (f : Nat → Int32) (c : Int32) : (fun j => if j < 0 then c else f j) = f := by funext j; rw [if_neg (Nat.not_lt_zero j)]
theorem tries_init (g : LSt) (who a : Int32) (d e f : Nat → Int32) : lp (f_X11_tries_s27 who) 1000 ((0 : Int32), setD g (a, 0, 0, d, e, f)) = f_X11_tries_j53 who (setD g (a, 0, 0, d, (fun j => if j < 8 then 0 else e j), (fun j => if j < 8 then 0 else f j))) := by
  refine lp_run1 (step := f_X11_tries_s27 who) (fun k => (nI k, setD g (a, 0, 0, d, (fun j => if j < k then 0 else e j), (fun j => if j < k then 0 else f j)))) 8 (by omega) (by rw [z_zero, z_zero]; rfl) (fun k K hk => ?_) (fun K => ?_)
  · unfold f_X11_tries_s27
    simp only [i_8]
    simp (disch := omega) only [lt_eq, Option.bind_some, inb_t, cl_t, le_t, le_f, lt_t, lt_f, eq_t, eq_f, nI_add, nI_1, ↓reduceIte]
    obtain ⟨g_0, g_1, g_2, g_3, g_4, g_5, g_6, g_7, g_8, g_9, g_10, g_11, g_12, g_13, g_14, g_15, g_16, g_17, g_18, g_19, g_20, g_21, g_22, g_23⟩ := g
    simp only [setD_mk, sL_w_mk, sL_isKept_mk, sL_text_mk, sL_texted_mk, sL_refused_mk, sL_above_mk, sL_below_mk, sL_at_mk, sL_start_mk, sL_isWord_mk, sL_isFigures_mk, sL_value_mk, sL_comers_mk, sL_shouted_mk, sL_gets_mk, sL_isServed_mk, sL_goes_mk, sL_takings_mk, sL_theirTakings_mk, sL_left_mk, sL_aside_mk, sL_own_mk, sL_other_mk, sL_h_mk, pL_w, pL_isKept, pL_text, pL_texted, pL_refused, pL_above, pL_below, pL_at, pL_start, pL_isWord, pL_isFigures, pL_value, pL_comers, pL_shouted, pL_gets, pL_isServed, pL_goes, pL_takings, pL_theirTakings, pL_left, pL_aside, pL_own, pL_other, pL_h, nar0, z_upd]
  · unfold f_X11_tries_s27
    exact if_pos (show (8 : Int32) ≤ nI 8 from by decide)
theorem comers_w (w : LSt) (x : Int32) : pL_w (sL_comers w x) = pL_w w := by
  obtain ⟨w_0, w_1, w_2, w_3, w_4, w_5, w_6, w_7, w_8, w_9, w_10, w_11, w_12, w_13, w_14, w_15, w_16, w_17, w_18, w_19, w_20, w_21, w_22, w_23⟩ := w
  simp only [sL_w_mk, sL_isKept_mk, sL_text_mk, sL_texted_mk, sL_refused_mk, sL_above_mk, sL_below_mk, sL_at_mk, sL_start_mk, sL_isWord_mk, sL_isFigures_mk, sL_value_mk, sL_comers_mk, sL_shouted_mk, sL_gets_mk, sL_isServed_mk, sL_goes_mk, sL_takings_mk, sL_theirTakings_mk, sL_left_mk, sL_aside_mk, sL_own_mk, sL_other_mk, sL_h_mk, pL_w, pL_isKept, pL_text, pL_texted, pL_refused, pL_above, pL_below, pL_at, pL_start, pL_isWord, pL_isFigures, pL_value, pL_comers, pL_shouted, pL_gets, pL_isServed, pL_goes, pL_takings, pL_theirTakings, pL_left, pL_aside, pL_own, pL_other, pL_h]
theorem comers_c (w : LSt) (x : Int32) : pL_comers (sL_comers w x) = x := by
  obtain ⟨w_0, w_1, w_2, w_3, w_4, w_5, w_6, w_7, w_8, w_9, w_10, w_11, w_12, w_13, w_14, w_15, w_16, w_17, w_18, w_19, w_20, w_21, w_22, w_23⟩ := w
  simp only [sL_w_mk, sL_isKept_mk, sL_text_mk, sL_texted_mk, sL_refused_mk, sL_above_mk, sL_below_mk, sL_at_mk, sL_start_mk, sL_isWord_mk, sL_isFigures_mk, sL_value_mk, sL_comers_mk, sL_shouted_mk, sL_gets_mk, sL_isServed_mk, sL_goes_mk, sL_takings_mk, sL_theirTakings_mk, sL_left_mk, sL_aside_mk, sL_own_mk, sL_other_mk, sL_h_mk, pL_w, pL_isKept, pL_text, pL_texted, pL_refused, pL_above, pL_below, pL_at, pL_start, pL_isWord, pL_isFigures, pL_value, pL_comers, pL_shouted, pL_gets, pL_isServed, pL_goes, pL_takings, pL_theirTakings, pL_left, pL_aside, pL_own, pL_other, pL_h]
theorem comers_s (w : LSt) (x : Int32) : pL_shouted (sL_comers w x) = pL_shouted w := by
  obtain ⟨w_0, w_1, w_2, w_3, w_4, w_5, w_6, w_7, w_8, w_9, w_10, w_11, w_12, w_13, w_14, w_15, w_16, w_17, w_18, w_19, w_20, w_21, w_22, w_23⟩ := w
  simp only [sL_w_mk, sL_isKept_mk, sL_text_mk, sL_texted_mk, sL_refused_mk, sL_above_mk, sL_below_mk, sL_at_mk, sL_start_mk, sL_isWord_mk, sL_isFigures_mk, sL_value_mk, sL_comers_mk, sL_shouted_mk, sL_gets_mk, sL_isServed_mk, sL_goes_mk, sL_takings_mk, sL_theirTakings_mk, sL_left_mk, sL_aside_mk, sL_own_mk, sL_other_mk, sL_h_mk, pL_w, pL_isKept, pL_text, pL_texted, pL_refused, pL_above, pL_below, pL_at, pL_start, pL_isWord, pL_isFigures, pL_value, pL_comers, pL_shouted, pL_gets, pL_isServed, pL_goes, pL_takings, pL_theirTakings, pL_left, pL_aside, pL_own, pL_other, pL_h]
theorem tries_spec {w : LSt} {v : VW} {who : Int32} (hv : VL (pL_w w) v) : f_X11_tries w who = some (setD (sL_comers w who) (triesM v (paySh v (pL_shouted w)) who (x0D v (pL_goes w) (pL_gets w) (pL_isServed w)))) := by
  have h0 := hv.2.2.2.1
  have hg : ∃ g, g = sL_comers w who := ⟨_, rfl⟩
  obtain ⟨g, hg⟩ := hg
  have hv2 : VL (pL_w g) v := by rw [hg, comers_w]; exact hv
  have hc : pL_comers g = who := by rw [hg, comers_c]
  have hs : pL_shouted w = pL_shouted g := by rw [hg, comers_s]
  have ho := tries_out hv2 hc (x0D v (pL_goes w) (pL_gets w) (pL_isServed w))
  rw [hs, ← hg, ← ho]
  clear ho
  have e2 : sL_left (sL_theirTakings (sL_takings g 0) 0) (vU v) = setD g (vU v, 0, 0, pL_goes w, pL_gets w, pL_isServed w) := by
    rw [hg]
    obtain ⟨w_0, w_1, w_2, w_3, w_4, w_5, w_6, w_7, w_8, w_9, w_10, w_11, w_12, w_13, w_14, w_15, w_16, w_17, w_18, w_19, w_20, w_21, w_22, w_23⟩ := w
    simp only [setD_mk, sL_w_mk, sL_isKept_mk, sL_text_mk, sL_texted_mk, sL_refused_mk, sL_above_mk, sL_below_mk, sL_at_mk, sL_start_mk, sL_isWord_mk, sL_isFigures_mk, sL_value_mk, sL_comers_mk, sL_shouted_mk, sL_gets_mk, sL_isServed_mk, sL_goes_mk, sL_takings_mk, sL_theirTakings_mk, sL_left_mk, sL_aside_mk, sL_own_mk, sL_other_mk, sL_h_mk, pL_w, pL_isKept, pL_text, pL_texted, pL_refused, pL_above, pL_below, pL_at, pL_start, pL_isWord, pL_isFigures, pL_value, pL_comers, pL_shouted, pL_gets, pL_isServed, pL_goes, pL_takings, pL_theirTakings, pL_left, pL_aside, pL_own, pL_other, pL_h]
  unfold f_X11_tries
  simp only [← hg, lt_eq]
  have hw0 : pL_w (sL_theirTakings (sL_takings g 0) 0) (0 : Int32).toNatClampNeg = vU v := by
    rw [hg, show (0 : Int32).toNatClampNeg = 0 from rfl, ← h0]
    obtain ⟨w_0, w_1, w_2, w_3, w_4, w_5, w_6, w_7, w_8, w_9, w_10, w_11, w_12, w_13, w_14, w_15, w_16, w_17, w_18, w_19, w_20, w_21, w_22, w_23⟩ := w
    simp only [sL_w_mk, sL_isKept_mk, sL_text_mk, sL_texted_mk, sL_refused_mk, sL_above_mk, sL_below_mk, sL_at_mk, sL_start_mk, sL_isWord_mk, sL_isFigures_mk, sL_value_mk, sL_comers_mk, sL_shouted_mk, sL_gets_mk, sL_isServed_mk, sL_goes_mk, sL_takings_mk, sL_theirTakings_mk, sL_left_mk, sL_aside_mk, sL_own_mk, sL_other_mk, sL_h_mk, pL_w, pL_isKept, pL_text, pL_texted, pL_refused, pL_above, pL_below, pL_at, pL_start, pL_isWord, pL_isFigures, pL_value, pL_comers, pL_shouted, pL_gets, pL_isServed, pL_goes, pL_takings, pL_theirTakings, pL_left, pL_aside, pL_own, pL_other, pL_h]
  rw [if_pos (show inb (0 : Int32) 608 from by decide), hw0, e2, tries_init, x0D]
