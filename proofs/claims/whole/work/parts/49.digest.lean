-- ===== digest =====
def fo (F : Nat → Int64) : Nat → Int64 → Int64
  | 0, h => h
  | n + 1, h => 31 * fo F n h + F n
theorem fo_add (F : Nat → Int64) (m : Nat) (h : Int64) : ∀ n, fo F (m + n) h = fo (fun k => F (m + k)) n (fo F m h)
  | 0 => rfl
  | n + 1 => by
    show 31 * fo F (m + n) h + F (m + n) = 31 * fo (fun k => F (m + k)) n (fo F m h) + F (m + n)
    rw [fo_add F m h n]
theorem fo_congr {F G : Nat → Int64} (h : Int64) : ∀ n, (∀ k, k < n → F k = G k) → fo F n h = fo G n h
  | 0, _ => rfl
  | n + 1, hk => by
    show 31 * fo F n h + F n = 31 * fo G n h + G n
    rw [fo_congr h n (fun k q => hk k (by omega)), hk n (by omega)]
theorem hW (w : LSt) (x : Int64) : pL_w (sL_h w x) = pL_w w ∧ pL_h (sL_h w x) = x ∧ pL_above (sL_h w x) = pL_above w ∧ pL_below (sL_h w x) = pL_below w := by
  obtain ⟨w_0, w_1, w_2, w_3, w_4, w_5, w_6, w_7, w_8, w_9, w_10, w_11, w_12, w_13, w_14, w_15, w_16, w_17, w_18, w_19, w_20, w_21, w_22, w_23⟩ := w
  simp only [sL_w_mk, sL_isKept_mk, sL_text_mk, sL_texted_mk, sL_refused_mk, sL_above_mk, sL_below_mk, sL_at_mk, sL_start_mk, sL_isWord_mk, sL_isFigures_mk, sL_value_mk, sL_comers_mk, sL_shouted_mk, sL_gets_mk, sL_isServed_mk, sL_goes_mk, sL_takings_mk, sL_theirTakings_mk, sL_left_mk, sL_aside_mk, sL_own_mk, sL_other_mk, sL_h_mk, pL_w, pL_isKept, pL_text, pL_texted, pL_refused, pL_above, pL_below, pL_at, pL_start, pL_isWord, pL_isFigures, pL_value, pL_comers, pL_shouted, pL_gets, pL_isServed, pL_goes, pL_takings, pL_theirTakings, pL_left, pL_aside, pL_own, pL_other, pL_h]
  exact ⟨trivial, trivial, trivial, trivial⟩
theorem hHH (w : LSt) (x y : Int64) : sL_h (sL_h w x) y = sL_h w y := by
  obtain ⟨w_0, w_1, w_2, w_3, w_4, w_5, w_6, w_7, w_8, w_9, w_10, w_11, w_12, w_13, w_14, w_15, w_16, w_17, w_18, w_19, w_20, w_21, w_22, w_23⟩ := w
  simp only [sL_w_mk, sL_isKept_mk, sL_text_mk, sL_texted_mk, sL_refused_mk, sL_above_mk, sL_below_mk, sL_at_mk, sL_start_mk, sL_isWord_mk, sL_isFigures_mk, sL_value_mk, sL_comers_mk, sL_shouted_mk, sL_gets_mk, sL_isServed_mk, sL_goes_mk, sL_takings_mk, sL_theirTakings_mk, sL_left_mk, sL_aside_mk, sL_own_mk, sL_other_mk, sL_h_mk, pL_w, pL_isKept, pL_text, pL_texted, pL_refused, pL_above, pL_below, pL_at, pL_start, pL_isWord, pL_isFigures, pL_value, pL_comers, pL_shouted, pL_gets, pL_isServed, pL_goes, pL_takings, pL_theirTakings, pL_left, pL_aside, pL_own, pL_other, pL_h]
theorem mix_L (w : LSt) (x y : Int64) : f_X11_mix (sL_h w x) y = some (sL_h w (31 * x + y)) := by
  unfold f_X11_mix
  rw [lt_eq, hHH, (hW w x).2.1]
def cF (w : LSt) (k : Nat) : Int64 := ((f_X11_countOf w (nI k)).getD 0).toInt64
def bF (f : Nat → Int32) (k : Nat) : Int64 := (f (28 + 8 * (k % 4) + k / 4)).toInt64
def sF (f : Nat → Int32) (k : Nat) : Int64 := if k % 2 = 0 then (f (60 + k / 2)).toInt64 else (f (66 + k / 2)).toInt64
def digN (w : LSt) (n s : Nat) : Int64 := 31 * (31 * fo (sF (pL_w w)) (2 * s) (fo (bF (pL_w w)) (4 * n) (31 * fo (fun k => (pL_w w (8 + k)).toInt64) 20 (fo (cF w) 8 967) + (pL_w w 2).toInt64)) + pL_above w) + pL_below w
theorem digest_L {c : CSt} {w : LSt} {v : VW} {s p : Nat} (hR : Rel c w) (hN : RM (c_m0 c) (pL_w w) v s p) : f_X11_digest w = some (digN w (vN v) s, sL_h w (digN w (vN v) s)) := by
  have h3 : pL_w w 3 = nI (vN v) := hN.2.1.2.2.2.2.1
  have h8 := hN.2.1.2.2.2.2.2.1
  have b4 : pL_w w 6 = nI s := hN.2.2.2.2.2.2.1
  have b5 : s ≤ 6 := hN.2.2.2.2.2.2.2.1
  have j167 : ∀ x, f_X11_digest_j167 (sL_h w x) = some (31 * (31 * x + pL_above w) + pL_below w, sL_h w (31 * (31 * x + pL_above w) + pL_below w)) := by
    intro x
    unfold f_X11_digest_j167
    rw [(hW w x).2.2.1, mix_L, Option.bind_some, (hW w _).2.2.2, mix_L, Option.bind_some, (hW w _).2.1]
  have j120 : ∀ x, f_X11_digest_j120 (sL_h w x) = f_X11_digest_j167 (sL_h w (fo (sF (pL_w w)) (2 * s) x)) := by
    intro x
    unfold f_X11_digest_j120
    refine lp_run1 (step := f_X11_digest_s122) (fun k => (nI k, sL_h w (fo (sF (pL_w w)) (2 * k) x))) s (by omega) rfl (fun k K hk => ?_) (fun K => ?_)
    · have i60 : (60 : Int32) + nI k = nI (60 + k) := nI_add 60 k
      have i66 : (66 : Int32) + nI k = nI (66 + k) := nI_add 66 k
      have q60 : inb (nI (60 + k)) 608 := (inb_nI (by omega)).mpr (by omega)
      have q66 : inb (nI (66 + k)) 608 := (inb_nI (by omega)).mpr (by omega)
      have c60 : (nI (60 + k)).toNatClampNeg = 60 + k := cl_nI (by omega)
      have c66 : (nI (66 + k)).toNatClampNeg = 66 + k := cl_nI (by omega)
      have nk : ¬ nI s ≤ nI k := by
        rw [le_nI (by omega) (by omega)]
        omega
      have ef : fo (sF (pL_w w)) (2 * (k + 1)) x = 31 * (31 * fo (sF (pL_w w)) (2 * k) x + (pL_w w (60 + k)).toInt64) + (pL_w w (66 + k)).toInt64 := by
        show 31 * (31 * fo (sF (pL_w w)) (2 * k) x + sF (pL_w w) (2 * k)) + sF (pL_w w) (2 * k + 1) = _
        unfold sF
        rw [if_pos (by omega), if_neg (by omega), show 2 * k / 2 = k from by omega, show (2 * k + 1) / 2 = k from by omega]
      unfold f_X11_digest_s122
      dsimp only
      rw [if_pos (by decide), show (6 : Int32).toNatClampNeg = 6 from rfl, (hW w _).1, b4, if_neg nk, i60, i66, if_pos q60, c60, mix_L, Option.bind_some, if_pos q66, c66, (hW w _).1, mix_L, Option.bind_some, nI_1, ef]
    · unfold f_X11_digest_s122
      dsimp only
      rw [if_pos (by decide), show (6 : Int32).toNatClampNeg = 6 from rfl, (hW w _).1, b4, if_pos (Int32.le_refl _)]
  have j72 : ∀ x, lp (f_X11_digest_s72) 1000 ((0 : Int32), sL_h w x) = f_X11_digest_j120 (sL_h w (fo (bF (pL_w w)) (4 * vN v) x)) := by
    intro x
    refine lp_run1 (step := f_X11_digest_s72) (fun k => (nI k, sL_h w (fo (bF (pL_w w)) (4 * k) x))) (vN v) (by omega) rfl (fun k K hk => ?_) (fun K => ?_)
    · have nk : ¬ nI (vN v) ≤ nI k := by
        rw [le_nI (by omega) (by omega)]
        omega
      unfold f_X11_digest_s72
      dsimp only
      rw [if_pos (by decide), show (3 : Int32).toNatClampNeg = 3 from rfl, (hW w _).1, h3, if_neg nk]
      refine lp_run1 (step := f_X11_digest_s84 K) (fun m => (nI k, nI m, sL_h w (fo (bF (pL_w w)) (4 * k + m) x))) 4 (by omega) rfl (fun m J hm => ?_) (fun J => ?_)
      · have i28 : (28 : Int32) + (8 : Int32) * nI m + nI k = nI (28 + 8 * m + k) := by rw [i_28, i_8, nI_mul, nI_add, nI_add]
        have q28 : inb (nI (28 + 8 * m + k)) 608 := (inb_nI (by omega)).mpr (by omega)
        have c28 : (nI (28 + 8 * m + k)).toNatClampNeg = 28 + 8 * m + k := cl_nI (by omega)
        have nm : ¬ (4 : Int32) ≤ nI m := by
          rw [i_4, le_nI (by omega) (by omega)]
          omega
        have ef : fo (bF (pL_w w)) (4 * k + (m + 1)) x = 31 * fo (bF (pL_w w)) (4 * k + m) x + (pL_w w (28 + 8 * m + k)).toInt64 := by
          show 31 * fo (bF (pL_w w)) (4 * k + m) x + bF (pL_w w) (4 * k + m) = _
          unfold bF
          rw [show (4 * k + m) % 4 = m from by omega, show (4 * k + m) / 4 = k from by omega]
        unfold f_X11_digest_s84
        dsimp only
        rw [if_neg nm, i28, if_pos q28, c28, (hW w _).1, mix_L, Option.bind_some, nI_1, ef]
      · unfold f_X11_digest_s84 f_X11_digest_j114
        dsimp only
        rw [if_pos (by decide), nI_1]
        rfl
    · unfold f_X11_digest_s72
      dsimp only
      rw [if_pos (by decide), show (3 : Int32).toNatClampNeg = 3 from rfl, (hW w _).1, h3, if_pos (Int32.le_refl _)]
  have j31 : ∀ x, f_X11_digest_j31 (sL_h w x) = f_X11_digest_j59 (sL_h w (fo (fun k => (pL_w w (8 + k)).toInt64) 20 x)) := by
    intro x
    unfold f_X11_digest_j31
    refine lp_run1 (step := f_X11_digest_s33) (fun k => (nI k, sL_h w (fo (fun k => (pL_w w (8 + k)).toInt64) k x))) 20 (by omega) rfl (fun k K hk => ?_) (fun K => ?_)
    · have i8 : (8 : Int32) + nI k = nI (8 + k) := nI_add 8 k
      have q8 : inb (nI (8 + k)) 608 := (inb_nI (by omega)).mpr (by omega)
      have c8 : (nI (8 + k)).toNatClampNeg = 8 + k := cl_nI (by omega)
      have nk : ¬ (20 : Int32) ≤ nI k := by
        rw [i_20, le_nI (by omega) (by omega)]
        omega
      unfold f_X11_digest_s33
      dsimp only
      rw [if_neg nk, i8, if_pos q8, c8, (hW w _).1, mix_L, Option.bind_some, nI_1]
      rfl
    · unfold f_X11_digest_s33
      exact if_pos (show (20 : Int32) ≤ nI 20 from by decide)
  have e0 : ∀ X, lp (f_X11_digest_s9) 1000 ((0 : Int32), sL_h w 967) = X → f_X11_digest w = X := by
    intro X hX
    unfold f_X11_digest
    rw [lt_eq]
    exact hX
  refine e0 _ ?_
  have e1 : some (digN w (vN v) s, sL_h w (digN w (vN v) s)) = f_X11_digest_j31 (sL_h w (fo (cF w) 8 967)) := by
    rw [j31]
    unfold f_X11_digest_j59
    rw [if_pos (by decide), show (2 : Int32).toNatClampNeg = 2 from rfl, (hW w _).1, mix_L, Option.bind_some, j72, j120, j167]
    rfl
  rw [e1]
  refine lp_run1 (step := f_X11_digest_s9) (fun k => (nI k, sL_h w (fo (cF w) k 967))) 8 (by omega) rfl (fun k K hk => ?_) (fun K => ?_)
  · have nk : ¬ (8 : Int32) ≤ nI k := by
      rw [i_8, le_nI (by omega) (by omega)]
      omega
    obtain ⟨x, -, h2⟩ := howMany_eq (rel_h hR (fo (cF w) k 967)) hk
    obtain ⟨x', -, h2'⟩ := howMany_eq hR hk
    have ex : x = x' := by
      have e : f_X11_countOf (sL_h w (fo (cF w) k 967)) (nI k) = f_X11_countOf w (nI k) := by
        unfold f_X11_countOf
        obtain ⟨w_0, w_1, w_2, w_3, w_4, w_5, w_6, w_7, w_8, w_9, w_10, w_11, w_12, w_13, w_14, w_15, w_16, w_17, w_18, w_19, w_20, w_21, w_22, w_23⟩ := w
        simp only [sL_w_mk, sL_isKept_mk, sL_text_mk, sL_texted_mk, sL_refused_mk, sL_above_mk, sL_below_mk, sL_at_mk, sL_start_mk, sL_isWord_mk, sL_isFigures_mk, sL_value_mk, sL_comers_mk, sL_shouted_mk, sL_gets_mk, sL_isServed_mk, sL_goes_mk, sL_takings_mk, sL_theirTakings_mk, sL_left_mk, sL_aside_mk, sL_own_mk, sL_other_mk, sL_h_mk, pL_w, pL_isKept, pL_text, pL_texted, pL_refused, pL_above, pL_below, pL_at, pL_start, pL_isWord, pL_isFigures, pL_value, pL_comers, pL_shouted, pL_gets, pL_isServed, pL_goes, pL_takings, pL_theirTakings, pL_left, pL_aside, pL_own, pL_other, pL_h]
      rw [h2, h2'] at e
      exact Option.some.inj e
    have ef : fo (cF w) (k + 1) 967 = 31 * fo (cF w) k 967 + x.toInt64 := by
      show 31 * fo (cF w) k 967 + cF w k = _
      unfold cF
      rw [h2', ex]
      rfl
    unfold f_X11_digest_s9
    dsimp only
    rw [if_neg nk, h2, Option.bind_some, mix_L, Option.bind_some, nI_1, ef]
  · unfold f_X11_digest_s9
    exact if_pos (show (8 : Int32) ≤ nI 8 from by decide)
theorem digest_C {c : CSt} {w : LSt} {v : VW} {s p : Nat} (hR : Rel c w) (hN : RM (c_m0 c) (pL_w w) v s p) : f_X10_digest c = some (digN w (vN v) s) := by
  have h3 : pM_size (c_m0 c) = nI (vN v) := hN.1.2.2.2.2.1
  have h8 := hN.2.1.2.2.2.2.2.1
  have b3 : pM_soldSize (c_m0 c) = nI s := hN.2.2.2.2.2.1
  have b5 : s ≤ 6 := hN.2.2.2.2.2.2.2.1
  have b9 := hN.2.2.2.2.2.2.2.2.2.2.2.1
  have ha : pH_above (c_h c) = pL_above w := hR.2.2.2.1
  have hb : pH_below (c_h c) = pL_below w := hR.2.2.2.2.1
  have j199 : ∀ x, f_X10_digest_j199 c x = f_X10_digest_j258 c (fo (sF (pL_w w)) (2 * s) x) := by
    intro x
    unfold f_X10_digest_j199
    refine lp_run1 (step := f_X10_digest_s201 c) (fun k => (fo (sF (pL_w w)) (2 * k) x, nI k)) s (by omega) rfl (fun k K hk => ?_) (fun K => ?_)
    · obtain ⟨o, o1, o2, o3, o4⟩ := b9 k hk
      have nk : ¬ nI s ≤ nI k := by
        rw [le_nI (by omega) (by omega)]
        omega
      have nk6 : ¬ (6 : Int32) ≤ nI k := by
        rw [i_6, le_nI (by omega) (by omega)]
        omega
      have q6 : inb (nI k) 6 := (inb_nI (by omega)).mpr (by omega)
      have ck : (nI k).toNatClampNeg = k := cl_nI (by omega)
      have ef : fo (sF (pL_w w)) (2 * (k + 1)) x = 31 * (31 * fo (sF (pL_w w)) (2 * k) x + (pL_w w (60 + k)).toInt64) + (pL_w w (66 + k)).toInt64 := by
        show 31 * (31 * fo (sF (pL_w w)) (2 * k) x + sF (pL_w w) (2 * k)) + sF (pL_w w) (2 * k + 1) = _
        unfold sF
        rw [if_pos (by omega), if_neg (by omega), show 2 * k / 2 = k from by omega, show (2 * k + 1) / 2 = k from by omega]
      unfold f_X10_digest_s201
      dsimp only
      rw [b3, if_neg nk, if_neg nk6, if_pos q6, lt_eq, if_pos q6, lt_eq, ck, nI_1, ef, o2, o3, o4]
    · unfold f_X10_digest_s201
      dsimp only
      rw [b3, if_pos (Int32.le_refl _)]
  have j91 : ∀ x, f_X10_digest_j91 c x = f_X10_digest_j199 c (fo (bF (pL_w w)) (4 * vN v) (31 * x + (pL_w w 2).toInt64)) := by
    intro x
    unfold f_X10_digest_j91
    rw [lt_eq, show pM_rainHours (c_m0 c) = pL_w w 2 from hN.1.2.1.trans hN.2.1.2.1.symm]
    refine lp_run1 (step := f_X10_digest_s108 c) (fun k => (fo (bF (pL_w w)) (4 * k) (31 * x + (pL_w w 2).toInt64), nI k)) (vN v) (by omega) rfl (fun k K hk => ?_) (fun K => ?_)
    · obtain ⟨g1, -, g3, -, g5, g6⟩ := hN.1.2.2.2.2.2.2 k hk
      obtain ⟨l1, -, l3, -, l5, l6⟩ := hN.2.1.2.2.2.2.2.2 k hk
      have nk : ¬ nI (vN v) ≤ nI k := by
        rw [le_nI (by omega) (by omega)]
        omega
      have nk8 : ¬ (8 : Int32) ≤ nI k := by
        rw [i_8, le_nI (by omega) (by omega)]
        omega
      have q8 : inb (nI k) 8 := (inb_nI (by omega)).mpr (by omega)
      have ck : (nI k).toNatClampNeg = k := cl_nI (by omega)
      have ef : ∀ y, fo (bF (pL_w w)) (4 * (k + 1)) y = 31 * (31 * (31 * (31 * fo (bF (pL_w w)) (4 * k) y + (pL_w w (28 + k)).toInt64) + (pL_w w (36 + k)).toInt64) + (pL_w w (44 + k)).toInt64) + (pL_w w (52 + k)).toInt64 := by
        intro y
        show 31 * (31 * (31 * (31 * fo (bF (pL_w w)) (4 * k) y + bF (pL_w w) (4 * k)) + bF (pL_w w) (4 * k + 1)) + bF (pL_w w) (4 * k + 2)) + bF (pL_w w) (4 * k + 3) = _
        unfold bF
        rw [show 28 + 8 * (4 * k % 4) + 4 * k / 4 = 28 + k from by omega, show 28 + 8 * ((4 * k + 1) % 4) + (4 * k + 1) / 4 = 36 + k from by omega, show 28 + 8 * ((4 * k + 2) % 4) + (4 * k + 2) / 4 = 44 + k from by omega, show 28 + 8 * ((4 * k + 3) % 4) + (4 * k + 3) / 4 = 52 + k from by omega]
      unfold f_X10_digest_s108
      dsimp only
      rw [h3, if_neg nk, if_neg nk8, if_pos q8, lt_eq, if_pos q8, lt_eq, if_pos q8, lt_eq, if_pos q8, lt_eq, ck, nI_1, ef, g1, g3, g5, g6, l1, l3, l5, l6]
    · unfold f_X10_digest_s108
      dsimp only
      rw [h3, if_pos (Int32.le_refl _)]
  have j61 : ∀ x, f_X10_digest_j61 c x = f_X10_digest_j91 c (fo (fun k => (pL_w w (18 + k)).toInt64) 10 x) := by
    intro x
    unfold f_X10_digest_j61
    refine lp_run1 (step := f_X10_digest_s63 c) (fun k => (fo (fun k => (pL_w w (18 + k)).toInt64) k x, nI k)) 10 (by omega) rfl (fun k K hk => ?_) (fun K => ?_)
    · have nk : ¬ (10 : Int32) ≤ nI k := by
        rw [i_10, le_nI (by omega) (by omega)]
        omega
      unfold f_X10_digest_s63
      dsimp only
      rw [if_neg nk, theirIn_spec hk, Option.bind_some, lt_eq, nI_1, (pr_eq hN k hk).2]
      rfl
    · unfold f_X10_digest_s63
      exact if_pos (show (10 : Int32) ≤ nI 10 from by decide)
  have j31 : ∀ x, f_X10_digest_j31 c x = f_X10_digest_j61 c (fo (fun k => (pL_w w (8 + k)).toInt64) 10 x) := by
    intro x
    unfold f_X10_digest_j31
    refine lp_run1 (step := f_X10_digest_s33 c) (fun k => (fo (fun k => (pL_w w (8 + k)).toInt64) k x, nI k)) 10 (by omega) rfl (fun k K hk => ?_) (fun K => ?_)
    · have nk : ¬ (10 : Int32) ≤ nI k := by
        rw [i_10, le_nI (by omega) (by omega)]
        omega
      unfold f_X10_digest_s33
      dsimp only
      rw [if_neg nk, priceIn_spec hk, Option.bind_some, lt_eq, nI_1, (pr_eq hN k hk).1]
      rfl
    · unfold f_X10_digest_s33
      exact if_pos (show (10 : Int32) ≤ nI 10 from by decide)
  have e20 : ∀ x, fo (fun k => (pL_w w (8 + k)).toInt64) 20 x = fo (fun k => (pL_w w (18 + k)).toInt64) 10 (fo (fun k => (pL_w w (8 + k)).toInt64) 10 x) := by
    intro x
    have h := fo_add (fun k => (pL_w w (8 + k)).toInt64) 10 x 10
    rw [fo_congr (F := fun k => (pL_w w (8 + (10 + k))).toInt64) (G := fun k => (pL_w w (18 + k)).toInt64) _ 10 (fun k _ => by rw [show 8 + (10 + k) = 18 + k from by omega])] at h
    exact h
  have e1 : some (digN w (vN v) s) = f_X10_digest_j31 c (fo (cF w) 8 967) := by
    rw [j31, j61, j91, j199, ← e20]
    unfold f_X10_digest_j258
    rw [lt_eq, ha, hb]
    rfl
  rw [e1]
  unfold f_X10_digest
  refine lp_run1 (step := f_X10_digest_s6 c) (fun k => (fo (cF w) k 967, nI k)) 8 (by omega) rfl (fun k K hk => ?_) (fun K => ?_)
  · have nk : ¬ (7 : Int32) < nI k := by
      rw [i_7, lt_nI (by omega) (by omega)]
      omega
    obtain ⟨x, h1, h2⟩ := howMany_eq hR hk
    have ef : fo (cF w) (k + 1) 967 = 31 * fo (cF w) k 967 + x.toInt64 := by
      show 31 * fo (cF w) k 967 + cF w k = _
      unfold cF
      rw [h2]
      rfl
    unfold f_X10_digest_s6
    dsimp only
    rw [if_neg nk, h1, Option.bind_some, lt_eq, nI_1, ef]
  · unfold f_X10_digest_s6
    exact if_pos (show (7 : Int32) < nI 8 from by decide)
theorem s_digest : sim_digest Rel := by
  intro c w hR
  obtain ⟨v, s, p, hN⟩ := rel_now hR
  exact ⟨_, _, digest_C hR hN, digest_L hR hN, rfl, rel_h hR _⟩
