-- ===== mean =====
theorem rem64 (x y : Int64) : x - x / y * y = x % y := by
  refine Int64.toInt_inj.mp ?_
  have h : (x.toInt.tmod y.toInt).bmod (2 ^ 64) = x.toInt.tmod y.toInt := by
    rw [← Int64.toInt_mod]
    exact Int64.toInt_bmod _
  rw [Int64.toInt_mod, Int64.toInt_sub, Int64.toInt_mul, Int64.toInt_div, Int.sub_bmod_bmod, Int.sub_bmod, Int.bmod_mul_bmod, ← Int.sub_bmod, ← h, Int.tmod_def, Int.mul_comm]
theorem bd64 {z : Int} (h1 : -9223372036854775808 ≤ z) (h2 : z < 9223372036854775808) : z.bmod (2 ^ 64) = z := Int.bmod_eq_of_le (by omega) (by omega)
def pw (a : Int64) : Nat → Int64
  | 0 => 1
  | m + 1 => pw a m * a
def wt (A B : Int64) (k : Nat) : Nat → Int64
  | 0 => 1
  | b + 1 => wt A B k b * (if bitB (nI k) b = true then A else B)
def cntN (k : Nat) : Nat → Nat
  | 0 => 0
  | b + 1 => cntN k b + (if bitB (nI k) b = true then 1 else 0)
theorem cntN_le (k : Nat) : ∀ b, cntN k b ≤ b
  | 0 => Nat.le_refl 0
  | b + 1 => by
    have := cntN_le k b
    show cntN k b + (if bitB (nI k) b = true then 1 else 0) ≤ b + 1
    split <;> omega
theorem wt_pw (A B : Int64) (k : Nat) : ∀ b, wt A B k b = pw A (cntN k b) * pw B (b - cntN k b)
  | 0 => rfl
  | b + 1 => by
    have hle := cntN_le k b
    show wt A B k b * (if bitB (nI k) b = true then A else B) = pw A (cntN k b + (if bitB (nI k) b = true then 1 else 0)) * pw B (b + 1 - (cntN k b + (if bitB (nI k) b = true then 1 else 0)))
    rw [wt_pw A B k b]
    by_cases c : bitB (nI k) b = true
    · rw [if_pos c, if_pos c, show b + 1 - (cntN k b + 1) = b - cntN k b from by omega]
      show pw A (cntN k b) * pw B (b - cntN k b) * A = pw A (cntN k b) * A * pw B (b - cntN k b)
      rw [Int64.mul_assoc, Int64.mul_comm (pw B (b - cntN k b)) A, ← Int64.mul_assoc]
    · rw [if_neg c, if_neg c, show b + 1 - (cntN k b + 0) = (b - cntN k b) + 1 from by omega]
      show pw A (cntN k b) * pw B (b - cntN k b) * B = pw A (cntN k b) * (pw B (b - cntN k b) * B)
      rw [Int64.mul_assoc]
theorem p10_le8 : ∀ b, b < 9 → (10 : Int) ^ b ≤ 100000000 := by decide +kernel
theorem p10_le : ∀ b, b < 8 → (10 : Int) ^ b ≤ 10000000 := by decide +kernel
theorem wt_bd {A B : Int64} (k : Nat) (a1 : 0 ≤ A.toInt) (a2 : A.toInt ≤ 10) (b1 : 0 ≤ B.toInt) (b2 : B.toInt ≤ 10) : ∀ b, b ≤ 8 → 0 ≤ (wt A B k b).toInt ∧ (wt A B k b).toInt ≤ 10 ^ b
  | 0, _ => ⟨by show 0 ≤ (1 : Int64).toInt; decide, by show (1 : Int64).toInt ≤ 1; decide⟩
  | b + 1, hb => by
    obtain ⟨h1, h2⟩ := wt_bd k a1 a2 b1 b2 b (by omega)
    have hp := p10_le b (by omega)
    have hf : 0 ≤ (if bitB (nI k) b = true then A else B).toInt ∧ (if bitB (nI k) b = true then A else B).toInt ≤ 10 := by
      split
      · exact ⟨a1, a2⟩
      · exact ⟨b1, b2⟩
    obtain ⟨m1, m2⟩ := mul_bd h1 h2 hf.1 hf.2
    have e : (wt A B k (b + 1)).toInt = (wt A B k b).toInt * (if bitB (nI k) b = true then A else B).toInt := by
      show (wt A B k b * (if bitB (nI k) b = true then A else B)).toInt = _
      rw [Int64.toInt_mul]
      exact bd64 (by omega) (by omega)
    rw [e]
    exact ⟨m1, by rw [Int.pow_succ]; exact m2⟩
theorem bc_ok : ∀ n, n < 9 → ∀ k, k < 2 ^ n → f_J6_bitCount_0f7a4 (nI k) = some (nI (cntN k n)) := by decide +kernel
theorem sh_ok : ∀ n, n < 9 → (1 : Int32) <<< (nI n &&& 31) = nI (2 ^ n) := by decide +kernel
theorem p10_ok : ∀ n, n < 9 → (0 < (pw 10 n).toInt ∧ (pw 10 n).toInt.natAbs < 2 ^ 27) ∧ 2 ^ n ≤ 256 := by decide +kernel
theorem power_ok (a : Int32) {m : Nat} (hm : m < 100) : f_X10_power a (nI m) = some (pw a.toInt64 m) := by
  unfold f_X10_power
  refine lp_run1 (step := f_X10_power_s5 a (nI m)) (fun k => (pw a.toInt64 k, nI k)) m (by omega) rfl (fun k K hk => ?_) (fun K => ?_)
  · have nk : ¬ nI m ≤ nI k := by
      rw [le_nI (by omega) (by omega)]
      omega
    unfold f_X10_power_s5
    dsimp only
    rw [if_neg nk, nI_1]
    rfl
  · unfold f_X10_power_s5
    exact if_pos (Int32.le_refl _)
theorem euclid (a1 a2 : Int64) (w : LSt) : ∀ (m : Nat) (x y : Int64) (i n n' : Nat), 0 ≤ x.toInt → 0 ≤ y.toInt → (0 < x.toInt ∨ 0 < y.toInt) → y.toInt.natAbs < 2 ^ m → i + 2 * m ≤ 100 → 2 * m < n → 2 * m < n' → ∃ g, 0 < g.toInt ∧ lp (f_X10_commonDivisor_s3) n (x, y, nI i) = some g ∧ lp (f_X11_tells_s6 a1 a2) n' (x, y, w) = f_X11_tells_j31 a1 a2 g w := by
  have z64 : (0 : Int64).toInt = 0 := rfl
  have stop : ∀ (x y : Int64) (i n n' : Nat), y.toInt = 0 → 0 < x.toInt → 0 < n → 0 < n' → lp (f_X10_commonDivisor_s3) n (x, y, nI i) = some x ∧ lp (f_X11_tells_s6 a1 a2) n' (x, y, w) = f_X11_tells_j31 a1 a2 x w := by
    intro x y i n n' hy hx hn hn'
    obtain ⟨k, rfl⟩ : ∃ k, n = k + 1 := ⟨n - 1, by omega⟩
    obtain ⟨k', rfl⟩ : ∃ k, n' = k + 1 := ⟨n' - 1, by omega⟩
    have y0 : lg_cmp y 0 = 0 := lgc.2.2.1.mpr (Int64.toInt_inj.mp hy)
    rw [lp_succ, lp_succ]
    unfold f_X10_commonDivisor_s3 f_X11_tells_s6
    dsimp only
    rw [if_pos y0, if_pos y0, ite_self]
    exact ⟨rfl, rfl⟩
  have step : ∀ (x y : Int64) (i n n' : Nat), 0 < y.toInt → i < 100 → lp (f_X10_commonDivisor_s3) (n + 1) (x, y, nI i) = lp (f_X10_commonDivisor_s3) n (y, x % y, nI (i + 1)) ∧ lp (f_X11_tells_s6 a1 a2) (n' + 1) (x, y, w) = lp (f_X11_tells_s6 a1 a2) n' (y, x % y, w) := by
    intro x y i n n' hy hi
    have y1 : ¬ y = 0 := fun e => by rw [e] at hy; rw [z64] at hy; omega
    have y0 : ¬ lg_cmp y 0 = 0 := fun e => y1 (lgc.2.2.1.mp e)
    have ni : ¬ (100 : Int32) ≤ nI i := by
      rw [i_100, le_nI (by omega) (by omega)]
      omega
    rw [lp_succ, lp_succ]
    constructor
    · unfold f_X10_commonDivisor_s3
      dsimp only
      rw [if_neg ni, if_neg y0, if_neg y1, lt_eq, nI_1, rem64]
    · unfold f_X11_tells_s6
      dsimp only
      rw [if_neg y0, if_neg y1, lt_eq, rem64]
  have rem0 : ∀ (x y : Int64), 0 ≤ x.toInt → 0 ≤ (x % y).toInt ∧ (x % y).toInt.natAbs = x.toInt.natAbs % y.toInt.natAbs := by
    intro x y hx
    rw [Int64.toInt_mod]
    exact ⟨Int.tmod_nonneg _ hx, Int.natAbs_tmod _ _⟩
  intro m
  induction m with
  | zero =>
    intro x y i n n' hx hy hxy hm hi hn hn'
    have y0 : y.toInt = 0 := by
      rw [Nat.pow_zero] at hm
      omega
    have x0 : 0 < x.toInt := by omega
    obtain ⟨h1, h2⟩ := stop x y i n n' y0 x0 (by omega) (by omega)
    exact ⟨x, x0, h1, h2⟩
  | succ m ih =>
    intro x y i n n' hx hy hxy hm hi hn hn'
    by_cases y0 : y.toInt = 0
    · have x0 : 0 < x.toInt := by omega
      obtain ⟨h1, h2⟩ := stop x y i n n' y0 x0 (by omega) (by omega)
      exact ⟨x, x0, h1, h2⟩
    · obtain ⟨k, rfl⟩ : ∃ k, n = k + 1 + 1 := ⟨n - 2, by omega⟩
      obtain ⟨k', rfl⟩ : ∃ k, n' = k + 1 + 1 := ⟨n' - 2, by omega⟩
      obtain ⟨s1, s2⟩ := step x y i (k + 1) (k' + 1) (by omega) (by omega)
      obtain ⟨r1, r2⟩ := rem0 x y hx
      rw [s1, s2]
      by_cases r0 : (x % y).toInt = 0
      · obtain ⟨h1, h2⟩ := stop y (x % y) (i + 1) (k + 1) (k' + 1) r0 (by omega) (by omega) (by omega)
        exact ⟨y, by omega, h1, h2⟩
      · obtain ⟨s3, s4⟩ := step y (x % y) (i + 1) k k' (by omega) (by omega)
        obtain ⟨r3, r4⟩ := rem0 y (x % y) hy
        rw [s3, s4]
        refine ih (x % y) (y % (x % y)) (i + 1 + 1) k k' r1 r3 (Or.inl (by omega)) ?_ (by omega) (by omega) (by omega)
        have hlt : (x % y).toInt.natAbs < y.toInt.natAbs := by
          rw [r2]
          exact Nat.mod_lt _ (by omega)
        have h2 : y.toInt.natAbs % (x % y).toInt.natAbs < (x % y).toInt.natAbs := Nat.mod_lt _ (by omega)
        have h3 : y.toInt.natAbs % (x % y).toInt.natAbs ≤ y.toInt.natAbs - (x % y).toInt.natAbs := by
          rw [Nat.mod_eq_sub_mod (by omega)]
          exact Nat.mod_le _ _
        rw [r4]
        rw [Nat.pow_succ] at hm
        omega
theorem rel_ab {c : CSt} {w : LSt} (hR : Rel c w) (x y : Int64) : Rel (sc_h (sc_h c (sH_above (c_h c) x)) (sH_below (c_h (sc_h c (sH_above (c_h c) x))) y)) (sL_below (sL_above w x) y) := by
  obtain ⟨⟨h_0, h_1, h_2, h_3, h_4, h_5⟩, ⟨m0, m1, m2, m3⟩, d, s, r⟩ := c
  obtain ⟨w_0, w_1, w_2, w_3, w_4, w_5, w_6, w_7, w_8, w_9, w_10, w_11, w_12, w_13, w_14, w_15, w_16, w_17, w_18, w_19, w_20, w_21, w_22, w_23⟩ := w
  rw [rel_mk] at hR
  simp only [sc_h_mk, sc_m0_mk, sc_m1_mk, sc_m2_mk, sc_m3_mk, sc_d_mk, sc_s_mk, sc_r_mk, sc_k2_mk, sc_k3_mk, c_h, c_m0, c_m1, c_m2, c_m3, c_d, c_s, c_r, sH_kept_mk, sH_above_mk, sH_below_mk, sH_refusedBad_mk, sH_refusedNo_mk, sH_refusedFull_mk, pH_kept, pH_above, pH_below, pH_refusedBad, pH_refusedNo, pH_refusedFull, sL_w_mk, sL_isKept_mk, sL_text_mk, sL_texted_mk, sL_refused_mk, sL_above_mk, sL_below_mk, sL_at_mk, sL_start_mk, sL_isWord_mk, sL_isFigures_mk, sL_value_mk, sL_comers_mk, sL_shouted_mk, sL_gets_mk, sL_isServed_mk, sL_goes_mk, sL_takings_mk, sL_theirTakings_mk, sL_left_mk, sL_aside_mk, sL_own_mk, sL_other_mk, sL_h_mk, pL_w, pL_isKept, pL_text, pL_texted, pL_refused, pL_above, pL_below, pL_at, pL_start, pL_isWord, pL_isFigures, pL_value, pL_comers, pL_shouted, pL_gets, pL_isServed, pL_goes, pL_takings, pL_theirTakings, pL_left, pL_aside, pL_own, pL_other, pL_h, rel_mk]
  obtain ⟨e1, e2, e3, e4, e5, e6, e7, e8⟩ := hR
  exact ⟨e1, e2, e3, rfl, rfl, e6, e7, e8⟩
theorem wt_L {v : VW} {gw : LSt} (a1 : Int32) (K58 : (Int64 × Int64 × Int32 × LSt) → Option (Int32 × LSt)) (S D : Int64) (k : Nat) (h3 : pL_w gw 3 = nI (vN v)) (h8 : vN v ≤ 8) : lp (f_X11_mean_s77 a1 K58) 1000 (S, D, nI k, (1 : Int64), (0 : Int32), gw) = f_X11_mean_j119 a1 K58 S D (nI k) (wt a1.toInt64 ((10 : Int32) - a1).toInt64 k (vN v)) gw := by
  refine lp_run1 (step := f_X11_mean_s77 a1 K58) (fun b => (S, D, nI k, wt a1.toInt64 ((10 : Int32) - a1).toInt64 k b, nI b, gw)) (vN v) (by omega) rfl (fun b K hb => ?_) (fun K => ?_)
  · have nb : ¬ nI (vN v) ≤ nI b := by
      rw [le_nI (by omega) (by omega)]
      omega
    have ew : wt a1.toInt64 ((10 : Int32) - a1).toInt64 k (b + 1) = wt a1.toInt64 ((10 : Int32) - a1).toInt64 k b * (if bitB (nI k) b = true then a1.toInt64 else ((10 : Int32) - a1).toInt64) := rfl
    unfold f_X11_mean_s77 f_X11_mean_j110
    dsimp only
    rw [if_pos (by decide), show (3 : Int32).toNatClampNeg = 3 from rfl, h3, if_neg nb, has_spec, Option.bind_some, nI_1, ew]
    by_cases c : bitB (nI k) b = true
    · rw [if_pos c, if_pos c, if_neg one0]
    · rw [if_neg c, if_neg c, if_pos rfl]
  · unfold f_X11_mean_s77
    dsimp only
    rw [if_pos (by decide), show (3 : Int32).toNatClampNeg = 3 from rfl, h3, if_pos (Int32.le_refl _)]
theorem s_mean : sim_mean Rel := by
  intro c w hR a1
  rcases inR_dec a1.toInt 0 10 with h | h
  · obtain ⟨v, s, p, hN⟩ := rel_now hR
    have hn1 := hN.1.2.2.2.2.1
    have hn2 := hN.2.1.2.2.2.2.1
    have h8 := hN.1.2.2.2.2.2.1
    have hB := hN.2.2.1
    obtain ⟨d0, p1, p2⟩ := plan_spec (c_d c) hN.1
    obtain ⟨k1, k2, k3, k4, k5⟩ := kp_sh w (-1)
    have e1 : ∀ X, lp (f_X10_mean_s33 a1) 1000 ((0 : Int64), (0 : Int32), sc_d c d0) = X → f_X10_mean c a1 = X := by
      intro X hX
      unfold f_X10_mean
      rw [within_t h, Option.bind_some, if_neg one0, p1, Option.bind_some, lt_eq]
      exact hX
    have e2 : ∀ X, lp (f_X11_mean_s58 a1) 1000 ((0 : Int64), pw 10 (vN v), (0 : Int32), sL_shouted w (-1)) = X → f_X11_mean w a1 = X := by
      intro X hX
      unfold f_X11_mean
      rw [inI_t h, Option.bind_some, if_neg one0, lt_eq]
      have z2 : pL_w (sL_shouted w (-1)) 3 = nI (vN v) := by rw [k3]; exact hn2
      generalize sL_shouted w (-1) = g at hX z2 ⊢
      refine lp_run1 (step := f_X11_mean_s30 a1) (fun k => ((0 : Int64), pw 10 k, nI k, g)) (vN v) (by omega) rfl (fun k K hk => ?_) (fun K => ?_)
      · have nk : ¬ nI (vN v) ≤ nI k := by
          rw [le_nI (by omega) (by omega)]
          omega
        unfold f_X11_mean_s30
        dsimp only
        rw [if_pos (by decide), show (3 : Int32).toNatClampNeg = 3 from rfl, z2, if_neg nk, nI_1]
        rfl
      · unfold f_X11_mean_s30 f_X11_mean_j55
        dsimp only
        rw [if_pos (by decide), show (3 : Int32).toNatClampNeg = 3 from rfl, z2, if_pos (Int32.le_refl _)]
        exact hX
    have hA1 : 0 ≤ a1.toInt64.toInt ∧ a1.toInt64.toInt ≤ 10 := by
      rw [Int32.toInt_toInt64]
      exact h
    have hB1 : 0 ≤ ((10 : Int32) - a1).toInt64.toInt ∧ ((10 : Int32) - a1).toInt64.toInt ≤ 10 := by
      have t10 : (10 : Int32).toInt = 10 := rfl
      obtain ⟨q1, q2⟩ := h
      rw [Int32.toInt_toInt64, ti_sub (by rw [t10]; omega) (by rw [t10]; omega), t10]
      omega
    obtain ⟨⟨d1, d2⟩, d3⟩ := p10_ok (vN v) (by omega)
    have hP : (fun oc ol => ∃ (x : Int32 × CSt) (y : Int32 × LSt), oc = some x ∧ ol = some y ∧ x.1 = y.1 ∧ Rel x.2 y.2) (lp (f_X10_mean_s33 a1) 1000 ((0 : Int64), (0 : Int32), sc_d c d0)) (lp (f_X11_mean_s58 a1) 1000 ((0 : Int64), pw 10 (vN v), (0 : Int32), sL_shouted w (-1))) := ?_
    · obtain ⟨x, y, q1, q2, q3, q4⟩ := hP
      exact ⟨x, y, e1 _ q1, e2 _ q2, q3, q4⟩
    refine lp_two0 (sC := f_X10_mean_s33 a1) (sL := f_X11_mean_s58 a1) (fun k a b => ∃ S gc gw, a = (S, nI k, gc) ∧ b = (S, pw 10 (vN v), nI k, gw) ∧ TD c w gc gw v ∧ 0 ≤ S.toInt ∧ S.toInt ≤ 475200000000 * (k : Int)) (2 ^ vN v) (by omega) (P := fun oc ol => ∃ (x : Int32 × CSt) (y : Int32 × LSt), oc = some x ∧ ol = some y ∧ x.1 = y.1 ∧ Rel x.2 y.2) ?_ (fun k a b K K' hk hI => ?_) (fun a b K K' hI => ?_)
    · exact ⟨_, _, _, rfl, rfl, ⟨RC_d (fun _ h => h) d0, rfl, p2, k1, k3, k4⟩, by decide, by decide⟩
    · obtain ⟨S, gc, gw, rfl, rfl, ⟨t1, t2, t3, t4, t5, t6⟩, s1, s2⟩ := hI
      have z1 : pM_size (c_m0 gc) = nI (vN v) := by rw [t2]; exact hn1
      have z2 : pL_w gw 3 = nI (vN v) := by rw [t5]; exact hn2
      have hv1 : VC (c_m0 gc) v := by rw [t2]; exact hN.1
      obtain ⟨d', r1, r2, r3⟩ := walk_spec (nI k) hv1 hB t3
      obtain ⟨w', g1, g2, g3, g4, g5, g6⟩ := tr_who (nI k) (w := gw) (v := v) (by rw [t5]; exact hN.2.1) t6
      have iv := (day_iv (v := v) (pay := paysI v) (who := nI k) hB h8).1
      have nk1 : ¬ (255 : Int32) < nI k := by
        rw [i_255, lt_nI (by omega) (by omega)]
        omega
      have nk2 : ¬ (1 : Int32) <<< (nI (vN v) &&& 31) ≤ nI k := by
        rw [sh_ok _ (by omega), le_nI (by omega) (by omega)]
        omega
      have bc := bc_ok (vN v) (by omega) k hk
      have cle := cntN_le k (vN v)
      have eW := wt_pw a1.toInt64 ((10 : Int32) - a1).toInt64 k (vN v)
      obtain ⟨w1, w2⟩ := wt_bd k hA1.1 hA1.2 hB1.1 hB1.2 (vN v) h8
      have hp8 : (10 : Int) ^ vN v ≤ 100000000 := p10_le8 (vN v) (by omega)
      have eL : f_X11_mean_s58 a1 K' (S, pw 10 (vN v), nI k, gw) = K' (S + wt a1.toInt64 ((10 : Int32) - a1).toInt64 k (vN v) * (xT (dayN v (paysI v) (nI k))).toInt64, pw 10 (vN v), nI (k + 1), w') := by
        unfold f_X11_mean_s58
        dsimp only
        rw [if_pos (by decide), show (3 : Int32).toNatClampNeg = 3 from rfl, z2, if_neg nk2, wt_L (v := v) a1 K' S (pw 10 (vN v)) k z2 h8]
        unfold f_X11_mean_j119
        rw [g1, Option.bind_some, lt_eq, nI_1, g6.2.1]
      generalize hW : wt a1.toInt64 ((10 : Int32) - a1).toInt64 k (vN v) = W at eW w1 w2 eL
      have eC0 : ∀ Y, (if lg_cmp W 0 = 0 then K (S, nI (k + 1), gc) else K (S + W * (xT (dayN v (paysI v) (nI k))).toInt64, nI (k + 1), sc_d gc d')) = Y → f_X10_mean_s33 a1 K (S, nI k, gc) = Y := by
        intro Y hY
        unfold f_X10_mean_s33 f_X10_mean_j125
        dsimp only
        rw [if_neg nk1, z1, if_neg nk2, bc, Option.bind_some, power_ok a1 (by omega), Option.bind_some, nI_sub cle, power_ok _ (by omega), Option.bind_some, ← eW, r1, Option.bind_some, lt_eq, lt_eq, c_dd, nI_1, r3.2.1]
        exact hY
      have hTD : TD c w (sc_d gc d') w' v := ⟨RC_d t1 _, t2, r2, Kp_trans t4 g2, g4.trans t5, g5⟩
      have hTD0 : TD c w gc w' v := ⟨t1, t2, t3, Kp_trans t4 g2, g4.trans t5, g5⟩
      by_cases c0 : lg_cmp W 0 = 0
      · have W0 : W = 0 := lgc.2.2.1.mp c0
        rw [W0, Int64.zero_mul, Int64.add_zero] at eL
        exact ⟨_, _, ⟨S, gc, w', rfl, rfl, hTD0, s1, by omega⟩, eC0 _ (if_pos c0), eL⟩
      · refine ⟨_, _, ⟨_, sc_d gc d', w', rfl, rfl, hTD, ?_⟩, eC0 _ (if_neg c0), eL⟩
        obtain ⟨-, -, i3, i4, -, -⟩ := iv
        have et : (xT (dayN v (paysI v) (nI k))).toInt64.toInt = (xT (dayN v (paysI v) (nI k))).toInt := Int32.toInt_toInt64 _
        obtain ⟨m1, m2⟩ := mul_bd w1 (Int.le_trans w2 hp8) i3 i4
        have em : (W * (xT (dayN v (paysI v) (nI k))).toInt64).toInt = W.toInt * (xT (dayN v (paysI v) (nI k))).toInt := by
          rw [Int64.toInt_mul, et]
          exact bd64 (by omega) (by omega)
        have es : (S + W * (xT (dayN v (paysI v) (nI k))).toInt64).toInt = S.toInt + W.toInt * (xT (dayN v (paysI v) (nI k))).toInt := by
          rw [Int64.toInt_add, em]
          exact bd64 (by omega) (by omega)
        rw [es]
        omega
    · obtain ⟨S, gc, gw, rfl, rfl, ⟨t1, t2, t3, t4, t5, t6⟩, s1, s2⟩ := hI
      have z1 : pM_size (c_m0 gc) = nI (vN v) := by rw [t2]; exact hn1
      have z2 : pL_w gw 3 = nI (vN v) := by rw [t5]; exact hn2
      have hRg : Rel gc gw := t1 _ (rel_kp hR t4 (fun k _ => by rw [t5]))
      have e10 : (10 : Int32).toInt64 = 10 := rfl
      obtain ⟨g, q1, q2, q3⟩ := euclid S (pw 10 (vN v)) gw 27 S (pw 10 (vN v)) 0 1000 1000 s1 (by omega) (Or.inr d1) d2 (by omega) (by omega) (by omega)
      have g0 : ¬ g = 0 := fun e => by rw [e] at q1; exact absurd q1 (by decide)
      have gp : 0 < lg_cmp g 0 := lgc.2.1.mpr q1
      refine ⟨(1, sc_h (sc_h gc (sH_above (c_h gc) (S / g))) (sH_below (c_h (sc_h gc (sH_above (c_h gc) (S / g)))) (pw 10 (vN v) / g))), (1, sL_below (sL_above gw (S / g)) (pw 10 (vN v) / g)), ?_, ?_, rfl, rel_ab hRg _ _⟩
      · have nk2 : (1 : Int32) <<< (nI (vN v) &&& 31) ≤ nI (2 ^ vN v) := by
          rw [sh_ok _ (by omega)]
          exact Int32.le_refl _
        have j131 : f_X10_mean_j131 a1 S gc = some (1, sc_h (sc_h gc (sH_above (c_h gc) (S / g))) (sH_below (c_h (sc_h gc (sH_above (c_h gc) (S / g)))) (pw 10 (vN v) / g))) := by
          unfold f_X10_mean_j131 f_X10_setFraction f_X10_commonDivisor
          rw [z1, power_ok _ (by omega), Option.bind_some, e10, show (0 : Int32) = nI 0 from rfl, q2, Option.bind_some, if_pos (show nI 0 < lg_cmp g 0 from gp), if_neg g0, lt_eq, if_neg g0, lt_eq]
          rfl
        unfold f_X10_mean_s33
        dsimp only
        rw [z1, if_pos nk2, j131, ite_self]
      · have nk2 : (1 : Int32) <<< (nI (vN v) &&& 31) ≤ nI (2 ^ vN v) := by
          rw [sh_ok _ (by omega)]
          exact Int32.le_refl _
        unfold f_X11_mean_s58 f_X11_mean_j142 f_X11_tells
        dsimp only
        rw [if_pos (by decide), show (3 : Int32).toNatClampNeg = 3 from rfl, z2, if_pos nk2, q3]
        unfold f_X11_tells_j31
        rw [if_neg g0, lt_eq, if_neg g0, lt_eq]
        rfl
  · refine simR (x := (-2, cBad c)) (y := (-2, wRef w 0)) ?_ ?_ rfl (rel_bad hR)
    · unfold f_X10_mean
      rw [within_f h, Option.bind_some, if_pos rfl, refuse_bad]
      rfl
    · unfold f_X11_mean
      rw [inI_f h, Option.bind_some, if_pos rfl, bad_spec]
      rfl
