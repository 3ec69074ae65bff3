-- ===== two stalls =====
theorem lp_one {α γ : Type} {sC : (α → Option γ) → α → Option γ} (I : Nat → α → Prop) (N : Nat) {P : Option γ → Prop} (hs : ∀ k a K, k < N → I k a → ∃ a', I (k + 1) a' ∧ sC K a = K a') (he : ∀ a K, I N a → P (sC K a)) : ∀ (d k n : Nat) (a : α), k + d = N → d < n → I k a → P (lp sC n a) := by
  intro d
  induction d with
  | zero =>
    intro k n a hk hn hI
    obtain ⟨m, rfl⟩ : ∃ m, n = m + 1 := ⟨n - 1, by omega⟩
    have : k = N := by omega
    subst this
    rw [lp_succ]
    exact he a _ hI
  | succ d ih =>
    intro k n a hk hn hI
    obtain ⟨m, rfl⟩ : ∃ m, n = m + 1 := ⟨n - 1, by omega⟩
    obtain ⟨a', h1, h2⟩ := hs k a (lp sC m) (by omega) hI
    rw [lp_succ, h2]
    exact ih (k + 1) m a' (by omega) (by omega) h1
theorem lp_one0 {α γ : Type} {sC : (α → Option γ) → α → Option γ} (I : Nat → α → Prop) (N : Nat) (hN : N < 1000) {P : Option γ → Prop} {a : α} (h0 : I 0 a) (hs : ∀ k a K, k < N → I k a → ∃ a', I (k + 1) a' ∧ sC K a = K a') (he : ∀ a K, I N a → P (sC K a)) : P (lp sC 1000 a) := lp_one I N hs he N 0 1000 a (by omega) hN h0
theorem nI_div {a b : Nat} (ha : a < 2147483648) (hb : b < 2147483648) : nI a / nI b = nI (a / b) := by
  refine Int32.toInt_inj.mp ?_
  have hab : a / b ≤ a := Nat.div_le_self a b
  rw [Int32.toInt_div, ti_nI ha, ti_nI hb, ti_nI (by omega)]
  rw [show ((a : Int).tdiv (b : Int)) = ((a / b : Nat) : Int) from rfl]
  generalize a / b = q at hab ⊢
  exact toInt_sm (by omega) (by omega)
theorem nI_sub {a b : Nat} (h : b ≤ a) : nI a - nI b = nI (a - b) := by
  have e : nI a = nI (a - b) + nI b := by rw [nI_add, Nat.sub_add_cancel h]
  rw [e, Int32.add_sub_cancel]
theorem nI_mod {a b : Nat} (ha : a < 2147483648) (hb : b < 2147483648) : nI a - nI a / nI b * nI b = nI (a % b) := by
  rw [nI_div ha hb, nI_mul, nI_sub (Nat.div_mul_le_self a b)]
  refine congrArg nI ?_
  have := Nat.div_add_mod a b
  rw [Nat.mul_comm] at this
  omega
def pS2 (a1 a2 : Int32) (i h : Nat) : Int32 := if i ≤ h then a2 else a1
def vS (v : VW) (a1 a2 : Int32) (i j : Nat) : VW := (pS2 a1 a2 i, pS2 a1 a2 j, vR v, vH v, vU v, vN v, vK v, vO v, vW v, vA v)
def yS (v : VW) (a1 a2 : Int32) (k : Nat) : DYS := dayN (vS v a1 a2 (k / 11) (k % 11)) (paysI (vS v a1 a2 (k / 11) (k % 11))) 255
theorem vS_bd {v : VW} {a1 a2 : Int32} {i j : Nat} (h1 : inR a1.toInt 0 99) (h2 : inR a2.toInt 0 99) (hB : VBd v) : VBd (vS v a1 a2 i j) := by
  have hz : ∀ k h : Nat, 0 ≤ (pS2 a1 a2 k h).toInt ∧ (pS2 a1 a2 k h).toInt ≤ 99 := by
    intro k h
    unfold pS2
    split
    · exact h2
    · exact h1
  refine ⟨fun h hh => ⟨(hz i h).1, (hz i h).2, (hz j h).1, (hz j h).2⟩, hB.2.1, hB.2.2.1, hB.2.2.2⟩
theorem yS_iv {v : VW} {a1 a2 : Int32} (h1 : inR a1.toInt 0 99) (h2 : inR a2.toInt 0 99) (hB : VBd v) (h8 : vN v ≤ 8) (k : Nat) : 0 ≤ (xT (yS v a1 a2 k)).toInt ∧ 0 ≤ (xU (yS v a1 a2 k)).toInt := by
  have h := (day_iv (v := vS v a1 a2 (k / 11) (k % 11)) (pay := paysI (vS v a1 a2 (k / 11) (k % 11))) (who := 255) (vS_bd h1 h2 hB) h8).1
  exact ⟨h.2.2.1, h.2.2.2.2.1⟩
theorem vc_pr {u : MSt} {v : VW} {P T q q2 : Nat → Int32} (hq : ∀ k, k < 10 → q k = P k) (hq2 : ∀ k, k < 10 → q2 k = T k) (hv : VC u v) : VC (sM_theirPrices (sM_prices u q) q2) (P, T, vR v, vH v, vU v, vN v, vK v, vO v, vW v, vA v) := by
  obtain ⟨cp, cr, ch, cu, cn, c8, cb⟩ := hv
  obtain ⟨u_0, u_1, u_2, u_3, u_4, u_5, u_6, u_7, u_8, u_9, u_10, u_11, u_12, u_13, u_14, u_15, u_16⟩ := u
  exact ⟨fun k hk => ⟨hq k hk, hq2 k hk⟩, cr, ch, cu, cn, c8, cb⟩
theorem vl_pr {f g : Nat → Int32} {v : VW} {P T : Nat → Int32} (hP : ∀ k, k < 10 → g (8 + k) = P k ∧ g (18 + k) = T k) (hg : ∀ k, k < 152 → ¬ (8 ≤ k ∧ k < 28) → f k = g k) (hv : VL f v) : VL g (P, T, vR v, vH v, vU v, vN v, vK v, vO v, vW v, vA v) := by
  obtain ⟨l1, l2, l3, l4, l5, l6, l7⟩ := hv
  refine ⟨hP, ?_, ?_, ?_, ?_, l6, fun b hb => ?_⟩
  · rw [← hg _ (by omega) (by omega)]; exact l2
  · rw [← hg _ (by omega) (by omega)]; exact l3
  · rw [← hg _ (by omega) (by omega)]; exact l4
  · rw [← hg _ (by omega) (by omega)]; exact l5
  · have hb2 : b < vN v := hb
    rw [← hg (28 + b) (by omega) (by omega), ← hg (36 + b) (by omega) (by omega), ← hg (44 + b) (by omega) (by omega), ← hg (52 + b) (by omega) (by omega)]; exact l7 b hb
-- the reference weighs
def gSt2 (a1 a2 : Int32) (i j n : Nat) (f : Nat → Int32) (t : Nat) : Int32 := if 8 ≤ t ∧ t < 8 + n then pS2 a1 a2 i (t - 8) else if 18 ≤ t ∧ t < 18 + n then pS2 a1 a2 j (t - 18) else f t
theorem gS_step (a1 a2 : Int32) (i j n : Nat) (hn : n < 10) (f : Nat → Int32) : upd (upd (gSt2 a1 a2 i j n f) (8 + n) (pS2 a1 a2 i n)) (18 + n) (pS2 a1 a2 j n) = gSt2 a1 a2 i j (n + 1) f := by
  funext t
  unfold gSt2
  rw [upd_eq, upd_eq]
  by_cases c1 : t = 18 + n
  · rw [if_pos c1, if_neg (by omega), if_pos (by omega), show t - 18 = n from by omega]
  · rw [if_neg c1]
    by_cases c2 : t = 8 + n
    · rw [if_pos c2, if_pos (by omega), show t - 8 = n from by omega]
    · rw [if_neg c2]
      by_cases c3 : 8 ≤ t ∧ t < 8 + n
      · rw [if_pos c3, if_pos (by omega)]
      · rw [if_neg c3, if_neg (show ¬ (8 ≤ t ∧ t < 8 + (n + 1)) by omega)]
        by_cases c4 : 18 ≤ t ∧ t < 18 + n
        · rw [if_pos c4, if_pos (by omega)]
        · rw [if_neg c4, if_neg (by omega)]
theorem fillS (a1 a2 a3 : Int32) (K43 : (Int32 × LSt) → Option (Int32 × LSt)) {k : Nat} (hk : k < 121) (w : LSt) : lp (f_X11_stalls_s53 a1 a2 a3 K43) 1000 (nI k, (0 : Int32), w) = f_X11_stalls_j116 a1 a2 a3 K43 (nI k) (sL_w w (gSt2 a1 a2 (k / 11) (k % 11) 10 (pL_w w))) := by
  have ed : nI k / (11 : Int32) = nI (k / 11) := nI_div (b := 11) (by omega) (by omega)
  have em : nI k - nI k / (11 : Int32) * (11 : Int32) = nI (k % 11) := nI_mod (b := 11) (by omega) (by omega)
  have hd : k / 11 < 11 := by omega
  refine lp_run1 (step := f_X11_stalls_s53 a1 a2 a3 K43) (fun n => (nI k, nI n, sL_w w (gSt2 a1 a2 (k / 11) (k % 11) n (pL_w w)))) 10 (by omega) ?_ (fun n K hn => ?_) (fun K => ?_)
  · have e0 : gSt2 a1 a2 (k / 11) (k % 11) 0 (pL_w w) = pL_w w := by
      funext t
      unfold gSt2
      rw [if_neg (by omega), if_neg (by omega)]
    rw [e0, wSelf]
    rfl
  · have i8 : (8 : Int32) + nI n = nI (8 + n) := nI_add 8 n
    have i18 : (18 : Int32) + nI n = nI (18 + n) := nI_add 18 n
    have q8 : inb (nI (8 + n)) 608 := (inb_nI (by omega)).mpr (by omega)
    have q18 : inb (nI (18 + n)) 608 := (inb_nI (by omega)).mpr (by omega)
    have c8 : (nI (8 + n)).toNatClampNeg = 8 + n := cl_nI (by omega)
    have c18 : (nI (18 + n)).toNatClampNeg = 18 + n := cl_nI (by omega)
    have j84 : ∀ t, f_X11_stalls_j84 a1 a2 a3 K43 K (nI k) (nI n) t (nI (8 + n)) (sL_w w (gSt2 a1 a2 (k / 11) (k % 11) n (pL_w w))) = K (nI k, nI (n + 1), sL_w w (upd (upd (gSt2 a1 a2 (k / 11) (k % 11) n (pL_w w)) (8 + n) t) (18 + n) (pS2 a1 a2 (k % 11) n))) := by
      intro t
      unfold pS2
      unfold f_X11_stalls_j84 f_X11_stalls_j109
      rw [if_pos q8, lt_eq, em, i18, if_pos q18, if_pos q18, lt_eq, lt_eq, c8, c18, wW, wW, wWW, wWW, wWW, nI_1]
      by_cases c : k % 11 ≤ n
      · rw [if_pos ((le_nI (by omega) (by omega)).mpr c), if_pos c]
      · rw [if_neg (fun e => c ((le_nI (by omega) (by omega)).mp e)), if_neg c, wWW]
    have nk : ¬ (10 : Int32) ≤ nI n := by
      rw [i_10, le_nI (by omega) (by omega)]
      omega
    unfold f_X11_stalls_s53
    dsimp only
    rw [if_neg nk, ed, i8, j84, j84, ← gS_step _ _ _ _ _ hn, show pS2 a1 a2 (k / 11) n = if k / 11 ≤ n then a2 else a1 from rfl]
    by_cases c : k / 11 ≤ n
    · rw [if_pos ((le_nI (by omega) (by omega)).mpr c), if_pos c]
    · rw [if_neg (fun e => c ((le_nI (by omega) (by omega)).mp e)), if_neg c]
  · unfold f_X11_stalls_s53
    exact if_pos (show (10 : Int32) ≤ nI 10 from by decide)
theorem own_set (w : LSt) (f : Nat → Int32) : Kp w (sL_own w f) ∧ pL_w (sL_own w f) = pL_w w ∧ pL_shouted (sL_own w f) = pL_shouted w ∧ pL_aside (sL_own w f) = pL_aside w ∧ pL_own (sL_own w f) = f ∧ pL_other (sL_own w f) = pL_other w ∧ pL_theirTakings (sL_own w f) = pL_theirTakings w := by
  obtain ⟨w_0, w_1, w_2, w_3, w_4, w_5, w_6, w_7, w_8, w_9, w_10, w_11, w_12, w_13, w_14, w_15, w_16, w_17, w_18, w_19, w_20, w_21, w_22, w_23⟩ := w
  simp only [sL_own_mk]
  exact ⟨⟨rfl, rfl, rfl, rfl, rfl, rfl⟩, trivial, trivial, trivial, trivial, trivial, trivial⟩
theorem other_set (w : LSt) (f : Nat → Int32) : Kp w (sL_other w f) ∧ pL_w (sL_other w f) = pL_w w ∧ pL_shouted (sL_other w f) = pL_shouted w ∧ pL_aside (sL_other w f) = pL_aside w ∧ pL_own (sL_other w f) = pL_own w ∧ pL_other (sL_other w f) = f := by
  obtain ⟨w_0, w_1, w_2, w_3, w_4, w_5, w_6, w_7, w_8, w_9, w_10, w_11, w_12, w_13, w_14, w_15, w_16, w_17, w_18, w_19, w_20, w_21, w_22, w_23⟩ := w
  simp only [sL_other_mk]
  exact ⟨⟨rfl, rfl, rfl, rfl, rfl, rfl⟩, trivial, trivial, trivial, trivial, trivial⟩
theorem weigh_L {w1 w : LSt} {v : VW} (a1 a2 a3 : Int32) (hv : VL (pL_w w) v) (hw : pL_w w1 = pL_w w) (hk : Kp w w1) (hs : pL_shouted w1 = -1) (ha : ∀ k, k < 20 → pL_aside w1 k = pL_w w (8 + k)) : ∃ w2, lp (f_X11_stalls_s43 a1 a2 a3) 1000 ((0 : Int32), w1) = f_X11_stalls_j151 a1 a2 a3 w2 ∧ Kp w w2 ∧ (∀ k, k < 20 → pL_aside w2 k = pL_w w (8 + k)) ∧ (∀ k, k < 456 → ¬ (8 ≤ k ∧ k < 28) → pL_w w2 k = pL_w w k) ∧ ∀ k, k < 121 → pL_own w2 k = xT (yS v a1 a2 k) ∧ pL_other w2 k = xU (yS v a1 a2 k) := by
  refine lp_one0 (sC := f_X11_stalls_s43 a1 a2 a3) (fun k a => ∃ gw, a = (nI k, gw) ∧ Kp w gw ∧ pL_shouted gw = -1 ∧ (∀ k, k < 20 → pL_aside gw k = pL_w w (8 + k)) ∧ (∀ k, ¬ (8 ≤ k ∧ k < 28) → pL_w gw k = pL_w w k) ∧ ∀ j, j < k → pL_own gw j = xT (yS v a1 a2 j) ∧ pL_other gw j = xU (yS v a1 a2 j)) 121 (by omega) (P := fun o => ∃ w2, o = f_X11_stalls_j151 a1 a2 a3 w2 ∧ Kp w w2 ∧ (∀ k, k < 20 → pL_aside w2 k = pL_w w (8 + k)) ∧ (∀ k, k < 456 → ¬ (8 ≤ k ∧ k < 28) → pL_w w2 k = pL_w w k) ∧ ∀ k, k < 121 → pL_own w2 k = xT (yS v a1 a2 k) ∧ pL_other w2 k = xU (yS v a1 a2 k)) ?_ (fun k a K hk hI => ?_) (fun a K hI => ?_)
  · exact ⟨w1, rfl, hk, hs, ha, fun k _ => by rw [hw], fun j hj => absurd hj (Nat.not_lt_zero j)⟩
  · obtain ⟨gw, rfl, g1, g2, g3, g4, g5⟩ := hI
    have nk : ¬ (121 : Int32) ≤ nI k := by
      rw [show (121 : Int32) = nI 121 from rfl, le_nI (by omega) (by omega)]
      omega
    have qk : inb (nI k) 121 := (inb_nI (by omega)).mpr hk
    have ck : (nI k).toNatClampNeg = k := cl_nI (by omega)
    have hv2 : VL (pL_w (sL_w gw (gSt2 a1 a2 (k / 11) (k % 11) 10 (pL_w gw)))) (vS v a1 a2 (k / 11) (k % 11)) := by
      rw [wW]
      refine vl_pr (fun h hh => ⟨?_, ?_⟩) (fun j hj hj2 => ?_) hv
      · unfold gSt2
        rw [if_pos (by omega), show 8 + h - 8 = h from by omega]
      · unfold gSt2
        rw [if_neg (by omega), if_pos (by omega), show 18 + h - 18 = h from by omega]
      · unfold gSt2
        rw [if_neg (by omega), if_neg (by omega), g4 j hj2]
    obtain ⟨w', t1, t2, t3, t4, t5, t6⟩ := tr_day hv2 ((sh_w gw _).trans g2)
    rw [wW] at t4
    obtain ⟨o1, o2, o3, o4, o5, o6, o7⟩ := own_set w' (upd (pL_own w') k (pL_takings w'))
    obtain ⟨z1, z2, z3, z4, z5, z6⟩ := other_set (sL_own w' (upd (pL_own w') k (pL_takings w'))) (upd (pL_other w') k (pL_theirTakings w'))
    refine ⟨(nI (k + 1), sL_other (sL_own w' (upd (pL_own w') k (pL_takings w'))) (upd (pL_other w') k (pL_theirTakings w'))), ⟨_, rfl, Kp_trans (Kp_trans (Kp_trans (Kp_trans g1 (kp_w gw _).1) t2) o1) z1, ?_, fun j hj => ?_, fun j hj => ?_, fun j hj => ?_⟩, ?_⟩
    · rw [z3, o3, t5]
    · rw [z4, o4, t3.1, (kp_w gw _).2.1]
      exact g3 j hj
    · rw [z2, o2, t4]
      unfold gSt2
      rw [if_neg (by omega), if_neg (by omega)]
      exact g4 j hj
    · rw [z5, o5, z6]
      by_cases c : j = k
      · subst c
        rw [upd_at, upd_at]
        exact ⟨t6.2.1, t6.2.2.1⟩
      · rw [upd_ne _ _ _ _ c, upd_ne _ _ _ _ c, t3.2.1, t3.2.2, (kp_w gw _).2.2.1, (kp_w gw _).2.2.2]
        exact g5 j (by omega)
    · unfold f_X11_stalls_s43
      dsimp only
      rw [if_neg nk, fillS a1 a2 a3 K hk gw]
      unfold f_X11_stalls_j116
      rw [t1, Option.bind_some, if_pos qk, lt_eq, if_pos qk, lt_eq, ck, o6, o7, nI_1]
  · obtain ⟨gw, rfl, g1, g2, g3, g4, g5⟩ := hI
    refine ⟨gw, ?_, g1, g3, fun k _ hk => g4 k hk, g5⟩
    unfold f_X11_stalls_s43
    exact if_pos (show (121 : Int32) ≤ nI 121 from by decide)
