-- ===== the text is read =====
def RD (b : Nat → Int32) (L : Nat) (w0 : LSt) (oc : Option (Int32 × RSt × MSt)) (ol : Option (Int32 × LSt)) : Prop := (∃ x t s n m u w, oc = some (x, (b, nI L, t, s, n, m), u) ∧ ol = some (x, w) ∧ x ≤ 0 ∧ FR w0 w) ∨ (∃ k t s n m u w base, oc = some (nI (k + 1), (b, nI L, t, s, n, m), u) ∧ ol = some (nI (k + 1), w) ∧ k ≤ 150 ∧ w = sL_w base (fun j => if 0 ≤ j ∧ j < 0 + 152 then pL_w base (456 + (j - 0)) else pL_w base j) ∧ FR w0 base ∧ RelN u (row4 base))
theorem neg10 {q : Nat} (h : q ≤ 150) : (-10 : Int32) - nI q ≤ 0 := by
  refine Int32.le_iff_toInt_le.mpr ?_
  have t10 : (-10 : Int32).toInt = -10 := rfl
  rw [ti_sub (by rw [t10, ti_nI (by omega)]; omega) (by rw [t10, ti_nI (by omega)]; omega), t10, ti_nI (by omega), ti_0]
  omega
theorem rd_fail {b : Nat → Int32} {L : Nat} {w0 : LSt} {r : RSt} {u : MSt} {w : LSt} (h : FAIL b L w0 r w) : RD b L w0 (some ((-10 : Int32) - pR_start r, r, u)) (some ((-10 : Int32) - pL_start w, w)) := by
  obtain ⟨t, q, e, m, rfl, h1, h2, h3⟩ := h
  rw [h2]
  exact Or.inl ⟨_, _, _, _, _, _, _, rfl, rfl, neg10 h1, h3⟩
theorem loop_both {b : Nat → Int32} {L : Nat} {w0 : LSt} {r : RSt} {u : MSt} {w : LSt} (hL : L ≤ 150) (h : OKK b L w0 0 r u w) : RD b L w0 (lp (f_X6_readInto_s29) 1000 ((1 : Int32), (0 : Int32), r, u)) (lp (f_X11_read_s11) 999 ((1 : Int32), w)) := by
  refine lp_mea (sC := f_X6_readInto_s29) (sL := f_X11_read_s11) (fun x y => ∃ i q e t m iw ig v base u, x = (nI (i + 1), nI i, (b, nI L, t, nI q, nI e, m), u) ∧ y = (nI (i + 1), wT base (nI e) (nI q) iw ig v) ∧ i ≤ q ∧ q ≤ e ∧ e ≤ L ∧ (q < L → q < e) ∧ KIND b L q e t m iw ig ∧ TXT b base L ∧ FR w0 base ∧ RelN u (row4 base)) (fun x y => L - (pR_start x.2.2.1).toNatClampNeg) (P := RD b L w0) (fun x y K K' hI => ?_) 150 _ _ 1000 999 ?_ (by omega) (by omega) ?_
  · obtain ⟨i, q, e, t, m, iw, ig, v, base, u, rfl, rfl, h1, h2, h3, h4, h5, h6, h7, h8⟩ := hI
    obtain ⟨-, -, kt⟩ := kind_w h5
    obtain ⟨p1, p2, -, -, -, p6, -, p8⟩ := wT_p base (nI e) (nI q) iw ig v
    have ni : ¬ nI (i + 1) = (0 : Int32) := fun h => by
      have := (eq_nI (b := 0) (by omega) (by omega)).mp h
      omega
    by_cases c : q < L
    · have ht : ¬ t = 0 := fun h => by have := kt.mp h; omega
      have n150 : ¬ (150 : Int32) ≤ nI i := by
        rw [i_150, le_nI (by omega) (by omega)]
        omega
      have eC : ∀ X, ((f_X6_readsItem (b, nI L, t, nI q, nI e, m) u).bind fun x45 => (if x45.1 = 0 then f_X6_readInto_j51 x45.2.1 x45.2.2 else K (nI (i + 1 + 1), nI (i + 1), x45.2.1, x45.2.2))) = X → f_X6_readInto_s29 K (nI (i + 1), nI i, (b, nI L, t, nI q, nI e, m), u) = X := by
        intro X hX
        unfold f_X6_readInto_s29
        dsimp only
        rw [if_neg n150, if_neg (show ¬ pR_token (b, nI L, t, nI q, nI e, m) = 0 from ht), nI_1, nI_1]
        exact hX
      have eL : ∀ X, ((f_X11_takesItem (wT base (nI e) (nI q) iw ig v) (nI (i + 1))).bind fun x28 => (if x28.1 = 0 then f_X11_read_j34 x28.2 else (f_X11_token x28.2).bind fun x46 => K' (nI (i + 1 + 1), x46))) = X → f_X11_read_s11 K' (nI (i + 1), wT base (nI e) (nI q) iw ig v) = X := by
        intro X hX
        unfold f_X11_read_s11 f_X11_read_j26
        dsimp only
        rw [p2, p6, h6.2.1, if_pos ((lt_nI (by omega) (by omega)).mpr c), nI_1]
        exact hX
      rcases item_both h6 h7 h2 h3 (h4 c) v ni h8 h5 with ⟨r', u', w', g1, g2, g3⟩ | ⟨r', u', w1, w2, g1, g2, g3, q', e', t', m', iw', ig', v', base', k1, k2, k3, k4, k5, k6, k7, k8, k9, k10⟩
      · refine Or.inr ?_
        have a1 := eC (some ((-10 : Int32) - pR_start r', r', u')) (by rw [g1, Option.bind_some, if_pos rfl]; rfl)
        have a2 := eL (some ((-10 : Int32) - pL_start w', w')) (by rw [g2, Option.bind_some, if_pos rfl]; rfl)
        rw [a1, a2]
        exact rd_fail g3
      · refine Or.inl ⟨(nI (i + 1 + 1), nI (i + 1), r', u'), (nI (i + 1 + 1), w2), ⟨i + 1, q', e', t', m', iw', ig', v', base', u', by rw [k1], by rw [k2], by omega, k4, k5, k6, k7, k8, k9, k10⟩, ?_, eC _ (by rw [g1, Option.bind_some, if_neg one0]), eL _ (by rw [g2, Option.bind_some, if_neg one0, g3, Option.bind_some])⟩
        subst k1
        show L - (nI q').toNatClampNeg < L - (nI q).toNatClampNeg
        rw [cl_nI (by omega), cl_nI (by omega)]
        omega
    · have qL : q = L := by omega
      have ht : t = 0 := kt.mpr qL
      refine Or.inr (Or.inr ⟨i, t, nI q, nI e, m, u, sL_w (wT base (nI e) (nI q) iw ig v) (fun j => if 0 ≤ j ∧ j < 0 + 152 then pL_w (wT base (nI e) (nI q) iw ig v) (456 + (j - 0)) else pL_w (wT base (nI e) (nI q) iw ig v) j), wT base (nI e) (nI q) iw ig v, ?_, ?_, by omega, rfl, FR_T h7 _ _ _ _ _, ?_⟩)
      · unfold f_X6_readInto_s29
        dsimp only
        rw [if_pos (show pR_token (b, nI L, t, nI q, nI e, m) = 0 from ht), ite_self]
      · unfold f_X11_read_s11 f_X11_read_j52
        dsimp only
        rw [p2, p6, h6.2.1, if_neg (fun h => c ((lt_nI (by omega) (by omega)).mp h)), if_neg ni, show (456 : Int32) = nI 456 from rfl, show (0 : Int32) = nI 0 from rfl, copy_L (wT base (nI e) (nI q) iw ig v) (a := 456) (b := 0) (by omega) (by omega) (by omega), Option.bind_some]
      · have e2 : row4 (wT base (nI e) (nI q) iw ig v) = row4 base := by
          funext k
          unfold row4
          rw [p8]
        rw [e2]
        exact h8
  · omega
  · obtain ⟨q, e, t, m, iw, ig, v, base, rfl, rfl, h1, h2, h3, h4, h5, h6, h7, h8⟩ := h
    exact ⟨0, q, e, t, m, iw, ig, v, base, u, rfl, rfl, by omega, h2, h3, h4, h5, h6, h7, h8⟩
theorem read_both {b : Nat → Int32} {L : Nat} {w : LSt} (hT : TXT b w L) (t s n m : Int32) (u : MSt) : RD b L w (f_X6_readInto (b, nI L, t, s, n, m) u) (f_X11_read w) := by
  have hL := hT.1
  have hF : FR w w := ⟨Kp_rfl w, fun _ _ => rfl⟩
  obtain ⟨q, e, t', m', iw, ig, g1, g2, g3, g4, g5, g6, g7⟩ := tok_both hT (p := 0) (by omega) t s m (pL_start w) (pL_isWord w) (pL_isFigures w) (pL_value w)
  obtain ⟨kw1, kw2, -⟩ := kind_w g7
  have wd := wordNow_L hT g2 g3 kw2 ig (pL_value w)
  have cw : (t' = 1 ∧ nmd b q e 0 = true) ↔ (iw = 1 ∧ nmd b q e 0 = true) := ⟨fun h => ⟨kw1.mp h.1, h.2⟩, fun h => ⟨kw1.mpr h.1, h.2⟩⟩
  have c0 := (word_C (b := b) (si := 0) hL g2 g3 (by omega) t' m').trans (ite_iff cw)
  obtain ⟨p1, p2, p3, p4, p5, p6, -, -⟩ := wT_p w (nI e) (nI q) iw ig (pL_value w)
  have e0 : sL_at w 0 = wT w (nI 0) (pL_start w) (pL_isWord w) (pL_isFigures w) (pL_value w) := by
    have h := wT_at w (pL_at w) (pL_start w) (pL_isWord w) (pL_isFigures w) (pL_value w) 0
    rw [wT_self] at h
    exact h
  have eC : ∀ X, ((f_X6_readsMarket (b, nI L, t', nI q, nI e, m') u).bind fun x11 => (if x11.1 = 0 then some (((-10 : Int32) - (pR_start x11.2.1)), x11.2.1, x11.2.2) else lp (f_X6_readInto_s29) 1000 ((1 : Int32), (0 : Int32), x11.2.1, x11.2.2))) = X → f_X6_readInto (b, nI L, t, s, n, m) u = X := by
    intro X hX
    unfold f_X6_readInto
    rw [lt_eq, sR_next_mk, show (0 : Int32) = nI 0 from rfl, g5, Option.bind_some]
    exact hX
  have hs : ∀ (K : (Int32 × LSt) → Option (Int32 × LSt)) (X : Option (Int32 × LSt)), ((f_X11_takesItem (wT w (nI e) (nI q) iw ig (pL_value w)) 0).bind fun x28 => (if x28.1 = 0 then f_X11_read_j34 x28.2 else (f_X11_token x28.2).bind fun x46 => K (1, x46))) = X → f_X11_read_s11 K (0, wT w (nI e) (nI q) iw ig (pL_value w)) = X := by
    intro K X hX
    unfold f_X11_read_s11 f_X11_read_j26
    dsimp only
    rw [if_pos (show (0 : Int32) = 0 from rfl), show (0 : Int32) + 1 = 1 from by decide, ite_self]
    exact hX
  have eL : ∀ X, ((f_X11_takesItem (wT w (nI e) (nI q) iw ig (pL_value w)) 0).bind fun x28 => (if x28.1 = 0 then f_X11_read_j34 x28.2 else (f_X11_token x28.2).bind fun x46 => lp (f_X11_read_s11) 999 (1, x46))) = X → f_X11_read w = X := by
    intro X hX
    unfold f_X11_read
    rw [lt_eq, e0, g6, Option.bind_some, lp_1k]
    exact hs _ _ hX
  have bad : ∀ oc ol, oc = some ((0 : Int32), (b, nI L, t', nI q, nI e, m'), u) → ol = some ((0 : Int32), wT w (nI e) (nI q) iw ig (pL_value w)) → f_X6_readsMarket (b, nI L, t', nI q, nI e, m') u = oc → f_X11_takesItem (wT w (nI e) (nI q) iw ig (pL_value w)) 0 = ol → RD b L w (f_X6_readInto (b, nI L, t, s, n, m) u) (f_X11_read w) := by
    intro oc ol h1 h2 h3 h4
    have a1 := eC (some ((-10 : Int32) - nI q, (b, nI L, t', nI q, nI e, m'), u)) (by rw [h3, h1, Option.bind_some, if_pos rfl])
    have a2 := eL (some ((-10 : Int32) - nI q, wT w (nI e) (nI q) iw ig (pL_value w))) (by
      rw [h4, h2, Option.bind_some, if_pos rfl]
      unfold f_X11_read_j34
      rw [p2])
    rw [a1, a2]
    exact Or.inl ⟨_, _, _, _, _, _, _, rfl, rfl, neg10 (by omega), FR_T hF _ _ _ _ _⟩
  by_cases d0 : iw = 1 ∧ nmd b q e 0 = true
  · have hm := market_both hT hF g3 t' (nI q) m' (nI q) iw ig (pL_value w) 0 u
    have hq0 : 0 < e := by
      have h6 := (nmd_iff.mp d0.2).1
      rw [show lenS.getD 0 0 = 6 from rfl] at h6
      omega
    have aC : f_X6_readsMarket (b, nI L, t', nI q, nI e, m') u = ((f_X6_readNumber (b, nI L, t', nI q, nI e, m') (0 : Int32) (99 : Int32)).bind fun x15 => (if 0 ≤ x15.1 then (f_X6_readNumber x15.2 (0 : Int32) (9 : Int32)).bind fun x29 => (if x29.1 < 0 then some ((0 : Int32), x29.2, u) else (f_X6_readsStop x29.2).bind fun x38 => (if x38.1 = 0 then some ((0 : Int32), x38.2, u) else (f_X3_startAnew u x15.1 x29.1).bind fun x49 => (some ((1 : Int32), x38.2, x49)))) else some ((0 : Int32), x15.2, u))) := by
      unfold f_X6_readsMarket
      rw [c0, if_pos d0, Option.bind_some, if_neg one0]
    have aL : f_X11_takesItem (wT w (nI e) (nI q) iw ig (pL_value w)) 0 = ((f_X11_takesMarket (wT w (nI e) (nI q) iw ig (pL_value w))).bind fun x38 => (f_X11_takesItem_j61 0 x38.1 x38.2)) := by
      unfold f_X11_takesItem f_X11_takesItem_j19 f_X11_takesItem_j28
      rw [wd, Option.bind_some, if_pos d0, if_neg (show ¬ (0 : Int32) = -1 from by decide), if_pos rfl, if_pos rfl, if_pos rfl, if_pos rfl]
    rw [← aC, ← aL] at hm
    rcases hm with ⟨r', u', w', k1, k2, k3⟩ | ⟨r', u', w1, w2, k1, k2, k3, k4⟩
    · have a1 := eC (some ((-10 : Int32) - pR_start r', r', u')) (by rw [k1, Option.bind_some, if_pos rfl])
      have a2 := eL (some ((-10 : Int32) - pL_start w', w')) (by rw [k2, Option.bind_some, if_pos rfl]; rfl)
      rw [a1, a2]
      exact rd_fail k3
    · have k5 : OKK b L w 0 r' u' w2 := by
        obtain ⟨q', e', t2, m2, iw', ig', v', base, z1, z2, z3, z4⟩ := k4
        exact ⟨q', e', t2, m2, iw', ig', v', base, z1, z2, by omega, z4⟩
      have a1 := eC _ (show _ = lp (f_X6_readInto_s29) 1000 ((1 : Int32), (0 : Int32), r', u') by rw [k1, Option.bind_some, if_neg one0])
      have a2 := eL _ (show _ = lp (f_X11_read_s11) 999 ((1 : Int32), w2) by rw [k2, Option.bind_some, if_neg one0, k3, Option.bind_some])
      rw [a1, a2]
      exact loop_both hL k5
  · refine bad _ _ rfl rfl ?_ ?_
    · unfold f_X6_readsMarket
      rw [c0, if_neg d0, Option.bind_some, if_pos rfl]
    · unfold f_X11_takesItem
      rw [wd, Option.bind_some, if_neg d0]
      have mis : ∀ k : Int32, f_X11_takesItem_j19 0 k 0 (wT w (nI e) (nI q) iw ig (pL_value w)) = some (0, wT w (nI e) (nI q) iw ig (pL_value w)) := by
        intro k
        unfold f_X11_takesItem_j19 f_X11_takesItem_j28
        rw [if_pos rfl, if_neg (show ¬ (0 : Int32) = 1 from by decide)]
      by_cases d1 : iw = 1 ∧ nmd b q e 1 = true
      · rw [if_pos d1, if_neg (show ¬ (1 : Int32) = -1 from by decide), if_neg one0, mis]
      · rw [if_neg d1]
        by_cases d2 : iw = 1 ∧ nmd b q e 2 = true
        · rw [if_pos d2, if_neg (show ¬ (2 : Int32) = -1 from by decide), if_neg (show ¬ (2 : Int32) = 0 from by decide), mis]
        · rw [if_neg d2]
          by_cases d3 : iw = 1 ∧ nmd b q e 3 = true
          · rw [if_pos d3, if_neg (show ¬ (3 : Int32) = -1 from by decide), if_neg (show ¬ (3 : Int32) = 0 from by decide), mis]
          · rw [if_neg d3]
            by_cases d4 : iw = 1 ∧ nmd b q e 4 = true
            · rw [if_pos d4, if_neg (show ¬ (4 : Int32) = -1 from by decide), if_neg (show ¬ (4 : Int32) = 0 from by decide), mis]
            · rw [if_neg d4, if_pos rfl]
theorem rel_r {c : CSt} {w : LSt} (hR : Rel c w) {b : Nat → Int32} {l : Int32} (t s n m : Int32) (h1 : pR_bytes (c_r c) = b) (h2 : pR_length (c_r c) = l) : Rel (sc_r c (b, l, t, s, n, m)) w := by
  obtain ⟨⟨h_0, h_1, h_2, h_3, h_4, h_5⟩, ⟨m0, m1, m2, m3⟩, d, s, r⟩ := c
  obtain ⟨w_0, w_1, w_2, w_3, w_4, w_5, w_6, w_7, w_8, w_9, w_10, w_11, w_12, w_13, w_14, w_15, w_16, w_17, w_18, w_19, w_20, w_21, w_22, w_23⟩ := w
  obtain ⟨r_0, r_1, r_2, r_3, r_4, r_5⟩ := r
  rw [rel_mk] at hR
  simp only [sc_h_mk, sc_m0_mk, sc_m1_mk, sc_m2_mk, sc_m3_mk, sc_d_mk, sc_s_mk, sc_r_mk, sc_k2_mk, sc_k3_mk, c_h, c_m0, c_m1, c_m2, c_m3, c_d, c_s, c_r, rel_mk]
  have h1 : r_0 = b := h1
  have h2 : r_1 = l := h2
  subst h1 h2
  exact hR
theorem s_read : sim_read Rel := by
  intro c w hR
  obtain ⟨L, t1, t2, t3, t4⟩ := hR.2.2.1
  have t2 : pR_length (c_r c) = nI L := t2
  have t3 : pL_texted w = nI L := t3
  have t4 : ∀ k, k < L → pR_bytes (c_r c) k = pL_text w k := t4
  have hr : c_r c = (pR_bytes (c_r c), nI L, pR_token (c_r c), pR_start (c_r c), pR_next (c_r c), pR_number (c_r c)) := by
    rw [← t2]
  have hb := read_both (b := pR_bytes (c_r c)) (L := L) (w := w) ⟨t1, t3, t4⟩ (pR_token (c_r c)) (pR_start (c_r c)) (pR_next (c_r c)) (pR_number (c_r c)) (c_m1 c)
  rw [← hr] at hb
  rcases hb with ⟨x, t, s, n, m, u, w', g1, g2, g3, g4⟩ | ⟨k, t, s, n, m, u, w', base, g1, g2, g3, g4, g5, v, s1, p1, hM⟩
  · refine simR (x := (x, sc_m1 (sc_r c (pR_bytes (c_r c), nI L, t, s, n, m)) u)) (y := (x, w')) ?_ g2 rfl (rel_m1 (rel_r (rel_kp hR g4.1 (fun k hk => (g4.2 k hk).symm)) t s n m rfl t2) u)
    unfold f_X10_read
    rw [g1, Option.bind_some, lt_eq, if_pos g3]
  · subst g4
    have hRb : Rel (sc_m1 (sc_r c (pR_bytes (c_r c), nI L, t, s, n, m)) u) base := rel_m1 (rel_r (rel_kp hR g5.1 (fun k hk => (g5.2 k hk).symm)) t s n m rfl t2) u
    obtain ⟨u2, b1, b2⟩ := rm_becomes (c_m0 (sc_m1 (sc_r c (pR_bytes (c_r c), nI L, t, s, n, m)) u)) hM
    refine simR (x := (nI (k + 1), sc_m0 (sc_m1 (sc_r c (pR_bytes (c_r c), nI L, t, s, n, m)) u) u2)) (y := (nI (k + 1), sL_w base (fun j => if 0 ≤ j ∧ j < 0 + 152 then pL_w base (456 + (j - 0)) else pL_w base j))) ?_ g2 rfl (rel_set hRb ⟨v, s1, p1, RM_congr (fun j hj => ?_) b2⟩ (fun j hj _ => (if_neg (by omega)).symm))
    · unfold f_X10_read
      rw [g1, Option.bind_some, lt_eq, if_neg (show ¬ nI (k + 1) ≤ 0 from fun h => by have := (le_nI (b := 0) (by omega) (by omega)).mp h; omega), show c_m1 (sc_m1 (sc_r c (pR_bytes (c_r c), nI L, t, s, n, m)) u) = u from rfl, b1, Option.bind_some, lt_eq]
    · unfold row4
      show pL_w base (456 + j) = (if 0 ≤ j ∧ j < 0 + 152 then pL_w base (456 + (j - 0)) else pL_w base j)
      rw [if_pos (by omega), Nat.sub_zero]
