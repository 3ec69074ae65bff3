-- ===== the text: items =====
def FR (w0 w : LSt) : Prop := Kp w0 w ∧ ∀ k, k < 456 → pL_w w k = pL_w w0 k
def row4 (w : LSt) (k : Nat) : Int32 := pL_w w (456 + k)
theorem FR_w {w0 w : LSt} (h : FR w0 w) {f : Nat → Int32} (hf : ∀ k, k < 456 → f k = pL_w w k) : FR w0 (sL_w w f) := by
  refine ⟨Kp_trans h.1 (kp_w w f).1, fun k hk => ?_⟩
  rw [wW, hf k hk]
  exact h.2 k hk
theorem TXT_w {b : Nat → Int32} {w : LSt} {L : Nat} (hT : TXT b w L) (f : Nat → Int32) : TXT b (sL_w w f) L := by
  obtain ⟨h1, h2, h3⟩ := hT
  have k := (kp_w w f).1
  refine ⟨h1, ?_, ?_⟩
  · rw [k.2.2.1]; exact h2
  · rw [k.2.1]; exact h3
def FAIL (b : Nat → Int32) (L : Nat) (w0 : LSt) (r : RSt) (w : LSt) : Prop := ∃ t q e m, r = (b, nI L, t, nI q, e, m) ∧ q ≤ 150 ∧ pL_start w = nI q ∧ FR w0 w
def OKK (b : Nat → Int32) (L : Nat) (w0 : LSt) (p : Nat) (r : RSt) (u : MSt) (w : LSt) : Prop := ∃ q e t m iw ig v base, r = (b, nI L, t, nI q, nI e, m) ∧ w = wT base (nI e) (nI q) iw ig v ∧ p < q ∧ q ≤ e ∧ e ≤ L ∧ (q < L → q < e) ∧ KIND b L q e t m iw ig ∧ TXT b base L ∧ FR w0 base ∧ RelN u (row4 base)
def ITM (b : Nat → Int32) (L : Nat) (w0 : LSt) (p : Nat) (oc : Option (Int32 × RSt × MSt)) (ol : Option (Int32 × LSt)) : Prop := (∃ r u w, oc = some (0, r, u) ∧ ol = some (0, w) ∧ FAIL b L w0 r w) ∨ (∃ r u w1 w2, oc = some (1, r, u) ∧ ol = some (1, w1) ∧ f_X11_token w1 = some w2 ∧ OKK b L w0 p r u w2)
theorem FR_T {w0 w : LSt} (h : FR w0 w) (a s i g v : Int32) : FR w0 (wT w a s i g v) := by
  refine ⟨Kp_trans h.1 (wT_kp w a s i g v), fun k hk => ?_⟩
  rw [(wT_p w a s i g v).2.2.2.2.2.2.2]
  exact h.2 k hk
/-- a number fails -/
theorem itm_no {b : Nat → Int32} {L : Nat} {w0 w : LSt} {p q e : Nat} {t m iw ig v : Int32} {u : MSt} (hF : FR w0 w) (hL : L ≤ 150) (hq : q ≤ e) (he : e ≤ L) : ITM b L w0 p (some (0, (b, nI L, t, nI q, nI e, m), u)) (some (0, wT w (nI e) (nI q) iw ig v)) := Or.inl ⟨_, _, _, rfl, rfl, t, q, nI e, m, rfl, by omega, (wT_p w (nI e) (nI q) iw ig v).2.1, FR_T hF _ _ _ _ _⟩
/-- the stop behind an item, and what comes next -/
theorem itm_fin {b : Nat → Int32} {L : Nat} {w0 w : LSt} {p0 p : Nat} (hT : TXT b w L) (hF : FR w0 w) (hp0 : p0 ≤ p) (hp : p ≤ L) (t s m s2 iw ig v a1 : Int32) {u u' : MSt} (hN : RelN u' (row4 w)) {A : Option MSt} (hA : A = some u') : ITM b L w0 p0 ((f_X6_readsStop (b, nI L, t, s, nI p, m)).bind fun x => (if x.1 = 0 then some ((0 : Int32), x.2, u) else A.bind fun y => some ((1 : Int32), x.2, y))) (f_X11_takesItem_j61 a1 1 (wT w (nI p) s2 iw ig v)) := by
  have hL := hT.1
  subst hA
  rcases stop_both hT hp t s m s2 iw ig v with ⟨q, e, t', m', iw', ig', y, g1, g2, g3, g4⟩ | ⟨q1, e1, iw1, ig1, q, e, t', m', iw', ig', g1, g2, g3, g4, g5, g6, g7, g8, g9⟩
  · obtain ⟨q', e', t2, m2, iw2, ig2, h1, h2, h3, h4, h5, h6, h7⟩ := tok_both hT hp t s m s2 iw ig v
    rw [h6] at g2
    have e1 := congrArg pL_start (Option.some.inj g2)
    rw [(wT_p w _ _ _ _ _).2.1, (wT_p w _ _ _ _ _).2.1] at e1
    have e2 := congrArg pL_at (Option.some.inj g2)
    rw [(wT_p w _ _ _ _ _).1, (wT_p w _ _ _ _ _).1] at e2
    rw [g1, Option.bind_some, if_pos rfl, ← e1]
    unfold f_X11_takesItem_j61
    rw [if_neg one0, h6, Option.bind_some, (wT_p w _ _ _ _ _).2.1]
    rw [← Option.some.inj g2, ← e1] at g3
    rw [g3, Option.bind_some, if_neg g4]
    exact Or.inl ⟨_, _, _, rfl, rfl, t', q', nI e, m', rfl, by omega, (wT_p w _ _ _ _ _).2.1, FR_T hF _ _ _ _ _⟩
  · rw [g1, Option.bind_some, if_neg one0, Option.bind_some]
    unfold f_X11_takesItem_j61
    rw [if_neg one0, g2, Option.bind_some, (wT_p w _ _ _ _ _).2.1, g3, Option.bind_some, if_pos rfl]
    exact Or.inr ⟨_, _, _, _, rfl, rfl, g4, q, e, t', m', iw', ig', v, w, rfl, rfl, by omega, g6, g7, g8, g9, hT, hF, hN⟩
theorem ge0 {x : Int32} {hi : Int} (h : inR x.toInt 0 hi) : 0 ≤ x := Int32.le_iff_toInt_le.mpr (by rw [ti_0]; exact h.1)
theorem nlt0 {x : Int32} {lo hi : Int} (hlo : 0 ≤ lo) (h : inR x.toInt lo hi) : ¬ x < 0 := fun e => by have := Int32.lt_iff_toInt_lt.mp e; rw [ti_0] at this; have := h.1; omega
theorem m1ge : ¬ (0 : Int32) ≤ -1 := by decide
theorem m1lt : (-1 : Int32) < 0 := by decide
-- market
theorem market_both {b : Nat → Int32} {L : Nat} {w0 w : LSt} {p : Nat} (hT : TXT b w L) (hF : FR w0 w) (hp : p ≤ L) (t s m s2 iw ig v a1 : Int32) (u : MSt) : ITM b L w0 p ((f_X6_readNumber (b, nI L, t, s, nI p, m) (0 : Int32) (99 : Int32)).bind fun x15 => (if 0 ≤ x15.1 then (f_X6_readNumber x15.2 (0 : Int32) (9 : Int32)).bind fun x29 => (if x29.1 < 0 then some ((0 : Int32), x29.2, u) else (f_X6_readsStop x29.2).bind fun x38 => (if x38.1 = 0 then some ((0 : Int32), x38.2, u) else (f_X3_startAnew u x15.1 x29.1).bind fun x49 => (some ((1 : Int32), x38.2, x49)))) else some ((0 : Int32), x15.2, u))) ((f_X11_takesMarket (wT w (nI p) s2 iw ig v)).bind fun x38 => (f_X11_takesItem_j61 a1 x38.1 x38.2)) := by
  have hL := hT.1
  have j0 : ∀ g, f_X11_takesItem_j61 a1 0 g = some (0, g) := by
    intro g
    unfold f_X11_takesItem_j61
    exact if_pos rfl
  unfold f_X11_takesMarket
  obtain ⟨q, e, t1, m1, iw1, ig1, v1, x1, ok1, g1, g2, g3, g4, g5, g6⟩ := num_both hT hp t s m s2 iw ig v 0 99
  rw [g4, g5, Option.bind_some, Option.bind_some]
  rcases g6 with ⟨rfl, rfl⟩ | ⟨rfl, rfl, h1⟩
  · rw [if_neg m1ge, if_pos rfl, Option.bind_some, j0]
    exact itm_no hF hL g2 g3
  · have h1 : inR x1.toInt 0 99 := h1
    rw [if_pos (ge0 h1), if_neg one0]
    obtain ⟨q', e', t2, m2, iw2, ig2, v2, x2, ok2, k1, k2, k3, k4, k5, k6⟩ := num_both hT g3 t1 (nI q) m1 (nI q) iw1 ig1 x1 0 9
    rw [k4, k5, Option.bind_some, Option.bind_some]
    rcases k6 with ⟨rfl, rfl⟩ | ⟨rfl, rfl, h2⟩
    · rw [if_pos m1lt, if_pos rfl, Option.bind_some, j0]
      exact itm_no hF hL k2 k3
    · have h2 : inR x2.toInt 0 9 := h2
      rw [if_neg (nlt0 (by omega) h2), if_neg one0, (wT_p w _ _ _ _ _).2.2.2.2.1, (wT_p w _ _ _ _ _).2.2.2.2.1, show (456 : Int32) = nI 456 from rfl, begins_L (wT w (nI e') (nI q') iw2 ig2 x2) (r := 456) x1 x2 (by omega), Option.bind_some, Option.bind_some, wT_w, (wT_p w _ _ _ _ _).2.2.2.2.2.2.2]
      refine itm_fin (w := sL_w w (beginsF 456 x1 x2 (pL_w w))) (TXT_w hT _) (FR_w hF (fun k hk => ?_)) (by omega) k3 t2 (nI q') m2 (nI q') iw2 ig2 x2 a1 ?_ (anew_C u x1 x2)
      · unfold beginsF
        rw [if_neg (by omega), upd_ne _ _ _ _ (by omega), upd_ne _ _ _ _ (by omega), if_neg (by omega)]
      · have := rm_anew u (pL_w w) (h := x2) (r := 456) h1
        have e : row4 (sL_w w (beginsF 456 x1 x2 (pL_w w))) = fun k => beginsF 456 x1 x2 (pL_w w) (456 + k) := by
          funext k
          unfold row4
          rw [wW]
        rw [e]
        exact ⟨_, _, _, this⟩
-- price
theorem price_both {b : Nat → Int32} {L : Nat} {w0 w : LSt} {p : Nat} (hT : TXT b w L) (hF : FR w0 w) (hp : p ≤ L) (t s m s2 iw ig v a1 : Int32) {u : MSt} (hN : RelN u (row4 w)) : ITM b L w0 p (f_X6_readsPrice (b, nI L, t, s, nI p, m) u) ((f_X11_takesHourAnd (wT w (nI p) s2 iw ig v) 1).bind fun x58 => (f_X11_takesItem_j61 a1 x58.1 x58.2)) := by
  have hL := hT.1
  have j0 : ∀ g, f_X11_takesItem_j61 a1 0 g = some (0, g) := by
    intro g
    unfold f_X11_takesItem_j61
    exact if_pos rfl
  unfold f_X11_takesHourAnd f_X6_readsPrice
  obtain ⟨q, e, t1, m1, iw1, ig1, v1, x1, ok1, g1, g2, g3, g4, g5, g6⟩ := num_both hT hp t s m s2 iw ig v 0 9
  rw [g4, g5, Option.bind_some, Option.bind_some]
  rcases g6 with ⟨rfl, rfl⟩ | ⟨rfl, rfl, h1⟩
  · rw [if_neg m1ge, if_pos rfl, Option.bind_some, j0]
    exact itm_no hF hL g2 g3
  · have h1 : inR x1.toInt 0 9 := h1
    rw [if_pos (ge0 h1), if_neg one0, if_neg (show ¬ (1 : Int32) = 3 from by decide)]
    obtain ⟨q', e', t2, m2, iw2, ig2, v2, x2, ok2, k1, k2, k3, k4, k5, k6⟩ := num_both hT g3 t1 (nI q) m1 (nI q) iw1 ig1 x1 0 99
    rw [k4, k5, Option.bind_some, Option.bind_some]
    rcases k6 with ⟨rfl, rfl⟩ | ⟨rfl, rfl, h2⟩
    · rw [if_pos m1lt, if_pos rfl, Option.bind_some, j0]
      exact itm_no hF hL k2 k3
    · have h2 : inR x2.toInt 0 99 := h2
      obtain ⟨h, hh, hh2, rfl⟩ := of_inR h1
      rw [if_neg (nlt0 (by omega) h2), if_neg one0, if_pos rfl, (wT_p w _ _ _ _ _).2.2.2.2.1, (wT_p w _ _ _ _ _).2.2.2.2.1, show (456 : Int32) = nI 456 from rfl, pricesFrom_L (wT w (nI e') (nI q') iw2 ig2 x2) (r := 456) x2 (by omega) (show h ≤ 10 by omega), Option.bind_some, Option.bind_some, wT_w, (wT_p w _ _ _ _ _).2.2.2.2.2.2.2]
      obtain ⟨vv, ss, pp, hM⟩ := hN
      refine itm_fin (w := sL_w w (fun j => if 456 + 8 + h ≤ j ∧ j < 456 + 18 then x2 else pL_w w j)) (TXT_w hT _) (FR_w hF (fun k hk => if_neg (by omega))) (by omega) k3 t2 (nI q') m2 (nI q') iw2 ig2 x2 a1 (RelN_congr (fun k hk => ?_) (rm_price (h := h) h2 hM)) (setP_C u x2 (by omega))
      unfold row4
      rw [wW]
      show (if 0 + 8 + h ≤ k ∧ k < 0 + 18 then x2 else pL_w w (456 + k)) = (if 456 + 8 + h ≤ 456 + k ∧ 456 + k < 456 + 18 then x2 else pL_w w (456 + k))
      by_cases c : 8 + h ≤ k ∧ k < 18
      · rw [if_pos (by omega), if_pos (by omega)]
      · rw [if_neg (by omega), if_neg (by omega)]
-- theirs
theorem theirs_both {b : Nat → Int32} {L : Nat} {w0 w : LSt} {p : Nat} (hT : TXT b w L) (hF : FR w0 w) (hp : p ≤ L) (t s m s2 iw ig v a1 : Int32) {u : MSt} (hN : RelN u (row4 w)) : ITM b L w0 p (f_X6_readsTheirs (b, nI L, t, s, nI p, m) u) ((f_X11_takesHourAnd (wT w (nI p) s2 iw ig v) 2).bind fun x58 => (f_X11_takesItem_j61 a1 x58.1 x58.2)) := by
  have hL := hT.1
  have j0 : ∀ g, f_X11_takesItem_j61 a1 0 g = some (0, g) := by
    intro g
    unfold f_X11_takesItem_j61
    exact if_pos rfl
  unfold f_X11_takesHourAnd f_X6_readsTheirs
  obtain ⟨q, e, t1, m1, iw1, ig1, v1, x1, ok1, g1, g2, g3, g4, g5, g6⟩ := num_both hT hp t s m s2 iw ig v 0 9
  rw [g4, g5, Option.bind_some, Option.bind_some]
  rcases g6 with ⟨rfl, rfl⟩ | ⟨rfl, rfl, h1⟩
  · rw [if_neg m1ge, if_pos rfl, Option.bind_some, j0]
    exact itm_no hF hL g2 g3
  · have h1 : inR x1.toInt 0 9 := h1
    rw [if_pos (ge0 h1), if_neg one0, if_neg (show ¬ (2 : Int32) = 3 from by decide)]
    obtain ⟨q', e', t2, m2, iw2, ig2, v2, x2, ok2, k1, k2, k3, k4, k5, k6⟩ := num_both hT g3 t1 (nI q) m1 (nI q) iw1 ig1 x1 0 99
    rw [k4, k5, Option.bind_some, Option.bind_some]
    rcases k6 with ⟨rfl, rfl⟩ | ⟨rfl, rfl, h2⟩
    · rw [if_pos m1lt, if_pos rfl, Option.bind_some, j0]
      exact itm_no hF hL k2 k3
    · have h2 : inR x2.toInt 0 99 := h2
      obtain ⟨h, hh, hh2, rfl⟩ := of_inR h1
      have e474 : (474 : Int32) + nI h = nI (474 + h) := nI_add 474 h
      rw [if_neg (nlt0 (by omega) h2), if_neg one0, if_neg (show ¬ (2 : Int32) = 1 from by decide), (wT_p w _ _ _ _ _).2.2.2.2.1, (wT_p w _ _ _ _ _).2.2.2.2.1, e474, if_pos ((inb_nI (by omega)).mpr (by omega)), lt_eq, cl_nI (by omega), Option.bind_some, wT_w, (wT_p w _ _ _ _ _).2.2.2.2.2.2.2]
      obtain ⟨vv, ss, pp, hM⟩ := hN
      refine itm_fin (w := sL_w w (upd (pL_w w) (474 + h) x2)) (TXT_w hT _) (FR_w hF (fun k hk => upd_ne _ _ _ _ (by omega))) (by omega) k3 t2 (nI q') m2 (nI q') iw2 ig2 x2 a1 (RelN_congr (fun k hk => ?_) (rm_theirs (h := h) (by omega) h2 hM)) (setT1_C u x2 (by omega))
      unfold row4
      rw [wW, upd_eq, upd_eq]
      by_cases c : k = 18 + h
      · rw [if_pos c, if_pos (by omega)]
      · rw [if_neg c, if_neg (by omega)]
-- rain
theorem rain_both {b : Nat → Int32} {L : Nat} {w0 w : LSt} {p : Nat} (hT : TXT b w L) (hF : FR w0 w) (hp : p ≤ L) (t s m s2 iw ig v a1 : Int32) {u : MSt} (hN : RelN u (row4 w)) : ITM b L w0 p (f_X6_readsRain (b, nI L, t, s, nI p, m) u) ((f_X11_takesHourAnd (wT w (nI p) s2 iw ig v) 3).bind fun x58 => (f_X11_takesItem_j61 a1 x58.1 x58.2)) := by
  have hL := hT.1
  have j0 : ∀ g, f_X11_takesItem_j61 a1 0 g = some (0, g) := by
    intro g
    unfold f_X11_takesItem_j61
    exact if_pos rfl
  unfold f_X11_takesHourAnd f_X6_readsRain
  obtain ⟨q, e, t1, m1, iw1, ig1, v1, x1, ok1, g1, g2, g3, g4, g5, g6⟩ := num_both hT hp t s m s2 iw ig v 0 9
  rw [g4, g5, Option.bind_some, Option.bind_some]
  rcases g6 with ⟨rfl, rfl⟩ | ⟨rfl, rfl, h1⟩
  · rw [if_pos m1lt, if_pos rfl, Option.bind_some, j0]
    exact itm_no hF hL g2 g3
  · have h1 : inR x1.toInt 0 9 := h1
    obtain ⟨vv, ss, pp, hM⟩ := hN
    have hr : pM_rainHours u = pL_w w 458 := hM.1.2.1.trans hM.2.1.2.1.symm
    rw [if_neg (nlt0 (by omega) h1), if_neg one0, if_pos rfl, if_pos (by decide), if_pos (by decide), lt_eq, show (458 : Int32).toNatClampNeg = 458 from rfl, Option.bind_some, (wT_p w _ _ _ _ _).2.2.2.2.1, wT_w, (wT_p w _ _ _ _ _).2.2.2.2.2.2.2, ← hr]
    have := itm_fin (w := sL_w w (upd (pL_w w) 458 (pM_rainHours u ||| (1 : Int32) <<< (x1 &&& 31)))) (w0 := w0) (p0 := p) (TXT_w hT _) (FR_w hF (fun k hk => upd_ne _ _ _ _ (by omega))) (by omega) g3 t1 (nI q) m1 (nI q) iw1 ig1 x1 a1 (u := u) (u' := sM_rainHours u (pM_rainHours u ||| (1 : Int32) <<< (x1 &&& 31))) (A := some (sM_rainHours u (pM_rainHours u ||| (1 : Int32) <<< (x1 &&& 31)))) (RelN_congr (fun k hk => ?_) ⟨_, _, _, rm_rain hM⟩) rfl
    · exact this
    · unfold row4
      rw [wW, upd_eq, upd_eq]
      by_cases c : k = 2
      · rw [if_pos c, if_pos (by omega)]
      · rw [if_neg c, if_neg (by omega)]
-- buyer
theorem buyer_both {b : Nat → Int32} {L : Nat} {w0 w : LSt} {p : Nat} (hT : TXT b w L) (hF : FR w0 w) (hp : p ≤ L) (t s m s2 iw ig v a1 : Int32) {u : MSt} {vv : VW} {ss pp : Nat} (hM : RM u (row4 w) vv ss pp) (h8 : vN vv < 8) : ITM b L w0 p (f_X6_readsBuyer (b, nI L, t, s, nI p, m) u) ((f_X11_takesBuyer (wT w (nI p) s2 iw ig v)).bind fun x58 => (f_X11_takesItem_j61 a1 x58.1 x58.2)) := by
  have hL := hT.1
  have j0 : ∀ g, f_X11_takesItem_j61 a1 0 g = some (0, g) := by
    intro g
    unfold f_X11_takesItem_j61
    exact if_pos rfl
  have h459 : pL_w w 459 = nI (vN vv) := hM.2.1.2.2.2.2.1
  have n8 : ¬ nI (vN vv) = 8 := by
    rw [i_8]
    intro h
    have := (eq_nI (by omega) (by omega)).mp h
    omega
  unfold f_X11_takesBuyer f_X6_readsBuyer
  rw [if_pos (by decide), show (459 : Int32).toNatClampNeg = 459 from rfl, (wT_p w _ _ _ _ _).2.2.2.2.2.2.2, h459, if_neg n8]
  obtain ⟨q, e, t1, m1, iw1, ig1, v1, x1, ok1, g1, g2, g3, g4, g5, g6⟩ := num_both hT hp t s m s2 iw ig v 0 5
  rw [g4, g5, Option.bind_some, Option.bind_some]
  rcases g6 with ⟨rfl, rfl⟩ | ⟨rfl, rfl, h1⟩
  · rw [if_neg m1ge, if_pos rfl, Option.bind_some, j0]
    exact itm_no hF hL g2 g3
  · have h1 : inR x1.toInt 0 5 := h1
    rw [if_pos (ge0 h1), if_neg one0]
    obtain ⟨q2, e2, t2, m2, iw2, ig2, v2, x2, ok2, k1, k2, k3, k4, k5, k6⟩ := num_both hT g3 t1 (nI q) m1 (nI q) iw1 ig1 x1 0 9
    rw [k4, k5, Option.bind_some, Option.bind_some]
    rcases k6 with ⟨rfl, rfl⟩ | ⟨rfl, rfl, h2⟩
    · rw [if_neg m1ge, if_pos rfl, Option.bind_some, j0]
      exact itm_no hF hL k2 k3
    · have h2 : inR x2.toInt 0 9 := h2
      rw [if_pos (ge0 h2), if_neg one0]
      obtain ⟨q3, e3, t3, m3, iw3, ig3, v3, x3, ok3, l1, l2, l3, l4, l5, l6⟩ := num_both hT k3 t2 (nI q2) m2 (nI q2) iw2 ig2 x2 0 99
      rw [l4, l5, Option.bind_some, Option.bind_some]
      rcases l6 with ⟨rfl, rfl⟩ | ⟨rfl, rfl, h3⟩
      · rw [if_neg m1ge, if_pos rfl, Option.bind_some, j0]
        exact itm_no hF hL l2 l3
      · have h3 : inR x3.toInt 0 99 := h3
        rw [if_pos (ge0 h3), if_neg one0]
        obtain ⟨q4, e4, t4, m4, iw4, ig4, v4, x4, ok4, o1, o2, o3, o4, o5, o6⟩ := num_both hT l3 t3 (nI q3) m3 (nI q3) iw3 ig3 x3 1 3
        rw [o4, o5, Option.bind_some, Option.bind_some]
        rcases o6 with ⟨rfl, rfl⟩ | ⟨rfl, rfl, h4⟩
        · rw [if_pos m1lt, if_pos rfl, Option.bind_some, j0]
          exact itm_no hF hL o2 o3
        · have h4 : inR x4.toInt 1 3 := h4
          obtain ⟨k, hk, -, rfl⟩ := of_inR h1
          obtain ⟨h, hh, -, rfl⟩ := of_inR h2
          have hm := rm_buyer (k := k) (h := h) (a3 := x3) h8 (by omega) (by omega) h4 hM
          rw [if_neg (nlt0 (by omega) h4), if_neg one0, (wT_p w _ _ _ _ _).2.2.2.2.1, (wT_p w _ _ _ _ _).2.2.2.2.1, (wT_p w _ _ _ _ _).2.2.2.2.1, (wT_p w _ _ _ _ _).2.2.2.2.1, show (456 : Int32) = nI 456 from rfl, adds_L (wT w (nI e4) (nI q4) iw4 ig4 x4) (r := 456) (b := vN vv) (nI k) (nI h) x3 x4 (by omega) h8 (by rw [(wT_p w _ _ _ _ _).2.2.2.2.2.2.2]; exact h459), Option.bind_some, if_neg (show ¬ nI (vN vv) < 0 from fun h => by have := (lt_nI (b := 0) (by omega) (by omega)).mp h; omega), Option.bind_some, wT_w, (wT_p w _ _ _ _ _).2.2.2.2.2.2.2]
          refine itm_fin (w := sL_w w (addsF 456 (vN vv) (nI k) (nI h) x3 x4 (pL_w w))) (TXT_w hT _) (FR_w hF (fun j hj => ?_)) (by omega) o3 t4 (nI q4) m4 (nI q4) iw4 ig4 x4 a1 (RelN_congr (fun j hj => ?_) ⟨_, _, _, hm⟩) (addBuyer_C u (nI k) (nI h) x3 x4 h8 hM.1.2.2.2.2.1)
          · unfold addsF
            rw [upd_ne _ _ _ _ (by omega), upd_ne _ _ _ _ (by omega), upd_ne _ _ _ _ (by omega), upd_ne _ _ _ _ (by omega), upd_ne _ _ _ _ (by omega), upd_ne _ _ _ _ (by omega)]
          · have es : ∀ (f : Nat → Int32) (z : Int32) (i : Nat), upd f (456 + i) z (456 + j) = upd (fun k => f (456 + k)) i z j := by
              intro f z i
              rw [upd_eq, upd_eq]
              by_cases c : j = i
              · rw [if_pos c, if_pos (by omega)]
              · rw [if_neg c, if_neg (by omega)]
            show addsF 0 (vN vv) (nI k) (nI h) x3 x4 (row4 w) j = pL_w (sL_w w (addsF 456 (vN vv) (nI k) (nI h) x3 x4 (pL_w w))) (456 + j)
            rw [wW]
            unfold addsF
            simp only [upd_eq, row4]
            by_cases c7 : j = 0 + 7
            · rw [if_pos c7, if_pos (by omega)]
            · rw [if_neg c7, if_neg (show ¬ 456 + j = 456 + 7 by omega)]
              by_cases c3 : j = 0 + 3
              · rw [if_pos c3, if_pos (by omega)]
              · rw [if_neg c3, if_neg (show ¬ 456 + j = 456 + 3 by omega)]
                by_cases c52 : j = 0 + 52 + vN vv
                · rw [if_pos c52, if_pos (by omega)]
                · rw [if_neg c52, if_neg (show ¬ 456 + j = 456 + 52 + vN vv by omega)]
                  by_cases c44 : j = 0 + 44 + vN vv
                  · rw [if_pos c44, if_pos (by omega)]
                  · rw [if_neg c44, if_neg (show ¬ 456 + j = 456 + 44 + vN vv by omega)]
                    by_cases c36 : j = 0 + 36 + vN vv
                    · rw [if_pos c36, if_pos (by omega)]
                    · rw [if_neg c36, if_neg (show ¬ 456 + j = 456 + 36 + vN vv by omega)]
                      by_cases c28 : j = 0 + 28 + vN vv
                      · rw [if_pos c28, if_pos (by omega)]
                      · rw [if_neg c28, if_neg (show ¬ 456 + j = 456 + 28 + vN vv by omega)]
-- an item behind the first
theorem item_both {b : Nat → Int32} {L : Nat} {w0 w : LSt} {q e : Nat} (hT : TXT b w L) (hF : FR w0 w) (hq : q ≤ e) (he : e ≤ L) (hqe : q < e) {t m iw ig : Int32} (v : Int32) {a1 : Int32} (ha : ¬ a1 = 0) {u : MSt} (hN : RelN u (row4 w)) (hK : KIND b L q e t m iw ig) : ITM b L w0 q (f_X6_readsItem (b, nI L, t, nI q, nI e, m) u) (f_X11_takesItem (wT w (nI e) (nI q) iw ig v) a1) := by
  have hL := hT.1
  obtain ⟨kw1, kw2, -⟩ := kind_w hK
  have wd := wordNow_L hT hq he kw2 ig v
  have cw : ∀ si, (t = 1 ∧ nmd b q e si = true) ↔ (iw = 1 ∧ nmd b q e si = true) := fun si => ⟨fun h => ⟨kw1.mp h.1, h.2⟩, fun h => ⟨kw1.mpr h.1, h.2⟩⟩
  have c1 := (word_C (b := b) (si := 1) hL hq he (by omega) t m).trans (ite_iff (cw 1))
  have c2 := (word_C (b := b) (si := 2) hL hq he (by omega) t m).trans (ite_iff (cw 2))
  have c3 := (word_C (b := b) (si := 3) hL hq he (by omega) t m).trans (ite_iff (cw 3))
  have c4 := (word_C (b := b) (si := 4) hL hq he (by omega) t m).trans (ite_iff (cw 4))
  have nofail : ITM b L w0 q (some (0, (b, nI L, t, nI q, nI e, m), u)) (some (0, wT w (nI e) (nI q) iw ig v)) := itm_no hF hL hq he
  have grow : ∀ oc ol, ITM b L w0 e oc ol → ITM b L w0 q oc ol := by
    intro oc ol h
    rcases h with h | ⟨r, u', w1, w2, h1, h2, h3, q', e', t', m', iw', ig', v', base, g1, g2, g3, g4⟩
    · exact Or.inl h
    · exact Or.inr ⟨r, u', w1, w2, h1, h2, h3, q', e', t', m', iw', ig', v', base, g1, g2, by omega, g4⟩
  have w01 : ∀ oc ol, ITM b L w0 q oc ol → ITM b L w0 q (oc.bind fun x => if x.1 = 0 ∨ x.1 = 1 then some (x.1, x.2.1, x.2.2) else none) ol := by
    intro oc ol h
    rcases h with ⟨r, u', w', h1, h2, h3⟩ | ⟨r, u', w1, w2, h1, h2, h3, h4⟩
    · subst h1
      exact Or.inl ⟨r, u', w', rfl, h2, h3⟩
    · subst h1
      exact Or.inr ⟨r, u', w1, w2, rfl, h2, h3, h4⟩
  have w02 : ∀ oc ol, ITM b L w0 q oc ol → ITM b L w0 q (oc.bind fun x => if x.1 = 0 then some ((0 : Int32), x.2.1, x.2.2) else some ((1 : Int32), x.2.1, x.2.2)) ol := by
    intro oc ol h
    rcases h with ⟨r, u', w', h1, h2, h3⟩ | ⟨r, u', w1, w2, h1, h2, h3, h4⟩
    · subst h1
      exact Or.inl ⟨r, u', w', rfl, h2, h3⟩
    · subst h1
      exact Or.inr ⟨r, u', w1, w2, rfl, h2, h3, h4⟩
  have go : ∀ k : Int32, ¬ k = 0 → f_X11_takesItem_j19 a1 k 0 (wT w (nI e) (nI q) iw ig v) = (if k = 4 then (f_X11_takesBuyer (wT w (nI e) (nI q) iw ig v)).bind fun x50 => (f_X11_takesItem_j61 a1 x50.1 x50.2) else (f_X11_takesHourAnd (wT w (nI e) (nI q) iw ig v) k).bind fun x58 => (f_X11_takesItem_j61 a1 x58.1 x58.2)) := by
    intro k hk
    unfold f_X11_takesItem_j19 f_X11_takesItem_j28
    rw [if_neg ha, if_pos rfl, if_neg hk]
  unfold f_X6_readsItem f_X11_takesItem
  rw [wd, Option.bind_some, c1, Option.bind_some]
  by_cases d0 : iw = 1 ∧ nmd b q e 0 = true
  · have ex := nmd_ex d0.2
    rw [if_pos d0, if_neg (show ¬ (iw = 1 ∧ nmd b q e 1 = true) from fun h => ex 1 (by omega) (by omega) h.2), if_pos rfl, c2, Option.bind_some, if_neg (show ¬ (iw = 1 ∧ nmd b q e 2 = true) from fun h => ex 2 (by omega) (by omega) h.2), if_pos rfl, c3, Option.bind_some, if_neg (show ¬ (iw = 1 ∧ nmd b q e 3 = true) from fun h => ex 3 (by omega) (by omega) h.2), if_pos rfl, c4, Option.bind_some, if_neg (show ¬ (iw = 1 ∧ nmd b q e 4 = true) from fun h => ex 4 (by omega) (by omega) h.2), if_pos rfl, if_neg (show ¬ (0 : Int32) = -1 from by decide), if_pos rfl]
    unfold f_X11_takesItem_j19 f_X11_takesItem_j28
    rw [if_neg ha, if_neg one0]
    exact nofail
  · rw [if_neg d0]
    by_cases d1 : iw = 1 ∧ nmd b q e 1 = true
    · rw [if_pos d1, if_pos d1, if_neg one0, if_neg (show ¬ (1 : Int32) = -1 from by decide), if_neg one0, go 1 (by decide), if_neg (show ¬ (1 : Int32) = 4 from by decide)]
      exact w01 _ _ (grow _ _ (price_both hT hF he t (nI q) m (nI q) iw ig v a1 hN))
    · rw [if_neg d1, if_neg d1, if_pos rfl, c2, Option.bind_some]
      by_cases d2 : iw = 1 ∧ nmd b q e 2 = true
      · rw [if_pos d2, if_pos d2, if_neg one0, if_neg (show ¬ (2 : Int32) = -1 from by decide), if_neg (show ¬ (2 : Int32) = 0 from by decide), go 2 (by decide), if_neg (show ¬ (2 : Int32) = 4 from by decide)]
        exact w01 _ _ (grow _ _ (theirs_both hT hF he t (nI q) m (nI q) iw ig v a1 hN))
      · rw [if_neg d2, if_neg d2, if_pos rfl, c3, Option.bind_some]
        by_cases d3 : iw = 1 ∧ nmd b q e 3 = true
        · rw [if_pos d3, if_pos d3, if_neg one0, if_neg (show ¬ (3 : Int32) = -1 from by decide), if_neg (show ¬ (3 : Int32) = 0 from by decide), go 3 (by decide), if_neg (show ¬ (3 : Int32) = 4 from by decide)]
          exact w01 _ _ (grow _ _ (rain_both hT hF he t (nI q) m (nI q) iw ig v a1 hN))
        · rw [if_neg d3, if_neg d3, if_pos rfl, c4, Option.bind_some]
          by_cases d4 : iw = 1 ∧ nmd b q e 4 = true
          · rw [if_pos d4, if_pos d4, if_neg one0, if_neg (show ¬ (4 : Int32) = -1 from by decide), if_neg (show ¬ (4 : Int32) = 0 from by decide), go 4 (by decide), if_pos rfl]
            obtain ⟨vv, ss, pp, hM⟩ := hN
            have hn1 := hM.1.2.2.2.2.1
            have h8 := hM.1.2.2.2.2.2.1
            have h459 : pL_w w 459 = nI (vN vv) := hM.2.1.2.2.2.2.1
            by_cases c8 : vN vv < 8
            · rw [if_neg (show ¬ (8 : Int32) ≤ pM_size u by rw [hn1, i_8, le_nI (by omega) (by omega)]; omega)]
              exact w02 _ _ (grow _ _ (buyer_both hT hF he t (nI q) m (nI q) iw ig v a1 hM c8))
            · have c8' : vN vv = 8 := by omega
              rw [if_pos (show (8 : Int32) ≤ pM_size u by rw [hn1, c8']; decide)]
              unfold f_X11_takesBuyer
              rw [if_pos (by decide), show (459 : Int32).toNatClampNeg = 459 from rfl, (wT_p w _ _ _ _ _).2.2.2.2.2.2.2, h459, if_pos (show nI (vN vv) = 8 by rw [c8']; rfl), Option.bind_some]
              unfold f_X11_takesItem_j61
              rw [if_pos rfl]
              exact nofail
          · rw [if_neg d4, if_neg d4, if_pos rfl, if_pos rfl]
            exact nofail
