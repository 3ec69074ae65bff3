-- ===== the text: numbers, stops, words =====
theorem num_both {b : Nat → Int32} {w : LSt} {L : Nat} (hT : TXT b w L) {p : Nat} (hp : p ≤ L) (t s m s2 iw ig v : Int32) (lo hi : Int32) : ∃ q e t' m' iw' ig' v' x ok, p ≤ q ∧ q ≤ e ∧ e ≤ L ∧ f_X6_readNumber (b, nI L, t, s, nI p, m) lo hi = some (x, (b, nI L, t', nI q, nI e, m')) ∧ f_X11_takesNumber (wT w (nI p) s2 iw ig v) lo hi = some (ok, wT w (nI e) (nI q) iw' ig' v') ∧ (ok = 0 ∧ x = -1 ∨ ok = 1 ∧ x = v' ∧ inR x.toInt lo.toInt hi.toInt) := by
  have hL := hT.1
  obtain ⟨q, e, t', m', iw', ig', g1, g2, g3, g4, g5, g6, g7⟩ := tok_both hT hp t s m s2 iw ig v
  have cne : ¬ t' = 2 → f_X6_readNumber (b, nI L, t, s, nI p, m) lo hi = some (-1, (b, nI L, t', nI q, nI e, m')) := by
    intro h2
    unfold f_X6_readNumber
    rw [g5, Option.bind_some, if_neg (show ¬ pR_token (b, nI L, t', nI q, nI e, m') = 2 from h2)]
  have l0 : ig' = 0 → f_X11_takesNumber (wT w (nI p) s2 iw ig v) lo hi = some (0, wT w (nI e) (nI q) iw' ig' 0) := by
    intro h
    unfold f_X11_takesNumber
    rw [g6, Option.bind_some, lt_eq, wT_vl, (wT_p w (nI e) (nI q) iw' ig' 0).2.2.2.1, if_pos h]
  rcases g7 with ⟨k1, k2, k3, k4⟩ | ⟨k1, k2, k3, k4, k5⟩ | ⟨k1, k2, k3, k4, k5, k6, k7⟩ | ⟨k1, k2, k3, k4⟩
  · exact ⟨q, e, t', m', iw', ig', 0, -1, 0, g1, g2, g3, cne (by rw [k2]; decide), l0 k4, Or.inl ⟨rfl, rfl⟩⟩
  · exact ⟨q, e, t', m', iw', ig', 0, -1, 0, g1, g2, g3, cne (by rw [k2]; decide), l0 k4, Or.inl ⟨rfl, rfl⟩⟩
  · have hd : ∀ X, (if nI (e - q) ≤ 2 then lp (f_X11_takesNumber_s36 lo hi) 1000 (nI q, wT w (nI e) (nI q) iw' ig' 0) else some (0, wT w (nI e) (nI q) iw' ig' 0)) = X → f_X11_takesNumber (wT w (nI p) s2 iw ig v) lo hi = X := by
      intro X hX
      unfold f_X11_takesNumber
      rw [g6, Option.bind_some, lt_eq, wT_vl, (wT_p w (nI e) (nI q) iw' ig' 0).2.2.2.1, if_neg (by rw [k4]; decide), (wT_p w (nI e) (nI q) iw' ig' 0).1, (wT_p w (nI e) (nI q) iw' ig' 0).2.1, nI_sub g2]
      exact hX
    by_cases c2 : 2 < e - q
    · rw [if_pos c2] at k2
      refine ⟨q, e, t', m', iw', ig', 0, -1, 0, g1, g2, g3, cne (by rw [k2]; decide), hd _ ?_, Or.inl ⟨rfl, rfl⟩⟩
      exact if_neg (fun h => by have := (le_nI (b := 2) (by omega) (by omega)).mp h; omega)
    · rw [if_neg c2] at k2
      have hlp : lp (f_X11_takesNumber_s36 lo hi) 1000 (nI q, wT w (nI e) (nI q) iw' ig' 0) = f_X11_takesNumber_j70 lo hi (wT w (nI e) (nI q) iw' ig' (nm b q (e - q))) := by
        refine lp_run1 (step := f_X11_takesNumber_s36 lo hi) (fun k => (nI (q + k), wT w (nI e) (nI q) iw' ig' (nm b q k))) (e - q) (by omega) rfl (fun k K hk => ?_) (fun K => ?_)
        · have p1 := (wT_p w (nI e) (nI q) iw' ig' (nm b q k)).1
          have p5 := (wT_p w (nI e) (nI q) iw' ig' (nm b q k)).2.2.2.2.1
          unfold f_X11_takesNumber_s36
          dsimp only
          rw [p1, p5, if_neg (show ¬ nI e ≤ nI (q + k) by rw [le_nI (by omega) (by omega)]; omega), byteL hT _ _ _ _ _ (by omega), Option.bind_some, if_pos (by omega), lt_eq, wT_vl, nI_1]
          rfl
        · have p1 := (wT_p w (nI e) (nI q) iw' ig' (nm b q (e - q))).1
          unfold f_X11_takesNumber_s36
          dsimp only
          rw [p1, if_pos (show nI e ≤ nI (q + (e - q)) by rw [le_nI (by omega) (by omega)]; omega)]
      have j70 : ∀ y, f_X11_in (nm b q (e - q)).toInt64 lo.toInt64 hi.toInt64 = some y → (y = 0 ∨ y = 1) → f_X11_takesNumber (wT w (nI p) s2 iw ig v) lo hi = some (y, wT w (nI e) (nI q) iw' ig' (nm b q (e - q))) := by
        intro y h1 h2
        refine hd _ ?_
        rw [if_pos (show nI (e - q) ≤ 2 from (le_nI (b := 2) (by omega) (by omega)).mpr (by omega)), hlp]
        unfold f_X11_takesNumber_j70
        rw [(wT_p w (nI e) (nI q) iw' ig' (nm b q (e - q))).2.2.2.2.1, h1, Option.bind_some, if_pos h2]
      rcases inR_dec (nm b q (e - q)).toInt lo.toInt hi.toInt with h | h
      · refine ⟨q, e, t', m', iw', ig', nm b q (e - q), nm b q (e - q), 1, g1, g2, g3, ?_, j70 1 (in_t (by rw [Int32.toInt_toInt64, Int32.toInt_toInt64, Int32.toInt_toInt64]; exact h)) (Or.inr rfl), Or.inr ⟨rfl, rfl, h⟩⟩
        unfold f_X6_readNumber
        rw [g5, Option.bind_some, if_pos (show pR_token (b, nI L, t', nI q, nI e, m') = 2 from k2), show pR_number (b, nI L, t', nI q, nI e, m') = nm b q (e - q) from k6, within_t h, Option.bind_some, if_neg one0]
      · refine ⟨q, e, t', m', iw', ig', nm b q (e - q), -1, 0, g1, g2, g3, ?_, j70 0 (in_f (by rw [Int32.toInt_toInt64, Int32.toInt_toInt64, Int32.toInt_toInt64]; exact h)) (Or.inl rfl), Or.inl ⟨rfl, rfl⟩⟩
        unfold f_X6_readNumber
        rw [g5, Option.bind_some, if_pos (show pR_token (b, nI L, t', nI q, nI e, m') = 2 from k2), show pR_number (b, nI L, t', nI q, nI e, m') = nm b q (e - q) from k6, within_f h, Option.bind_some, if_pos rfl]
  · refine ⟨q, e, t', m', iw', ig', 0, -1, 0, g1, g2, g3, cne ?_, l0 k4, Or.inl ⟨rfl, rfl⟩⟩
    rw [k2]
    by_cases c : b q = 59
    · rw [if_pos c]; decide
    · rw [if_neg c]; decide
theorem stop_both {b : Nat → Int32} {w : LSt} {L : Nat} (hT : TXT b w L) {p : Nat} (hp : p ≤ L) (t s m s2 iw ig v : Int32) : (∃ q e t' m' iw' ig' y, f_X6_readsStop (b, nI L, t, s, nI p, m) = some (0, (b, nI L, t', nI q, nI e, m')) ∧ f_X11_token (wT w (nI p) s2 iw ig v) = some (wT w (nI e) (nI q) iw' ig' v) ∧ f_X11_byteAt (wT w (nI e) (nI q) iw' ig' v) (nI q) = some y ∧ ¬ y = 59) ∨ (∃ q1 e1 iw1 ig1 q e t' m' iw' ig', f_X6_readsStop (b, nI L, t, s, nI p, m) = some (1, (b, nI L, t', nI q, nI e, m')) ∧ f_X11_token (wT w (nI p) s2 iw ig v) = some (wT w (nI e1) (nI q1) iw1 ig1 v) ∧ f_X11_byteAt (wT w (nI e1) (nI q1) iw1 ig1 v) (nI q1) = some 59 ∧ f_X11_token (wT w (nI e1) (nI q1) iw1 ig1 v) = some (wT w (nI e) (nI q) iw' ig' v) ∧ p < q ∧ q ≤ e ∧ e ≤ L ∧ (q < L → q < e) ∧ KIND b L q e t' m' iw' ig') := by
  have hL := hT.1
  obtain ⟨q, e, t', m', iw', ig', g1, g2, g3, g4, g5, g6, g7⟩ := tok_both hT hp t s m s2 iw ig v
  have no : ¬ t' = 3 → f_X6_readsStop (b, nI L, t, s, nI p, m) = some (0, (b, nI L, t', nI q, nI e, m')) := by
    intro h
    unfold f_X6_readsStop
    rw [g5, Option.bind_some, if_neg (show ¬ pR_token (b, nI L, t', nI q, nI e, m') = 3 from h)]
  have lb := byteL hT (k := q) (nI e) (nI q) iw' ig' v (by omega)
  rcases g7 with ⟨k1, k2, k3, k4⟩ | ⟨k1, k2, k3, k4, k5⟩ | ⟨k1, k2, k3, k4, k5, k6, k7⟩ | ⟨k1, k2, k3, k4⟩
  · refine Or.inl ⟨q, e, t', m', iw', ig', -1, no (by rw [k2]; decide), g6, ?_, by decide⟩
    rw [lb, if_neg (by omega)]
  · refine Or.inl ⟨q, e, t', m', iw', ig', b q, no (by rw [k2]; decide), g6, ?_, k5⟩
    rw [lb, if_pos k1]
  · refine Or.inl ⟨q, e, t', m', iw', ig', b q, no ?_, g6, ?_, k5⟩
    · rw [k2]
      by_cases c : 2 < e - q
      · rw [if_pos c]; decide
      · rw [if_neg c]; decide
    · rw [lb, if_pos k1]
  · by_cases c : b q = 59
    · rw [if_pos c] at k2
      obtain ⟨q2, e2, t2, m2, iw2, ig2, h1, h2, h3, h4, h5, h6, h7⟩ := tok_both hT g3 t' (nI q) m' (nI q) iw' ig' v
      have := g4 k1
      refine Or.inr ⟨q, e, iw', ig', q2, e2, t2, m2, iw2, ig2, ?_, g6, ?_, h6, by omega, h2, h3, h4, h7⟩
      · unfold f_X6_readsStop
        rw [g5, Option.bind_some, if_pos (show pR_token (b, nI L, t', nI q, nI e, m') = 3 from k2), h5, Option.bind_some]
      · rw [lb, if_pos k1, c]
    · rw [if_neg c] at k2
      refine Or.inl ⟨q, e, t', m', iw', ig', b q, no (by rw [k2]; decide), g6, ?_, c⟩
      rw [lb, if_pos k1]
-- words
def nmd (b : Nat → Int32) (q e si : Nat) : Bool := decide (e - q = lenS.getD si 0) && !anyF (fun k => !decide (b (q + k) = chS si k)) 0 (lenS.getD si 0)
theorem nmd_iff {b : Nat → Int32} {q e si : Nat} : nmd b q e si = true ↔ e - q = lenS.getD si 0 ∧ ∀ k, k < lenS.getD si 0 → b (q + k) = chS si k := by
  unfold nmd
  rw [Bool.and_eq_true, decide_eq_true_eq, Bool.not_eq_true', ← Bool.not_eq_true, anyF_iff]
  constructor
  · rintro ⟨h1, h2⟩
    refine ⟨h1, fun k hk => Classical.byContradiction (fun hn => h2 ⟨k, by omega, by omega, ?_⟩)⟩
    rw [decide_eq_false hn]
    rfl
  · rintro ⟨h1, h2⟩
    refine ⟨h1, ?_⟩
    rintro ⟨i, -, hi, h3⟩
    rw [decide_eq_true (h2 i (by omega))] at h3
    exact absurd h3 (by decide)
theorem nmd_ex {b : Nat → Int32} {q e : Nat} (h : nmd b q e 0 = true) : ∀ i, 0 < i → i < 5 → ¬ nmd b q e i = true := by
  intro i h1 h2 hi
  obtain ⟨a1, a2⟩ := nmd_iff.mp h
  obtain ⟨b1, b2⟩ := nmd_iff.mp hi
  have l0 : lenS.getD 0 0 = 6 := rfl
  have hc : i = 1 ∨ i = 2 ∨ i = 3 ∨ i = 4 := by omega
  rcases hc with rfl | rfl | rfl | rfl
  · rw [show lenS.getD 1 0 = 5 from rfl] at b1
    omega
  · have e1 := a2 0 (by decide)
    have e2 := b2 0 (by decide)
    rw [e1] at e2
    exact absurd e2 (by decide)
  · rw [show lenS.getD 3 0 = 4 from rfl] at b1
    omega
  · rw [show lenS.getD 4 0 = 5 from rfl] at b1
    omega
theorem word_C {b : Nat → Int32} {L q e si : Nat} (hL : L ≤ 150) (hq : q ≤ e) (he : e ≤ L) (hs : si < 5) (t m : Int32) : f_X6_isWord (b, nI L, t, nI q, nI e, m) si = some (if t = 1 ∧ nmd b q e si = true then 1 else 0) := by
  have hl := len_small si hs
  unfold f_X6_isWord
  by_cases c1 : t = 1
  · rw [if_pos (show pR_token (b, nI L, t, nI q, nI e, m) = 1 from c1), show pR_next (b, nI L, t, nI q, nI e, m) - pR_start (b, nI L, t, nI q, nI e, m) = nI (e - q) from nI_sub hq]
    by_cases c2 : e - q = lenS.getD si 0
    · rw [if_pos (show nI (e - q) = nI (lenS.getD si 0) from congrArg nI c2)]
      have hf := lp_find (step := f_X6_isWord_s28 (b, nI L, t, nI q, nI e, m) si) (fun k => nI k) (fun k => !decide (b (q + k) = chS si k)) (A := (0 : Int32)) (B := (1 : Int32)) (lenS.getD si 0) (fun k K hk => ?_) (fun K => ?_) (lenS.getD si 0) 0 1000 (by omega) (by omega)
      · refine Eq.trans hf ?_
        refine congrArg some ?_
        unfold nmd
        rw [decide_eq_true c2, Bool.true_and]
        cases anyF (fun k => !decide (b (q + k) = chS si k)) 0 (lenS.getD si 0)
        · rw [if_neg (by decide), if_pos ⟨c1, rfl⟩]
        · rw [if_pos rfl, if_neg (fun h => absurd h.2 (by decide))]
      · unfold f_X6_isWord_s28
        rw [if_neg (show ¬ nI (lenS.getD si 0) ≤ nI k by rw [le_nI (by omega) (by omega)]; omega), show pR_start (b, nI L, t, nI q, nI e, m) + nI k = nI (q + k) from nI_add q k, byteC _ _ _ _ (by omega), Option.bind_some, if_pos ((inb_nI (by omega)).mpr hk), cl_nI (by omega), nI_1]
        by_cases c3 : b (q + k) = chS si k
        · rw [if_pos c3, decide_eq_true c3, if_neg (by decide)]
        · rw [if_neg c3, decide_eq_false c3, if_pos (by decide)]
      · unfold f_X6_isWord_s28
        exact if_pos (Int32.le_refl _)
    · rw [if_neg (show ¬ nI (e - q) = nI (lenS.getD si 0) from fun h => c2 ((eq_nI (by omega) (by omega)).mp h)), if_neg (fun h => c2 (nmd_iff.mp h.2).1)]
  · rw [if_neg (show ¬ pR_token (b, nI L, t, nI q, nI e, m) = 1 from c1), if_neg (fun h => c1 h.1)]
