-- ===== the text: a token, a number, a stop =====
theorem b59l {x : Int32} (h : inR x.toInt 97 122) : ¬ x = 59 := fun e => by rw [e] at h; exact absurd h (by unfold inR; decide)
theorem b59f {x : Int32} (h : inR x.toInt 48 57) : ¬ x = 59 := fun e => by rw [e] at h; exact absurd h (by unfold inR; decide)
theorem nlf {x : Int32} (h : inR x.toInt 97 122) : ¬ inR x.toInt 48 57 := by
  unfold inR at h ⊢
  omega
theorem lp_1k {α β : Type} (step : (α → Option β) → α → Option β) (a : α) : lp step 1000 a = step (lp step 999) a := lp_succ step 999 a
theorem tok_at {b : Nat → Int32} {w : LSt} {L : Nat} (hT : TXT b w L) {q : Nat} (hq : q ≤ L) (t s m s2 iw ig v : Int32) : ∃ e t' m' iw' ig', q ≤ e ∧ e ≤ L ∧ (q < L → q < e) ∧ f_X6_step_j37 (b, nI L, t, s, nI q, m) = some (b, nI L, t', nI q, nI e, m') ∧ f_X11_token_j26 (wT w (nI q) s2 iw ig v) = some (wT w (nI e) (nI q) iw' ig' v) ∧ KIND b L q e t' m' iw' ig' := by
  have hL := hT.1
  have htx : pL_texted w = nI L := hT.2.1
  have lb : ∀ (a s i g v : Int32), q ≤ 150 → f_X11_byteAt (wT w a s i g v) (nI q) = some (if q < L then b q else -1) := fun a s i g v h => byteL hT a s i g v h
  have cT : ∀ t' m', pR_next (b, nI L, t', s, nI q, m') = nI q := fun _ _ => rfl
  -- the reference's head
  have hd : ∀ X, (∀ x62 x72, f_X11_in (if q < L then b q else -1).toInt64 97 122 = some x62 → f_X11_in (if q < L then b q else -1).toInt64 48 57 = some x72 → (x62 = 0 ∨ x62 = 1) → (x72 = 0 ∨ x72 = 1) → (if q < L then lp (f_X11_token_s103) 1000 (wT w (nI (q + 1)) (nI q) x62 x72 v) else lp (f_X11_token_s103) 1000 (wT w (nI q) (nI q) x62 x72 v)) = X) → f_X11_token_j26 (wT w (nI q) s2 iw ig v) = X := by
    intro X hX
    have i1 : ∃ x, f_X11_in (if q < L then b q else -1).toInt64 97 122 = some x ∧ (x = 0 ∨ x = 1) := by
      rcases inR_dec (if q < L then b q else -1).toInt 97 122 with h | h
      · exact ⟨1, inI_t h, Or.inr rfl⟩
      · exact ⟨0, inI_f h, Or.inl rfl⟩
    have i2 : ∃ x, f_X11_in (if q < L then b q else -1).toInt64 48 57 = some x ∧ (x = 0 ∨ x = 1) := by
      rcases inR_dec (if q < L then b q else -1).toInt 48 57 with h | h
      · exact ⟨1, inI_t h, Or.inr rfl⟩
      · exact ⟨0, inI_f h, Or.inl rfl⟩
    obtain ⟨x62, j1, j2⟩ := i1
    obtain ⟨x72, j3, j4⟩ := i2
    have hX2 := hX x62 x72 j1 j3 j2 j4
    unfold f_X11_token_j26 f_X11_token_j99
    rw [(wT_p w (nI q) s2 iw ig v).1, lt_eq, wT_st, (wT_p w (nI q) (nI q) iw ig v).1, lb _ _ _ _ _ (by omega), Option.bind_some, j1, Option.bind_some, if_pos j2, lt_eq, wT_iw, (wT_p w (nI q) (nI q) x62 ig v).1, lb _ _ _ _ _ (by omega), Option.bind_some, j3, Option.bind_some, if_pos j4, lt_eq, wT_ig, (wT_p w (nI q) (nI q) x62 x72 v).1, (wT_p w (nI q) (nI q) x62 x72 v).2.2.2.2.2.1, htx]
    by_cases c : q < L
    · rw [if_neg (show ¬ nI L ≤ nI q by rw [le_nI (by omega) (by omega)]; omega), lt_eq, wT_at, nI_1]
      rw [if_pos c] at hX2
      exact hX2
    · rw [if_pos (show nI L ≤ nI q by rw [le_nI (by omega) (by omega)]; omega), lt_eq, wT_at, Int32.add_zero]
      rw [if_neg c] at hX2
      exact hX2
  by_cases c : q < L
  · have cq : nI q < nI L := (lt_nI (by omega) (by omega)).mpr c
    have hC : ∀ X, ((f_X6_isLetter (b q)).bind fun x74 => (if x74 = 0 then (f_X6_isFigure (b q)).bind fun x124 => (if x124 = 0 then if b q = (59 : Int32) then f_X6_step_j233 (3 : Int32) (b, nI L, t, nI q, nI q, m) else f_X6_step_j233 (4 : Int32) (b, nI L, t, nI q, nI q, m) else lp (f_X6_step_s135) 1000 (b, nI L, t, nI q, nI q, (0 : Int32))) else lp (f_X6_step_s85) 1000 (b, nI L, (1 : Int32), nI q, nI q, m))) = X → f_X6_step_j37 (b, nI L, t, s, nI q, m) = X := by
      intro X hX
      unfold f_X6_step_j37
      rw [lt_eq, sR_start_mk, show pR_start (b, nI L, t, pR_next (b, nI L, t, s, nI q, m), nI q, m) = nI q from rfl, show pR_next (b, nI L, t, s, nI q, m) = nI q from rfl, byteC _ _ _ _ (by omega), Option.bind_some, if_pos (show nI q < pR_length (b, nI L, t, nI q, nI q, m) from cq), lt_eq, lt_eq, sR_number_mk, sR_token_mk]
      exact hX
    rcases inR_dec (b q).toInt 97 122 with hl | hl
    · obtain ⟨e, e1, e2, e3, e4⟩ := word_run hT 1 (nI q) m (nI q) v c 999 1000 (by omega) (by omega)
      refine ⟨e, 1, m, 1, 0, by omega, e2, fun _ => e1, hC _ ?_, hd _ (fun x62 x72 j1 j3 _ _ => ?_), Or.inr (Or.inl ⟨c, rfl, rfl, rfl, b59l hl⟩)⟩
      · rw [letC_t hl, Option.bind_some, if_neg one0, lp_1k]
        unfold f_X6_step_s85
        rw [if_neg (show ¬ pR_length (b, nI L, (1 : Int32), nI q, nI q, m) ≤ pR_next (b, nI L, (1 : Int32), nI q, nI q, m) from fun e => Int32.lt_irrefl (Int32.lt_of_lt_of_le cq e)), show pR_next (b, nI L, (1 : Int32), nI q, nI q, m) = nI q from rfl, byteC _ _ _ _ (by omega), Option.bind_some, letC_t hl, Option.bind_some, if_neg one0, lt_eq, nI_1, sR_next_mk]
        exact e3
      · rw [if_pos c] at j1 j3
        rw [inI_t hl] at j1
        rw [inI_f (nlf hl)] at j3
        obtain rfl := Option.some.inj j1
        obtain rfl := Option.some.inj j3
        rw [if_pos c]
        exact e4
    · rcases inR_dec (b q).toInt 48 57 with hf | hf
      · obtain ⟨e, e1, e2, e5, e3, e4⟩ := fig_run hT t (nI q) (nI q) v c hf 999 1000 (by omega) (by omega)
        refine ⟨e, if 2 < e - q then 4 else 2, nm b q (e - q), 0, 1, by omega, e2, fun _ => e1, hC _ ?_, hd _ (fun x62 x72 j1 j3 _ _ => ?_), Or.inr (Or.inr (Or.inl ⟨c, rfl, rfl, rfl, b59f hf, rfl, e5⟩))⟩
        · rw [letC_f hl, Option.bind_some, if_pos rfl, figC_t hf, Option.bind_some, if_neg one0, lp_1k]
          have en : nm b q 1 = 10 * 0 + b q - 48 := rfl
          have hs : ∀ K, f_X6_step_s135 K (b, nI L, t, nI q, nI q, (0 : Int32)) = K (b, nI L, t, nI q, nI (q + 1), nm b q 1) := by
            intro K
            unfold f_X6_step_s135
            rw [if_neg (show ¬ pR_length (b, nI L, t, nI q, nI q, (0 : Int32)) ≤ pR_next (b, nI L, t, nI q, nI q, (0 : Int32)) from fun e => Int32.lt_irrefl (Int32.lt_of_lt_of_le cq e)), show pR_next (b, nI L, t, nI q, nI q, (0 : Int32)) = nI q from rfl, byteC _ _ _ _ (by omega), Option.bind_some, figC_t hf, Option.bind_some, if_neg one0, Option.bind_some, lt_eq, lt_eq, sR_number_mk, sR_next_mk, show pR_number (b, nI L, t, nI q, nI q, (0 : Int32)) = 0 from rfl, ← en, show pR_next (b, nI L, t, nI q, nI q, nm b q 1) + 1 = nI (q + 1) from nI_1 q]
          rw [hs, e3]
          unfold f_X6_step_j196 f_X6_step_j215
          rw [lt_eq, lt_eq, sR_token_mk, sR_token_mk, show pR_next (b, nI L, t, nI q, nI e, nm b q (e - q)) - pR_start (b, nI L, t, nI q, nI e, nm b q (e - q)) = nI (e - q) from nI_sub (by omega)]
          by_cases c2 : 2 < e - q
          · rw [if_pos (show (2 : Int32) < nI (e - q) from (lt_nI (a := 2) (by omega) (by omega)).mpr c2), if_pos c2]
          · rw [if_neg (show ¬ (2 : Int32) < nI (e - q) from fun e => c2 ((lt_nI (a := 2) (by omega) (by omega)).mp e)), if_neg c2]
        · rw [if_pos c] at j1 j3
          rw [inI_f hl] at j1
          rw [inI_t hf] at j3
          obtain rfl := Option.some.inj j1
          obtain rfl := Option.some.inj j3
          rw [if_pos c]
          exact e4
      · refine ⟨q + 1, if b q = 59 then 3 else 4, m, 0, 0, by omega, by omega, fun _ => by omega, hC _ ?_, hd _ (fun x62 x72 j1 j3 _ _ => ?_), Or.inr (Or.inr (Or.inr ⟨c, rfl, rfl, rfl⟩))⟩
        · rw [letC_f hl, Option.bind_some, if_pos rfl, figC_f hf, Option.bind_some, if_pos rfl]
          unfold f_X6_step_j233
          rw [lt_eq, lt_eq, lt_eq, lt_eq, sR_token_mk, sR_token_mk, sR_next_mk, sR_next_mk]
          by_cases c2 : b q = 59
          · rw [if_pos c2, if_pos c2, show pR_next (b, nI L, (3 : Int32), nI q, nI q, m) + 1 = nI (q + 1) from nI_1 q]
          · rw [if_neg c2, if_neg c2, show pR_next (b, nI L, (4 : Int32), nI q, nI q, m) + 1 = nI (q + 1) from nI_1 q]
        · rw [if_pos c] at j1 j3
          rw [inI_f hl] at j1
          rw [inI_f hf] at j3
          obtain rfl := Option.some.inj j1
          obtain rfl := Option.some.inj j3
          rw [if_pos c, lp_1k]
          obtain ⟨p1, p2, p3, p4, -⟩ := wT_p w (nI (q + 1)) (nI q) 0 0 v
          unfold f_X11_token_s103 f_X11_token_j131
          rw [p3, if_pos rfl, p4, if_pos rfl]
  · have qL : q = L := by omega
    refine ⟨q, 0, m, 0, 0, Nat.le_refl _, hq, fun h => absurd h c, ?_, hd _ (fun x62 x72 j1 j3 _ _ => ?_), Or.inl ⟨qL, rfl, rfl, rfl⟩⟩
    · obtain ⟨y, hy⟩ : ∃ y, f_X6_byteAt (b, nI L, t, nI q, nI q, m) (nI q) = some y := by
        by_cases c3 : q < 150
        · exact ⟨_, byteC _ _ _ _ c3⟩
        · have : q = 150 := by omega
          subst this
          exact ⟨_, rfl⟩
      unfold f_X6_step_j37
      rw [lt_eq, sR_start_mk, show pR_start (b, nI L, t, pR_next (b, nI L, t, s, nI q, m), nI q, m) = nI q from rfl, show pR_next (b, nI L, t, s, nI q, m) = nI q from rfl, hy, Option.bind_some, if_neg (show ¬ nI q < pR_length (b, nI L, t, nI q, nI q, m) from fun e => c ((lt_nI (by omega) (by omega)).mp e)), lt_eq, sR_token_mk]
    · rw [if_neg c] at j1 j3
      rw [inI_f (show ¬ inR (-1 : Int32).toInt (97 : Int64).toInt (122 : Int64).toInt from by unfold inR; decide)] at j1
      rw [inI_f (show ¬ inR (-1 : Int32).toInt (48 : Int64).toInt (57 : Int64).toInt from by unfold inR; decide)] at j3
      obtain rfl := Option.some.inj j1
      obtain rfl := Option.some.inj j3
      rw [if_neg c, lp_1k]
      obtain ⟨p1, p2, p3, p4, -⟩ := wT_p w (nI q) (nI q) 0 0 v
      unfold f_X11_token_s103 f_X11_token_j131
      rw [p3, if_pos rfl, p4, if_pos rfl]
def TOK (b : Nat → Int32) (w : LSt) (L p : Nat) (oc : Option RSt) (ol : Option LSt) (v : Int32) : Prop := ∃ q e t' m' iw' ig', p ≤ q ∧ q ≤ e ∧ e ≤ L ∧ (q < L → q < e) ∧ oc = some (b, nI L, t', nI q, nI e, m') ∧ ol = some (wT w (nI e) (nI q) iw' ig' v) ∧ KIND b L q e t' m' iw' ig'
theorem tok_both {b : Nat → Int32} {w : LSt} {L : Nat} (hT : TXT b w L) {p : Nat} (hp : p ≤ L) (t s m s2 iw ig v : Int32) : TOK b w L p (f_X6_step (b, nI L, t, s, nI p, m)) (f_X11_token (wT w (nI p) s2 iw ig v)) v := by
  have hL := hT.1
  unfold f_X6_step f_X11_token
  refine lp_mea (sC := f_X6_step_s0) (sL := f_X11_token_s0) (fun x y => ∃ z, p ≤ z ∧ z ≤ L ∧ x = (b, nI L, t, s, nI z, m) ∧ y = wT w (nI z) s2 iw ig v) (fun x y => L - (pR_next x).toNatClampNeg) (P := fun oc ol => TOK b w L p oc ol v) (fun x y K K' hI => ?_) 150 _ _ 1000 1000 ?_ (by omega) (by omega) ?_
  · obtain ⟨z, h1, h2, rfl, rfl⟩ := hI
    have p1 := (wT_p w (nI z) s2 iw ig v).1
    have fin : TOK b w L p (f_X6_step_j37 (b, nI L, t, s, nI z, m)) (f_X11_token_j26 (wT w (nI z) s2 iw ig v)) v := by
      obtain ⟨e, t', m', iw', ig', g1, g2, g3, g4, g5, g6⟩ := tok_at hT h2 t s m s2 iw ig v
      exact ⟨z, e, t', m', iw', ig', h1, g1, g2, g3, g4, g5, g6⟩
    by_cases c : z < L
    · have nb : ¬ nI L ≤ nI z := by
        rw [le_nI (by omega) (by omega)]
        omega
      by_cases c2 : b z = 32
      · refine Or.inl ⟨(b, nI L, t, s, nI (z + 1), m), wT w (nI (z + 1)) s2 iw ig v, ⟨z + 1, by omega, by omega, rfl, rfl⟩, ?_, ?_, ?_⟩
        · show L - (nI (z + 1)).toNatClampNeg < L - (nI z).toNatClampNeg
          rw [cl_nI (by omega), cl_nI (by omega)]
          omega
        · unfold f_X6_step_s0
          rw [if_neg (show ¬ pR_length (b, nI L, t, s, nI z, m) ≤ pR_next (b, nI L, t, s, nI z, m) from nb), show pR_next (b, nI L, t, s, nI z, m) = nI z from rfl, byteC _ _ _ _ (by omega), Option.bind_some, if_pos c2, lt_eq, nI_1, sR_next_mk]
        · unfold f_X11_token_s0
          rw [p1, byteL hT _ _ _ _ _ (by omega), Option.bind_some, if_pos c, if_pos c2, lt_eq, nI_1, wT_at]
      · refine Or.inr ?_
        have e1 : f_X6_step_s0 K (b, nI L, t, s, nI z, m) = f_X6_step_j37 (b, nI L, t, s, nI z, m) := by
          unfold f_X6_step_s0
          rw [if_neg (show ¬ pR_length (b, nI L, t, s, nI z, m) ≤ pR_next (b, nI L, t, s, nI z, m) from nb), show pR_next (b, nI L, t, s, nI z, m) = nI z from rfl, byteC _ _ _ _ (by omega), Option.bind_some, if_neg c2]
        have e2 : f_X11_token_s0 K' (wT w (nI z) s2 iw ig v) = f_X11_token_j26 (wT w (nI z) s2 iw ig v) := by
          unfold f_X11_token_s0
          rw [p1, byteL hT _ _ _ _ _ (by omega), Option.bind_some, if_pos c, if_neg c2]
        rw [e1, e2]
        exact fin
    · refine Or.inr ?_
      have e1 : f_X6_step_s0 K (b, nI L, t, s, nI z, m) = f_X6_step_j37 (b, nI L, t, s, nI z, m) := by
        unfold f_X6_step_s0
        exact if_pos (show nI L ≤ nI z by rw [le_nI (by omega) (by omega)]; omega)
      have e2 : f_X11_token_s0 K' (wT w (nI z) s2 iw ig v) = f_X11_token_j26 (wT w (nI z) s2 iw ig v) := by
        unfold f_X11_token_s0
        rw [p1, byteL hT _ _ _ _ _ (by omega), Option.bind_some, if_neg c, if_neg (by decide)]
      rw [e1, e2]
      exact fin
  · show L - (nI p).toNatClampNeg ≤ 150
    omega
  · exact ⟨p, Nat.le_refl _, hp, rfl, rfl⟩
