def PD (d : DSt) (v : VW) (pay : Nat → Int32) (k : Nat) : Prop := (∀ b, b < k → pD_when d b = nI (hourN v b) ∧ pD_pays d b = pay b ∧ pD_carries d b = takesI v b ∧ pD_staysAway d b = if awayB v b = true then 1 else 0) ∧ ORD (pD_order d) (ordN v k)
theorem upd_lt (f : Nat → Int32) (k b : Nat) (z : Int32) (h : b < k) : upd f k z b = f b := by rw [upd_eq, if_neg (by omega)]
theorem upd_at (f : Nat → Int32) (k : Nat) (z : Int32) : upd f k z k = z := by rw [upd_eq, if_pos rfl]
theorem plan_step {d : DSt} {u : MSt} {v : VW} {b : Nat} (hv : VC u v) (hb : b < vN v) (hd : PD d v (paysI v) b) : ∃ d', PD d' v (paysI v) (b + 1) ∧ ∀ K, f_X2_plan_s2 u K (nI b, d) = K (nI (b + 1), d') := by
  have h1 := buysIn_spec hv hb
  have hv' := hv
  obtain ⟨-, -, hH, -, hn, h8, hbs⟩ := hv
  obtain ⟨hk, hk6, ho, h10, hW, hA⟩ := hbs b hb
  have hh := hourN_lt (v := v) h10
  have h2 := paysAt_spec hk6
  have h3 := carries_spec hk6
  have h4 := inRain_spec hk6
  have h5 := rainsIn_spec (hourN v b) hv'
  obtain ⟨A, B, s1, s2, s3, s4⟩ := ord_split v b hh
  have hlen := (ord_all v b (fun c hc => hourN_lt (hbs c (by omega)).2.2.2.1)).1
  obtain ⟨hd1, hd2⟩ := hd
  have hway : f_X2_wayOf d (nI (vK v b)) = some (vK v b) := by
    unfold f_X2_wayOf
    simp only [i_0, i_6]
    simp (disch := omega) only [lt_eq, Option.bind_some, inb_t, cl_t, le_t, le_f, lt_t, lt_f, eq_t, eq_f, nI_add, nI_1, ↓reduceIte]
  obtain ⟨d_0, d_1, d_2, d_3, d_4, d_5, d_6, d_7, d_8, d_9, d_10⟩ := d
  rw [s1] at hd2 hlen
  rw [List.length_append] at hlen
  have key : ∀ t : Int32, ∃ o', f_X2_lineUp (upd d_0 b (nI (hourN v b)), upd d_1 b (paysI v b), upd d_2 b (takesI v b), upd d_3 b t, d_4, d_5, d_6, d_7, d_8, d_9, d_10) (nI b) = some (upd d_0 b (nI (hourN v b)), upd d_1 b (paysI v b), upd d_2 b (takesI v b), upd d_3 b t, o', d_5, d_6, d_7, d_8, d_9, d_10) ∧ ORD o' (A ++ b :: B) := by
    intro t
    have k1 : ∀ c, c ≤ b → pD_when (upd d_0 b (nI (hourN v b)), upd d_1 b (paysI v b), upd d_2 b (takesI v b), upd d_3 b t, d_4, d_5, d_6, d_7, d_8, d_9, d_10) c = nI (hourN v c) := by
      intro c hc
      by_cases e : c = b
      · subst e
        exact upd_at ..
      · exact (upd_lt _ _ _ _ (by omega)).trans (hd1 c (by omega)).1
    have k2 : ∀ c, c ≤ b → hourN v c < 10 := fun c hc => hourN_lt (hbs c (by omega)).2.2.2.1
    obtain ⟨o', q1, q2⟩ := lineUp_spec (d := (upd d_0 b (nI (hourN v b)), upd d_1 b (paysI v b), upd d_2 b (takesI v b), upd d_3 b t, d_4, d_5, d_6, d_7, d_8, d_9, d_10)) (k := b) (by omega) (hour := hourN v) k1 k2 hlen hd2 s3 s4
    exact ⟨o', by rw [q1, sD_order_mk], q2⟩
  obtain ⟨o', q1, q2⟩ := key (if awayB v b = true then 1 else 0)
  refine ⟨(upd d_0 b (nI (hourN v b)), upd d_1 b (paysI v b), upd d_2 b (takesI v b), upd d_3 b (if awayB v b = true then 1 else 0), o', d_5, d_6, d_7, d_8, d_9, d_10), ⟨fun c hc => ?_, ?_⟩, fun K => ?_⟩
  · by_cases e : c = b
    · subst e
      exact ⟨upd_at .., upd_at .., upd_at .., upd_at ..⟩
    · obtain ⟨a1, a2, a3, a4⟩ := hd1 c (by omega)
      exact ⟨(upd_lt _ _ _ _ (by omega)).trans a1, (upd_lt _ _ _ _ (by omega)).trans a2, (upd_lt _ _ _ _ (by omega)).trans a3, (upd_lt _ _ _ _ (by omega)).trans a4⟩
  · rw [s2]
    exact q2
  · have j113 : ∀ t, (vp_nar .boolean t) = (if awayB v b = true then 1 else 0) → f_X2_plan_j113 u K (nI b) t (nI b) (upd d_0 b (nI (hourN v b)), upd d_1 b (paysI v b), upd d_2 b (takesI v b), d_3, d_4, d_5, d_6, d_7, d_8, d_9, d_10) = K (nI (b + 1), (upd d_0 b (nI (hourN v b)), upd d_1 b (paysI v b), upd d_2 b (takesI v b), upd d_3 b (if awayB v b = true then 1 else 0), o', d_5, d_6, d_7, d_8, d_9, d_10)) := by
      intro t ht
      unfold f_X2_plan_j113
      simp (disch := omega) only [lt_eq, Option.bind_some, inb_t, cl_t, le_t, le_f, lt_t, lt_f, eq_t, eq_f, nI_add, nI_1, ↓reduceIte, sD_when_mk, sD_pays_mk, sD_carries_mk, sD_staysAway_mk, sD_order_mk, sD_gone_mk, sD_got_mk, sD_served_mk, sD_left_mk, sD_takings_mk, sD_theirTakings_mk, pD_when, pD_pays, pD_carries, pD_staysAway, pD_order, pD_gone, pD_got, pD_served, pD_left, pD_takings, pD_theirTakings, ht, q1]
    unfold f_X2_plan_s2 f_X2_plan_j112
    rw [hn]
    simp only [i_8]
    simp (disch := omega) only [lt_eq, Option.bind_some, inb_t, cl_t, le_t, le_f, lt_t, lt_f, eq_t, eq_f, nI_add, nI_1, ↓reduceIte, hk, ho, hW, hA, hH, hway, h1, h2, h3, h4, h5, hk6, sD_when_mk, sD_pays_mk, sD_carries_mk, sD_staysAway_mk, sD_order_mk, sD_gone_mk, sD_got_mk, sD_served_mk, sD_left_mk, sD_takings_mk, sD_theirTakings_mk, pD_when, pD_pays, pD_carries, pD_staysAway, pD_order, pD_gone, pD_got, pD_served, pD_left, pD_takings, pD_theirTakings]
    have ha : awayB v b = (rainB v (hourN v b) && !(vK v b == 2 || vK v b == 4)) := rfl
    have j0 := j113 0
    have j1 := j113 1
    rw [nar0] at j0
    rw [nar1] at j1
    clear j113
    generalize K (nI (b + 1), (upd d_0 b (nI (hourN v b)), upd d_1 b (paysI v b), upd d_2 b (takesI v b), upd d_3 b (if awayB v b = true then 1 else 0), o', d_5, d_6, d_7, d_8, d_9, d_10)) = z at j0 j1 ⊢
    rw [ha] at j0 j1
    cases c1 : rainB v (hourN v b)
    · simp only [Bool.false_eq_true, if_false, if_true]
      exact j0 (by rw [c1]; rfl)
    · simp only [if_true, show ¬ ((1 : Int32) = 0) from by decide, if_false]
      cases c2 : (vK v b == 2 || vK v b == 4)
      · simp only [Bool.false_eq_true, if_false, if_true]
        exact j1 (by rw [c1, c2]; rfl)
      · simp only [if_true, show ¬ ((1 : Int32) = 0) from by decide, if_false]
        exact j0 (by rw [c1, c2]; rfl)
theorem plan_spec (d : DSt) {u : MSt} {v : VW} (hv : VC u v) : ∃ d', f_X2_plan d u = some d' ∧ PD d' v (paysI v) (vN v) := by
  have hn := hv.2.2.2.2.1
  have h8 := hv.2.2.2.2.2.1
  unfold f_X2_plan
  refine lp_inv0 (step := f_X2_plan_s2 u) (fun b q => q.1 = nI b ∧ PD q.2 v (paysI v) b) (vN v) (by omega) ⟨rfl, fun b hb => absurd hb (Nat.not_lt_zero b), fun i b hib => ?_⟩ (fun k a hk hI => ?_) (fun a hI => ?_)
  · rw [ord_zero] at hib
    cases hib
  · obtain ⟨a1, a2⟩ := a
    obtain ⟨e1, e2⟩ := hI
    have e1 : a1 = nI k := e1
    subst e1
    obtain ⟨d', g1, g2⟩ := plan_step hv hk e2
    exact ⟨(nI (k + 1), d'), ⟨rfl, g1⟩, g2⟩
  · obtain ⟨a1, a2⟩ := a
    obtain ⟨e1, e2⟩ := hI
    have e1 : a1 = nI (vN v) := e1
    subst e1
    refine ⟨a2, e2, fun K => ?_⟩
    unfold f_X2_plan_s2
    rw [hn]
    simp (disch := omega) only [lt_eq, Option.bind_some, inb_t, cl_t, le_t, le_f, lt_t, lt_f, eq_t, eq_f, nI_add, nI_1, ↓reduceIte]
