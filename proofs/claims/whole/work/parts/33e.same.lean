-- ===== both days are one =====
def VBd (v : VW) : Prop := (∀ h, h < 10 → 0 ≤ (vP v h).toInt ∧ (vP v h).toInt ≤ 99 ∧ 0 ≤ (vT v h).toInt ∧ (vT v h).toInt ≤ 99) ∧ 0 ≤ (vU v).toInt ∧ (vU v).toInt ≤ 99 ∧ ∀ b, b < vN v → vO v b < 10 ∧ 1 ≤ (vA v b).toInt ∧ (vA v b).toInt ≤ 3
theorem takes_bd {v : VW} {b : Nat} (h1 : 1 ≤ (vA v b).toInt) (h2 : (vA v b).toInt ≤ 3) : 1 ≤ (takesI v b).toInt ∧ (takesI v b).toInt ≤ 6 := by
  unfold takesI
  split
  · rw [ti_mul (by rw [ti_2]; omega) (by rw [ti_2]; omega), ti_2]
    omega
  · split
    · exact ⟨by decide, by decide⟩
    · omega
  · omega
def IV (k : Nat) (x : DYS) : Prop := 0 ≤ (xL x).toInt ∧ (xL x).toInt ≤ 99 ∧ 0 ≤ (xT x).toInt ∧ (xT x).toInt ≤ 594 * (k : Int) ∧ 0 ≤ (xU x).toInt ∧ (xU x).toInt ≤ 594 * (k : Int)
theorem mul_bd {a b : Int} {p q : Int} (h1 : 0 ≤ a) (h2 : a ≤ p) (h3 : 0 ≤ b) (h4 : b ≤ q) : 0 ≤ a * b ∧ a * b ≤ p * q := ⟨Int.mul_nonneg h1 h3, Int.mul_le_mul h2 h4 h3 (Int.le_trans h1 h2)⟩
theorem IV_mono {k : Nat} {x : DYS} (h : IV k x) : IV (k + 1) x := by
  unfold IV at h ⊢
  omega
theorem sell_iv {v : VW} {pay : Nat → Int32} {b k : Nat} {x : DYS} (hB : VBd v) (hb : b < vN v) (hk : k < 8) (hI : IV k x) : IV (k + 1) (sellM v pay x b) := by
  obtain ⟨b1, -, -, b4⟩ := hB
  obtain ⟨a0, a1, a2⟩ := b4 b hb
  have hh := hourN_lt (v := v) a0
  obtain ⟨p1, p2, -, -⟩ := b1 _ hh
  obtain ⟨t1, t2⟩ := takes_bd a1 a2
  unfold sellM
  by_cases c : pay b < vP v (hourN v b)
  · rw [if_pos c]
    exact IV_mono hI
  · rw [if_neg c, lt_eq]
    have hn : 0 ≤ (if xL x ≤ takesI v b then xL x else takesI v b).toInt ∧ (if xL x ≤ takesI v b then xL x else takesI v b).toInt ≤ 6 ∧ (if xL x ≤ takesI v b then xL x else takesI v b).toInt ≤ (xL x).toInt := by
      unfold IV at hI
      by_cases c2 : xL x ≤ takesI v b
      · rw [if_pos c2]
        have := Int32.le_iff_toInt_le.mp c2
        omega
      · rw [if_neg c2]
        have : ¬ (xL x).toInt ≤ (takesI v b).toInt := fun e => c2 (Int32.le_iff_toInt_le.mpr e)
        omega
    generalize (if xL x ≤ takesI v b then xL x else takesI v b) = n at hn ⊢
    obtain ⟨n1, n2, n3⟩ := hn
    obtain ⟨m1, m2⟩ := mul_bd n1 n2 p1 p2
    obtain ⟨i1, i2, i3, i4, i5, i6⟩ := hI
    have e1 : (xL x - n).toInt = (xL x).toInt - n.toInt := ti_sub (by omega) (by omega)
    have e2 : (n * vP v (hourN v b)).toInt = n.toInt * (vP v (hourN v b)).toInt := ti_mul (by omega) (by omega)
    have e3 : (xT x + n * vP v (hourN v b)).toInt = (xT x).toInt + n.toInt * (vP v (hourN v b)).toInt := by
      rw [← e2]
      exact ti_add (by omega) (by omega)
    unfold IV
    refine ⟨?_, ?_, ?_, ?_, ?_, ?_⟩
    · show 0 ≤ (xL x - n).toInt
      omega
    · show (xL x - n).toInt ≤ 99
      omega
    · show 0 ≤ (xT x + n * vP v (hourN v b)).toInt
      omega
    · show (xT x + n * vP v (hourN v b)).toInt ≤ 594 * ((k + 1 : Nat) : Int)
      omega
    · exact i5
    · show (xU x).toInt ≤ 594 * ((k + 1 : Nat) : Int)
      omega
theorem comes_iv {v : VW} {pay : Nat → Int32} {b k : Nat} {x : DYS} (hB : VBd v) (hb : b < vN v) (hk : k < 8) (hI : IV k x) : IV (k + 1) (comesM v pay x b) := by
  have hs := sell_iv (pay := pay) hB hb hk hI
  unfold comesM
  by_cases c1 : vT v (hourN v b) ≤ 0
  · rw [if_pos c1]; exact hs
  · rw [if_neg c1]
    by_cases c2 : vP v (hourN v b) ≤ vT v (hourN v b)
    · rw [if_pos c2]; exact hs
    · rw [if_neg c2]
      by_cases c3 : pay b < vT v (hourN v b)
      · rw [if_pos c3]; exact hs
      · rw [if_neg c3]
        obtain ⟨b1, -, -, b4⟩ := hB
        obtain ⟨a0, a1, a2⟩ := b4 b hb
        have hh := hourN_lt (v := v) a0
        obtain ⟨-, -, p1, p2⟩ := b1 _ hh
        obtain ⟨t1, t2⟩ := takes_bd a1 a2
        obtain ⟨m1, m2⟩ := mul_bd p1 p2 (show (0 : Int) ≤ (takesI v b).toInt by omega) t2
        obtain ⟨i1, i2, i3, i4, i5, i6⟩ := hI
        have e2 : (vT v (hourN v b) * takesI v b).toInt = (vT v (hourN v b)).toInt * (takesI v b).toInt := ti_mul (by omega) (by omega)
        have e3 : (xU x + vT v (hourN v b) * takesI v b).toInt = (xU x).toInt + (vT v (hourN v b)).toInt * (takesI v b).toInt := by
          rw [← e2]
          exact ti_add (by omega) (by omega)
        unfold IV
        refine ⟨i1, i2, i3, ?_, ?_, ?_⟩
        · show (xT x).toInt ≤ 594 * ((k + 1 : Nat) : Int)
          omega
        · show 0 ≤ (xU x + vT v (hourN v b) * takesI v b).toInt
          omega
        · show (xU x + vT v (hourN v b) * takesI v b).toInt ≤ 594 * ((k + 1 : Nat) : Int)
          omega
theorem upd_same (f : Nat → Int32) (k : Nat) (z : Int32) (h : f k = z) : upd f k z = f := by
  funext j
  rw [upd_eq]
  by_cases c : j = k
  · rw [if_pos c, c, h]
  · rw [if_neg c]
theorem sell_same {v : VW} {pay : Nat → Int32} {b : Nat} {x : DYS} (h0 : 0 ≤ (xL x).toInt) (h1 : 1 ≤ (takesI v b).toInt) (h2 : xB x b = 0) (h3 : xS x b = 0) : sellC v pay x b = sellM v pay x b := by
  unfold sellC sellM
  by_cases c : pay b < vP v (hourN v b)
  · rw [if_pos c, if_pos c]
  · rw [if_neg c, if_neg c, lt_eq, lt_eq]
    have e : (if xL x < takesI v b then xL x else takesI v b) = (if xL x ≤ takesI v b then xL x else takesI v b) := by
      by_cases c2 : xL x < takesI v b
      · rw [if_pos c2, if_pos (Int32.le_of_lt c2)]
      · rw [if_neg c2]
        by_cases c3 : xL x ≤ takesI v b
        · rw [if_pos c3]
          exact Int32.le_antisymm (Int32.not_lt.mp c2) c3
        · rw [if_neg c3]
    rw [e]
    have hn : 0 ≤ (if xL x ≤ takesI v b then xL x else takesI v b).toInt := by
      split <;> omega
    generalize (if xL x ≤ takesI v b then xL x else takesI v b) = n at hn ⊢
    by_cases c2 : 0 < n
    · rw [if_pos c2, if_neg (fun e => Int32.lt_irrefl (Int32.lt_of_lt_of_le c2 e))]
    · rw [if_neg c2]
      have : n = 0 := by
        have h5 : ¬ (0 : Int32).toInt < n.toInt := fun e => c2 (Int32.lt_iff_toInt_lt.mpr e)
        rw [ti_0] at h5
        refine Int32.toInt_inj.mp ?_
        rw [ti_0]
        omega
      subst this
      obtain ⟨x_0, x_1, x_2, x_3, x_4, x_5⟩ := x
      have h2 : x_4 b = 0 := h2
      have h3 : x_5 b = 0 := h3
      simp only [xL, xT, xU, xG, xB, xS, Int32.sub_zero, Int32.zero_mul, Int32.add_zero, upd_same _ _ _ h2, upd_same x_3 (hourN v b) _ rfl]
      rw [if_pos (by decide), upd_same _ _ _ h3]
theorem meet_same {v : VW} {pay : Nat → Int32} {b : Nat} {x : DYS} (h0 : 0 ≤ (xL x).toInt) (h1 : 1 ≤ (takesI v b).toInt) (h2 : xB x b = 0) (h3 : xS x b = 0) : meetC v pay x b = comesM v pay x b := by
  unfold meetC comesM
  rw [sell_same h0 h1 h2 h3]
theorem comes_xBS {v : VW} {pay : Nat → Int32} {b c : Nat} (x : DYS) (h : c ≠ b) : xB (comesM v pay x b) c = xB x c ∧ xS (comesM v pay x b) c = xS x c := by
  have hs : xB (sellM v pay x b) c = xB x c ∧ xS (sellM v pay x b) c = xS x c := by
    unfold sellM
    by_cases q : pay b < vP v (hourN v b)
    · rw [if_pos q]; exact ⟨rfl, rfl⟩
    · rw [if_neg q, lt_eq]
      exact ⟨by simp only [xL, xT, xU, xG, xB, xS, upd_eq, if_neg h], by simp only [xL, xT, xU, xG, xB, xS, upd_eq, if_neg h]⟩
  unfold comesM
  by_cases c1 : vT v (hourN v b) ≤ 0
  · rw [if_pos c1]; exact hs
  · rw [if_neg c1]
    by_cases c2 : vP v (hourN v b) ≤ vT v (hourN v b)
    · rw [if_pos c2]; exact hs
    · rw [if_neg c2]
      by_cases c3 : pay b < vT v (hourN v b)
      · rw [if_pos c3]; exact hs
      · rw [if_neg c3]
        exact ⟨rfl, by simp only [xL, xT, xU, xG, xB, xS, upd_eq, if_neg h]⟩
theorem fold_same {v : VW} {pay : Nat → Int32} {who : Int32} (hB : VBd v) : ∀ (l : List Nat) (x : DYS) (k : Nat), l.Nodup → (∀ b ∈ l, b < vN v) → k + l.length ≤ 8 → IV k x → (∀ b ∈ l, xB x b = 0 ∧ xS x b = 0) → l.foldl (stepC v pay who) x = l.foldl (stepG v pay who) x ∧ IV (k + l.length) (l.foldl (stepG v pay who) x)
  | [], x, k, _, _, _, hI, _ => ⟨rfl, hI⟩
  | b :: l, x, k, hd, hm, hl, hI, hz => by
    have hb := hm b (List.mem_cons_self ..)
    obtain ⟨z1, z2⟩ := hz b (List.mem_cons_self ..)
    obtain ⟨nd1, nd2⟩ := List.nodup_cons.mp hd
    obtain ⟨a0, a1, a2⟩ := hB.2.2.2 b hb
    have t1 := (takes_bd a1 a2).1
    rw [List.length_cons] at hl
    have e : stepC v pay who x b = stepG v pay who x b := by
      unfold stepC stepG
      rw [meet_same hI.1 t1 z1 z2]
    have hI2 : IV (k + 1) (stepG v pay who x b) := by
      unfold stepG
      split
      · exact comes_iv hB hb (by omega) hI
      · exact IV_mono hI
    have hz2 : ∀ c ∈ l, xB (stepG v pay who x b) c = 0 ∧ xS (stepG v pay who x b) c = 0 := by
      intro c hc
      have hne : c ≠ b := fun e => nd1 (e ▸ hc)
      unfold stepG
      split
      · obtain ⟨q1, q2⟩ := comes_xBS (v := v) (pay := pay) x hne
        rw [q1, q2]
        exact hz c (List.mem_cons_of_mem _ hc)
      · exact hz c (List.mem_cons_of_mem _ hc)
    rw [List.foldl_cons, List.foldl_cons, e, List.length_cons, show k + (l.length + 1) = (k + 1) + l.length from by omega]
    exact fold_same hB l _ (k + 1) nd2 (fun c hc => hm c (List.mem_cons_of_mem _ hc)) (by omega) hI2 hz2
theorem foldG_mk {v : VW} {pay : Nat → Int32} {who : Int32} (hB : VBd v) (h8 : vN v ≤ 8) (a e f : Nat → Int32) : ∀ (l : List Nat) (x : DYS), (∀ b ∈ l, b < vN v) → l.foldl (stepG v pay who) (mkM 10 8 a e f x) = mkM 10 8 a e f (l.foldl (stepG v pay who) x)
  | [], x, _ => rfl
  | b :: l, x, hm => by
    have hb := hm b (List.mem_cons_self ..)
    obtain ⟨a0, a1, a2⟩ := hB.2.2.2 b hb
    have hh := hourN_lt (v := v) a0
    have e1 : stepG v pay who (mkM 10 8 a e f x) b = mkM 10 8 a e f (stepG v pay who x b) := by
      unfold stepG
      split
      · exact comes_mk a e f x hh (by omega)
      · rfl
    rw [List.foldl_cons, List.foldl_cons, e1]
    exact foldG_mk hB h8 a e f l _ (fun c hc => hm c (List.mem_cons_of_mem _ hc))
theorem zI : 0 ≤ (0 : Int32).toInt ∧ (0 : Int32).toInt ≤ 594 * ((0 : Nat) : Int) := by decide
theorem day_iv {v : VW} {pay : Nat → Int32} {who : Int32} (hB : VBd v) (h8 : vN v ≤ 8) : IV 8 (dayN v pay who) ∧ (ordN v (vN v)).foldl (stepC v pay who) (z0 v) = dayN v pay who := by
  obtain ⟨o1, o2, o3⟩ := ord_all v (vN v) (fun c hc => hourN_lt (hB.2.2.2 c hc).1)
  have hI0 : IV 0 (z0 v) := ⟨hB.2.1, hB.2.2.1, zI.1, zI.2, zI.1, zI.2⟩
  obtain ⟨q1, q2⟩ := fold_same (pay := pay) (who := who) hB (ordN v (vN v)) (z0 v) 0 o3 o2 (by omega) hI0 (fun b _ => ⟨rfl, rfl⟩)
  rw [dayN_ord]
  refine ⟨?_, q1⟩
  unfold IV at q2 ⊢
  omega
def DayIs (d : DSt) (y : DYS) : Prop := pD_left d = xL y ∧ pD_takings d = xT y ∧ pD_theirTakings d = xU y ∧ (∀ h, h < 10 → pD_gone d h = xG y h) ∧ ∀ b, b < 8 → pD_got d b = xB y b ∧ pD_served d b = xS y b
theorem walk_spec {d : DSt} {u : MSt} {v : VW} {pay : Nat → Int32} (who : Int32) (hv : VC u v) (hB : VBd v) (hd : PD d v pay (vN v)) : ∃ d', f_X2_walk d u who = some d' ∧ PD d' v pay (vN v) ∧ DayIs d' (dayN v pay who) := by
  have h8 := hv.2.2.2.2.2.1
  obtain ⟨o1, o2, o3⟩ := ord_all v (vN v) (fun c hc => hourN_lt (hB.2.2.2 c hc).1)
  have hI0 : IV 0 (mkM 10 8 (pD_gone d) (pD_got d) (pD_served d) (z0 v)) := ⟨hB.2.1, hB.2.2.1, zI.1, zI.2, zI.1, zI.2⟩
  obtain ⟨q1, q2⟩ := fold_same (pay := pay) (who := who) hB (ordN v (vN v)) (mkM 10 8 (pD_gone d) (pD_got d) (pD_served d) (z0 v)) 0 o3 o2 (by omega) hI0 (fun b hb => by
    have := o2 b hb
    have hb8 : b < 8 := by omega
    unfold mkM
    simp only [xL, xT, xU, xG, xB, xS, if_pos hb8]
    exact ⟨rfl, rfl⟩)
  refine ⟨_, walk_spec0 hv hd, setC_PD _ hd, ?_⟩
  rw [q1, foldG_mk hB h8 _ _ _ _ _ o2, ← dayN_ord]
  generalize dayN v pay who = y
  clear hd q1 q2 hI0
  obtain ⟨y_0, y_1, y_2, y_3, y_4, y_5⟩ := y
  obtain ⟨d_0, d_1, d_2, d_3, d_4, d_5, d_6, d_7, d_8, d_9, d_10⟩ := d
  unfold DayIs mkM
  simp only [xL, xT, xU, xG, xB, xS, setC_mk]
  refine ⟨trivial, trivial, trivial, fun h hh => ?_, fun b hb => ⟨?_, ?_⟩⟩
  · exact if_pos hh
  · exact if_pos hb
  · exact if_pos hb
theorem run_spec (d : DSt) {u : MSt} {v : VW} (hv : VC u v) (hB : VBd v) : ∃ d', f_X2_run d u = some d' ∧ PD d' v (paysI v) (vN v) ∧ DayIs d' (dayN v (paysI v) 255) := by
  obtain ⟨d1, p1, p2⟩ := plan_spec d hv
  obtain ⟨d2, q1, q2, q3⟩ := walk_spec 255 hv hB p2
  refine ⟨d2, ?_, q2, q3⟩
  unfold f_X2_run
  rw [p1]
  simp only [Option.bind_some]
  rw [q1]
  rfl
-- the reference's, by its fields
theorem sell_pay {v : VW} {p q : Nat → Int32} {x : DYS} {b : Nat} (h : p b = q b) : sellM v p x b = sellM v q x b := by
  unfold sellM
  simp only [h]
theorem comes_pay {v : VW} {p q : Nat → Int32} {x : DYS} {b : Nat} (h : p b = q b) : comesM v p x b = comesM v q x b := by
  unfold comesM
  simp only [sell_pay h, h]
theorem foldG_pay {v : VW} {p q : Nat → Int32} {who : Int32} (h : ∀ b, b < vN v → p b = q b) : ∀ (l : List Nat) (x : DYS), (∀ b ∈ l, b < vN v) → l.foldl (stepG v p who) x = l.foldl (stepG v q who) x
  | [], x, _ => by rw [List.foldl_nil, List.foldl_nil]
  | b :: l, x, hm => by
    have hb := h b (hm b (List.mem_cons_self ..))
    have e : stepG v p who x b = stepG v q who x b := by
      unfold stepG
      rw [comes_pay hb]
    rw [List.foldl_cons, List.foldl_cons, e]
    exact foldG_pay h l _ (fun c hc => hm c (List.mem_cons_of_mem _ hc))
theorem dayN_congr {v : VW} {p q : Nat → Int32} {who : Int32} (h8 : vN v ≤ 8) (ho : ∀ b, b < vN v → vO v b < 10) (h : ∀ b, b < vN v → p b = q b) : dayN v p who = dayN v q who := by
  obtain ⟨o1, o2, o3⟩ := ord_all v (vN v) (fun c hc => hourN_lt (ho c hc))
  exact ((dayN_ord v p who).trans (foldG_pay h _ _ o2)).trans (dayN_ord v q who).symm
theorem paySh_none {v : VW} (ho : ∀ b, b < vN v → vO v b < 10) (b : Nat) (hb : b < vN v) : paySh v (-1) b = paysI v b := by
  unfold paySh
  have hh := hourN_lt (v := v) (ho b hb)
  rw [if_neg (fun e => ?_)]
  have e2 := congrArg Int32.toInt e
  rw [ti_nI (by omega)] at e2
  have : (-1 : Int32).toInt = -1 := rfl
  omega
