-- the walk
def setC (d : DSt) (x : DYS) : DSt := (d.1, d.2.1, d.2.2.1, d.2.2.2.1, d.2.2.2.2.1, xG x, xB x, xS x, xL x, xT x, xU x)
theorem setC_mk (d_0 d_1 d_2 d_3 d_4 d_5 d_6 d_7 : Nat → Int32) (d_8 d_9 d_10 : Int32) (a b c : Int32) (d e f : Nat → Int32) : setC (d_0, d_1, d_2, d_3, d_4, d_5, d_6, d_7, d_8, d_9, d_10) (a, b, c, d, e, f) = (d_0, d_1, d_2, d_3, d_4, d, e, f, a, b, c) := rfl
def sellC (v : VW) (pay : Nat → Int32) (x : DYS) (b : Nat) : DYS :=
  if pay b < vP v (hourN v b) then x
  else lt (if xL x < takesI v b then xL x else takesI v b) fun n => if 0 < n then (xL x - n, xT x + n * vP v (hourN v b), xU x, upd (xG x) (hourN v b) (xG x (hourN v b) + n), upd (xB x) b n, upd (xS x) b 1) else x
def meetC (v : VW) (pay : Nat → Int32) (x : DYS) (b : Nat) : DYS :=
  if vT v (hourN v b) ≤ 0 then sellC v pay x b
  else if vP v (hourN v b) ≤ vT v (hourN v b) then sellC v pay x b
  else if pay b < vT v (hourN v b) then sellC v pay x b
  else (xL x, xT x, xU x + vT v (hourN v b) * takesI v b, xG x, xB x, upd (xS x) b 1)
theorem meet_spec {d : DSt} {u : MSt} {v : VW} {pay : Nat → Int32} {b : Nat} (hv : VC u v) (hb : b < vN v) (hd : PD d v pay (vN v)) (x : DYS) : f_X2_meet (setC d x) u (nI b) = some (setC d (meetC v pay x b)) := by
  obtain ⟨hp, -, -, -, -, h8, hbs⟩ := hv
  obtain ⟨-, -, -, h10, -, -⟩ := hbs b hb
  have hh := hourN_lt (v := v) h10
  have hp1 := (hp _ hh).1
  have hp2 := (hp _ hh).2
  have e1 := priceIn_spec (u := u) hh
  have e2 := theirIn_spec (u := u) hh
  rw [hp1] at e1
  rw [hp2] at e2
  obtain ⟨b1, b2, b3, -⟩ := hd.1 b hb
  clear hd
  obtain ⟨x_0, x_1, x_2, x_3, x_4, x_5⟩ := x
  obtain ⟨d_0, d_1, d_2, d_3, d_4, d_5, d_6, d_7, d_8, d_9, d_10⟩ := d
  have b1 : d_0 b = nI (hourN v b) := b1
  have b2 : d_1 b = pay b := b2
  have b3 : d_2 b = takesI v b := b3
  have hj : f_X2_meet_j73 u (nI b) (vP v (hourN v b)) (setC (d_0, d_1, d_2, d_3, d_4, d_5, d_6, d_7, d_8, d_9, d_10) (x_0, x_1, x_2, x_3, x_4, x_5)) = some (setC (d_0, d_1, d_2, d_3, d_4, d_5, d_6, d_7, d_8, d_9, d_10) (sellC v pay (x_0, x_1, x_2, x_3, x_4, x_5) b)) := by
    unfold f_X2_meet_j73 sellC f_X2_sell
    simp only [i_10, setC_mk]
    simp (disch := omega) only [lt_eq, Option.bind_some, inb_t, cl_t, le_t, le_f, lt_t, lt_f, eq_t, eq_f, nI_add, nI_1, ↓reduceIte, sD_when_mk, sD_pays_mk, sD_carries_mk, sD_staysAway_mk, sD_order_mk, sD_gone_mk, sD_got_mk, sD_served_mk, sD_left_mk, sD_takings_mk, sD_theirTakings_mk, pD_when, pD_pays, pD_carries, pD_staysAway, pD_order, pD_gone, pD_got, pD_served, pD_left, pD_takings, pD_theirTakings, b1, b2, b3]
    by_cases c : pay b < vP v (hourN v b)
    · simp only [c, ↓reduceIte, setC_mk]
    · simp only [c, ↓reduceIte, xL, xT, xU, xG, xB, xS]
      generalize (if x_0 < takesI v b then x_0 else takesI v b) = n
      simp only [i_0]
      by_cases c2 : nI 0 < n
      · simp only [c2, ↓reduceIte, setC_mk]
        simp (disch := omega) only [lt_eq, Option.bind_some, inb_t, cl_t, le_t, le_f, lt_t, lt_f, eq_t, eq_f, nI_add, nI_1, ↓reduceIte, sD_when_mk, sD_pays_mk, sD_carries_mk, sD_staysAway_mk, sD_order_mk, sD_gone_mk, sD_got_mk, sD_served_mk, sD_left_mk, sD_takings_mk, sD_theirTakings_mk, pD_when, pD_pays, pD_carries, pD_staysAway, pD_order, pD_gone, pD_got, pD_served, pD_left, pD_takings, pD_theirTakings, b1]
      · simp only [c2, ↓reduceIte, setC_mk]
        simp (disch := omega) only [lt_eq, Option.bind_some, inb_t, cl_t, le_t, le_f, lt_t, lt_f, eq_t, eq_f, nI_add, nI_1, ↓reduceIte]
  unfold f_X2_meet
  rw [show pD_when (setC (d_0, d_1, d_2, d_3, d_4, d_5, d_6, d_7, d_8, d_9, d_10) (x_0, x_1, x_2, x_3, x_4, x_5)) = d_0 from rfl, show pD_pays (setC (d_0, d_1, d_2, d_3, d_4, d_5, d_6, d_7, d_8, d_9, d_10) (x_0, x_1, x_2, x_3, x_4, x_5)) = d_1 from rfl, show pD_carries (setC (d_0, d_1, d_2, d_3, d_4, d_5, d_6, d_7, d_8, d_9, d_10) (x_0, x_1, x_2, x_3, x_4, x_5)) = d_2 from rfl]
  simp (disch := omega) only [lt_eq, Option.bind_some, inb_t, cl_t, le_t, le_f, lt_t, lt_f, eq_t, eq_f, nI_add, nI_1, ↓reduceIte, b1, b2, b3, e1, e2, hj]
  unfold meetC
  by_cases c1 : vT v (hourN v b) ≤ 0
  · simp only [c1, ↓reduceIte]
  · simp only [c1, ↓reduceIte]
    by_cases c2 : vP v (hourN v b) ≤ vT v (hourN v b)
    · simp only [c2, ↓reduceIte]
    · simp only [c2, ↓reduceIte]
      by_cases c3 : pay b < vT v (hourN v b)
      · simp only [c3, ↓reduceIte]
      · simp only [c3, ↓reduceIte, xL, xT, xU, xG, xB, xS, setC_mk, sD_when_mk, sD_pays_mk, sD_carries_mk, sD_staysAway_mk, sD_order_mk, sD_gone_mk, sD_got_mk, sD_served_mk, sD_left_mk, sD_takings_mk, sD_theirTakings_mk, pD_when, pD_pays, pD_carries, pD_staysAway, pD_order, pD_gone, pD_got, pD_served, pD_left, pD_takings, pD_theirTakings]
