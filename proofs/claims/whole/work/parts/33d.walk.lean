def stepC (v : VW) (pay : Nat → Int32) (who : Int32) (x : DYS) (b : Nat) : DYS := if goB v who b = true then meetC v pay x b else x
theorem setC_w (d : DSt) (x : DYS) : pD_when (setC d x) = pD_when d := by
  obtain ⟨d_0, d_1, d_2, d_3, d_4, d_5, d_6, d_7, d_8, d_9, d_10⟩ := d
  obtain ⟨x_0, x_1, x_2, x_3, x_4, x_5⟩ := x
  simp only [setC_mk]
theorem setC_p (d : DSt) (x : DYS) : pD_pays (setC d x) = pD_pays d := by
  obtain ⟨d_0, d_1, d_2, d_3, d_4, d_5, d_6, d_7, d_8, d_9, d_10⟩ := d
  obtain ⟨x_0, x_1, x_2, x_3, x_4, x_5⟩ := x
  simp only [setC_mk]
theorem setC_c (d : DSt) (x : DYS) : pD_carries (setC d x) = pD_carries d := by
  obtain ⟨d_0, d_1, d_2, d_3, d_4, d_5, d_6, d_7, d_8, d_9, d_10⟩ := d
  obtain ⟨x_0, x_1, x_2, x_3, x_4, x_5⟩ := x
  simp only [setC_mk]
theorem setC_a (d : DSt) (x : DYS) : pD_staysAway (setC d x) = pD_staysAway d := by
  obtain ⟨d_0, d_1, d_2, d_3, d_4, d_5, d_6, d_7, d_8, d_9, d_10⟩ := d
  obtain ⟨x_0, x_1, x_2, x_3, x_4, x_5⟩ := x
  simp only [setC_mk]
theorem setC_o (d : DSt) (x : DYS) : pD_order (setC d x) = pD_order d := by
  obtain ⟨d_0, d_1, d_2, d_3, d_4, d_5, d_6, d_7, d_8, d_9, d_10⟩ := d
  obtain ⟨x_0, x_1, x_2, x_3, x_4, x_5⟩ := x
  simp only [setC_mk]
theorem setC_PD {d : DSt} {v : VW} {pay : Nat → Int32} {n : Nat} (x : DYS) (hd : PD d v pay n) : PD (setC d x) v pay n := by
  unfold PD at hd ⊢
  rw [setC_w, setC_p, setC_c, setC_a, setC_o]
  exact hd
theorem setC_self (d : DSt) : setC d (pD_left d, pD_takings d, pD_theirTakings d, pD_gone d, pD_got d, pD_served d) = d := by
  obtain ⟨d_0, d_1, d_2, d_3, d_4, d_5, d_6, d_7, d_8, d_9, d_10⟩ := d
  rfl
theorem walk_head (d : DSt) (u : MSt) (v : VW) (who : Int32) (hU : pM_punnets u = vU v) : f_X2_walk d u who = lp (f_X2_walk_s44 u who) 1000 ((0 : Int32), setC d (mkM 10 8 (pD_gone d) (pD_got d) (pD_served d) (z0 v))) := by
  obtain ⟨d_0, d_1, d_2, d_3, d_4, d_5, d_6, d_7, d_8, d_9, d_10⟩ := d
  unfold f_X2_walk
  simp (disch := omega) only [lt_eq, Option.bind_some, inb_t, cl_t, le_t, le_f, lt_t, lt_f, eq_t, eq_f, nI_add, nI_1, ↓reduceIte, sD_when_mk, sD_pays_mk, sD_carries_mk, sD_staysAway_mk, sD_order_mk, sD_gone_mk, sD_got_mk, sD_served_mk, sD_left_mk, sD_takings_mk, sD_theirTakings_mk, pD_when, pD_pays, pD_carries, pD_staysAway, pD_order, pD_gone, pD_got, pD_served, pD_left, pD_takings, pD_theirTakings, fill_spec 10 (by omega), fill_spec 8 (by omega)]
  simp only [mkM, z0, xL, xT, xU, xG, xB, xS, setC_mk]
  exact congrArg (fun z => lp (f_X2_walk_s44 u who) 1000 ((0 : Int32), (d_0, d_1, d_2, d_3, d_4, (fun j => if j < 10 then (0 : Int32) else d_5 j), (fun j => if j < 8 then (0 : Int32) else d_6 j), (fun j => if j < 8 then (0 : Int32) else d_7 j), z, (0 : Int32), (0 : Int32)))) hU
theorem walk_spec0 {d : DSt} {u : MSt} {v : VW} {pay : Nat → Int32} {who : Int32} (hv : VC u v) (hd : PD d v pay (vN v)) : f_X2_walk d u who = some (setC d ((ordN v (vN v)).foldl (stepC v pay who) (mkM 10 8 (pD_gone d) (pD_got d) (pD_served d) (z0 v)))) := by
  have hbs := hv.2.2.2.2.2.2
  have h8 := hv.2.2.2.2.2.1
  have hn := hv.2.2.2.2.1
  have hU := hv.2.2.2.1
  obtain ⟨o1, o2, o3⟩ := ord_all v (vN v) (fun c hc => hourN_lt (hbs c hc).2.2.2.1)
  rw [walk_head d u v who hU]
  generalize mkM 10 8 (pD_gone d) (pD_got d) (pD_served d) (z0 v) = x
  refine lp_run1 (step := f_X2_walk_s44 u who) (fun i => (nI i, setC d (((ordN v (vN v)).take i).foldl (stepC v pay who) x))) (vN v) (by omega) rfl (fun i K hi => ?_) (fun K => ?_)
  · have hg : (ordN v (vN v))[i]? = some ((ordN v (vN v))[i]'(by omega)) := List.getElem?_eq_getElem (by omega)
    have hgm := List.mem_of_getElem? hg
    have e : (ordN v (vN v)).take (i + 1) = (ordN v (vN v)).take i ++ [(ordN v (vN v))[i]'(by omega)] := by
      rw [List.take_add_one, hg]
      rfl
    rw [e, List.foldl_append]
    generalize ((ordN v (vN v)).take i).foldl (stepC v pay who) x = y
    generalize (ordN v (vN v))[i]'(by omega) = b at hg hgm
    have hb := o2 b hgm
    have hob := hd.2 i b hg
    have hmt := meet_spec hv hb hd y
    obtain ⟨-, -, -, b4⟩ := hd.1 b hb
    have hb0 : (nI b < (0 : Int32)) = False := lt_f (a := b) (b := 0) (Nat.zero_le _) (by omega)
    unfold f_X2_walk_s44 f_X2_walk_j108
    rw [hn]
    simp only [i_8]
    have e4 := setC_o d y
    have e5 := setC_a d y
    simp only [e4, e5]
    simp (disch := omega) only [lt_eq, Option.bind_some, inb_t, cl_t, le_t, le_f, lt_t, lt_f, eq_t, eq_f, nI_add, nI_1, ↓reduceIte, hob, hb0, b4, hmt]
    simp only [List.foldl_cons, List.foldl_nil]
    unfold stepC goB bitB
    by_cases c : ((who >>> (nI b &&& 31)) &&& (1 : Int32)) = (1 : Int32)
    · simp only [c, decide_true, Bool.true_and, ↓reduceIte]
      cases awayB v b
      · rfl
      · rfl
    · simp only [c, decide_false, Bool.false_and, Bool.false_eq_true, ↓reduceIte]
  · unfold f_X2_walk_s44
    rw [hn]
    have e : (ordN v (vN v)).take (vN v) = ordN v (vN v) := List.take_of_length_le (by omega)
    rw [e]
    simp (disch := omega) only [lt_eq, Option.bind_some, inb_t, cl_t, le_t, le_f, lt_t, lt_f, eq_t, eq_f, nI_add, nI_1, ↓reduceIte]
