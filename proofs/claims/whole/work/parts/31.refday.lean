-- ===== the reference's day =====
abbrev DYS : Type := Int32 × Int32 × Int32 × (Nat → Int32) × (Nat → Int32) × (Nat → Int32)
def dyL (w : LSt) : DYS := (pL_left w, pL_takings w, pL_theirTakings w, pL_goes w, pL_gets w, pL_isServed w)
def setD (w : LSt) (x : DYS) : LSt := sL_isServed (sL_gets (sL_goes (sL_theirTakings (sL_takings (sL_left w x.1) x.2.1) x.2.2.1) x.2.2.2.1) x.2.2.2.2.1) x.2.2.2.2.2
theorem setD_w (w : LSt) (x : DYS) : pL_w (setD w x) = pL_w w := rfl
theorem setD_c (w : LSt) (x : DYS) : pL_comers (setD w x) = pL_comers w := rfl
theorem setD_s (w : LSt) (x : DYS) : pL_shouted (setD w x) = pL_shouted w := rfl
theorem setD_d (w : LSt) (x : DYS) : dyL (setD w x) = x := rfl
theorem setD_setD (w : LSt) (x y : DYS) : setD (setD w x) y = setD w y := rfl
theorem setD_self (w : LSt) : setD w (dyL w) = w := rfl
def paySh (v : VW) (sh : Int32) (b : Nat) : Int32 := if nI (hourN v b) = sh then paysI v b + 5 else paysI v b
theorem nar1 : vp_nar .boolean (1 : Int32) = 1 := by decide
theorem nar0 : vp_nar .boolean (0 : Int32) = 0 := by decide
theorem plainPays_spec {w : LSt} {v : VW} {b : Nat} (hv : VL (pL_w w) v) (hb : b < vN v) : f_X11_plainPays w (nI b) (nI (hourN v b)) = some (plainI v b) := by
  obtain ⟨-, -, hh, -, -, h8, hbs⟩ := hv
  obtain ⟨-, -, -, -, h44, -⟩ := hbs b hb
  unfold f_X11_plainPays plainI
  simp only [lt]
  rw [show (44 : Int32) = nI 44 from rfl, if_pos (inb_add (by omega) (by omega)), cl_add (by omega), h44, if_pos (by decide), show (1 : Int32).toNatClampNeg = 1 from rfl, hh]
  generalize vW v b - vH v * nI (hourN v b) = z
  by_cases h : 0 < z
  · rw [if_pos h, if_pos (Int32.le_of_lt h)]
  · rw [if_neg h]
    by_cases h2 : 0 ≤ z
    · rw [if_pos h2]
      have : z = 0 := Int32.le_antisymm (Int32.not_lt.mp h) h2
      rw [this]
    · rw [if_neg h2]
theorem paysOf_spec {w : LSt} {v : VW} {b : Nat} (hv : VL (pL_w w) v) (hb : b < vN v) : f_X11_paysOf w (nI b) = some (paySh v (pL_shouted w) b) := by
  have h1 := hourOf_spec hv hb
  have h2 := plainPays_spec hv hb
  obtain ⟨-, -, -, -, -, h8, hbs⟩ := hv
  obtain ⟨h28, hk6, -, -, -, -⟩ := hbs b hb
  have hj : ∀ t, f_X11_paysOf_j60 w (nI b) t = some (if nI (hourN v b) = pL_shouted w then t + 5 else t) := by
    intro t
    unfold f_X11_paysOf_j60
    rw [h1]
    simp only [Option.bind_some]
    split <;> rfl
  unfold f_X11_paysOf f_X11_paysOf_j42
  rw [h1]
  simp only [Option.bind_some, h2, lt]
  rw [show (28 : Int32) = nI 28 from rfl, if_pos (inb_add (by omega) (by omega)), cl_add (by omega), h28]
  simp only [hj]
  unfold paySh paysI
  generalize vK v b = q at hk6 ⊢
  match q, hk6 with
  | 0, _ => rfl
  | 1, _ => rfl
  | 2, _ => rfl
  | 3, _ => rfl
  | 4, _ => rfl
  | 5, _ => rfl
  | q + 6, h => omega
theorem takesOf_spec {w : LSt} {v : VW} {b : Nat} (hv : VL (pL_w w) v) (hb : b < vN v) : f_X11_takesOf w (nI b) = some (takesI v b) := by
  obtain ⟨-, -, -, -, -, h8, hbs⟩ := hv
  obtain ⟨h28, hk6, -, -, -, h52⟩ := hbs b hb
  unfold f_X11_takesOf takesI
  simp only [lt]
  rw [show (52 : Int32) = nI 52 from rfl, show (28 : Int32) = nI 28 from rfl, if_pos (inb_add (by omega) (by omega)), cl_add (by omega), h52, if_pos (inb_add (by omega) (by omega)), cl_add (by omega), h28, if_pos (inb_add (by omega) (by omega))]
  generalize vK v b = q at hk6 ⊢
  match q, hk6 with
  | 0, _ => rfl
  | 1, _ => rfl
  | 2, _ => rfl
  | 3, _ => rfl
  | 4, _ => rfl
  | 5, _ =>
    rw [if_neg (by decide), if_pos (by decide)]
    split <;> rfl
  | q + 6, h => omega
def sellM (v : VW) (pay : Nat → Int32) (x : DYS) (b : Nat) : DYS :=
  if pay b < vP v (hourN v b) then x
  else if x.1 ≤ takesI v b then (x.1 - x.1, x.2.1 + x.1 * vP v (hourN v b), x.2.2.1, upd x.2.2.2.1 (hourN v b) (x.2.2.2.1 (hourN v b) + x.1), upd x.2.2.2.2.1 b x.1, upd x.2.2.2.2.2 b (if x.1 ≤ 0 then 0 else 1))
  else (x.1 - takesI v b, x.2.1 + takesI v b * vP v (hourN v b), x.2.2.1, upd x.2.2.2.1 (hourN v b) (x.2.2.2.1 (hourN v b) + takesI v b), upd x.2.2.2.2.1 b (takesI v b), upd x.2.2.2.2.2 b (if takesI v b ≤ 0 then 0 else 1))
def comesM (v : VW) (pay : Nat → Int32) (x : DYS) (b : Nat) : DYS :=
  if vT v (hourN v b) ≤ 0 then sellM v pay x b
  else if vP v (hourN v b) ≤ vT v (hourN v b) then sellM v pay x b
  else if pay b < vT v (hourN v b) then sellM v pay x b
  else (x.1, x.2.1, x.2.2.1 + vT v (hourN v b) * takesI v b, x.2.2.2.1, x.2.2.2.2.1, upd x.2.2.2.2.2 b 1)
theorem comes_spec {w : LSt} {v : VW} {b : Nat} (hv : VL (pL_w w) v) (hb : b < vN v) : f_X11_comes w (nI b) (nI (hourN v b)) = some (setD w (comesM v (paySh v (pL_shouted w)) (dyL w) b)) := by
  have h3 := paysOf_spec hv hb
  have h4 := takesOf_spec hv hb
  have hv' := hv
  obtain ⟨hp, -, -, -, -, h8, hbs⟩ := hv
  obtain ⟨-, -, -, h10, -, -⟩ := hbs b hb
  have hh := hourN_lt h10
  have hb8 : inb (nI b) 8 := (inb_nI (by omega)).mpr (by omega)
  have hh10 : inb (nI (hourN v b)) 10 := (inb_nI (by omega)).mpr hh
  have hj128 : ∀ (g : LSt) (n t : Int32), f_X11_comes_j128 (nI b) (nI (hourN v b)) (vP v (hourN v b)) n t (nI b) g = some (sL_takings (sL_left (sL_goes (sL_isServed g (upd (pL_isServed g) b (vp_nar .boolean t))) (upd (pL_goes g) (hourN v b) (pL_goes g (hourN v b) + n))) (pL_left g - n)) (pL_takings g + n * vP v (hourN v b))) := by
    intro g n t
    unfold f_X11_comes_j128
    simp only [lt]
    rw [if_pos hb8, if_pos hh10, if_pos hh10, cl_nI (by omega), cl_nI (by omega)]
    rfl
  have hj103 : ∀ (g : LSt) (n : Int32), f_X11_comes_j103 (nI b) (nI (hourN v b)) (vP v (hourN v b)) n g = some (setD g (pL_left g - n, pL_takings g + n * vP v (hourN v b), pL_theirTakings g, upd (pL_goes g) (hourN v b) (pL_goes g (hourN v b) + n), upd (pL_gets g) b n, upd (pL_isServed g) b (if n ≤ 0 then 0 else 1))) := by
    intro g n
    unfold f_X11_comes_j103
    simp only [lt]
    rw [if_pos hb8, cl_nI (by omega), hj128, hj128]
    by_cases h : n ≤ 0
    · rw [if_pos h, if_pos h, nar0]
      rfl
    · rw [if_neg h, if_neg h, nar1]
      rfl
  have hj73 : f_X11_comes_j73 (nI b) (nI (hourN v b)) (vP v (hourN v b)) (paySh v (pL_shouted w) b) w = some (setD w (sellM v (paySh v (pL_shouted w)) (dyL w) b)) := by
    unfold f_X11_comes_j73 sellM
    rw [h4]
    simp only [Option.bind_some, hj103]
    by_cases h : paySh v (pL_shouted w) b < vP v (hourN v b)
    · rw [if_pos h, if_pos h]
      rfl
    · rw [if_neg h, if_neg h]
      by_cases h2 : pL_left w ≤ takesI v b
      · rw [if_pos h2, if_pos (show (dyL w).1 ≤ takesI v b from h2)]
        rfl
      · rw [if_neg h2, if_neg (show ¬ (dyL w).1 ≤ takesI v b from h2)]
        rfl
  unfold f_X11_comes
  simp only [lt]
  rw [show (8 : Int32) = nI 8 from rfl, show (18 : Int32) = nI 18 from rfl, if_pos (inb_add (by omega) (by omega)), cl_add (by omega), (hp _ hh).1, if_pos (inb_add (by omega) (by omega)), cl_add (by omega), (hp _ hh).2, h3]
  simp only [Option.bind_some, hj73]
  unfold comesM
  by_cases c1 : vT v (hourN v b) ≤ 0
  · rw [if_pos c1, if_pos c1]
  · rw [if_neg c1, if_neg c1]
    by_cases c2 : vP v (hourN v b) ≤ vT v (hourN v b)
    · rw [if_pos c2, if_pos c2]
    · rw [if_neg c2, if_neg c2]
      by_cases c3 : paySh v (pL_shouted w) b < vT v (hourN v b)
      · rw [if_pos c3, if_pos c3]
      · rw [if_neg c3, if_neg c3, if_pos hb8, cl_nI (by omega), nar1]
        have h4' : f_X11_takesOf (sL_isServed w (upd (pL_isServed w) b 1)) (nI b) = some (takesI v b) := takesOf_spec (w := sL_isServed w (upd (pL_isServed w) b 1)) hv' hb
        rw [h4']
        rfl
