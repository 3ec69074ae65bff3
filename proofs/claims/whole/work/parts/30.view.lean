-- ===== MATHEMATICS 2: a market seen apart from how it is held; a day of it =====
abbrev VW : Type := (Nat → Int32) × (Nat → Int32) × Int32 × Int32 × Int32 × Nat × (Nat → Nat) × (Nat → Nat) × (Nat → Int32) × (Nat → Int32)
abbrev vP (v : VW) : Nat → Int32 := v.1
abbrev vT (v : VW) : Nat → Int32 := v.2.1
abbrev vR (v : VW) : Int32 := v.2.2.1
abbrev vH (v : VW) : Int32 := v.2.2.2.1
abbrev vU (v : VW) : Int32 := v.2.2.2.2.1
abbrev vN (v : VW) : Nat := v.2.2.2.2.2.1
abbrev vK (v : VW) : Nat → Nat := v.2.2.2.2.2.2.1
abbrev vO (v : VW) : Nat → Nat := v.2.2.2.2.2.2.2.1
abbrev vW (v : VW) : Nat → Int32 := v.2.2.2.2.2.2.2.2.1
abbrev vA (v : VW) : Nat → Int32 := v.2.2.2.2.2.2.2.2.2
def laterN (h : Nat) : Nat := if h + 2 < 9 then h + 2 else 9
def waitN (v : VW) (h : Nat) : Nat := if vP v h ≤ vP v (laterN h) then h else laterN h
def hourN (v : VW) (b : Nat) : Nat := match vK v b with
  | 1 => waitN v (vO v b)
  | 3 => if 6 < waitN v (vO v b) then waitN v (vO v b) else 6
  | 4 => 9
  | _ => vO v b
def plainI (v : VW) (b : Nat) : Int32 := if 0 < vW v b - vH v * nI (hourN v b) then vW v b - vH v * nI (hourN v b) else 0
def paysI (v : VW) (b : Nat) : Int32 := match vK v b with
  | 2 => 2 * plainI v b
  | 3 => plainI v b + 5
  | 4 => plainI v b / 2
  | 5 => plainI v b + 5
  | _ => plainI v b
def takesI (v : VW) (b : Nat) : Int32 := match vK v b with
  | 4 => 2 * vA v b
  | 5 => if vA v b = 1 then 2 else vA v b
  | _ => vA v b
def rainB (v : VW) (h : Nat) : Bool := decide ((vR v >>> (nI h &&& 31)) &&& (1 : Int32) = 1)
def awayB (v : VW) (b : Nat) : Bool := rainB v (hourN v b) && !(vK v b == 2 || vK v b == 4)
/-- the class's market u is seen as v -/
def VC (u : MSt) (v : VW) : Prop := (∀ h, h < 10 → pM_prices u h = vP v h ∧ pM_theirPrices u h = vT v h) ∧ pM_rainHours u = vR v ∧ pM_heat u = vH v ∧ pM_punnets u = vU v ∧ pM_size u = nI (vN v) ∧ vN v ≤ 8 ∧ ∀ b, b < vN v → pM_kinds u b = nI (vK v b) ∧ vK v b < 6 ∧ pM_hours u b = nI (vO v b) ∧ vO v b < 10 ∧ pM_worths u b = vW v b ∧ pM_wants u b = vA v b
/-- the reference's row f of 152 is seen as v -/
def VL (f : Nat → Int32) (v : VW) : Prop := (∀ h, h < 10 → f (8 + h) = vP v h ∧ f (18 + h) = vT v h) ∧ f 2 = vR v ∧ f 1 = vH v ∧ f 0 = vU v ∧ f 3 = nI (vN v) ∧ vN v ≤ 8 ∧ ∀ b, b < vN v → f (28 + b) = nI (vK v b) ∧ vK v b < 6 ∧ f (36 + b) = nI (vO v b) ∧ vO v b < 10 ∧ f (44 + b) = vW v b ∧ f (52 + b) = vA v b
theorem laterN_lt {h : Nat} : laterN h < 10 := by unfold laterN; split <;> omega
theorem waitN_lt {v : VW} {h : Nat} (hh : h < 10) : waitN v h < 10 := by
  unfold waitN
  split
  · exact hh
  · exact laterN_lt
theorem hourN_lt {v : VW} {b : Nat} (hh : vO v b < 10) : hourN v b < 10 := by
  unfold hourN
  have hw := waitN_lt (v := v) hh
  split
  · exact hw
  · split <;> omega
  · omega
  · exact hh
-- the reference's buyers
theorem inb_add {k b n : Nat} (h : k + b < n) (hn : n < 2147483648) : inb (nI k + nI b) n := by
  rw [nI_add]
  exact (inb_nI (by omega)).mpr h
theorem cl_add {k b : Nat} (h : k + b < 2147483648) : (nI k + nI b).toNatClampNeg = k + b := by rw [nI_add, cl_nI h]
theorem waitsIn_spec {w : LSt} {v : VW} {b : Nat} (hv : VL (pL_w w) v) (hb : b < vN v) : f_X11_waitsIn w (nI b) = some (nI (waitN v (vO v b))) := by
  obtain ⟨hp, -, -, -, -, h8, hbs⟩ := hv
  obtain ⟨-, -, h36, h10, -, -⟩ := hbs b hb
  unfold f_X11_waitsIn
  simp only [lt]
  rw [show (36 : Int32) = nI 36 from rfl, if_pos (inb_add (by omega) (by omega)), cl_add (by omega), h36]
  have key : ∀ t, t < 10 → f_X11_waitsIn_j26 w (nI b) (nI (vO v b)) (nI t) = some (nI (if vP v (vO v b) ≤ vP v t then vO v b else t)) := by
    intro t ht
    unfold f_X11_waitsIn_j26
    rw [show (8 : Int32) = nI 8 from rfl, if_pos (inb_add (by omega) (by omega)), if_pos (inb_add (by omega) (by omega)), cl_add (by omega), cl_add (by omega), (hp _ h10).1, (hp _ ht).1]
    split <;> rfl
  have e2 : nI (vO v b) + (2 : Int32) = nI (vO v b + 2) := nI_add _ 2
  have e9 : (9 : Int32) = nI 9 := rfl
  rw [e2, e9]
  unfold waitN laterN
  by_cases h : vO v b + 2 < 9
  · rw [if_pos ((le_nI (by omega) (by omega)).mpr (by omega)), if_pos h, key _ (by omega)]
  · by_cases h2 : vO v b + 2 = 9
    · rw [if_pos ((le_nI (by omega) (by omega)).mpr (by omega)), if_neg h, key _ (by omega), h2]
    · rw [if_neg (by rw [le_nI (by omega) (by omega)]; omega), if_neg h, key _ (by omega)]
theorem ti_k {k : Nat} (h : k < 6) : (nI k).toInt = (k : Int) := ti_nI (by omega)
theorem hourOf_spec {w : LSt} {v : VW} {b : Nat} (hv : VL (pL_w w) v) (hb : b < vN v) : f_X11_hourOf w (nI b) = some (nI (hourN v b)) := by
  have hw := waitsIn_spec hv hb
  obtain ⟨hp, -, -, -, -, h8, hbs⟩ := hv
  obtain ⟨h28, hk6, h36, h10, -, -⟩ := hbs b hb
  have hj : f_X11_hourOf_j70 w (nI b) = some (nI (vO v b)) := by
    unfold f_X11_hourOf_j70
    rw [show (36 : Int32) = nI 36 from rfl, if_pos (inb_add (by omega) (by omega)), cl_add (by omega), h36]
  unfold f_X11_hourOf hourN
  rw [show (28 : Int32) = nI 28 from rfl, if_pos (inb_add (by omega) (by omega)), cl_add (by omega), h28, ti_k hk6, hw, hj]
  generalize hq : vK v b = q at hk6 ⊢
  have h6 : (6 : Int32) = nI 6 := rfl
  match q, hk6 with
  | 0, _ => rfl
  | 1, _ => rfl
  | 2, _ => rfl
  | 3, _ =>
    have hwl := waitN_lt (v := v) h10
    simp only [Option.bind_some]
    rw [if_neg (by decide), if_neg (by decide), if_pos (by decide), h6]
    by_cases h : 6 < waitN v (vO v b)
    · rw [if_pos ((le_nI (by omega) (by omega)).mpr (by omega)), if_pos h]
    · by_cases h2 : waitN v (vO v b) = 6
      · rw [if_pos ((le_nI (by omega) (by omega)).mpr (by omega)), if_neg h, h2]
      · rw [if_neg (by rw [le_nI (by omega) (by omega)]; omega), if_neg h]
  | 4, _ => rfl
  | 5, _ => rfl
  | q + 6, h => omega
