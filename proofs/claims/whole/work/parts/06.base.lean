-- ===== THE WORDS, once for all methods =====
def wU : List Cond := lw_tbl.filter goodWord
theorem wU_of {w : Cond} (h : w ∈ lw_tbl) (g : goodWord w = true) : w ∈ wU := List.mem_filter.mpr ⟨h, g⟩
theorem wU_in {w : Cond} (h : w ∈ wU) : w ∈ lw_tbl := (List.mem_filter.mp h).1
theorem wU_good {w : Cond} (h : w ∈ wU) : goodWord w = true := (List.mem_filter.mp h).2
theorem gU {c' : Cond} (h : c' ∈ wU) : GoodIn wU (c' :: wU) := fun w hw => by
  rcases List.mem_cons.mp hw with e | hw
  · subst e; exact ⟨h, good_of_word (wU_good h)⟩
  · exact ⟨hw, good_of_word (wU_good hw)⟩
theorem wU_t {w : Cond} (h : w ∈ tables_1) (g : goodWord w = true) : w ∈ wU := wU_of (List.mem_append_right _ h) g
theorem wU_t1 {w : Cond} (k : Nat) (h : tables_1_1[k]? = some w) (g : goodWord w = true) : w ∈ wU := wU_t (List.mem_append_left _ (List.mem_of_getElem? h)) g
theorem wU_t2 {w : Cond} (k : Nat) (h : tables_1_2[k]? = some w) (g : goodWord w = true) : w ∈ wU := wU_t (List.mem_append_right _ (List.mem_append_left _ (List.mem_of_getElem? h))) g
theorem wU_t3 {w : Cond} (k : Nat) (h : tables_1_3[k]? = some w) (g : goodWord w = true) : w ∈ wU := wU_t (List.mem_append_right _ (List.mem_append_right _ (List.mem_append_left _ (List.mem_of_getElem? h)))) g
theorem wU_t4 {w : Cond} (k : Nat) (h : tables_1_4[k]? = some w) (g : goodWord w = true) : w ∈ wU := wU_t (List.mem_append_right _ (List.mem_append_right _ (List.mem_append_right _ (List.mem_append_left _ (List.mem_of_getElem? h))))) g
theorem wU_t5 {w : Cond} (k : Nat) (h : tables_1_5[k]? = some w) (g : goodWord w = true) : w ∈ wU := wU_t (List.mem_append_right _ (List.mem_append_right _ (List.mem_append_right _ (List.mem_append_right _ (List.mem_of_getElem? h))))) g
theorem wU_s {q : MethodName × Nat} (h : q ∈ lw_privs) : Cond.selects q.1.cls q.1 q.1 ∈ wU := wU_of (List.mem_append_left _ (List.mem_map.mpr ⟨q, h, rfl⟩)) rfl
def isNest : Cond → Bool
  | .fieldLinkNest .. => true
  | .methodLinkNest .. => true
  | .castable .. => true
  | _ => false
def wN : List Cond := tables_1.filter isNest
def NW (U : State) : Prop := ∀ w ∈ wN, va_Nw w U
theorem wN_nest {w : Cond} (h : w ∈ wN) : isNest w = true := (List.mem_filter.mp h).2
theorem nest_on {w : Cond} (h : isNest w = true) : w.onTables = true := by
  cases w <;> first | rfl | (simp [isNest] at h)
theorem NW.warm {s U : State} (hW : s.WarmedH U.vm) (h : NW s) : NW U := fun w hw => by
  have h1 := h w hw
  have h2 := wN_nest hw
  cases w <;> first | exact va_Nw.warmF hW h1 | exact va_Nw.warmM hW h1 | exact va_Nw.warmC hW h1 | (simp [isNest] at h2)
theorem NW.same {u U : State} (hv : u.vm = U.vm) (h : NW u) : NW U := fun w hw => va_Nw.same (nest_on (wN_nest hw)) hv (h w hw)
theorem NW.of {args : Array Value} {s : State} (h : ∀ w ∈ lw_tbl, w.before args s = true) : NW s := fun w hw => va_Nw.of (nest_on (wN_nest hw)) (h w (List.mem_append_right _ (List.mem_filter.mp hw).1))
theorem wN_t {w : Cond} (h : w ∈ tables_1) (g : isNest w = true) : w ∈ wN := List.mem_filter.mpr ⟨h, g⟩
theorem wN_t1 {w : Cond} (k : Nat) (h : tables_1_1[k]? = some w) (g : isNest w = true) : w ∈ wN := wN_t (List.mem_append_left _ (List.mem_of_getElem? h)) g
theorem wN_t2 {w : Cond} (k : Nat) (h : tables_1_2[k]? = some w) (g : isNest w = true) : w ∈ wN := wN_t (List.mem_append_right _ (List.mem_append_left _ (List.mem_of_getElem? h))) g
theorem wN_t3 {w : Cond} (k : Nat) (h : tables_1_3[k]? = some w) (g : isNest w = true) : w ∈ wN := wN_t (List.mem_append_right _ (List.mem_append_right _ (List.mem_append_left _ (List.mem_of_getElem? h)))) g
theorem wN_t4 {w : Cond} (k : Nat) (h : tables_1_4[k]? = some w) (g : isNest w = true) : w ∈ wN := wN_t (List.mem_append_right _ (List.mem_append_right _ (List.mem_append_right _ (List.mem_append_left _ (List.mem_of_getElem? h))))) g
theorem wN_t5 {w : Cond} (k : Nat) (h : tables_1_5[k]? = some w) (g : isNest w = true) : w ∈ wN := wN_t (List.mem_append_right _ (List.mem_append_right _ (List.mem_append_right _ (List.mem_append_right _ (List.mem_of_getElem? h))))) g
-- ===== pure: steps of an answer that may be wanting =====
abbrev inb (i : Int32) (n : Nat) : Prop := 0 ≤ i.toInt ∧ i.toInt < (n : Int)
theorem inb_vp {i : Int32} {n : Nat} (h : inb i n) : vp_in i n := vp_in_iff.mpr h
theorem ob_pos {α : Type} {c : Prop} {i : Decidable c} {a b o : α} (h : c) (hk : (@ite α c i a b) = o) : a = o := by rw [if_pos h] at hk; exact hk
theorem ob_neg {α : Type} {c : Prop} {i : Decidable c} {a b o : α} (h : ¬ c) (hk : (@ite α c i a b) = o) : b = o := by rw [if_neg h] at hk; exact hk
theorem ob_if {α : Type} {c : Prop} {i : Decidable c} {a : Option α} {o : α} (hk : (@ite (Option α) c i a none) = some o) : c ∧ a = some o := by
  by_cases h : c
  · rw [if_pos h] at hk; exact ⟨h, hk⟩
  · rw [if_neg h] at hk; cases hk
theorem ob_ifn {α : Type} {c : Prop} {i : Decidable c} {a : Option α} {o : α} (hk : (@ite (Option α) c i none a) = some o) : ¬ c ∧ a = some o := by
  by_cases h : c
  · rw [if_pos h] at hk; cases hk
  · rw [if_neg h] at hk; exact ⟨h, hk⟩
theorem ob_bind {α β : Type} {f : Option α} {g : α → Option β} {o : β} (hk : Option.bind f g = some o) : ∃ x, f = some x ∧ g x = some o := by
  cases f with
  | none => cases hk
  | some x => exact ⟨x, rfl, hk⟩
def lt {α β : Type} (v : α) (f : α → β) : β := f v
theorem ob_lt {α β : Type} {v : α} {f : α → β} {o : β} (hk : lt v f = o) : ∃ y, y = v ∧ f y = o := ⟨v, rfl, hk⟩
def lp {α β : Type} (step : (α → Option β) → α → Option β) : Nat → α → Option β
  | 0, _ => none
  | n + 1, a => step (lp step n) a
theorem lp_succ {α β : Type} (step : (α → Option β) → α → Option β) (n : Nat) (a : α) : lp step (n + 1) a = step (lp step n) a := rfl
theorem lp_zero {α β : Type} {step : (α → Option β) → α → Option β} {a : α} {o : β} (h : lp step 0 a = some o) : False := by cases h
-- ===== THE WORLD =====
abbrev GC : Type := va_G × (Nat → ClassId) × (Nat → Nat) × List Nat
abbrev ca (Γ : GC) (k : Nat) : ClassId := Γ.2.1 k
abbrev ad (Γ : GC) (i : Nat) : Nat := Γ.2.2.1 i
abbrev act (Γ : GC) (i : Nat) : Prop := i ∈ Γ.2.2.2
def tysG (Γ : GC) : List (ClassId × FieldType) := [(ca Γ 0, .int), (ca Γ 1, .boolean), (ca Γ 2, .object "HalfByFive$Plain"), (ca Γ 3, .object "HalfByFive$Market")]
abbrev MSt : Type := Int32 × Int32 × Int32 × Int32 × Int32 × Int32 × Int32 × Int32 × (Nat → Int32) × (Nat → Int32) × (Nat → Int32) × (Nat → Int32) × (Nat → Int32) × (Nat → Int32) × (Nat → Int32) × (Nat → Int32) × (Nat → Int32)
abbrev pM_punnets (u : MSt) : Int32 := u.1
def sM_punnets (u : MSt) (v : Int32) : MSt := (v, u.2)
abbrev pM_heat (u : MSt) : Int32 := u.2.1
def sM_heat (u : MSt) (v : Int32) : MSt := (u.1, v, u.2.2)
abbrev pM_rainHours (u : MSt) : Int32 := u.2.2.1
def sM_rainHours (u : MSt) (v : Int32) : MSt := (u.1, u.2.1, v, u.2.2.2)
abbrev pM_size (u : MSt) : Int32 := u.2.2.2.1
def sM_size (u : MSt) (v : Int32) : MSt := (u.1, u.2.1, u.2.2.1, v, u.2.2.2.2)
abbrev pM_totalTakings (u : MSt) : Int32 := u.2.2.2.2.1
def sM_totalTakings (u : MSt) (v : Int32) : MSt := (u.1, u.2.1, u.2.2.1, u.2.2.2.1, v, u.2.2.2.2.2)
abbrev pM_totalThrown (u : MSt) : Int32 := u.2.2.2.2.2.1
def sM_totalThrown (u : MSt) (v : Int32) : MSt := (u.1, u.2.1, u.2.2.1, u.2.2.2.1, u.2.2.2.2.1, v, u.2.2.2.2.2.2)
abbrev pM_soldSize (u : MSt) : Int32 := u.2.2.2.2.2.2.1
def sM_soldSize (u : MSt) (v : Int32) : MSt := (u.1, u.2.1, u.2.2.1, u.2.2.2.1, u.2.2.2.2.1, u.2.2.2.2.2.1, v, u.2.2.2.2.2.2.2)
abbrev pM_pastSize (u : MSt) : Int32 := u.2.2.2.2.2.2.2.1
def sM_pastSize (u : MSt) (v : Int32) : MSt := (u.1, u.2.1, u.2.2.1, u.2.2.2.1, u.2.2.2.2.1, u.2.2.2.2.2.1, u.2.2.2.2.2.2.1, v, u.2.2.2.2.2.2.2.2)
abbrev pM_prices (u : MSt) : (Nat → Int32) := u.2.2.2.2.2.2.2.2.1
def sM_prices (u : MSt) (v : (Nat → Int32)) : MSt := (u.1, u.2.1, u.2.2.1, u.2.2.2.1, u.2.2.2.2.1, u.2.2.2.2.2.1, u.2.2.2.2.2.2.1, u.2.2.2.2.2.2.2.1, v, u.2.2.2.2.2.2.2.2.2)
abbrev pM_theirPrices (u : MSt) : (Nat → Int32) := u.2.2.2.2.2.2.2.2.2.1
def sM_theirPrices (u : MSt) (v : (Nat → Int32)) : MSt := (u.1, u.2.1, u.2.2.1, u.2.2.2.1, u.2.2.2.2.1, u.2.2.2.2.2.1, u.2.2.2.2.2.2.1, u.2.2.2.2.2.2.2.1, u.2.2.2.2.2.2.2.2.1, v, u.2.2.2.2.2.2.2.2.2.2)
abbrev pM_kinds (u : MSt) : (Nat → Int32) := u.2.2.2.2.2.2.2.2.2.2.1
def sM_kinds (u : MSt) (v : (Nat → Int32)) : MSt := (u.1, u.2.1, u.2.2.1, u.2.2.2.1, u.2.2.2.2.1, u.2.2.2.2.2.1, u.2.2.2.2.2.2.1, u.2.2.2.2.2.2.2.1, u.2.2.2.2.2.2.2.2.1, u.2.2.2.2.2.2.2.2.2.1, v, u.2.2.2.2.2.2.2.2.2.2.2)
abbrev pM_hours (u : MSt) : (Nat → Int32) := u.2.2.2.2.2.2.2.2.2.2.2.1
def sM_hours (u : MSt) (v : (Nat → Int32)) : MSt := (u.1, u.2.1, u.2.2.1, u.2.2.2.1, u.2.2.2.2.1, u.2.2.2.2.2.1, u.2.2.2.2.2.2.1, u.2.2.2.2.2.2.2.1, u.2.2.2.2.2.2.2.2.1, u.2.2.2.2.2.2.2.2.2.1, u.2.2.2.2.2.2.2.2.2.2.1, v, u.2.2.2.2.2.2.2.2.2.2.2.2)
abbrev pM_worths (u : MSt) : (Nat → Int32) := u.2.2.2.2.2.2.2.2.2.2.2.2.1
def sM_worths (u : MSt) (v : (Nat → Int32)) : MSt := (u.1, u.2.1, u.2.2.1, u.2.2.2.1, u.2.2.2.2.1, u.2.2.2.2.2.1, u.2.2.2.2.2.2.1, u.2.2.2.2.2.2.2.1, u.2.2.2.2.2.2.2.2.1, u.2.2.2.2.2.2.2.2.2.1, u.2.2.2.2.2.2.2.2.2.2.1, u.2.2.2.2.2.2.2.2.2.2.2.1, v, u.2.2.2.2.2.2.2.2.2.2.2.2.2)
abbrev pM_wants (u : MSt) : (Nat → Int32) := u.2.2.2.2.2.2.2.2.2.2.2.2.2.1
def sM_wants (u : MSt) (v : (Nat → Int32)) : MSt := (u.1, u.2.1, u.2.2.1, u.2.2.2.1, u.2.2.2.2.1, u.2.2.2.2.2.1, u.2.2.2.2.2.2.1, u.2.2.2.2.2.2.2.1, u.2.2.2.2.2.2.2.2.1, u.2.2.2.2.2.2.2.2.2.1, u.2.2.2.2.2.2.2.2.2.2.1, u.2.2.2.2.2.2.2.2.2.2.2.1, u.2.2.2.2.2.2.2.2.2.2.2.2.1, v, u.2.2.2.2.2.2.2.2.2.2.2.2.2.2)
abbrev pM_soldHours (u : MSt) : (Nat → Int32) := u.2.2.2.2.2.2.2.2.2.2.2.2.2.2.1
def sM_soldHours (u : MSt) (v : (Nat → Int32)) : MSt := (u.1, u.2.1, u.2.2.1, u.2.2.2.1, u.2.2.2.2.1, u.2.2.2.2.2.1, u.2.2.2.2.2.2.1, u.2.2.2.2.2.2.2.1, u.2.2.2.2.2.2.2.2.1, u.2.2.2.2.2.2.2.2.2.1, u.2.2.2.2.2.2.2.2.2.2.1, u.2.2.2.2.2.2.2.2.2.2.2.1, u.2.2.2.2.2.2.2.2.2.2.2.2.1, u.2.2.2.2.2.2.2.2.2.2.2.2.2.1, v, u.2.2.2.2.2.2.2.2.2.2.2.2.2.2.2)
abbrev pM_soldNumbers (u : MSt) : (Nat → Int32) := u.2.2.2.2.2.2.2.2.2.2.2.2.2.2.2.1
def sM_soldNumbers (u : MSt) (v : (Nat → Int32)) : MSt := (u.1, u.2.1, u.2.2.1, u.2.2.2.1, u.2.2.2.2.1, u.2.2.2.2.2.1, u.2.2.2.2.2.2.1, u.2.2.2.2.2.2.2.1, u.2.2.2.2.2.2.2.2.1, u.2.2.2.2.2.2.2.2.2.1, u.2.2.2.2.2.2.2.2.2.2.1, u.2.2.2.2.2.2.2.2.2.2.2.1, u.2.2.2.2.2.2.2.2.2.2.2.2.1, u.2.2.2.2.2.2.2.2.2.2.2.2.2.1, u.2.2.2.2.2.2.2.2.2.2.2.2.2.2.1, v, u.2.2.2.2.2.2.2.2.2.2.2.2.2.2.2.2)
abbrev pM_past (u : MSt) : (Nat → Int32) := u.2.2.2.2.2.2.2.2.2.2.2.2.2.2.2.2
def sM_past (u : MSt) (v : (Nat → Int32)) : MSt := (u.1, u.2.1, u.2.2.1, u.2.2.2.1, u.2.2.2.2.1, u.2.2.2.2.2.1, u.2.2.2.2.2.2.1, u.2.2.2.2.2.2.2.1, u.2.2.2.2.2.2.2.2.1, u.2.2.2.2.2.2.2.2.2.1, u.2.2.2.2.2.2.2.2.2.2.1, u.2.2.2.2.2.2.2.2.2.2.2.1, u.2.2.2.2.2.2.2.2.2.2.2.2.1, u.2.2.2.2.2.2.2.2.2.2.2.2.2.1, u.2.2.2.2.2.2.2.2.2.2.2.2.2.2.1, u.2.2.2.2.2.2.2.2.2.2.2.2.2.2.2.1, v)
abbrev DSt : Type := (Nat → Int32) × (Nat → Int32) × (Nat → Int32) × (Nat → Int32) × (Nat → Int32) × (Nat → Int32) × (Nat → Int32) × (Nat → Int32) × Int32 × Int32 × Int32
abbrev pD_when (u : DSt) : (Nat → Int32) := u.1
def sD_when (u : DSt) (v : (Nat → Int32)) : DSt := (v, u.2)
abbrev pD_pays (u : DSt) : (Nat → Int32) := u.2.1
def sD_pays (u : DSt) (v : (Nat → Int32)) : DSt := (u.1, v, u.2.2)
abbrev pD_carries (u : DSt) : (Nat → Int32) := u.2.2.1
def sD_carries (u : DSt) (v : (Nat → Int32)) : DSt := (u.1, u.2.1, v, u.2.2.2)
abbrev pD_staysAway (u : DSt) : (Nat → Int32) := u.2.2.2.1
def sD_staysAway (u : DSt) (v : (Nat → Int32)) : DSt := (u.1, u.2.1, u.2.2.1, v, u.2.2.2.2)
abbrev pD_order (u : DSt) : (Nat → Int32) := u.2.2.2.2.1
def sD_order (u : DSt) (v : (Nat → Int32)) : DSt := (u.1, u.2.1, u.2.2.1, u.2.2.2.1, v, u.2.2.2.2.2)
abbrev pD_gone (u : DSt) : (Nat → Int32) := u.2.2.2.2.2.1
def sD_gone (u : DSt) (v : (Nat → Int32)) : DSt := (u.1, u.2.1, u.2.2.1, u.2.2.2.1, u.2.2.2.2.1, v, u.2.2.2.2.2.2)
abbrev pD_got (u : DSt) : (Nat → Int32) := u.2.2.2.2.2.2.1
def sD_got (u : DSt) (v : (Nat → Int32)) : DSt := (u.1, u.2.1, u.2.2.1, u.2.2.2.1, u.2.2.2.2.1, u.2.2.2.2.2.1, v, u.2.2.2.2.2.2.2)
abbrev pD_served (u : DSt) : (Nat → Int32) := u.2.2.2.2.2.2.2.1
def sD_served (u : DSt) (v : (Nat → Int32)) : DSt := (u.1, u.2.1, u.2.2.1, u.2.2.2.1, u.2.2.2.2.1, u.2.2.2.2.2.1, u.2.2.2.2.2.2.1, v, u.2.2.2.2.2.2.2.2)
abbrev pD_left (u : DSt) : Int32 := u.2.2.2.2.2.2.2.2.1
def sD_left (u : DSt) (v : Int32) : DSt := (u.1, u.2.1, u.2.2.1, u.2.2.2.1, u.2.2.2.2.1, u.2.2.2.2.2.1, u.2.2.2.2.2.2.1, u.2.2.2.2.2.2.2.1, v, u.2.2.2.2.2.2.2.2.2)
abbrev pD_takings (u : DSt) : Int32 := u.2.2.2.2.2.2.2.2.2.1
def sD_takings (u : DSt) (v : Int32) : DSt := (u.1, u.2.1, u.2.2.1, u.2.2.2.1, u.2.2.2.2.1, u.2.2.2.2.2.1, u.2.2.2.2.2.2.1, u.2.2.2.2.2.2.2.1, u.2.2.2.2.2.2.2.2.1, v, u.2.2.2.2.2.2.2.2.2.2)
abbrev pD_theirTakings (u : DSt) : Int32 := u.2.2.2.2.2.2.2.2.2.2
def sD_theirTakings (u : DSt) (v : Int32) : DSt := (u.1, u.2.1, u.2.2.1, u.2.2.2.1, u.2.2.2.2.1, u.2.2.2.2.2.1, u.2.2.2.2.2.2.1, u.2.2.2.2.2.2.2.1, u.2.2.2.2.2.2.2.2.1, u.2.2.2.2.2.2.2.2.2.1, v)
abbrev SSt : Type := (Nat → Int32) × (Nat → Int32) × (Nat → Int32) × (Nat → Int32) × Int32 × Int32
abbrev pS_mine (u : SSt) : (Nat → Int32) := u.1
def sS_mine (u : SSt) (v : (Nat → Int32)) : SSt := (v, u.2)
abbrev pS_others (u : SSt) : (Nat → Int32) := u.2.1
def sS_others (u : SSt) (v : (Nat → Int32)) : SSt := (u.1, v, u.2.2)
abbrev pS_mostMine (u : SSt) : (Nat → Int32) := u.2.2.1
def sS_mostMine (u : SSt) (v : (Nat → Int32)) : SSt := (u.1, u.2.1, v, u.2.2.2)
abbrev pS_mostOthers (u : SSt) : (Nat → Int32) := u.2.2.2.1
def sS_mostOthers (u : SSt) (v : (Nat → Int32)) : SSt := (u.1, u.2.1, u.2.2.1, v, u.2.2.2.2)
abbrev pS_rests (u : SSt) : Int32 := u.2.2.2.2.1
def sS_rests (u : SSt) (v : Int32) : SSt := (u.1, u.2.1, u.2.2.1, u.2.2.2.1, v, u.2.2.2.2.2)
abbrev pS_firstRest (u : SSt) : Int32 := u.2.2.2.2.2
def sS_firstRest (u : SSt) (v : Int32) : SSt := (u.1, u.2.1, u.2.2.1, u.2.2.2.1, u.2.2.2.2.1, v)
abbrev RSt : Type := (Nat → Int32) × Int32 × Int32 × Int32 × Int32 × Int32
abbrev pR_bytes (u : RSt) : (Nat → Int32) := u.1
def sR_bytes (u : RSt) (v : (Nat → Int32)) : RSt := (v, u.2)
abbrev pR_length (u : RSt) : Int32 := u.2.1
def sR_length (u : RSt) (v : Int32) : RSt := (u.1, v, u.2.2)
abbrev pR_token (u : RSt) : Int32 := u.2.2.1
def sR_token (u : RSt) (v : Int32) : RSt := (u.1, u.2.1, v, u.2.2.2)
abbrev pR_start (u : RSt) : Int32 := u.2.2.2.1
def sR_start (u : RSt) (v : Int32) : RSt := (u.1, u.2.1, u.2.2.1, v, u.2.2.2.2)
abbrev pR_next (u : RSt) : Int32 := u.2.2.2.2.1
def sR_next (u : RSt) (v : Int32) : RSt := (u.1, u.2.1, u.2.2.1, u.2.2.2.1, v, u.2.2.2.2.2)
abbrev pR_number (u : RSt) : Int32 := u.2.2.2.2.2
def sR_number (u : RSt) (v : Int32) : RSt := (u.1, u.2.1, u.2.2.1, u.2.2.2.1, u.2.2.2.2.1, v)
abbrev HSt : Type := (Nat → Int32) × Int64 × Int64 × Int32 × Int32 × Int32
abbrev pH_kept (u : HSt) : (Nat → Int32) := u.1
def sH_kept (u : HSt) (v : (Nat → Int32)) : HSt := (v, u.2)
abbrev pH_above (u : HSt) : Int64 := u.2.1
def sH_above (u : HSt) (v : Int64) : HSt := (u.1, v, u.2.2)
abbrev pH_below (u : HSt) : Int64 := u.2.2.1
def sH_below (u : HSt) (v : Int64) : HSt := (u.1, u.2.1, v, u.2.2.2)
abbrev pH_refusedBad (u : HSt) : Int32 := u.2.2.2.1
def sH_refusedBad (u : HSt) (v : Int32) : HSt := (u.1, u.2.1, u.2.2.1, v, u.2.2.2.2)
abbrev pH_refusedNo (u : HSt) : Int32 := u.2.2.2.2.1
def sH_refusedNo (u : HSt) (v : Int32) : HSt := (u.1, u.2.1, u.2.2.1, u.2.2.2.1, v, u.2.2.2.2.2)
abbrev pH_refusedFull (u : HSt) : Int32 := u.2.2.2.2.2
def sH_refusedFull (u : HSt) (v : Int32) : HSt := (u.1, u.2.1, u.2.2.1, u.2.2.2.1, u.2.2.2.2.1, v)
abbrev LSt : Type := (Nat → Int32) × (Nat → Int32) × (Nat → Int32) × Int32 × (Nat → Int32) × Int64 × Int64 × Int32 × Int32 × Int32 × Int32 × Int32 × Int32 × Int32 × (Nat → Int32) × (Nat → Int32) × (Nat → Int32) × Int32 × Int32 × Int32 × (Nat → Int32) × (Nat → Int32) × (Nat → Int32) × Int64
abbrev pL_w (u : LSt) : (Nat → Int32) := u.1
def sL_w (u : LSt) (v : (Nat → Int32)) : LSt := (v, u.2)
abbrev pL_isKept (u : LSt) : (Nat → Int32) := u.2.1
def sL_isKept (u : LSt) (v : (Nat → Int32)) : LSt := (u.1, v, u.2.2)
abbrev pL_text (u : LSt) : (Nat → Int32) := u.2.2.1
def sL_text (u : LSt) (v : (Nat → Int32)) : LSt := (u.1, u.2.1, v, u.2.2.2)
abbrev pL_texted (u : LSt) : Int32 := u.2.2.2.1
def sL_texted (u : LSt) (v : Int32) : LSt := (u.1, u.2.1, u.2.2.1, v, u.2.2.2.2)
abbrev pL_refused (u : LSt) : (Nat → Int32) := u.2.2.2.2.1
def sL_refused (u : LSt) (v : (Nat → Int32)) : LSt := (u.1, u.2.1, u.2.2.1, u.2.2.2.1, v, u.2.2.2.2.2)
abbrev pL_above (u : LSt) : Int64 := u.2.2.2.2.2.1
def sL_above (u : LSt) (v : Int64) : LSt := (u.1, u.2.1, u.2.2.1, u.2.2.2.1, u.2.2.2.2.1, v, u.2.2.2.2.2.2)
abbrev pL_below (u : LSt) : Int64 := u.2.2.2.2.2.2.1
def sL_below (u : LSt) (v : Int64) : LSt := (u.1, u.2.1, u.2.2.1, u.2.2.2.1, u.2.2.2.2.1, u.2.2.2.2.2.1, v, u.2.2.2.2.2.2.2)
abbrev pL_at (u : LSt) : Int32 := u.2.2.2.2.2.2.2.1
def sL_at (u : LSt) (v : Int32) : LSt := (u.1, u.2.1, u.2.2.1, u.2.2.2.1, u.2.2.2.2.1, u.2.2.2.2.2.1, u.2.2.2.2.2.2.1, v, u.2.2.2.2.2.2.2.2)
abbrev pL_start (u : LSt) : Int32 := u.2.2.2.2.2.2.2.2.1
def sL_start (u : LSt) (v : Int32) : LSt := (u.1, u.2.1, u.2.2.1, u.2.2.2.1, u.2.2.2.2.1, u.2.2.2.2.2.1, u.2.2.2.2.2.2.1, u.2.2.2.2.2.2.2.1, v, u.2.2.2.2.2.2.2.2.2)
abbrev pL_isWord (u : LSt) : Int32 := u.2.2.2.2.2.2.2.2.2.1
def sL_isWord (u : LSt) (v : Int32) : LSt := (u.1, u.2.1, u.2.2.1, u.2.2.2.1, u.2.2.2.2.1, u.2.2.2.2.2.1, u.2.2.2.2.2.2.1, u.2.2.2.2.2.2.2.1, u.2.2.2.2.2.2.2.2.1, v, u.2.2.2.2.2.2.2.2.2.2)
abbrev pL_isFigures (u : LSt) : Int32 := u.2.2.2.2.2.2.2.2.2.2.1
def sL_isFigures (u : LSt) (v : Int32) : LSt := (u.1, u.2.1, u.2.2.1, u.2.2.2.1, u.2.2.2.2.1, u.2.2.2.2.2.1, u.2.2.2.2.2.2.1, u.2.2.2.2.2.2.2.1, u.2.2.2.2.2.2.2.2.1, u.2.2.2.2.2.2.2.2.2.1, v, u.2.2.2.2.2.2.2.2.2.2.2)
abbrev pL_value (u : LSt) : Int32 := u.2.2.2.2.2.2.2.2.2.2.2.1
def sL_value (u : LSt) (v : Int32) : LSt := (u.1, u.2.1, u.2.2.1, u.2.2.2.1, u.2.2.2.2.1, u.2.2.2.2.2.1, u.2.2.2.2.2.2.1, u.2.2.2.2.2.2.2.1, u.2.2.2.2.2.2.2.2.1, u.2.2.2.2.2.2.2.2.2.1, u.2.2.2.2.2.2.2.2.2.2.1, v, u.2.2.2.2.2.2.2.2.2.2.2.2)
abbrev pL_comers (u : LSt) : Int32 := u.2.2.2.2.2.2.2.2.2.2.2.2.1
def sL_comers (u : LSt) (v : Int32) : LSt := (u.1, u.2.1, u.2.2.1, u.2.2.2.1, u.2.2.2.2.1, u.2.2.2.2.2.1, u.2.2.2.2.2.2.1, u.2.2.2.2.2.2.2.1, u.2.2.2.2.2.2.2.2.1, u.2.2.2.2.2.2.2.2.2.1, u.2.2.2.2.2.2.2.2.2.2.1, u.2.2.2.2.2.2.2.2.2.2.2.1, v, u.2.2.2.2.2.2.2.2.2.2.2.2.2)
abbrev pL_shouted (u : LSt) : Int32 := u.2.2.2.2.2.2.2.2.2.2.2.2.2.1
def sL_shouted (u : LSt) (v : Int32) : LSt := (u.1, u.2.1, u.2.2.1, u.2.2.2.1, u.2.2.2.2.1, u.2.2.2.2.2.1, u.2.2.2.2.2.2.1, u.2.2.2.2.2.2.2.1, u.2.2.2.2.2.2.2.2.1, u.2.2.2.2.2.2.2.2.2.1, u.2.2.2.2.2.2.2.2.2.2.1, u.2.2.2.2.2.2.2.2.2.2.2.1, u.2.2.2.2.2.2.2.2.2.2.2.2.1, v, u.2.2.2.2.2.2.2.2.2.2.2.2.2.2)
abbrev pL_gets (u : LSt) : (Nat → Int32) := u.2.2.2.2.2.2.2.2.2.2.2.2.2.2.1
def sL_gets (u : LSt) (v : (Nat → Int32)) : LSt := (u.1, u.2.1, u.2.2.1, u.2.2.2.1, u.2.2.2.2.1, u.2.2.2.2.2.1, u.2.2.2.2.2.2.1, u.2.2.2.2.2.2.2.1, u.2.2.2.2.2.2.2.2.1, u.2.2.2.2.2.2.2.2.2.1, u.2.2.2.2.2.2.2.2.2.2.1, u.2.2.2.2.2.2.2.2.2.2.2.1, u.2.2.2.2.2.2.2.2.2.2.2.2.1, u.2.2.2.2.2.2.2.2.2.2.2.2.2.1, v, u.2.2.2.2.2.2.2.2.2.2.2.2.2.2.2)
abbrev pL_isServed (u : LSt) : (Nat → Int32) := u.2.2.2.2.2.2.2.2.2.2.2.2.2.2.2.1
def sL_isServed (u : LSt) (v : (Nat → Int32)) : LSt := (u.1, u.2.1, u.2.2.1, u.2.2.2.1, u.2.2.2.2.1, u.2.2.2.2.2.1, u.2.2.2.2.2.2.1, u.2.2.2.2.2.2.2.1, u.2.2.2.2.2.2.2.2.1, u.2.2.2.2.2.2.2.2.2.1, u.2.2.2.2.2.2.2.2.2.2.1, u.2.2.2.2.2.2.2.2.2.2.2.1, u.2.2.2.2.2.2.2.2.2.2.2.2.1, u.2.2.2.2.2.2.2.2.2.2.2.2.2.1, u.2.2.2.2.2.2.2.2.2.2.2.2.2.2.1, v, u.2.2.2.2.2.2.2.2.2.2.2.2.2.2.2.2)
abbrev pL_goes (u : LSt) : (Nat → Int32) := u.2.2.2.2.2.2.2.2.2.2.2.2.2.2.2.2.1
def sL_goes (u : LSt) (v : (Nat → Int32)) : LSt := (u.1, u.2.1, u.2.2.1, u.2.2.2.1, u.2.2.2.2.1, u.2.2.2.2.2.1, u.2.2.2.2.2.2.1, u.2.2.2.2.2.2.2.1, u.2.2.2.2.2.2.2.2.1, u.2.2.2.2.2.2.2.2.2.1, u.2.2.2.2.2.2.2.2.2.2.1, u.2.2.2.2.2.2.2.2.2.2.2.1, u.2.2.2.2.2.2.2.2.2.2.2.2.1, u.2.2.2.2.2.2.2.2.2.2.2.2.2.1, u.2.2.2.2.2.2.2.2.2.2.2.2.2.2.1, u.2.2.2.2.2.2.2.2.2.2.2.2.2.2.2.1, v, u.2.2.2.2.2.2.2.2.2.2.2.2.2.2.2.2.2)
abbrev pL_takings (u : LSt) : Int32 := u.2.2.2.2.2.2.2.2.2.2.2.2.2.2.2.2.2.1
def sL_takings (u : LSt) (v : Int32) : LSt := (u.1, u.2.1, u.2.2.1, u.2.2.2.1, u.2.2.2.2.1, u.2.2.2.2.2.1, u.2.2.2.2.2.2.1, u.2.2.2.2.2.2.2.1, u.2.2.2.2.2.2.2.2.1, u.2.2.2.2.2.2.2.2.2.1, u.2.2.2.2.2.2.2.2.2.2.1, u.2.2.2.2.2.2.2.2.2.2.2.1, u.2.2.2.2.2.2.2.2.2.2.2.2.1, u.2.2.2.2.2.2.2.2.2.2.2.2.2.1, u.2.2.2.2.2.2.2.2.2.2.2.2.2.2.1, u.2.2.2.2.2.2.2.2.2.2.2.2.2.2.2.1, u.2.2.2.2.2.2.2.2.2.2.2.2.2.2.2.2.1, v, u.2.2.2.2.2.2.2.2.2.2.2.2.2.2.2.2.2.2)
abbrev pL_theirTakings (u : LSt) : Int32 := u.2.2.2.2.2.2.2.2.2.2.2.2.2.2.2.2.2.2.1
def sL_theirTakings (u : LSt) (v : Int32) : LSt := (u.1, u.2.1, u.2.2.1, u.2.2.2.1, u.2.2.2.2.1, u.2.2.2.2.2.1, u.2.2.2.2.2.2.1, u.2.2.2.2.2.2.2.1, u.2.2.2.2.2.2.2.2.1, u.2.2.2.2.2.2.2.2.2.1, u.2.2.2.2.2.2.2.2.2.2.1, u.2.2.2.2.2.2.2.2.2.2.2.1, u.2.2.2.2.2.2.2.2.2.2.2.2.1, u.2.2.2.2.2.2.2.2.2.2.2.2.2.1, u.2.2.2.2.2.2.2.2.2.2.2.2.2.2.1, u.2.2.2.2.2.2.2.2.2.2.2.2.2.2.2.1, u.2.2.2.2.2.2.2.2.2.2.2.2.2.2.2.2.1, u.2.2.2.2.2.2.2.2.2.2.2.2.2.2.2.2.2.1, v, u.2.2.2.2.2.2.2.2.2.2.2.2.2.2.2.2.2.2.2)
abbrev pL_left (u : LSt) : Int32 := u.2.2.2.2.2.2.2.2.2.2.2.2.2.2.2.2.2.2.2.1
def sL_left (u : LSt) (v : Int32) : LSt := (u.1, u.2.1, u.2.2.1, u.2.2.2.1, u.2.2.2.2.1, u.2.2.2.2.2.1, u.2.2.2.2.2.2.1, u.2.2.2.2.2.2.2.1, u.2.2.2.2.2.2.2.2.1, u.2.2.2.2.2.2.2.2.2.1, u.2.2.2.2.2.2.2.2.2.2.1, u.2.2.2.2.2.2.2.2.2.2.2.1, u.2.2.2.2.2.2.2.2.2.2.2.2.1, u.2.2.2.2.2.2.2.2.2.2.2.2.2.1, u.2.2.2.2.2.2.2.2.2.2.2.2.2.2.1, u.2.2.2.2.2.2.2.2.2.2.2.2.2.2.2.1, u.2.2.2.2.2.2.2.2.2.2.2.2.2.2.2.2.1, u.2.2.2.2.2.2.2.2.2.2.2.2.2.2.2.2.2.1, u.2.2.2.2.2.2.2.2.2.2.2.2.2.2.2.2.2.2.1, v, u.2.2.2.2.2.2.2.2.2.2.2.2.2.2.2.2.2.2.2.2)
abbrev pL_aside (u : LSt) : (Nat → Int32) := u.2.2.2.2.2.2.2.2.2.2.2.2.2.2.2.2.2.2.2.2.1
def sL_aside (u : LSt) (v : (Nat → Int32)) : LSt := (u.1, u.2.1, u.2.2.1, u.2.2.2.1, u.2.2.2.2.1, u.2.2.2.2.2.1, u.2.2.2.2.2.2.1, u.2.2.2.2.2.2.2.1, u.2.2.2.2.2.2.2.2.1, u.2.2.2.2.2.2.2.2.2.1, u.2.2.2.2.2.2.2.2.2.2.1, u.2.2.2.2.2.2.2.2.2.2.2.1, u.2.2.2.2.2.2.2.2.2.2.2.2.1, u.2.2.2.2.2.2.2.2.2.2.2.2.2.1, u.2.2.2.2.2.2.2.2.2.2.2.2.2.2.1, u.2.2.2.2.2.2.2.2.2.2.2.2.2.2.2.1, u.2.2.2.2.2.2.2.2.2.2.2.2.2.2.2.2.1, u.2.2.2.2.2.2.2.2.2.2.2.2.2.2.2.2.2.1, u.2.2.2.2.2.2.2.2.2.2.2.2.2.2.2.2.2.2.1, u.2.2.2.2.2.2.2.2.2.2.2.2.2.2.2.2.2.2.2.1, v, u.2.2.2.2.2.2.2.2.2.2.2.2.2.2.2.2.2.2.2.2.2)
abbrev pL_own (u : LSt) : (Nat → Int32) := u.2.2.2.2.2.2.2.2.2.2.2.2.2.2.2.2.2.2.2.2.2.1
def sL_own (u : LSt) (v : (Nat → Int32)) : LSt := (u.1, u.2.1, u.2.2.1, u.2.2.2.1, u.2.2.2.2.1, u.2.2.2.2.2.1, u.2.2.2.2.2.2.1, u.2.2.2.2.2.2.2.1, u.2.2.2.2.2.2.2.2.1, u.2.2.2.2.2.2.2.2.2.1, u.2.2.2.2.2.2.2.2.2.2.1, u.2.2.2.2.2.2.2.2.2.2.2.1, u.2.2.2.2.2.2.2.2.2.2.2.2.1, u.2.2.2.2.2.2.2.2.2.2.2.2.2.1, u.2.2.2.2.2.2.2.2.2.2.2.2.2.2.1, u.2.2.2.2.2.2.2.2.2.2.2.2.2.2.2.1, u.2.2.2.2.2.2.2.2.2.2.2.2.2.2.2.2.1, u.2.2.2.2.2.2.2.2.2.2.2.2.2.2.2.2.2.1, u.2.2.2.2.2.2.2.2.2.2.2.2.2.2.2.2.2.2.1, u.2.2.2.2.2.2.2.2.2.2.2.2.2.2.2.2.2.2.2.1, u.2.2.2.2.2.2.2.2.2.2.2.2.2.2.2.2.2.2.2.2.1, v, u.2.2.2.2.2.2.2.2.2.2.2.2.2.2.2.2.2.2.2.2.2.2)
abbrev pL_other (u : LSt) : (Nat → Int32) := u.2.2.2.2.2.2.2.2.2.2.2.2.2.2.2.2.2.2.2.2.2.2.1
def sL_other (u : LSt) (v : (Nat → Int32)) : LSt := (u.1, u.2.1, u.2.2.1, u.2.2.2.1, u.2.2.2.2.1, u.2.2.2.2.2.1, u.2.2.2.2.2.2.1, u.2.2.2.2.2.2.2.1, u.2.2.2.2.2.2.2.2.1, u.2.2.2.2.2.2.2.2.2.1, u.2.2.2.2.2.2.2.2.2.2.1, u.2.2.2.2.2.2.2.2.2.2.2.1, u.2.2.2.2.2.2.2.2.2.2.2.2.1, u.2.2.2.2.2.2.2.2.2.2.2.2.2.1, u.2.2.2.2.2.2.2.2.2.2.2.2.2.2.1, u.2.2.2.2.2.2.2.2.2.2.2.2.2.2.2.1, u.2.2.2.2.2.2.2.2.2.2.2.2.2.2.2.2.1, u.2.2.2.2.2.2.2.2.2.2.2.2.2.2.2.2.2.1, u.2.2.2.2.2.2.2.2.2.2.2.2.2.2.2.2.2.2.1, u.2.2.2.2.2.2.2.2.2.2.2.2.2.2.2.2.2.2.2.1, u.2.2.2.2.2.2.2.2.2.2.2.2.2.2.2.2.2.2.2.2.1, u.2.2.2.2.2.2.2.2.2.2.2.2.2.2.2.2.2.2.2.2.2.1, v, u.2.2.2.2.2.2.2.2.2.2.2.2.2.2.2.2.2.2.2.2.2.2.2)
abbrev pL_h (u : LSt) : Int64 := u.2.2.2.2.2.2.2.2.2.2.2.2.2.2.2.2.2.2.2.2.2.2.2
def sL_h (u : LSt) (v : Int64) : LSt := (u.1, u.2.1, u.2.2.1, u.2.2.2.1, u.2.2.2.2.1, u.2.2.2.2.2.1, u.2.2.2.2.2.2.1, u.2.2.2.2.2.2.2.1, u.2.2.2.2.2.2.2.2.1, u.2.2.2.2.2.2.2.2.2.1, u.2.2.2.2.2.2.2.2.2.2.1, u.2.2.2.2.2.2.2.2.2.2.2.1, u.2.2.2.2.2.2.2.2.2.2.2.2.1, u.2.2.2.2.2.2.2.2.2.2.2.2.2.1, u.2.2.2.2.2.2.2.2.2.2.2.2.2.2.1, u.2.2.2.2.2.2.2.2.2.2.2.2.2.2.2.1, u.2.2.2.2.2.2.2.2.2.2.2.2.2.2.2.2.1, u.2.2.2.2.2.2.2.2.2.2.2.2.2.2.2.2.2.1, u.2.2.2.2.2.2.2.2.2.2.2.2.2.2.2.2.2.2.1, u.2.2.2.2.2.2.2.2.2.2.2.2.2.2.2.2.2.2.2.1, u.2.2.2.2.2.2.2.2.2.2.2.2.2.2.2.2.2.2.2.2.1, u.2.2.2.2.2.2.2.2.2.2.2.2.2.2.2.2.2.2.2.2.2.1, u.2.2.2.2.2.2.2.2.2.2.2.2.2.2.2.2.2.2.2.2.2.2.1, v)
abbrev MMt : Type := MSt × MSt × MSt × MSt
abbrev CSt : Type := HSt × MMt × DSt × SSt × RSt
abbrev GSt : Type := CSt × LSt
def getM (k : Nat) (mm : MMt) : MSt := match k with
  | 0 => mm.1
  | 1 => mm.2.1
  | 2 => mm.2.2.1
  | _ => mm.2.2.2
def setM (k : Nat) (mm : MMt) (u : MSt) : MMt := match k with
  | 0 => (u, mm.2)
  | 1 => (mm.1, u, mm.2.2)
  | 2 => (mm.1, mm.2.1, u, mm.2.2.2)
  | _ => (mm.1, mm.2.1, mm.2.2.1, u)
theorem getM_set {k : Nat} (mm : MMt) (u : MSt) : getM k (setM k mm u) = u := by
  match k with
  | 0 => rfl
  | 1 => rfl
  | 2 => rfl
  | k + 3 => rfl
theorem getM_ne {k j : Nat} (hk : k < 4) (hj : j < 4) (h : j ≠ k) (mm : MMt) (u u' : MSt) : getM j (setM k mm u) = getM j (setM k mm u') := by
  match k, j, hk, hj, h with
  | 0, 0, _, _, h => exact absurd rfl h
  | 0, 1, _, _, _ => rfl
  | 0, 2, _, _, _ => rfl
  | 0, 3, _, _, _ => rfl
  | 1, 0, _, _, _ => rfl
  | 1, 1, _, _, h => exact absurd rfl h
  | 1, 2, _, _, _ => rfl
  | 1, 3, _, _, _ => rfl
  | 2, 0, _, _, _ => rfl
  | 2, 1, _, _, _ => rfl
  | 2, 2, _, _, h => exact absurd rfl h
  | 2, 3, _, _, _ => rfl
  | 3, 0, _, _, _ => rfl
  | 3, 1, _, _, _ => rfl
  | 3, 2, _, _, _ => rfl
  | 3, 3, _, _, h => exact absurd rfl h
  | k + 4, _, hk, _, _ => omega
  | _, j + 4, _, hj, _ => omega
def fM (Γ : GC) (k : Nat) (u : MSt) : List Value := [.int (pM_punnets u), .int (pM_heat u), .int (pM_rainHours u), .int (pM_size u), .int (pM_totalTakings u), .int (pM_totalThrown u), .int (pM_soldSize u), .int (pM_pastSize u), .ref (ad Γ (10 * k + 1)), .ref (ad Γ (10 * k + 2)), .ref (ad Γ (10 * k + 3)), .ref (ad Γ (10 * k + 4)), .ref (ad Γ (10 * k + 5)), .ref (ad Γ (10 * k + 6)), .ref (ad Γ (10 * k + 7)), .ref (ad Γ (10 * k + 8)), .ref (ad Γ (10 * k + 9))]
def cellsM (Γ : GC) (k : Nat) (u : MSt) : List va_E := [.inr (3, fM Γ k u), .inl (ca Γ 0, 10, .inl (pM_prices u)), .inl (ca Γ 0, 10, .inl (pM_theirPrices u)), .inl (ca Γ 0, 8, .inl (pM_kinds u)), .inl (ca Γ 0, 8, .inl (pM_hours u)), .inl (ca Γ 0, 8, .inl (pM_worths u)), .inl (ca Γ 0, 8, .inl (pM_wants u)), .inl (ca Γ 0, 6, .inl (pM_soldHours u)), .inl (ca Γ 0, 6, .inl (pM_soldNumbers u)), .inl (ca Γ 0, 80, .inl (pM_past u))]
def fD (Γ : GC) (u : DSt) : List Value := [.ref (ad Γ 49), .ref (ad Γ 41), .ref (ad Γ 42), .ref (ad Γ 43), .ref (ad Γ 44), .ref (ad Γ 45), .ref (ad Γ 46), .ref (ad Γ 47), .ref (ad Γ 48), .int (pD_left u), .int (pD_takings u), .int (pD_theirTakings u)]
def cellsD (Γ : GC) (u : DSt) : List va_E := [.inr (2, fD Γ u), .inl (ca Γ 0, 8, .inl (pD_when u)), .inl (ca Γ 0, 8, .inl (pD_pays u)), .inl (ca Γ 0, 8, .inl (pD_carries u)), .inl (ca Γ 1, 8, .inl (pD_staysAway u)), .inl (ca Γ 0, 8, .inl (pD_order u)), .inl (ca Γ 0, 10, .inl (pD_gone u)), .inl (ca Γ 0, 8, .inl (pD_got u)), .inl (ca Γ 0, 8, .inl (pD_served u)), .inl (ca Γ 2, 6, .inr (.inr (.inr (.inr (fun j => some (ad Γ (50 + j))))))), .inr (5, []), .inr (9, []), .inr (1, []), .inr (7, []), .inr (0, []), .inr (4, [])]
def fS (Γ : GC) (u : SSt) : List Value := [.ref (ad Γ 57), .ref (ad Γ 58), .ref (ad Γ 59), .ref (ad Γ 60), .int (pS_rests u), .int (pS_firstRest u)]
def cellsS (Γ : GC) (u : SSt) : List va_E := [.inr (8, fS Γ u), .inl (ca Γ 0, 121, .inl (pS_mine u)), .inl (ca Γ 0, 121, .inl (pS_others u)), .inl (ca Γ 0, 11, .inl (pS_mostMine u)), .inl (ca Γ 0, 11, .inl (pS_mostOthers u))]
def fR (Γ : GC) (u : RSt) : List Value := [.ref (ad Γ 62), .int (pR_length u), .int (pR_token u), .int (pR_start u), .int (pR_next u), .int (pR_number u)]
def cellsR (Γ : GC) (u : RSt) : List va_E := [.inr (6, fR Γ u), .inl (ca Γ 0, 150, .inl (pR_bytes u))]
def fH (Γ : GC) (u : HSt) : List Value := [.ref (ad Γ 0), .ref (ad Γ 10), .ref (ad Γ 64), .ref (ad Γ 65), .ref (ad Γ 40), .ref (ad Γ 56), .ref (ad Γ 61), .long (pH_above u), .long (pH_below u), .int (pH_refusedBad u), .int (pH_refusedNo u), .int (pH_refusedFull u)]
def cellsH (Γ : GC) (u : HSt) : List va_E := [.inr (10, fH Γ u), .inl (ca Γ 3, 2, .inr (.inr (.inr (.inr (fun j => some (ad Γ (10 * (2 + j)))))))), .inl (ca Γ 1, 2, .inl (pH_kept u))]
def fL (Γ : GC) (u : LSt) : List Value := [.ref (ad Γ 67), .ref (ad Γ 68), .ref (ad Γ 69), .int (pL_texted u), .ref (ad Γ 70), .long (pL_above u), .long (pL_below u), .int (pL_at u), .int (pL_start u), .int (pL_isWord u), .int (pL_isFigures u), .int (pL_value u), .int (pL_comers u), .int (pL_shouted u), .ref (ad Γ 71), .ref (ad Γ 72), .ref (ad Γ 73), .int (pL_takings u), .int (pL_theirTakings u), .int (pL_left u), .ref (ad Γ 74), .ref (ad Γ 75), .ref (ad Γ 76), .long (pL_h u)]
def cellsL (Γ : GC) (u : LSt) : List va_E := [.inr (11, fL Γ u), .inl (ca Γ 0, 608, .inl (pL_w u)), .inl (ca Γ 1, 2, .inl (pL_isKept u)), .inl (ca Γ 0, 150, .inl (pL_text u)), .inl (ca Γ 0, 3, .inl (pL_refused u)), .inl (ca Γ 0, 8, .inl (pL_gets u)), .inl (ca Γ 1, 8, .inl (pL_isServed u)), .inl (ca Γ 0, 10, .inl (pL_goes u)), .inl (ca Γ 0, 20, .inl (pL_aside u)), .inl (ca Γ 0, 121, .inl (pL_own u)), .inl (ca Γ 0, 121, .inl (pL_other u))]
def cellsC (Γ : GC) (h : HSt) (x : DSt × SSt × RSt) : List va_E := cellsD Γ x.1 ++ (cellsS Γ x.2.1 ++ (cellsR Γ x.2.2 ++ cellsH Γ h))
abbrev e0 : va_E := .inr (0, [])
def cell (Γ : GC) (σ : GSt) (i : Nat) : va_E := if i < 40 then (cellsM Γ (i / 10) (getM (i / 10) σ.1.2.1)).getD (i % 10) e0 else if i < 66 then (cellsC Γ σ.1.1 σ.1.2.2).getD (i - 40) e0 else (cellsL Γ σ.2).getD (i - 66) e0
def gM (k : Nat) (σ : GSt) (u : MSt) : GSt := ((σ.1.1, setM k σ.1.2.1 u, σ.1.2.2), σ.2)
def gD (σ : GSt) (u : DSt) : GSt := ((σ.1.1, σ.1.2.1, u, σ.1.2.2.2), σ.2)
def gS (σ : GSt) (u : SSt) : GSt := ((σ.1.1, σ.1.2.1, σ.1.2.2.1, u, σ.1.2.2.2.2), σ.2)
def gR (σ : GSt) (u : RSt) : GSt := ((σ.1.1, σ.1.2.1, σ.1.2.2.1, σ.1.2.2.2.1, u), σ.2)
def gC (σ : GSt) (c : CSt) : GSt := (c, σ.2)
def gL (σ : GSt) (u : LSt) : GSt := (σ.1, u)
abbrev c_h (c : CSt) : HSt := c.1
abbrev c_m0 (c : CSt) : MSt := c.2.1.1
abbrev c_m1 (c : CSt) : MSt := c.2.1.2.1
abbrev c_m2 (c : CSt) : MSt := c.2.1.2.2.1
abbrev c_m3 (c : CSt) : MSt := c.2.1.2.2.2
abbrev c_d (c : CSt) : DSt := c.2.2.1
abbrev c_s (c : CSt) : SSt := c.2.2.2.1
abbrev c_r (c : CSt) : RSt := c.2.2.2.2
def sc_h (c : CSt) (u : HSt) : CSt := (u, c.2)
def sc_m0 (c : CSt) (u : MSt) : CSt := (c.1, setM 0 c.2.1 u, c.2.2)
def sc_m1 (c : CSt) (u : MSt) : CSt := (c.1, setM 1 c.2.1 u, c.2.2)
def sc_m2 (c : CSt) (u : MSt) : CSt := (c.1, setM 2 c.2.1 u, c.2.2)
def sc_m3 (c : CSt) (u : MSt) : CSt := (c.1, setM 3 c.2.1 u, c.2.2)
def sc_d (c : CSt) (u : DSt) : CSt := (c.1, c.2.1, u, c.2.2.2)
def sc_s (c : CSt) (u : SSt) : CSt := (c.1, c.2.1, c.2.2.1, u, c.2.2.2.2)
def sc_r (c : CSt) (u : RSt) : CSt := (c.1, c.2.1, c.2.2.1, c.2.2.2.1, u)
