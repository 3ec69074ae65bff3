-- ===== MATHEMATICS 1: numbers, loops, arrays =====
theorem cl_nI {k : Nat} (h : k < 2147483648) : (nI k).toNatClampNeg = k := nI_clamp (by omega)
theorem ti_nI {k : Nat} (h : k < 2147483648) : (nI k).toInt = (k : Int) := nI_toInt (by omega)
theorem inb_nI {k n : Nat} (hk : k < 2147483648) : inb (nI k) n ↔ k < n := by
  unfold inb
  rw [ti_nI hk]
  omega
theorem inb_of {x : Int32} {n : Nat} (h : inb x n) (hn : n < 2147483648) : ∃ k, k < n ∧ x = nI k := by
  obtain ⟨k, h1, h2⟩ := vp_in_of (inb_vp h) (by omega)
  exact ⟨k, h1, h2⟩
theorem le_nI {a b : Nat} (ha : a < 2147483648) (hb : b < 2147483648) : nI a ≤ nI b ↔ a ≤ b := nI_leI (by omega) (by omega)
theorem lt_nI {a b : Nat} (ha : a < 2147483648) (hb : b < 2147483648) : nI a < nI b ↔ a < b := nI_ltI (by omega) (by omega)
theorem eq_nI {a b : Nat} (ha : a < 2147483648) (hb : b < 2147483648) : nI a = nI b ↔ a = b := nI_eq (by omega) (by omega)
theorem lit_nI (n : Nat) : (OfNat.ofNat n : Int32) = nI n := rfl
theorem lp_run {α β : Type} {step : (α → Option β) → α → Option β} (st : Nat → α) (N : Nat) {out : Option β} (hs : ∀ k K, k < N → step K (st k) = K (st (k + 1))) (he : ∀ K, step K (st N) = out) : ∀ (d k n : Nat), k + d = N → d < n → lp step n (st k) = out := by
  intro d
  induction d with
  | zero =>
    intro k n hk hn
    obtain ⟨m, rfl⟩ : ∃ m, n = m + 1 := ⟨n - 1, by omega⟩
    have : k = N := by omega
    subst this
    exact he _
  | succ d ih =>
    intro k n hk hn
    obtain ⟨m, rfl⟩ : ∃ m, n = m + 1 := ⟨n - 1, by omega⟩
    rw [lp_succ, hs k _ (by omega)]
    exact ih (k + 1) m (by omega) (by omega)
theorem lp_run0 {α β : Type} {step : (α → Option β) → α → Option β} (st : Nat → α) (N : Nat) (hN : N < 1000) {out : Option β} (hs : ∀ k K, k < N → step K (st k) = K (st (k + 1))) (he : ∀ K, step K (st N) = out) : lp step 1000 (st 0) = out := lp_run st N hs he N 0 1000 (by omega) hN
theorem upd_eq (f : Nat → Int32) (k : Nat) (x : Int32) (j : Nat) : upd f k x j = if j = k then x else f j := rfl
theorem fill_spec (n : Nat) (hn : n < 1000) (v : Int32) (a : Nat → Int32) : f_J7_fill_53178 n v a = some (fun j => if j < n then v else a j) := by
  have h := lp_run0 (step := f_J7_fill_53178_s5 n v) (fun k => (nI k, nI n, fun j => if j < k then v else a j)) n hn (out := some (fun j => if j < n then v else a j)) (fun k K hk => ?_) (fun K => ?_)
  · have e : (fun j => if j < 0 then v else a j) = a := by funext j; rw [if_neg (Nat.not_lt_zero j)]
    have h2 : lp (f_J7_fill_53178_s5 n v) 1000 (nI 0, nI n, (fun j => if j < 0 then v else a j)) = some (fun j => if j < n then v else a j) := h
    rw [e] at h2
    exact h2
  · unfold f_J7_fill_53178_s5
    dsimp only
    rw [if_neg (by rw [le_nI (by omega) (by omega)]; omega), if_pos ((inb_nI (by omega)).mpr hk), cl_nI (by omega)]
    have e1 : nI k + (1 : Int32) = nI (k + 1) := nI_1 k
    rw [e1]
    refine congrArg K (congrArg (Prod.mk _) (congrArg (Prod.mk _) ?_))
    funext j
    rw [upd_eq]
    by_cases h1 : j = k
    · rw [if_pos h1, if_pos (by omega)]
    · rw [if_neg h1]
      by_cases h2 : j < k
      · rw [if_pos h2, if_pos (by omega)]
      · rw [if_neg h2, if_neg (by omega)]
  · unfold f_J7_fill_53178_s5
    dsimp only
    rw [if_pos ((le_nI (by omega) (by omega)).mpr (Nat.le_refl n))]
