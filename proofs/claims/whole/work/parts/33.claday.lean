-- ===== the class's day =====
theorem lp_inv {α β : Type} {step : (α → Option β) → α → Option β} (I : Nat → α → Prop) (N : Nat) {P : β → Prop} (hs : ∀ k a, k < N → I k a → ∃ a', I (k + 1) a' ∧ ∀ K, step K a = K a') (he : ∀ a, I N a → ∃ out, P out ∧ ∀ K, step K a = some out) : ∀ (d k n : Nat) (a : α), k + d = N → d < n → I k a → ∃ out, lp step n a = some out ∧ P out := by
  intro d
  induction d with
  | zero =>
    intro k n a hk hn hI
    obtain ⟨m, rfl⟩ : ∃ m, n = m + 1 := ⟨n - 1, by omega⟩
    have : k = N := by omega
    subst this
    obtain ⟨out, h1, h2⟩ := he a hI
    exact ⟨out, h2 _, h1⟩
  | succ d ih =>
    intro k n a hk hn hI
    obtain ⟨m, rfl⟩ : ∃ m, n = m + 1 := ⟨n - 1, by omega⟩
    obtain ⟨a', h1, h2⟩ := hs k a (by omega) hI
    rw [lp_succ, h2]
    exact ih (k + 1) m a' (by omega) (by omega) h1
theorem lp_inv0 {α β : Type} {step : (α → Option β) → α → Option β} (I : Nat → α → Prop) (N : Nat) (hN : N < 1000) {P : β → Prop} {a : α} (h0 : I 0 a) (hs : ∀ k a, k < N → I k a → ∃ a', I (k + 1) a' ∧ ∀ K, step K a = K a') (he : ∀ a, I N a → ∃ out, P out ∧ ∀ K, step K a = some out) : ∃ out, lp step 1000 a = some out ∧ P out := lp_inv I N hs he N 0 1000 a (by omega) hN h0
theorem priceIn_spec {u : MSt} {h : Nat} (hh : h < 10) : f_X3_priceIn u (nI h) = some (pM_prices u h) := by
  unfold f_X3_priceIn
  simp only [i_0, i_10]
  simp (disch := omega) only [lt_eq, Option.bind_some, inb_t, cl_t, le_t, le_f, lt_t, lt_f, eq_t, eq_f, nI_add, nI_1, ↓reduceIte]
theorem theirIn_spec {u : MSt} {h : Nat} (hh : h < 10) : f_X3_theirPriceIn u (nI h) = some (pM_theirPrices u h) := by
  unfold f_X3_theirPriceIn
  simp only [i_0, i_10]
  simp (disch := omega) only [lt_eq, Option.bind_some, inb_t, cl_t, le_t, le_f, lt_t, lt_f, eq_t, eq_f, nI_add, nI_1, ↓reduceIte]
theorem rainsIn_spec {u : MSt} {v : VW} (h : Nat) (hv : VC u v) : f_X3_rainsIn u (nI h) = some (if rainB v h = true then 1 else 0) := by
  unfold f_X3_rainsIn rainB
  rw [hv.2.1]
  by_cases c : ((vR v >>> (nI h &&& 31)) &&& (1 : Int32)) = (1 : Int32)
  · simp only [if_pos c, c, decide_true, if_true]
  · simp only [if_neg c, c, decide_false, Bool.false_eq_true, if_false]
theorem wait_spec {u : MSt} {v : VW} {h : Nat} (hv : VC u v) (hh : h < 10) : f_X9_buysIn u (nI h) = some (nI (waitN v h)) := by
  have hp := hv.1
  unfold f_X9_buysIn f_X5_buysIn
  simp only [i_2, i_9]
  simp (disch := omega) only [lt_eq, Option.bind_some, inb_t, cl_t, le_t, le_f, lt_t, lt_f, eq_t, eq_f, nI_add, nI_1, ↓reduceIte]
  have e : (if nI (h + 2) < nI 9 then nI (h + 2) else nI 9) = nI (laterN h) := by
    unfold laterN
    by_cases c : h + 2 < 9
    · simp (disch := omega) only [lt_eq, Option.bind_some, inb_t, cl_t, le_t, le_f, lt_t, lt_f, eq_t, eq_f, nI_add, nI_1, ↓reduceIte, c]
    · simp (disch := omega) only [lt_eq, Option.bind_some, inb_t, cl_t, le_t, le_f, lt_t, lt_f, eq_t, eq_f, nI_add, nI_1, ↓reduceIte, c]
  have hl := laterN_lt (h := h)
  rw [e, priceIn_spec hl, priceIn_spec hh]
  simp (disch := omega) only [lt_eq, Option.bind_some, inb_t, cl_t, le_t, le_f, lt_t, lt_f, eq_t, eq_f, nI_add, nI_1, ↓reduceIte, (hp _ hl).1, (hp _ hh).1]
  unfold waitN
  split <;> rfl
theorem buysIn_spec {u : MSt} {v : VW} {b : Nat} (hv : VC u v) (hb : b < vN v) : f_way_buysIn (vK v b) u (nI (vO v b)) = some (nI (hourN v b)) := by
  obtain ⟨-, hk6, -, h10, -, -⟩ := hv.2.2.2.2.2.2 b hb
  have hw := wait_spec hv h10
  have hwl := waitN_lt (v := v) h10
  unfold hourN
  generalize vK v b = q at hk6 ⊢
  match q, hk6 with
  | 0, _ => rfl
  | 1, _ => exact hw
  | 2, _ => rfl
  | 3, _ =>
    show f_X7_buysIn u (nI (vO v b)) = _
    unfold f_X7_buysIn
    rw [hw]
    simp only [i_6]
    simp (disch := omega) only [lt_eq, Option.bind_some, inb_t, cl_t, le_t, le_f, lt_t, lt_f, eq_t, eq_f, nI_add, nI_1, ↓reduceIte]
    by_cases c : 6 < waitN v (vO v b)
    · simp (disch := omega) only [lt_eq, Option.bind_some, inb_t, cl_t, le_t, le_f, lt_t, lt_f, eq_t, eq_f, nI_add, nI_1, ↓reduceIte, c]
    · simp (disch := omega) only [lt_eq, Option.bind_some, inb_t, cl_t, le_t, le_f, lt_t, lt_f, eq_t, eq_f, nI_add, nI_1, ↓reduceIte, c]
  | 4, _ => rfl
  | 5, _ => rfl
  | q + 6, h => omega
theorem paysAt_spec {v : VW} {b : Nat} (hk6 : vK v b < 6) : f_way_paysAtMost (vK v b) (vW v b) (vH v * nI (hourN v b)) = some (paysI v b) := by
  unfold paysI plainI
  generalize vK v b = q at hk6 ⊢
  match q, hk6 with
  | 0, _ => rfl
  | 1, _ => rfl
  | 2, _ => rfl
  | 3, _ => rfl
  | 4, _ => rfl
  | 5, _ => rfl
  | q + 6, h => omega
theorem carries_spec {v : VW} {b : Nat} (hk6 : vK v b < 6) : f_way_carriesOff (vK v b) (vA v b) = some (takesI v b) := by
  unfold takesI
  generalize vK v b = q at hk6 ⊢
  match q, hk6 with
  | 0, _ => rfl
  | 1, _ => rfl
  | 2, _ => rfl
  | 3, _ => rfl
  | 4, _ => rfl
  | 5, _ =>
    show f_X4_carriesOff (vA v b) = _
    unfold f_X4_carriesOff
    split <;> rfl
  | q + 6, h => omega
theorem inRain_spec {v : VW} {b : Nat} (hk6 : vK v b < 6) : f_way_comesInRain (vK v b) = some (if (vK v b == 2 || vK v b == 4) = true then 1 else 0) := by
  generalize vK v b = q at hk6 ⊢
  match q, hk6 with
  | 0, _ => rfl
  | 1, _ => rfl
  | 2, _ => rfl
  | 3, _ => rfl
  | 4, _ => rfl
  | 5, _ => rfl
  | q + 6, h => omega
def ORD (o : Nat → Int32) (l : List Nat) : Prop := ∀ i b, l[i]? = some b → o i = nI b
theorem hourOf_t {d : DSt} {b : Nat} (h : b < 8) : f_X2_hourOf d (nI b) = some (pD_when d b) := by
  unfold f_X2_hourOf
  simp only [i_0, i_8]
  simp (disch := omega) only [lt_eq, Option.bind_some, inb_t, cl_t, le_t, le_f, lt_t, lt_f, eq_t, eq_f, nI_add, nI_1, ↓reduceIte]
theorem lineUp_spec {d : DSt} {k : Nat} (hk : k < 8) {hour : Nat → Nat} (hw : ∀ b, b ≤ k → pD_when d b = nI (hour b)) (hh : ∀ b, b ≤ k → hour b < 10) {A B : List Nat} (hl : A.length + B.length = k) (ho : ORD (pD_order d) (A ++ B)) (hA : ∀ b ∈ A, b < k ∧ hour b ≤ hour k) (hB : ∀ b ∈ B, b < k ∧ hour k < hour b) : ∃ o', f_X2_lineUp d (nI k) = some (sD_order d o') ∧ ORD o' (A ++ k :: B) := by
  have hget : ∀ i, i < k → ∃ b, (A ++ B)[i]? = some b := fun i hi => ⟨_, List.getElem?_eq_getElem (by rw [List.length_append]; omega)⟩
  have hwk := hw k (Nat.le_refl k)
  have hhk := hh k (Nat.le_refl k)
  refine ⟨upd (fun i => if A.length < i ∧ i ≤ k then pD_order d (i - 1) else pD_order d i) A.length (nI k), ?_, ?_⟩
  · unfold f_X2_lineUp
    obtain ⟨d_0, d_1, d_2, d_3, d_4, d_5, d_6, d_7, d_8, d_9, d_10⟩ := d
    refine lp_run1 (step := f_X2_lineUp_s2 (nI k)) (fun t => (nI (k - t), sD_order (d_0, d_1, d_2, d_3, d_4, d_5, d_6, d_7, d_8, d_9, d_10) (fun i => if k - t < i ∧ i ≤ k then d_4 (i - 1) else d_4 i))) (k - A.length) (by omega) ?_ (fun t K ht => ?_) (fun K => ?_)
    · have e : (fun i => if k < i ∧ i ≤ k then d_4 (i - 1) else d_4 i) = d_4 := by
        funext i
        rw [if_neg (by omega)]
      simp only [Nat.sub_zero, e, sD_when_mk, sD_pays_mk, sD_carries_mk, sD_staysAway_mk, sD_order_mk, sD_gone_mk, sD_got_mk, sD_served_mk, sD_left_mk, sD_takings_mk, sD_theirTakings_mk, pD_when, pD_pays, pD_carries, pD_staysAway, pD_order, pD_gone, pD_got, pD_served, pD_left, pD_takings, pD_theirTakings]
    · obtain ⟨m, hm⟩ : ∃ m, k - t = m + 1 := ⟨k - t - 1, by omega⟩
      have hm2 : k - (t + 1) = m := by omega
      obtain ⟨b, hb⟩ := hget m (by omega)
      have hob : d_4 m = nI b := ho m b hb
      rw [List.getElem?_append_right (by omega)] at hb
      have hbB := hB b (List.mem_of_getElem? hb)
      have hwb : d_0 b = nI (hour b) := hw b (by omega)
      have hhb := hh b (by omega)
      have hwk' : d_0 k = nI (hour k) := hwk
      have hnm : ¬ (m + 1 < m ∧ m ≤ k) := by omega
      unfold f_X2_lineUp_s2
      simp only [hm, hm2, i_0, nI_m1, nI_p1, sD_when_mk, sD_pays_mk, sD_carries_mk, sD_staysAway_mk, sD_order_mk, sD_gone_mk, sD_got_mk, sD_served_mk, sD_left_mk, sD_takings_mk, sD_theirTakings_mk, pD_when, pD_pays, pD_carries, pD_staysAway, pD_order, pD_gone, pD_got, pD_served, pD_left, pD_takings, pD_theirTakings]
      simp (disch := omega) only [lt_eq, Option.bind_some, inb_t, cl_t, le_t, le_f, lt_t, lt_f, eq_t, eq_f, nI_add, nI_1, ↓reduceIte, if_neg hnm, hob, hourOf_t, hwb, hwk', sD_when_mk, sD_pays_mk, sD_carries_mk, sD_staysAway_mk, sD_order_mk, sD_gone_mk, sD_got_mk, sD_served_mk, sD_left_mk, sD_takings_mk, sD_theirTakings_mk, pD_when, pD_pays, pD_carries, pD_staysAway, pD_order, pD_gone, pD_got, pD_served, pD_left, pD_takings, pD_theirTakings]
      refine congrArg K (congrArg (Prod.mk _) ?_)
      have e : upd (fun i => if m + 1 < i ∧ i ≤ k then d_4 (i - 1) else d_4 i) (m + 1) (nI b) = fun i => if m < i ∧ i ≤ k then d_4 (i - 1) else d_4 i := by
        funext i
        rw [upd_eq]
        by_cases c : i = m + 1
        · subst c
          rw [if_pos rfl, if_pos (by omega), ← hob]
          rfl
        · rw [if_neg c]
          by_cases c2 : m + 1 < i ∧ i ≤ k
          · rw [if_pos c2, if_pos (by omega)]
          · rw [if_neg c2, if_neg (by omega)]
      rw [e]
    · have hp : k - (k - A.length) = A.length := by omega
      simp only [hp]
      have j46 : f_X2_lineUp_j46 (nI k) (nI A.length) (sD_order (d_0, d_1, d_2, d_3, d_4, d_5, d_6, d_7, d_8, d_9, d_10) (fun i => if A.length < i ∧ i ≤ k then d_4 (i - 1) else d_4 i)) = some (sD_order (d_0, d_1, d_2, d_3, d_4, d_5, d_6, d_7, d_8, d_9, d_10) (upd (fun i => if A.length < i ∧ i ≤ k then pD_order (d_0, d_1, d_2, d_3, d_4, d_5, d_6, d_7, d_8, d_9, d_10) (i - 1) else pD_order (d_0, d_1, d_2, d_3, d_4, d_5, d_6, d_7, d_8, d_9, d_10) i) A.length (nI k))) := by
        unfold f_X2_lineUp_j46
        simp (disch := omega) only [lt_eq, Option.bind_some, inb_t, cl_t, le_t, le_f, lt_t, lt_f, eq_t, eq_f, nI_add, nI_1, ↓reduceIte, sD_when_mk, sD_pays_mk, sD_carries_mk, sD_staysAway_mk, sD_order_mk, sD_gone_mk, sD_got_mk, sD_served_mk, sD_left_mk, sD_takings_mk, sD_theirTakings_mk, pD_when, pD_pays, pD_carries, pD_staysAway, pD_order, pD_gone, pD_got, pD_served, pD_left, pD_takings, pD_theirTakings]
      unfold f_X2_lineUp_s2
      rw [← j46]
      by_cases c : A.length = 0
      · simp only [i_0, c]
        simp (disch := omega) only [lt_eq, Option.bind_some, inb_t, cl_t, le_t, le_f, lt_t, lt_f, eq_t, eq_f, nI_add, nI_1, ↓reduceIte]
      · obtain ⟨m, hm⟩ : ∃ m, A.length = m + 1 := ⟨A.length - 1, by omega⟩
        obtain ⟨b, hb⟩ := hget m (by omega)
        have hob : d_4 m = nI b := ho m b hb
        rw [List.getElem?_append_left (by omega)] at hb
        have hbA := hA b (List.mem_of_getElem? hb)
        have hwb : d_0 b = nI (hour b) := hw b (by omega)
        have hhb := hh b (by omega)
        have hwk' : d_0 k = nI (hour k) := hwk
        have hnm : ¬ (m + 1 < m ∧ m ≤ k) := by omega
        have z1 : nI (m + 1) - nI 1 = nI m := nI_m1
        simp only [hm, i_0, nI_m1, z1]
        generalize hz : f_X2_lineUp_j46 (nI k) (nI (m + 1)) (sD_order (d_0, d_1, d_2, d_3, d_4, d_5, d_6, d_7, d_8, d_9, d_10) (fun i => if m + 1 < i ∧ i ≤ k then d_4 (i - 1) else d_4 i)) = z
        simp only [sD_when_mk, sD_pays_mk, sD_carries_mk, sD_staysAway_mk, sD_order_mk, sD_gone_mk, sD_got_mk, sD_served_mk, sD_left_mk, sD_takings_mk, sD_theirTakings_mk, pD_when, pD_pays, pD_carries, pD_staysAway, pD_order, pD_gone, pD_got, pD_served, pD_left, pD_takings, pD_theirTakings]
        simp (disch := omega) only [lt_eq, Option.bind_some, inb_t, cl_t, le_t, le_f, lt_t, lt_f, eq_t, eq_f, nI_add, nI_1, ↓reduceIte, if_neg hnm, hob, hourOf_t, hwb, hwk', sD_when_mk, sD_pays_mk, sD_carries_mk, sD_staysAway_mk, sD_order_mk, sD_gone_mk, sD_got_mk, sD_served_mk, sD_left_mk, sD_takings_mk, sD_theirTakings_mk, pD_when, pD_pays, pD_carries, pD_staysAway, pD_order, pD_gone, pD_got, pD_served, pD_left, pD_takings, pD_theirTakings]
  · intro i b hib
    rw [upd_eq]
    by_cases c : i = A.length
    · rw [if_pos c]
      rw [c, List.getElem?_append_right (Nat.le_refl _), Nat.sub_self, List.getElem?_cons_zero] at hib
      rw [Option.some.inj hib]
    · rw [if_neg c]
      by_cases c2 : i < A.length
      · rw [if_neg (by omega)]
        rw [List.getElem?_append_left c2] at hib
        exact ho i b (by rw [List.getElem?_append_left c2]; exact hib)
      · obtain ⟨j, hj⟩ : ∃ j, i - A.length = j + 1 := ⟨i - A.length - 1, by omega⟩
        rw [List.getElem?_append_right (by omega), hj, List.getElem?_cons_succ] at hib
        have hjl : j < B.length := by
          have := List.getElem?_eq_some_iff.mp hib
          exact this.1
        rw [if_pos (by omega)]
        refine ho (i - 1) b ?_
        rw [List.getElem?_append_right (by omega), show i - 1 - A.length = j from by omega]
        exact hib
