-- ===== a day apart from both: the order of the buyers, the day as one walk =====
theorem toInt_sm {z : Int} (h1 : -2147483648 ≤ z) (h2 : z < 2147483648) : z.bmod (2 ^ 32) = z := Int.bmod_eq_of_le (by omega) (by omega)
theorem ti_add {a b : Int32} (h1 : -2147483648 ≤ a.toInt + b.toInt) (h2 : a.toInt + b.toInt < 2147483648) : (a + b).toInt = a.toInt + b.toInt := by rw [Int32.toInt_add, toInt_sm h1 h2]
theorem ti_sub {a b : Int32} (h1 : -2147483648 ≤ a.toInt - b.toInt) (h2 : a.toInt - b.toInt < 2147483648) : (a - b).toInt = a.toInt - b.toInt := by rw [Int32.toInt_sub, toInt_sm h1 h2]
theorem ti_mul {a b : Int32} (h1 : -2147483648 ≤ a.toInt * b.toInt) (h2 : a.toInt * b.toInt < 2147483648) : (a * b).toInt = a.toInt * b.toInt := by rw [Int32.toInt_mul, toInt_sm h1 h2]
theorem ti_0 : (0 : Int32).toInt = 0 := rfl
theorem ti_1 : (1 : Int32).toInt = 1 := rfl
theorem ti_2 : (2 : Int32).toInt = 2 := rfl
theorem nI_m1 {k : Nat} : nI (k + 1) - 1 = nI k := by
  rw [← nI_1, Int32.add_sub_cancel]
theorem nI_p1 {k : Nat} : nI (k + 1) + (-1) = nI k := by
  have h : nI k + 1 + (-1) = nI k := by rw [Int32.add_assoc]; exact Int32.add_zero _
  rw [← nI_1]; exact h
def mkM (n m : Nat) (a b c : Nat → Int32) (x : DYS) : DYS := (xL x, xT x, xU x, (fun j => if j < n then xG x j else a j), (fun j => if j < m then xB x j else b j), (fun j => if j < m then xS x j else c j))
theorem upd_mask (f a : Nat → Int32) (n k : Nat) (z : Int32) (h : k < n) : upd (fun j => if j < n then f j else a j) k z = fun j => if j < n then upd f k z j else a j := by
  funext j
  simp only [upd_eq]
  by_cases h1 : j = k
  · simp only [h1, h, if_true]
  · simp only [h1, if_false]
theorem sell_mk {v : VW} {pay : Nat → Int32} {n m b : Nat} (a e f : Nat → Int32) (x : DYS) (h1 : hourN v b < n) (h2 : b < m) : sellM v pay (mkM n m a e f x) b = mkM n m a e f (sellM v pay x b) := by
  unfold sellM
  simp only [lt_eq]
  by_cases c : pay b < vP v (hourN v b)
  · simp only [c, if_true]
  · simp only [c, if_false]
    unfold mkM
    simp only [xL, xT, xU, xG, xB, xS, upd_mask _ _ _ _ _ h1, upd_mask _ _ _ _ _ h2, h1, if_true]
theorem comes_mk {v : VW} {pay : Nat → Int32} {n m b : Nat} (a e f : Nat → Int32) (x : DYS) (h1 : hourN v b < n) (h2 : b < m) : comesM v pay (mkM n m a e f x) b = mkM n m a e f (comesM v pay x b) := by
  unfold comesM
  rw [sell_mk a e f x h1 h2]
  by_cases c1 : vT v (hourN v b) ≤ 0
  · simp only [c1, if_true]
  · simp only [c1, if_false]
    by_cases c2 : vP v (hourN v b) ≤ vT v (hourN v b)
    · simp only [c2, if_true]
    · simp only [c2, if_false]
      by_cases c3 : pay b < vT v (hourN v b)
      · simp only [c3, if_true]
      · simp only [c3, if_false]
        unfold mkM
        simp only [xL, xT, xU, xG, xB, xS, upd_mask _ _ _ _ _ h2]
theorem stepH_mk {v : VW} {pay : Nat → Int32} {who : Int32} {h b : Nat} (a e f : Nat → Int32) (x : DYS) (h2 : b < 8) : stepH v pay who h (mkM (h + 1) 8 a e f x) b = mkM (h + 1) 8 a e f (stepH v pay who h x b) := by
  unfold stepH stepG
  by_cases c : hourN v b = h
  · simp only [c, if_true]
    by_cases c2 : goB v who b = true
    · simp only [c2, if_true]
      exact comes_mk a e f x (by omega) h2
    · simp only [c2, if_false, Bool.false_eq_true]
  · simp only [c, if_false]
theorem foldH_mk {v : VW} {pay : Nat → Int32} {who : Int32} {h : Nat} (a e f : Nat → Int32) (x : DYS) (n : Nat) (hn : n ≤ 8) : (List.range n).foldl (stepH v pay who h) (mkM (h + 1) 8 a e f x) = mkM (h + 1) 8 a e f ((List.range n).foldl (stepH v pay who h) x) := by
  induction n with
  | zero => rfl
  | succ n ih => rw [fold_succ, fold_succ, ih (by omega), stepH_mk a e f _ (by omega)]
theorem comes_xG {v : VW} {pay : Nat → Int32} {b j : Nat} (x : DYS) (h : j ≠ hourN v b) : xG (comesM v pay x b) j = xG x j := by
  have hs : xG (sellM v pay x b) j = xG x j := by
    unfold sellM
    simp only [lt_eq]
    by_cases c : pay b < vP v (hourN v b)
    · simp only [c, if_true]
    · simp only [c, if_false, xL, xT, xU, xG, xB, xS, upd_eq, h]
  unfold comesM
  by_cases c1 : vT v (hourN v b) ≤ 0
  · simp only [c1, if_true, hs]
  · simp only [c1, if_false]
    by_cases c2 : vP v (hourN v b) ≤ vT v (hourN v b)
    · simp only [c2, if_true, hs]
    · simp only [c2, if_false]
      by_cases c3 : pay b < vT v (hourN v b)
      · simp only [c3, if_true, hs]
      · simp only [c3, if_false]
theorem foldH_xG {v : VW} {pay : Nat → Int32} {who : Int32} {h j : Nat} (x : DYS) (n : Nat) (hj : j ≠ h) : xG ((List.range n).foldl (stepH v pay who h) x) j = xG x j := by
  induction n with
  | zero => rfl
  | succ n ih =>
    rw [fold_succ]
    generalize (List.range n).foldl (stepH v pay who h) x = y at ih ⊢
    rw [← ih]
    unfold stepH stepG
    by_cases c : hourN v n = h
    · simp only [c, if_true]
      by_cases c2 : goB v who n = true
      · simp only [c2, if_true]
        exact comes_xG y (by omega)
      · simp only [c2, if_false, Bool.false_eq_true]
    · simp only [c, if_false]
def z0 (v : VW) : DYS := (vU v, 0, 0, (fun _ => 0), (fun _ => 0), (fun _ => 0))
def hourC (v : VW) (pay : Nat → Int32) (who : Int32) (x : DYS) (h : Nat) : DYS := (List.range (vN v)).foldl (stepH v pay who h) x
def dayN (v : VW) (pay : Nat → Int32) (who : Int32) : DYS := (List.range 10).foldl (hourC v pay who) (z0 v)
theorem triesM_k {v : VW} {pay : Nat → Int32} {who : Int32} (hn : vN v ≤ 8) (a e f : Nat → Int32) (k : Nat) : (List.range k).foldl (hourM v pay who) (x0D v a e f) = mkM k 8 a e f ((List.range k).foldl (hourC v pay who) (z0 v)) ∧ ∀ j, k ≤ j → xG ((List.range k).foldl (hourC v pay who) (z0 v)) j = 0 := by
  induction k with
  | zero =>
    refine ⟨?_, fun j _ => rfl⟩
    show x0D v a e f = mkM 0 8 a e f (z0 v)
    unfold x0D mkM z0
    simp only [xL, xT, xU, xG, xB, xS, z_zero]
  | succ k ih =>
    obtain ⟨i1, i2⟩ := ih
    rw [fold_succ, fold_succ, i1]
    generalize (List.range k).foldl (hourC v pay who) (z0 v) = y at i2 ⊢
    have e1 : resetH (mkM k 8 a e f y) k = mkM (k + 1) 8 a e f y := by
      unfold resetH mkM
      simp only [xL, xT, xU, xG, xB, xS]
      have e0 : upd (fun j => if j < k then y.snd.snd.snd.fst j else a j) k 0 = fun j => if j < k + 1 then y.snd.snd.snd.fst j else a j := ?_
      rw [e0]
      funext j
      rw [upd_eq]
      by_cases h1 : j = k
      · rw [if_pos h1, if_pos (by omega), h1]
        exact (i2 k (Nat.le_refl k)).symm
      · rw [if_neg h1]
        by_cases h2 : j < k
        · rw [if_pos h2, if_pos (by omega)]
        · rw [if_neg h2, if_neg (by omega)]
    refine ⟨?_, fun j hj => ?_⟩
    · unfold hourM hourC
      rw [e1, foldH_mk a e f y _ hn]
    · unfold hourC
      rw [foldH_xG y _ (by omega), i2 j (by omega)]
theorem triesM_eq {v : VW} {pay : Nat → Int32} {who : Int32} (hn : vN v ≤ 8) (a e f : Nat → Int32) : triesM v pay who (x0D v a e f) = mkM 10 8 a e f (dayN v pay who) := (triesM_k hn a e f 10).1
-- the order
def seg (v : VW) (k h : Nat) : List Nat := (List.range k).filter (fun b => decide (hourN v b = h))
def ordN (v : VW) (k : Nat) : List Nat := (List.range 10).flatMap (seg v k)
theorem dayN_ord (v : VW) (pay : Nat → Int32) (who : Int32) : dayN v pay who = (ordN v (vN v)).foldl (stepG v pay who) (z0 v) := by
  unfold dayN ordN
  rw [List.foldl_flatMap]
  unfold seg
  simp only [List.foldl_filter, decide_eq_true_eq]
  rfl
theorem fm_congr {f g : Nat → List Nat} : ∀ {l : List Nat}, (∀ a ∈ l, f a = g a) → l.flatMap f = l.flatMap g
  | [], _ => rfl
  | a :: l, h => by
    rw [List.flatMap_cons, List.flatMap_cons, h a (List.mem_cons_self ..), fm_congr (fun b hb => h b (List.mem_cons_of_mem _ hb))]
theorem seg_succ (v : VW) (k h : Nat) : seg v (k + 1) h = seg v k h ++ (if hourN v k = h then [k] else []) := by
  unfold seg
  rw [List.range_succ, List.filter_append]
  refine congrArg _ ?_
  by_cases c : hourN v k = h
  · simp [c]
  · simp [c]
theorem ord_split (v : VW) (k : Nat) (hk : hourN v k < 10) : ∃ A B, ordN v k = A ++ B ∧ ordN v (k + 1) = A ++ k :: B ∧ (∀ b ∈ A, b < k ∧ hourN v b ≤ hourN v k) ∧ (∀ b ∈ B, b < k ∧ hourN v k < hourN v b) := by
  obtain ⟨d, hd⟩ : ∃ d, 10 = (hourN v k + 1) + d := ⟨9 - hourN v k, by omega⟩
  have hmem : ∀ b h, b ∈ seg v k h → b < k ∧ hourN v b = h := by
    intro b h hb
    unfold seg at hb
    rw [List.mem_filter, List.mem_range, decide_eq_true_eq] at hb
    exact hb
  have e1 : ∀ h, h ≠ hourN v k → seg v (k + 1) h = seg v k h := fun h hh => by rw [seg_succ, if_neg (fun e => hh e.symm), List.append_nil]
  refine ⟨(List.range (hourN v k + 1)).flatMap (seg v k), ((List.range d).map (fun x => hourN v k + 1 + x)).flatMap (seg v k), ?_, ?_, ?_, ?_⟩
  · unfold ordN
    rw [hd, List.range_add, List.flatMap_append]
  · unfold ordN
    rw [hd, List.range_add, List.flatMap_append, List.range_succ, List.flatMap_append, List.flatMap_append]
    have e2 : (List.range (hourN v k)).flatMap (seg v (k + 1)) = (List.range (hourN v k)).flatMap (seg v k) := fm_congr (fun a ha => e1 a (by have := List.mem_range.mp ha; omega))
    have e3 : ((List.range d).map (fun x => hourN v k + 1 + x)).flatMap (seg v (k + 1)) = ((List.range d).map (fun x => hourN v k + 1 + x)).flatMap (seg v k) := fm_congr (fun a ha => e1 a (by
      obtain ⟨x, -, hx⟩ := List.mem_map.mp ha
      omega))
    rw [e2, e3, List.flatMap_singleton, List.flatMap_singleton, seg_succ, if_pos rfl, List.append_assoc, List.append_assoc, List.append_assoc]
    rfl
  · intro b hb
    obtain ⟨h, hh, hb⟩ := List.mem_flatMap.mp hb
    have := hmem b h hb
    have := List.mem_range.mp hh
    omega
  · intro b hb
    obtain ⟨h, hh, hb⟩ := List.mem_flatMap.mp hb
    have := hmem b h hb
    obtain ⟨x, -, hx⟩ := List.mem_map.mp hh
    omega
theorem ord_zero (v : VW) : ordN v 0 = [] := rfl
theorem ord_all (v : VW) (k : Nat) (hk : ∀ b, b < k → hourN v b < 10) : (ordN v k).length = k ∧ (∀ b ∈ ordN v k, b < k) ∧ (ordN v k).Nodup := by
  induction k with
  | zero => exact ⟨rfl, (fun b hb => by cases hb), List.nodup_nil⟩
  | succ k ih =>
    obtain ⟨i1, i2, i3⟩ := ih (fun b hb => hk b (by omega))
    obtain ⟨A, B, h1, h2, h3, h4⟩ := ord_split v k (hk k (by omega))
    rw [h1] at i1 i2 i3
    rw [h2]
    refine ⟨?_, ?_, ?_⟩
    · rw [List.length_append] at i1
      rw [List.length_append, List.length_cons]
      omega
    · intro b hb
      rcases List.mem_append.mp hb with hb | hb
      · have := (h3 b hb).1
        omega
      · rcases List.mem_cons.mp hb with hb | hb
        · omega
        · have := (h4 b hb).1
          omega
    · rw [List.nodup_append] at i3 ⊢
      refine ⟨i3.1, List.nodup_cons.mpr ⟨fun hb => ?_, i3.2.1⟩, fun a ha b hb => ?_⟩
      · have := (h4 k hb).1
        omega
      · rcases List.mem_cons.mp hb with hb | hb
        · have := (h3 a ha).1
          omega
        · exact i3.2.2 a ha b hb
