-- ===== what the law needs of the two sides =====
theorem lg_cmp_self (x : Int64) : lg_cmp x x = 0 := by simp [lg_cmp]
def sim_market (Rel : CSt → LSt → Prop) : Prop := ∀ (c : CSt) (w : LSt), Rel c w → ∀ (a1 a2 : Int32), ∃ x y, f_X10_market c a1 a2 = some x ∧ f_X11_market w a1 a2 = some y ∧ x.1 = y.1 ∧ Rel x.2 y.2
def sim_bring (Rel : CSt → LSt → Prop) : Prop := ∀ (c : CSt) (w : LSt), Rel c w → ∀ (a1 : Int32), ∃ x y, f_X10_bring c a1 = some x ∧ f_X11_bring w a1 = some y ∧ x.1 = y.1 ∧ Rel x.2 y.2
def sim_price (Rel : CSt → LSt → Prop) : Prop := ∀ (c : CSt) (w : LSt), Rel c w → ∀ (a1 a2 : Int32), ∃ x y, f_X10_price c a1 a2 = some x ∧ f_X11_price w a1 a2 = some y ∧ x.1 = y.1 ∧ Rel x.2 y.2
def sim_theirs (Rel : CSt → LSt → Prop) : Prop := ∀ (c : CSt) (w : LSt), Rel c w → ∀ (a1 a2 : Int32), ∃ x y, f_X10_theirs c a1 a2 = some x ∧ f_X11_theirs w a1 a2 = some y ∧ x.1 = y.1 ∧ Rel x.2 y.2
def sim_rain (Rel : CSt → LSt → Prop) : Prop := ∀ (c : CSt) (w : LSt), Rel c w → ∀ (a1 : Int32), ∃ x y, f_X10_rain c a1 = some x ∧ f_X11_rain w a1 = some y ∧ x.1 = y.1 ∧ Rel x.2 y.2
def sim_buyer (Rel : CSt → LSt → Prop) : Prop := ∀ (c : CSt) (w : LSt), Rel c w → ∀ (a1 a2 a3 a4 : Int32), ∃ x y, f_X10_buyer c a1 a2 a3 a4 = some x ∧ f_X11_buyer w a1 a2 a3 a4 = some y ∧ x.1 = y.1 ∧ Rel x.2 y.2
def sim_type (Rel : CSt → LSt → Prop) : Prop := ∀ (c : CSt) (w : LSt), Rel c w → ∀ (a1 : Int32), ∃ x y, f_X10_type c a1 = some x ∧ f_X11_type w a1 = some y ∧ x.1 = y.1 ∧ Rel x.2 y.2
def sim_clear (Rel : CSt → LSt → Prop) : Prop := ∀ (c : CSt) (w : LSt), Rel c w → ∃ x y, f_X10_clear c = some x ∧ f_X11_clear w = some y ∧ x.1 = y.1 ∧ Rel x.2 y.2
def sim_read (Rel : CSt → LSt → Prop) : Prop := ∀ (c : CSt) (w : LSt), Rel c w → ∃ x y, f_X10_read c = some x ∧ f_X11_read w = some y ∧ x.1 = y.1 ∧ Rel x.2 y.2
def sim_day (Rel : CSt → LSt → Prop) : Prop := ∀ (c : CSt) (w : LSt), Rel c w → ∃ x y, f_X10_day c = some x ∧ f_X11_day w = some y ∧ x.1 = y.1 ∧ Rel x.2 y.2
def sim_undo (Rel : CSt → LSt → Prop) : Prop := ∀ (c : CSt) (w : LSt), Rel c w → ∃ x y, f_X10_undo c = some x ∧ f_X11_undo w = some y ∧ x.1 = y.1 ∧ Rel x.2 y.2
def sim_of (Rel : CSt → LSt → Prop) : Prop := ∀ (c : CSt) (w : LSt), Rel c w → ∀ (a1 a2 : Int32), ∃ x y, f_X10_of c a1 a2 = some x ∧ f_X11_of w a1 a2 = some y ∧ x.1 = y.1 ∧ Rel x.2 y.2
def sim_about (Rel : CSt → LSt → Prop) : Prop := ∀ (c : CSt) (w : LSt), Rel c w → ∀ (a1 a2 : Int32), ∃ x y, f_X10_about c a1 a2 = some x ∧ f_X11_about w a1 a2 = some y ∧ x.1 = y.1 ∧ Rel x.2 y.2
def sim_takes (Rel : CSt → LSt → Prop) : Prop := ∀ (c : CSt) (w : LSt), Rel c w → ∀ (a1 : Int32), ∃ x y, f_X10_takes c a1 = some x ∧ f_X11_takes w a1 = some y ∧ x.1 = y.1 ∧ Rel x.2 y.2
def sim_to (Rel : CSt → LSt → Prop) : Prop := ∀ (c : CSt) (w : LSt), Rel c w → ∀ (a1 a2 : Int32), ∃ x y, f_X10_to c a1 a2 = some x ∧ f_X11_to w a1 a2 = some y ∧ x.1 = y.1 ∧ Rel x.2 y.2
def sim_best (Rel : CSt → LSt → Prop) : Prop := ∀ (c : CSt) (w : LSt), Rel c w → ∀ (a1 a2 a3 a4 : Int32), ∃ x y, f_X10_best c a1 a2 a3 a4 = some x ∧ f_X11_best w a1 a2 a3 a4 = some y ∧ x.1 = y.1 ∧ Rel x.2 y.2
def sim_brings (Rel : CSt → LSt → Prop) : Prop := ∀ (c : CSt) (w : LSt), Rel c w → ∀ (a1 : Int32), ∃ x y, f_X10_brings c a1 = some x ∧ f_X11_brings w a1 = some y ∧ x.1 = y.1 ∧ Rel x.2 y.2
def sim_come (Rel : CSt → LSt → Prop) : Prop := ∀ (c : CSt) (w : LSt), Rel c w → ∀ (a1 : Int32), ∃ x y, f_X10_come c a1 = some x ∧ f_X11_come w a1 = some y ∧ x.1 = y.1 ∧ Rel x.2 y.2
def sim_stalls (Rel : CSt → LSt → Prop) : Prop := ∀ (c : CSt) (w : LSt), Rel c w → ∀ (a1 a2 a3 : Int32), ∃ x y, f_X10_stalls c a1 a2 a3 = some x ∧ f_X11_stalls w a1 a2 a3 = some y ∧ x.1 = y.1 ∧ Rel x.2 y.2
def sim_mean (Rel : CSt → LSt → Prop) : Prop := ∀ (c : CSt) (w : LSt), Rel c w → ∀ (a1 : Int32), ∃ x y, f_X10_mean c a1 = some x ∧ f_X11_mean w a1 = some y ∧ x.1 = y.1 ∧ Rel x.2 y.2
def sim_shout (Rel : CSt → LSt → Prop) : Prop := ∀ (c : CSt) (w : LSt), Rel c w → ∀ (a1 : Int32), ∃ x y, f_X10_shout c a1 = some x ∧ f_X11_shout w a1 = some y ∧ x.1 = y.1 ∧ Rel x.2 y.2
def sim_sold (Rel : CSt → LSt → Prop) : Prop := ∀ (c : CSt) (w : LSt), Rel c w → ∀ (a1 a2 : Int32), ∃ x y, f_X10_sold c a1 a2 = some x ∧ f_X11_sold w a1 a2 = some y ∧ x.1 = y.1 ∧ Rel x.2 y.2
def sim_forget (Rel : CSt → LSt → Prop) : Prop := ∀ (c : CSt) (w : LSt), Rel c w → ∃ x y, f_X10_forget c = some x ∧ f_X11_forget w = some y ∧ x.1 = y.1 ∧ Rel x.2 y.2
def sim_may (Rel : CSt → LSt → Prop) : Prop := ∀ (c : CSt) (w : LSt), Rel c w → ∀ (a1 : Int32), ∃ x y, f_X10_may c a1 = some x ∧ f_X11_may w a1 = some y ∧ x.1 = y.1 ∧ Rel x.2 y.2
def sim_drawn (Rel : CSt → LSt → Prop) : Prop := ∀ (c : CSt) (w : LSt), Rel c w → ∀ (a1 a2 a3 : Int32), ∃ x y, f_X10_drawn c a1 a2 a3 = some x ∧ f_X11_drawn w a1 a2 a3 = some y ∧ x.1 = y.1 ∧ Rel x.2 y.2
def sim_part (Rel : CSt → LSt → Prop) : Prop := ∀ (c : CSt) (w : LSt), Rel c w → ∀ (a1 : Int32), ∃ x y, f_X10_part c a1 = some x ∧ f_X11_part w a1 = some y ∧ x.1 = y.1 ∧ Rel x.2 y.2
def sim_image (Rel : CSt → LSt → Prop) : Prop := ∀ (c : CSt) (w : LSt), Rel c w → ∀ (a1 : Int32), ∃ x y, f_X10_image c a1 = some x ∧ f_X11_image w a1 = some y ∧ x.1 = y.1 ∧ Rel x.2 y.2
def sim_from (Rel : CSt → LSt → Prop) : Prop := ∀ (c : CSt) (w : LSt), Rel c w → ∀ (a1 : Int32), ∃ x y, f_X10_from c a1 = some x ∧ f_X11_from w a1 = some y ∧ x.1 = y.1 ∧ Rel x.2 y.2
def sim_status (Rel : CSt → LSt → Prop) : Prop := ∀ (c : CSt) (w : LSt), Rel c w → ∀ (a1 : Int32), ∃ x y, f_X10_status c a1 = some x ∧ f_X11_status w a1 = some y ∧ x.1 = y.1 ∧ Rel x.2 y.2
def sim_count (Rel : CSt → LSt → Prop) : Prop := ∀ (c : CSt) (w : LSt), Rel c w → ∀ (a1 : Int32), ∃ x y, f_X10_count c a1 = some x ∧ f_X11_count w a1 = some y ∧ x.1 = y.1 ∧ Rel x.2 y.2
def sim_digest (Rel : CSt → LSt → Prop) : Prop := ∀ (c : CSt) (w : LSt), Rel c w → ∃ x y, f_X10_digest c = some x ∧ f_X11_digest w = some y ∧ x = y.1 ∧ Rel c y.2
def SimAll (Rel : CSt → LSt → Prop) : Prop := sim_market Rel ∧ sim_bring Rel ∧ sim_price Rel ∧ sim_theirs Rel ∧ sim_rain Rel ∧ sim_buyer Rel ∧ sim_type Rel ∧ sim_clear Rel ∧ sim_read Rel ∧ sim_day Rel ∧ sim_undo Rel ∧ sim_of Rel ∧ sim_about Rel ∧ sim_takes Rel ∧ sim_to Rel ∧ sim_best Rel ∧ sim_brings Rel ∧ sim_come Rel ∧ sim_stalls Rel ∧ sim_mean Rel ∧ sim_shout Rel ∧ sim_sold Rel ∧ sim_forget Rel ∧ sim_may Rel ∧ sim_drawn Rel ∧ sim_part Rel ∧ sim_image Rel ∧ sim_from Rel ∧ sim_status Rel ∧ sim_count Rel ∧ sim_digest Rel
def ids77 : List Nat := [0, 1, 2, 3, 4, 5, 6, 7, 8, 9, 10, 11, 12, 13, 14, 15, 16, 17, 18, 19, 20, 21, 22, 23, 24, 25, 26, 27, 28, 29, 30, 31, 32, 33, 34, 35, 36, 37, 38, 39, 40, 41, 42, 43, 44, 45, 46, 47, 48, 49, 50, 51, 52, 53, 54, 55, 56, 57, 58, 59, 60, 61, 62, 63, 64, 65, 66, 67, 68, 69, 70, 71, 72, 73, 74, 75, 76]
theorem ids77_in {i : Nat} (h : i < 77) : i ∈ ids77 := by
  have : ∀ k, k < 77 → k ∈ ids77 := by decide
  exact this i h
section YLaw
variable {Γ : GC} {A : Nat → Prop} {p : Program} {l : Launch} {e : Env} {R : Room} {s : State} {m : MethodId} {args : Array Value} {below : List Frame} {meth : Method} {c : Code} {cells slots : Nat} {Q : State → Prop} {nL : Nat} {σ : GSt} {pc : Nat} {lv : List (Nat × Value)} {st : List Value} {own : String} {cc : ByteArray}
theorem y_sld (hC : CX Γ A p s m args c own cc nL) {b L : Nat} {xs : Nat → Int32} (hX : va_X b L xs s s.heap) (hbl : b < s.heap.size) (hbA : ¬ A b) {i : Int32} (hin : vp_in i L) (hdg : decode cc pc = .ok (.iaload, 1)) (q : Nat) (hq : pc + 1 = q) (k : Y Γ A p l e R s m args below meth c cells slots Q nL σ q lv (.int (xs i.toNatClampNeg) :: st)) : Y Γ A p l e R s m args below meth c cells slots Q nL σ pc lv (.int i :: .ref b :: st) := by
  subst hq
  exact fun H locs ls hP hS hl => va_sld hC.1 hC.2.1 hX hbl hbA hS hin hdg (k H locs ls hP hS hl)
theorem y_sln (hC : CX Γ A p s m args c own cc nL) {b L : Nat} {xs : Nat → Int32} (hX : va_X b L xs s s.heap) (hbl : b < s.heap.size) (hbA : ¬ A b) (hdg : decode cc pc = .ok (.arraylength, 1)) (q : Nat) (hq : pc + 1 = q) (k : Y Γ A p l e R s m args below meth c cells slots Q nL σ q lv (.int (nI L) :: st)) : Y Γ A p l e R s m args below meth c cells slots Q nL σ pc lv (.ref b :: st) := by
  subst hq
  exact fun H locs ls hP hS hl => va_slen hC.1 hC.2.1 hX hbl hbA hS hdg (k H locs ls hP hS hl)
end YLaw
set_option maxHeartbeats 4000000 in
set_option maxRecDepth 100000 in
theorem lc_market {Γ : GC} {p : Program} {l : Launch} {e : Env} {s : State} {m : MethodId} {below : List Frame} {meth : Method} {c' : Code} {b L : Nat} {xs : Nat → Int32} (hC : CX Γ (fun q : Nat => s.heap.size ≤ q) p s m #[Value.ref b] c' R_law code 4) (hJ : GJ Γ) (hA : ∀ i, i < 66 → act Γ i) (hB : ∀ i, 66 ≤ i → i < 77 → act Γ i) (hX : va_X b L xs s s.heap) (hbl : b < s.heap.size) (hL : L ≤ 2560) {Rel : CSt → LSt → Prop} (i : Nat) (hi : i + 5 ≤ L) (K : ∀ c w, Rel c w → Y Γ (fun q : Nat => s.heap.size ≤ q) p l e room_1 s m #[Value.ref b] below meth c' 77 2245 (lw_Z below #[Value.ref b] s) 4 (c, w) 997 [(0, .ref b), (1, .ref (ad Γ 63)), (2, .ref (ad Γ 66)), (3, .int (nI i))] []) (hs : sim_market Rel) (c : CSt) (w : LSt) (hR : Rel c w) : Y Γ (fun q : Nat => s.heap.size ≤ q) p l e room_1 s m #[Value.ref b] below meth c' 77 2245 (lw_Z below #[Value.ref b] s) 4 (c, w) 172 [(0, .ref b), (1, .ref (ad Γ 63)), (2, .ref (ad Γ 66)), (3, .int (nI i))] [] := by
  have hbA : ¬ (fun q : Nat => s.heap.size ≤ q) b := Nat.not_le.mpr hbl
  obtain ⟨x, y, hx, hy, hxy, hR2⟩ := hs c w hR (xs (i + 1)) (xs (i + 2))
  refine y_aload_n hC dL_law_172 1 rfl 173 rfl ?_
  refine y_aload_n hC dL_law_173 0 rfl 174 rfl ?_
  refine y_iload_n hC dL_law_174 3 rfl 175 rfl ?_
  refine y_iconst hC dL_law_175 (v := (1 : Int32)) (by decide) 176 rfl ?_
  refine y_iadd hC dL_law_176 177 rfl ?_
  refine y_topi (nI_add i 1).symm ?_
  refine y_sld hC hX hbl hbA (vp_in_nI (by omega) (by omega)) dL_law_177 178 rfl ?_
  rw [nI_clamp (show i + 1 < 2 ^ 31 by omega)]
  refine y_aload_n hC dL_law_178 0 rfl 179 rfl ?_
  refine y_iload_n hC dL_law_179 3 rfl 180 rfl ?_
  refine y_iconst hC dL_law_180 (v := (2 : Int32)) (by decide) 181 rfl ?_
  refine y_iadd hC dL_law_181 182 rfl ?_
  refine y_topi (nI_add i 2).symm ?_
  refine y_sld hC hX hbl hbA (vp_in_nI (by omega) (by omega)) dL_law_182 183 rfl ?_
  rw [nI_clamp (show i + 2 < 2 ^ 31 by omega)]
  refine y_callV hC 63 (hA 63 (by decide)) (cl_H (u := c.1) rfl) rfl (c_X10_market hJ hA l (c, w) c (xs (i + 1)) (xs (i + 2)) x hx) rfl ⟨w2_67, w1_1, cwd_X10_market, by decide, by decide⟩ w2_64 w2_65 w2_66 rfl rfl (Nat.le_of_ble_eq_true rfl) (by decide) dL_law_183 186 rfl (x.2, w) rfl [.int x.1] rfl ?_
  refine y_aload_n hC dL_law_186 2 rfl 187 rfl ?_
  refine y_aload_n hC dL_law_187 0 rfl 188 rfl ?_
  refine y_iload_n hC dL_law_188 3 rfl 189 rfl ?_
  refine y_iconst hC dL_law_189 (v := (1 : Int32)) (by decide) 190 rfl ?_
  refine y_iadd hC dL_law_190 191 rfl ?_
  refine y_topi (nI_add i 1).symm ?_
  refine y_sld hC hX hbl hbA (vp_in_nI (by omega) (by omega)) dL_law_191 192 rfl ?_
  rw [nI_clamp (show i + 1 < 2 ^ 31 by omega)]
  refine y_aload_n hC dL_law_192 0 rfl 193 rfl ?_
  refine y_iload_n hC dL_law_193 3 rfl 194 rfl ?_
  refine y_iconst hC dL_law_194 (v := (2 : Int32)) (by decide) 195 rfl ?_
  refine y_iadd hC dL_law_195 196 rfl ?_
  refine y_topi (nI_add i 2).symm ?_
  refine y_sld hC hX hbl hbA (vp_in_nI (by omega) (by omega)) dL_law_196 197 rfl ?_
  rw [nI_clamp (show i + 2 < 2 ^ 31 by omega)]
  refine y_callV hC 66 (hB 66 (by decide) (by decide)) (cl_L (u := w) rfl) rfl (c_X11_market hJ hB l (x.2, w) w (xs (i + 1)) (xs (i + 2)) y hy) rfl ⟨w4_174, w1_13, cwd_X11_market, by decide, by decide⟩ w4_171 w4_172 w4_173 rfl rfl (Nat.le_of_ble_eq_true rfl) (by decide) dL_law_197 200 rfl (x.2, y.2) rfl [.int y.1, .int x.1] rfl ?_
  refine y_icmp_eq hC dL_law_200 997 (by decide) 203 rfl (fun _ => K _ _ hR2) (fun h => absurd hxy h)
set_option maxHeartbeats 4000000 in
set_option maxRecDepth 100000 in
theorem lc_bring {Γ : GC} {p : Program} {l : Launch} {e : Env} {s : State} {m : MethodId} {below : List Frame} {meth : Method} {c' : Code} {b L : Nat} {xs : Nat → Int32} (hC : CX Γ (fun q : Nat => s.heap.size ≤ q) p s m #[Value.ref b] c' R_law code 4) (hJ : GJ Γ) (hA : ∀ i, i < 66 → act Γ i) (hB : ∀ i, 66 ≤ i → i < 77 → act Γ i) (hX : va_X b L xs s s.heap) (hbl : b < s.heap.size) (hL : L ≤ 2560) {Rel : CSt → LSt → Prop} (i : Nat) (hi : i + 5 ≤ L) (K : ∀ c w, Rel c w → Y Γ (fun q : Nat => s.heap.size ≤ q) p l e room_1 s m #[Value.ref b] below meth c' 77 2245 (lw_Z below #[Value.ref b] s) 4 (c, w) 997 [(0, .ref b), (1, .ref (ad Γ 63)), (2, .ref (ad Γ 66)), (3, .int (nI i))] []) (hs : sim_bring Rel) (c : CSt) (w : LSt) (hR : Rel c w) : Y Γ (fun q : Nat => s.heap.size ≤ q) p l e room_1 s m #[Value.ref b] below meth c' 77 2245 (lw_Z below #[Value.ref b] s) 4 (c, w) 205 [(0, .ref b), (1, .ref (ad Γ 63)), (2, .ref (ad Γ 66)), (3, .int (nI i))] [] := by
  have hbA : ¬ (fun q : Nat => s.heap.size ≤ q) b := Nat.not_le.mpr hbl
  obtain ⟨x, y, hx, hy, hxy, hR2⟩ := hs c w hR (xs (i + 1))
  refine y_aload_n hC dL_law_205 1 rfl 206 rfl ?_
  refine y_aload_n hC dL_law_206 0 rfl 207 rfl ?_
  refine y_iload_n hC dL_law_207 3 rfl 208 rfl ?_
  refine y_iconst hC dL_law_208 (v := (1 : Int32)) (by decide) 209 rfl ?_
  refine y_iadd hC dL_law_209 210 rfl ?_
  refine y_topi (nI_add i 1).symm ?_
  refine y_sld hC hX hbl hbA (vp_in_nI (by omega) (by omega)) dL_law_210 211 rfl ?_
  rw [nI_clamp (show i + 1 < 2 ^ 31 by omega)]
  refine y_callV hC 63 (hA 63 (by decide)) (cl_H (u := c.1) rfl) rfl (c_X10_bring hJ hA l (c, w) c (xs (i + 1)) x hx) rfl ⟨w2_82, w1_1, cwd_X10_bring, by decide, by decide⟩ w2_79 w2_80 w2_81 rfl rfl (Nat.le_of_ble_eq_true rfl) (by decide) dL_law_211 214 rfl (x.2, w) rfl [.int x.1] rfl ?_
  refine y_aload_n hC dL_law_214 2 rfl 215 rfl ?_
  refine y_aload_n hC dL_law_215 0 rfl 216 rfl ?_
  refine y_iload_n hC dL_law_216 3 rfl 217 rfl ?_
  refine y_iconst hC dL_law_217 (v := (1 : Int32)) (by decide) 218 rfl ?_
  refine y_iadd hC dL_law_218 219 rfl ?_
  refine y_topi (nI_add i 1).symm ?_
  refine y_sld hC hX hbl hbA (vp_in_nI (by omega) (by omega)) dL_law_219 220 rfl ?_
  rw [nI_clamp (show i + 1 < 2 ^ 31 by omega)]
  refine y_callV hC 66 (hB 66 (by decide) (by decide)) (cl_L (u := w) rfl) rfl (c_X11_bring hJ hB l (x.2, w) w (xs (i + 1)) y hy) rfl ⟨w4_190, w1_13, cwd_X11_bring, by decide, by decide⟩ w4_187 w4_188 w4_189 rfl rfl (Nat.le_of_ble_eq_true rfl) (by decide) dL_law_220 223 rfl (x.2, y.2) rfl [.int y.1, .int x.1] rfl ?_
  refine y_icmp_eq hC dL_law_223 997 (by decide) 226 rfl (fun _ => K _ _ hR2) (fun h => absurd hxy h)
set_option maxHeartbeats 4000000 in
set_option maxRecDepth 100000 in
theorem lc_price {Γ : GC} {p : Program} {l : Launch} {e : Env} {s : State} {m : MethodId} {below : List Frame} {meth : Method} {c' : Code} {b L : Nat} {xs : Nat → Int32} (hC : CX Γ (fun q : Nat => s.heap.size ≤ q) p s m #[Value.ref b] c' R_law code 4) (hJ : GJ Γ) (hA : ∀ i, i < 66 → act Γ i) (hB : ∀ i, 66 ≤ i → i < 77 → act Γ i) (hX : va_X b L xs s s.heap) (hbl : b < s.heap.size) (hL : L ≤ 2560) {Rel : CSt → LSt → Prop} (i : Nat) (hi : i + 5 ≤ L) (K : ∀ c w, Rel c w → Y Γ (fun q : Nat => s.heap.size ≤ q) p l e room_1 s m #[Value.ref b] below meth c' 77 2245 (lw_Z below #[Value.ref b] s) 4 (c, w) 997 [(0, .ref b), (1, .ref (ad Γ 63)), (2, .ref (ad Γ 66)), (3, .int (nI i))] []) (hs : sim_price Rel) (c : CSt) (w : LSt) (hR : Rel c w) : Y Γ (fun q : Nat => s.heap.size ≤ q) p l e room_1 s m #[Value.ref b] below meth c' 77 2245 (lw_Z below #[Value.ref b] s) 4 (c, w) 228 [(0, .ref b), (1, .ref (ad Γ 63)), (2, .ref (ad Γ 66)), (3, .int (nI i))] [] := by
  have hbA : ¬ (fun q : Nat => s.heap.size ≤ q) b := Nat.not_le.mpr hbl
  obtain ⟨x, y, hx, hy, hxy, hR2⟩ := hs c w hR (xs (i + 1)) (xs (i + 2))
  refine y_aload_n hC dL_law_228 1 rfl 229 rfl ?_
  refine y_aload_n hC dL_law_229 0 rfl 230 rfl ?_
  refine y_iload_n hC dL_law_230 3 rfl 231 rfl ?_
  refine y_iconst hC dL_law_231 (v := (1 : Int32)) (by decide) 232 rfl ?_
  refine y_iadd hC dL_law_232 233 rfl ?_
  refine y_topi (nI_add i 1).symm ?_
  refine y_sld hC hX hbl hbA (vp_in_nI (by omega) (by omega)) dL_law_233 234 rfl ?_
  rw [nI_clamp (show i + 1 < 2 ^ 31 by omega)]
  refine y_aload_n hC dL_law_234 0 rfl 235 rfl ?_
  refine y_iload_n hC dL_law_235 3 rfl 236 rfl ?_
  refine y_iconst hC dL_law_236 (v := (2 : Int32)) (by decide) 237 rfl ?_
  refine y_iadd hC dL_law_237 238 rfl ?_
  refine y_topi (nI_add i 2).symm ?_
  refine y_sld hC hX hbl hbA (vp_in_nI (by omega) (by omega)) dL_law_238 239 rfl ?_
  rw [nI_clamp (show i + 2 < 2 ^ 31 by omega)]
  refine y_callV hC 63 (hA 63 (by decide)) (cl_H (u := c.1) rfl) rfl (c_X10_price hJ hA l (c, w) c (xs (i + 1)) (xs (i + 2)) x hx) rfl ⟨w2_86, w1_1, cwd_X10_price, by decide, by decide⟩ w2_83 w2_84 w2_85 rfl rfl (Nat.le_of_ble_eq_true rfl) (by decide) dL_law_239 242 rfl (x.2, w) rfl [.int x.1] rfl ?_
  refine y_aload_n hC dL_law_242 2 rfl 243 rfl ?_
  refine y_aload_n hC dL_law_243 0 rfl 244 rfl ?_
  refine y_iload_n hC dL_law_244 3 rfl 245 rfl ?_
  refine y_iconst hC dL_law_245 (v := (1 : Int32)) (by decide) 246 rfl ?_
  refine y_iadd hC dL_law_246 247 rfl ?_
  refine y_topi (nI_add i 1).symm ?_
  refine y_sld hC hX hbl hbA (vp_in_nI (by omega) (by omega)) dL_law_247 248 rfl ?_
  rw [nI_clamp (show i + 1 < 2 ^ 31 by omega)]
  refine y_aload_n hC dL_law_248 0 rfl 249 rfl ?_
  refine y_iload_n hC dL_law_249 3 rfl 250 rfl ?_
  refine y_iconst hC dL_law_250 (v := (2 : Int32)) (by decide) 251 rfl ?_
  refine y_iadd hC dL_law_251 252 rfl ?_
  refine y_topi (nI_add i 2).symm ?_
  refine y_sld hC hX hbl hbA (vp_in_nI (by omega) (by omega)) dL_law_252 253 rfl ?_
  rw [nI_clamp (show i + 2 < 2 ^ 31 by omega)]
  refine y_callV hC 66 (hB 66 (by decide) (by decide)) (cl_L (u := w) rfl) rfl (c_X11_price hJ hB l (x.2, w) w (xs (i + 1)) (xs (i + 2)) y hy) rfl ⟨w4_198, w1_13, cwd_X11_price, by decide, by decide⟩ w4_195 w4_196 w4_197 rfl rfl (Nat.le_of_ble_eq_true rfl) (by decide) dL_law_253 256 rfl (x.2, y.2) rfl [.int y.1, .int x.1] rfl ?_
  refine y_icmp_eq hC dL_law_256 997 (by decide) 259 rfl (fun _ => K _ _ hR2) (fun h => absurd hxy h)
set_option maxHeartbeats 4000000 in
set_option maxRecDepth 100000 in
theorem lc_theirs {Γ : GC} {p : Program} {l : Launch} {e : Env} {s : State} {m : MethodId} {below : List Frame} {meth : Method} {c' : Code} {b L : Nat} {xs : Nat → Int32} (hC : CX Γ (fun q : Nat => s.heap.size ≤ q) p s m #[Value.ref b] c' R_law code 4) (hJ : GJ Γ) (hA : ∀ i, i < 66 → act Γ i) (hB : ∀ i, 66 ≤ i → i < 77 → act Γ i) (hX : va_X b L xs s s.heap) (hbl : b < s.heap.size) (hL : L ≤ 2560) {Rel : CSt → LSt → Prop} (i : Nat) (hi : i + 5 ≤ L) (K : ∀ c w, Rel c w → Y Γ (fun q : Nat => s.heap.size ≤ q) p l e room_1 s m #[Value.ref b] below meth c' 77 2245 (lw_Z below #[Value.ref b] s) 4 (c, w) 997 [(0, .ref b), (1, .ref (ad Γ 63)), (2, .ref (ad Γ 66)), (3, .int (nI i))] []) (hs : sim_theirs Rel) (c : CSt) (w : LSt) (hR : Rel c w) : Y Γ (fun q : Nat => s.heap.size ≤ q) p l e room_1 s m #[Value.ref b] below meth c' 77 2245 (lw_Z below #[Value.ref b] s) 4 (c, w) 261 [(0, .ref b), (1, .ref (ad Γ 63)), (2, .ref (ad Γ 66)), (3, .int (nI i))] [] := by
  have hbA : ¬ (fun q : Nat => s.heap.size ≤ q) b := Nat.not_le.mpr hbl
  obtain ⟨x, y, hx, hy, hxy, hR2⟩ := hs c w hR (xs (i + 1)) (xs (i + 2))
  refine y_aload_n hC dL_law_261 1 rfl 262 rfl ?_
  refine y_aload_n hC dL_law_262 0 rfl 263 rfl ?_
  refine y_iload_n hC dL_law_263 3 rfl 264 rfl ?_
  refine y_iconst hC dL_law_264 (v := (1 : Int32)) (by decide) 265 rfl ?_
  refine y_iadd hC dL_law_265 266 rfl ?_
  refine y_topi (nI_add i 1).symm ?_
  refine y_sld hC hX hbl hbA (vp_in_nI (by omega) (by omega)) dL_law_266 267 rfl ?_
  rw [nI_clamp (show i + 1 < 2 ^ 31 by omega)]
  refine y_aload_n hC dL_law_267 0 rfl 268 rfl ?_
  refine y_iload_n hC dL_law_268 3 rfl 269 rfl ?_
  refine y_iconst hC dL_law_269 (v := (2 : Int32)) (by decide) 270 rfl ?_
  refine y_iadd hC dL_law_270 271 rfl ?_
  refine y_topi (nI_add i 2).symm ?_
  refine y_sld hC hX hbl hbA (vp_in_nI (by omega) (by omega)) dL_law_271 272 rfl ?_
  rw [nI_clamp (show i + 2 < 2 ^ 31 by omega)]
  refine y_callV hC 63 (hA 63 (by decide)) (cl_H (u := c.1) rfl) rfl (c_X10_theirs hJ hA l (c, w) c (xs (i + 1)) (xs (i + 2)) x hx) rfl ⟨w2_104, w1_1, cwd_X10_theirs, by decide, by decide⟩ w2_101 w2_102 w2_103 rfl rfl (Nat.le_of_ble_eq_true rfl) (by decide) dL_law_272 275 rfl (x.2, w) rfl [.int x.1] rfl ?_
  refine y_aload_n hC dL_law_275 2 rfl 276 rfl ?_
  refine y_aload_n hC dL_law_276 0 rfl 277 rfl ?_
  refine y_iload_n hC dL_law_277 3 rfl 278 rfl ?_
  refine y_iconst hC dL_law_278 (v := (1 : Int32)) (by decide) 279 rfl ?_
  refine y_iadd hC dL_law_279 280 rfl ?_
  refine y_topi (nI_add i 1).symm ?_
  refine y_sld hC hX hbl hbA (vp_in_nI (by omega) (by omega)) dL_law_280 281 rfl ?_
  rw [nI_clamp (show i + 1 < 2 ^ 31 by omega)]
  refine y_aload_n hC dL_law_281 0 rfl 282 rfl ?_
  refine y_iload_n hC dL_law_282 3 rfl 283 rfl ?_
  refine y_iconst hC dL_law_283 (v := (2 : Int32)) (by decide) 284 rfl ?_
  refine y_iadd hC dL_law_284 285 rfl ?_
  refine y_topi (nI_add i 2).symm ?_
  refine y_sld hC hX hbl hbA (vp_in_nI (by omega) (by omega)) dL_law_285 286 rfl ?_
  rw [nI_clamp (show i + 2 < 2 ^ 31 by omega)]
  refine y_callV hC 66 (hB 66 (by decide) (by decide)) (cl_L (u := w) rfl) rfl (c_X11_theirs hJ hB l (x.2, w) w (xs (i + 1)) (xs (i + 2)) y hy) rfl ⟨w4_209, w1_13, cwd_X11_theirs, by decide, by decide⟩ w4_206 w4_207 w4_208 rfl rfl (Nat.le_of_ble_eq_true rfl) (by decide) dL_law_286 289 rfl (x.2, y.2) rfl [.int y.1, .int x.1] rfl ?_
  refine y_icmp_eq hC dL_law_289 997 (by decide) 292 rfl (fun _ => K _ _ hR2) (fun h => absurd hxy h)
set_option maxHeartbeats 4000000 in
set_option maxRecDepth 100000 in
theorem lc_rain {Γ : GC} {p : Program} {l : Launch} {e : Env} {s : State} {m : MethodId} {below : List Frame} {meth : Method} {c' : Code} {b L : Nat} {xs : Nat → Int32} (hC : CX Γ (fun q : Nat => s.heap.size ≤ q) p s m #[Value.ref b] c' R_law code 4) (hJ : GJ Γ) (hA : ∀ i, i < 66 → act Γ i) (hB : ∀ i, 66 ≤ i → i < 77 → act Γ i) (hX : va_X b L xs s s.heap) (hbl : b < s.heap.size) (hL : L ≤ 2560) {Rel : CSt → LSt → Prop} (i : Nat) (hi : i + 5 ≤ L) (K : ∀ c w, Rel c w → Y Γ (fun q : Nat => s.heap.size ≤ q) p l e room_1 s m #[Value.ref b] below meth c' 77 2245 (lw_Z below #[Value.ref b] s) 4 (c, w) 997 [(0, .ref b), (1, .ref (ad Γ 63)), (2, .ref (ad Γ 66)), (3, .int (nI i))] []) (hs : sim_rain Rel) (c : CSt) (w : LSt) (hR : Rel c w) : Y Γ (fun q : Nat => s.heap.size ≤ q) p l e room_1 s m #[Value.ref b] below meth c' 77 2245 (lw_Z below #[Value.ref b] s) 4 (c, w) 294 [(0, .ref b), (1, .ref (ad Γ 63)), (2, .ref (ad Γ 66)), (3, .int (nI i))] [] := by
  have hbA : ¬ (fun q : Nat => s.heap.size ≤ q) b := Nat.not_le.mpr hbl
  obtain ⟨x, y, hx, hy, hxy, hR2⟩ := hs c w hR (xs (i + 1))
  refine y_aload_n hC dL_law_294 1 rfl 295 rfl ?_
  refine y_aload_n hC dL_law_295 0 rfl 296 rfl ?_
  refine y_iload_n hC dL_law_296 3 rfl 297 rfl ?_
  refine y_iconst hC dL_law_297 (v := (1 : Int32)) (by decide) 298 rfl ?_
  refine y_iadd hC dL_law_298 299 rfl ?_
  refine y_topi (nI_add i 1).symm ?_
  refine y_sld hC hX hbl hbA (vp_in_nI (by omega) (by omega)) dL_law_299 300 rfl ?_
  rw [nI_clamp (show i + 1 < 2 ^ 31 by omega)]
  refine y_callV hC 63 (hA 63 (by decide)) (cl_H (u := c.1) rfl) rfl (c_X10_rain hJ hA l (c, w) c (xs (i + 1)) x hx) rfl ⟨w2_116, w1_1, cwd_X10_rain, by decide, by decide⟩ w2_113 w2_114 w2_115 rfl rfl (Nat.le_of_ble_eq_true rfl) (by decide) dL_law_300 303 rfl (x.2, w) rfl [.int x.1] rfl ?_
  refine y_aload_n hC dL_law_303 2 rfl 304 rfl ?_
  refine y_aload_n hC dL_law_304 0 rfl 305 rfl ?_
  refine y_iload_n hC dL_law_305 3 rfl 306 rfl ?_
  refine y_iconst hC dL_law_306 (v := (1 : Int32)) (by decide) 307 rfl ?_
  refine y_iadd hC dL_law_307 308 rfl ?_
  refine y_topi (nI_add i 1).symm ?_
  refine y_sld hC hX hbl hbA (vp_in_nI (by omega) (by omega)) dL_law_308 309 rfl ?_
  rw [nI_clamp (show i + 1 < 2 ^ 31 by omega)]
  refine y_callV hC 66 (hB 66 (by decide) (by decide)) (cl_L (u := w) rfl) rfl (c_X11_rain hJ hB l (x.2, w) w (xs (i + 1)) y hy) rfl ⟨w4_213, w1_13, cwd_X11_rain, by decide, by decide⟩ w4_210 w4_211 w4_212 rfl rfl (Nat.le_of_ble_eq_true rfl) (by decide) dL_law_309 312 rfl (x.2, y.2) rfl [.int y.1, .int x.1] rfl ?_
  refine y_icmp_eq hC dL_law_312 997 (by decide) 315 rfl (fun _ => K _ _ hR2) (fun h => absurd hxy h)
set_option maxHeartbeats 4000000 in
set_option maxRecDepth 100000 in
theorem lc_buyer {Γ : GC} {p : Program} {l : Launch} {e : Env} {s : State} {m : MethodId} {below : List Frame} {meth : Method} {c' : Code} {b L : Nat} {xs : Nat → Int32} (hC : CX Γ (fun q : Nat => s.heap.size ≤ q) p s m #[Value.ref b] c' R_law code 4) (hJ : GJ Γ) (hA : ∀ i, i < 66 → act Γ i) (hB : ∀ i, 66 ≤ i → i < 77 → act Γ i) (hX : va_X b L xs s s.heap) (hbl : b < s.heap.size) (hL : L ≤ 2560) {Rel : CSt → LSt → Prop} (i : Nat) (hi : i + 5 ≤ L) (K : ∀ c w, Rel c w → Y Γ (fun q : Nat => s.heap.size ≤ q) p l e room_1 s m #[Value.ref b] below meth c' 77 2245 (lw_Z below #[Value.ref b] s) 4 (c, w) 997 [(0, .ref b), (1, .ref (ad Γ 63)), (2, .ref (ad Γ 66)), (3, .int (nI i))] []) (hs : sim_buyer Rel) (c : CSt) (w : LSt) (hR : Rel c w) : Y Γ (fun q : Nat => s.heap.size ≤ q) p l e room_1 s m #[Value.ref b] below meth c' 77 2245 (lw_Z below #[Value.ref b] s) 4 (c, w) 317 [(0, .ref b), (1, .ref (ad Γ 63)), (2, .ref (ad Γ 66)), (3, .int (nI i))] [] := by
  have hbA : ¬ (fun q : Nat => s.heap.size ≤ q) b := Nat.not_le.mpr hbl
  obtain ⟨x, y, hx, hy, hxy, hR2⟩ := hs c w hR (xs (i + 1)) (xs (i + 2)) (xs (i + 3)) (xs (i + 4))
  refine y_aload_n hC dL_law_317 1 rfl 318 rfl ?_
  refine y_aload_n hC dL_law_318 0 rfl 319 rfl ?_
  refine y_iload_n hC dL_law_319 3 rfl 320 rfl ?_
  refine y_iconst hC dL_law_320 (v := (1 : Int32)) (by decide) 321 rfl ?_
  refine y_iadd hC dL_law_321 322 rfl ?_
  refine y_topi (nI_add i 1).symm ?_
  refine y_sld hC hX hbl hbA (vp_in_nI (by omega) (by omega)) dL_law_322 323 rfl ?_
  rw [nI_clamp (show i + 1 < 2 ^ 31 by omega)]
  refine y_aload_n hC dL_law_323 0 rfl 324 rfl ?_
  refine y_iload_n hC dL_law_324 3 rfl 325 rfl ?_
  refine y_iconst hC dL_law_325 (v := (2 : Int32)) (by decide) 326 rfl ?_
  refine y_iadd hC dL_law_326 327 rfl ?_
  refine y_topi (nI_add i 2).symm ?_
  refine y_sld hC hX hbl hbA (vp_in_nI (by omega) (by omega)) dL_law_327 328 rfl ?_
  rw [nI_clamp (show i + 2 < 2 ^ 31 by omega)]
  refine y_aload_n hC dL_law_328 0 rfl 329 rfl ?_
  refine y_iload_n hC dL_law_329 3 rfl 330 rfl ?_
  refine y_iconst hC dL_law_330 (v := (3 : Int32)) (by decide) 331 rfl ?_
  refine y_iadd hC dL_law_331 332 rfl ?_
  refine y_topi (nI_add i 3).symm ?_
  refine y_sld hC hX hbl hbA (vp_in_nI (by omega) (by omega)) dL_law_332 333 rfl ?_
  rw [nI_clamp (show i + 3 < 2 ^ 31 by omega)]
  refine y_aload_n hC dL_law_333 0 rfl 334 rfl ?_
  refine y_iload_n hC dL_law_334 3 rfl 335 rfl ?_
  refine y_iconst hC dL_law_335 (v := (4 : Int32)) (by decide) 336 rfl ?_
  refine y_iadd hC dL_law_336 337 rfl ?_
  refine y_topi (nI_add i 4).symm ?_
  refine y_sld hC hX hbl hbA (vp_in_nI (by omega) (by omega)) dL_law_337 338 rfl ?_
  rw [nI_clamp (show i + 4 < 2 ^ 31 by omega)]
  refine y_callV hC 63 (hA 63 (by decide)) (cl_H (u := c.1) rfl) rfl (c_X10_buyer hJ hA l (c, w) c (xs (i + 1)) (xs (i + 2)) (xs (i + 3)) (xs (i + 4)) x hx) rfl ⟨w2_120, w1_1, cwd_X10_buyer, by decide, by decide⟩ w2_117 w2_118 w2_119 rfl rfl (Nat.le_of_ble_eq_true rfl) (by decide) dL_law_338 341 rfl (x.2, w) rfl [.int x.1] rfl ?_
  refine y_aload_n hC dL_law_341 2 rfl 342 rfl ?_
  refine y_aload_n hC dL_law_342 0 rfl 343 rfl ?_
  refine y_iload_n hC dL_law_343 3 rfl 344 rfl ?_
  refine y_iconst hC dL_law_344 (v := (1 : Int32)) (by decide) 345 rfl ?_
  refine y_iadd hC dL_law_345 346 rfl ?_
  refine y_topi (nI_add i 1).symm ?_
  refine y_sld hC hX hbl hbA (vp_in_nI (by omega) (by omega)) dL_law_346 347 rfl ?_
  rw [nI_clamp (show i + 1 < 2 ^ 31 by omega)]
  refine y_aload_n hC dL_law_347 0 rfl 348 rfl ?_
  refine y_iload_n hC dL_law_348 3 rfl 349 rfl ?_
  refine y_iconst hC dL_law_349 (v := (2 : Int32)) (by decide) 350 rfl ?_
  refine y_iadd hC dL_law_350 351 rfl ?_
  refine y_topi (nI_add i 2).symm ?_
  refine y_sld hC hX hbl hbA (vp_in_nI (by omega) (by omega)) dL_law_351 352 rfl ?_
  rw [nI_clamp (show i + 2 < 2 ^ 31 by omega)]
  refine y_aload_n hC dL_law_352 0 rfl 353 rfl ?_
  refine y_iload_n hC dL_law_353 3 rfl 354 rfl ?_
  refine y_iconst hC dL_law_354 (v := (3 : Int32)) (by decide) 355 rfl ?_
  refine y_iadd hC dL_law_355 356 rfl ?_
  refine y_topi (nI_add i 3).symm ?_
  refine y_sld hC hX hbl hbA (vp_in_nI (by omega) (by omega)) dL_law_356 357 rfl ?_
  rw [nI_clamp (show i + 3 < 2 ^ 31 by omega)]
  refine y_aload_n hC dL_law_357 0 rfl 358 rfl ?_
  refine y_iload_n hC dL_law_358 3 rfl 359 rfl ?_
  refine y_iconst hC dL_law_359 (v := (4 : Int32)) (by decide) 360 rfl ?_
  refine y_iadd hC dL_law_360 361 rfl ?_
  refine y_topi (nI_add i 4).symm ?_
  refine y_sld hC hX hbl hbA (vp_in_nI (by omega) (by omega)) dL_law_361 362 rfl ?_
  rw [nI_clamp (show i + 4 < 2 ^ 31 by omega)]
  refine y_callV hC 66 (hB 66 (by decide) (by decide)) (cl_L (u := w) rfl) rfl (c_X11_buyer hJ hB l (x.2, w) w (xs (i + 1)) (xs (i + 2)) (xs (i + 3)) (xs (i + 4)) y hy) rfl ⟨w4_218, w1_13, cwd_X11_buyer, by decide, by decide⟩ w4_215 w4_216 w4_217 rfl rfl (Nat.le_of_ble_eq_true rfl) (by decide) dL_law_362 365 rfl (x.2, y.2) rfl [.int y.1, .int x.1] rfl ?_
  refine y_icmp_eq hC dL_law_365 997 (by decide) 368 rfl (fun _ => K _ _ hR2) (fun h => absurd hxy h)
set_option maxHeartbeats 4000000 in
set_option maxRecDepth 100000 in
theorem lc_type {Γ : GC} {p : Program} {l : Launch} {e : Env} {s : State} {m : MethodId} {below : List Frame} {meth : Method} {c' : Code} {b L : Nat} {xs : Nat → Int32} (hC : CX Γ (fun q : Nat => s.heap.size ≤ q) p s m #[Value.ref b] c' R_law code 4) (hJ : GJ Γ) (hA : ∀ i, i < 66 → act Γ i) (hB : ∀ i, 66 ≤ i → i < 77 → act Γ i) (hX : va_X b L xs s s.heap) (hbl : b < s.heap.size) (hL : L ≤ 2560) {Rel : CSt → LSt → Prop} (i : Nat) (hi : i + 5 ≤ L) (K : ∀ c w, Rel c w → Y Γ (fun q : Nat => s.heap.size ≤ q) p l e room_1 s m #[Value.ref b] below meth c' 77 2245 (lw_Z below #[Value.ref b] s) 4 (c, w) 997 [(0, .ref b), (1, .ref (ad Γ 63)), (2, .ref (ad Γ 66)), (3, .int (nI i))] []) (hs : sim_type Rel) (c : CSt) (w : LSt) (hR : Rel c w) : Y Γ (fun q : Nat => s.heap.size ≤ q) p l e room_1 s m #[Value.ref b] below meth c' 77 2245 (lw_Z below #[Value.ref b] s) 4 (c, w) 370 [(0, .ref b), (1, .ref (ad Γ 63)), (2, .ref (ad Γ 66)), (3, .int (nI i))] [] := by
  have hbA : ¬ (fun q : Nat => s.heap.size ≤ q) b := Nat.not_le.mpr hbl
  obtain ⟨x, y, hx, hy, hxy, hR2⟩ := hs c w hR (xs (i + 1))
  refine y_aload_n hC dL_law_370 1 rfl 371 rfl ?_
  refine y_aload_n hC dL_law_371 0 rfl 372 rfl ?_
  refine y_iload_n hC dL_law_372 3 rfl 373 rfl ?_
  refine y_iconst hC dL_law_373 (v := (1 : Int32)) (by decide) 374 rfl ?_
  refine y_iadd hC dL_law_374 375 rfl ?_
  refine y_topi (nI_add i 1).symm ?_
  refine y_sld hC hX hbl hbA (vp_in_nI (by omega) (by omega)) dL_law_375 376 rfl ?_
  rw [nI_clamp (show i + 1 < 2 ^ 31 by omega)]
  refine y_callV hC 63 (hA 63 (by decide)) (cl_H (u := c.1) rfl) rfl (c_X10_type hJ hA l (c, w) c (xs (i + 1)) x hx) rfl ⟨w2_128, w1_1, cwd_X10_type, by decide, by decide⟩ w2_125 w2_126 w2_127 rfl rfl (Nat.le_of_ble_eq_true rfl) (by decide) dL_law_376 379 rfl (x.2, w) rfl [.int x.1] rfl ?_
  refine y_aload_n hC dL_law_379 2 rfl 380 rfl ?_
  refine y_aload_n hC dL_law_380 0 rfl 381 rfl ?_
  refine y_iload_n hC dL_law_381 3 rfl 382 rfl ?_
  refine y_iconst hC dL_law_382 (v := (1 : Int32)) (by decide) 383 rfl ?_
  refine y_iadd hC dL_law_383 384 rfl ?_
  refine y_topi (nI_add i 1).symm ?_
  refine y_sld hC hX hbl hbA (vp_in_nI (by omega) (by omega)) dL_law_384 385 rfl ?_
  rw [nI_clamp (show i + 1 < 2 ^ 31 by omega)]
  refine y_callV hC 66 (hB 66 (by decide) (by decide)) (cl_L (u := w) rfl) rfl (c_X11_type hJ hB l (x.2, w) w (xs (i + 1)) y hy) rfl ⟨w4_232, w1_13, cwd_X11_type, by decide, by decide⟩ w4_229 w4_230 w4_231 rfl rfl (Nat.le_of_ble_eq_true rfl) (by decide) dL_law_385 388 rfl (x.2, y.2) rfl [.int y.1, .int x.1] rfl ?_
  refine y_icmp_eq hC dL_law_388 997 (by decide) 391 rfl (fun _ => K _ _ hR2) (fun h => absurd hxy h)
set_option maxHeartbeats 4000000 in
set_option maxRecDepth 100000 in
theorem lc_clear {Γ : GC} {p : Program} {l : Launch} {e : Env} {s : State} {m : MethodId} {below : List Frame} {meth : Method} {c' : Code} {b L : Nat} {xs : Nat → Int32} (hC : CX Γ (fun q : Nat => s.heap.size ≤ q) p s m #[Value.ref b] c' R_law code 4) (hJ : GJ Γ) (hA : ∀ i, i < 66 → act Γ i) (hB : ∀ i, 66 ≤ i → i < 77 → act Γ i) (hX : va_X b L xs s s.heap) (hbl : b < s.heap.size) (hL : L ≤ 2560) {Rel : CSt → LSt → Prop} (i : Nat) (hi : i + 5 ≤ L) (K : ∀ c w, Rel c w → Y Γ (fun q : Nat => s.heap.size ≤ q) p l e room_1 s m #[Value.ref b] below meth c' 77 2245 (lw_Z below #[Value.ref b] s) 4 (c, w) 997 [(0, .ref b), (1, .ref (ad Γ 63)), (2, .ref (ad Γ 66)), (3, .int (nI i))] []) (hs : sim_clear Rel) (c : CSt) (w : LSt) (hR : Rel c w) : Y Γ (fun q : Nat => s.heap.size ≤ q) p l e room_1 s m #[Value.ref b] below meth c' 77 2245 (lw_Z below #[Value.ref b] s) 4 (c, w) 393 [(0, .ref b), (1, .ref (ad Γ 63)), (2, .ref (ad Γ 66)), (3, .int (nI i))] [] := by
  have hbA : ¬ (fun q : Nat => s.heap.size ≤ q) b := Nat.not_le.mpr hbl
  obtain ⟨x, y, hx, hy, hxy, hR2⟩ := hs c w hR
  refine y_aload_n hC dL_law_393 1 rfl 394 rfl ?_
  refine y_callV hC 63 (hA 63 (by decide)) (cl_H (u := c.1) rfl) rfl (c_X10_clear hJ hA l (c, w) c x hx) rfl ⟨w2_136, w1_1, cwd_X10_clear, by decide, by decide⟩ w2_133 w2_134 w2_135 rfl rfl (Nat.le_of_ble_eq_true rfl) (by decide) dL_law_394 397 rfl (x.2, w) rfl [.int x.1] rfl ?_
  refine y_aload_n hC dL_law_397 2 rfl 398 rfl ?_
  refine y_callV hC 66 (hB 66 (by decide) (by decide)) (cl_L (u := w) rfl) rfl (c_X11_clear hJ hB l (x.2, w) w y hy) rfl ⟨w4_237, w1_13, cwd_X11_clear, by decide, by decide⟩ w4_234 w4_235 w4_236 rfl rfl (Nat.le_of_ble_eq_true rfl) (by decide) dL_law_398 401 rfl (x.2, y.2) rfl [.int y.1, .int x.1] rfl ?_
  refine y_icmp_eq hC dL_law_401 997 (by decide) 404 rfl (fun _ => K _ _ hR2) (fun h => absurd hxy h)
set_option maxHeartbeats 4000000 in
set_option maxRecDepth 100000 in
theorem lc_read {Γ : GC} {p : Program} {l : Launch} {e : Env} {s : State} {m : MethodId} {below : List Frame} {meth : Method} {c' : Code} {b L : Nat} {xs : Nat → Int32} (hC : CX Γ (fun q : Nat => s.heap.size ≤ q) p s m #[Value.ref b] c' R_law code 4) (hJ : GJ Γ) (hA : ∀ i, i < 66 → act Γ i) (hB : ∀ i, 66 ≤ i → i < 77 → act Γ i) (hX : va_X b L xs s s.heap) (hbl : b < s.heap.size) (hL : L ≤ 2560) {Rel : CSt → LSt → Prop} (i : Nat) (hi : i + 5 ≤ L) (K : ∀ c w, Rel c w → Y Γ (fun q : Nat => s.heap.size ≤ q) p l e room_1 s m #[Value.ref b] below meth c' 77 2245 (lw_Z below #[Value.ref b] s) 4 (c, w) 997 [(0, .ref b), (1, .ref (ad Γ 63)), (2, .ref (ad Γ 66)), (3, .int (nI i))] []) (hs : sim_read Rel) (c : CSt) (w : LSt) (hR : Rel c w) : Y Γ (fun q : Nat => s.heap.size ≤ q) p l e room_1 s m #[Value.ref b] below meth c' 77 2245 (lw_Z below #[Value.ref b] s) 4 (c, w) 406 [(0, .ref b), (1, .ref (ad Γ 63)), (2, .ref (ad Γ 66)), (3, .int (nI i))] [] := by
  have hbA : ¬ (fun q : Nat => s.heap.size ≤ q) b := Nat.not_le.mpr hbl
  obtain ⟨x, y, hx, hy, hxy, hR2⟩ := hs c w hR
  refine y_aload_n hC dL_law_406 1 rfl 407 rfl ?_
  refine y_callV hC 63 (hA 63 (by decide)) (cl_H (u := c.1) rfl) rfl (c_X10_read hJ hA l (c, w) c x hx) rfl ⟨w2_140, w1_1, cwd_X10_read, by decide, by decide⟩ w2_137 w2_138 w2_139 rfl rfl (Nat.le_of_ble_eq_true rfl) (by decide) dL_law_407 410 rfl (x.2, w) rfl [.int x.1] rfl ?_
  refine y_aload_n hC dL_law_410 2 rfl 411 rfl ?_
  refine y_callV hC 66 (hB 66 (by decide) (by decide)) (cl_L (u := w) rfl) rfl (c_X11_read hJ hB l (x.2, w) w y hy) rfl ⟨w5_1, w1_13, cwd_X11_read, by decide, by decide⟩ w4_238 w4_239 w5_0 rfl rfl (Nat.le_of_ble_eq_true rfl) (by decide) dL_law_411 414 rfl (x.2, y.2) rfl [.int y.1, .int x.1] rfl ?_
  refine y_icmp_eq hC dL_law_414 997 (by decide) 417 rfl (fun _ => K _ _ hR2) (fun h => absurd hxy h)
set_option maxHeartbeats 4000000 in
set_option maxRecDepth 100000 in
theorem lc_day {Γ : GC} {p : Program} {l : Launch} {e : Env} {s : State} {m : MethodId} {below : List Frame} {meth : Method} {c' : Code} {b L : Nat} {xs : Nat → Int32} (hC : CX Γ (fun q : Nat => s.heap.size ≤ q) p s m #[Value.ref b] c' R_law code 4) (hJ : GJ Γ) (hA : ∀ i, i < 66 → act Γ i) (hB : ∀ i, 66 ≤ i → i < 77 → act Γ i) (hX : va_X b L xs s s.heap) (hbl : b < s.heap.size) (hL : L ≤ 2560) {Rel : CSt → LSt → Prop} (i : Nat) (hi : i + 5 ≤ L) (K : ∀ c w, Rel c w → Y Γ (fun q : Nat => s.heap.size ≤ q) p l e room_1 s m #[Value.ref b] below meth c' 77 2245 (lw_Z below #[Value.ref b] s) 4 (c, w) 997 [(0, .ref b), (1, .ref (ad Γ 63)), (2, .ref (ad Γ 66)), (3, .int (nI i))] []) (hs : sim_day Rel) (c : CSt) (w : LSt) (hR : Rel c w) : Y Γ (fun q : Nat => s.heap.size ≤ q) p l e room_1 s m #[Value.ref b] below meth c' 77 2245 (lw_Z below #[Value.ref b] s) 4 (c, w) 419 [(0, .ref b), (1, .ref (ad Γ 63)), (2, .ref (ad Γ 66)), (3, .int (nI i))] [] := by
  have hbA : ¬ (fun q : Nat => s.heap.size ≤ q) b := Nat.not_le.mpr hbl
  obtain ⟨x, y, hx, hy, hxy, hR2⟩ := hs c w hR
  refine y_aload_n hC dL_law_419 1 rfl 420 rfl ?_
  refine y_callV hC 63 (hA 63 (by decide)) (cl_H (u := c.1) rfl) rfl (c_X10_day hJ hA l (c, w) c x hx) rfl ⟨w3_24, w1_1, cwd_X10_day, by decide, by decide⟩ w3_21 w3_22 w3_23 rfl rfl (Nat.le_of_ble_eq_true rfl) (by decide) dL_law_420 423 rfl (x.2, w) rfl [.int x.1] rfl ?_
  refine y_aload_n hC dL_law_423 2 rfl 424 rfl ?_
  refine y_callV hC 66 (hB 66 (by decide) (by decide)) (cl_L (u := w) rfl) rfl (c_X11_day hJ hB l (x.2, w) w y hy) rfl ⟨w5_49, w1_13, cwd_X11_day, by decide, by decide⟩ w5_46 w5_47 w5_48 rfl rfl (Nat.le_of_ble_eq_true rfl) (by decide) dL_law_424 427 rfl (x.2, y.2) rfl [.int y.1, .int x.1] rfl ?_
  refine y_icmp_eq hC dL_law_427 997 (by decide) 430 rfl (fun _ => K _ _ hR2) (fun h => absurd hxy h)
set_option maxHeartbeats 4000000 in
set_option maxRecDepth 100000 in
theorem lc_undo {Γ : GC} {p : Program} {l : Launch} {e : Env} {s : State} {m : MethodId} {below : List Frame} {meth : Method} {c' : Code} {b L : Nat} {xs : Nat → Int32} (hC : CX Γ (fun q : Nat => s.heap.size ≤ q) p s m #[Value.ref b] c' R_law code 4) (hJ : GJ Γ) (hA : ∀ i, i < 66 → act Γ i) (hB : ∀ i, 66 ≤ i → i < 77 → act Γ i) (hX : va_X b L xs s s.heap) (hbl : b < s.heap.size) (hL : L ≤ 2560) {Rel : CSt → LSt → Prop} (i : Nat) (hi : i + 5 ≤ L) (K : ∀ c w, Rel c w → Y Γ (fun q : Nat => s.heap.size ≤ q) p l e room_1 s m #[Value.ref b] below meth c' 77 2245 (lw_Z below #[Value.ref b] s) 4 (c, w) 997 [(0, .ref b), (1, .ref (ad Γ 63)), (2, .ref (ad Γ 66)), (3, .int (nI i))] []) (hs : sim_undo Rel) (c : CSt) (w : LSt) (hR : Rel c w) : Y Γ (fun q : Nat => s.heap.size ≤ q) p l e room_1 s m #[Value.ref b] below meth c' 77 2245 (lw_Z below #[Value.ref b] s) 4 (c, w) 432 [(0, .ref b), (1, .ref (ad Γ 63)), (2, .ref (ad Γ 66)), (3, .int (nI i))] [] := by
  have hbA : ¬ (fun q : Nat => s.heap.size ≤ q) b := Nat.not_le.mpr hbl
  obtain ⟨x, y, hx, hy, hxy, hR2⟩ := hs c w hR
  refine y_aload_n hC dL_law_432 1 rfl 433 rfl ?_
  refine y_callV hC 63 (hA 63 (by decide)) (cl_H (u := c.1) rfl) rfl (c_X10_undo hJ hA l (c, w) c x hx) rfl ⟨w3_168, w1_1, cwd_X10_undo, by decide, by decide⟩ w3_165 w3_166 w3_167 rfl rfl (Nat.le_of_ble_eq_true rfl) (by decide) dL_law_433 436 rfl (x.2, w) rfl [.int x.1] rfl ?_
  refine y_aload_n hC dL_law_436 2 rfl 437 rfl ?_
  refine y_callV hC 66 (hB 66 (by decide) (by decide)) (cl_L (u := w) rfl) rfl (c_X11_undo hJ hB l (x.2, w) w y hy) rfl ⟨w5_100, w1_13, cwd_X11_undo, by decide, by decide⟩ w5_97 w5_98 w5_99 rfl rfl (Nat.le_of_ble_eq_true rfl) (by decide) dL_law_437 440 rfl (x.2, y.2) rfl [.int y.1, .int x.1] rfl ?_
  refine y_icmp_eq hC dL_law_440 997 (by decide) 443 rfl (fun _ => K _ _ hR2) (fun h => absurd hxy h)
set_option maxHeartbeats 4000000 in
set_option maxRecDepth 100000 in
theorem lc_of {Γ : GC} {p : Program} {l : Launch} {e : Env} {s : State} {m : MethodId} {below : List Frame} {meth : Method} {c' : Code} {b L : Nat} {xs : Nat → Int32} (hC : CX Γ (fun q : Nat => s.heap.size ≤ q) p s m #[Value.ref b] c' R_law code 4) (hJ : GJ Γ) (hA : ∀ i, i < 66 → act Γ i) (hB : ∀ i, 66 ≤ i → i < 77 → act Γ i) (hX : va_X b L xs s s.heap) (hbl : b < s.heap.size) (hL : L ≤ 2560) {Rel : CSt → LSt → Prop} (i : Nat) (hi : i + 5 ≤ L) (K : ∀ c w, Rel c w → Y Γ (fun q : Nat => s.heap.size ≤ q) p l e room_1 s m #[Value.ref b] below meth c' 77 2245 (lw_Z below #[Value.ref b] s) 4 (c, w) 997 [(0, .ref b), (1, .ref (ad Γ 63)), (2, .ref (ad Γ 66)), (3, .int (nI i))] []) (hs : sim_of Rel) (c : CSt) (w : LSt) (hR : Rel c w) : Y Γ (fun q : Nat => s.heap.size ≤ q) p l e room_1 s m #[Value.ref b] below meth c' 77 2245 (lw_Z below #[Value.ref b] s) 4 (c, w) 445 [(0, .ref b), (1, .ref (ad Γ 63)), (2, .ref (ad Γ 66)), (3, .int (nI i))] [] := by
  have hbA : ¬ (fun q : Nat => s.heap.size ≤ q) b := Nat.not_le.mpr hbl
  obtain ⟨x, y, hx, hy, hxy, hR2⟩ := hs c w hR (xs (i + 1)) (xs (i + 2))
  refine y_aload_n hC dL_law_445 1 rfl 446 rfl ?_
  refine y_aload_n hC dL_law_446 0 rfl 447 rfl ?_
  refine y_iload_n hC dL_law_447 3 rfl 448 rfl ?_
  refine y_iconst hC dL_law_448 (v := (1 : Int32)) (by decide) 449 rfl ?_
  refine y_iadd hC dL_law_449 450 rfl ?_
  refine y_topi (nI_add i 1).symm ?_
  refine y_sld hC hX hbl hbA (vp_in_nI (by omega) (by omega)) dL_law_450 451 rfl ?_
  rw [nI_clamp (show i + 1 < 2 ^ 31 by omega)]
  refine y_aload_n hC dL_law_451 0 rfl 452 rfl ?_
  refine y_iload_n hC dL_law_452 3 rfl 453 rfl ?_
  refine y_iconst hC dL_law_453 (v := (2 : Int32)) (by decide) 454 rfl ?_
  refine y_iadd hC dL_law_454 455 rfl ?_
  refine y_topi (nI_add i 2).symm ?_
  refine y_sld hC hX hbl hbA (vp_in_nI (by omega) (by omega)) dL_law_455 456 rfl ?_
  rw [nI_clamp (show i + 2 < 2 ^ 31 by omega)]
  refine y_callV hC 63 (hA 63 (by decide)) (cl_H (u := c.1) rfl) rfl (c_X10_of hJ hA l (c, w) c (xs (i + 1)) (xs (i + 2)) x hx) rfl ⟨w3_176, w1_1, cwd_X10_of, by decide, by decide⟩ w3_173 w3_174 w3_175 rfl rfl (Nat.le_of_ble_eq_true rfl) (by decide) dL_law_456 459 rfl (x.2, w) rfl [.int x.1] rfl ?_
  refine y_aload_n hC dL_law_459 2 rfl 460 rfl ?_
  refine y_aload_n hC dL_law_460 0 rfl 461 rfl ?_
  refine y_iload_n hC dL_law_461 3 rfl 462 rfl ?_
  refine y_iconst hC dL_law_462 (v := (1 : Int32)) (by decide) 463 rfl ?_
  refine y_iadd hC dL_law_463 464 rfl ?_
  refine y_topi (nI_add i 1).symm ?_
  refine y_sld hC hX hbl hbA (vp_in_nI (by omega) (by omega)) dL_law_464 465 rfl ?_
  rw [nI_clamp (show i + 1 < 2 ^ 31 by omega)]
  refine y_aload_n hC dL_law_465 0 rfl 466 rfl ?_
  refine y_iload_n hC dL_law_466 3 rfl 467 rfl ?_
  refine y_iconst hC dL_law_467 (v := (2 : Int32)) (by decide) 468 rfl ?_
  refine y_iadd hC dL_law_468 469 rfl ?_
  refine y_topi (nI_add i 2).symm ?_
  refine y_sld hC hX hbl hbA (vp_in_nI (by omega) (by omega)) dL_law_469 470 rfl ?_
  rw [nI_clamp (show i + 2 < 2 ^ 31 by omega)]
  refine y_callV hC 66 (hB 66 (by decide) (by decide)) (cl_L (u := w) rfl) rfl (c_X11_of hJ hB l (x.2, w) w (xs (i + 1)) (xs (i + 2)) y hy) rfl ⟨w5_108, w1_13, cwd_X11_of, by decide, by decide⟩ w5_105 w5_106 w5_107 rfl rfl (Nat.le_of_ble_eq_true rfl) (by decide) dL_law_470 473 rfl (x.2, y.2) rfl [.int y.1, .int x.1] rfl ?_
  refine y_icmp_eq hC dL_law_473 997 (by decide) 476 rfl (fun _ => K _ _ hR2) (fun h => absurd hxy h)
set_option maxHeartbeats 4000000 in
set_option maxRecDepth 100000 in
theorem lc_about {Γ : GC} {p : Program} {l : Launch} {e : Env} {s : State} {m : MethodId} {below : List Frame} {meth : Method} {c' : Code} {b L : Nat} {xs : Nat → Int32} (hC : CX Γ (fun q : Nat => s.heap.size ≤ q) p s m #[Value.ref b] c' R_law code 4) (hJ : GJ Γ) (hA : ∀ i, i < 66 → act Γ i) (hB : ∀ i, 66 ≤ i → i < 77 → act Γ i) (hX : va_X b L xs s s.heap) (hbl : b < s.heap.size) (hL : L ≤ 2560) {Rel : CSt → LSt → Prop} (i : Nat) (hi : i + 5 ≤ L) (K : ∀ c w, Rel c w → Y Γ (fun q : Nat => s.heap.size ≤ q) p l e room_1 s m #[Value.ref b] below meth c' 77 2245 (lw_Z below #[Value.ref b] s) 4 (c, w) 997 [(0, .ref b), (1, .ref (ad Γ 63)), (2, .ref (ad Γ 66)), (3, .int (nI i))] []) (hs : sim_about Rel) (c : CSt) (w : LSt) (hR : Rel c w) : Y Γ (fun q : Nat => s.heap.size ≤ q) p l e room_1 s m #[Value.ref b] below meth c' 77 2245 (lw_Z below #[Value.ref b] s) 4 (c, w) 478 [(0, .ref b), (1, .ref (ad Γ 63)), (2, .ref (ad Γ 66)), (3, .int (nI i))] [] := by
  have hbA : ¬ (fun q : Nat => s.heap.size ≤ q) b := Nat.not_le.mpr hbl
  obtain ⟨x, y, hx, hy, hxy, hR2⟩ := hs c w hR (xs (i + 1)) (xs (i + 2))
  refine y_aload_n hC dL_law_478 1 rfl 479 rfl ?_
  refine y_aload_n hC dL_law_479 0 rfl 480 rfl ?_
  refine y_iload_n hC dL_law_480 3 rfl 481 rfl ?_
  refine y_iconst hC dL_law_481 (v := (1 : Int32)) (by decide) 482 rfl ?_
  refine y_iadd hC dL_law_482 483 rfl ?_
  refine y_topi (nI_add i 1).symm ?_
  refine y_sld hC hX hbl hbA (vp_in_nI (by omega) (by omega)) dL_law_483 484 rfl ?_
  rw [nI_clamp (show i + 1 < 2 ^ 31 by omega)]
  refine y_aload_n hC dL_law_484 0 rfl 485 rfl ?_
  refine y_iload_n hC dL_law_485 3 rfl 486 rfl ?_
  refine y_iconst hC dL_law_486 (v := (2 : Int32)) (by decide) 487 rfl ?_
  refine y_iadd hC dL_law_487 488 rfl ?_
  refine y_topi (nI_add i 2).symm ?_
  refine y_sld hC hX hbl hbA (vp_in_nI (by omega) (by omega)) dL_law_488 489 rfl ?_
  rw [nI_clamp (show i + 2 < 2 ^ 31 by omega)]
  refine y_callV hC 63 (hA 63 (by decide)) (cl_H (u := c.1) rfl) rfl (c_X10_about hJ hA l (c, w) c (xs (i + 1)) (xs (i + 2)) x hx) rfl ⟨w3_185, w1_1, cwd_X10_about, by decide, by decide⟩ w3_182 w3_183 w3_184 rfl rfl (Nat.le_of_ble_eq_true rfl) (by decide) dL_law_489 492 rfl (x.2, w) rfl [.int x.1] rfl ?_
  refine y_aload_n hC dL_law_492 2 rfl 493 rfl ?_
  refine y_aload_n hC dL_law_493 0 rfl 494 rfl ?_
  refine y_iload_n hC dL_law_494 3 rfl 495 rfl ?_
  refine y_iconst hC dL_law_495 (v := (1 : Int32)) (by decide) 496 rfl ?_
  refine y_iadd hC dL_law_496 497 rfl ?_
  refine y_topi (nI_add i 1).symm ?_
  refine y_sld hC hX hbl hbA (vp_in_nI (by omega) (by omega)) dL_law_497 498 rfl ?_
  rw [nI_clamp (show i + 1 < 2 ^ 31 by omega)]
  refine y_aload_n hC dL_law_498 0 rfl 499 rfl ?_
  refine y_iload_n hC dL_law_499 3 rfl 500 rfl ?_
  refine y_iconst hC dL_law_500 (v := (2 : Int32)) (by decide) 501 rfl ?_
  refine y_iadd hC dL_law_501 502 rfl ?_
  refine y_topi (nI_add i 2).symm ?_
  refine y_sld hC hX hbl hbA (vp_in_nI (by omega) (by omega)) dL_law_502 503 rfl ?_
  rw [nI_clamp (show i + 2 < 2 ^ 31 by omega)]
  refine y_callV hC 66 (hB 66 (by decide) (by decide)) (cl_L (u := w) rfl) rfl (c_X11_about hJ hB l (x.2, w) w (xs (i + 1)) (xs (i + 2)) y hy) rfl ⟨w5_112, w1_13, cwd_X11_about, by decide, by decide⟩ w5_109 w5_110 w5_111 rfl rfl (Nat.le_of_ble_eq_true rfl) (by decide) dL_law_503 506 rfl (x.2, y.2) rfl [.int y.1, .int x.1] rfl ?_
  refine y_icmp_eq hC dL_law_506 997 (by decide) 509 rfl (fun _ => K _ _ hR2) (fun h => absurd hxy h)
set_option maxHeartbeats 4000000 in
set_option maxRecDepth 100000 in
theorem lc_takes {Γ : GC} {p : Program} {l : Launch} {e : Env} {s : State} {m : MethodId} {below : List Frame} {meth : Method} {c' : Code} {b L : Nat} {xs : Nat → Int32} (hC : CX Γ (fun q : Nat => s.heap.size ≤ q) p s m #[Value.ref b] c' R_law code 4) (hJ : GJ Γ) (hA : ∀ i, i < 66 → act Γ i) (hB : ∀ i, 66 ≤ i → i < 77 → act Γ i) (hX : va_X b L xs s s.heap) (hbl : b < s.heap.size) (hL : L ≤ 2560) {Rel : CSt → LSt → Prop} (i : Nat) (hi : i + 5 ≤ L) (K : ∀ c w, Rel c w → Y Γ (fun q : Nat => s.heap.size ≤ q) p l e room_1 s m #[Value.ref b] below meth c' 77 2245 (lw_Z below #[Value.ref b] s) 4 (c, w) 997 [(0, .ref b), (1, .ref (ad Γ 63)), (2, .ref (ad Γ 66)), (3, .int (nI i))] []) (hs : sim_takes Rel) (c : CSt) (w : LSt) (hR : Rel c w) : Y Γ (fun q : Nat => s.heap.size ≤ q) p l e room_1 s m #[Value.ref b] below meth c' 77 2245 (lw_Z below #[Value.ref b] s) 4 (c, w) 511 [(0, .ref b), (1, .ref (ad Γ 63)), (2, .ref (ad Γ 66)), (3, .int (nI i))] [] := by
  have hbA : ¬ (fun q : Nat => s.heap.size ≤ q) b := Nat.not_le.mpr hbl
  obtain ⟨x, y, hx, hy, hxy, hR2⟩ := hs c w hR (xs (i + 1))
  refine y_aload_n hC dL_law_511 1 rfl 512 rfl ?_
  refine y_aload_n hC dL_law_512 0 rfl 513 rfl ?_
  refine y_iload_n hC dL_law_513 3 rfl 514 rfl ?_
  refine y_iconst hC dL_law_514 (v := (1 : Int32)) (by decide) 515 rfl ?_
  refine y_iadd hC dL_law_515 516 rfl ?_
  refine y_topi (nI_add i 1).symm ?_
  refine y_sld hC hX hbl hbA (vp_in_nI (by omega) (by omega)) dL_law_516 517 rfl ?_
  rw [nI_clamp (show i + 1 < 2 ^ 31 by omega)]
  refine y_callV hC 63 (hA 63 (by decide)) (cl_H (u := c.1) rfl) rfl (c_X10_takes hJ hA l (c, w) c (xs (i + 1)) x hx) rfl ⟨w3_194, w1_1, cwd_X10_takes, by decide, by decide⟩ w3_191 w3_192 w3_193 rfl rfl (Nat.le_of_ble_eq_true rfl) (by decide) dL_law_517 520 rfl (x.2, w) rfl [.int x.1] rfl ?_
  refine y_aload_n hC dL_law_520 2 rfl 521 rfl ?_
  refine y_aload_n hC dL_law_521 0 rfl 522 rfl ?_
  refine y_iload_n hC dL_law_522 3 rfl 523 rfl ?_
  refine y_iconst hC dL_law_523 (v := (1 : Int32)) (by decide) 524 rfl ?_
  refine y_iadd hC dL_law_524 525 rfl ?_
  refine y_topi (nI_add i 1).symm ?_
  refine y_sld hC hX hbl hbA (vp_in_nI (by omega) (by omega)) dL_law_525 526 rfl ?_
  rw [nI_clamp (show i + 1 < 2 ^ 31 by omega)]
  refine y_callV hC 66 (hB 66 (by decide) (by decide)) (cl_L (u := w) rfl) rfl (c_X11_takes hJ hB l (x.2, w) w (xs (i + 1)) y hy) rfl ⟨w5_121, w1_13, cwd_X11_takes, by decide, by decide⟩ w5_118 w5_119 w5_120 rfl rfl (Nat.le_of_ble_eq_true rfl) (by decide) dL_law_526 529 rfl (x.2, y.2) rfl [.int y.1, .int x.1] rfl ?_
  refine y_icmp_eq hC dL_law_529 997 (by decide) 532 rfl (fun _ => K _ _ hR2) (fun h => absurd hxy h)
set_option maxHeartbeats 4000000 in
set_option maxRecDepth 100000 in
theorem lc_to {Γ : GC} {p : Program} {l : Launch} {e : Env} {s : State} {m : MethodId} {below : List Frame} {meth : Method} {c' : Code} {b L : Nat} {xs : Nat → Int32} (hC : CX Γ (fun q : Nat => s.heap.size ≤ q) p s m #[Value.ref b] c' R_law code 4) (hJ : GJ Γ) (hA : ∀ i, i < 66 → act Γ i) (hB : ∀ i, 66 ≤ i → i < 77 → act Γ i) (hX : va_X b L xs s s.heap) (hbl : b < s.heap.size) (hL : L ≤ 2560) {Rel : CSt → LSt → Prop} (i : Nat) (hi : i + 5 ≤ L) (K : ∀ c w, Rel c w → Y Γ (fun q : Nat => s.heap.size ≤ q) p l e room_1 s m #[Value.ref b] below meth c' 77 2245 (lw_Z below #[Value.ref b] s) 4 (c, w) 997 [(0, .ref b), (1, .ref (ad Γ 63)), (2, .ref (ad Γ 66)), (3, .int (nI i))] []) (hs : sim_to Rel) (c : CSt) (w : LSt) (hR : Rel c w) : Y Γ (fun q : Nat => s.heap.size ≤ q) p l e room_1 s m #[Value.ref b] below meth c' 77 2245 (lw_Z below #[Value.ref b] s) 4 (c, w) 534 [(0, .ref b), (1, .ref (ad Γ 63)), (2, .ref (ad Γ 66)), (3, .int (nI i))] [] := by
  have hbA : ¬ (fun q : Nat => s.heap.size ≤ q) b := Nat.not_le.mpr hbl
  obtain ⟨x, y, hx, hy, hxy, hR2⟩ := hs c w hR (xs (i + 1)) (xs (i + 2))
  refine y_aload_n hC dL_law_534 1 rfl 535 rfl ?_
  refine y_aload_n hC dL_law_535 0 rfl 536 rfl ?_
  refine y_iload_n hC dL_law_536 3 rfl 537 rfl ?_
  refine y_iconst hC dL_law_537 (v := (1 : Int32)) (by decide) 538 rfl ?_
  refine y_iadd hC dL_law_538 539 rfl ?_
  refine y_topi (nI_add i 1).symm ?_
  refine y_sld hC hX hbl hbA (vp_in_nI (by omega) (by omega)) dL_law_539 540 rfl ?_
  rw [nI_clamp (show i + 1 < 2 ^ 31 by omega)]
  refine y_aload_n hC dL_law_540 0 rfl 541 rfl ?_
  refine y_iload_n hC dL_law_541 3 rfl 542 rfl ?_
  refine y_iconst hC dL_law_542 (v := (2 : Int32)) (by decide) 543 rfl ?_
  refine y_iadd hC dL_law_543 544 rfl ?_
  refine y_topi (nI_add i 2).symm ?_
  refine y_sld hC hX hbl hbA (vp_in_nI (by omega) (by omega)) dL_law_544 545 rfl ?_
  rw [nI_clamp (show i + 2 < 2 ^ 31 by omega)]
  refine y_callV hC 63 (hA 63 (by decide)) (cl_H (u := c.1) rfl) rfl (c_X10_to hJ hA l (c, w) c (xs (i + 1)) (xs (i + 2)) x hx) rfl ⟨w3_198, w1_1, cwd_X10_to, by decide, by decide⟩ w3_195 w3_196 w3_197 rfl rfl (Nat.le_of_ble_eq_true rfl) (by decide) dL_law_545 548 rfl (x.2, w) rfl [.int x.1] rfl ?_
  refine y_aload_n hC dL_law_548 2 rfl 549 rfl ?_
  refine y_aload_n hC dL_law_549 0 rfl 550 rfl ?_
  refine y_iload_n hC dL_law_550 3 rfl 551 rfl ?_
  refine y_iconst hC dL_law_551 (v := (1 : Int32)) (by decide) 552 rfl ?_
  refine y_iadd hC dL_law_552 553 rfl ?_
  refine y_topi (nI_add i 1).symm ?_
  refine y_sld hC hX hbl hbA (vp_in_nI (by omega) (by omega)) dL_law_553 554 rfl ?_
  rw [nI_clamp (show i + 1 < 2 ^ 31 by omega)]
  refine y_aload_n hC dL_law_554 0 rfl 555 rfl ?_
  refine y_iload_n hC dL_law_555 3 rfl 556 rfl ?_
  refine y_iconst hC dL_law_556 (v := (2 : Int32)) (by decide) 557 rfl ?_
  refine y_iadd hC dL_law_557 558 rfl ?_
  refine y_topi (nI_add i 2).symm ?_
  refine y_sld hC hX hbl hbA (vp_in_nI (by omega) (by omega)) dL_law_558 559 rfl ?_
  rw [nI_clamp (show i + 2 < 2 ^ 31 by omega)]
  refine y_callV hC 66 (hB 66 (by decide) (by decide)) (cl_L (u := w) rfl) rfl (c_X11_to hJ hB l (x.2, w) w (xs (i + 1)) (xs (i + 2)) y hy) rfl ⟨w5_125, w1_13, cwd_X11_to, by decide, by decide⟩ w5_122 w5_123 w5_124 rfl rfl (Nat.le_of_ble_eq_true rfl) (by decide) dL_law_559 562 rfl (x.2, y.2) rfl [.int y.1, .int x.1] rfl ?_
  refine y_icmp_eq hC dL_law_562 997 (by decide) 565 rfl (fun _ => K _ _ hR2) (fun h => absurd hxy h)
set_option maxHeartbeats 4000000 in
set_option maxRecDepth 100000 in
theorem lc_best {Γ : GC} {p : Program} {l : Launch} {e : Env} {s : State} {m : MethodId} {below : List Frame} {meth : Method} {c' : Code} {b L : Nat} {xs : Nat → Int32} (hC : CX Γ (fun q : Nat => s.heap.size ≤ q) p s m #[Value.ref b] c' R_law code 4) (hJ : GJ Γ) (hA : ∀ i, i < 66 → act Γ i) (hB : ∀ i, 66 ≤ i → i < 77 → act Γ i) (hX : va_X b L xs s s.heap) (hbl : b < s.heap.size) (hL : L ≤ 2560) {Rel : CSt → LSt → Prop} (i : Nat) (hi : i + 5 ≤ L) (K : ∀ c w, Rel c w → Y Γ (fun q : Nat => s.heap.size ≤ q) p l e room_1 s m #[Value.ref b] below meth c' 77 2245 (lw_Z below #[Value.ref b] s) 4 (c, w) 997 [(0, .ref b), (1, .ref (ad Γ 63)), (2, .ref (ad Γ 66)), (3, .int (nI i))] []) (hs : sim_best Rel) (c : CSt) (w : LSt) (hR : Rel c w) : Y Γ (fun q : Nat => s.heap.size ≤ q) p l e room_1 s m #[Value.ref b] below meth c' 77 2245 (lw_Z below #[Value.ref b] s) 4 (c, w) 567 [(0, .ref b), (1, .ref (ad Γ 63)), (2, .ref (ad Γ 66)), (3, .int (nI i))] [] := by
  have hbA : ¬ (fun q : Nat => s.heap.size ≤ q) b := Nat.not_le.mpr hbl
  obtain ⟨x, y, hx, hy, hxy, hR2⟩ := hs c w hR (xs (i + 1)) (xs (i + 2)) (xs (i + 3)) (xs (i + 4))
  refine y_aload_n hC dL_law_567 1 rfl 568 rfl ?_
  refine y_aload_n hC dL_law_568 0 rfl 569 rfl ?_
  refine y_iload_n hC dL_law_569 3 rfl 570 rfl ?_
  refine y_iconst hC dL_law_570 (v := (1 : Int32)) (by decide) 571 rfl ?_
  refine y_iadd hC dL_law_571 572 rfl ?_
  refine y_topi (nI_add i 1).symm ?_
  refine y_sld hC hX hbl hbA (vp_in_nI (by omega) (by omega)) dL_law_572 573 rfl ?_
  rw [nI_clamp (show i + 1 < 2 ^ 31 by omega)]
  refine y_aload_n hC dL_law_573 0 rfl 574 rfl ?_
  refine y_iload_n hC dL_law_574 3 rfl 575 rfl ?_
  refine y_iconst hC dL_law_575 (v := (2 : Int32)) (by decide) 576 rfl ?_
  refine y_iadd hC dL_law_576 577 rfl ?_
  refine y_topi (nI_add i 2).symm ?_
  refine y_sld hC hX hbl hbA (vp_in_nI (by omega) (by omega)) dL_law_577 578 rfl ?_
  rw [nI_clamp (show i + 2 < 2 ^ 31 by omega)]
  refine y_aload_n hC dL_law_578 0 rfl 579 rfl ?_
  refine y_iload_n hC dL_law_579 3 rfl 580 rfl ?_
  refine y_iconst hC dL_law_580 (v := (3 : Int32)) (by decide) 581 rfl ?_
  refine y_iadd hC dL_law_581 582 rfl ?_
  refine y_topi (nI_add i 3).symm ?_
  refine y_sld hC hX hbl hbA (vp_in_nI (by omega) (by omega)) dL_law_582 583 rfl ?_
  rw [nI_clamp (show i + 3 < 2 ^ 31 by omega)]
  refine y_aload_n hC dL_law_583 0 rfl 584 rfl ?_
  refine y_iload_n hC dL_law_584 3 rfl 585 rfl ?_
  refine y_iconst hC dL_law_585 (v := (4 : Int32)) (by decide) 586 rfl ?_
  refine y_iadd hC dL_law_586 587 rfl ?_
  refine y_topi (nI_add i 4).symm ?_
  refine y_sld hC hX hbl hbA (vp_in_nI (by omega) (by omega)) dL_law_587 588 rfl ?_
  rw [nI_clamp (show i + 4 < 2 ^ 31 by omega)]
  refine y_callV hC 63 (hA 63 (by decide)) (cl_H (u := c.1) rfl) rfl (c_X10_best hJ hA l (c, w) c (xs (i + 1)) (xs (i + 2)) (xs (i + 3)) (xs (i + 4)) x hx) rfl ⟨w3_202, w1_1, cwd_X10_best, by decide, by decide⟩ w3_199 w3_200 w3_201 rfl rfl (Nat.le_of_ble_eq_true rfl) (by decide) dL_law_588 591 rfl (x.2, w) rfl [.int x.1] rfl ?_
  refine y_aload_n hC dL_law_591 2 rfl 592 rfl ?_
  refine y_aload_n hC dL_law_592 0 rfl 593 rfl ?_
  refine y_iload_n hC dL_law_593 3 rfl 594 rfl ?_
  refine y_iconst hC dL_law_594 (v := (1 : Int32)) (by decide) 595 rfl ?_
  refine y_iadd hC dL_law_595 596 rfl ?_
  refine y_topi (nI_add i 1).symm ?_
  refine y_sld hC hX hbl hbA (vp_in_nI (by omega) (by omega)) dL_law_596 597 rfl ?_
  rw [nI_clamp (show i + 1 < 2 ^ 31 by omega)]
  refine y_aload_n hC dL_law_597 0 rfl 598 rfl ?_
  refine y_iload_n hC dL_law_598 3 rfl 599 rfl ?_
  refine y_iconst hC dL_law_599 (v := (2 : Int32)) (by decide) 600 rfl ?_
  refine y_iadd hC dL_law_600 601 rfl ?_
  refine y_topi (nI_add i 2).symm ?_
  refine y_sld hC hX hbl hbA (vp_in_nI (by omega) (by omega)) dL_law_601 602 rfl ?_
  rw [nI_clamp (show i + 2 < 2 ^ 31 by omega)]
  refine y_aload_n hC dL_law_602 0 rfl 603 rfl ?_
  refine y_iload_n hC dL_law_603 3 rfl 604 rfl ?_
  refine y_iconst hC dL_law_604 (v := (3 : Int32)) (by decide) 605 rfl ?_
  refine y_iadd hC dL_law_605 606 rfl ?_
  refine y_topi (nI_add i 3).symm ?_
  refine y_sld hC hX hbl hbA (vp_in_nI (by omega) (by omega)) dL_law_606 607 rfl ?_
  rw [nI_clamp (show i + 3 < 2 ^ 31 by omega)]
  refine y_aload_n hC dL_law_607 0 rfl 608 rfl ?_
  refine y_iload_n hC dL_law_608 3 rfl 609 rfl ?_
  refine y_iconst hC dL_law_609 (v := (4 : Int32)) (by decide) 610 rfl ?_
  refine y_iadd hC dL_law_610 611 rfl ?_
  refine y_topi (nI_add i 4).symm ?_
  refine y_sld hC hX hbl hbA (vp_in_nI (by omega) (by omega)) dL_law_611 612 rfl ?_
  rw [nI_clamp (show i + 4 < 2 ^ 31 by omega)]
  refine y_callV hC 66 (hB 66 (by decide) (by decide)) (cl_L (u := w) rfl) rfl (c_X11_best hJ hB l (x.2, w) w (xs (i + 1)) (xs (i + 2)) (xs (i + 3)) (xs (i + 4)) y hy) rfl ⟨w5_129, w1_13, cwd_X11_best, by decide, by decide⟩ w5_126 w5_127 w5_128 rfl rfl (Nat.le_of_ble_eq_true rfl) (by decide) dL_law_612 615 rfl (x.2, y.2) rfl [.int y.1, .int x.1] rfl ?_
  refine y_icmp_eq hC dL_law_615 997 (by decide) 618 rfl (fun _ => K _ _ hR2) (fun h => absurd hxy h)
set_option maxHeartbeats 4000000 in
set_option maxRecDepth 100000 in
theorem lc_brings {Γ : GC} {p : Program} {l : Launch} {e : Env} {s : State} {m : MethodId} {below : List Frame} {meth : Method} {c' : Code} {b L : Nat} {xs : Nat → Int32} (hC : CX Γ (fun q : Nat => s.heap.size ≤ q) p s m #[Value.ref b] c' R_law code 4) (hJ : GJ Γ) (hA : ∀ i, i < 66 → act Γ i) (hB : ∀ i, 66 ≤ i → i < 77 → act Γ i) (hX : va_X b L xs s s.heap) (hbl : b < s.heap.size) (hL : L ≤ 2560) {Rel : CSt → LSt → Prop} (i : Nat) (hi : i + 5 ≤ L) (K : ∀ c w, Rel c w → Y Γ (fun q : Nat => s.heap.size ≤ q) p l e room_1 s m #[Value.ref b] below meth c' 77 2245 (lw_Z below #[Value.ref b] s) 4 (c, w) 997 [(0, .ref b), (1, .ref (ad Γ 63)), (2, .ref (ad Γ 66)), (3, .int (nI i))] []) (hs : sim_brings Rel) (c : CSt) (w : LSt) (hR : Rel c w) : Y Γ (fun q : Nat => s.heap.size ≤ q) p l e room_1 s m #[Value.ref b] below meth c' 77 2245 (lw_Z below #[Value.ref b] s) 4 (c, w) 620 [(0, .ref b), (1, .ref (ad Γ 63)), (2, .ref (ad Γ 66)), (3, .int (nI i))] [] := by
  have hbA : ¬ (fun q : Nat => s.heap.size ≤ q) b := Nat.not_le.mpr hbl
  obtain ⟨x, y, hx, hy, hxy, hR2⟩ := hs c w hR (xs (i + 1))
  refine y_aload_n hC dL_law_620 1 rfl 621 rfl ?_
  refine y_aload_n hC dL_law_621 0 rfl 622 rfl ?_
  refine y_iload_n hC dL_law_622 3 rfl 623 rfl ?_
  refine y_iconst hC dL_law_623 (v := (1 : Int32)) (by decide) 624 rfl ?_
  refine y_iadd hC dL_law_624 625 rfl ?_
  refine y_topi (nI_add i 1).symm ?_
  refine y_sld hC hX hbl hbA (vp_in_nI (by omega) (by omega)) dL_law_625 626 rfl ?_
  rw [nI_clamp (show i + 1 < 2 ^ 31 by omega)]
  refine y_callV hC 63 (hA 63 (by decide)) (cl_H (u := c.1) rfl) rfl (c_X10_brings hJ hA l (c, w) c (xs (i + 1)) x hx) rfl ⟨w3_212, w1_1, cwd_X10_brings, by decide, by decide⟩ w3_209 w3_210 w3_211 rfl rfl (Nat.le_of_ble_eq_true rfl) (by decide) dL_law_626 629 rfl (x.2, w) rfl [.int x.1] rfl ?_
  refine y_aload_n hC dL_law_629 2 rfl 630 rfl ?_
  refine y_aload_n hC dL_law_630 0 rfl 631 rfl ?_
  refine y_iload_n hC dL_law_631 3 rfl 632 rfl ?_
  refine y_iconst hC dL_law_632 (v := (1 : Int32)) (by decide) 633 rfl ?_
  refine y_iadd hC dL_law_633 634 rfl ?_
  refine y_topi (nI_add i 1).symm ?_
  refine y_sld hC hX hbl hbA (vp_in_nI (by omega) (by omega)) dL_law_634 635 rfl ?_
  rw [nI_clamp (show i + 1 < 2 ^ 31 by omega)]
  refine y_callV hC 66 (hB 66 (by decide) (by decide)) (cl_L (u := w) rfl) rfl (c_X11_brings hJ hB l (x.2, w) w (xs (i + 1)) y hy) rfl ⟨w5_141, w1_13, cwd_X11_brings, by decide, by decide⟩ w5_138 w5_139 w5_140 rfl rfl (Nat.le_of_ble_eq_true rfl) (by decide) dL_law_635 638 rfl (x.2, y.2) rfl [.int y.1, .int x.1] rfl ?_
  refine y_icmp_eq hC dL_law_638 997 (by decide) 641 rfl (fun _ => K _ _ hR2) (fun h => absurd hxy h)
set_option maxHeartbeats 4000000 in
set_option maxRecDepth 100000 in
theorem lc_come {Γ : GC} {p : Program} {l : Launch} {e : Env} {s : State} {m : MethodId} {below : List Frame} {meth : Method} {c' : Code} {b L : Nat} {xs : Nat → Int32} (hC : CX Γ (fun q : Nat => s.heap.size ≤ q) p s m #[Value.ref b] c' R_law code 4) (hJ : GJ Γ) (hA : ∀ i, i < 66 → act Γ i) (hB : ∀ i, 66 ≤ i → i < 77 → act Γ i) (hX : va_X b L xs s s.heap) (hbl : b < s.heap.size) (hL : L ≤ 2560) {Rel : CSt → LSt → Prop} (i : Nat) (hi : i + 5 ≤ L) (K : ∀ c w, Rel c w → Y Γ (fun q : Nat => s.heap.size ≤ q) p l e room_1 s m #[Value.ref b] below meth c' 77 2245 (lw_Z below #[Value.ref b] s) 4 (c, w) 997 [(0, .ref b), (1, .ref (ad Γ 63)), (2, .ref (ad Γ 66)), (3, .int (nI i))] []) (hs : sim_come Rel) (c : CSt) (w : LSt) (hR : Rel c w) : Y Γ (fun q : Nat => s.heap.size ≤ q) p l e room_1 s m #[Value.ref b] below meth c' 77 2245 (lw_Z below #[Value.ref b] s) 4 (c, w) 643 [(0, .ref b), (1, .ref (ad Γ 63)), (2, .ref (ad Γ 66)), (3, .int (nI i))] [] := by
  have hbA : ¬ (fun q : Nat => s.heap.size ≤ q) b := Nat.not_le.mpr hbl
  obtain ⟨x, y, hx, hy, hxy, hR2⟩ := hs c w hR (xs (i + 1))
  refine y_aload_n hC dL_law_643 1 rfl 644 rfl ?_
  refine y_aload_n hC dL_law_644 0 rfl 645 rfl ?_
  refine y_iload_n hC dL_law_645 3 rfl 646 rfl ?_
  refine y_iconst hC dL_law_646 (v := (1 : Int32)) (by decide) 647 rfl ?_
  refine y_iadd hC dL_law_647 648 rfl ?_
  refine y_topi (nI_add i 1).symm ?_
  refine y_sld hC hX hbl hbA (vp_in_nI (by omega) (by omega)) dL_law_648 649 rfl ?_
  rw [nI_clamp (show i + 1 < 2 ^ 31 by omega)]
  refine y_callV hC 63 (hA 63 (by decide)) (cl_H (u := c.1) rfl) rfl (c_X10_come hJ hA l (c, w) c (xs (i + 1)) x hx) rfl ⟨w3_217, w1_1, cwd_X10_come, by decide, by decide⟩ w3_214 w3_215 w3_216 rfl rfl (Nat.le_of_ble_eq_true rfl) (by decide) dL_law_649 652 rfl (x.2, w) rfl [.int x.1] rfl ?_
  refine y_aload_n hC dL_law_652 2 rfl 653 rfl ?_
  refine y_aload_n hC dL_law_653 0 rfl 654 rfl ?_
  refine y_iload_n hC dL_law_654 3 rfl 655 rfl ?_
  refine y_iconst hC dL_law_655 (v := (1 : Int32)) (by decide) 656 rfl ?_
  refine y_iadd hC dL_law_656 657 rfl ?_
  refine y_topi (nI_add i 1).symm ?_
  refine y_sld hC hX hbl hbA (vp_in_nI (by omega) (by omega)) dL_law_657 658 rfl ?_
  rw [nI_clamp (show i + 1 < 2 ^ 31 by omega)]
  refine y_callV hC 66 (hB 66 (by decide) (by decide)) (cl_L (u := w) rfl) rfl (c_X11_come hJ hB l (x.2, w) w (xs (i + 1)) y hy) rfl ⟨w5_146, w1_13, cwd_X11_come, by decide, by decide⟩ w5_143 w5_144 w5_145 rfl rfl (Nat.le_of_ble_eq_true rfl) (by decide) dL_law_658 661 rfl (x.2, y.2) rfl [.int y.1, .int x.1] rfl ?_
  refine y_icmp_eq hC dL_law_661 997 (by decide) 664 rfl (fun _ => K _ _ hR2) (fun h => absurd hxy h)
set_option maxHeartbeats 4000000 in
set_option maxRecDepth 100000 in
theorem lc_stalls {Γ : GC} {p : Program} {l : Launch} {e : Env} {s : State} {m : MethodId} {below : List Frame} {meth : Method} {c' : Code} {b L : Nat} {xs : Nat → Int32} (hC : CX Γ (fun q : Nat => s.heap.size ≤ q) p s m #[Value.ref b] c' R_law code 4) (hJ : GJ Γ) (hA : ∀ i, i < 66 → act Γ i) (hB : ∀ i, 66 ≤ i → i < 77 → act Γ i) (hX : va_X b L xs s s.heap) (hbl : b < s.heap.size) (hL : L ≤ 2560) {Rel : CSt → LSt → Prop} (i : Nat) (hi : i + 5 ≤ L) (K : ∀ c w, Rel c w → Y Γ (fun q : Nat => s.heap.size ≤ q) p l e room_1 s m #[Value.ref b] below meth c' 77 2245 (lw_Z below #[Value.ref b] s) 4 (c, w) 997 [(0, .ref b), (1, .ref (ad Γ 63)), (2, .ref (ad Γ 66)), (3, .int (nI i))] []) (hs : sim_stalls Rel) (c : CSt) (w : LSt) (hR : Rel c w) : Y Γ (fun q : Nat => s.heap.size ≤ q) p l e room_1 s m #[Value.ref b] below meth c' 77 2245 (lw_Z below #[Value.ref b] s) 4 (c, w) 666 [(0, .ref b), (1, .ref (ad Γ 63)), (2, .ref (ad Γ 66)), (3, .int (nI i))] [] := by
  have hbA : ¬ (fun q : Nat => s.heap.size ≤ q) b := Nat.not_le.mpr hbl
  obtain ⟨x, y, hx, hy, hxy, hR2⟩ := hs c w hR (xs (i + 1)) (xs (i + 2)) (xs (i + 3))
  refine y_aload_n hC dL_law_666 1 rfl 667 rfl ?_
  refine y_aload_n hC dL_law_667 0 rfl 668 rfl ?_
  refine y_iload_n hC dL_law_668 3 rfl 669 rfl ?_
  refine y_iconst hC dL_law_669 (v := (1 : Int32)) (by decide) 670 rfl ?_
  refine y_iadd hC dL_law_670 671 rfl ?_
  refine y_topi (nI_add i 1).symm ?_
  refine y_sld hC hX hbl hbA (vp_in_nI (by omega) (by omega)) dL_law_671 672 rfl ?_
  rw [nI_clamp (show i + 1 < 2 ^ 31 by omega)]
  refine y_aload_n hC dL_law_672 0 rfl 673 rfl ?_
  refine y_iload_n hC dL_law_673 3 rfl 674 rfl ?_
  refine y_iconst hC dL_law_674 (v := (2 : Int32)) (by decide) 675 rfl ?_
  refine y_iadd hC dL_law_675 676 rfl ?_
  refine y_topi (nI_add i 2).symm ?_
  refine y_sld hC hX hbl hbA (vp_in_nI (by omega) (by omega)) dL_law_676 677 rfl ?_
  rw [nI_clamp (show i + 2 < 2 ^ 31 by omega)]
  refine y_aload_n hC dL_law_677 0 rfl 678 rfl ?_
  refine y_iload_n hC dL_law_678 3 rfl 679 rfl ?_
  refine y_iconst hC dL_law_679 (v := (3 : Int32)) (by decide) 680 rfl ?_
  refine y_iadd hC dL_law_680 681 rfl ?_
  refine y_topi (nI_add i 3).symm ?_
  refine y_sld hC hX hbl hbA (vp_in_nI (by omega) (by omega)) dL_law_681 682 rfl ?_
  rw [nI_clamp (show i + 3 < 2 ^ 31 by omega)]
  refine y_callV hC 63 (hA 63 (by decide)) (cl_H (u := c.1) rfl) rfl (c_X10_stalls hJ hA l (c, w) c (xs (i + 1)) (xs (i + 2)) (xs (i + 3)) x hx) rfl ⟨w3_221, w1_1, cwd_X10_stalls, by decide, by decide⟩ w3_218 w3_219 w3_220 rfl rfl (Nat.le_of_ble_eq_true rfl) (by decide) dL_law_682 685 rfl (x.2, w) rfl [.int x.1] rfl ?_
  refine y_aload_n hC dL_law_685 2 rfl 686 rfl ?_
  refine y_aload_n hC dL_law_686 0 rfl 687 rfl ?_
  refine y_iload_n hC dL_law_687 3 rfl 688 rfl ?_
  refine y_iconst hC dL_law_688 (v := (1 : Int32)) (by decide) 689 rfl ?_
  refine y_iadd hC dL_law_689 690 rfl ?_
  refine y_topi (nI_add i 1).symm ?_
  refine y_sld hC hX hbl hbA (vp_in_nI (by omega) (by omega)) dL_law_690 691 rfl ?_
  rw [nI_clamp (show i + 1 < 2 ^ 31 by omega)]
  refine y_aload_n hC dL_law_691 0 rfl 692 rfl ?_
  refine y_iload_n hC dL_law_692 3 rfl 693 rfl ?_
  refine y_iconst hC dL_law_693 (v := (2 : Int32)) (by decide) 694 rfl ?_
  refine y_iadd hC dL_law_694 695 rfl ?_
  refine y_topi (nI_add i 2).symm ?_
  refine y_sld hC hX hbl hbA (vp_in_nI (by omega) (by omega)) dL_law_695 696 rfl ?_
  rw [nI_clamp (show i + 2 < 2 ^ 31 by omega)]
  refine y_aload_n hC dL_law_696 0 rfl 697 rfl ?_
  refine y_iload_n hC dL_law_697 3 rfl 698 rfl ?_
  refine y_iconst hC dL_law_698 (v := (3 : Int32)) (by decide) 699 rfl ?_
  refine y_iadd hC dL_law_699 700 rfl ?_
  refine y_topi (nI_add i 3).symm ?_
  refine y_sld hC hX hbl hbA (vp_in_nI (by omega) (by omega)) dL_law_700 701 rfl ?_
  rw [nI_clamp (show i + 3 < 2 ^ 31 by omega)]
  refine y_callV hC 66 (hB 66 (by decide) (by decide)) (cl_L (u := w) rfl) rfl (c_X11_stalls hJ hB l (x.2, w) w (xs (i + 1)) (xs (i + 2)) (xs (i + 3)) y hy) rfl ⟨w5_150, w1_13, cwd_X11_stalls, by decide, by decide⟩ w5_147 w5_148 w5_149 rfl rfl (Nat.le_of_ble_eq_true rfl) (by decide) dL_law_701 704 rfl (x.2, y.2) rfl [.int y.1, .int x.1] rfl ?_
  refine y_icmp_eq hC dL_law_704 997 (by decide) 707 rfl (fun _ => K _ _ hR2) (fun h => absurd hxy h)
set_option maxHeartbeats 4000000 in
set_option maxRecDepth 100000 in
theorem lc_mean {Γ : GC} {p : Program} {l : Launch} {e : Env} {s : State} {m : MethodId} {below : List Frame} {meth : Method} {c' : Code} {b L : Nat} {xs : Nat → Int32} (hC : CX Γ (fun q : Nat => s.heap.size ≤ q) p s m #[Value.ref b] c' R_law code 4) (hJ : GJ Γ) (hA : ∀ i, i < 66 → act Γ i) (hB : ∀ i, 66 ≤ i → i < 77 → act Γ i) (hX : va_X b L xs s s.heap) (hbl : b < s.heap.size) (hL : L ≤ 2560) {Rel : CSt → LSt → Prop} (i : Nat) (hi : i + 5 ≤ L) (K : ∀ c w, Rel c w → Y Γ (fun q : Nat => s.heap.size ≤ q) p l e room_1 s m #[Value.ref b] below meth c' 77 2245 (lw_Z below #[Value.ref b] s) 4 (c, w) 997 [(0, .ref b), (1, .ref (ad Γ 63)), (2, .ref (ad Γ 66)), (3, .int (nI i))] []) (hs : sim_mean Rel) (c : CSt) (w : LSt) (hR : Rel c w) : Y Γ (fun q : Nat => s.heap.size ≤ q) p l e room_1 s m #[Value.ref b] below meth c' 77 2245 (lw_Z below #[Value.ref b] s) 4 (c, w) 709 [(0, .ref b), (1, .ref (ad Γ 63)), (2, .ref (ad Γ 66)), (3, .int (nI i))] [] := by
  have hbA : ¬ (fun q : Nat => s.heap.size ≤ q) b := Nat.not_le.mpr hbl
  obtain ⟨x, y, hx, hy, hxy, hR2⟩ := hs c w hR (xs (i + 1))
  refine y_aload_n hC dL_law_709 1 rfl 710 rfl ?_
  refine y_aload_n hC dL_law_710 0 rfl 711 rfl ?_
  refine y_iload_n hC dL_law_711 3 rfl 712 rfl ?_
  refine y_iconst hC dL_law_712 (v := (1 : Int32)) (by decide) 713 rfl ?_
  refine y_iadd hC dL_law_713 714 rfl ?_
  refine y_topi (nI_add i 1).symm ?_
  refine y_sld hC hX hbl hbA (vp_in_nI (by omega) (by omega)) dL_law_714 715 rfl ?_
  rw [nI_clamp (show i + 1 < 2 ^ 31 by omega)]
  refine y_callV hC 63 (hA 63 (by decide)) (cl_H (u := c.1) rfl) rfl (c_X10_mean hJ hA l (c, w) c (xs (i + 1)) x hx) rfl ⟨w4_2, w1_1, cwd_X10_mean, by decide, by decide⟩ w3_239 w4_0 w4_1 rfl rfl (Nat.le_of_ble_eq_true rfl) (by decide) dL_law_715 718 rfl (x.2, w) rfl [.int x.1] rfl ?_
  refine y_aload_n hC dL_law_718 2 rfl 719 rfl ?_
  refine y_aload_n hC dL_law_719 0 rfl 720 rfl ?_
  refine y_iload_n hC dL_law_720 3 rfl 721 rfl ?_
  refine y_iconst hC dL_law_721 (v := (1 : Int32)) (by decide) 722 rfl ?_
  refine y_iadd hC dL_law_722 723 rfl ?_
  refine y_topi (nI_add i 1).symm ?_
  refine y_sld hC hX hbl hbA (vp_in_nI (by omega) (by omega)) dL_law_723 724 rfl ?_
  rw [nI_clamp (show i + 1 < 2 ^ 31 by omega)]
  refine y_callV hC 66 (hB 66 (by decide) (by decide)) (cl_L (u := w) rfl) rfl (c_X11_mean hJ hB l (x.2, w) w (xs (i + 1)) y hy) rfl ⟨w5_158, w1_13, cwd_X11_mean, by decide, by decide⟩ w5_155 w5_156 w5_157 rfl rfl (Nat.le_of_ble_eq_true rfl) (by decide) dL_law_724 727 rfl (x.2, y.2) rfl [.int y.1, .int x.1] rfl ?_
  refine y_icmp_eq hC dL_law_727 997 (by decide) 730 rfl (fun _ => K _ _ hR2) (fun h => absurd hxy h)
set_option maxHeartbeats 4000000 in
set_option maxRecDepth 100000 in
theorem lc_shout {Γ : GC} {p : Program} {l : Launch} {e : Env} {s : State} {m : MethodId} {below : List Frame} {meth : Method} {c' : Code} {b L : Nat} {xs : Nat → Int32} (hC : CX Γ (fun q : Nat => s.heap.size ≤ q) p s m #[Value.ref b] c' R_law code 4) (hJ : GJ Γ) (hA : ∀ i, i < 66 → act Γ i) (hB : ∀ i, 66 ≤ i → i < 77 → act Γ i) (hX : va_X b L xs s s.heap) (hbl : b < s.heap.size) (hL : L ≤ 2560) {Rel : CSt → LSt → Prop} (i : Nat) (hi : i + 5 ≤ L) (K : ∀ c w, Rel c w → Y Γ (fun q : Nat => s.heap.size ≤ q) p l e room_1 s m #[Value.ref b] below meth c' 77 2245 (lw_Z below #[Value.ref b] s) 4 (c, w) 997 [(0, .ref b), (1, .ref (ad Γ 63)), (2, .ref (ad Γ 66)), (3, .int (nI i))] []) (hs : sim_shout Rel) (c : CSt) (w : LSt) (hR : Rel c w) : Y Γ (fun q : Nat => s.heap.size ≤ q) p l e room_1 s m #[Value.ref b] below meth c' 77 2245 (lw_Z below #[Value.ref b] s) 4 (c, w) 732 [(0, .ref b), (1, .ref (ad Γ 63)), (2, .ref (ad Γ 66)), (3, .int (nI i))] [] := by
  have hbA : ¬ (fun q : Nat => s.heap.size ≤ q) b := Nat.not_le.mpr hbl
  obtain ⟨x, y, hx, hy, hxy, hR2⟩ := hs c w hR (xs (i + 1))
  refine y_aload_n hC dL_law_732 1 rfl 733 rfl ?_
  refine y_aload_n hC dL_law_733 0 rfl 734 rfl ?_
  refine y_iload_n hC dL_law_734 3 rfl 735 rfl ?_
  refine y_iconst hC dL_law_735 (v := (1 : Int32)) (by decide) 736 rfl ?_
  refine y_iadd hC dL_law_736 737 rfl ?_
  refine y_topi (nI_add i 1).symm ?_
  refine y_sld hC hX hbl hbA (vp_in_nI (by omega) (by omega)) dL_law_737 738 rfl ?_
  rw [nI_clamp (show i + 1 < 2 ^ 31 by omega)]
  refine y_callV hC 63 (hA 63 (by decide)) (cl_H (u := c.1) rfl) rfl (c_X10_shout hJ hA l (c, w) c (xs (i + 1)) x hx) rfl ⟨w4_22, w1_1, cwd_X10_shout, by decide, by decide⟩ w4_19 w4_20 w4_21 rfl rfl (Nat.le_of_ble_eq_true rfl) (by decide) dL_law_738 741 rfl (x.2, w) rfl [.int x.1] rfl ?_
  refine y_aload_n hC dL_law_741 2 rfl 742 rfl ?_
  refine y_aload_n hC dL_law_742 0 rfl 743 rfl ?_
  refine y_iload_n hC dL_law_743 3 rfl 744 rfl ?_
  refine y_iconst hC dL_law_744 (v := (1 : Int32)) (by decide) 745 rfl ?_
  refine y_iadd hC dL_law_745 746 rfl ?_
  refine y_topi (nI_add i 1).symm ?_
  refine y_sld hC hX hbl hbA (vp_in_nI (by omega) (by omega)) dL_law_746 747 rfl ?_
  rw [nI_clamp (show i + 1 < 2 ^ 31 by omega)]
  refine y_callV hC 66 (hB 66 (by decide) (by decide)) (cl_L (u := w) rfl) rfl (c_X11_shout hJ hB l (x.2, w) w (xs (i + 1)) y hy) rfl ⟨w5_167, w1_13, cwd_X11_shout, by decide, by decide⟩ w5_164 w5_165 w5_166 rfl rfl (Nat.le_of_ble_eq_true rfl) (by decide) dL_law_747 750 rfl (x.2, y.2) rfl [.int y.1, .int x.1] rfl ?_
  refine y_icmp_eq hC dL_law_750 997 (by decide) 753 rfl (fun _ => K _ _ hR2) (fun h => absurd hxy h)
set_option maxHeartbeats 4000000 in
set_option maxRecDepth 100000 in
theorem lc_sold {Γ : GC} {p : Program} {l : Launch} {e : Env} {s : State} {m : MethodId} {below : List Frame} {meth : Method} {c' : Code} {b L : Nat} {xs : Nat → Int32} (hC : CX Γ (fun q : Nat => s.heap.size ≤ q) p s m #[Value.ref b] c' R_law code 4) (hJ : GJ Γ) (hA : ∀ i, i < 66 → act Γ i) (hB : ∀ i, 66 ≤ i → i < 77 → act Γ i) (hX : va_X b L xs s s.heap) (hbl : b < s.heap.size) (hL : L ≤ 2560) {Rel : CSt → LSt → Prop} (i : Nat) (hi : i + 5 ≤ L) (K : ∀ c w, Rel c w → Y Γ (fun q : Nat => s.heap.size ≤ q) p l e room_1 s m #[Value.ref b] below meth c' 77 2245 (lw_Z below #[Value.ref b] s) 4 (c, w) 997 [(0, .ref b), (1, .ref (ad Γ 63)), (2, .ref (ad Γ 66)), (3, .int (nI i))] []) (hs : sim_sold Rel) (c : CSt) (w : LSt) (hR : Rel c w) : Y Γ (fun q : Nat => s.heap.size ≤ q) p l e room_1 s m #[Value.ref b] below meth c' 77 2245 (lw_Z below #[Value.ref b] s) 4 (c, w) 755 [(0, .ref b), (1, .ref (ad Γ 63)), (2, .ref (ad Γ 66)), (3, .int (nI i))] [] := by
  have hbA : ¬ (fun q : Nat => s.heap.size ≤ q) b := Nat.not_le.mpr hbl
  obtain ⟨x, y, hx, hy, hxy, hR2⟩ := hs c w hR (xs (i + 1)) (xs (i + 2))
  refine y_aload_n hC dL_law_755 1 rfl 756 rfl ?_
  refine y_aload_n hC dL_law_756 0 rfl 757 rfl ?_
  refine y_iload_n hC dL_law_757 3 rfl 758 rfl ?_
  refine y_iconst hC dL_law_758 (v := (1 : Int32)) (by decide) 759 rfl ?_
  refine y_iadd hC dL_law_759 760 rfl ?_
  refine y_topi (nI_add i 1).symm ?_
  refine y_sld hC hX hbl hbA (vp_in_nI (by omega) (by omega)) dL_law_760 761 rfl ?_
  rw [nI_clamp (show i + 1 < 2 ^ 31 by omega)]
  refine y_aload_n hC dL_law_761 0 rfl 762 rfl ?_
  refine y_iload_n hC dL_law_762 3 rfl 763 rfl ?_
  refine y_iconst hC dL_law_763 (v := (2 : Int32)) (by decide) 764 rfl ?_
  refine y_iadd hC dL_law_764 765 rfl ?_
  refine y_topi (nI_add i 2).symm ?_
  refine y_sld hC hX hbl hbA (vp_in_nI (by omega) (by omega)) dL_law_765 766 rfl ?_
  rw [nI_clamp (show i + 2 < 2 ^ 31 by omega)]
  refine y_callV hC 63 (hA 63 (by decide)) (cl_H (u := c.1) rfl) rfl (c_X10_sold hJ hA l (c, w) c (xs (i + 1)) (xs (i + 2)) x hx) rfl ⟨w4_30, w1_1, cwd_X10_sold, by decide, by decide⟩ w4_27 w4_28 w4_29 rfl rfl (Nat.le_of_ble_eq_true rfl) (by decide) dL_law_766 769 rfl (x.2, w) rfl [.int x.1] rfl ?_
  refine y_aload_n hC dL_law_769 2 rfl 770 rfl ?_
  refine y_aload_n hC dL_law_770 0 rfl 771 rfl ?_
  refine y_iload_n hC dL_law_771 3 rfl 772 rfl ?_
  refine y_iconst hC dL_law_772 (v := (1 : Int32)) (by decide) 773 rfl ?_
  refine y_iadd hC dL_law_773 774 rfl ?_
  refine y_topi (nI_add i 1).symm ?_
  refine y_sld hC hX hbl hbA (vp_in_nI (by omega) (by omega)) dL_law_774 775 rfl ?_
  rw [nI_clamp (show i + 1 < 2 ^ 31 by omega)]
  refine y_aload_n hC dL_law_775 0 rfl 776 rfl ?_
  refine y_iload_n hC dL_law_776 3 rfl 777 rfl ?_
  refine y_iconst hC dL_law_777 (v := (2 : Int32)) (by decide) 778 rfl ?_
  refine y_iadd hC dL_law_778 779 rfl ?_
  refine y_topi (nI_add i 2).symm ?_
  refine y_sld hC hX hbl hbA (vp_in_nI (by omega) (by omega)) dL_law_779 780 rfl ?_
  rw [nI_clamp (show i + 2 < 2 ^ 31 by omega)]
  refine y_callV hC 66 (hB 66 (by decide) (by decide)) (cl_L (u := w) rfl) rfl (c_X11_sold hJ hB l (x.2, w) w (xs (i + 1)) (xs (i + 2)) y hy) rfl ⟨w5_171, w1_13, cwd_X11_sold, by decide, by decide⟩ w5_168 w5_169 w5_170 rfl rfl (Nat.le_of_ble_eq_true rfl) (by decide) dL_law_780 783 rfl (x.2, y.2) rfl [.int y.1, .int x.1] rfl ?_
  refine y_icmp_eq hC dL_law_783 997 (by decide) 786 rfl (fun _ => K _ _ hR2) (fun h => absurd hxy h)
set_option maxHeartbeats 4000000 in
set_option maxRecDepth 100000 in
theorem lc_forget {Γ : GC} {p : Program} {l : Launch} {e : Env} {s : State} {m : MethodId} {below : List Frame} {meth : Method} {c' : Code} {b L : Nat} {xs : Nat → Int32} (hC : CX Γ (fun q : Nat => s.heap.size ≤ q) p s m #[Value.ref b] c' R_law code 4) (hJ : GJ Γ) (hA : ∀ i, i < 66 → act Γ i) (hB : ∀ i, 66 ≤ i → i < 77 → act Γ i) (hX : va_X b L xs s s.heap) (hbl : b < s.heap.size) (hL : L ≤ 2560) {Rel : CSt → LSt → Prop} (i : Nat) (hi : i + 5 ≤ L) (K : ∀ c w, Rel c w → Y Γ (fun q : Nat => s.heap.size ≤ q) p l e room_1 s m #[Value.ref b] below meth c' 77 2245 (lw_Z below #[Value.ref b] s) 4 (c, w) 997 [(0, .ref b), (1, .ref (ad Γ 63)), (2, .ref (ad Γ 66)), (3, .int (nI i))] []) (hs : sim_forget Rel) (c : CSt) (w : LSt) (hR : Rel c w) : Y Γ (fun q : Nat => s.heap.size ≤ q) p l e room_1 s m #[Value.ref b] below meth c' 77 2245 (lw_Z below #[Value.ref b] s) 4 (c, w) 788 [(0, .ref b), (1, .ref (ad Γ 63)), (2, .ref (ad Γ 66)), (3, .int (nI i))] [] := by
  have hbA : ¬ (fun q : Nat => s.heap.size ≤ q) b := Nat.not_le.mpr hbl
  obtain ⟨x, y, hx, hy, hxy, hR2⟩ := hs c w hR
  refine y_aload_n hC dL_law_788 1 rfl 789 rfl ?_
  refine y_callV hC 63 (hA 63 (by decide)) (cl_H (u := c.1) rfl) rfl (c_X10_forget hJ hA l (c, w) c x hx) rfl ⟨w4_38, w1_1, cwd_X10_forget, by decide, by decide⟩ w4_35 w4_36 w4_37 rfl rfl (Nat.le_of_ble_eq_true rfl) (by decide) dL_law_789 792 rfl (x.2, w) rfl [.int x.1] rfl ?_
  refine y_aload_n hC dL_law_792 2 rfl 793 rfl ?_
  refine y_callV hC 66 (hB 66 (by decide) (by decide)) (cl_L (u := w) rfl) rfl (c_X11_forget hJ hB l (x.2, w) w y hy) rfl ⟨w5_175, w1_13, cwd_X11_forget, by decide, by decide⟩ w5_172 w5_173 w5_174 rfl rfl (Nat.le_of_ble_eq_true rfl) (by decide) dL_law_793 796 rfl (x.2, y.2) rfl [.int y.1, .int x.1] rfl ?_
  refine y_icmp_eq hC dL_law_796 997 (by decide) 799 rfl (fun _ => K _ _ hR2) (fun h => absurd hxy h)
set_option maxHeartbeats 4000000 in
set_option maxRecDepth 100000 in
theorem lc_may {Γ : GC} {p : Program} {l : Launch} {e : Env} {s : State} {m : MethodId} {below : List Frame} {meth : Method} {c' : Code} {b L : Nat} {xs : Nat → Int32} (hC : CX Γ (fun q : Nat => s.heap.size ≤ q) p s m #[Value.ref b] c' R_law code 4) (hJ : GJ Γ) (hA : ∀ i, i < 66 → act Γ i) (hB : ∀ i, 66 ≤ i → i < 77 → act Γ i) (hX : va_X b L xs s s.heap) (hbl : b < s.heap.size) (hL : L ≤ 2560) {Rel : CSt → LSt → Prop} (i : Nat) (hi : i + 5 ≤ L) (K : ∀ c w, Rel c w → Y Γ (fun q : Nat => s.heap.size ≤ q) p l e room_1 s m #[Value.ref b] below meth c' 77 2245 (lw_Z below #[Value.ref b] s) 4 (c, w) 997 [(0, .ref b), (1, .ref (ad Γ 63)), (2, .ref (ad Γ 66)), (3, .int (nI i))] []) (hs : sim_may Rel) (c : CSt) (w : LSt) (hR : Rel c w) : Y Γ (fun q : Nat => s.heap.size ≤ q) p l e room_1 s m #[Value.ref b] below meth c' 77 2245 (lw_Z below #[Value.ref b] s) 4 (c, w) 801 [(0, .ref b), (1, .ref (ad Γ 63)), (2, .ref (ad Γ 66)), (3, .int (nI i))] [] := by
  have hbA : ¬ (fun q : Nat => s.heap.size ≤ q) b := Nat.not_le.mpr hbl
  obtain ⟨x, y, hx, hy, hxy, hR2⟩ := hs c w hR (xs (i + 1))
  refine y_aload_n hC dL_law_801 1 rfl 802 rfl ?_
  refine y_aload_n hC dL_law_802 0 rfl 803 rfl ?_
  refine y_iload_n hC dL_law_803 3 rfl 804 rfl ?_
  refine y_iconst hC dL_law_804 (v := (1 : Int32)) (by decide) 805 rfl ?_
  refine y_iadd hC dL_law_805 806 rfl ?_
  refine y_topi (nI_add i 1).symm ?_
  refine y_sld hC hX hbl hbA (vp_in_nI (by omega) (by omega)) dL_law_806 807 rfl ?_
  rw [nI_clamp (show i + 1 < 2 ^ 31 by omega)]
  refine y_callV hC 63 (hA 63 (by decide)) (cl_H (u := c.1) rfl) rfl (c_X10_may hJ hA l (c, w) c (xs (i + 1)) x hx) rfl ⟨w4_42, w1_1, cwd_X10_may, by decide, by decide⟩ w4_39 w4_40 w4_41 rfl rfl (Nat.le_of_ble_eq_true rfl) (by decide) dL_law_807 810 rfl (x.2, w) rfl [.int x.1] rfl ?_
  refine y_aload_n hC dL_law_810 2 rfl 811 rfl ?_
  refine y_aload_n hC dL_law_811 0 rfl 812 rfl ?_
  refine y_iload_n hC dL_law_812 3 rfl 813 rfl ?_
  refine y_iconst hC dL_law_813 (v := (1 : Int32)) (by decide) 814 rfl ?_
  refine y_iadd hC dL_law_814 815 rfl ?_
  refine y_topi (nI_add i 1).symm ?_
  refine y_sld hC hX hbl hbA (vp_in_nI (by omega) (by omega)) dL_law_815 816 rfl ?_
  rw [nI_clamp (show i + 1 < 2 ^ 31 by omega)]
  refine y_callV hC 66 (hB 66 (by decide) (by decide)) (cl_L (u := w) rfl) rfl (c_X11_may hJ hB l (x.2, w) w (xs (i + 1)) y hy) rfl ⟨w5_179, w1_13, cwd_X11_may, by decide, by decide⟩ w5_176 w5_177 w5_178 rfl rfl (Nat.le_of_ble_eq_true rfl) (by decide) dL_law_816 819 rfl (x.2, y.2) rfl [.int y.1, .int x.1] rfl ?_
  refine y_icmp_eq hC dL_law_819 997 (by decide) 822 rfl (fun _ => K _ _ hR2) (fun h => absurd hxy h)
set_option maxHeartbeats 4000000 in
set_option maxRecDepth 100000 in
theorem lc_drawn {Γ : GC} {p : Program} {l : Launch} {e : Env} {s : State} {m : MethodId} {below : List Frame} {meth : Method} {c' : Code} {b L : Nat} {xs : Nat → Int32} (hC : CX Γ (fun q : Nat => s.heap.size ≤ q) p s m #[Value.ref b] c' R_law code 4) (hJ : GJ Γ) (hA : ∀ i, i < 66 → act Γ i) (hB : ∀ i, 66 ≤ i → i < 77 → act Γ i) (hX : va_X b L xs s s.heap) (hbl : b < s.heap.size) (hL : L ≤ 2560) {Rel : CSt → LSt → Prop} (i : Nat) (hi : i + 5 ≤ L) (K : ∀ c w, Rel c w → Y Γ (fun q : Nat => s.heap.size ≤ q) p l e room_1 s m #[Value.ref b] below meth c' 77 2245 (lw_Z below #[Value.ref b] s) 4 (c, w) 997 [(0, .ref b), (1, .ref (ad Γ 63)), (2, .ref (ad Γ 66)), (3, .int (nI i))] []) (hs : sim_drawn Rel) (c : CSt) (w : LSt) (hR : Rel c w) : Y Γ (fun q : Nat => s.heap.size ≤ q) p l e room_1 s m #[Value.ref b] below meth c' 77 2245 (lw_Z below #[Value.ref b] s) 4 (c, w) 824 [(0, .ref b), (1, .ref (ad Γ 63)), (2, .ref (ad Γ 66)), (3, .int (nI i))] [] := by
  have hbA : ¬ (fun q : Nat => s.heap.size ≤ q) b := Nat.not_le.mpr hbl
  obtain ⟨x, y, hx, hy, hxy, hR2⟩ := hs c w hR (xs (i + 1)) (xs (i + 2)) (xs (i + 3))
  refine y_aload_n hC dL_law_824 1 rfl 825 rfl ?_
  refine y_aload_n hC dL_law_825 0 rfl 826 rfl ?_
  refine y_iload_n hC dL_law_826 3 rfl 827 rfl ?_
  refine y_iconst hC dL_law_827 (v := (1 : Int32)) (by decide) 828 rfl ?_
  refine y_iadd hC dL_law_828 829 rfl ?_
  refine y_topi (nI_add i 1).symm ?_
  refine y_sld hC hX hbl hbA (vp_in_nI (by omega) (by omega)) dL_law_829 830 rfl ?_
  rw [nI_clamp (show i + 1 < 2 ^ 31 by omega)]
  refine y_aload_n hC dL_law_830 0 rfl 831 rfl ?_
  refine y_iload_n hC dL_law_831 3 rfl 832 rfl ?_
  refine y_iconst hC dL_law_832 (v := (2 : Int32)) (by decide) 833 rfl ?_
  refine y_iadd hC dL_law_833 834 rfl ?_
  refine y_topi (nI_add i 2).symm ?_
  refine y_sld hC hX hbl hbA (vp_in_nI (by omega) (by omega)) dL_law_834 835 rfl ?_
  rw [nI_clamp (show i + 2 < 2 ^ 31 by omega)]
  refine y_aload_n hC dL_law_835 0 rfl 836 rfl ?_
  refine y_iload_n hC dL_law_836 3 rfl 837 rfl ?_
  refine y_iconst hC dL_law_837 (v := (3 : Int32)) (by decide) 838 rfl ?_
  refine y_iadd hC dL_law_838 839 rfl ?_
  refine y_topi (nI_add i 3).symm ?_
  refine y_sld hC hX hbl hbA (vp_in_nI (by omega) (by omega)) dL_law_839 840 rfl ?_
  rw [nI_clamp (show i + 3 < 2 ^ 31 by omega)]
  refine y_callV hC 63 (hA 63 (by decide)) (cl_H (u := c.1) rfl) rfl (c_X10_drawn hJ hA l (c, w) c (xs (i + 1)) (xs (i + 2)) (xs (i + 3)) x hx) rfl ⟨w4_51, w1_1, cwd_X10_drawn, by decide, by decide⟩ w4_48 w4_49 w4_50 rfl rfl (Nat.le_of_ble_eq_true rfl) (by decide) dL_law_840 843 rfl (x.2, w) rfl [.int x.1] rfl ?_
  refine y_aload_n hC dL_law_843 2 rfl 844 rfl ?_
  refine y_aload_n hC dL_law_844 0 rfl 845 rfl ?_
  refine y_iload_n hC dL_law_845 3 rfl 846 rfl ?_
  refine y_iconst hC dL_law_846 (v := (1 : Int32)) (by decide) 847 rfl ?_
  refine y_iadd hC dL_law_847 848 rfl ?_
  refine y_topi (nI_add i 1).symm ?_
  refine y_sld hC hX hbl hbA (vp_in_nI (by omega) (by omega)) dL_law_848 849 rfl ?_
  rw [nI_clamp (show i + 1 < 2 ^ 31 by omega)]
  refine y_aload_n hC dL_law_849 0 rfl 850 rfl ?_
  refine y_iload_n hC dL_law_850 3 rfl 851 rfl ?_
  refine y_iconst hC dL_law_851 (v := (2 : Int32)) (by decide) 852 rfl ?_
  refine y_iadd hC dL_law_852 853 rfl ?_
  refine y_topi (nI_add i 2).symm ?_
  refine y_sld hC hX hbl hbA (vp_in_nI (by omega) (by omega)) dL_law_853 854 rfl ?_
  rw [nI_clamp (show i + 2 < 2 ^ 31 by omega)]
  refine y_aload_n hC dL_law_854 0 rfl 855 rfl ?_
  refine y_iload_n hC dL_law_855 3 rfl 856 rfl ?_
  refine y_iconst hC dL_law_856 (v := (3 : Int32)) (by decide) 857 rfl ?_
  refine y_iadd hC dL_law_857 858 rfl ?_
  refine y_topi (nI_add i 3).symm ?_
  refine y_sld hC hX hbl hbA (vp_in_nI (by omega) (by omega)) dL_law_858 859 rfl ?_
  rw [nI_clamp (show i + 3 < 2 ^ 31 by omega)]
  refine y_callV hC 66 (hB 66 (by decide) (by decide)) (cl_L (u := w) rfl) rfl (c_X11_drawn hJ hB l (x.2, w) w (xs (i + 1)) (xs (i + 2)) (xs (i + 3)) y hy) rfl ⟨w5_183, w1_13, cwd_X11_drawn, by decide, by decide⟩ w5_180 w5_181 w5_182 rfl rfl (Nat.le_of_ble_eq_true rfl) (by decide) dL_law_859 862 rfl (x.2, y.2) rfl [.int y.1, .int x.1] rfl ?_
  refine y_icmp_eq hC dL_law_862 997 (by decide) 865 rfl (fun _ => K _ _ hR2) (fun h => absurd hxy h)
set_option maxHeartbeats 4000000 in
set_option maxRecDepth 100000 in
theorem lc_part {Γ : GC} {p : Program} {l : Launch} {e : Env} {s : State} {m : MethodId} {below : List Frame} {meth : Method} {c' : Code} {b L : Nat} {xs : Nat → Int32} (hC : CX Γ (fun q : Nat => s.heap.size ≤ q) p s m #[Value.ref b] c' R_law code 4) (hJ : GJ Γ) (hA : ∀ i, i < 66 → act Γ i) (hB : ∀ i, 66 ≤ i → i < 77 → act Γ i) (hX : va_X b L xs s s.heap) (hbl : b < s.heap.size) (hL : L ≤ 2560) {Rel : CSt → LSt → Prop} (i : Nat) (hi : i + 5 ≤ L) (K : ∀ c w, Rel c w → Y Γ (fun q : Nat => s.heap.size ≤ q) p l e room_1 s m #[Value.ref b] below meth c' 77 2245 (lw_Z below #[Value.ref b] s) 4 (c, w) 997 [(0, .ref b), (1, .ref (ad Γ 63)), (2, .ref (ad Γ 66)), (3, .int (nI i))] []) (hs : sim_part Rel) (c : CSt) (w : LSt) (hR : Rel c w) : Y Γ (fun q : Nat => s.heap.size ≤ q) p l e room_1 s m #[Value.ref b] below meth c' 77 2245 (lw_Z below #[Value.ref b] s) 4 (c, w) 867 [(0, .ref b), (1, .ref (ad Γ 63)), (2, .ref (ad Γ 66)), (3, .int (nI i))] [] := by
  have hbA : ¬ (fun q : Nat => s.heap.size ≤ q) b := Nat.not_le.mpr hbl
  obtain ⟨x, y, hx, hy, hxy, hR2⟩ := hs c w hR (xs (i + 1))
  refine y_aload_n hC dL_law_867 1 rfl 868 rfl ?_
  refine y_aload_n hC dL_law_868 0 rfl 869 rfl ?_
  refine y_iload_n hC dL_law_869 3 rfl 870 rfl ?_
  refine y_iconst hC dL_law_870 (v := (1 : Int32)) (by decide) 871 rfl ?_
  refine y_iadd hC dL_law_871 872 rfl ?_
  refine y_topi (nI_add i 1).symm ?_
  refine y_sld hC hX hbl hbA (vp_in_nI (by omega) (by omega)) dL_law_872 873 rfl ?_
  rw [nI_clamp (show i + 1 < 2 ^ 31 by omega)]
  refine y_callV hC 63 (hA 63 (by decide)) (cl_H (u := c.1) rfl) rfl (c_X10_part hJ hA l (c, w) c (xs (i + 1)) x hx) rfl ⟨w4_61, w1_1, cwd_X10_part, by decide, by decide⟩ w4_58 w4_59 w4_60 rfl rfl (Nat.le_of_ble_eq_true rfl) (by decide) dL_law_873 876 rfl (x.2, w) rfl [.long x.1] rfl ?_
  refine y_aload_n hC dL_law_876 2 rfl 877 rfl ?_
  refine y_aload_n hC dL_law_877 0 rfl 878 rfl ?_
  refine y_iload_n hC dL_law_878 3 rfl 879 rfl ?_
  refine y_iconst hC dL_law_879 (v := (1 : Int32)) (by decide) 880 rfl ?_
  refine y_iadd hC dL_law_880 881 rfl ?_
  refine y_topi (nI_add i 1).symm ?_
  refine y_sld hC hX hbl hbA (vp_in_nI (by omega) (by omega)) dL_law_881 882 rfl ?_
  rw [nI_clamp (show i + 1 < 2 ^ 31 by omega)]
  refine y_callV hC 66 (hB 66 (by decide) (by decide)) (cl_L (u := w) rfl) rfl (c_X11_part hJ hB l (x.2, w) w (xs (i + 1)) y hy) rfl ⟨w5_194, w1_13, cwd_X11_part, by decide, by decide⟩ w5_191 w5_192 w5_193 rfl rfl (Nat.le_of_ble_eq_true rfl) (by decide) dL_law_882 885 rfl (x.2, y.2) rfl [.long y.1, .long x.1] rfl ?_
  refine y_lcmp hC dL_law_885 886 rfl ?_
  refine y_if_eq hC dL_law_886 997 (by decide) 889 rfl (fun _ => K _ _ hR2) (fun h => absurd (by rw [hxy]; exact lg_cmp_self _) h)
set_option maxHeartbeats 4000000 in
set_option maxRecDepth 100000 in
theorem lc_image {Γ : GC} {p : Program} {l : Launch} {e : Env} {s : State} {m : MethodId} {below : List Frame} {meth : Method} {c' : Code} {b L : Nat} {xs : Nat → Int32} (hC : CX Γ (fun q : Nat => s.heap.size ≤ q) p s m #[Value.ref b] c' R_law code 4) (hJ : GJ Γ) (hA : ∀ i, i < 66 → act Γ i) (hB : ∀ i, 66 ≤ i → i < 77 → act Γ i) (hX : va_X b L xs s s.heap) (hbl : b < s.heap.size) (hL : L ≤ 2560) {Rel : CSt → LSt → Prop} (i : Nat) (hi : i + 5 ≤ L) (K : ∀ c w, Rel c w → Y Γ (fun q : Nat => s.heap.size ≤ q) p l e room_1 s m #[Value.ref b] below meth c' 77 2245 (lw_Z below #[Value.ref b] s) 4 (c, w) 997 [(0, .ref b), (1, .ref (ad Γ 63)), (2, .ref (ad Γ 66)), (3, .int (nI i))] []) (hs : sim_image Rel) (c : CSt) (w : LSt) (hR : Rel c w) : Y Γ (fun q : Nat => s.heap.size ≤ q) p l e room_1 s m #[Value.ref b] below meth c' 77 2245 (lw_Z below #[Value.ref b] s) 4 (c, w) 891 [(0, .ref b), (1, .ref (ad Γ 63)), (2, .ref (ad Γ 66)), (3, .int (nI i))] [] := by
  have hbA : ¬ (fun q : Nat => s.heap.size ≤ q) b := Nat.not_le.mpr hbl
  obtain ⟨x, y, hx, hy, hxy, hR2⟩ := hs c w hR (xs (i + 1))
  refine y_aload_n hC dL_law_891 1 rfl 892 rfl ?_
  refine y_aload_n hC dL_law_892 0 rfl 893 rfl ?_
  refine y_iload_n hC dL_law_893 3 rfl 894 rfl ?_
  refine y_iconst hC dL_law_894 (v := (1 : Int32)) (by decide) 895 rfl ?_
  refine y_iadd hC dL_law_895 896 rfl ?_
  refine y_topi (nI_add i 1).symm ?_
  refine y_sld hC hX hbl hbA (vp_in_nI (by omega) (by omega)) dL_law_896 897 rfl ?_
  rw [nI_clamp (show i + 1 < 2 ^ 31 by omega)]
  refine y_callV hC 63 (hA 63 (by decide)) (cl_H (u := c.1) rfl) rfl (c_X10_image hJ hA l (c, w) c (xs (i + 1)) x hx) rfl ⟨w4_65, w1_1, cwd_X10_image, by decide, by decide⟩ w4_62 w4_63 w4_64 rfl rfl (Nat.le_of_ble_eq_true rfl) (by decide) dL_law_897 900 rfl (x.2, w) rfl [.int x.1] rfl ?_
  refine y_aload_n hC dL_law_900 2 rfl 901 rfl ?_
  refine y_aload_n hC dL_law_901 0 rfl 902 rfl ?_
  refine y_iload_n hC dL_law_902 3 rfl 903 rfl ?_
  refine y_iconst hC dL_law_903 (v := (1 : Int32)) (by decide) 904 rfl ?_
  refine y_iadd hC dL_law_904 905 rfl ?_
  refine y_topi (nI_add i 1).symm ?_
  refine y_sld hC hX hbl hbA (vp_in_nI (by omega) (by omega)) dL_law_905 906 rfl ?_
  rw [nI_clamp (show i + 1 < 2 ^ 31 by omega)]
  refine y_callV hC 66 (hB 66 (by decide) (by decide)) (cl_L (u := w) rfl) rfl (c_X11_image hJ hB l (x.2, w) w (xs (i + 1)) y hy) rfl ⟨w5_198, w1_13, cwd_X11_image, by decide, by decide⟩ w5_195 w5_196 w5_197 rfl rfl (Nat.le_of_ble_eq_true rfl) (by decide) dL_law_906 909 rfl (x.2, y.2) rfl [.int y.1, .int x.1] rfl ?_
  refine y_icmp_eq hC dL_law_909 997 (by decide) 912 rfl (fun _ => K _ _ hR2) (fun h => absurd hxy h)
set_option maxHeartbeats 4000000 in
set_option maxRecDepth 100000 in
theorem lc_from {Γ : GC} {p : Program} {l : Launch} {e : Env} {s : State} {m : MethodId} {below : List Frame} {meth : Method} {c' : Code} {b L : Nat} {xs : Nat → Int32} (hC : CX Γ (fun q : Nat => s.heap.size ≤ q) p s m #[Value.ref b] c' R_law code 4) (hJ : GJ Γ) (hA : ∀ i, i < 66 → act Γ i) (hB : ∀ i, 66 ≤ i → i < 77 → act Γ i) (hX : va_X b L xs s s.heap) (hbl : b < s.heap.size) (hL : L ≤ 2560) {Rel : CSt → LSt → Prop} (i : Nat) (hi : i + 5 ≤ L) (K : ∀ c w, Rel c w → Y Γ (fun q : Nat => s.heap.size ≤ q) p l e room_1 s m #[Value.ref b] below meth c' 77 2245 (lw_Z below #[Value.ref b] s) 4 (c, w) 997 [(0, .ref b), (1, .ref (ad Γ 63)), (2, .ref (ad Γ 66)), (3, .int (nI i))] []) (hs : sim_from Rel) (c : CSt) (w : LSt) (hR : Rel c w) : Y Γ (fun q : Nat => s.heap.size ≤ q) p l e room_1 s m #[Value.ref b] below meth c' 77 2245 (lw_Z below #[Value.ref b] s) 4 (c, w) 914 [(0, .ref b), (1, .ref (ad Γ 63)), (2, .ref (ad Γ 66)), (3, .int (nI i))] [] := by
  have hbA : ¬ (fun q : Nat => s.heap.size ≤ q) b := Nat.not_le.mpr hbl
  obtain ⟨x, y, hx, hy, hxy, hR2⟩ := hs c w hR (xs (i + 1))
  refine y_aload_n hC dL_law_914 1 rfl 915 rfl ?_
  refine y_aload_n hC dL_law_915 0 rfl 916 rfl ?_
  refine y_iload_n hC dL_law_916 3 rfl 917 rfl ?_
  refine y_iconst hC dL_law_917 (v := (1 : Int32)) (by decide) 918 rfl ?_
  refine y_iadd hC dL_law_918 919 rfl ?_
  refine y_topi (nI_add i 1).symm ?_
  refine y_sld hC hX hbl hbA (vp_in_nI (by omega) (by omega)) dL_law_919 920 rfl ?_
  rw [nI_clamp (show i + 1 < 2 ^ 31 by omega)]
  refine y_callV hC 63 (hA 63 (by decide)) (cl_H (u := c.1) rfl) rfl (c_X10_from hJ hA l (c, w) c (xs (i + 1)) x hx) rfl ⟨w4_69, w1_1, cwd_X10_from, by decide, by decide⟩ w4_66 w4_67 w4_68 rfl rfl (Nat.le_of_ble_eq_true rfl) (by decide) dL_law_920 923 rfl (x.2, w) rfl [.int x.1] rfl ?_
  refine y_aload_n hC dL_law_923 2 rfl 924 rfl ?_
  refine y_aload_n hC dL_law_924 0 rfl 925 rfl ?_
  refine y_iload_n hC dL_law_925 3 rfl 926 rfl ?_
  refine y_iconst hC dL_law_926 (v := (1 : Int32)) (by decide) 927 rfl ?_
  refine y_iadd hC dL_law_927 928 rfl ?_
  refine y_topi (nI_add i 1).symm ?_
  refine y_sld hC hX hbl hbA (vp_in_nI (by omega) (by omega)) dL_law_928 929 rfl ?_
  rw [nI_clamp (show i + 1 < 2 ^ 31 by omega)]
  refine y_callV hC 66 (hB 66 (by decide) (by decide)) (cl_L (u := w) rfl) rfl (c_X11_from hJ hB l (x.2, w) w (xs (i + 1)) y hy) rfl ⟨w5_202, w1_13, cwd_X11_from, by decide, by decide⟩ w5_199 w5_200 w5_201 rfl rfl (Nat.le_of_ble_eq_true rfl) (by decide) dL_law_929 932 rfl (x.2, y.2) rfl [.int y.1, .int x.1] rfl ?_
  refine y_icmp_eq hC dL_law_932 997 (by decide) 935 rfl (fun _ => K _ _ hR2) (fun h => absurd hxy h)
set_option maxHeartbeats 4000000 in
set_option maxRecDepth 100000 in
theorem lc_status {Γ : GC} {p : Program} {l : Launch} {e : Env} {s : State} {m : MethodId} {below : List Frame} {meth : Method} {c' : Code} {b L : Nat} {xs : Nat → Int32} (hC : CX Γ (fun q : Nat => s.heap.size ≤ q) p s m #[Value.ref b] c' R_law code 4) (hJ : GJ Γ) (hA : ∀ i, i < 66 → act Γ i) (hB : ∀ i, 66 ≤ i → i < 77 → act Γ i) (hX : va_X b L xs s s.heap) (hbl : b < s.heap.size) (hL : L ≤ 2560) {Rel : CSt → LSt → Prop} (i : Nat) (hi : i + 5 ≤ L) (K : ∀ c w, Rel c w → Y Γ (fun q : Nat => s.heap.size ≤ q) p l e room_1 s m #[Value.ref b] below meth c' 77 2245 (lw_Z below #[Value.ref b] s) 4 (c, w) 997 [(0, .ref b), (1, .ref (ad Γ 63)), (2, .ref (ad Γ 66)), (3, .int (nI i))] []) (hs : sim_status Rel) (c : CSt) (w : LSt) (hR : Rel c w) : Y Γ (fun q : Nat => s.heap.size ≤ q) p l e room_1 s m #[Value.ref b] below meth c' 77 2245 (lw_Z below #[Value.ref b] s) 4 (c, w) 937 [(0, .ref b), (1, .ref (ad Γ 63)), (2, .ref (ad Γ 66)), (3, .int (nI i))] [] := by
  have hbA : ¬ (fun q : Nat => s.heap.size ≤ q) b := Nat.not_le.mpr hbl
  obtain ⟨x, y, hx, hy, hxy, hR2⟩ := hs c w hR (xs (i + 1))
  refine y_aload_n hC dL_law_937 1 rfl 938 rfl ?_
  refine y_aload_n hC dL_law_938 0 rfl 939 rfl ?_
  refine y_iload_n hC dL_law_939 3 rfl 940 rfl ?_
  refine y_iconst hC dL_law_940 (v := (1 : Int32)) (by decide) 941 rfl ?_
  refine y_iadd hC dL_law_941 942 rfl ?_
  refine y_topi (nI_add i 1).symm ?_
  refine y_sld hC hX hbl hbA (vp_in_nI (by omega) (by omega)) dL_law_942 943 rfl ?_
  rw [nI_clamp (show i + 1 < 2 ^ 31 by omega)]
  refine y_callV hC 63 (hA 63 (by decide)) (cl_H (u := c.1) rfl) rfl (c_X10_status hJ hA l (c, w) c (xs (i + 1)) x hx) rfl ⟨w4_73, w1_1, cwd_X10_status, by decide, by decide⟩ w4_70 w4_71 w4_72 rfl rfl (Nat.le_of_ble_eq_true rfl) (by decide) dL_law_943 946 rfl (x.2, w) rfl [.int x.1] rfl ?_
  refine y_aload_n hC dL_law_946 2 rfl 947 rfl ?_
  refine y_aload_n hC dL_law_947 0 rfl 948 rfl ?_
  refine y_iload_n hC dL_law_948 3 rfl 949 rfl ?_
  refine y_iconst hC dL_law_949 (v := (1 : Int32)) (by decide) 950 rfl ?_
  refine y_iadd hC dL_law_950 951 rfl ?_
  refine y_topi (nI_add i 1).symm ?_
  refine y_sld hC hX hbl hbA (vp_in_nI (by omega) (by omega)) dL_law_951 952 rfl ?_
  rw [nI_clamp (show i + 1 < 2 ^ 31 by omega)]
  refine y_callV hC 66 (hB 66 (by decide) (by decide)) (cl_L (u := w) rfl) rfl (c_X11_status hJ hB l (x.2, w) w (xs (i + 1)) y hy) rfl ⟨w5_206, w1_13, cwd_X11_status, by decide, by decide⟩ w5_203 w5_204 w5_205 rfl rfl (Nat.le_of_ble_eq_true rfl) (by decide) dL_law_952 955 rfl (x.2, y.2) rfl [.int y.1, .int x.1] rfl ?_
  refine y_icmp_eq hC dL_law_955 997 (by decide) 958 rfl (fun _ => K _ _ hR2) (fun h => absurd hxy h)
set_option maxHeartbeats 4000000 in
set_option maxRecDepth 100000 in
theorem lc_count {Γ : GC} {p : Program} {l : Launch} {e : Env} {s : State} {m : MethodId} {below : List Frame} {meth : Method} {c' : Code} {b L : Nat} {xs : Nat → Int32} (hC : CX Γ (fun q : Nat => s.heap.size ≤ q) p s m #[Value.ref b] c' R_law code 4) (hJ : GJ Γ) (hA : ∀ i, i < 66 → act Γ i) (hB : ∀ i, 66 ≤ i → i < 77 → act Γ i) (hX : va_X b L xs s s.heap) (hbl : b < s.heap.size) (hL : L ≤ 2560) {Rel : CSt → LSt → Prop} (i : Nat) (hi : i + 5 ≤ L) (K : ∀ c w, Rel c w → Y Γ (fun q : Nat => s.heap.size ≤ q) p l e room_1 s m #[Value.ref b] below meth c' 77 2245 (lw_Z below #[Value.ref b] s) 4 (c, w) 997 [(0, .ref b), (1, .ref (ad Γ 63)), (2, .ref (ad Γ 66)), (3, .int (nI i))] []) (hs : sim_count Rel) (c : CSt) (w : LSt) (hR : Rel c w) : Y Γ (fun q : Nat => s.heap.size ≤ q) p l e room_1 s m #[Value.ref b] below meth c' 77 2245 (lw_Z below #[Value.ref b] s) 4 (c, w) 960 [(0, .ref b), (1, .ref (ad Γ 63)), (2, .ref (ad Γ 66)), (3, .int (nI i))] [] := by
  have hbA : ¬ (fun q : Nat => s.heap.size ≤ q) b := Nat.not_le.mpr hbl
  obtain ⟨x, y, hx, hy, hxy, hR2⟩ := hs c w hR (xs (i + 1))
  refine y_aload_n hC dL_law_960 1 rfl 961 rfl ?_
  refine y_aload_n hC dL_law_961 0 rfl 962 rfl ?_
  refine y_iload_n hC dL_law_962 3 rfl 963 rfl ?_
  refine y_iconst hC dL_law_963 (v := (1 : Int32)) (by decide) 964 rfl ?_
  refine y_iadd hC dL_law_964 965 rfl ?_
  refine y_topi (nI_add i 1).symm ?_
  refine y_sld hC hX hbl hbA (vp_in_nI (by omega) (by omega)) dL_law_965 966 rfl ?_
  rw [nI_clamp (show i + 1 < 2 ^ 31 by omega)]
  refine y_callV hC 63 (hA 63 (by decide)) (cl_H (u := c.1) rfl) rfl (c_X10_count hJ hA l (c, w) c (xs (i + 1)) x hx) rfl ⟨w4_77, w1_1, cwd_X10_count, by decide, by decide⟩ w4_74 w4_75 w4_76 rfl rfl (Nat.le_of_ble_eq_true rfl) (by decide) dL_law_966 969 rfl (x.2, w) rfl [.int x.1] rfl ?_
  refine y_aload_n hC dL_law_969 2 rfl 970 rfl ?_
  refine y_aload_n hC dL_law_970 0 rfl 971 rfl ?_
  refine y_iload_n hC dL_law_971 3 rfl 972 rfl ?_
  refine y_iconst hC dL_law_972 (v := (1 : Int32)) (by decide) 973 rfl ?_
  refine y_iadd hC dL_law_973 974 rfl ?_
  refine y_topi (nI_add i 1).symm ?_
  refine y_sld hC hX hbl hbA (vp_in_nI (by omega) (by omega)) dL_law_974 975 rfl ?_
  rw [nI_clamp (show i + 1 < 2 ^ 31 by omega)]
  refine y_callV hC 66 (hB 66 (by decide) (by decide)) (cl_L (u := w) rfl) rfl (c_X11_count hJ hB l (x.2, w) w (xs (i + 1)) y hy) rfl ⟨w5_211, w1_13, cwd_X11_count, by decide, by decide⟩ w5_208 w5_209 w5_210 rfl rfl (Nat.le_of_ble_eq_true rfl) (by decide) dL_law_975 978 rfl (x.2, y.2) rfl [.int y.1, .int x.1] rfl ?_
  refine y_icmp_eq hC dL_law_978 997 (by decide) 981 rfl (fun _ => K _ _ hR2) (fun h => absurd hxy h)
set_option maxHeartbeats 4000000 in
set_option maxRecDepth 100000 in
theorem lc_digest {Γ : GC} {p : Program} {l : Launch} {e : Env} {s : State} {m : MethodId} {below : List Frame} {meth : Method} {c' : Code} {b L : Nat} {xs : Nat → Int32} (hC : CX Γ (fun q : Nat => s.heap.size ≤ q) p s m #[Value.ref b] c' R_law code 4) (hJ : GJ Γ) (hA : ∀ i, i < 66 → act Γ i) (hB : ∀ i, 66 ≤ i → i < 77 → act Γ i) (hX : va_X b L xs s s.heap) (hbl : b < s.heap.size) (hL : L ≤ 2560) {Rel : CSt → LSt → Prop} (i : Nat) (hi : i + 5 ≤ L) (K : ∀ c w, Rel c w → Y Γ (fun q : Nat => s.heap.size ≤ q) p l e room_1 s m #[Value.ref b] below meth c' 77 2245 (lw_Z below #[Value.ref b] s) 4 (c, w) 997 [(0, .ref b), (1, .ref (ad Γ 63)), (2, .ref (ad Γ 66)), (3, .int (nI i))] []) (hs : sim_digest Rel) (c : CSt) (w : LSt) (hR : Rel c w) : Y Γ (fun q : Nat => s.heap.size ≤ q) p l e room_1 s m #[Value.ref b] below meth c' 77 2245 (lw_Z below #[Value.ref b] s) 4 (c, w) 983 [(0, .ref b), (1, .ref (ad Γ 63)), (2, .ref (ad Γ 66)), (3, .int (nI i))] [] := by
  have hbA : ¬ (fun q : Nat => s.heap.size ≤ q) b := Nat.not_le.mpr hbl
  obtain ⟨x, y, hx, hy, hxy, hR2⟩ := hs c w hR
  refine y_aload_n hC dL_law_983 1 rfl 984 rfl ?_
  refine y_callV hC 63 (hA 63 (by decide)) (cl_H (u := c.1) rfl) rfl (c_X10_digest hJ hA l (c, w) c x hx) rfl ⟨w4_85, w1_1, cwd_X10_digest, by decide, by decide⟩ w4_82 w4_83 w4_84 rfl rfl (Nat.le_of_ble_eq_true rfl) (by decide) dL_law_984 987 rfl (c, w) rfl [.long x] rfl ?_
  refine y_aload_n hC dL_law_987 2 rfl 988 rfl ?_
  refine y_callV hC 66 (hB 66 (by decide) (by decide)) (cl_L (u := w) rfl) rfl (c_X11_digest hJ hB l (c, w) w y hy) rfl ⟨w5_220, w1_13, cwd_X11_digest, by decide, by decide⟩ w5_217 w5_218 w5_219 rfl rfl (Nat.le_of_ble_eq_true rfl) (by decide) dL_law_988 991 rfl (c, y.2) rfl [.long y.1, .long x] rfl ?_
  refine y_lcmp hC dL_law_991 992 rfl ?_
  refine y_if_eq hC dL_law_992 997 (by decide) 995 rfl (fun _ => K _ _ hR2) (fun h => absurd (by rw [hxy]; exact lg_cmp_self _) h)
set_option maxHeartbeats 4000000 in
set_option maxRecDepth 100000 in
theorem law_loop {Γ : GC} {p : Program} {l : Launch} {e : Env} {s : State} {m : MethodId} {below : List Frame} {meth : Method} {c' : Code} {b L : Nat} {xs : Nat → Int32} (hC : CX Γ (fun q : Nat => s.heap.size ≤ q) p s m #[Value.ref b] c' R_law code 4) (hJ : GJ Γ) (hA : ∀ i, i < 66 → act Γ i) (hB : ∀ i, 66 ≤ i → i < 77 → act Γ i) (hX : va_X b L xs s s.heap) (hbl : b < s.heap.size) (hL : L ≤ 2560) (hr : meth.sig.returnType = ret) (hlk : meth.locks = false) {Rel : CSt → LSt → Prop} (hs : SimAll Rel) : ∀ (n i : Nat) (c : CSt) (w : LSt), i ≤ L + 4 → L + 5 ≤ i + n → Rel c w → Y Γ (fun q : Nat => s.heap.size ≤ q) p l e room_1 s m #[Value.ref b] below meth c' 77 2245 (lw_Z below #[Value.ref b] s) 4 (c, w) 18 [(0, .ref b), (1, .ref (ad Γ 63)), (2, .ref (ad Γ 66)), (3, .int (nI i))] [] := by
  have hbA : ¬ (fun q : Nat => s.heap.size ≤ q) b := Nat.not_le.mpr hbl
  intro n
  induction n with
  | zero => intro i c w h1 h2; exact absurd h2 (by omega)
  | succ n ih =>
    intro i c w h1 h2 hR
    refine y_iload_n hC dL_law_18 3 rfl 19 rfl ?_
    refine y_aload_n hC dL_law_19 0 rfl 20 rfl ?_
    refine y_sln hC hX hbl hbA dL_law_20 21 rfl ?_
    refine y_iconst hC dL_law_21 (v := 5) (by decide) 22 rfl ?_
    refine y_isub hC dL_law_22 23 rfl ?_
    have hcmp : (nI L - (5 : Int32) < nI i) ↔ L < i + 5 := by
      have e5 : (5 : Int32) = nI 5 := rfl
      rw [Int32.lt_iff_toInt_lt, e5, pk_sub_toInt (by omega) (by omega), ti_nI (by omega)]
      omega
    refine y_icmp_gt hC dL_law_23 1003 (by decide) 26 rfl (fun h => ?_) (fun h => ?_)
    · refine y_iconst hC dL_law_1003 (v := 1) (by decide) 1004 rfl ?_
      intro H locs ls hP hS hl
      refine va_forget (fun q hq => hS.2.2 q hq) ?_
      exact lw_ret hC.1 hC.2.1 hr hlk dL_law_1004
    · have hi : i + 5 ≤ L := by
        rw [hcmp] at h
        omega
      have K : ∀ c w, Rel c w → Y Γ (fun q : Nat => s.heap.size ≤ q) p l e room_1 s m #[Value.ref b] below meth c' 77 2245 (lw_Z below #[Value.ref b] s) 4 (c, w) 997 [(0, .ref b), (1, .ref (ad Γ 63)), (2, .ref (ad Γ 66)), (3, .int (nI i))] [] := by
        intro c w hR
        refine y_iinc hC dL_law_997 3 rfl (v := nI (i + 5)) (nI_add i 5) (by decide) [(3, .int (nI (i + 5))), (0, .ref b), (1, .ref (ad Γ 63)), (2, .ref (ad Γ 66))] rfl 1000 rfl ?_
        refine y_goto hC dL_law_1000 18 (by decide) ?_
        refine y_sub [1, 2, 3, 0] rfl ?_
        exact ih (i + 5) c w (by omega) (by omega) hR
      refine y_aload_n hC dL_law_26 0 rfl 27 rfl ?_
      refine y_iload_n hC dL_law_27 3 rfl 28 rfl ?_
      refine y_sld hC hX hbl hbA (vp_in_nI (by omega) (by omega)) dL_law_28 29 rfl ?_
      refine y_bipush hC dL_law_29 (v := 31) (by decide) 31 rfl ?_
      refine y_iand hC dL_law_31 32 rfl ?_
      obtain ⟨j, hj, ej⟩ := pk_andE (xs (nI i).toNatClampNeg) (m := 31) 5 (by decide)
      refine y_topi ej.symm ?_
      match j, hj with
      | 0, _ => exact y_tabI hC dL_law_32 (z := 0) (by decide) (by decide) (by decide) rfl 172 (by decide) (lc_market hC hJ hA hB hX hbl hL i hi K hs.1 c w hR)
      | 1, _ => exact y_tabI hC dL_law_32 (z := 1) (by decide) (by decide) (by decide) rfl 205 (by decide) (lc_bring hC hJ hA hB hX hbl hL i hi K hs.2.1 c w hR)
      | 2, _ => exact y_tabI hC dL_law_32 (z := 2) (by decide) (by decide) (by decide) rfl 228 (by decide) (lc_price hC hJ hA hB hX hbl hL i hi K hs.2.2.1 c w hR)
      | 3, _ => exact y_tabI hC dL_law_32 (z := 3) (by decide) (by decide) (by decide) rfl 261 (by decide) (lc_theirs hC hJ hA hB hX hbl hL i hi K hs.2.2.2.1 c w hR)
      | 4, _ => exact y_tabI hC dL_law_32 (z := 4) (by decide) (by decide) (by decide) rfl 294 (by decide) (lc_rain hC hJ hA hB hX hbl hL i hi K hs.2.2.2.2.1 c w hR)
      | 5, _ => exact y_tabI hC dL_law_32 (z := 5) (by decide) (by decide) (by decide) rfl 317 (by decide) (lc_buyer hC hJ hA hB hX hbl hL i hi K hs.2.2.2.2.2.1 c w hR)
      | 6, _ => exact y_tabI hC dL_law_32 (z := 6) (by decide) (by decide) (by decide) rfl 370 (by decide) (lc_type hC hJ hA hB hX hbl hL i hi K hs.2.2.2.2.2.2.1 c w hR)
      | 7, _ => exact y_tabI hC dL_law_32 (z := 7) (by decide) (by decide) (by decide) rfl 393 (by decide) (lc_clear hC hJ hA hB hX hbl hL i hi K hs.2.2.2.2.2.2.2.1 c w hR)
      | 8, _ => exact y_tabI hC dL_law_32 (z := 8) (by decide) (by decide) (by decide) rfl 406 (by decide) (lc_read hC hJ hA hB hX hbl hL i hi K hs.2.2.2.2.2.2.2.2.1 c w hR)
      | 9, _ => exact y_tabI hC dL_law_32 (z := 9) (by decide) (by decide) (by decide) rfl 419 (by decide) (lc_day hC hJ hA hB hX hbl hL i hi K hs.2.2.2.2.2.2.2.2.2.1 c w hR)
      | 10, _ => exact y_tabI hC dL_law_32 (z := 10) (by decide) (by decide) (by decide) rfl 432 (by decide) (lc_undo hC hJ hA hB hX hbl hL i hi K hs.2.2.2.2.2.2.2.2.2.2.1 c w hR)
      | 11, _ => exact y_tabI hC dL_law_32 (z := 11) (by decide) (by decide) (by decide) rfl 445 (by decide) (lc_of hC hJ hA hB hX hbl hL i hi K hs.2.2.2.2.2.2.2.2.2.2.2.1 c w hR)
      | 12, _ => exact y_tabI hC dL_law_32 (z := 12) (by decide) (by decide) (by decide) rfl 478 (by decide) (lc_about hC hJ hA hB hX hbl hL i hi K hs.2.2.2.2.2.2.2.2.2.2.2.2.1 c w hR)
      | 13, _ => exact y_tabI hC dL_law_32 (z := 13) (by decide) (by decide) (by decide) rfl 511 (by decide) (lc_takes hC hJ hA hB hX hbl hL i hi K hs.2.2.2.2.2.2.2.2.2.2.2.2.2.1 c w hR)
      | 14, _ => exact y_tabI hC dL_law_32 (z := 14) (by decide) (by decide) (by decide) rfl 534 (by decide) (lc_to hC hJ hA hB hX hbl hL i hi K hs.2.2.2.2.2.2.2.2.2.2.2.2.2.2.1 c w hR)
      | 15, _ => exact y_tabI hC dL_law_32 (z := 15) (by decide) (by decide) (by decide) rfl 567 (by decide) (lc_best hC hJ hA hB hX hbl hL i hi K hs.2.2.2.2.2.2.2.2.2.2.2.2.2.2.2.1 c w hR)
      | 16, _ => exact y_tabI hC dL_law_32 (z := 16) (by decide) (by decide) (by decide) rfl 620 (by decide) (lc_brings hC hJ hA hB hX hbl hL i hi K hs.2.2.2.2.2.2.2.2.2.2.2.2.2.2.2.2.1 c w hR)
      | 17, _ => exact y_tabI hC dL_law_32 (z := 17) (by decide) (by decide) (by decide) rfl 643 (by decide) (lc_come hC hJ hA hB hX hbl hL i hi K hs.2.2.2.2.2.2.2.2.2.2.2.2.2.2.2.2.2.1 c w hR)
      | 18, _ => exact y_tabI hC dL_law_32 (z := 18) (by decide) (by decide) (by decide) rfl 666 (by decide) (lc_stalls hC hJ hA hB hX hbl hL i hi K hs.2.2.2.2.2.2.2.2.2.2.2.2.2.2.2.2.2.2.1 c w hR)
      | 19, _ => exact y_tabI hC dL_law_32 (z := 19) (by decide) (by decide) (by decide) rfl 709 (by decide) (lc_mean hC hJ hA hB hX hbl hL i hi K hs.2.2.2.2.2.2.2.2.2.2.2.2.2.2.2.2.2.2.2.1 c w hR)
      | 20, _ => exact y_tabI hC dL_law_32 (z := 20) (by decide) (by decide) (by decide) rfl 732 (by decide) (lc_shout hC hJ hA hB hX hbl hL i hi K hs.2.2.2.2.2.2.2.2.2.2.2.2.2.2.2.2.2.2.2.2.1 c w hR)
      | 21, _ => exact y_tabI hC dL_law_32 (z := 21) (by decide) (by decide) (by decide) rfl 755 (by decide) (lc_sold hC hJ hA hB hX hbl hL i hi K hs.2.2.2.2.2.2.2.2.2.2.2.2.2.2.2.2.2.2.2.2.2.1 c w hR)
      | 22, _ => exact y_tabI hC dL_law_32 (z := 22) (by decide) (by decide) (by decide) rfl 788 (by decide) (lc_forget hC hJ hA hB hX hbl hL i hi K hs.2.2.2.2.2.2.2.2.2.2.2.2.2.2.2.2.2.2.2.2.2.2.1 c w hR)
      | 23, _ => exact y_tabI hC dL_law_32 (z := 23) (by decide) (by decide) (by decide) rfl 801 (by decide) (lc_may hC hJ hA hB hX hbl hL i hi K hs.2.2.2.2.2.2.2.2.2.2.2.2.2.2.2.2.2.2.2.2.2.2.2.1 c w hR)
      | 24, _ => exact y_tabI hC dL_law_32 (z := 24) (by decide) (by decide) (by decide) rfl 824 (by decide) (lc_drawn hC hJ hA hB hX hbl hL i hi K hs.2.2.2.2.2.2.2.2.2.2.2.2.2.2.2.2.2.2.2.2.2.2.2.2.1 c w hR)
      | 25, _ => exact y_tabI hC dL_law_32 (z := 25) (by decide) (by decide) (by decide) rfl 867 (by decide) (lc_part hC hJ hA hB hX hbl hL i hi K hs.2.2.2.2.2.2.2.2.2.2.2.2.2.2.2.2.2.2.2.2.2.2.2.2.2.1 c w hR)
      | 26, _ => exact y_tabI hC dL_law_32 (z := 26) (by decide) (by decide) (by decide) rfl 891 (by decide) (lc_image hC hJ hA hB hX hbl hL i hi K hs.2.2.2.2.2.2.2.2.2.2.2.2.2.2.2.2.2.2.2.2.2.2.2.2.2.2.1 c w hR)
      | 27, _ => exact y_tabI hC dL_law_32 (z := 27) (by decide) (by decide) (by decide) rfl 914 (by decide) (lc_from hC hJ hA hB hX hbl hL i hi K hs.2.2.2.2.2.2.2.2.2.2.2.2.2.2.2.2.2.2.2.2.2.2.2.2.2.2.2.1 c w hR)
      | 28, _ => exact y_tabI hC dL_law_32 (z := 28) (by decide) (by decide) (by decide) rfl 937 (by decide) (lc_status hC hJ hA hB hX hbl hL i hi K hs.2.2.2.2.2.2.2.2.2.2.2.2.2.2.2.2.2.2.2.2.2.2.2.2.2.2.2.2.1 c w hR)
      | 29, _ => exact y_tabI hC dL_law_32 (z := 29) (by decide) (by decide) (by decide) rfl 960 (by decide) (lc_count hC hJ hA hB hX hbl hL i hi K hs.2.2.2.2.2.2.2.2.2.2.2.2.2.2.2.2.2.2.2.2.2.2.2.2.2.2.2.2.2.1 c w hR)
      | 30, _ => exact y_tabI hC dL_law_32 (z := 30) (by decide) (by decide) (by decide) rfl 983 (by decide) (lc_digest hC hJ hA hB hX hbl hL i hi K hs.2.2.2.2.2.2.2.2.2.2.2.2.2.2.2.2.2.2.2.2.2.2.2.2.2.2.2.2.2.2 c w hR)
      | 31, _ => exact y_tabO hC dL_law_32 (by decide) 997 (by decide) (K c w hR)
      | j + 32, h => exact absurd h (by omega)
