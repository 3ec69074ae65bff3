-- ===== the text: words by the reference =====
theorem j20_L {b : Nat → Int32} {w : LSt} {L : Nat} (hT : TXT b w L) {q e n : Nat} (hq : q ≤ e) (he : e ≤ L) (hn : 4 ≤ n) (hn6 : n ≤ 6) {iw : Int32} (hiw : iw = 0 ∨ iw = 1) (ig v c0 c1 c2 c3 c4 c5 : Int32) : f_X11_isNamed_j20 (wT w (nI e) (nI q) iw ig v) c0 c1 c2 c3 c4 c5 (nI n) = if iw = 1 ∧ e - q = n ∧ b q = c0 ∧ b (q + 1) = c1 ∧ b (q + 2) = c2 ∧ b (q + 3) = c3 then f_X11_isNamed_j103 (wT w (nI e) (nI q) iw ig v) c0 c1 c2 c3 c4 c5 1 else some 0 := by
  have hL := hT.1
  obtain ⟨p1, p2, p3, -⟩ := wT_p w (nI e) (nI q) iw ig v
  have j102 : f_X11_isNamed_j102 (wT w (nI e) (nI q) iw ig v) c0 c1 c2 c3 c4 c5 = some 0 := by
    unfold f_X11_isNamed_j102 f_X11_isNamed_j103
    exact if_pos rfl
  unfold f_X11_isNamed_j20
  rw [p1, p2, p3, j102]
  rcases hiw with h0 | h1
  · rw [if_pos h0, if_neg (fun h => by rw [h0] at h; exact absurd h.1 (by decide))]
  · rw [if_neg (by rw [h1]; decide), nI_sub hq]
    by_cases cl : e - q = n
    · have hb : ∀ k, k < n → f_X11_byteAt (wT w (nI e) (nI q) iw ig v) (nI (q + k)) = some (b (q + k)) := by
        intro k hk
        rw [byteL hT _ _ _ _ _ (by omega), if_pos (by omega)]
      have hb0 := hb 0 (by omega)
      rw [Nat.add_zero] at hb0
      rw [if_pos (congrArg nI cl), hb0, Option.bind_some, show nI q + 1 = nI (q + 1) from nI_1 q, hb 1 (by omega), Option.bind_some, show nI q + 2 = nI (q + 2) from nI_add q 2, hb 2 (by omega), Option.bind_some, show nI q + 3 = nI (q + 3) from nI_add q 3, hb 3 (by omega), Option.bind_some]
      by_cases d0 : b q = c0
      · rw [if_pos d0]
        by_cases d1 : b (q + 1) = c1
        · rw [if_pos d1]
          by_cases d2 : b (q + 2) = c2
          · rw [if_pos d2]
            by_cases d3 : b (q + 3) = c3
            · rw [if_pos d3, if_pos ⟨h1, cl, d0, d1, d2, d3⟩]
            · rw [if_neg d3, if_neg (fun h => d3 h.2.2.2.2.2)]
          · rw [if_neg d2, if_neg (fun h => d2 h.2.2.2.2.1)]
        · rw [if_neg d1, if_neg (fun h => d1 h.2.2.2.1)]
      · rw [if_neg d0, if_neg (fun h => d0 h.2.2.1)]
    · rw [if_neg (fun h => cl ((eq_nI (by omega) (by omega)).mp h)), if_neg (fun h => cl h.2.1)]
theorem named4 {b : Nat → Int32} {w : LSt} {L : Nat} (hT : TXT b w L) {q e : Nat} (hq : q ≤ e) (he : e ≤ L) {iw : Int32} (hiw : iw = 0 ∨ iw = 1) (ig v c0 c1 c2 c3 : Int32) : f_X11_isNamed (wT w (nI e) (nI q) iw ig v) c0 c1 c2 c3 0 0 = some (if iw = 1 ∧ e - q = 4 ∧ b q = c0 ∧ b (q + 1) = c1 ∧ b (q + 2) = c2 ∧ b (q + 3) = c3 then 1 else 0) := by
  unfold f_X11_isNamed
  rw [if_pos rfl, show (4 : Int32) = nI 4 from rfl, j20_L hT hq he (by omega) (by omega) hiw]
  by_cases c : iw = 1 ∧ e - q = 4 ∧ b q = c0 ∧ b (q + 1) = c1 ∧ b (q + 2) = c2 ∧ b (q + 3) = c3
  · rw [if_pos c, if_pos c]
    unfold f_X11_isNamed_j103 f_X11_isNamed_j130 f_X11_isNamed_j150
    rw [if_neg one0, if_pos rfl, if_pos rfl]
  · rw [if_neg c, if_neg c]
theorem named5 {b : Nat → Int32} {w : LSt} {L : Nat} (hT : TXT b w L) {q e : Nat} (hq : q ≤ e) (he : e ≤ L) {iw : Int32} (hiw : iw = 0 ∨ iw = 1) (ig v c0 c1 c2 c3 : Int32) {c4 : Int32} (h4 : ¬ c4 = 0) : f_X11_isNamed (wT w (nI e) (nI q) iw ig v) c0 c1 c2 c3 c4 0 = some (if iw = 1 ∧ e - q = 5 ∧ b q = c0 ∧ b (q + 1) = c1 ∧ b (q + 2) = c2 ∧ b (q + 3) = c3 ∧ b (q + 4) = c4 then 1 else 0) := by
  have hL := hT.1
  unfold f_X11_isNamed
  rw [if_neg h4, if_pos rfl, show (5 : Int32) = nI 5 from rfl, j20_L hT hq he (by omega) (by omega) hiw]
  by_cases c : iw = 1 ∧ e - q = 5 ∧ b q = c0 ∧ b (q + 1) = c1 ∧ b (q + 2) = c2 ∧ b (q + 3) = c3
  · rw [if_pos c]
    unfold f_X11_isNamed_j103 f_X11_isNamed_j130 f_X11_isNamed_j150
    rw [if_neg one0, if_neg h4, (wT_p w (nI e) (nI q) iw ig v).2.1, show nI q + 4 = nI (q + 4) from nI_add q 4, byteL hT _ _ _ _ _ (by omega), Option.bind_some, if_pos (show q + 4 < L by omega), if_pos rfl]
    by_cases d : b (q + 4) = c4
    · rw [if_pos d, if_pos ⟨c.1, c.2.1, c.2.2.1, c.2.2.2.1, c.2.2.2.2.1, c.2.2.2.2.2, d⟩]
    · rw [if_neg d, if_neg (fun h => d h.2.2.2.2.2.2)]
  · rw [if_neg c, if_neg (fun h => c ⟨h.1, h.2.1, h.2.2.1, h.2.2.2.1, h.2.2.2.2.1, h.2.2.2.2.2.1⟩)]
theorem named6 {b : Nat → Int32} {w : LSt} {L : Nat} (hT : TXT b w L) {q e : Nat} (hq : q ≤ e) (he : e ≤ L) {iw : Int32} (hiw : iw = 0 ∨ iw = 1) (ig v c0 c1 c2 c3 : Int32) {c4 c5 : Int32} (h4 : ¬ c4 = 0) (h5 : ¬ c5 = 0) : f_X11_isNamed (wT w (nI e) (nI q) iw ig v) c0 c1 c2 c3 c4 c5 = some (if iw = 1 ∧ e - q = 6 ∧ b q = c0 ∧ b (q + 1) = c1 ∧ b (q + 2) = c2 ∧ b (q + 3) = c3 ∧ b (q + 4) = c4 ∧ b (q + 5) = c5 then 1 else 0) := by
  have hL := hT.1
  unfold f_X11_isNamed
  rw [if_neg h4, if_neg h5, show (6 : Int32) = nI 6 from rfl, j20_L hT hq he (by omega) (by omega) hiw]
  by_cases c : iw = 1 ∧ e - q = 6 ∧ b q = c0 ∧ b (q + 1) = c1 ∧ b (q + 2) = c2 ∧ b (q + 3) = c3
  · rw [if_pos c]
    unfold f_X11_isNamed_j103 f_X11_isNamed_j130 f_X11_isNamed_j150
    rw [if_neg one0, if_neg h4, if_neg h5, (wT_p w (nI e) (nI q) iw ig v).2.1, show nI q + 4 = nI (q + 4) from nI_add q 4, show nI q + 5 = nI (q + 5) from nI_add q 5, byteL hT _ _ _ _ _ (by omega), Option.bind_some, if_pos (show q + 4 < L by omega), byteL hT _ _ _ _ _ (by omega), Option.bind_some, if_pos (show q + 5 < L by omega)]
    by_cases d : b (q + 4) = c4
    · rw [if_pos d]
      by_cases d5 : b (q + 5) = c5
      · rw [if_pos d5, if_pos ⟨c.1, c.2.1, c.2.2.1, c.2.2.2.1, c.2.2.2.2.1, c.2.2.2.2.2, d, d5⟩]
      · rw [if_neg d5, if_neg (fun h => d5 h.2.2.2.2.2.2.2)]
    · rw [if_neg d, if_neg (fun h => d h.2.2.2.2.2.2.1)]
  · rw [if_neg c, if_neg (fun h => c ⟨h.1, h.2.1, h.2.2.1, h.2.2.2.1, h.2.2.2.2.1, h.2.2.2.2.2.1⟩)]
theorem ite_iff {P Q : Prop} [Decidable P] [Decidable Q] (h : P ↔ Q) : (some (if P then (1 : Int32) else 0)) = some (if Q then 1 else 0) := by
  by_cases c : P
  · rw [if_pos c, if_pos (h.mp c)]
  · rw [if_neg c, if_neg (fun e => c (h.mpr e))]
theorem all6 {p : Nat → Prop} (h0 : p 0) (h1 : p 1) (h2 : p 2) (h3 : p 3) (h4 : p 4) (h5 : p 5) : ∀ k, k < 6 → p k := by
  intro k hk
  match k, hk with
  | 0, _ => exact h0
  | 1, _ => exact h1
  | 2, _ => exact h2
  | 3, _ => exact h3
  | 4, _ => exact h4
  | 5, _ => exact h5
  | k + 6, h => omega
theorem all5 {p : Nat → Prop} (h0 : p 0) (h1 : p 1) (h2 : p 2) (h3 : p 3) (h4 : p 4) : ∀ k, k < 5 → p k := by
  intro k hk
  match k, hk with
  | 0, _ => exact h0
  | 1, _ => exact h1
  | 2, _ => exact h2
  | 3, _ => exact h3
  | 4, _ => exact h4
  | k + 5, h => omega
theorem all4 {p : Nat → Prop} (h0 : p 0) (h1 : p 1) (h2 : p 2) (h3 : p 3) : ∀ k, k < 4 → p k := by
  intro k hk
  match k, hk with
  | 0, _ => exact h0
  | 1, _ => exact h1
  | 2, _ => exact h2
  | 3, _ => exact h3
  | k + 4, h => omega
theorem nm6 {b : Nat → Int32} {q e si : Nat} (hl : lenS.getD si 0 = 6) {iw : Int32} : (iw = 1 ∧ e - q = 6 ∧ b q = chS si 0 ∧ b (q + 1) = chS si 1 ∧ b (q + 2) = chS si 2 ∧ b (q + 3) = chS si 3 ∧ b (q + 4) = chS si 4 ∧ b (q + 5) = chS si 5) ↔ (iw = 1 ∧ nmd b q e si = true) := by
  rw [nmd_iff, hl]
  exact ⟨fun h => ⟨h.1, h.2.1, all6 h.2.2.1 h.2.2.2.1 h.2.2.2.2.1 h.2.2.2.2.2.1 h.2.2.2.2.2.2.1 h.2.2.2.2.2.2.2⟩, fun h => ⟨h.1, h.2.1, h.2.2 0 (by omega), h.2.2 1 (by omega), h.2.2 2 (by omega), h.2.2 3 (by omega), h.2.2 4 (by omega), h.2.2 5 (by omega)⟩⟩
theorem nm5 {b : Nat → Int32} {q e si : Nat} (hl : lenS.getD si 0 = 5) {iw : Int32} : (iw = 1 ∧ e - q = 5 ∧ b q = chS si 0 ∧ b (q + 1) = chS si 1 ∧ b (q + 2) = chS si 2 ∧ b (q + 3) = chS si 3 ∧ b (q + 4) = chS si 4) ↔ (iw = 1 ∧ nmd b q e si = true) := by
  rw [nmd_iff, hl]
  exact ⟨fun h => ⟨h.1, h.2.1, all5 h.2.2.1 h.2.2.2.1 h.2.2.2.2.1 h.2.2.2.2.2.1 h.2.2.2.2.2.2⟩, fun h => ⟨h.1, h.2.1, h.2.2 0 (by omega), h.2.2 1 (by omega), h.2.2 2 (by omega), h.2.2 3 (by omega), h.2.2 4 (by omega)⟩⟩
theorem nm4 {b : Nat → Int32} {q e si : Nat} (hl : lenS.getD si 0 = 4) {iw : Int32} : (iw = 1 ∧ e - q = 4 ∧ b q = chS si 0 ∧ b (q + 1) = chS si 1 ∧ b (q + 2) = chS si 2 ∧ b (q + 3) = chS si 3) ↔ (iw = 1 ∧ nmd b q e si = true) := by
  rw [nmd_iff, hl]
  exact ⟨fun h => ⟨h.1, h.2.1, all4 h.2.2.1 h.2.2.2.1 h.2.2.2.2.1 h.2.2.2.2.2⟩, fun h => ⟨h.1, h.2.1, h.2.2 0 (by omega), h.2.2 1 (by omega), h.2.2 2 (by omega), h.2.2 3 (by omega)⟩⟩
theorem wordNow_L {b : Nat → Int32} {w : LSt} {L : Nat} (hT : TXT b w L) {q e : Nat} (hq : q ≤ e) (he : e ≤ L) {iw : Int32} (hiw : iw = 0 ∨ iw = 1) (ig v : Int32) : f_X11_wordNow (wT w (nI e) (nI q) iw ig v) = some (if iw = 1 ∧ nmd b q e 0 = true then 0 else if iw = 1 ∧ nmd b q e 1 = true then 1 else if iw = 1 ∧ nmd b q e 2 = true then 2 else if iw = 1 ∧ nmd b q e 3 = true then 3 else if iw = 1 ∧ nmd b q e 4 = true then 4 else -1) := by
  have m0 : f_X11_isNamed (wT w (nI e) (nI q) iw ig v) 109 97 114 107 101 116 = some (if iw = 1 ∧ nmd b q e 0 = true then 1 else 0) := (named6 hT hq he hiw ig v _ _ _ _ (by decide) (by decide)).trans (ite_iff (nm6 (si := 0) rfl))
  have m1 : f_X11_isNamed (wT w (nI e) (nI q) iw ig v) 112 114 105 99 101 0 = some (if iw = 1 ∧ nmd b q e 1 = true then 1 else 0) := (named5 hT hq he hiw ig v _ _ _ _ (by decide)).trans (ite_iff (nm5 (si := 1) rfl))
  have m2 : f_X11_isNamed (wT w (nI e) (nI q) iw ig v) 116 104 101 105 114 115 = some (if iw = 1 ∧ nmd b q e 2 = true then 1 else 0) := (named6 hT hq he hiw ig v _ _ _ _ (by decide) (by decide)).trans (ite_iff (nm6 (si := 2) rfl))
  have m3 : f_X11_isNamed (wT w (nI e) (nI q) iw ig v) 114 97 105 110 0 0 = some (if iw = 1 ∧ nmd b q e 3 = true then 1 else 0) := (named4 hT hq he hiw ig v _ _ _ _).trans (ite_iff (nm4 (si := 3) rfl))
  have m4 : f_X11_isNamed (wT w (nI e) (nI q) iw ig v) 98 117 121 101 114 0 = some (if iw = 1 ∧ nmd b q e 4 = true then 1 else 0) := (named5 hT hq he hiw ig v _ _ _ _ (by decide)).trans (ite_iff (nm5 (si := 4) rfl))
  unfold f_X11_wordNow
  rw [m0, Option.bind_some]
  by_cases c0 : iw = 1 ∧ nmd b q e 0 = true
  · rw [if_pos c0, if_pos c0, if_neg one0]
  · rw [if_neg c0, if_neg c0, if_pos rfl, m1, Option.bind_some]
    by_cases c1 : iw = 1 ∧ nmd b q e 1 = true
    · rw [if_pos c1, if_pos c1, if_neg one0]
    · rw [if_neg c1, if_neg c1, if_pos rfl, m2, Option.bind_some]
      by_cases c2 : iw = 1 ∧ nmd b q e 2 = true
      · rw [if_pos c2, if_pos c2, if_neg one0]
      · rw [if_neg c2, if_neg c2, if_pos rfl, m3, Option.bind_some]
        by_cases c3 : iw = 1 ∧ nmd b q e 3 = true
        · rw [if_pos c3, if_pos c3, if_neg one0]
        · rw [if_neg c3, if_neg c3, if_pos rfl, m4, Option.bind_some]
          by_cases c4 : iw = 1 ∧ nmd b q e 4 = true
          · rw [if_pos c4, if_pos c4, if_neg one0]
          · rw [if_neg c4, if_neg c4, if_pos rfl]
theorem kind_w {b : Nat → Int32} {L q e : Nat} {t m iw ig : Int32} (h : KIND b L q e t m iw ig) : (t = 1 ↔ iw = 1) ∧ (iw = 0 ∨ iw = 1) ∧ (t = 0 ↔ q = L) := by
  rcases h with ⟨k1, k2, k3, k4⟩ | ⟨k1, k2, k3, k4, k5⟩ | ⟨k1, k2, k3, k4, k5, k6, k7⟩ | ⟨k1, k2, k3, k4⟩
  · rw [k2, k3]
    exact ⟨by decide, Or.inl rfl, fun _ => k1, fun _ => rfl⟩
  · rw [k2, k3]
    exact ⟨by decide, Or.inr rfl, fun h => absurd h (by decide), fun h => by omega⟩
  · rw [k3]
    have ht : ¬ t = 1 ∧ ¬ t = 0 := by
      rw [k2]
      by_cases c : 2 < e - q
      · rw [if_pos c]; decide
      · rw [if_neg c]; decide
    exact ⟨⟨fun h => absurd h ht.1, fun h => absurd h (by decide)⟩, Or.inl rfl, fun h => absurd h ht.2, fun h => by omega⟩
  · rw [k3]
    have ht : ¬ t = 1 ∧ ¬ t = 0 := by
      rw [k2]
      by_cases c : b q = 59
      · rw [if_pos c]; decide
      · rw [if_neg c]; decide
    exact ⟨⟨fun h => absurd h ht.1, fun h => absurd h (by decide)⟩, Or.inl rfl, fun h => absurd h ht.2, fun h => by omega⟩
