def f_X8_weigh_j149 (a1 : Int32) (a2 : Int32) (K19 : (Int32 × SSt × DSt × MSt) → Option (SSt × DSt × MSt)) (v5 : Int32) (gs : SSt) (gd : DSt) (gu : MSt) : Option (SSt × DSt × MSt) :=
  K19 ((v5 + (1 : Int32)), gs, gd, gu)
def f_X8_weigh_s43 (a1 : Int32) (a2 : Int32) (K19 : (Int32 × SSt × DSt × MSt) → Option (SSt × DSt × MSt)) (K43 : (Int32 × Int32 × SSt × DSt × MSt) → Option (SSt × DSt × MSt)) (q43 : Int32 × Int32 × SSt × DSt × MSt) : Option (SSt × DSt × MSt) :=
  if (11 : Int32) ≤ q43.2.1 then
    f_X8_weigh_j149 a1 a2 K19 q43.1 q43.2.2.1 q43.2.2.2.1 q43.2.2.2.2
  else
    (f_X3_setTheirPricesFrom q43.2.2.2.2 (0 : Int32) a1).bind fun x53 => 
      ((f_X3_setTheirPricesFrom x53 q43.2.1 a2).bind fun x61 => 
      ((f_X2_run q43.2.2.2.1 x61).bind fun x66 => 
      ((f_X10_pairOf q43.1 q43.2.1).bind fun x77 => 
      (if inb x77 121 then 
      (lt (sS_mine q43.2.2.1 (upd (pS_mine q43.2.2.1) x77.toNatClampNeg (pD_takings x66))) fun g84 => 
      ((f_X10_pairOf q43.1 q43.2.1).bind fun x93 => 
      (if inb x93 121 then 
      (lt (sS_others g84 (upd (pS_others g84) x93.toNatClampNeg (pD_theirTakings x66))) fun g100 => 
      (if inb q43.2.1 11 then 
      (if inb q43.2.1 11 then 
      (lt (sS_mostMine g100 (upd (pS_mostMine g100) q43.2.1.toNatClampNeg (if (pS_mostMine g100 q43.2.1.toNatClampNeg) < (pD_takings x66) then (pD_takings x66) else (pS_mostMine g100 q43.2.1.toNatClampNeg)))) fun g121 => 
      (if inb q43.1 11 then 
      (if inb q43.1 11 then 
      (lt (sS_mostOthers g121 (upd (pS_mostOthers g121) q43.1.toNatClampNeg (if (pS_mostOthers g121 q43.1.toNatClampNeg) < (pD_theirTakings x66) then (pD_theirTakings x66) else (pS_mostOthers g121 q43.1.toNatClampNeg)))) fun g142 => 
      (K43 (q43.1, (q43.2.1 + (1 : Int32)), g142, x66, x61)))
    else none)
    else none))
    else none)
    else none))
    else none)))
    else none))))
def f_X8_weigh_s19 (a1 : Int32) (a2 : Int32) (K19 : (Int32 × SSt × DSt × MSt) → Option (SSt × DSt × MSt)) (q19 : Int32 × SSt × DSt × MSt) : Option (SSt × DSt × MSt) :=
  if (11 : Int32) ≤ q19.1 then
    some (q19.2.1, q19.2.2.1, q19.2.2.2)
  else
    (f_X3_setPricesFrom q19.2.2.2 (0 : Int32) a1).bind fun x29 => 
      ((f_X3_setPricesFrom x29 q19.1 a2).bind fun x37 => 
      (lp (f_X8_weigh_s43 a1 a2 K19) 1000 (q19.1, (0 : Int32), q19.2.1, q19.2.2.1, x37)))
def f_X8_weigh (s : SSt) (d : DSt) (u : MSt) (a1 : Int32) (a2 : Int32) : Option (SSt × DSt × MSt) :=
  (f_J7_fill_53178 11 (0 : Int32) (pS_mostMine s)).bind fun x5 => 
    (lt (sS_mostMine s x5) fun g5 => 
    ((f_J7_fill_53178 11 (0 : Int32) (pS_mostOthers g5)).bind fun x13 => 
    (lt (sS_mostOthers g5 x13) fun g13 => 
    (lp (f_X8_weigh_s19 a1 a2) 1000 ((0 : Int32), g13, d, u)))))
theorem cwd_X8_weigh : yX8_weigh.cls ≠ "java/lang/invoke/MethodHandle" ∧ yX8_weigh.cls ≠ "java/lang/invoke/VarHandle" ∧ (parseMethodDescriptor yX8_weigh.desc).map (fun d => d.parameters.length) = some 4 := by decide +kernel
set_option maxHeartbeats 4000000 in
set_option maxRecDepth 100000 in
theorem c_X8_weigh {Γ : GC} (hJ : GJ Γ) (hA : ∀ i, i < 66 → act Γ i) (l : Launch) (σ : GSt) (k : Nat) (hk4 : k < 4) (s : SSt) (d : DSt) (u : MSt) (a1 : Int32) (a2 : Int32) (x : SSt × DSt × MSt) (hk : f_X8_weigh s d u a1 a2 = some x) : Mt Γ l yX8_weigh cX8_weigh 7 none 5 146 [.ref (ad Γ 56), .ref (ad Γ (10 * k)), .ref (ad Γ 40), .int a1, .int a2] (gS (gD (gM k σ u) d) s) none (gS (gD (gM k σ x.2.2) x.2.1) x.1) := by
  refine y_enter (by decide) hJ (Nat.le_of_ble_eq_true rfl) [(0, .ref (ad Γ 56)), (1, .ref (ad Γ (10 * k))), (2, .ref (ad Γ 40)), (3, .int a1), (4, .int a2)] rfl ?_
  intro p e s' m args below meth c' hC hr hlk
  have hM : ∀ j, j < 10 → act Γ (10 * k + j) := fun j hj => hA _ (by omega)
  have L19 : ∀ (n19 : Nat) (q19 : Int32 × SSt × DSt × MSt), lp (f_X8_weigh_s19 a1 a2) n19 q19 = some x → Y Γ (GA Γ) p l e ({ frames := 5, cells := 0, slots := 0, locals := 146 } : Room) s' m args below meth c' 0 0 (MQ below (Qg Γ none (gS (gD (gM k σ x.2.2) x.2.1) x.1)) args s' 0 0 (GA Γ)) 7 (gS (gD (gM k σ q19.2.2.2) q19.2.2.1) q19.2.1) 19 [(0, .ref (ad Γ 56)), (1, .ref (ad Γ (10 * k))), (2, .ref (ad Γ 40)), (3, .int a1), (4, .int a2), (5, .int q19.1)] [] := by
    intro n19
    induction n19 with
    | zero => intro q19 hk; exact (lp_zero hk).elim
    | succ n19 ih19 =>
      intro q19 hk
      have hk : f_X8_weigh_s19 a1 a2 (lp (f_X8_weigh_s19 a1 a2) n19) q19 = some x := (lp_succ _ _ _).symm.trans hk
      have J149 : ∀ (v5 : Int32) (gs : SSt) (gd : DSt) (gu : MSt), f_X8_weigh_j149 a1 a2 (lp (f_X8_weigh_s19 a1 a2) n19) v5 gs gd gu = some x → Y Γ (GA Γ) p l e ({ frames := 5, cells := 0, slots := 0, locals := 146 } : Room) s' m args below meth c' 0 0 (MQ below (Qg Γ none (gS (gD (gM k σ x.2.2) x.2.1) x.1)) args s' 0 0 (GA Γ)) 7 (gS (gD (gM k σ gu) gd) gs) 149 [(0, .ref (ad Γ 56)), (1, .ref (ad Γ (10 * k))), (2, .ref (ad Γ 40)), (3, .int a1), (4, .int a2), (5, .int v5)] [] := by
        intro v5 gs gd gu hk
        refine y_iinc hC dX8_weigh_149 5 rfl (v := (v5 + (1 : Int32))) rfl (by decide) [(5, .int (v5 + (1 : Int32))), (0, .ref (ad Γ 56)), (1, .ref (ad Γ (10 * k))), (2, .ref (ad Γ 40)), (3, .int a1), (4, .int a2)] rfl 152 rfl ?_
        refine y_goto hC dX8_weigh_152 19 (by decide) ?_
        refine y_sub [1, 2, 3, 4, 5, 0] rfl ?_
        exact ih19 ((v5 + (1 : Int32)), gs, gd, gu) hk
      have L43 : ∀ (n43 : Nat) (q43 : Int32 × Int32 × SSt × DSt × MSt), lp (f_X8_weigh_s43 a1 a2 (lp (f_X8_weigh_s19 a1 a2) n19)) n43 q43 = some x → Y Γ (GA Γ) p l e ({ frames := 5, cells := 0, slots := 0, locals := 146 } : Room) s' m args below meth c' 0 0 (MQ below (Qg Γ none (gS (gD (gM k σ x.2.2) x.2.1) x.1)) args s' 0 0 (GA Γ)) 7 (gS (gD (gM k σ q43.2.2.2.2) q43.2.2.2.1) q43.2.2.1) 43 [(0, .ref (ad Γ 56)), (1, .ref (ad Γ (10 * k))), (2, .ref (ad Γ 40)), (3, .int a1), (4, .int a2), (5, .int q43.1), (6, .int q43.2.1)] [] := by
        intro n43
        induction n43 with
        | zero => intro q43 hk; exact (lp_zero hk).elim
        | succ n43 ih43 =>
          intro q43 hk
          have hk : f_X8_weigh_s43 a1 a2 (lp (f_X8_weigh_s19 a1 a2) n19) (lp (f_X8_weigh_s43 a1 a2 (lp (f_X8_weigh_s19 a1 a2) n19)) n43) q43 = some x := (lp_succ _ _ _).symm.trans hk
          refine y_iload hC dX8_weigh_43 6 rfl 45 rfl ?_
          refine y_bipush hC dX8_weigh_45 (v := (11 : Int32)) (by decide) 47 rfl ?_
          refine y_icmp_ge hC dX8_weigh_47 149 (by decide) 50 rfl (fun h47 => ?_) (fun h47 => ?_)
          · have hk := ob_pos h47 hk
            refine y_sub [0, 1, 2, 3, 4, 5] rfl ?_
            exact J149 q43.1 q43.2.2.1 q43.2.2.2.1 q43.2.2.2.2 hk
          · have hk := ob_neg h47 hk
            refine y_aload_n hC dX8_weigh_50 1 rfl 51 rfl ?_
            refine y_iconst hC dX8_weigh_51 (v := (0 : Int32)) (by decide) 52 rfl ?_
            refine y_iload_n hC dX8_weigh_52 3 rfl 53 rfl ?_
            obtain ⟨x53, hx53, hk⟩ := ob_bind hk
            refine y_callVN hC (10 * k) (hM 0 (by decide)) (cl_M (k := k) (mm := σ.1.2.1) (u := q43.2.2.2.2) hk4 rfl) rfl (c_X3_setTheirPricesFrom hJ hA l (gS (gD σ q43.2.2.2.1) q43.2.2.1) k hk4 q43.2.2.2.2 (0 : Int32) a1 x53 hx53) rfl ⟨w3_231, w1_2, cwd_X3_setTheirPricesFrom, by decide, by decide⟩ w3_228 w3_230 ws3_7 rfl rfl (Nat.le_of_ble_eq_true rfl) (by decide) dX8_weigh_53 56 rfl (gS (gD (gM k σ x53) q43.2.2.2.1) q43.2.2.1) rfl [] rfl ?_
            refine y_aload_n hC dX8_weigh_56 1 rfl 57 rfl ?_
            refine y_iload hC dX8_weigh_57 6 rfl 59 rfl ?_
            refine y_iload hC dX8_weigh_59 4 rfl 61 rfl ?_
            obtain ⟨x61, hx61, hk⟩ := ob_bind hk
            refine y_callVN hC (10 * k) (hM 0 (by decide)) (cl_M (k := k) (mm := σ.1.2.1) (u := x53) hk4 rfl) rfl (c_X3_setTheirPricesFrom hJ hA l (gS (gD σ q43.2.2.2.1) q43.2.2.1) k hk4 x53 q43.2.1 a2 x61 hx61) rfl ⟨w3_231, w1_2, cwd_X3_setTheirPricesFrom, by decide, by decide⟩ w3_228 w3_230 ws3_7 rfl rfl (Nat.le_of_ble_eq_true rfl) (by decide) dX8_weigh_61 64 rfl (gS (gD (gM k σ x61) q43.2.2.2.1) q43.2.2.1) rfl [] rfl ?_
            refine y_aload_n hC dX8_weigh_64 2 rfl 65 rfl ?_
            refine y_aload_n hC dX8_weigh_65 1 rfl 66 rfl ?_
            obtain ⟨x66, hx66, hk⟩ := ob_bind hk
            refine y_callVN hC 40 (hA 40 (by decide)) (cl_D (u := q43.2.2.2.1) rfl) rfl (c_X2_run hJ hA l (gS σ q43.2.2.1) k hk4 q43.2.2.2.1 x61 x66 hx66) rfl ⟨w3_32, w1_4, cwd_X2_run, by decide, by decide⟩ w3_232 w3_31 ws2_6 rfl rfl (Nat.le_of_ble_eq_true rfl) (by decide) dX8_weigh_66 69 rfl (gS (gD (gM k σ x61) x66) q43.2.2.1) rfl [] rfl ?_
            refine y_aload_n hC dX8_weigh_69 0 rfl 70 rfl ?_
            refine y_get hC 56 (hA 56 (by decide)) (cl_S (u := q43.2.2.1) rfl) rfl inU8 0 (by decide) w1_220 rfl dX8_weigh_70 73 rfl ?_
            refine y_iload hC dX8_weigh_73 5 rfl 75 rfl ?_
            refine y_iload hC dX8_weigh_75 6 rfl 77 rfl ?_
            obtain ⟨x77, hx77, hk⟩ := ob_bind hk
            refine y_callSN hC (c_X10_pairOf hJ l (gS (gD (gM k σ x61) x66) q43.2.2.1) q43.1 q43.2.1 x77 hx77) rfl ⟨w3_208, w1_1, cwd_X10_pairOf, by decide, by decide⟩ w3_233 w3_207 rfl rfl (Nat.le_of_ble_eq_true rfl) (by decide) dX8_weigh_77 80 rfl (gS (gD (gM k σ x61) x66) q43.2.2.1) rfl [.int x77, .ref (ad Γ 57)] rfl ?_
            refine y_aload_n hC dX8_weigh_80 2 rfl 81 rfl ?_
            refine y_getN hC 40 (hA 40 (by decide)) (cl_D (u := x66) rfl) rfl inU2 10 (by decide) w1_185 rfl dX8_weigh_81 84 rfl ?_
            obtain ⟨h84, hk⟩ := ob_if hk
            obtain ⟨g84, eg84, hk⟩ := ob_lt hk
            refine y_iast hC 57 (hA 57 (by decide)) (cl_S_mine (u := q43.2.2.1) rfl) h84 (gS (gD (gM k σ x61) x66) g84) (by subst eg84; exact (cu_S_mine (u := q43.2.2.1) (v := (upd (pS_mine q43.2.2.1) x77.toNatClampNeg (pD_takings x66))) rfl rfl)) dX8_weigh_84 85 rfl ?_
            refine y_aload_n hC dX8_weigh_85 0 rfl 86 rfl ?_
            refine y_get hC 56 (hA 56 (by decide)) (cl_S (u := g84) rfl) rfl inU8 1 (by decide) w1_221 rfl dX8_weigh_86 89 rfl ?_
            refine y_iload hC dX8_weigh_89 5 rfl 91 rfl ?_
            refine y_iload hC dX8_weigh_91 6 rfl 93 rfl ?_
            obtain ⟨x93, hx93, hk⟩ := ob_bind hk
            refine y_callSN hC (c_X10_pairOf hJ l (gS (gD (gM k σ x61) x66) g84) q43.1 q43.2.1 x93 hx93) rfl ⟨w3_208, w1_1, cwd_X10_pairOf, by decide, by decide⟩ w3_233 w3_207 rfl rfl (Nat.le_of_ble_eq_true rfl) (by decide) dX8_weigh_93 96 rfl (gS (gD (gM k σ x61) x66) g84) rfl [.int x93, .ref (ad Γ 58)] rfl ?_
            refine y_aload_n hC dX8_weigh_96 2 rfl 97 rfl ?_
            refine y_getN hC 40 (hA 40 (by decide)) (cl_D (u := x66) rfl) rfl inU2 11 (by decide) w1_188 rfl dX8_weigh_97 100 rfl ?_
            obtain ⟨h100, hk⟩ := ob_if hk
            obtain ⟨g100, eg100, hk⟩ := ob_lt hk
            refine y_iast hC 58 (hA 58 (by decide)) (cl_S_others (u := g84) rfl) h100 (gS (gD (gM k σ x61) x66) g100) (by subst eg100; exact (cu_S_others (u := g84) (v := (upd (pS_others g84) x93.toNatClampNeg (pD_theirTakings x66))) rfl rfl)) dX8_weigh_100 101 rfl ?_
            refine y_aload_n hC dX8_weigh_101 0 rfl 102 rfl ?_
            refine y_get hC 56 (hA 56 (by decide)) (cl_S (u := g100) rfl) rfl inU8 2 (by decide) w1_222 rfl dX8_weigh_102 105 rfl ?_
            refine y_iload hC dX8_weigh_105 6 rfl 107 rfl ?_
            refine y_aload_n hC dX8_weigh_107 0 rfl 108 rfl ?_
            refine y_get hC 56 (hA 56 (by decide)) (cl_S (u := g100) rfl) rfl inU8 2 (by decide) w1_222 rfl dX8_weigh_108 111 rfl ?_
            refine y_iload hC dX8_weigh_111 6 rfl 113 rfl ?_
            obtain ⟨h113, hk⟩ := ob_if hk
            refine y_iald hC 59 (hA 59 (by decide)) (cl_S_mostMine (u := g100) rfl) h113 dX8_weigh_113 114 rfl ?_
            refine y_aload_n hC dX8_weigh_114 2 rfl 115 rfl ?_
            refine y_getN hC 40 (hA 40 (by decide)) (cl_D (u := x66) rfl) rfl inU2 10 (by decide) w1_185 rfl dX8_weigh_115 118 rfl ?_
            refine y_max hC w3_234 w2_99 w1_14 w2_100 ⟨by decide, Nat.le_of_ble_eq_true rfl⟩ (by decide) dX8_weigh_118 121 rfl ?_
            obtain ⟨h121, hk⟩ := ob_if hk
            obtain ⟨g121, eg121, hk⟩ := ob_lt hk
            refine y_iast hC 59 (hA 59 (by decide)) (cl_S_mostMine (u := g100) rfl) h121 (gS (gD (gM k σ x61) x66) g121) (by subst eg121; exact (cu_S_mostMine (u := g100) (v := (upd (pS_mostMine g100) q43.2.1.toNatClampNeg (if (pS_mostMine g100 q43.2.1.toNatClampNeg) < (pD_takings x66) then (pD_takings x66) else (pS_mostMine g100 q43.2.1.toNatClampNeg)))) rfl rfl)) dX8_weigh_121 122 rfl ?_
            refine y_aload_n hC dX8_weigh_122 0 rfl 123 rfl ?_
            refine y_get hC 56 (hA 56 (by decide)) (cl_S (u := g121) rfl) rfl inU8 3 (by decide) w1_223 rfl dX8_weigh_123 126 rfl ?_
            refine y_iload hC dX8_weigh_126 5 rfl 128 rfl ?_
            refine y_aload_n hC dX8_weigh_128 0 rfl 129 rfl ?_
            refine y_get hC 56 (hA 56 (by decide)) (cl_S (u := g121) rfl) rfl inU8 3 (by decide) w1_223 rfl dX8_weigh_129 132 rfl ?_
            refine y_iload hC dX8_weigh_132 5 rfl 134 rfl ?_
            obtain ⟨h134, hk⟩ := ob_if hk
            refine y_iald hC 60 (hA 60 (by decide)) (cl_S_mostOthers (u := g121) rfl) h134 dX8_weigh_134 135 rfl ?_
            refine y_aload_n hC dX8_weigh_135 2 rfl 136 rfl ?_
            refine y_getN hC 40 (hA 40 (by decide)) (cl_D (u := x66) rfl) rfl inU2 11 (by decide) w1_188 rfl dX8_weigh_136 139 rfl ?_
            refine y_max hC w3_234 w2_99 w1_14 w2_100 ⟨by decide, Nat.le_of_ble_eq_true rfl⟩ (by decide) dX8_weigh_139 142 rfl ?_
            obtain ⟨h142, hk⟩ := ob_if hk
            obtain ⟨g142, eg142, hk⟩ := ob_lt hk
            refine y_iast hC 60 (hA 60 (by decide)) (cl_S_mostOthers (u := g121) rfl) h142 (gS (gD (gM k σ x61) x66) g142) (by subst eg142; exact (cu_S_mostOthers (u := g121) (v := (upd (pS_mostOthers g121) q43.1.toNatClampNeg (if (pS_mostOthers g121 q43.1.toNatClampNeg) < (pD_theirTakings x66) then (pD_theirTakings x66) else (pS_mostOthers g121 q43.1.toNatClampNeg)))) rfl rfl)) dX8_weigh_142 143 rfl ?_
            refine y_iinc hC dX8_weigh_143 6 rfl (v := (q43.2.1 + (1 : Int32))) rfl (by decide) [(6, .int (q43.2.1 + (1 : Int32))), (0, .ref (ad Γ 56)), (1, .ref (ad Γ (10 * k))), (2, .ref (ad Γ 40)), (3, .int a1), (4, .int a2), (5, .int q43.1)] rfl 146 rfl ?_
            refine y_goto hC dX8_weigh_146 43 (by decide) ?_
            refine y_sub [1, 2, 3, 4, 5, 6, 0] rfl ?_
            exact ih43 (q43.1, (q43.2.1 + (1 : Int32)), g142, x66, x61) hk
      refine y_iload hC dX8_weigh_19 5 rfl 21 rfl ?_
      refine y_bipush hC dX8_weigh_21 (v := (11 : Int32)) (by decide) 23 rfl ?_
      refine y_icmp_ge hC dX8_weigh_23 155 (by decide) 26 rfl (fun h23 => ?_) (fun h23 => ?_)
      · have hk := ob_pos h23 hk
        have e := Option.some.inj hk
        exact y_vret hC hr hlk (by rw [← e]) dX8_weigh_155
      · have hk := ob_neg h23 hk
        refine y_aload_n hC dX8_weigh_26 1 rfl 27 rfl ?_
        refine y_iconst hC dX8_weigh_27 (v := (0 : Int32)) (by decide) 28 rfl ?_
        refine y_iload_n hC dX8_weigh_28 3 rfl 29 rfl ?_
        obtain ⟨x29, hx29, hk⟩ := ob_bind hk
        refine y_callVN hC (10 * k) (hM 0 (by decide)) (cl_M (k := k) (mm := σ.1.2.1) (u := q19.2.2.2) hk4 rfl) rfl (c_X3_setPricesFrom hJ hA l (gS (gD σ q19.2.2.1) q19.2.1) k hk4 q19.2.2.2 (0 : Int32) a1 x29 hx29) rfl ⟨w2_97, w1_2, cwd_X3_setPricesFrom, by decide, by decide⟩ w3_227 w2_96 ws1_3 rfl rfl (Nat.le_of_ble_eq_true rfl) (by decide) dX8_weigh_29 32 rfl (gS (gD (gM k σ x29) q19.2.2.1) q19.2.1) rfl [] rfl ?_
        refine y_aload_n hC dX8_weigh_32 1 rfl 33 rfl ?_
        refine y_iload hC dX8_weigh_33 5 rfl 35 rfl ?_
        refine y_iload hC dX8_weigh_35 4 rfl 37 rfl ?_
        obtain ⟨x37, hx37, hk⟩ := ob_bind hk
        refine y_callVN hC (10 * k) (hM 0 (by decide)) (cl_M (k := k) (mm := σ.1.2.1) (u := x29) hk4 rfl) rfl (c_X3_setPricesFrom hJ hA l (gS (gD σ q19.2.2.1) q19.2.1) k hk4 x29 q19.1 a2 x37 hx37) rfl ⟨w2_97, w1_2, cwd_X3_setPricesFrom, by decide, by decide⟩ w3_227 w2_96 ws1_3 rfl rfl (Nat.le_of_ble_eq_true rfl) (by decide) dX8_weigh_37 40 rfl (gS (gD (gM k σ x37) q19.2.2.1) q19.2.1) rfl [] rfl ?_
        refine y_iconst hC dX8_weigh_40 (v := (0 : Int32)) (by decide) 41 rfl ?_
        refine y_istore hC dX8_weigh_41 (by decide) [(6, .int (0 : Int32)), (0, .ref (ad Γ 56)), (1, .ref (ad Γ (10 * k))), (2, .ref (ad Γ 40)), (3, .int a1), (4, .int a2), (5, .int q19.1)] rfl 43 rfl ?_
        refine y_sub [1, 2, 3, 4, 5, 6, 0] rfl ?_
        exact L43 1000 (q19.1, (0 : Int32), q19.2.1, q19.2.2.1, x37) hk
  refine y_aload_n hC dX8_weigh_0 0 rfl 1 rfl ?_
  refine y_get hC 56 (hA 56 (by decide)) (cl_S (u := s) rfl) rfl inU8 2 (by decide) w1_222 rfl dX8_weigh_1 4 rfl ?_
  refine y_iconst hC dX8_weigh_4 (v := (0 : Int32)) (by decide) 5 rfl ?_
  obtain ⟨x5, hx5, hk⟩ := ob_bind hk
  obtain ⟨g5, eg5, hk⟩ := ob_lt hk
  refine y_callS hC (c_J7_fill_53178 hJ l (fun z5 => (gS (gD (gM k σ u) d) (sS_mostMine s z5))) 59 (hA 59 (by decide)) 11 (fun z => (cl_S_mostMine (u := (sS_mostMine s z)) rfl)) (fun z z2 => (cuf_S_mostMine (u := s) (z := z) (v := z2) rfl rfl)) (0 : Int32) (pS_mostMine s) x5 hx5) (congrArg (fun zz => (gS (gD (gM k σ u) d) zz)) (eta_S_mostMine _).symm) ⟨w1_37, w1_3, cwd_J7_fill_53178, by decide, by decide⟩ w3_226 w1_36 rfl rfl (Nat.le_of_ble_eq_true rfl) (by decide) dX8_weigh_5 8 rfl (gS (gD (gM k σ u) d) g5) (by subst eg5; rfl) [] rfl ?_
  refine y_aload_n hC dX8_weigh_8 0 rfl 9 rfl ?_
  refine y_get hC 56 (hA 56 (by decide)) (cl_S (u := g5) rfl) rfl inU8 3 (by decide) w1_223 rfl dX8_weigh_9 12 rfl ?_
  refine y_iconst hC dX8_weigh_12 (v := (0 : Int32)) (by decide) 13 rfl ?_
  obtain ⟨x13, hx13, hk⟩ := ob_bind hk
  obtain ⟨g13, eg13, hk⟩ := ob_lt hk
  refine y_callS hC (c_J7_fill_53178 hJ l (fun z13 => (gS (gD (gM k σ u) d) (sS_mostOthers g5 z13))) 60 (hA 60 (by decide)) 11 (fun z => (cl_S_mostOthers (u := (sS_mostOthers g5 z)) rfl)) (fun z z2 => (cuf_S_mostOthers (u := g5) (z := z) (v := z2) rfl rfl)) (0 : Int32) (pS_mostOthers g5) x13 hx13) (congrArg (fun zz => (gS (gD (gM k σ u) d) zz)) (eta_S_mostOthers _).symm) ⟨w1_37, w1_3, cwd_J7_fill_53178, by decide, by decide⟩ w3_226 w1_36 rfl rfl (Nat.le_of_ble_eq_true rfl) (by decide) dX8_weigh_13 16 rfl (gS (gD (gM k σ u) d) g13) (by subst eg13; rfl) [] rfl ?_
  refine y_iconst hC dX8_weigh_16 (v := (0 : Int32)) (by decide) 17 rfl ?_
  refine y_istore hC dX8_weigh_17 (by decide) [(5, .int (0 : Int32)), (0, .ref (ad Γ 56)), (1, .ref (ad Γ (10 * k))), (2, .ref (ad Γ 40)), (3, .int a1), (4, .int a2)] rfl 19 rfl ?_
  refine y_sub [1, 2, 3, 4, 5, 0] rfl ?_
  exact L19 1000 ((0 : Int32), g13, d, u) hk
def f_X8_findRests_j93 (K12 : (Int32 × SSt) → Option (SSt)) (v1 : Int32) (gs : SSt) : Option (SSt) :=
  K12 ((v1 + (1 : Int32)), gs)
def f_X8_findRests_j87 (K12 : (Int32 × SSt) → Option (SSt)) (K20 : (Int32 × Int32 × SSt) → Option (SSt)) (v1 : Int32) (v2 : Int32) (gs : SSt) : Option (SSt) :=
  K20 (v1, (v2 + (1 : Int32)), gs)
def f_X8_findRests_j77 (K12 : (Int32 × SSt) → Option (SSt)) (K20 : (Int32 × Int32 × SSt) → Option (SSt)) (v1 : Int32) (v2 : Int32) (gs : SSt) : Option (SSt) :=
  lt (sS_rests gs ((pS_rests gs) + (1 : Int32))) fun g84 => 
    (f_X8_findRests_j87 K12 K20 v1 v2 g84)
def f_X8_findRests_s20 (K12 : (Int32 × SSt) → Option (SSt)) (K20 : (Int32 × Int32 × SSt) → Option (SSt)) (q20 : Int32 × Int32 × SSt) : Option (SSt) :=
  if (11 : Int32) ≤ q20.2.1 then
    f_X8_findRests_j93 K12 q20.1 q20.2.2
  else
    (f_X10_pairOf q20.1 q20.2.1).bind fun x28 => 
      (if inb x28 121 then 
      (if inb q20.2.1 11 then 
      (if (pS_mine q20.2.2 x28.toNatClampNeg) < (pS_mostMine q20.2.2 q20.2.1.toNatClampNeg) then
        f_X8_findRests_j87 K12 K20 q20.1 q20.2.1 q20.2.2
      else
        if inb x28 121 then 
          (if inb q20.1 11 then 
          (if (pS_mostOthers q20.2.2 q20.1.toNatClampNeg) ≤ (pS_others q20.2.2 x28.toNatClampNeg) then
            if (pS_rests q20.2.2) = 0 then
              lt (sS_firstRest q20.2.2 x28) fun g74 => 
                (f_X8_findRests_j77 K12 K20 q20.1 q20.2.1 g74)
            else
              f_X8_findRests_j77 K12 K20 q20.1 q20.2.1 q20.2.2
          else
            f_X8_findRests_j87 K12 K20 q20.1 q20.2.1 q20.2.2)
        else none)
        else none)
    else none)
    else none)
def f_X8_findRests_s12 (K12 : (Int32 × SSt) → Option (SSt)) (q12 : Int32 × SSt) : Option (SSt) :=
  if (11 : Int32) ≤ q12.1 then
    some q12.2
  else
    lp (f_X8_findRests_s20 K12) 1000 (q12.1, (0 : Int32), q12.2)
def f_X8_findRests (s : SSt) : Option (SSt) :=
  lt (sS_rests s (0 : Int32)) fun g2 => 
    (lt (sS_firstRest g2 (-1 : Int32)) fun g7 => 
    (lp (f_X8_findRests_s12) 1000 ((0 : Int32), g7)))
theorem cwd_X8_findRests : yX8_findRests.cls ≠ "java/lang/invoke/MethodHandle" ∧ yX8_findRests.cls ≠ "java/lang/invoke/VarHandle" ∧ (parseMethodDescriptor yX8_findRests.desc).map (fun d => d.parameters.length) = some 0 := by decide +kernel
set_option maxHeartbeats 4000000 in
set_option maxRecDepth 100000 in
theorem c_X8_findRests {Γ : GC} (hJ : GJ Γ) (hA : ∀ i, i < 66 → act Γ i) (l : Launch) (σ : GSt) (s : SSt) (x : SSt) (hk : f_X8_findRests s = some x) : Mt Γ l yX8_findRests cX8_findRests 4 none 1 21 [.ref (ad Γ 56)] (gS σ s) none (gS σ x) := by
  refine y_enter (by decide) hJ (Nat.le_of_ble_eq_true rfl) [(0, .ref (ad Γ 56))] rfl ?_
  intro p e s' m args below meth c' hC hr hlk
  have L12 : ∀ (n12 : Nat) (q12 : Int32 × SSt), lp (f_X8_findRests_s12) n12 q12 = some x → Y Γ (GA Γ) p l e ({ frames := 1, cells := 0, slots := 0, locals := 21 } : Room) s' m args below meth c' 0 0 (MQ below (Qg Γ none (gS σ x)) args s' 0 0 (GA Γ)) 4 (gS σ q12.2) 12 [(0, .ref (ad Γ 56)), (1, .int q12.1)] [] := by
    intro n12
    induction n12 with
    | zero => intro q12 hk; exact (lp_zero hk).elim
    | succ n12 ih12 =>
      intro q12 hk
      have hk : f_X8_findRests_s12 (lp (f_X8_findRests_s12) n12) q12 = some x := (lp_succ _ _ _).symm.trans hk
      have J93 : ∀ (v1 : Int32) (gs : SSt), f_X8_findRests_j93 (lp (f_X8_findRests_s12) n12) v1 gs = some x → Y Γ (GA Γ) p l e ({ frames := 1, cells := 0, slots := 0, locals := 21 } : Room) s' m args below meth c' 0 0 (MQ below (Qg Γ none (gS σ x)) args s' 0 0 (GA Γ)) 4 (gS σ gs) 93 [(0, .ref (ad Γ 56)), (1, .int v1)] [] := by
        intro v1 gs hk
        refine y_iinc hC dX8_findRests_93 1 rfl (v := (v1 + (1 : Int32))) rfl (by decide) [(1, .int (v1 + (1 : Int32))), (0, .ref (ad Γ 56))] rfl 96 rfl ?_
        refine y_goto hC dX8_findRests_96 12 (by decide) ?_
        refine y_sub [1, 0] rfl ?_
        exact ih12 ((v1 + (1 : Int32)), gs) hk
      have L20 : ∀ (n20 : Nat) (q20 : Int32 × Int32 × SSt), lp (f_X8_findRests_s20 (lp (f_X8_findRests_s12) n12)) n20 q20 = some x → Y Γ (GA Γ) p l e ({ frames := 1, cells := 0, slots := 0, locals := 21 } : Room) s' m args below meth c' 0 0 (MQ below (Qg Γ none (gS σ x)) args s' 0 0 (GA Γ)) 4 (gS σ q20.2.2) 20 [(0, .ref (ad Γ 56)), (1, .int q20.1), (2, .int q20.2.1)] [] := by
        intro n20
        induction n20 with
        | zero => intro q20 hk; exact (lp_zero hk).elim
        | succ n20 ih20 =>
          intro q20 hk
          have hk : f_X8_findRests_s20 (lp (f_X8_findRests_s12) n12) (lp (f_X8_findRests_s20 (lp (f_X8_findRests_s12) n12)) n20) q20 = some x := (lp_succ _ _ _).symm.trans hk
          have J87 : ∀ (v1 : Int32) (v2 : Int32) (gs : SSt), f_X8_findRests_j87 (lp (f_X8_findRests_s12) n12) (lp (f_X8_findRests_s20 (lp (f_X8_findRests_s12) n12)) n20) v1 v2 gs = some x → Y Γ (GA Γ) p l e ({ frames := 1, cells := 0, slots := 0, locals := 21 } : Room) s' m args below meth c' 0 0 (MQ below (Qg Γ none (gS σ x)) args s' 0 0 (GA Γ)) 4 (gS σ gs) 87 [(0, .ref (ad Γ 56)), (1, .int v1), (2, .int v2)] [] := by
            intro v1 v2 gs hk
            refine y_iinc hC dX8_findRests_87 2 rfl (v := (v2 + (1 : Int32))) rfl (by decide) [(2, .int (v2 + (1 : Int32))), (0, .ref (ad Γ 56)), (1, .int v1)] rfl 90 rfl ?_
            refine y_goto hC dX8_findRests_90 20 (by decide) ?_
            refine y_sub [1, 2, 0] rfl ?_
            exact ih20 (v1, (v2 + (1 : Int32)), gs) hk
          have J77 : ∀ (v1 : Int32) (v2 : Int32) (gs : SSt), f_X8_findRests_j77 (lp (f_X8_findRests_s12) n12) (lp (f_X8_findRests_s20 (lp (f_X8_findRests_s12) n12)) n20) v1 v2 gs = some x → Y Γ (GA Γ) p l e ({ frames := 1, cells := 0, slots := 0, locals := 21 } : Room) s' m args below meth c' 0 0 (MQ below (Qg Γ none (gS σ x)) args s' 0 0 (GA Γ)) 4 (gS σ gs) 77 [(0, .ref (ad Γ 56)), (1, .int v1), (2, .int v2)] [] := by
            intro v1 v2 gs hk
            refine y_aload_n hC dX8_findRests_77 0 rfl 78 rfl ?_
            refine y_dup hC dX8_findRests_78 rfl 79 rfl ?_
            refine y_get hC 56 (hA 56 (by decide)) (cl_S (u := gs) rfl) rfl inU8 4 (by decide) w1_224 rfl dX8_findRests_79 82 rfl ?_
            refine y_iconst hC dX8_findRests_82 (v := (1 : Int32)) (by decide) 83 rfl ?_
            refine y_iadd hC dX8_findRests_83 84 rfl ?_
            obtain ⟨g84, eg84, hk⟩ := ob_lt hk
            refine y_put hC 56 (hA 56 (by decide)) (cl_S (u := gs) rfl) rfl inU8 tyX8_ok nmX8 4 (by decide) w1_224 rfl rfl rfl rfl (Nat.le_of_ble_eq_true rfl) (gS σ g84) (by subst eg84; exact (cu_S_rests (u := gs) (v := ((pS_rests gs) + (1 : Int32))) rfl rfl)) dX8_findRests_84 87 rfl ?_
            refine y_sub [0, 1, 2] rfl ?_
            exact J87 v1 v2 g84 hk
          refine y_iload_n hC dX8_findRests_20 2 rfl 21 rfl ?_
          refine y_bipush hC dX8_findRests_21 (v := (11 : Int32)) (by decide) 23 rfl ?_
          refine y_icmp_ge hC dX8_findRests_23 93 (by decide) 26 rfl (fun h23 => ?_) (fun h23 => ?_)
          · have hk := ob_pos h23 hk
            refine y_sub [0, 1] rfl ?_
            exact J93 q20.1 q20.2.2 hk
          · have hk := ob_neg h23 hk
            refine y_iload_n hC dX8_findRests_26 1 rfl 27 rfl ?_
            refine y_iload_n hC dX8_findRests_27 2 rfl 28 rfl ?_
            obtain ⟨x28, hx28, hk⟩ := ob_bind hk
            refine y_callSN hC (c_X10_pairOf hJ l (gS σ q20.2.2) q20.1 q20.2.1 x28 hx28) rfl ⟨w3_208, w1_1, cwd_X10_pairOf, by decide, by decide⟩ w3_233 w3_207 rfl rfl (Nat.le_of_ble_eq_true rfl) (by decide) dX8_findRests_28 31 rfl (gS σ q20.2.2) rfl [.int x28] rfl ?_
            refine y_istore_n hC dX8_findRests_31 (by decide) [(3, .int x28), (0, .ref (ad Γ 56)), (1, .int q20.1), (2, .int q20.2.1)] rfl 32 rfl ?_
            refine y_aload_n hC dX8_findRests_32 1 rfl 33 rfl ?_
            refine y_get hC 56 (hA 56 (by decide)) (cl_S (u := q20.2.2) rfl) rfl inU8 0 (by decide) w1_220 rfl dX8_findRests_33 36 rfl ?_
            refine y_iload_n hC dX8_findRests_36 0 rfl 37 rfl ?_
            obtain ⟨h37, hk⟩ := ob_if hk
            refine y_iald hC 57 (hA 57 (by decide)) (cl_S_mine (u := q20.2.2) rfl) h37 dX8_findRests_37 38 rfl ?_
            refine y_aload_n hC dX8_findRests_38 1 rfl 39 rfl ?_
            refine y_get hC 56 (hA 56 (by decide)) (cl_S (u := q20.2.2) rfl) rfl inU8 2 (by decide) w1_222 rfl dX8_findRests_39 42 rfl ?_
            refine y_iload_n hC dX8_findRests_42 3 rfl 43 rfl ?_
            obtain ⟨h43, hk⟩ := ob_if hk
            refine y_iald hC 59 (hA 59 (by decide)) (cl_S_mostMine (u := q20.2.2) rfl) h43 dX8_findRests_43 44 rfl ?_
            refine y_icmp_lt hC dX8_findRests_44 87 (by decide) 47 rfl (fun h44 => ?_) (fun h44 => ?_)
            · have hk := ob_pos h44 hk
              refine y_sub [1, 2, 3] rfl ?_
              exact J87 q20.1 q20.2.1 q20.2.2 hk
            · have hk := ob_neg h44 hk
              refine y_aload_n hC dX8_findRests_47 1 rfl 48 rfl ?_
              refine y_get hC 56 (hA 56 (by decide)) (cl_S (u := q20.2.2) rfl) rfl inU8 1 (by decide) w1_221 rfl dX8_findRests_48 51 rfl ?_
              refine y_iload_n hC dX8_findRests_51 0 rfl 52 rfl ?_
              obtain ⟨h52, hk⟩ := ob_if hk
              refine y_iald hC 58 (hA 58 (by decide)) (cl_S_others (u := q20.2.2) rfl) h52 dX8_findRests_52 53 rfl ?_
              refine y_aload_n hC dX8_findRests_53 1 rfl 54 rfl ?_
              refine y_get hC 56 (hA 56 (by decide)) (cl_S (u := q20.2.2) rfl) rfl inU8 3 (by decide) w1_223 rfl dX8_findRests_54 57 rfl ?_
              refine y_iload_n hC dX8_findRests_57 2 rfl 58 rfl ?_
              obtain ⟨h58, hk⟩ := ob_if hk
              refine y_iald hC 60 (hA 60 (by decide)) (cl_S_mostOthers (u := q20.2.2) rfl) h58 dX8_findRests_58 59 rfl ?_
              refine y_icmp_ge hC dX8_findRests_59 65 (by decide) 62 rfl (fun h59 => ?_) (fun h59 => ?_)
              · have hk := ob_pos h59 hk
                refine y_aload_n hC dX8_findRests_65 1 rfl 66 rfl ?_
                refine y_get hC 56 (hA 56 (by decide)) (cl_S (u := q20.2.2) rfl) rfl inU8 4 (by decide) w1_224 rfl dX8_findRests_66 69 rfl ?_
                refine y_if_ne hC dX8_findRests_69 77 (by decide) 72 rfl (fun h69 => ?_) (fun h69 => ?_)
                · have hk := ob_neg h69 hk
                  refine y_sub [1, 2, 3] rfl ?_
                  exact J77 q20.1 q20.2.1 q20.2.2 hk
                · have hk := ob_pos h69 hk
                  refine y_aload_n hC dX8_findRests_72 1 rfl 73 rfl ?_
                  refine y_iload_n hC dX8_findRests_73 0 rfl 74 rfl ?_
                  obtain ⟨g74, eg74, hk⟩ := ob_lt hk
                  refine y_put hC 56 (hA 56 (by decide)) (cl_S (u := q20.2.2) rfl) rfl inU8 tyX8_ok nmX8 5 (by decide) w1_226 rfl rfl rfl rfl (Nat.le_of_ble_eq_true rfl) (gS σ g74) (by subst eg74; exact (cu_S_firstRest (u := q20.2.2) (v := x28) rfl rfl)) dX8_findRests_74 77 rfl ?_
                  refine y_sub [1, 2, 3] rfl ?_
                  exact J77 q20.1 q20.2.1 g74 hk
              · have hk := ob_neg h59 hk
                refine y_goto hC dX8_findRests_62 87 (by decide) ?_
                refine y_sub [1, 2, 3] rfl ?_
                exact J87 q20.1 q20.2.1 q20.2.2 hk
      refine y_iload_n hC dX8_findRests_12 1 rfl 13 rfl ?_
      refine y_bipush hC dX8_findRests_13 (v := (11 : Int32)) (by decide) 15 rfl ?_
      refine y_icmp_ge hC dX8_findRests_15 99 (by decide) 18 rfl (fun h15 => ?_) (fun h15 => ?_)
      · have hk := ob_pos h15 hk
        have e := Option.some.inj hk
        exact y_vret hC hr hlk (by rw [← e]) dX8_findRests_99
      · have hk := ob_neg h15 hk
        refine y_iconst hC dX8_findRests_18 (v := (0 : Int32)) (by decide) 19 rfl ?_
        refine y_istore_n hC dX8_findRests_19 (by decide) [(2, .int (0 : Int32)), (0, .ref (ad Γ 56)), (1, .int q12.1)] rfl 20 rfl ?_
        refine y_sub [1, 2, 0] rfl ?_
        exact L20 1000 (q12.1, (0 : Int32), q12.2) hk
  refine y_aload_n hC dX8_findRests_0 0 rfl 1 rfl ?_
  refine y_iconst hC dX8_findRests_1 (v := (0 : Int32)) (by decide) 2 rfl ?_
  obtain ⟨g2, eg2, hk⟩ := ob_lt hk
  refine y_put hC 56 (hA 56 (by decide)) (cl_S (u := s) rfl) rfl inU8 tyX8_ok nmX8 4 (by decide) w1_224 rfl rfl rfl rfl (Nat.le_of_ble_eq_true rfl) (gS σ g2) (by subst eg2; exact (cu_S_rests (u := s) (v := (0 : Int32)) rfl rfl)) dX8_findRests_2 5 rfl ?_
  refine y_aload_n hC dX8_findRests_5 0 rfl 6 rfl ?_
  refine y_iconst hC dX8_findRests_6 (v := (-1 : Int32)) (by decide) 7 rfl ?_
  obtain ⟨g7, eg7, hk⟩ := ob_lt hk
  refine y_put hC 56 (hA 56 (by decide)) (cl_S (u := g2) rfl) rfl inU8 tyX8_ok nmX8 5 (by decide) w1_226 rfl rfl rfl rfl (Nat.le_of_ble_eq_true rfl) (gS σ g7) (by subst eg7; exact (cu_S_firstRest (u := g2) (v := (-1 : Int32)) rfl rfl)) dX8_findRests_7 10 rfl ?_
  refine y_iconst hC dX8_findRests_10 (v := (0 : Int32)) (by decide) 11 rfl ?_
  refine y_istore_n hC dX8_findRests_11 (by decide) [(1, .int (0 : Int32)), (0, .ref (ad Γ 56))] rfl 12 rfl ?_
  refine y_sub [1, 0] rfl ?_
  exact L12 1000 ((0 : Int32), g7) hk
