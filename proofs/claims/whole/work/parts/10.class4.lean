def J_X11_isUnlike_88 (v2 : Int) (t0 : Int) (S : HS) : zO2 :=
  zb (M_X8_takerAt v2 S) fun r18 S19 =>
  if r18 = (-2) then (
    J_X11_isUnlike_106 1 t0 S19)
  else (
    J_X11_isUnlike_106 0 t0 S19)
set_option maxHeartbeats 4000000 in
set_option maxRecDepth 20000 in
theorem TJ_X11_isUnlike_88 {v2 : Int} {t0 : Int} {S : HS} {r : Int} {S' : HS} {z : Zt} (hz : zO z cX11_isUnlike RX11 3 shX) (hN : zN z 3) (hF : zFi z shX .boolean r S') (rv2 : rng v2) (rt0 : rng t0) (hW : WR shX S) (h : J_X11_isUnlike_88 v2 t0 S = some (r, S')) : zA z 88 [(0, aR 0), (2, aI v2)] [aI t0] S := by
  unfold J_X11_isUnlike_88 at h
  refine s_aload_n 0 hz dX11_isUnlike_88 rfl ?_
  refine s_getR 3 hz fl_X11_37 sx0 rfl (by decide) dX11_isUnlike_89 ?_
  refine s_iload_n 1 hz dX11_isUnlike_92 rfl ?_
  obtain ⟨r18, S19, hc19, h⟩ := zb_of h
  refine s_callV [aI v2] [aI t0] hz ml_X11_137 sv_yX8_takerAt (T_X8_takerAt rv2 hW hc19) (by decide) rfl sx17 rfl rfl (Nat.le_of_ble_eq_true rfl) dX11_isUnlike_93 (fun rr18 hW19 => ?_)
  refine s_bipush hz dX11_isUnlike_96 bp_m2 ?_
  refine s_icmp_ne 105 hz rr18 rl_m2 dX11_isUnlike_98 rfl (fun c20 => ?_) (fun c20 => ?_)
  · have h := zif_f c20 h
    refine s_iconst hz dX11_isUnlike_105 ?_
    refine s_pick (l' := []) [] rfl ?_
    exact TJ_X11_isUnlike_106 hz hN hF rl_0 rt0 hW19 h
  · have h := zif_t c20 h
    refine s_iconst hz dX11_isUnlike_101 ?_
    refine s_goto 106 hz dX11_isUnlike_102 rfl ?_
    refine s_pick (l' := []) [] rfl ?_
    exact TJ_X11_isUnlike_106 hz hN hF rl_1 rt0 hW19 h
def J_X11_isUnlike_67 (v1 : Int) (v2 : Int) (t0 : Int) (t1 : Int) (S : HS) : zO2 :=
  if t1 = t0 then (
    zb (M_X8_takerAt v1 S) fun r15 S16 =>
    if r15 = (-2) then (
      J_X11_isUnlike_88 v2 1 S16)
    else (
      J_X11_isUnlike_88 v2 0 S16))
  else (
    J_X11_isUnlike_109 S)
set_option maxHeartbeats 4000000 in
set_option maxRecDepth 20000 in
theorem TJ_X11_isUnlike_67 {v1 : Int} {v2 : Int} {t0 : Int} {t1 : Int} {S : HS} {r : Int} {S' : HS} {z : Zt} (hz : zO z cX11_isUnlike RX11 3 shX) (hN : zN z 3) (hF : zFi z shX .boolean r S') (rv1 : rng v1) (rv2 : rng v2) (rt0 : rng t0) (rt1 : rng t1) (hW : WR shX S) (h : J_X11_isUnlike_67 v1 v2 t0 t1 S = some (r, S')) : zA z 67 [(0, aR 0), (1, aI v1), (2, aI v2)] [aI t0, aI t1] S := by
  unfold J_X11_isUnlike_67 at h
  refine s_icmp_ne 109 hz rt1 rt0 dX11_isUnlike_67 rfl (fun c14 => ?_) (fun c14 => ?_)
  · have h := zif_f c14 h
    refine s_pick (l' := []) [] rfl ?_
    exact TJ_X11_isUnlike_109 hz hN hF hW h
  · have h := zif_t c14 h
    refine s_aload_n 0 hz dX11_isUnlike_70 rfl ?_
    refine s_getR 3 hz fl_X11_37 sx0 rfl (by decide) dX11_isUnlike_71 ?_
    refine s_iload_n 1 hz dX11_isUnlike_74 rfl ?_
    obtain ⟨r15, S16, hc16, h⟩ := zb_of h
    refine s_callV [aI v1] [] hz ml_X11_137 sv_yX8_takerAt (T_X8_takerAt rv1 hW hc16) (by decide) rfl sx17 rfl rfl (Nat.le_of_ble_eq_true rfl) dX11_isUnlike_75 (fun rr15 hW16 => ?_)
    refine s_bipush hz dX11_isUnlike_78 bp_m2 ?_
    refine s_icmp_ne 87 hz rr15 rl_m2 dX11_isUnlike_80 rfl (fun c17 => ?_) (fun c17 => ?_)
    · have h := zif_f c17 h
      refine s_iconst hz dX11_isUnlike_87 ?_
      refine s_pick (l' := [(0, aR 0), (2, aI v2)]) [0, 2] rfl ?_
      exact TJ_X11_isUnlike_88 hz hN hF rv2 rl_0 hW16 h
    · have h := zif_t c17 h
      refine s_iconst hz dX11_isUnlike_83 ?_
      refine s_goto 88 hz dX11_isUnlike_84 rfl ?_
      refine s_pick (l' := [(0, aR 0), (2, aI v2)]) [0, 2] rfl ?_
      exact TJ_X11_isUnlike_88 hz hN hF rv2 rl_1 hW16 h
def J_X11_isUnlike_50 (v1 : Int) (v2 : Int) (t0 : Int) (S : HS) : zO2 :=
  zb (M_X6_placeAt v2 S) fun r11 S12 =>
  if r11 = (-1) then (
    J_X11_isUnlike_67 v1 v2 1 t0 S12)
  else (
    J_X11_isUnlike_67 v1 v2 0 t0 S12)
set_option maxHeartbeats 4000000 in
set_option maxRecDepth 20000 in
theorem TJ_X11_isUnlike_50 {v1 : Int} {v2 : Int} {t0 : Int} {S : HS} {r : Int} {S' : HS} {z : Zt} (hz : zO z cX11_isUnlike RX11 3 shX) (hN : zN z 3) (hF : zFi z shX .boolean r S') (rv1 : rng v1) (rv2 : rng v2) (rt0 : rng t0) (hW : WR shX S) (h : J_X11_isUnlike_50 v1 v2 t0 S = some (r, S')) : zA z 50 [(0, aR 0), (1, aI v1), (2, aI v2)] [aI t0] S := by
  unfold J_X11_isUnlike_50 at h
  refine s_aload_n 0 hz dX11_isUnlike_50 rfl ?_
  refine s_getR 2 hz fl_X11_28 sx0 rfl (by decide) dX11_isUnlike_51 ?_
  refine s_iload_n 2 hz dX11_isUnlike_54 rfl ?_
  obtain ⟨r11, S12, hc12, h⟩ := zb_of h
  refine s_callV [aI v2] [aI t0] hz ml_X11_198 sv_yX6_placeAt (T_X6_placeAt rv2 hW hc12) (by decide) rfl sx7 rfl rfl (Nat.le_of_ble_eq_true rfl) dX11_isUnlike_55 (fun rr11 hW12 => ?_)
  refine s_iconst hz dX11_isUnlike_58 ?_
  refine s_icmp_ne 66 hz rr11 rl_m1 dX11_isUnlike_59 rfl (fun c13 => ?_) (fun c13 => ?_)
  · have h := zif_f c13 h
    refine s_iconst hz dX11_isUnlike_66 ?_
    exact TJ_X11_isUnlike_67 hz hN hF rv1 rv2 rl_0 rt0 hW12 h
  · have h := zif_t c13 h
    refine s_iconst hz dX11_isUnlike_62 ?_
    refine s_goto 67 hz dX11_isUnlike_63 rfl ?_
    exact TJ_X11_isUnlike_67 hz hN hF rv1 rv2 rl_1 rt0 hW12 h
def M_X11_isUnlike (a1 : Int) (S : HS) : zO2 :=
  zg ((0 : Int) ≤ a1 ∧ (0 : Int) < 16) <|
  zl (((a1 - (2 * (a1 % 16))) + 16) - 1) fun x2 =>
  zb (M_X2_isScalp a1 S) fun r3 S4 =>
  zb (M_X2_isScalp x2 S4) fun r5 S6 =>
  if r3 = r5 then (
    zb (M_X6_placeAt a1 S6) fun r8 S9 =>
    if r8 = (-1) then (
      J_X11_isUnlike_50 a1 x2 1 S9)
    else (
      J_X11_isUnlike_50 a1 x2 0 S9))
  else (
    J_X11_isUnlike_109 S6)
set_option maxHeartbeats 4000000 in
set_option maxRecDepth 20000 in
theorem T_X11_isUnlike {a1 : Int} {S S' : HS} {r : Int} (ra1 : rng a1) (hW : WR shX S) (h : M_X11_isUnlike a1 S = some (r, S')) : zR shX yX11_isUnlike cX11_isUnlike 3  .boolean 3 [aR 0, aI a1] S r S' := by
  refine zR_of (by decide +kernel) (Nat.le_of_ble_eq_true rfl) (fun z hz hN hF => ?_)
  have hz : zO z cX11_isUnlike RX11 3 shX := hz
  show zA z 0 [(0, aR 0), (1, aI a1)] [] S
  unfold M_X11_isUnlike at h
  refine s_iload_n 1 hz dX11_isUnlike_0 rfl ?_
  refine s_iconst hz dX11_isUnlike_1 ?_
  refine s_iload_n 1 hz dX11_isUnlike_2 rfl ?_
  refine s_bipush hz dX11_isUnlike_3 bp_16 ?_
  obtain ⟨g1, h⟩ := zg_of h
  refine s_irem hz g1.1 g1.2 ra1 rl_16 dX11_isUnlike_5 ?_
  refine s_imul hz dX11_isUnlike_6 ?_
  refine s_isub hz dX11_isUnlike_7 ?_
  refine s_bipush hz dX11_isUnlike_8 bp_16 ?_
  refine s_iadd hz dX11_isUnlike_10 ?_
  refine s_iconst hz dX11_isUnlike_11 ?_
  refine s_isub hz dX11_isUnlike_12 ?_
  obtain ⟨x2, ex2, rx2, h⟩ := zl_ex h
  rw [← ex2]
  refine s_istore_n (l' := [(2, aI x2), (0, aR 0), (1, aI a1)]) hz hN dX11_isUnlike_13 (by decide) rfl ?_
  refine s_aload_n 1 hz dX11_isUnlike_14 rfl ?_
  refine s_getR 0 hz fl_X11_12 sx0 rfl (by decide) dX11_isUnlike_15 ?_
  refine s_iload_n 2 hz dX11_isUnlike_18 rfl ?_
  obtain ⟨r3, S4, hc4, h⟩ := zb_of h
  refine s_callV [aI a1] [] hz ml_X11_265 sv_yX2_isScalp (T_X2_isScalp ra1 hW hc4) (by decide) rfl sx1 rfl rfl (Nat.le_of_ble_eq_true rfl) dX11_isUnlike_19 (fun rr3 hW4 => ?_)
  refine s_aload_n 1 hz dX11_isUnlike_22 rfl ?_
  refine s_getR 0 hz fl_X11_12 sx0 rfl (by decide) dX11_isUnlike_23 ?_
  refine s_iload_n 0 hz dX11_isUnlike_26 rfl ?_
  obtain ⟨r5, S6, hc6, h⟩ := zb_of h
  refine s_callV [aI x2] [aI r3] hz ml_X11_265 sv_yX2_isScalp (T_X2_isScalp rx2 hW4 hc6) (by decide) rfl sx1 rfl rfl (Nat.le_of_ble_eq_true rfl) dX11_isUnlike_27 (fun rr5 hW6 => ?_)
  refine s_icmp_ne 109 hz rr3 rr5 dX11_isUnlike_30 rfl (fun c7 => ?_) (fun c7 => ?_)
  · have h := zif_f c7 h
    refine s_pick (l' := []) [] rfl ?_
    exact TJ_X11_isUnlike_109 hz hN hF hW6 h
  · have h := zif_t c7 h
    refine s_aload_n 1 hz dX11_isUnlike_33 rfl ?_
    refine s_getR 2 hz fl_X11_28 sx0 rfl (by decide) dX11_isUnlike_34 ?_
    refine s_iload_n 2 hz dX11_isUnlike_37 rfl ?_
    obtain ⟨r8, S9, hc9, h⟩ := zb_of h
    refine s_callV [aI a1] [] hz ml_X11_198 sv_yX6_placeAt (T_X6_placeAt ra1 hW6 hc9) (by decide) rfl sx7 rfl rfl (Nat.le_of_ble_eq_true rfl) dX11_isUnlike_38 (fun rr8 hW9 => ?_)
    refine s_iconst hz dX11_isUnlike_41 ?_
    refine s_icmp_ne 49 hz rr8 rl_m1 dX11_isUnlike_42 rfl (fun c10 => ?_) (fun c10 => ?_)
    · have h := zif_f c10 h
      refine s_iconst hz dX11_isUnlike_49 ?_
      refine s_pick (l' := [(0, aR 0), (1, aI a1), (2, aI x2)]) [1, 2, 0] rfl ?_
      exact TJ_X11_isUnlike_50 hz hN hF ra1 rx2 rl_0 hW9 h
    · have h := zif_t c10 h
      refine s_iconst hz dX11_isUnlike_45 ?_
      refine s_goto 50 hz dX11_isUnlike_46 rfl ?_
      refine s_pick (l' := [(0, aR 0), (1, aI a1), (2, aI x2)]) [1, 2, 0] rfl ?_
      exact TJ_X11_isUnlike_50 hz hN hF ra1 rx2 rl_1 hW9 h
def J_X11_unlikePairs_31 (k4 : Int → Int → HS → zO2) (v1 : Int) (v2 : Int) (S : HS) : zO2 :=
  zl (v2 + 1) fun x5 =>
  k4 v1 x5 S
set_option maxHeartbeats 4000000 in
set_option maxRecDepth 20000 in
theorem TJ_X11_unlikePairs_31 {k4 : Int → Int → HS → zO2} {v1 : Int} {v2 : Int} {S : HS} {r : Int} {S' : HS} {z : Zt} (hz : zO z cX11_unlikePairs RX11 4 shX) (hN : zN z 3) (hF : zFi z shX .int r S') (hk4 : ∀ (w1 w2 : Int) (S : HS), rng w1 → rng w2 → WR shX S → k4 w1 w2 S = some (r, S') → zA z 4 [(0, aR 0), (1, aI w1), (2, aI w2)] [] S) (rv1 : rng v1) (rv2 : rng v2) (hW : WR shX S) (h : J_X11_unlikePairs_31 k4 v1 v2 S = some (r, S')) : zA z 31 [(0, aR 0), (1, aI v1), (2, aI v2)] [] S := by
  unfold J_X11_unlikePairs_31 at h
  obtain ⟨x5, ex5, rx5, h⟩ := zl_ex h
  refine s_iinc (k0 := 2) (y := x5) (l' := [(2, aI x5), (0, aR 0), (1, aI v1)]) hz hN dX11_unlikePairs_31 rfl ex5.symm (by decide) rfl ?_
  refine s_goto 4 hz dX11_unlikePairs_34 rfl ?_
  refine s_pick (l' := [(0, aR 0), (1, aI v1), (2, aI x5)]) [1, 2, 0] rfl ?_
  exact hk4 _ _ _ rv1 rx5 hW h
def L_X11_unlikePairs_4 : Nat → Int → Int → HS → zO2
  | 0, _, _, _ => none
  | n + 1, v1, v2, S => 
    if 192 ≤ v2 then (
      some (v1, S))
    else (
      zg ((0 : Int) ≤ v2 ∧ (0 : Int) < 16) <|
      zl (v2 % 16) fun x3 =>
      if 8 ≤ x3 then (
        J_X11_unlikePairs_31 (L_X11_unlikePairs_4 n) v1 v2 S)
      else (
        zb (M_X11_isUnlike v2 S) fun r6 S7 =>
        if r6 = 0 then (
          J_X11_unlikePairs_31 (L_X11_unlikePairs_4 n) v1 v2 S7)
        else (
          zl (v1 + 1) fun x9 =>
          J_X11_unlikePairs_31 (L_X11_unlikePairs_4 n) x9 v2 S7)))
set_option maxHeartbeats 4000000 in
set_option maxRecDepth 20000 in
theorem TL_X11_unlikePairs_4 {r : Int} {S' : HS} {z : Zt} (hz : zO z cX11_unlikePairs RX11 4 shX) (hN : zN z 3) (hF : zFi z shX .int r S') : ∀ (n : Nat) {v1 : Int} {v2 : Int} {S : HS}, rng v1 → rng v2 → WR shX S → L_X11_unlikePairs_4 n v1 v2 S = some (r, S') → zA z 4 [(0, aR 0), (1, aI v1), (2, aI v2)] [] S := by
  intro n
  induction n with
  | zero =>
    intro _ _ _ _ _ _ h
    cases h
  | succ n ih =>
    intro v1 v2 S rv1 rv2 hW h
    rw [L_X11_unlikePairs_4.eq_2] at h
    refine s_iload_n 2 hz dX11_unlikePairs_4 rfl ?_
    refine s_sipush hz dX11_unlikePairs_5 sp_192 ?_
    refine s_icmp_ge 37 hz rv2 rl_192 dX11_unlikePairs_8 rfl (fun c1 => ?_) (fun c1 => ?_)
    · have h := zif_t c1 h
      refine s_iload_n 1 hz dX11_unlikePairs_37 rfl ?_
      exact s_iret h hz hF rv1 hW dX11_unlikePairs_38
    · have h := zif_f c1 h
      refine s_iload_n 2 hz dX11_unlikePairs_11 rfl ?_
      refine s_bipush hz dX11_unlikePairs_12 bp_16 ?_
      obtain ⟨g2, h⟩ := zg_of h
      refine s_irem hz g2.1 g2.2 rv2 rl_16 dX11_unlikePairs_14 ?_
      refine s_bipush hz dX11_unlikePairs_15 bp_8 ?_
      obtain ⟨x3, ex3, rx3, h⟩ := zl_ex h
      rw [← ex3]
      refine s_icmp_ge 31 hz rx3 rl_8 dX11_unlikePairs_17 rfl (fun c4 => ?_) (fun c4 => ?_)
      · have h := zif_t c4 h
        exact TJ_X11_unlikePairs_31 hz hN hF (fun _ _ _ => ih) rv1 rv2 hW h
      · have h := zif_f c4 h
        refine s_aload_n 0 hz dX11_unlikePairs_20 rfl ?_
        refine s_iload_n 2 hz dX11_unlikePairs_21 rfl ?_
        obtain ⟨r6, S7, hc7, h⟩ := zb_of h
        refine s_callV [aI v2] [] hz ml_X11_195 sv_yX11_isUnlike (T_X11_isUnlike rv2 hW hc7) (by decide) rfl sx0 rfl rfl (Nat.le_of_ble_eq_true rfl) dX11_unlikePairs_22 (fun rr6 hW7 => ?_)
        refine s_if_eq 31 hz rr6 dX11_unlikePairs_25 rfl (fun c8 => ?_) (fun c8 => ?_)
        · have h := zif_t c8 h
          exact TJ_X11_unlikePairs_31 hz hN hF (fun _ _ _ => ih) rv1 rv2 hW7 h
        · have h := zif_f c8 h
          obtain ⟨x9, ex9, rx9, h⟩ := zl_ex h
          refine s_iinc (k0 := 1) (y := x9) (l' := [(1, aI x9), (0, aR 0), (2, aI v2)]) hz hN dX11_unlikePairs_28 rfl ex9.symm (by decide) rfl ?_
          refine s_pick (l' := [(0, aR 0), (1, aI x9), (2, aI v2)]) [1, 0, 2] rfl ?_
          exact TJ_X11_unlikePairs_31 hz hN hF (fun _ _ _ => ih) rx9 rv2 hW7 h
def M_X11_unlikePairs (S : HS) : zO2 :=
  L_X11_unlikePairs_4 zBig 0 0 S
set_option maxHeartbeats 4000000 in
set_option maxRecDepth 20000 in
theorem T_X11_unlikePairs {S S' : HS} {r : Int} (hW : WR shX S) (h : M_X11_unlikePairs S = some (r, S')) : zR shX yX11_unlikePairs cX11_unlikePairs 3  .int 4 [aR 0] S r S' := by
  refine zR_of (by decide +kernel) (Nat.le_of_ble_eq_true rfl) (fun z hz hN hF => ?_)
  have hz : zO z cX11_unlikePairs RX11 4 shX := hz
  show zA z 0 [(0, aR 0)] [] S
  unfold M_X11_unlikePairs at h
  refine s_iconst hz dX11_unlikePairs_0 ?_
  refine s_istore_n (l' := [(1, aI 0), (0, aR 0)]) hz hN dX11_unlikePairs_1 (by decide) rfl ?_
  refine s_iconst hz dX11_unlikePairs_2 ?_
  refine s_istore_n (l' := [(2, aI 0), (1, aI 0), (0, aR 0)]) hz hN dX11_unlikePairs_3 (by decide) rfl ?_
  refine s_pick (l' := [(0, aR 0), (1, aI 0), (2, aI 0)]) [2, 1, 0] rfl ?_
  exact TL_X11_unlikePairs_4 hz hN hF zBig rl_0 rl_0 hW h
def L_X2_allHairs_13 (p3 : Int) : Nat → Int → Int → HS → zO2
  | 0, _, _, _ => none
  | n + 1, v1, v4, S => 
    if p3 ≤ v4 then (
      some (v1, S))
    else (
      zg ((0 : Int) ≤ v4 ∧ v4 < 192) <|
      zl (v1 + (max 0 (S 2 v4))) fun x3 =>
      zl (v4 + 1) fun x4 =>
      L_X2_allHairs_13 p3 n x3 x4 S)
set_option maxHeartbeats 4000000 in
set_option maxRecDepth 20000 in
theorem TL_X2_allHairs_13 {p3 : Int} {r : Int} {S' : HS} {z : Zt} (hz : zO z cX2_allHairs RX2 1 shX) (hN : zN z 6) (hF : zFi z shX .int r S') (rp3 : rng p3) : ∀ (n : Nat) {v1 : Int} {v4 : Int} {S : HS}, rng v1 → rng v4 → WR shX S → L_X2_allHairs_13 p3 n v1 v4 S = some (r, S') → zA z 13 [(1, aI v1), (2, aR 2), (3, aI p3), (4, aI v4)] [] S := by
  intro n
  induction n with
  | zero =>
    intro _ _ _ _ _ _ h
    cases h
  | succ n ih =>
    intro v1 v4 S rv1 rv4 hW h
    rw [L_X2_allHairs_13.eq_2] at h
    refine s_iload 3 hz dX2_allHairs_13 rfl ?_
    refine s_iload_n 2 hz dX2_allHairs_15 rfl ?_
    refine s_icmp_ge 40 hz rv4 rp3 dX2_allHairs_16 rfl (fun c1 => ?_) (fun c1 => ?_)
    · have h := zif_t c1 h
      refine s_iload_n 0 hz dX2_allHairs_40 rfl ?_
      exact s_iret h hz hF rv1 hW dX2_allHairs_41
    · have h := zif_f c1 h
      refine s_aload_n 1 hz dX2_allHairs_19 rfl ?_
      refine s_iload 3 hz dX2_allHairs_20 rfl ?_
      obtain ⟨g2, h⟩ := zg_of h
      refine s_iald hz sx2 rfl (by decide) g2 dX2_allHairs_22 ?_
      refine s_istore (l' := [(5, aI (S 2 v4)), (1, aI v1), (2, aR 2), (3, aI p3), (4, aI v4)]) hz hN dX2_allHairs_23 (by decide) rfl ?_
      refine s_iload_n 1 hz dX2_allHairs_25 rfl ?_
      refine s_iconst hz dX2_allHairs_26 ?_
      refine s_iload 0 hz dX2_allHairs_27 rfl ?_
      refine s_max hz mj_X2_39 (by decide) rl_0 (hW 2 _ sx2 v4) (Nat.le_of_ble_eq_true rfl) dX2_allHairs_29 ?_
      refine s_iadd hz dX2_allHairs_32 ?_
      obtain ⟨x3, ex3, rx3, h⟩ := zl_ex h
      rw [← ex3]
      refine s_istore_n (l' := [(1, aI x3), (5, aI (S 2 v4)), (2, aR 2), (3, aI p3), (4, aI v4)]) hz hN dX2_allHairs_33 (by decide) rfl ?_
      obtain ⟨x4, ex4, rx4, h⟩ := zl_ex h
      refine s_iinc (k0 := 4) (y := x4) (l' := [(4, aI x4), (1, aI x3), (5, aI (S 2 v4)), (2, aR 2), (3, aI p3)]) hz hN dX2_allHairs_34 rfl ex4.symm (by decide) rfl ?_
      refine s_goto 13 hz dX2_allHairs_37 rfl ?_
      refine s_pick (l' := [(1, aI x3), (2, aR 2), (3, aI p3), (4, aI x4)]) [1, 3, 4, 0] rfl ?_
      exact ih rx3 rx4 hW h
def M_X2_allHairs (S : HS) : zO2 :=
  L_X2_allHairs_13 192 zBig 0 0 S
set_option maxHeartbeats 4000000 in
set_option maxRecDepth 20000 in
theorem T_X2_allHairs {S S' : HS} {r : Int} (hW : WR shX S) (h : M_X2_allHairs S = some (r, S')) : zR shX yX2_allHairs cX2_allHairs 6  .int 1 [aR 1] S r S' := by
  refine zR_of (by decide +kernel) (Nat.le_of_ble_eq_true rfl) (fun z hz hN hF => ?_)
  have hz : zO z cX2_allHairs RX2 1 shX := hz
  show zA z 0 [(0, aR 1)] [] S
  unfold M_X2_allHairs at h
  refine s_iconst hz dX2_allHairs_0 ?_
  refine s_istore_n (l' := [(1, aI 0), (0, aR 1)]) hz hN dX2_allHairs_1 (by decide) rfl ?_
  refine s_aload_n 1 hz dX2_allHairs_2 rfl ?_
  refine s_getR 0 hz fl_X2_9 sx1 rfl (by decide) dX2_allHairs_3 ?_
  refine s_astore_n (l' := [(2, aR 2), (1, aI 0), (0, aR 1)]) hz hN dX2_allHairs_6 (by decide) rfl ?_
  refine s_aload_n 0 hz dX2_allHairs_7 rfl ?_
  refine s_alen hz sx2 (by decide) rfl dX2_allHairs_8 ?_
  refine s_istore_n (l' := [(3, aI 192), (2, aR 2), (1, aI 0), (0, aR 1)]) hz hN dX2_allHairs_9 (by decide) rfl ?_
  refine s_iconst hz dX2_allHairs_10 ?_
  refine s_istore (l' := [(4, aI 0), (3, aI 192), (2, aR 2), (1, aI 0), (0, aR 1)]) hz hN dX2_allHairs_11 (by decide) rfl ?_
  refine s_pick (l' := [(1, aI 0), (2, aR 2), (3, aI 192), (4, aI 0)]) [3, 2, 1, 0] rfl ?_
  exact TL_X2_allHairs_13 hz hN hF rl_192 zBig rl_0 rl_0 hW h
def L_X0_allWeights_4 : Nat → Int → Int → HS → zO2
  | 0, _, _, _ => none
  | n + 1, v1, v2, S => 
    if S 7 11 ≤ v2 then (
      some (v1, S))
    else (
      zb (M_X0_lastWeights v2 S) fun r2 S3 =>
      zl (v1 + r2) fun x4 =>
      zl (v2 + 1) fun x5 =>
      L_X0_allWeights_4 n x4 x5 S3)
set_option maxHeartbeats 4000000 in
set_option maxRecDepth 20000 in
theorem TL_X0_allWeights_4 {r : Int} {S' : HS} {z : Zt} (hz : zO z cX0_allWeights RX0 5 shX) (hN : zN z 3) (hF : zFi z shX .int r S') : ∀ (n : Nat) {v1 : Int} {v2 : Int} {S : HS}, rng v1 → rng v2 → WR shX S → L_X0_allWeights_4 n v1 v2 S = some (r, S') → zA z 4 [(0, aR 28), (1, aI v1), (2, aI v2)] [] S := by
  intro n
  induction n with
  | zero =>
    intro _ _ _ _ _ _ h
    cases h
  | succ n ih =>
    intro v1 v2 S rv1 rv2 hW h
    rw [L_X0_allWeights_4.eq_2] at h
    refine s_iload_n 2 hz dX0_allWeights_4 rfl ?_
    refine s_aload_n 0 hz dX0_allWeights_5 rfl ?_
    refine s_getR 1 hz fl_X0_28 sx28 rfl (by decide) dX0_allWeights_6 ?_
    refine s_getI (kz := 11) 11 hz fl_X0_40 sx7 rfl rfl dX0_allWeights_9 ?_
    refine s_icmp_ge 29 hz rv2 (hW 7 _ sx7 11) dX0_allWeights_12 rfl (fun c1 => ?_) (fun c1 => ?_)
    · have h := zif_t c1 h
      refine s_iload_n 1 hz dX0_allWeights_29 rfl ?_
      exact s_iret h hz hF rv1 hW dX0_allWeights_30
    · have h := zif_f c1 h
      refine s_iload_n 1 hz dX0_allWeights_15 rfl ?_
      refine s_aload_n 0 hz dX0_allWeights_16 rfl ?_
      refine s_iload_n 2 hz dX0_allWeights_17 rfl ?_
      obtain ⟨r2, S3, hc3, h⟩ := zb_of h
      refine s_callV [aI v2] [aI v1] hz ml_X0_105 sv_yX0_lastWeights (T_X0_lastWeights rv2 hW hc3) (by decide) rfl sx28 rfl rfl (Nat.le_of_ble_eq_true rfl) dX0_allWeights_18 (fun rr2 hW3 => ?_)
      refine s_iadd hz dX0_allWeights_21 ?_
      obtain ⟨x4, ex4, rx4, h⟩ := zl_ex h
      rw [← ex4]
      refine s_istore_n (l' := [(1, aI x4), (0, aR 28), (2, aI v2)]) hz hN dX0_allWeights_22 (by decide) rfl ?_
      obtain ⟨x5, ex5, rx5, h⟩ := zl_ex h
      refine s_iinc (k0 := 2) (y := x5) (l' := [(2, aI x5), (1, aI x4), (0, aR 28)]) hz hN dX0_allWeights_23 rfl ex5.symm (by decide) rfl ?_
      refine s_goto 4 hz dX0_allWeights_26 rfl ?_
      refine s_pick (l' := [(0, aR 28), (1, aI x4), (2, aI x5)]) [2, 1, 0] rfl ?_
      exact ih rx4 rx5 hW3 h
def M_X0_allWeights (S : HS) : zO2 :=
  L_X0_allWeights_4 zBig 0 0 S
set_option maxHeartbeats 4000000 in
set_option maxRecDepth 20000 in
theorem T_X0_allWeights {S S' : HS} {r : Int} (hW : WR shX S) (h : M_X0_allWeights S = some (r, S')) : zR shX yX0_allWeights cX0_allWeights 3  .int 5 [aR 28] S r S' := by
  refine zR_of (by decide +kernel) (Nat.le_of_ble_eq_true rfl) (fun z hz hN hF => ?_)
  have hz : zO z cX0_allWeights RX0 5 shX := hz
  show zA z 0 [(0, aR 28)] [] S
  unfold M_X0_allWeights at h
  refine s_iconst hz dX0_allWeights_0 ?_
  refine s_istore_n (l' := [(1, aI 0), (0, aR 28)]) hz hN dX0_allWeights_1 (by decide) rfl ?_
  refine s_iconst hz dX0_allWeights_2 ?_
  refine s_istore_n (l' := [(2, aI 0), (1, aI 0), (0, aR 28)]) hz hN dX0_allWeights_3 (by decide) rfl ?_
  refine s_pick (l' := [(0, aR 28), (1, aI 0), (2, aI 0)]) [2, 1, 0] rfl ?_
  exact TL_X0_allWeights_4 hz hN hF zBig rl_0 rl_0 hW h
def M_X11_count (a1 : Int) (S : HS) : zO2 :=
  if a1 = 0 then (
    some (S 3 3, S)) else (
  if a1 = 1 then (
    some (S 7 11, S)) else (
  if a1 = 2 then (
    some (S 17 9, S)) else (
  if a1 = 3 then (
    some (S 17 10, S)) else (
  if a1 = 4 then (
    zb (M_X11_unlikePairs S) fun r6 S7 =>
    some (r6, S7)) else (
  if a1 = 5 then (
    zb (M_X2_allHairs S) fun r9 S10 =>
    some (r9, S10)) else (
  if a1 = 6 then (
    zb (M_X0_allWeights S) fun r12 S13 =>
    some (r12, S13)) else (
  if a1 = 7 then (
    some (S 7 12, S)) else (
  if a1 = 8 then (
    some (S 45 6, S)) else (
  if a1 = 9 then (
    some (S 1 2, S)) else (
  if a1 = 10 then (
    some (S 1 1, S)) else (
  if a1 = 11 then (
    some (S 40 1, S)) else (
  if a1 = 12 then (
    some (S 23 4, S)) else (
  some ((-1), S))))))))))))))
set_option maxHeartbeats 4000000 in
set_option maxRecDepth 20000 in
theorem T_X11_count {a1 : Int} {S S' : HS} {r : Int} (ra1 : rng a1) (hW : WR shX S) (h : M_X11_count a1 S = some (r, S')) : zR shX yX11_count cX11_count 2  .int 6 [aR 0, aI a1] S r S' := by
  refine zR_of (by decide +kernel) (Nat.le_of_ble_eq_true rfl) (fun z hz hN hF => ?_)
  have hz : zO z cX11_count RX11 6 shX := hz
  show zA z 0 [(0, aR 0), (1, aI a1)] [] S
  unfold M_X11_count at h
  refine s_iload_n 1 hz dX11_count_0 rfl ?_
  by_cases c1 : a1 = 0
  · have h := zif_t c1 h
    refine s_tab 0 hz c1 rl_0 dX11_count_1 (by decide) rfl rfl ?_
    refine s_aload_n 0 hz dX11_count_68 rfl ?_
    refine s_getR 1 hz fl_X11_19 sx0 rfl (by decide) dX11_count_69 ?_
    refine s_getI (kz := 3) 3 hz fl_X11_243 sx3 rfl rfl dX11_count_72 ?_
    exact s_iret h hz hF (hW 3 _ sx3 3) hW dX11_count_75
  have h := zif_f c1 h
  by_cases c2 : a1 = 1
  · have h := zif_t c2 h
    refine s_tab 1 hz c2 rl_1 dX11_count_1 (by decide) rfl rfl ?_
    refine s_aload_n 0 hz dX11_count_76 rfl ?_
    refine s_getR 2 hz fl_X11_28 sx0 rfl (by decide) dX11_count_77 ?_
    refine s_getI (kz := 11) 11 hz fl_X11_223 sx7 rfl rfl dX11_count_80 ?_
    exact s_iret h hz hF (hW 7 _ sx7 11) hW dX11_count_83
  have h := zif_f c2 h
  by_cases c3 : a1 = 2
  · have h := zif_t c3 h
    refine s_tab 2 hz c3 rl_2 dX11_count_1 (by decide) rfl rfl ?_
    refine s_aload_n 0 hz dX11_count_84 rfl ?_
    refine s_getR 3 hz fl_X11_37 sx0 rfl (by decide) dX11_count_85 ?_
    refine s_getI (kz := 9) 9 hz fl_X11_244 sx17 rfl rfl dX11_count_88 ?_
    exact s_iret h hz hF (hW 17 _ sx17 9) hW dX11_count_91
  have h := zif_f c3 h
  by_cases c4 : a1 = 3
  · have h := zif_t c4 h
    refine s_tab 3 hz c4 rl_3 dX11_count_1 (by decide) rfl rfl ?_
    refine s_aload_n 0 hz dX11_count_92 rfl ?_
    refine s_getR 3 hz fl_X11_37 sx0 rfl (by decide) dX11_count_93 ?_
    refine s_getI (kz := 10) 10 hz fl_X11_247 sx17 rfl rfl dX11_count_96 ?_
    exact s_iret h hz hF (hW 17 _ sx17 10) hW dX11_count_99
  have h := zif_f c4 h
  by_cases c5 : a1 = 4
  · have h := zif_t c5 h
    refine s_tab 4 hz c5 rl_4 dX11_count_1 (by decide) rfl rfl ?_
    refine s_aload_n 0 hz dX11_count_100 rfl ?_
    obtain ⟨r6, S7, hc7, h⟩ := zb_of h
    refine s_callV [] [] hz ml_X11_250 sv_yX11_unlikePairs (T_X11_unlikePairs hW hc7) (by decide) rfl sx0 rfl rfl (Nat.le_of_ble_eq_true rfl) dX11_count_101 (fun rr6 hW7 => ?_)
    exact s_iret h hz hF rr6 hW7 dX11_count_104
  have h := zif_f c5 h
  by_cases c8 : a1 = 5
  · have h := zif_t c8 h
    refine s_tab 5 hz c8 rl_5 dX11_count_1 (by decide) rfl rfl ?_
    refine s_aload_n 0 hz dX11_count_105 rfl ?_
    refine s_getR 0 hz fl_X11_12 sx0 rfl (by decide) dX11_count_106 ?_
    obtain ⟨r9, S10, hc10, h⟩ := zb_of h
    refine s_callV [] [] hz ml_X11_253 sv_yX2_allHairs (T_X2_allHairs hW hc10) (by decide) rfl sx1 rfl rfl (Nat.le_of_ble_eq_true rfl) dX11_count_109 (fun rr9 hW10 => ?_)
    exact s_iret h hz hF rr9 hW10 dX11_count_112
  have h := zif_f c8 h
  by_cases c11 : a1 = 6
  · have h := zif_t c11 h
    refine s_tab 6 hz c11 rl_6 dX11_count_1 (by decide) rfl rfl ?_
    refine s_aload_n 0 hz dX11_count_113 rfl ?_
    refine s_getR 5 hz fl_X11_53 sx0 rfl (by decide) dX11_count_114 ?_
    obtain ⟨r12, S13, hc13, h⟩ := zb_of h
    refine s_callV [] [] hz ml_X11_256 sv_yX0_allWeights (T_X0_allWeights hW hc13) (by decide) rfl sx28 rfl rfl (Nat.le_of_ble_eq_true rfl) dX11_count_117 (fun rr12 hW13 => ?_)
    exact s_iret h hz hF rr12 hW13 dX11_count_120
  have h := zif_f c11 h
  by_cases c14 : a1 = 7
  · have h := zif_t c14 h
    refine s_tab 7 hz c14 rl_7 dX11_count_1 (by decide) rfl rfl ?_
    refine s_aload_n 0 hz dX11_count_121 rfl ?_
    refine s_getR 2 hz fl_X11_28 sx0 rfl (by decide) dX11_count_122 ?_
    refine s_getI (kz := 12) 12 hz fl_X11_259 sx7 rfl rfl dX11_count_125 ?_
    exact s_iret h hz hF (hW 7 _ sx7 12) hW dX11_count_128
  have h := zif_f c14 h
  by_cases c15 : a1 = 8
  · have h := zif_t c15 h
    refine s_tab 8 hz c15 rl_8 dX11_count_1 (by decide) rfl rfl ?_
    refine s_aload_n 0 hz dX11_count_129 rfl ?_
    refine s_getR 9 hz fl_X11_85 sx0 rfl (by decide) dX11_count_130 ?_
    refine s_getI (kz := 6) 6 hz fl_X11_262 sx45 rfl rfl dX11_count_133 ?_
    exact s_iret h hz hF (hW 45 _ sx45 6) hW dX11_count_136
  have h := zif_f c15 h
  by_cases c16 : a1 = 9
  · have h := zif_t c16 h
    refine s_tab 9 hz c16 rl_9 dX11_count_1 (by decide) rfl rfl ?_
    refine s_aload_n 0 hz dX11_count_137 rfl ?_
    refine s_getR 0 hz fl_X11_12 sx0 rfl (by decide) dX11_count_138 ?_
    refine s_getI (kz := 2) 2 hz fl_X11_224 sx1 rfl rfl dX11_count_141 ?_
    exact s_iret h hz hF (hW 1 _ sx1 2) hW dX11_count_144
  have h := zif_f c16 h
  by_cases c17 : a1 = 10
  · have h := zif_t c17 h
    refine s_tab 10 hz c17 rl_10 dX11_count_1 (by decide) rfl rfl ?_
    refine s_aload_n 0 hz dX11_count_145 rfl ?_
    refine s_getR 0 hz fl_X11_12 sx0 rfl (by decide) dX11_count_146 ?_
    refine s_getI (kz := 1) 1 hz fl_X11_109 sx1 rfl rfl dX11_count_149 ?_
    exact s_iret h hz hF (hW 1 _ sx1 1) hW dX11_count_152
  have h := zif_f c17 h
  by_cases c18 : a1 = 11
  · have h := zif_t c18 h
    refine s_tab 11 hz c18 rl_11 dX11_count_1 (by decide) rfl rfl ?_
    refine s_aload_n 0 hz dX11_count_153 rfl ?_
    refine s_getR 7 hz fl_X11_67 sx0 rfl (by decide) dX11_count_154 ?_
    refine s_getI (kz := 1) 1 hz fl_X11_117 sx40 rfl rfl dX11_count_157 ?_
    exact s_iret h hz hF (hW 40 _ sx40 1) hW dX11_count_160
  have h := zif_f c18 h
  by_cases c19 : a1 = 12
  · have h := zif_t c19 h
    refine s_tab 12 hz c19 rl_12 dX11_count_1 (by decide) rfl rfl ?_
    refine s_aload_n 0 hz dX11_count_161 rfl ?_
    refine s_getR 4 hz fl_X11_44 sx0 rfl (by decide) dX11_count_162 ?_
    refine s_getI (kz := 4) 4 hz fl_X11_162 sx23 rfl rfl dX11_count_165 ?_
    exact s_iret h hz hF (hW 23 _ sx23 4) hW dX11_count_168
  have h := zif_f c19 h
  refine s_tabO 169 hz ra1 dX11_count_1 (by omega) rfl ?_
  refine s_iconst hz dX11_count_169 ?_
  exact s_iret h hz hF rl_m1 hW dX11_count_170
def J_X11_strand_26 (kT : HS → zO2) (S : HS) : zO2 :=
  kT S
set_option maxHeartbeats 4000000 in
set_option maxRecDepth 20000 in
theorem TJ_X11_strand_26 {kT : HS → zO2} {S : HS} {r : Int} {S' : HS} {z : Zt} (hz : zO z cX11_strand RX11 5 shX) (hN : zN z 5) (hF : ∀ (v : Int) (l : List (Nat × AV)) (S : HS) (pc : Nat), decode cX11_strand pc = .ok (.ireturn, 1) → rng v → WR shX S → (some (v, S) : zO2) = some (r, S') → zA z pc l [aI v] S) (hkT : ∀ S : HS, WR shX S → kT S = some (r, S') → zA z 26 [] [] S) (hW : WR shX S) (h : J_X11_strand_26 kT S = some (r, S')) : zA z 26 [] [] S := by
  unfold J_X11_strand_26 at h
  exact hkT _ hW h
def M_X11_strand (kT : HS → zO2) (a1 : Int) (a2 : Int) (a3 : Int) (S : HS) : zO2 :=
  zb (M_X6_cellIn a1 a2 S) fun r1 S2 =>
  if r1 = (-1) then (
    J_X11_strand_26 kT S2)
  else (
    if a3 < 0 then (
      J_X11_strand_26 kT S2)
    else (
      if a3 ≤ 5 then (
        if 3 ≤ a3 then (
          if a3 = 3 then (
            zb (M_X8_hairsBy r1 S2) fun r14 S15 =>
            some (r14, S15))
          else (
            if a3 = 4 then (
              zb (M_X0_pullAt r1 S2) fun r12 S13 =>
              some (r12, S13))
            else (
              zb (M_X2_isEdge r1 S2) fun r9 S10 =>
              if r9 = 0 then (
                some (0, S10))
              else (
                some (1, S10)))))
        else (
          zb (M_X0_weightAt r1 a3 S2) fun r16 S17 =>
          some (r16, S17)))
      else (
        J_X11_strand_26 kT S2)))
set_option maxHeartbeats 4000000 in
set_option maxRecDepth 20000 in
theorem TW_X11_strand {z : Zt} (hz : zO z cX11_strand RX11 5 shX) (hN : zN z 5) {r : Int} {S' : HS} (hF : ∀ (v : Int) (l : List (Nat × AV)) (S : HS) (pc : Nat), decode cX11_strand pc = .ok (.ireturn, 1) → rng v → WR shX S → (some (v, S) : zO2) = some (r, S') → zA z pc l [aI v] S) {kT : HS → zO2} {a1 : Int} {a2 : Int} {a3 : Int} (hkT : ∀ S : HS, WR shX S → kT S = some (r, S') → zA z 26 [] [] S) {S : HS} (ra1 : rng a1) (ra2 : rng a2) (ra3 : rng a3) (hW : WR shX S) (h : M_X11_strand kT a1 a2 a3 S = some (r, S')) : zA z 0 [(0, aR 0), (1, aI a1), (2, aI a2), (3, aI a3)] [] S := by
  unfold M_X11_strand at h
  refine s_aload_n 0 hz dX11_strand_0 rfl ?_
  refine s_getR 2 hz fl_X11_28 sx0 rfl (by decide) dX11_strand_1 ?_
  refine s_iload_n 1 hz dX11_strand_4 rfl ?_
  refine s_iload_n 2 hz dX11_strand_5 rfl ?_
  obtain ⟨r1, S2, hc2, h⟩ := zb_of h
  refine s_callV [aI a1, aI a2] [] hz ml_X11_144 sv_yX6_cellIn (T_X6_cellIn ra1 ra2 hW hc2) (by decide) rfl sx7 rfl rfl (Nat.le_of_ble_eq_true rfl) dX11_strand_6 (fun rr1 hW2 => ?_)
  refine s_istore (l' := [(4, aI r1), (0, aR 0), (1, aI a1), (2, aI a2), (3, aI a3)]) hz hN dX11_strand_9 (by decide) rfl ?_
  refine s_iload 0 hz dX11_strand_11 rfl ?_
  refine s_iconst hz dX11_strand_13 ?_
  refine s_icmp_eq 26 hz rr1 rl_m1 dX11_strand_14 rfl (fun c3 => ?_) (fun c3 => ?_)
  · have h := zif_t c3 h
    refine s_pick (l' := []) [] rfl ?_
    exact TJ_X11_strand_26 hz hN hF hkT hW2 h
  · have h := zif_f c3 h
    refine s_iload_n 4 hz dX11_strand_17 rfl ?_
    refine s_if_lt 26 hz ra3 dX11_strand_18 rfl (fun c4 => ?_) (fun c4 => ?_)
    · have h := zif_t c4 h
      refine s_pick (l' := []) [] rfl ?_
      exact TJ_X11_strand_26 hz hN hF hkT hW2 h
    · have h := zif_f c4 h
      refine s_iload_n 4 hz dX11_strand_21 rfl ?_
      refine s_iconst hz dX11_strand_22 ?_
      refine s_icmp_le 34 hz ra3 rl_5 dX11_strand_23 rfl (fun c5 => ?_) (fun c5 => ?_)
      · have h := zif_t c5 h
        refine s_iload_n 4 hz dX11_strand_34 rfl ?_
        refine s_iconst hz dX11_strand_35 ?_
        refine s_icmp_ge 50 hz ra3 rl_3 dX11_strand_36 rfl (fun c6 => ?_) (fun c6 => ?_)
        · have h := zif_t c6 h
          refine s_iload_n 4 hz dX11_strand_50 rfl ?_
          refine s_iconst hz dX11_strand_51 ?_
          refine s_icmp_ne 65 hz ra3 rl_3 dX11_strand_52 rfl (fun c7 => ?_) (fun c7 => ?_)
          · have h := zif_f c7 h
            refine s_iload_n 4 hz dX11_strand_65 rfl ?_
            refine s_iconst hz dX11_strand_66 ?_
            refine s_icmp_ne 80 hz ra3 rl_4 dX11_strand_67 rfl (fun c8 => ?_) (fun c8 => ?_)
            · have h := zif_f c8 h
              refine s_aload_n 1 hz dX11_strand_80 rfl ?_
              refine s_getR 0 hz fl_X11_12 sx0 rfl (by decide) dX11_strand_81 ?_
              refine s_iload 0 hz dX11_strand_84 rfl ?_
              obtain ⟨r9, S10, hc10, h⟩ := zb_of h
              refine s_callV [aI r1] [] hz ml_X11_159 sv_yX2_isEdge (T_X2_isEdge rr1 hW2 hc10) (by decide) rfl sx1 rfl rfl (Nat.le_of_ble_eq_true rfl) dX11_strand_86 (fun rr9 hW10 => ?_)
              refine s_if_eq 96 hz rr9 dX11_strand_89 rfl (fun c11 => ?_) (fun c11 => ?_)
              · have h := zif_t c11 h
                refine s_iconst hz dX11_strand_96 ?_
                exact hF _ _ _ _ dX11_strand_97 rl_0 hW10 h
              · have h := zif_f c11 h
                refine s_iconst hz dX11_strand_92 ?_
                refine s_goto 97 hz dX11_strand_93 rfl ?_
                exact hF _ _ _ _ dX11_strand_97 rl_1 hW10 h
            · have h := zif_t c8 h
              refine s_aload_n 1 hz dX11_strand_70 rfl ?_
              refine s_getR 5 hz fl_X11_53 sx0 rfl (by decide) dX11_strand_71 ?_
              refine s_iload 0 hz dX11_strand_74 rfl ?_
              obtain ⟨r12, S13, hc13, h⟩ := zb_of h
              refine s_callV [aI r1] [] hz ml_X11_156 sv_yX0_pullAt (T_X0_pullAt rr1 hW2 hc13) (by decide) rfl sx28 rfl rfl (Nat.le_of_ble_eq_true rfl) dX11_strand_76 (fun rr12 hW13 => ?_)
              exact hF _ _ _ _ dX11_strand_79 rr12 hW13 h
          · have h := zif_t c7 h
            refine s_aload_n 1 hz dX11_strand_55 rfl ?_
            refine s_getR 3 hz fl_X11_37 sx0 rfl (by decide) dX11_strand_56 ?_
            refine s_iload 0 hz dX11_strand_59 rfl ?_
            obtain ⟨r14, S15, hc15, h⟩ := zb_of h
            refine s_callV [aI r1] [] hz ml_X11_153 sv_yX8_hairsBy (T_X8_hairsBy rr1 hW2 hc15) (by decide) rfl sx17 rfl rfl (Nat.le_of_ble_eq_true rfl) dX11_strand_61 (fun rr14 hW15 => ?_)
            exact hF _ _ _ _ dX11_strand_64 rr14 hW15 h
        · have h := zif_f c6 h
          refine s_aload_n 1 hz dX11_strand_39 rfl ?_
          refine s_getR 5 hz fl_X11_53 sx0 rfl (by decide) dX11_strand_40 ?_
          refine s_iload 0 hz dX11_strand_43 rfl ?_
          refine s_iload_n 4 hz dX11_strand_45 rfl ?_
          obtain ⟨r16, S17, hc17, h⟩ := zb_of h
          refine s_callV [aI r1, aI a3] [] hz ml_X11_150 sv_yX0_weightAt (T_X0_weightAt rr1 ra3 hW2 hc17) (by decide) rfl sx28 rfl rfl (Nat.le_of_ble_eq_true rfl) dX11_strand_46 (fun rr16 hW17 => ?_)
          exact hF _ _ _ _ dX11_strand_49 rr16 hW17 h
      · have h := zif_f c5 h
        refine s_pick (l' := []) [] rfl ?_
        exact TJ_X11_strand_26 hz hN hF hkT hW2 h
def J_X11_look_22 (kT : HS → zO2) (S : HS) : zO2 :=
  kT S
set_option maxHeartbeats 4000000 in
set_option maxRecDepth 20000 in
theorem TJ_X11_look_22 {kT : HS → zO2} {S : HS} {r : Int} {S' : HS} {z : Zt} (hz : zO z cX11_look RX11 4 shX) (hN : zN z 6) (hF : ∀ (v : Int) (l : List (Nat × AV)) (S : HS) (pc : Nat), decode cX11_look pc = .ok (.ireturn, 1) → rng v → WR shX S → (some (v, S) : zO2) = some (r, S') → zA z pc l [aI v] S) (hkT : ∀ S : HS, WR shX S → kT S = some (r, S') → zA z 22 [] [] S) (hW : WR shX S) (h : J_X11_look_22 kT S = some (r, S')) : zA z 22 [] [] S := by
  unfold J_X11_look_22 at h
  exact hkT _ hW h
def M_X11_look (kT : HS → zO2) (a1 : Int) (a2 : Int) (a3 : Int) (S : HS) : zO2 :=
  zb (M_X11_cellAt a1 a2 S) fun r1 S2 =>
  if r1 = (-1) then (
    J_X11_look_22 kT S2)
  else (
    if a3 < 0 then (
      J_X11_look_22 kT S2)
    else (
      if a3 ≤ 2 then (
        if a3 = 0 then (
          zb (M_X2_hairsAt r1 S2) fun r16 S17 =>
          some (r16, S17))
        else (
          if a3 = 1 then (
            zb (M_X11_isUnlike r1 S2) fun r13 S14 =>
            if r13 = 0 then (
              some (0, S14))
            else (
              some (1, S14)))
          else (
            zb (M_X6_placeAt r1 S2) fun r8 S9 =>
            if r8 = (-1) then (
              some ((-1), S9))
            else (
              zg ((0 : Int) ≤ r8 ∧ (0 : Int) < 200) <|
              zl (r8 / 200) fun x12 =>
              some (x12, S9)))))
      else (
        J_X11_look_22 kT S2)))
set_option maxHeartbeats 4000000 in
set_option maxRecDepth 20000 in
theorem TW_X11_look {z : Zt} (hz : zO z cX11_look RX11 4 shX) (hN : zN z 6) {r : Int} {S' : HS} (hF : ∀ (v : Int) (l : List (Nat × AV)) (S : HS) (pc : Nat), decode cX11_look pc = .ok (.ireturn, 1) → rng v → WR shX S → (some (v, S) : zO2) = some (r, S') → zA z pc l [aI v] S) {kT : HS → zO2} {a1 : Int} {a2 : Int} {a3 : Int} (hkT : ∀ S : HS, WR shX S → kT S = some (r, S') → zA z 22 [] [] S) {S : HS} (ra1 : rng a1) (ra2 : rng a2) (ra3 : rng a3) (hW : WR shX S) (h : M_X11_look kT a1 a2 a3 S = some (r, S')) : zA z 0 [(0, aR 0), (1, aI a1), (2, aI a2), (3, aI a3)] [] S := by
  unfold M_X11_look at h
  refine s_iload_n 1 hz dX11_look_0 rfl ?_
  refine s_iload_n 2 hz dX11_look_1 rfl ?_
  obtain ⟨r1, S2, hc2, h⟩ := zb_of h
  refine s_callS [aI a1, aI a2] [] hz ml_X11_92 ss_yX11_cellAt (T_X11_cellAt ra1 ra2 hW hc2) (by decide) rfl rfl (Nat.le_of_ble_eq_true rfl) dX11_look_2 (fun rr1 hW2 => ?_)
  refine s_istore (l' := [(4, aI r1), (0, aR 0), (1, aI a1), (2, aI a2), (3, aI a3)]) hz hN dX11_look_5 (by decide) rfl ?_
  refine s_iload 0 hz dX11_look_7 rfl ?_
  refine s_iconst hz dX11_look_9 ?_
  refine s_icmp_eq 22 hz rr1 rl_m1 dX11_look_10 rfl (fun c3 => ?_) (fun c3 => ?_)
  · have h := zif_t c3 h
    refine s_pick (l' := []) [] rfl ?_
    exact TJ_X11_look_22 hz hN hF hkT hW2 h
  · have h := zif_f c3 h
    refine s_iload_n 4 hz dX11_look_13 rfl ?_
    refine s_if_lt 22 hz ra3 dX11_look_14 rfl (fun c4 => ?_) (fun c4 => ?_)
    · have h := zif_t c4 h
      refine s_pick (l' := []) [] rfl ?_
      exact TJ_X11_look_22 hz hN hF hkT hW2 h
    · have h := zif_f c4 h
      refine s_iload_n 4 hz dX11_look_17 rfl ?_
      refine s_iconst hz dX11_look_18 ?_
      refine s_icmp_le 30 hz ra3 rl_2 dX11_look_19 rfl (fun c5 => ?_) (fun c5 => ?_)
      · have h := zif_t c5 h
        refine s_iload_n 4 hz dX11_look_30 rfl ?_
        refine s_if_ne 44 hz ra3 dX11_look_31 rfl (fun c6 => ?_) (fun c6 => ?_)
        · have h := zif_f c6 h
          refine s_iload_n 4 hz dX11_look_44 rfl ?_
          refine s_iconst hz dX11_look_45 ?_
          refine s_icmp_ne 64 hz ra3 rl_1 dX11_look_46 rfl (fun c7 => ?_) (fun c7 => ?_)
          · have h := zif_f c7 h
            refine s_aload_n 1 hz dX11_look_64 rfl ?_
            refine s_getR 2 hz fl_X11_28 sx0 rfl (by decide) dX11_look_65 ?_
            refine s_iload 0 hz dX11_look_68 rfl ?_
            obtain ⟨r8, S9, hc9, h⟩ := zb_of h
            refine s_callV [aI r1] [] hz ml_X11_198 sv_yX6_placeAt (T_X6_placeAt rr1 hW2 hc9) (by decide) rfl sx7 rfl rfl (Nat.le_of_ble_eq_true rfl) dX11_look_70 (fun rr8 hW9 => ?_)
            refine s_istore (l' := [(5, aI r8), (4, aI r1), (0, aR 0), (1, aI a1), (2, aI a2), (3, aI a3)]) hz hN dX11_look_73 (by decide) rfl ?_
            refine s_iload 0 hz dX11_look_75 rfl ?_
            refine s_iconst hz dX11_look_77 ?_
            refine s_icmp_ne 85 hz rr8 rl_m1 dX11_look_78 rfl (fun c10 => ?_) (fun c10 => ?_)
            · have h := zif_f c10 h
              refine s_iload 0 hz dX11_look_85 rfl ?_
              refine s_sipush hz dX11_look_87 sp_200 ?_
              obtain ⟨g11, h⟩ := zg_of h
              refine s_idiv hz g11.1 g11.2 rr8 rl_200 dX11_look_90 ?_
              obtain ⟨x12, ex12, rx12, h⟩ := zl_ex h
              rw [← ex12]
              exact hF _ _ _ _ dX11_look_91 rx12 hW9 h
            · have h := zif_t c10 h
              refine s_iconst hz dX11_look_81 ?_
              refine s_goto 91 hz dX11_look_82 rfl ?_
              exact hF _ _ _ _ dX11_look_91 rl_m1 hW9 h
          · have h := zif_t c7 h
            refine s_aload_n 1 hz dX11_look_49 rfl ?_
            refine s_iload 0 hz dX11_look_50 rfl ?_
            obtain ⟨r13, S14, hc14, h⟩ := zb_of h
            refine s_callV [aI r1] [] hz ml_X11_195 sv_yX11_isUnlike (T_X11_isUnlike rr1 hW2 hc14) (by decide) rfl sx0 rfl rfl (Nat.le_of_ble_eq_true rfl) dX11_look_52 (fun rr13 hW14 => ?_)
            refine s_if_eq 62 hz rr13 dX11_look_55 rfl (fun c15 => ?_) (fun c15 => ?_)
            · have h := zif_t c15 h
              refine s_iconst hz dX11_look_62 ?_
              exact hF _ _ _ _ dX11_look_63 rl_0 hW14 h
            · have h := zif_f c15 h
              refine s_iconst hz dX11_look_58 ?_
              refine s_goto 63 hz dX11_look_59 rfl ?_
              exact hF _ _ _ _ dX11_look_63 rl_1 hW14 h
        · have h := zif_t c6 h
          refine s_aload_n 1 hz dX11_look_34 rfl ?_
          refine s_getR 0 hz fl_X11_12 sx0 rfl (by decide) dX11_look_35 ?_
          refine s_iload 0 hz dX11_look_38 rfl ?_
          obtain ⟨r16, S17, hc17, h⟩ := zb_of h
          refine s_callV [aI r1] [] hz ml_X11_192 sv_yX2_hairsAt (T_X2_hairsAt rr1 hW2 hc17) (by decide) rfl sx1 rfl rfl (Nat.le_of_ble_eq_true rfl) dX11_look_40 (fun rr16 hW17 => ?_)
          exact hF _ _ _ _ dX11_look_43 rr16 hW17 h
      · have h := zif_f c5 h
        refine s_pick (l' := []) [] rfl ?_
        exact TJ_X11_look_22 hz hN hF hkT hW2 h
