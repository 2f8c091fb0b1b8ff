def J_X8_nameRegions_58 (k15 : Int → HS → zO2) (v1 : Int) (S : HS) : zO2 :=
  zl (v1 + 1) fun x6 =>
  k15 x6 S
set_option maxHeartbeats 4000000 in
set_option maxRecDepth 20000 in
theorem TJ_X8_nameRegions_58 {k15 : Int → HS → zO2} {v1 : Int} {S : HS} {r : Int} {S' : HS} {z : Zt} (hz : zO z cX8_nameRegions RX8 5 shX) (hN : zN z 2) (hF : zFv z shX S') (hk15 : ∀ (w1 : Int) (S : HS), rng w1 → WR shX S → k15 w1 S = some (r, S') → zA z 15 [(0, aR 17), (1, aI w1)] [] S) (rv1 : rng v1) (hW : WR shX S) (h : J_X8_nameRegions_58 k15 v1 S = some (r, S')) : zA z 58 [(0, aR 17), (1, aI v1)] [] S := by
  unfold J_X8_nameRegions_58 at h
  obtain ⟨x6, ex6, rx6, h⟩ := zl_ex h
  refine s_iinc (k0 := 1) (y := x6) (l' := [(1, aI x6), (0, aR 17)]) hz hN dX8_nameRegions_58 rfl ex6.symm (by decide) rfl ?_
  refine s_goto 15 hz dX8_nameRegions_61 rfl ?_
  refine s_pick (l' := [(0, aR 17), (1, aI x6)]) [1, 0] rfl ?_
  exact hk15 _ _ rx6 hW h
def L_X8_nameRegions_15 : Nat → Int → HS → zO2
  | 0, _, _ => none
  | n + 1, v1, S => 
    if 192 ≤ v1 then (
      some (0, S))
    else (
      zg ((0 : Int) ≤ v1 ∧ v1 < 192) <|
      if S 18 v1 = (-1) then (
        zb (M_X2_isScalp v1 S) fun r7 S8 =>
        if r7 = 0 then (
          J_X8_nameRegions_58 (L_X8_nameRegions_15 n) v1 S8)
        else (
          zb (M_X8_nameRegion v1 S8) fun _ S11 =>
          zl ((S11 17 9) + 1) fun x12 =>
          zs (up S11 17 9 x12) fun S13 =>
          J_X8_nameRegions_58 (L_X8_nameRegions_15 n) v1 S13))
      else (
        J_X8_nameRegions_58 (L_X8_nameRegions_15 n) v1 S))
set_option maxHeartbeats 4000000 in
set_option maxRecDepth 20000 in
theorem TL_X8_nameRegions_15 {r : Int} {S' : HS} {z : Zt} (hz : zO z cX8_nameRegions RX8 5 shX) (hN : zN z 2) (hF : zFv z shX S') : ∀ (n : Nat) {v1 : Int} {S : HS}, rng v1 → WR shX S → L_X8_nameRegions_15 n v1 S = some (r, S') → zA z 15 [(0, aR 17), (1, aI v1)] [] S := by
  intro n
  induction n with
  | zero =>
    intro _ _ _ _ h
    cases h
  | succ n ih =>
    intro v1 S rv1 hW h
    rw [L_X8_nameRegions_15.eq_2] at h
    refine s_iload_n 1 hz dX8_nameRegions_15 rfl ?_
    refine s_sipush hz dX8_nameRegions_16 sp_192 ?_
    refine s_icmp_ge 64 hz rv1 rl_192 dX8_nameRegions_19 rfl (fun c3 => ?_) (fun c3 => ?_)
    · have h := zif_t c3 h
      exact s_vret h hz hF hW dX8_nameRegions_64
    · have h := zif_f c3 h
      refine s_aload_n 0 hz dX8_nameRegions_22 rfl ?_
      refine s_getR 3 hz fl_X8_9 sx17 rfl (by decide) dX8_nameRegions_23 ?_
      refine s_iload_n 1 hz dX8_nameRegions_26 rfl ?_
      obtain ⟨g4, h⟩ := zg_of h
      refine s_iald hz sx18 rfl (by decide) g4 dX8_nameRegions_27 ?_
      refine s_iconst hz dX8_nameRegions_28 ?_
      refine s_icmp_ne 58 hz (hW 18 _ sx18 v1) rl_m1 dX8_nameRegions_29 rfl (fun c5 => ?_) (fun c5 => ?_)
      · have h := zif_f c5 h
        exact TJ_X8_nameRegions_58 hz hN hF (fun _ _ => ih) rv1 hW h
      · have h := zif_t c5 h
        refine s_aload_n 0 hz dX8_nameRegions_32 rfl ?_
        refine s_getR 0 hz fl_X8_27 sx17 rfl (by decide) dX8_nameRegions_33 ?_
        refine s_iload_n 1 hz dX8_nameRegions_36 rfl ?_
        obtain ⟨r7, S8, hc8, h⟩ := zb_of h
        refine s_callV [aI v1] [] hz ml_X8_62 sv_yX2_isScalp (T_X2_isScalp rv1 hW hc8) (by decide) rfl sx1 rfl rfl (Nat.le_of_ble_eq_true rfl) dX8_nameRegions_37 (fun rr7 hW8 => ?_)
        refine s_if_eq 58 hz rr7 dX8_nameRegions_40 rfl (fun c9 => ?_) (fun c9 => ?_)
        · have h := zif_t c9 h
          exact TJ_X8_nameRegions_58 hz hN hF (fun _ _ => ih) rv1 hW8 h
        · have h := zif_f c9 h
          refine s_aload_n 0 hz dX8_nameRegions_43 rfl ?_
          refine s_iload_n 1 hz dX8_nameRegions_44 rfl ?_
          obtain ⟨r10, S11, hc11, h⟩ := zb_of h
          refine s_callVv [aI v1] [] hz ml_X8_67 sv_yX8_nameRegion (T_X8_nameRegion rv1 hW8 hc11) (by decide) rfl sx17 rfl rfl (Nat.le_of_ble_eq_true rfl) dX8_nameRegions_45 (fun hW11 => ?_)
          refine s_aload_n 0 hz dX8_nameRegions_48 rfl ?_
          refine s_dup hz rfl dX8_nameRegions_49 ?_
          refine s_getI (kz := 9) 9 hz fl_X8_58 sx17 rfl rfl dX8_nameRegions_50 ?_
          refine s_iconst hz dX8_nameRegions_53 ?_
          refine s_iadd hz dX8_nameRegions_54 ?_
          obtain ⟨x12, ex12, rx12, h⟩ := zl_ex h
          rw [← ex12]
          obtain ⟨S13, eS13, h⟩ := zs_ex h
          have hW13 : WR shX S13 := by rw [eS13]; exact hW11.up (i := 9) sx17 (v := x12) rx12
          refine s_putI (kz := 9) 9 hz fp_X8_58 sx17 rfl rfl dX8_nameRegions_55 ?_
          rw [← eS13]
          exact TJ_X8_nameRegions_58 hz hN hF (fun _ _ => ih) rv1 hW13 h
def M_X8_nameRegions (S : HS) : zO2 :=
  zs (zfill S 18 192 (-1)) fun S1 =>
  zs (up S1 17 9 0) fun S2 =>
  L_X8_nameRegions_15 zBig 0 S2
set_option maxHeartbeats 4000000 in
set_option maxRecDepth 20000 in
theorem T_X8_nameRegions {S S' : HS} {r : Int} (hW : WR shX S) (h : M_X8_nameRegions S = some (r, S')) : zV shX yX8_nameRegions cX8_nameRegions 2 5 [aR 17] S S' := by
  refine zV_of (by decide +kernel) (Nat.le_of_ble_eq_true rfl) (fun z hz hN hF => ?_)
  have hz : zO z cX8_nameRegions RX8 5 shX := hz
  show zA z 0 [(0, aR 17)] [] S
  unfold M_X8_nameRegions at h
  refine s_aload_n 0 hz dX8_nameRegions_0 rfl ?_
  refine s_getR 3 hz fl_X8_9 sx17 rfl (by decide) dX8_nameRegions_1 ?_
  refine s_iconst hz dX8_nameRegions_4 ?_
  obtain ⟨S1, eS1, h⟩ := zs_ex h
  have hW1 : WR shX S1 := by rw [eS1]; exact zfill_W (n := 192) (v := (-1)) hW sx18 rl_m1
  refine s_callSv [aR 18, aI (-1)] [] hz ml_X8_52 ss_yJ7_fill_53178 (T_fill (nz := 192) hW sx18 (by decide) rfl rl_m1) (by decide) rfl rfl (Nat.le_of_ble_eq_true rfl) dX8_nameRegions_5 (fun _ => ?_)
  rw [← eS1]
  refine s_aload_n 0 hz dX8_nameRegions_8 rfl ?_
  refine s_iconst hz dX8_nameRegions_9 ?_
  obtain ⟨S2, eS2, h⟩ := zs_ex h
  have hW2 : WR shX S2 := by rw [eS2]; exact hW1.up (i := 9) sx17 (v := 0) rl_0
  refine s_putI (kz := 9) 9 hz fp_X8_58 sx17 rfl rfl dX8_nameRegions_10 ?_
  rw [← eS2]
  refine s_iconst hz dX8_nameRegions_13 ?_
  refine s_istore_n (l' := [(1, aI 0), (0, aR 17)]) hz hN dX8_nameRegions_14 (by decide) rfl ?_
  refine s_pick (l' := [(0, aR 17), (1, aI 0)]) [1, 0] rfl ?_
  exact TL_X8_nameRegions_15 hz hN hF zBig rl_0 hW2 h
def M_X6_placeAt (a1 : Int) (S : HS) : zO2 :=
  zb (M_X11_isCell a1 S) fun r1 S2 =>
  if r1 = 0 then (
    some ((-1), S2))
  else (
    zg ((0 : Int) ≤ a1 ∧ a1 < 192) <|
    some (S2 11 a1, S2))
set_option maxHeartbeats 4000000 in
set_option maxRecDepth 20000 in
theorem T_X6_placeAt {a1 : Int} {S S' : HS} {r : Int} (ra1 : rng a1) (hW : WR shX S) (h : M_X6_placeAt a1 S = some (r, S')) : zR shX yX6_placeAt cX6_placeAt 2  .int 2 [aR 7, aI a1] S r S' := by
  refine zR_of (by decide +kernel) (Nat.le_of_ble_eq_true rfl) (fun z hz hN hF => ?_)
  have hz : zO z cX6_placeAt RX6 2 shX := hz
  show zA z 0 [(0, aR 7), (1, aI a1)] [] S
  unfold M_X6_placeAt at h
  refine s_iload_n 1 hz dX6_placeAt_0 rfl ?_
  obtain ⟨r1, S2, hc2, h⟩ := zb_of h
  refine s_callS [aI a1] [] hz ml_X6_72 ss_yX11_isCell (T_X11_isCell ra1 hW hc2) (by decide) rfl rfl (Nat.le_of_ble_eq_true rfl) dX6_placeAt_1 (fun rr1 hW2 => ?_)
  refine s_if_eq 16 hz rr1 dX6_placeAt_4 rfl (fun c3 => ?_) (fun c3 => ?_)
  · have h := zif_t c3 h
    refine s_iconst hz dX6_placeAt_16 ?_
    exact s_iret h hz hF rl_m1 hW2 dX6_placeAt_17
  · have h := zif_f c3 h
    refine s_aload_n 0 hz dX6_placeAt_7 rfl ?_
    refine s_getR 5 hz fl_X6_21 sx7 rfl (by decide) dX6_placeAt_8 ?_
    refine s_iload_n 1 hz dX6_placeAt_11 rfl ?_
    obtain ⟨g4, h⟩ := zg_of h
    refine s_iald hz sx11 rfl (by decide) g4 dX6_placeAt_12 ?_
    refine s_goto 17 hz dX6_placeAt_13 rfl ?_
    exact s_iret h hz hF (hW2 11 _ sx11 a1) hW2 dX6_placeAt_17
def M_X8_spreadTaker (a1 : Int) (a2 : Int) (S : HS) : zO2 :=
  zb (M_X11_isCell a1 S) fun r1 S2 =>
  if r1 = 0 then (
    some (0, S2))
  else (
    zb (M_X11_isCell a2 S2) fun r4 S5 =>
    if r4 = 0 then (
      some (0, S5))
    else (
      zg ((0 : Int) ≤ a2 ∧ a2 < 192) <|
      if S5 20 a2 = (-1) then (
        zg ((0 : Int) ≤ a1 ∧ a1 < 192) <|
        zl ((S5 20 a1) + 1) fun x20 =>
        zg ((0 : Int) ≤ a2 ∧ a2 < 192) <|
        zs (up S5 20 a2 x20) fun S22 =>
        zg ((0 : Int) ≤ a1 ∧ a1 < 192) <|
        zg ((0 : Int) ≤ a2 ∧ a2 < 192) <|
        zs (up S22 19 a2 (S22 19 a1)) fun S25 =>
        zb (M_X8_push a2 S25) fun _ S27 =>
        some (0, S27))
      else (
        zg ((0 : Int) ≤ a2 ∧ a2 < 192) <|
        zg ((0 : Int) ≤ a1 ∧ a1 < 192) <|
        zl ((S5 20 a1) + 1) fun x11 =>
        if S5 20 a2 = x11 then (
          zg ((0 : Int) ≤ a1 ∧ a1 < 192) <|
          zg ((0 : Int) ≤ a2 ∧ a2 < 192) <|
          if S5 19 a2 ≤ S5 19 a1 then (
            some (0, S5))
          else (
            zg ((0 : Int) ≤ a1 ∧ a1 < 192) <|
            zg ((0 : Int) ≤ a2 ∧ a2 < 192) <|
            zs (up S5 19 a2 (S5 19 a1)) fun S18 =>
            some (0, S18)))
        else (
          some (0, S5)))))
set_option maxHeartbeats 4000000 in
set_option maxRecDepth 20000 in
theorem T_X8_spreadTaker {a1 : Int} {a2 : Int} {S S' : HS} {r : Int} (ra1 : rng a1) (ra2 : rng a2) (hW : WR shX S) (h : M_X8_spreadTaker a1 a2 S = some (r, S')) : zV shX yX8_spreadTaker cX8_spreadTaker 3 2 [aR 17, aI a1, aI a2] S S' := by
  refine zV_of (by decide +kernel) (Nat.le_of_ble_eq_true rfl) (fun z hz hN hF => ?_)
  have hz : zO z cX8_spreadTaker RX8 2 shX := hz
  show zA z 0 [(0, aR 17), (1, aI a1), (2, aI a2)] [] S
  unfold M_X8_spreadTaker at h
  refine s_iload_n 1 hz dX8_spreadTaker_0 rfl ?_
  obtain ⟨r1, S2, hc2, h⟩ := zb_of h
  refine s_callS [aI a1] [] hz ml_X8_39 ss_yX11_isCell (T_X11_isCell ra1 hW hc2) (by decide) rfl rfl (Nat.le_of_ble_eq_true rfl) dX8_spreadTaker_1 (fun rr1 hW2 => ?_)
  refine s_if_eq 14 hz rr1 dX8_spreadTaker_4 rfl (fun c3 => ?_) (fun c3 => ?_)
  · have h := zif_t c3 h
    exact s_vret h hz hF hW2 dX8_spreadTaker_14
  · have h := zif_f c3 h
    refine s_iload_n 2 hz dX8_spreadTaker_7 rfl ?_
    obtain ⟨r4, S5, hc5, h⟩ := zb_of h
    refine s_callS [aI a2] [] hz ml_X8_39 ss_yX11_isCell (T_X11_isCell ra2 hW2 hc5) (by decide) rfl rfl (Nat.le_of_ble_eq_true rfl) dX8_spreadTaker_8 (fun rr4 hW5 => ?_)
    refine s_if_ne 15 hz rr4 dX8_spreadTaker_11 rfl (fun c6 => ?_) (fun c6 => ?_)
    · have h := zif_f c6 h
      refine s_aload_n 0 hz dX8_spreadTaker_15 rfl ?_
      refine s_getR 5 hz fl_X8_18 sx17 rfl (by decide) dX8_spreadTaker_16 ?_
      refine s_iload_n 2 hz dX8_spreadTaker_19 rfl ?_
      obtain ⟨g7, h⟩ := zg_of h
      refine s_iald hz sx20 rfl (by decide) g7 dX8_spreadTaker_20 ?_
      refine s_iconst hz dX8_spreadTaker_21 ?_
      refine s_icmp_ne 59 hz (hW5 20 _ sx20 a2) rl_m1 dX8_spreadTaker_22 rfl (fun c8 => ?_) (fun c8 => ?_)
      · have h := zif_f c8 h
        refine s_aload_n 0 hz dX8_spreadTaker_59 rfl ?_
        refine s_getR 5 hz fl_X8_18 sx17 rfl (by decide) dX8_spreadTaker_60 ?_
        refine s_iload_n 2 hz dX8_spreadTaker_63 rfl ?_
        obtain ⟨g9, h⟩ := zg_of h
        refine s_iald hz sx20 rfl (by decide) g9 dX8_spreadTaker_64 ?_
        refine s_aload_n 0 hz dX8_spreadTaker_65 rfl ?_
        refine s_getR 5 hz fl_X8_18 sx17 rfl (by decide) dX8_spreadTaker_66 ?_
        refine s_iload_n 1 hz dX8_spreadTaker_69 rfl ?_
        obtain ⟨g10, h⟩ := zg_of h
        refine s_iald hz sx20 rfl (by decide) g10 dX8_spreadTaker_70 ?_
        refine s_iconst hz dX8_spreadTaker_71 ?_
        refine s_iadd hz dX8_spreadTaker_72 ?_
        obtain ⟨x11, ex11, rx11, h⟩ := zl_ex h
        rw [← ex11]
        refine s_icmp_ne 103 hz (hW5 20 _ sx20 a2) rx11 dX8_spreadTaker_73 rfl (fun c12 => ?_) (fun c12 => ?_)
        · have h := zif_f c12 h
          exact s_vret h hz hF hW5 dX8_spreadTaker_103
        · have h := zif_t c12 h
          refine s_aload_n 0 hz dX8_spreadTaker_76 rfl ?_
          refine s_getR 4 hz fl_X8_15 sx17 rfl (by decide) dX8_spreadTaker_77 ?_
          refine s_iload_n 1 hz dX8_spreadTaker_80 rfl ?_
          obtain ⟨g13, h⟩ := zg_of h
          refine s_iald hz sx19 rfl (by decide) g13 dX8_spreadTaker_81 ?_
          refine s_aload_n 0 hz dX8_spreadTaker_82 rfl ?_
          refine s_getR 4 hz fl_X8_15 sx17 rfl (by decide) dX8_spreadTaker_83 ?_
          refine s_iload_n 2 hz dX8_spreadTaker_86 rfl ?_
          obtain ⟨g14, h⟩ := zg_of h
          refine s_iald hz sx19 rfl (by decide) g14 dX8_spreadTaker_87 ?_
          refine s_icmp_ge 103 hz (hW5 19 _ sx19 a1) (hW5 19 _ sx19 a2) dX8_spreadTaker_88 rfl (fun c15 => ?_) (fun c15 => ?_)
          · have h := zif_t c15 h
            exact s_vret h hz hF hW5 dX8_spreadTaker_103
          · have h := zif_f c15 h
            refine s_aload_n 0 hz dX8_spreadTaker_91 rfl ?_
            refine s_getR 4 hz fl_X8_15 sx17 rfl (by decide) dX8_spreadTaker_92 ?_
            refine s_iload_n 2 hz dX8_spreadTaker_95 rfl ?_
            refine s_aload_n 0 hz dX8_spreadTaker_96 rfl ?_
            refine s_getR 4 hz fl_X8_15 sx17 rfl (by decide) dX8_spreadTaker_97 ?_
            refine s_iload_n 1 hz dX8_spreadTaker_100 rfl ?_
            obtain ⟨g16, h⟩ := zg_of h
            refine s_iald hz sx19 rfl (by decide) g16 dX8_spreadTaker_101 ?_
            obtain ⟨g17, h⟩ := zg_of h
            obtain ⟨S18, eS18, h⟩ := zs_ex h
            have hW18 : WR shX S18 := by rw [eS18]; exact hW5.up (i := a2) sx19 (v := (S5 19 a1)) (hW5 19 _ sx19 a1)
            refine s_iast hz sx19 rfl (by decide) g17 dX8_spreadTaker_102 ?_
            rw [← eS18]
            exact s_vret h hz hF hW18 dX8_spreadTaker_103
      · have h := zif_t c8 h
        refine s_aload_n 0 hz dX8_spreadTaker_25 rfl ?_
        refine s_getR 5 hz fl_X8_18 sx17 rfl (by decide) dX8_spreadTaker_26 ?_
        refine s_iload_n 2 hz dX8_spreadTaker_29 rfl ?_
        refine s_aload_n 0 hz dX8_spreadTaker_30 rfl ?_
        refine s_getR 5 hz fl_X8_18 sx17 rfl (by decide) dX8_spreadTaker_31 ?_
        refine s_iload_n 1 hz dX8_spreadTaker_34 rfl ?_
        obtain ⟨g19, h⟩ := zg_of h
        refine s_iald hz sx20 rfl (by decide) g19 dX8_spreadTaker_35 ?_
        refine s_iconst hz dX8_spreadTaker_36 ?_
        refine s_iadd hz dX8_spreadTaker_37 ?_
        obtain ⟨x20, ex20, rx20, h⟩ := zl_ex h
        rw [← ex20]
        obtain ⟨g21, h⟩ := zg_of h
        obtain ⟨S22, eS22, h⟩ := zs_ex h
        have hW22 : WR shX S22 := by rw [eS22]; exact hW5.up (i := a2) sx20 (v := x20) rx20
        refine s_iast hz sx20 rfl (by decide) g21 dX8_spreadTaker_38 ?_
        rw [← eS22]
        refine s_aload_n 0 hz dX8_spreadTaker_39 rfl ?_
        refine s_getR 4 hz fl_X8_15 sx17 rfl (by decide) dX8_spreadTaker_40 ?_
        refine s_iload_n 2 hz dX8_spreadTaker_43 rfl ?_
        refine s_aload_n 0 hz dX8_spreadTaker_44 rfl ?_
        refine s_getR 4 hz fl_X8_15 sx17 rfl (by decide) dX8_spreadTaker_45 ?_
        refine s_iload_n 1 hz dX8_spreadTaker_48 rfl ?_
        obtain ⟨g23, h⟩ := zg_of h
        refine s_iald hz sx19 rfl (by decide) g23 dX8_spreadTaker_49 ?_
        obtain ⟨g24, h⟩ := zg_of h
        obtain ⟨S25, eS25, h⟩ := zs_ex h
        have hW25 : WR shX S25 := by rw [eS25]; exact hW22.up (i := a2) sx19 (v := (S22 19 a1)) (hW22 19 _ sx19 a1)
        refine s_iast hz sx19 rfl (by decide) g24 dX8_spreadTaker_50 ?_
        rw [← eS25]
        refine s_aload_n 0 hz dX8_spreadTaker_51 rfl ?_
        refine s_iload_n 2 hz dX8_spreadTaker_52 rfl ?_
        obtain ⟨r26, S27, hc27, h⟩ := zb_of h
        refine s_callVv [aI a2] [] hz ml_X8_82 sv_yX8_push (T_X8_push ra2 hW25 hc27) (by decide) rfl sx17 rfl rfl (Nat.le_of_ble_eq_true rfl) dX8_spreadTaker_53 (fun hW27 => ?_)
        refine s_goto 103 hz dX8_spreadTaker_56 rfl ?_
        exact s_vret h hz hF hW27 dX8_spreadTaker_103
    · have h := zif_t c6 h
      exact s_vret h hz hF hW5 dX8_spreadTaker_14
def J_X8_takeHair_80 (k15 : Int → HS → zO2) (v1 : Int) (S : HS) : zO2 :=
  zl (v1 + 1) fun x13 =>
  k15 x13 S
set_option maxHeartbeats 4000000 in
set_option maxRecDepth 20000 in
theorem TJ_X8_takeHair_80 {k15 : Int → HS → zO2} {v1 : Int} {S : HS} {r : Int} {S' : HS} {z : Zt} (hz : zO z cX8_takeHair RX8 4 shX) (hN : zN z 3) (hF : zFv z shX S') (hk15 : ∀ (w1 : Int) (S : HS), rng w1 → WR shX S → k15 w1 S = some (r, S') → zA z 15 [(0, aR 17), (1, aI w1)] [] S) (rv1 : rng v1) (hW : WR shX S) (h : J_X8_takeHair_80 k15 v1 S = some (r, S')) : zA z 80 [(0, aR 17), (1, aI v1)] [] S := by
  unfold J_X8_takeHair_80 at h
  obtain ⟨x13, ex13, rx13, h⟩ := zl_ex h
  refine s_iinc (k0 := 1) (y := x13) (l' := [(1, aI x13), (0, aR 17)]) hz hN dX8_takeHair_80 rfl ex13.symm (by decide) rfl ?_
  refine s_goto 15 hz dX8_takeHair_83 rfl ?_
  refine s_pick (l' := [(0, aR 17), (1, aI x13)]) [1, 0] rfl ?_
  exact hk15 _ _ rx13 hW h
def L_X8_takeHair_15 (k86 : HS → zO2) : Nat → Int → HS → zO2
  | 0, _, _ => none
  | n + 1, v1, S => 
    if 192 ≤ v1 then (
      k86 S)
    else (
      zb (M_X6_placeAt v1 S) fun r4 S5 =>
      zg ((0 : Int) ≤ v1 ∧ v1 < 192) <|
      zs (up S5 19 v1 r4) fun S7 =>
      zg ((0 : Int) ≤ v1 ∧ v1 < 192) <|
      if S7 19 v1 = (-1) then (
        zb (M_X2_isScalp v1 S7) fun r10 S11 =>
        if r10 = 0 then (
          J_X8_takeHair_80 (L_X8_takeHair_15 k86 n) v1 S11)
        else (
          zg ((0 : Int) ≤ v1 ∧ v1 < 192) <|
          zs (up S11 19 v1 (-2)) fun S15 =>
          J_X8_takeHair_80 (L_X8_takeHair_15 k86 n) v1 S15))
      else (
        zg ((0 : Int) ≤ v1 ∧ v1 < 192) <|
        zs (up S7 20 v1 0) fun S17 =>
        zb (M_X8_push v1 S17) fun _ S19 =>
        J_X8_takeHair_80 (L_X8_takeHair_15 k86 n) v1 S19))
set_option maxHeartbeats 4000000 in
set_option maxRecDepth 20000 in
theorem TL_X8_takeHair_15 {k86 : HS → zO2} {r : Int} {S' : HS} {z : Zt} (hz : zO z cX8_takeHair RX8 4 shX) (hN : zN z 3) (hF : zFv z shX S') (hk86 : ∀ (S : HS), WR shX S → k86 S = some (r, S') → zA z 86 [(0, aR 17)] [] S) : ∀ (n : Nat) {v1 : Int} {S : HS}, rng v1 → WR shX S → L_X8_takeHair_15 k86 n v1 S = some (r, S') → zA z 15 [(0, aR 17), (1, aI v1)] [] S := by
  intro n
  induction n with
  | zero =>
    intro _ _ _ _ h
    cases h
  | succ n ih =>
    intro v1 S rv1 hW h
    rw [L_X8_takeHair_15.eq_2] at h
    refine s_iload_n 1 hz dX8_takeHair_15 rfl ?_
    refine s_sipush hz dX8_takeHair_16 sp_192 ?_
    refine s_icmp_ge 86 hz rv1 rl_192 dX8_takeHair_19 rfl (fun c3 => ?_) (fun c3 => ?_)
    · have h := zif_t c3 h
      refine s_pick (l' := [(0, aR 17)]) [0] rfl ?_
      exact hk86 _ hW h
    · have h := zif_f c3 h
      refine s_aload_n 0 hz dX8_takeHair_22 rfl ?_
      refine s_getR 4 hz fl_X8_15 sx17 rfl (by decide) dX8_takeHair_23 ?_
      refine s_iload_n 1 hz dX8_takeHair_26 rfl ?_
      refine s_aload_n 0 hz dX8_takeHair_27 rfl ?_
      refine s_getR 2 hz fl_X8_35 sx17 rfl (by decide) dX8_takeHair_28 ?_
      refine s_iload_n 1 hz dX8_takeHair_31 rfl ?_
      obtain ⟨r4, S5, hc5, h⟩ := zb_of h
      refine s_callV [aI v1] [aI v1, aR 19] hz ml_X8_85 sv_yX6_placeAt (T_X6_placeAt rv1 hW hc5) (by decide) rfl sx7 rfl rfl (Nat.le_of_ble_eq_true rfl) dX8_takeHair_32 (fun rr4 hW5 => ?_)
      obtain ⟨g6, h⟩ := zg_of h
      obtain ⟨S7, eS7, h⟩ := zs_ex h
      have hW7 : WR shX S7 := by rw [eS7]; exact hW5.up (i := v1) sx19 (v := r4) rr4
      refine s_iast hz sx19 rfl (by decide) g6 dX8_takeHair_35 ?_
      rw [← eS7]
      refine s_aload_n 0 hz dX8_takeHair_36 rfl ?_
      refine s_getR 4 hz fl_X8_15 sx17 rfl (by decide) dX8_takeHair_37 ?_
      refine s_iload_n 1 hz dX8_takeHair_40 rfl ?_
      obtain ⟨g8, h⟩ := zg_of h
      refine s_iald hz sx19 rfl (by decide) g8 dX8_takeHair_41 ?_
      refine s_iconst hz dX8_takeHair_42 ?_
      refine s_icmp_eq 61 hz (hW7 19 _ sx19 v1) rl_m1 dX8_takeHair_43 rfl (fun c9 => ?_) (fun c9 => ?_)
      · have h := zif_t c9 h
        refine s_aload_n 0 hz dX8_takeHair_61 rfl ?_
        refine s_getR 0 hz fl_X8_27 sx17 rfl (by decide) dX8_takeHair_62 ?_
        refine s_iload_n 1 hz dX8_takeHair_65 rfl ?_
        obtain ⟨r10, S11, hc11, h⟩ := zb_of h
        refine s_callV [aI v1] [] hz ml_X8_62 sv_yX2_isScalp (T_X2_isScalp rv1 hW7 hc11) (by decide) rfl sx1 rfl rfl (Nat.le_of_ble_eq_true rfl) dX8_takeHair_66 (fun rr10 hW11 => ?_)
        refine s_if_eq 80 hz rr10 dX8_takeHair_69 rfl (fun c12 => ?_) (fun c12 => ?_)
        · have h := zif_t c12 h
          exact TJ_X8_takeHair_80 hz hN hF (fun _ _ => ih) rv1 hW11 h
        · have h := zif_f c12 h
          refine s_aload_n 0 hz dX8_takeHair_72 rfl ?_
          refine s_getR 4 hz fl_X8_15 sx17 rfl (by decide) dX8_takeHair_73 ?_
          refine s_iload_n 1 hz dX8_takeHair_76 rfl ?_
          refine s_bipush hz dX8_takeHair_77 bp_m2 ?_
          obtain ⟨g14, h⟩ := zg_of h
          obtain ⟨S15, eS15, h⟩ := zs_ex h
          have hW15 : WR shX S15 := by rw [eS15]; exact hW11.up (i := v1) sx19 (v := (-2)) rl_m2
          refine s_iast hz sx19 rfl (by decide) g14 dX8_takeHair_79 ?_
          rw [← eS15]
          exact TJ_X8_takeHair_80 hz hN hF (fun _ _ => ih) rv1 hW15 h
      · have h := zif_f c9 h
        refine s_aload_n 0 hz dX8_takeHair_46 rfl ?_
        refine s_getR 5 hz fl_X8_18 sx17 rfl (by decide) dX8_takeHair_47 ?_
        refine s_iload_n 1 hz dX8_takeHair_50 rfl ?_
        refine s_iconst hz dX8_takeHair_51 ?_
        obtain ⟨g16, h⟩ := zg_of h
        obtain ⟨S17, eS17, h⟩ := zs_ex h
        have hW17 : WR shX S17 := by rw [eS17]; exact hW7.up (i := v1) sx20 (v := 0) rl_0
        refine s_iast hz sx20 rfl (by decide) g16 dX8_takeHair_52 ?_
        rw [← eS17]
        refine s_aload_n 0 hz dX8_takeHair_53 rfl ?_
        refine s_iload_n 1 hz dX8_takeHair_54 rfl ?_
        obtain ⟨r18, S19, hc19, h⟩ := zb_of h
        refine s_callVv [aI v1] [] hz ml_X8_82 sv_yX8_push (T_X8_push rv1 hW17 hc19) (by decide) rfl sx17 rfl rfl (Nat.le_of_ble_eq_true rfl) dX8_takeHair_55 (fun hW19 => ?_)
        refine s_goto 80 hz dX8_takeHair_58 rfl ?_
        exact TJ_X8_takeHair_80 hz hN hF (fun _ _ => ih) rv1 hW19 h
def L_X8_takeHair_105 (k137 : HS → zO2) (p1 : Int) : Nat → Int → HS → zO2
  | 0, _, _ => none
  | n + 1, v2, S => 
    if 4 ≤ v2 then (
      k137 S)
    else (
      zg ((0 : Int) ≤ p1 ∧ p1 < 192) <|
      zg ((0 : Int) ≤ p1 ∧ p1 < 192) <|
      zb (M_X8_openBeside (S 22 p1) v2 S) fun r26 S27 =>
      zb (M_X8_spreadTaker (S 22 p1) r26 S27) fun _ S29 =>
      zl (v2 + 1) fun x30 =>
      L_X8_takeHair_105 k137 p1 n x30 S29)
set_option maxHeartbeats 4000000 in
set_option maxRecDepth 20000 in
theorem TL_X8_takeHair_105 {k137 : HS → zO2} {p1 : Int} {r : Int} {S' : HS} {z : Zt} (hz : zO z cX8_takeHair RX8 4 shX) (hN : zN z 3) (hF : zFv z shX S') (hk137 : ∀ (S : HS), WR shX S → k137 S = some (r, S') → zA z 137 [(0, aR 17), (1, aI p1)] [] S) (rp1 : rng p1) : ∀ (n : Nat) {v2 : Int} {S : HS}, rng v2 → WR shX S → L_X8_takeHair_105 k137 p1 n v2 S = some (r, S') → zA z 105 [(0, aR 17), (1, aI p1), (2, aI v2)] [] S := by
  intro n
  induction n with
  | zero =>
    intro _ _ _ _ h
    cases h
  | succ n ih =>
    intro v2 S rv2 hW h
    rw [L_X8_takeHair_105.eq_2] at h
    refine s_iload_n 2 hz dX8_takeHair_105 rfl ?_
    refine s_iconst hz dX8_takeHair_106 ?_
    refine s_icmp_ge 137 hz rv2 rl_4 dX8_takeHair_107 rfl (fun c23 => ?_) (fun c23 => ?_)
    · have h := zif_t c23 h
      refine s_pick (l' := [(0, aR 17), (1, aI p1)]) [0, 1] rfl ?_
      exact hk137 _ hW h
    · have h := zif_f c23 h
      refine s_aload_n 0 hz dX8_takeHair_110 rfl ?_
      refine s_aload_n 0 hz dX8_takeHair_111 rfl ?_
      refine s_getR 7 hz fl_X8_24 sx17 rfl (by decide) dX8_takeHair_112 ?_
      refine s_iload_n 1 hz dX8_takeHair_115 rfl ?_
      obtain ⟨g24, h⟩ := zg_of h
      refine s_iald hz sx22 rfl (by decide) g24 dX8_takeHair_116 ?_
      refine s_aload_n 0 hz dX8_takeHair_117 rfl ?_
      refine s_aload_n 0 hz dX8_takeHair_118 rfl ?_
      refine s_getR 7 hz fl_X8_24 sx17 rfl (by decide) dX8_takeHair_119 ?_
      refine s_iload_n 1 hz dX8_takeHair_122 rfl ?_
      obtain ⟨g25, h⟩ := zg_of h
      refine s_iald hz sx22 rfl (by decide) g25 dX8_takeHair_123 ?_
      refine s_iload_n 2 hz dX8_takeHair_124 rfl ?_
      obtain ⟨r26, S27, hc27, h⟩ := zb_of h
      refine s_callV [aI (S 22 p1), aI v2] [aI (S 22 p1), aR 17] hz ml_X8_78 sv_yX8_openBeside (T_X8_openBeside (hW 22 _ sx22 p1) rv2 hW hc27) (by decide) rfl sx17 rfl rfl (Nat.le_of_ble_eq_true rfl) dX8_takeHair_125 (fun rr26 hW27 => ?_)
      obtain ⟨r28, S29, hc29, h⟩ := zb_of h
      refine s_callVv [aI (S 22 p1), aI r26] [] hz ml_X8_91 sv_yX8_spreadTaker (T_X8_spreadTaker (hW 22 _ sx22 p1) rr26 hW27 hc29) (by decide) rfl sx17 rfl rfl (Nat.le_of_ble_eq_true rfl) dX8_takeHair_128 (fun hW29 => ?_)
      obtain ⟨x30, ex30, rx30, h⟩ := zl_ex h
      refine s_iinc (k0 := 2) (y := x30) (l' := [(2, aI x30), (0, aR 17), (1, aI p1)]) hz hN dX8_takeHair_131 rfl ex30.symm (by decide) rfl ?_
      refine s_goto 105 hz dX8_takeHair_134 rfl ?_
      refine s_pick (l' := [(0, aR 17), (1, aI p1), (2, aI x30)]) [1, 2, 0] rfl ?_
      exact ih rx30 hW29 h
def L_X8_takeHair_88 : Nat → Int → HS → zO2
  | 0, _, _ => none
  | n + 1, v1, S => 
    if S 17 8 ≤ v1 then (
      some (0, S))
    else (
      if 192 ≤ v1 then (
        some (0, S))
      else (
        L_X8_takeHair_105 (fun S31 =>
            zl (v1 + 1) fun x32 =>
            L_X8_takeHair_88 n x32 S31) v1 zBig 0 S))
set_option maxHeartbeats 4000000 in
set_option maxRecDepth 20000 in
theorem TL_X8_takeHair_88 {r : Int} {S' : HS} {z : Zt} (hz : zO z cX8_takeHair RX8 4 shX) (hN : zN z 3) (hF : zFv z shX S') : ∀ (n : Nat) {v1 : Int} {S : HS}, rng v1 → WR shX S → L_X8_takeHair_88 n v1 S = some (r, S') → zA z 88 [(0, aR 17), (1, aI v1)] [] S := by
  intro n
  induction n with
  | zero =>
    intro _ _ _ _ h
    cases h
  | succ n ih =>
    intro v1 S rv1 hW h
    rw [L_X8_takeHair_88.eq_2] at h
    refine s_iload_n 1 hz dX8_takeHair_88 rfl ?_
    refine s_aload_n 0 hz dX8_takeHair_89 rfl ?_
    refine s_getI (kz := 8) 8 hz fl_X8_71 sx17 rfl rfl dX8_takeHair_90 ?_
    refine s_icmp_ge 143 hz rv1 (hW 17 _ sx17 8) dX8_takeHair_93 rfl (fun c21 => ?_) (fun c21 => ?_)
    · have h := zif_t c21 h
      exact s_vret h hz hF hW dX8_takeHair_143
    · have h := zif_f c21 h
      refine s_iload_n 1 hz dX8_takeHair_96 rfl ?_
      refine s_sipush hz dX8_takeHair_97 sp_192 ?_
      refine s_icmp_ge 143 hz rv1 rl_192 dX8_takeHair_100 rfl (fun c22 => ?_) (fun c22 => ?_)
      · have h := zif_t c22 h
        exact s_vret h hz hF hW dX8_takeHair_143
      · have h := zif_f c22 h
        refine s_iconst hz dX8_takeHair_103 ?_
        refine s_istore_n (l' := [(2, aI 0), (0, aR 17), (1, aI v1)]) hz hN dX8_takeHair_104 (by decide) rfl ?_
        refine s_pick (l' := [(0, aR 17), (1, aI v1), (2, aI 0)]) [1, 2, 0] rfl ?_
        refine TL_X8_takeHair_105 hz hN hF ?_ rv1 zBig rl_0 hW h
        · clear h 
          intro S31 hW31 h
          obtain ⟨x32, ex32, rx32, h⟩ := zl_ex h
          refine s_iinc (k0 := 1) (y := x32) (l' := [(1, aI x32), (0, aR 17)]) hz hN dX8_takeHair_137 rfl ex32.symm (by decide) rfl ?_
          refine s_goto 88 hz dX8_takeHair_140 rfl ?_
          refine s_pick (l' := [(0, aR 17), (1, aI x32)]) [1, 0] rfl ?_
          exact ih rx32 hW31 h
def M_X8_takeHair (S : HS) : zO2 :=
  zs (zfill S 20 192 (-1)) fun S1 =>
  zs (up S1 17 8 0) fun S2 =>
  L_X8_takeHair_15 (fun S20 =>
      L_X8_takeHair_88 zBig 0 S20) zBig 0 S2
set_option maxHeartbeats 4000000 in
set_option maxRecDepth 20000 in
theorem T_X8_takeHair {S S' : HS} {r : Int} (hW : WR shX S) (h : M_X8_takeHair S = some (r, S')) : zV shX yX8_takeHair cX8_takeHair 3 4 [aR 17] S S' := by
  refine zV_of (by decide +kernel) (Nat.le_of_ble_eq_true rfl) (fun z hz hN hF => ?_)
  have hz : zO z cX8_takeHair RX8 4 shX := hz
  show zA z 0 [(0, aR 17)] [] S
  unfold M_X8_takeHair at h
  refine s_aload_n 0 hz dX8_takeHair_0 rfl ?_
  refine s_getR 5 hz fl_X8_18 sx17 rfl (by decide) dX8_takeHair_1 ?_
  refine s_iconst hz dX8_takeHair_4 ?_
  obtain ⟨S1, eS1, h⟩ := zs_ex h
  have hW1 : WR shX S1 := by rw [eS1]; exact zfill_W (n := 192) (v := (-1)) hW sx20 rl_m1
  refine s_callSv [aR 20, aI (-1)] [] hz ml_X8_52 ss_yJ7_fill_53178 (T_fill (nz := 192) hW sx20 (by decide) rfl rl_m1) (by decide) rfl rfl (Nat.le_of_ble_eq_true rfl) dX8_takeHair_5 (fun _ => ?_)
  rw [← eS1]
  refine s_aload_n 0 hz dX8_takeHair_8 rfl ?_
  refine s_iconst hz dX8_takeHair_9 ?_
  obtain ⟨S2, eS2, h⟩ := zs_ex h
  have hW2 : WR shX S2 := by rw [eS2]; exact hW1.up (i := 8) sx17 (v := 0) rl_0
  refine s_putI (kz := 8) 8 hz fp_X8_71 sx17 rfl rfl dX8_takeHair_10 ?_
  rw [← eS2]
  refine s_iconst hz dX8_takeHair_13 ?_
  refine s_istore_n (l' := [(1, aI 0), (0, aR 17)]) hz hN dX8_takeHair_14 (by decide) rfl ?_
  refine s_pick (l' := [(0, aR 17), (1, aI 0)]) [1, 0] rfl ?_
  refine TL_X8_takeHair_15 hz hN hF ?_ zBig rl_0 hW2 h
  · clear h 
    intro S20 hW20 h
    refine s_iconst hz dX8_takeHair_86 ?_
    refine s_istore_n (l' := [(1, aI 0), (0, aR 17)]) hz hN dX8_takeHair_87 (by decide) rfl ?_
    refine s_pick (l' := [(0, aR 17), (1, aI 0)]) [1, 0] rfl ?_
    exact TL_X8_takeHair_88 hz hN hF zBig rl_0 hW20 h
def M_X2_hairsAt (a1 : Int) (S : HS) : zO2 :=
  zb (M_X11_isCell a1 S) fun r1 S2 =>
  if r1 = 0 then (
    some ((-1), S2))
  else (
    zg ((0 : Int) ≤ a1 ∧ a1 < 192) <|
    some (S2 2 a1, S2))
set_option maxHeartbeats 4000000 in
set_option maxRecDepth 20000 in
theorem T_X2_hairsAt {a1 : Int} {S S' : HS} {r : Int} (ra1 : rng a1) (hW : WR shX S) (h : M_X2_hairsAt a1 S = some (r, S')) : zR shX yX2_hairsAt cX2_hairsAt 2  .int 2 [aR 1, aI a1] S r S' := by
  refine zR_of (by decide +kernel) (Nat.le_of_ble_eq_true rfl) (fun z hz hN hF => ?_)
  have hz : zO z cX2_hairsAt RX2 2 shX := hz
  show zA z 0 [(0, aR 1), (1, aI a1)] [] S
  unfold M_X2_hairsAt at h
  refine s_iload_n 1 hz dX2_hairsAt_0 rfl ?_
  obtain ⟨r1, S2, hc2, h⟩ := zb_of h
  refine s_callS [aI a1] [] hz ml_X2_28 ss_yX11_isCell (T_X11_isCell ra1 hW hc2) (by decide) rfl rfl (Nat.le_of_ble_eq_true rfl) dX2_hairsAt_1 (fun rr1 hW2 => ?_)
  refine s_if_eq 16 hz rr1 dX2_hairsAt_4 rfl (fun c3 => ?_) (fun c3 => ?_)
  · have h := zif_t c3 h
    refine s_iconst hz dX2_hairsAt_16 ?_
    exact s_iret h hz hF rl_m1 hW2 dX2_hairsAt_17
  · have h := zif_f c3 h
    refine s_aload_n 0 hz dX2_hairsAt_7 rfl ?_
    refine s_getR 0 hz fl_X2_9 sx1 rfl (by decide) dX2_hairsAt_8 ?_
    refine s_iload_n 1 hz dX2_hairsAt_11 rfl ?_
    obtain ⟨g4, h⟩ := zg_of h
    refine s_iald hz sx2 rfl (by decide) g4 dX2_hairsAt_12 ?_
    refine s_goto 17 hz dX2_hairsAt_13 rfl ?_
    exact s_iret h hz hF (hW2 2 _ sx2 a1) hW2 dX2_hairsAt_17
def M_X6_has (a1 : Int) (S : HS) : zO2 :=
  if a1 < 0 then (
    some (0, S))
  else (
    if S 7 11 ≤ a1 then (
      some (0, S))
    else (
      if 24 ≤ a1 then (
        some (0, S))
      else (
        some (1, S))))
set_option maxHeartbeats 4000000 in
set_option maxRecDepth 20000 in
theorem T_X6_has {a1 : Int} {S S' : HS} {r : Int} (ra1 : rng a1) (hW : WR shX S) (h : M_X6_has a1 S = some (r, S')) : zR shX yX6_has cX6_has 2  .boolean 1 [aR 7, aI a1] S r S' := by
  refine zR_of (by decide +kernel) (Nat.le_of_ble_eq_true rfl) (fun z hz hN hF => ?_)
  have hz : zO z cX6_has RX6 1 shX := hz
  show zA z 0 [(0, aR 7), (1, aI a1)] [] S
  unfold M_X6_has at h
  refine s_iload_n 1 hz dX6_has_0 rfl ?_
  refine s_if_lt 22 hz ra1 dX6_has_1 rfl (fun c1 => ?_) (fun c1 => ?_)
  · have h := zif_t c1 h
    refine s_iconst hz dX6_has_22 ?_
    exact s_zret h hz hF (by decide) hW dX6_has_23
  · have h := zif_f c1 h
    refine s_iload_n 1 hz dX6_has_4 rfl ?_
    refine s_aload_n 0 hz dX6_has_5 rfl ?_
    refine s_getI (kz := 11) 11 hz fl_X6_39 sx7 rfl rfl dX6_has_6 ?_
    refine s_icmp_ge 22 hz ra1 (hW 7 _ sx7 11) dX6_has_9 rfl (fun c2 => ?_) (fun c2 => ?_)
    · have h := zif_t c2 h
      refine s_iconst hz dX6_has_22 ?_
      exact s_zret h hz hF (by decide) hW dX6_has_23
    · have h := zif_f c2 h
      refine s_iload_n 1 hz dX6_has_12 rfl ?_
      refine s_bipush hz dX6_has_13 bp_24 ?_
      refine s_icmp_ge 22 hz ra1 rl_24 dX6_has_15 rfl (fun c3 => ?_) (fun c3 => ?_)
      · have h := zif_t c3 h
        refine s_iconst hz dX6_has_22 ?_
        exact s_zret h hz hF (by decide) hW dX6_has_23
      · have h := zif_f c3 h
        refine s_iconst hz dX6_has_18 ?_
        refine s_goto 23 hz dX6_has_19 rfl ?_
        exact s_zret h hz hF (by decide) hW dX6_has_23
def M_X6_cellIn (a1 : Int) (a2 : Int) (S : HS) : zO2 :=
  zb (M_X6_has a1 S) fun r1 S2 =>
  if r1 = 0 then (
    some ((-1), S2))
  else (
    if a2 < 0 then (
      some ((-1), S2))
    else (
      zg ((0 : Int) ≤ a1 ∧ a1 < 24) <|
      if a2 < S2 10 a1 then (
        zg ((0 : Int) ≤ a1 ∧ a1 < 24) <|
        zl ((S2 9 a1) + a2) fun x8 =>
        if x8 < 0 then (
          some ((-1), S2))
        else (
          if 192 ≤ x8 then (
            some ((-1), S2))
          else (
            zg ((0 : Int) ≤ x8 ∧ x8 < 192) <|
            some (S2 8 x8, S2))))
      else (
        some ((-1), S2))))
set_option maxHeartbeats 4000000 in
set_option maxRecDepth 20000 in
theorem T_X6_cellIn {a1 : Int} {a2 : Int} {S S' : HS} {r : Int} (ra1 : rng a1) (ra2 : rng a2) (hW : WR shX S) (h : M_X6_cellIn a1 a2 S = some (r, S')) : zR shX yX6_cellIn cX6_cellIn 4  .int 2 [aR 7, aI a1, aI a2] S r S' := by
  refine zR_of (by decide +kernel) (Nat.le_of_ble_eq_true rfl) (fun z hz hN hF => ?_)
  have hz : zO z cX6_cellIn RX6 2 shX := hz
  show zA z 0 [(0, aR 7), (1, aI a1), (2, aI a2)] [] S
  unfold M_X6_cellIn at h
  refine s_aload_n 0 hz dX6_cellIn_0 rfl ?_
  refine s_iload_n 1 hz dX6_cellIn_1 rfl ?_
  obtain ⟨r1, S2, hc2, h⟩ := zb_of h
  refine s_callV [aI a1] [] hz ml_X6_60 sv_yX6_has (T_X6_has ra1 hW hc2) (by decide) rfl sx7 rfl rfl (Nat.le_of_ble_eq_true rfl) dX6_cellIn_2 (fun rr1 hW2 => ?_)
  refine s_if_eq 22 hz rr1 dX6_cellIn_5 rfl (fun c3 => ?_) (fun c3 => ?_)
  · have h := zif_t c3 h
    refine s_iconst hz dX6_cellIn_22 ?_
    exact s_iret h hz hF rl_m1 hW2 dX6_cellIn_23
  · have h := zif_f c3 h
    refine s_iload_n 2 hz dX6_cellIn_8 rfl ?_
    refine s_if_lt 22 hz ra2 dX6_cellIn_9 rfl (fun c4 => ?_) (fun c4 => ?_)
    · have h := zif_t c4 h
      refine s_iconst hz dX6_cellIn_22 ?_
      exact s_iret h hz hF rl_m1 hW2 dX6_cellIn_23
    · have h := zif_f c4 h
      refine s_iload_n 2 hz dX6_cellIn_12 rfl ?_
      refine s_aload_n 0 hz dX6_cellIn_13 rfl ?_
      refine s_getR 4 hz fl_X6_18 sx7 rfl (by decide) dX6_cellIn_14 ?_
      refine s_iload_n 1 hz dX6_cellIn_17 rfl ?_
      obtain ⟨g5, h⟩ := zg_of h
      refine s_iald hz sx10 rfl (by decide) g5 dX6_cellIn_18 ?_
      refine s_icmp_lt 24 hz ra2 (hW2 10 _ sx10 a1) dX6_cellIn_19 rfl (fun c6 => ?_) (fun c6 => ?_)
      · have h := zif_t c6 h
        refine s_aload_n 0 hz dX6_cellIn_24 rfl ?_
        refine s_getR 3 hz fl_X6_15 sx7 rfl (by decide) dX6_cellIn_25 ?_
        refine s_iload_n 1 hz dX6_cellIn_28 rfl ?_
        obtain ⟨g7, h⟩ := zg_of h
        refine s_iald hz sx9 rfl (by decide) g7 dX6_cellIn_29 ?_
        refine s_iload_n 2 hz dX6_cellIn_30 rfl ?_
        refine s_iadd hz dX6_cellIn_31 ?_
        obtain ⟨x8, ex8, rx8, h⟩ := zl_ex h
        rw [← ex8]
        refine s_istore_n (l' := [(3, aI x8), (0, aR 7), (1, aI a1), (2, aI a2)]) hz hN dX6_cellIn_32 (by decide) rfl ?_
        refine s_iload_n 0 hz dX6_cellIn_33 rfl ?_
        refine s_if_lt 53 hz rx8 dX6_cellIn_34 rfl (fun c9 => ?_) (fun c9 => ?_)
        · have h := zif_t c9 h
          refine s_iconst hz dX6_cellIn_53 ?_
          exact s_iret h hz hF rl_m1 hW2 dX6_cellIn_54
        · have h := zif_f c9 h
          refine s_iload_n 0 hz dX6_cellIn_37 rfl ?_
          refine s_sipush hz dX6_cellIn_38 sp_192 ?_
          refine s_icmp_ge 53 hz rx8 rl_192 dX6_cellIn_41 rfl (fun c10 => ?_) (fun c10 => ?_)
          · have h := zif_t c10 h
            refine s_iconst hz dX6_cellIn_53 ?_
            exact s_iret h hz hF rl_m1 hW2 dX6_cellIn_54
          · have h := zif_f c10 h
            refine s_aload_n 1 hz dX6_cellIn_44 rfl ?_
            refine s_getR 2 hz fl_X6_9 sx7 rfl (by decide) dX6_cellIn_45 ?_
            refine s_iload_n 0 hz dX6_cellIn_48 rfl ?_
            obtain ⟨g11, h⟩ := zg_of h
            refine s_iald hz sx8 rfl (by decide) g11 dX6_cellIn_49 ?_
            refine s_goto 54 hz dX6_cellIn_50 rfl ?_
            exact s_iret h hz hF (hW2 8 _ sx8 x8) hW2 dX6_cellIn_54
      · have h := zif_f c6 h
        refine s_iconst hz dX6_cellIn_22 ?_
        exact s_iret h hz hF rl_m1 hW2 dX6_cellIn_23
def M_X8_addHair (a1 : Int) (a2 : Int) (S : HS) : zO2 :=
  zg ((0 : Int) ≤ a1 ∧ (0 : Int) < 200) <|
  zg ((0 : Int) ≤ a1 ∧ (0 : Int) < 200) <|
  zl (a1 % 200) fun x3 =>
  zl (a1 / 200) fun x4 =>
  zb (M_X6_cellIn x4 x3 S) fun r5 S6 =>
  zb (M_X11_isCell r5 S6) fun r7 S8 =>
  if r7 = 0 then (
    some (0, S8))
  else (
    zg ((0 : Int) ≤ r5 ∧ r5 < 192) <|
    zl ((S8 21 r5) + a2) fun x11 =>
    zg ((0 : Int) ≤ r5 ∧ r5 < 192) <|
    zs (up S8 21 r5 x11) fun S13 =>
    some (0, S13))
set_option maxHeartbeats 4000000 in
set_option maxRecDepth 20000 in
theorem T_X8_addHair {a1 : Int} {a2 : Int} {S S' : HS} {r : Int} (ra1 : rng a1) (ra2 : rng a2) (hW : WR shX S) (h : M_X8_addHair a1 a2 S = some (r, S')) : zV shX yX8_addHair cX8_addHair 4 3 [aR 17, aI a1, aI a2] S S' := by
  refine zV_of (by decide +kernel) (Nat.le_of_ble_eq_true rfl) (fun z hz hN hF => ?_)
  have hz : zO z cX8_addHair RX8 3 shX := hz
  show zA z 0 [(0, aR 17), (1, aI a1), (2, aI a2)] [] S
  unfold M_X8_addHair at h
  refine s_aload_n 0 hz dX8_addHair_0 rfl ?_
  refine s_getR 2 hz fl_X8_35 sx17 rfl (by decide) dX8_addHair_1 ?_
  refine s_iload_n 1 hz dX8_addHair_4 rfl ?_
  refine s_sipush hz dX8_addHair_5 sp_200 ?_
  obtain ⟨g1, h⟩ := zg_of h
  refine s_idiv hz g1.1 g1.2 ra1 rl_200 dX8_addHair_8 ?_
  refine s_iload_n 1 hz dX8_addHair_9 rfl ?_
  refine s_sipush hz dX8_addHair_10 sp_200 ?_
  obtain ⟨g2, h⟩ := zg_of h
  refine s_irem hz g2.1 g2.2 ra1 rl_200 dX8_addHair_13 ?_
  obtain ⟨x3, ex3, rx3, h⟩ := zl_ex h
  rw [← ex3]
  obtain ⟨x4, ex4, rx4, h⟩ := zl_ex h
  rw [← ex4]
  obtain ⟨r5, S6, hc6, h⟩ := zb_of h
  refine s_callV [aI x4, aI x3] [] hz ml_X8_103 sv_yX6_cellIn (T_X6_cellIn rx4 rx3 hW hc6) (by decide) rfl sx7 rfl rfl (Nat.le_of_ble_eq_true rfl) dX8_addHair_14 (fun rr5 hW6 => ?_)
  refine s_istore_n (l' := [(3, aI r5), (0, aR 17), (1, aI a1), (2, aI a2)]) hz hN dX8_addHair_17 (by decide) rfl ?_
  refine s_iload_n 0 hz dX8_addHair_18 rfl ?_
  obtain ⟨r7, S8, hc8, h⟩ := zb_of h
  refine s_callS [aI r5] [] hz ml_X8_39 ss_yX11_isCell (T_X11_isCell rr5 hW6 hc8) (by decide) rfl rfl (Nat.le_of_ble_eq_true rfl) dX8_addHair_19 (fun rr7 hW8 => ?_)
  refine s_if_eq 35 hz rr7 dX8_addHair_22 rfl (fun c9 => ?_) (fun c9 => ?_)
  · have h := zif_t c9 h
    exact s_vret h hz hF hW8 dX8_addHair_35
  · have h := zif_f c9 h
    refine s_aload_n 1 hz dX8_addHair_25 rfl ?_
    refine s_getR 6 hz fl_X8_21 sx17 rfl (by decide) dX8_addHair_26 ?_
    refine s_iload_n 0 hz dX8_addHair_29 rfl ?_
    refine s_dup2 hz rfl rfl dX8_addHair_30 ?_
    obtain ⟨g10, h⟩ := zg_of h
    refine s_iald hz sx21 rfl (by decide) g10 dX8_addHair_31 ?_
    refine s_iload_n 3 hz dX8_addHair_32 rfl ?_
    refine s_iadd hz dX8_addHair_33 ?_
    obtain ⟨x11, ex11, rx11, h⟩ := zl_ex h
    rw [← ex11]
    obtain ⟨g12, h⟩ := zg_of h
    obtain ⟨S13, eS13, h⟩ := zs_ex h
    have hW13 : WR shX S13 := by rw [eS13]; exact hW8.up (i := r5) sx21 (v := x11) rx11
    refine s_iast hz sx21 rfl (by decide) g12 dX8_addHair_34 ?_
    rw [← eS13]
    exact s_vret h hz hF hW13 dX8_addHair_35
def J_X8_sumHair_74 (k15 : Int → HS → zO2) (v1 : Int) (S : HS) : zO2 :=
  zl (v1 + 1) fun x8 =>
  k15 x8 S
set_option maxHeartbeats 4000000 in
set_option maxRecDepth 20000 in
theorem TJ_X8_sumHair_74 {k15 : Int → HS → zO2} {v1 : Int} {S : HS} {r : Int} {S' : HS} {z : Zt} (hz : zO z cX8_sumHair RX8 4 shX) (hN : zN z 2) (hF : zFv z shX S') (hk15 : ∀ (w1 : Int) (S : HS), rng w1 → WR shX S → k15 w1 S = some (r, S') → zA z 15 [(0, aR 17), (1, aI w1)] [] S) (rv1 : rng v1) (hW : WR shX S) (h : J_X8_sumHair_74 k15 v1 S = some (r, S')) : zA z 74 [(0, aR 17), (1, aI v1)] [] S := by
  unfold J_X8_sumHair_74 at h
  obtain ⟨x8, ex8, rx8, h⟩ := zl_ex h
  refine s_iinc (k0 := 1) (y := x8) (l' := [(1, aI x8), (0, aR 17)]) hz hN dX8_sumHair_74 rfl ex8.symm (by decide) rfl ?_
  refine s_goto 15 hz dX8_sumHair_77 rfl ?_
  refine s_pick (l' := [(0, aR 17), (1, aI x8)]) [1, 0] rfl ?_
  exact hk15 _ _ rx8 hW h
def L_X8_sumHair_15 : Nat → Int → HS → zO2
  | 0, _, _ => none
  | n + 1, v1, S => 
    if 192 ≤ v1 then (
      some (0, S))
    else (
      zg ((0 : Int) ≤ v1 ∧ v1 < 192) <|
      if S 19 v1 = (-2) then (
        zl ((S 17 10) + 1) fun x14 =>
        zs (up S 17 10 x14) fun S15 =>
        J_X8_sumHair_74 (L_X8_sumHair_15 n) v1 S15)
      else (
        zg ((0 : Int) ≤ v1 ∧ v1 < 192) <|
        if S 19 v1 = (-1) then (
          J_X8_sumHair_74 (L_X8_sumHair_15 n) v1 S)
        else (
          zg ((0 : Int) ≤ v1 ∧ v1 < 192) <|
          zb (M_X2_hairsAt v1 S) fun r10 S11 =>
          zb (M_X8_addHair (S 19 v1) r10 S11) fun _ S13 =>
          J_X8_sumHair_74 (L_X8_sumHair_15 n) v1 S13)))
set_option maxHeartbeats 4000000 in
set_option maxRecDepth 20000 in
theorem TL_X8_sumHair_15 {r : Int} {S' : HS} {z : Zt} (hz : zO z cX8_sumHair RX8 4 shX) (hN : zN z 2) (hF : zFv z shX S') : ∀ (n : Nat) {v1 : Int} {S : HS}, rng v1 → WR shX S → L_X8_sumHair_15 n v1 S = some (r, S') → zA z 15 [(0, aR 17), (1, aI v1)] [] S := by
  intro n
  induction n with
  | zero =>
    intro _ _ _ _ h
    cases h
  | succ n ih =>
    intro v1 S rv1 hW h
    rw [L_X8_sumHair_15.eq_2] at h
    refine s_iload_n 1 hz dX8_sumHair_15 rfl ?_
    refine s_sipush hz dX8_sumHair_16 sp_192 ?_
    refine s_icmp_ge 80 hz rv1 rl_192 dX8_sumHair_19 rfl (fun c3 => ?_) (fun c3 => ?_)
    · have h := zif_t c3 h
      exact s_vret h hz hF hW dX8_sumHair_80
    · have h := zif_f c3 h
      refine s_aload_n 0 hz dX8_sumHair_22 rfl ?_
      refine s_getR 4 hz fl_X8_15 sx17 rfl (by decide) dX8_sumHair_23 ?_
      refine s_iload_n 1 hz dX8_sumHair_26 rfl ?_
      obtain ⟨g4, h⟩ := zg_of h
      refine s_iald hz sx19 rfl (by decide) g4 dX8_sumHair_27 ?_
      refine s_bipush hz dX8_sumHair_28 bp_m2 ?_
      refine s_icmp_ne 46 hz (hW 19 _ sx19 v1) rl_m2 dX8_sumHair_30 rfl (fun c5 => ?_) (fun c5 => ?_)
      · have h := zif_f c5 h
        refine s_aload_n 0 hz dX8_sumHair_46 rfl ?_
        refine s_getR 4 hz fl_X8_15 sx17 rfl (by decide) dX8_sumHair_47 ?_
        refine s_iload_n 1 hz dX8_sumHair_50 rfl ?_
        obtain ⟨g6, h⟩ := zg_of h
        refine s_iald hz sx19 rfl (by decide) g6 dX8_sumHair_51 ?_
        refine s_iconst hz dX8_sumHair_52 ?_
        refine s_icmp_eq 74 hz (hW 19 _ sx19 v1) rl_m1 dX8_sumHair_53 rfl (fun c7 => ?_) (fun c7 => ?_)
        · have h := zif_t c7 h
          exact TJ_X8_sumHair_74 hz hN hF (fun _ _ => ih) rv1 hW h
        · have h := zif_f c7 h
          refine s_aload_n 0 hz dX8_sumHair_56 rfl ?_
          refine s_aload_n 0 hz dX8_sumHair_57 rfl ?_
          refine s_getR 4 hz fl_X8_15 sx17 rfl (by decide) dX8_sumHair_58 ?_
          refine s_iload_n 1 hz dX8_sumHair_61 rfl ?_
          obtain ⟨g9, h⟩ := zg_of h
          refine s_iald hz sx19 rfl (by decide) g9 dX8_sumHair_62 ?_
          refine s_aload_n 0 hz dX8_sumHair_63 rfl ?_
          refine s_getR 0 hz fl_X8_27 sx17 rfl (by decide) dX8_sumHair_64 ?_
          refine s_iload_n 1 hz dX8_sumHair_67 rfl ?_
          obtain ⟨r10, S11, hc11, h⟩ := zb_of h
          refine s_callV [aI v1] [aI (S 19 v1), aR 17] hz ml_X8_97 sv_yX2_hairsAt (T_X2_hairsAt rv1 hW hc11) (by decide) rfl sx1 rfl rfl (Nat.le_of_ble_eq_true rfl) dX8_sumHair_68 (fun rr10 hW11 => ?_)
          obtain ⟨r12, S13, hc13, h⟩ := zb_of h
          refine s_callVv [aI (S 19 v1), aI r10] [] hz ml_X8_100 sv_yX8_addHair (T_X8_addHair (hW 19 _ sx19 v1) rr10 hW11 hc13) (by decide) rfl sx17 rfl rfl (Nat.le_of_ble_eq_true rfl) dX8_sumHair_71 (fun hW13 => ?_)
          exact TJ_X8_sumHair_74 hz hN hF (fun _ _ => ih) rv1 hW13 h
      · have h := zif_t c5 h
        refine s_aload_n 0 hz dX8_sumHair_33 rfl ?_
        refine s_dup hz rfl dX8_sumHair_34 ?_
        refine s_getI (kz := 10) 10 hz fl_X8_94 sx17 rfl rfl dX8_sumHair_35 ?_
        refine s_iconst hz dX8_sumHair_38 ?_
        refine s_iadd hz dX8_sumHair_39 ?_
        obtain ⟨x14, ex14, rx14, h⟩ := zl_ex h
        rw [← ex14]
        obtain ⟨S15, eS15, h⟩ := zs_ex h
        have hW15 : WR shX S15 := by rw [eS15]; exact hW.up (i := 10) sx17 (v := x14) rx14
        refine s_putI (kz := 10) 10 hz fp_X8_94 sx17 rfl rfl dX8_sumHair_40 ?_
        rw [← eS15]
        refine s_goto 74 hz dX8_sumHair_43 rfl ?_
        exact TJ_X8_sumHair_74 hz hN hF (fun _ _ => ih) rv1 hW15 h
def M_X8_sumHair (S : HS) : zO2 :=
  zs (zfill S 21 192 0) fun S1 =>
  zs (up S1 17 10 0) fun S2 =>
  L_X8_sumHair_15 zBig 0 S2
set_option maxHeartbeats 4000000 in
set_option maxRecDepth 20000 in
theorem T_X8_sumHair {S S' : HS} {r : Int} (hW : WR shX S) (h : M_X8_sumHair S = some (r, S')) : zV shX yX8_sumHair cX8_sumHair 2 4 [aR 17] S S' := by
  refine zV_of (by decide +kernel) (Nat.le_of_ble_eq_true rfl) (fun z hz hN hF => ?_)
  have hz : zO z cX8_sumHair RX8 4 shX := hz
  show zA z 0 [(0, aR 17)] [] S
  unfold M_X8_sumHair at h
  refine s_aload_n 0 hz dX8_sumHair_0 rfl ?_
  refine s_getR 6 hz fl_X8_21 sx17 rfl (by decide) dX8_sumHair_1 ?_
  refine s_iconst hz dX8_sumHair_4 ?_
  obtain ⟨S1, eS1, h⟩ := zs_ex h
  have hW1 : WR shX S1 := by rw [eS1]; exact zfill_W (n := 192) (v := 0) hW sx21 rl_0
  refine s_callSv [aR 21, aI 0] [] hz ml_X8_52 ss_yJ7_fill_53178 (T_fill (nz := 192) hW sx21 (by decide) rfl rl_0) (by decide) rfl rfl (Nat.le_of_ble_eq_true rfl) dX8_sumHair_5 (fun _ => ?_)
  rw [← eS1]
  refine s_aload_n 0 hz dX8_sumHair_8 rfl ?_
  refine s_iconst hz dX8_sumHair_9 ?_
  obtain ⟨S2, eS2, h⟩ := zs_ex h
  have hW2 : WR shX S2 := by rw [eS2]; exact hW1.up (i := 10) sx17 (v := 0) rl_0
  refine s_putI (kz := 10) 10 hz fp_X8_94 sx17 rfl rfl dX8_sumHair_10 ?_
  rw [← eS2]
  refine s_iconst hz dX8_sumHair_13 ?_
  refine s_istore_n (l' := [(1, aI 0), (0, aR 17)]) hz hN dX8_sumHair_14 (by decide) rfl ?_
  refine s_pick (l' := [(0, aR 17), (1, aI 0)]) [1, 0] rfl ?_
  exact TL_X8_sumHair_15 hz hN hF zBig rl_0 hW2 h
def M_X8_settle (S : HS) : zO2 :=
  zb (M_X8_nameRegions S) fun _ S2 =>
  zb (M_X8_takeHair S2) fun _ S4 =>
  zb (M_X8_sumHair S4) fun _ S6 =>
  some (0, S6)
set_option maxHeartbeats 4000000 in
set_option maxRecDepth 20000 in
theorem T_X8_settle {S S' : HS} {r : Int} (hW : WR shX S) (h : M_X8_settle S = some (r, S')) : zV shX yX8_settle cX8_settle 1 6 [aR 17] S S' := by
  refine zV_of (by decide +kernel) (Nat.le_of_ble_eq_true rfl) (fun z hz hN hF => ?_)
  have hz : zO z cX8_settle RX8 6 shX := hz
  show zA z 0 [(0, aR 17)] [] S
  unfold M_X8_settle at h
  refine s_aload_n 0 hz dX8_settle_0 rfl ?_
  obtain ⟨r1, S2, hc2, h⟩ := zb_of h
  refine s_callVv [] [] hz ml_X8_43 sv_yX8_nameRegions (T_X8_nameRegions hW hc2) (by decide) rfl sx17 rfl rfl (Nat.le_of_ble_eq_true rfl) dX8_settle_1 (fun hW2 => ?_)
  refine s_aload_n 0 hz dX8_settle_4 rfl ?_
  obtain ⟨r3, S4, hc4, h⟩ := zb_of h
  refine s_callVv [] [] hz ml_X8_46 sv_yX8_takeHair (T_X8_takeHair hW2 hc4) (by decide) rfl sx17 rfl rfl (Nat.le_of_ble_eq_true rfl) dX8_settle_5 (fun hW4 => ?_)
  refine s_aload_n 0 hz dX8_settle_8 rfl ?_
  obtain ⟨r5, S6, hc6, h⟩ := zb_of h
  refine s_callVv [] [] hz ml_X8_49 sv_yX8_sumHair (T_X8_sumHair hW4 hc6) (by decide) rfl sx17 rfl rfl (Nat.le_of_ble_eq_true rfl) dX8_settle_9 (fun hW6 => ?_)
  exact s_vret h hz hF hW6 dX8_settle_12
def M_X6_sizeIn (a1 : Int) (S : HS) : zO2 :=
  zb (M_X6_has a1 S) fun r1 S2 =>
  if r1 = 0 then (
    some (0, S2))
  else (
    zg ((0 : Int) ≤ a1 ∧ a1 < 24) <|
    some (S2 10 a1, S2))
set_option maxHeartbeats 4000000 in
set_option maxRecDepth 20000 in
theorem T_X6_sizeIn {a1 : Int} {S S' : HS} {r : Int} (ra1 : rng a1) (hW : WR shX S) (h : M_X6_sizeIn a1 S = some (r, S')) : zR shX yX6_sizeIn cX6_sizeIn 2  .int 2 [aR 7, aI a1] S r S' := by
  refine zR_of (by decide +kernel) (Nat.le_of_ble_eq_true rfl) (fun z hz hN hF => ?_)
  have hz : zO z cX6_sizeIn RX6 2 shX := hz
  show zA z 0 [(0, aR 7), (1, aI a1)] [] S
  unfold M_X6_sizeIn at h
  refine s_aload_n 0 hz dX6_sizeIn_0 rfl ?_
  refine s_iload_n 1 hz dX6_sizeIn_1 rfl ?_
  obtain ⟨r1, S2, hc2, h⟩ := zb_of h
  refine s_callV [aI a1] [] hz ml_X6_60 sv_yX6_has (T_X6_has ra1 hW hc2) (by decide) rfl sx7 rfl rfl (Nat.le_of_ble_eq_true rfl) dX6_sizeIn_2 (fun rr1 hW2 => ?_)
  refine s_if_eq 17 hz rr1 dX6_sizeIn_5 rfl (fun c3 => ?_) (fun c3 => ?_)
  · have h := zif_t c3 h
    refine s_iconst hz dX6_sizeIn_17 ?_
    exact s_iret h hz hF rl_0 hW2 dX6_sizeIn_18
  · have h := zif_f c3 h
    refine s_aload_n 0 hz dX6_sizeIn_8 rfl ?_
    refine s_getR 4 hz fl_X6_18 sx7 rfl (by decide) dX6_sizeIn_9 ?_
    refine s_iload_n 1 hz dX6_sizeIn_12 rfl ?_
    obtain ⟨g4, h⟩ := zg_of h
    refine s_iald hz sx10 rfl (by decide) g4 dX6_sizeIn_13 ?_
    refine s_goto 18 hz dX6_sizeIn_14 rfl ?_
    exact s_iret h hz hF (hW2 10 _ sx10 a1) hW2 dX6_sizeIn_18
def M_X8_hairsBy (a1 : Int) (S : HS) : zO2 :=
  zb (M_X11_isCell a1 S) fun r1 S2 =>
  if r1 = 0 then (
    some (0, S2))
  else (
    zg ((0 : Int) ≤ a1 ∧ a1 < 192) <|
    some (S2 21 a1, S2))
set_option maxHeartbeats 4000000 in
set_option maxRecDepth 20000 in
theorem T_X8_hairsBy {a1 : Int} {S S' : HS} {r : Int} (ra1 : rng a1) (hW : WR shX S) (h : M_X8_hairsBy a1 S = some (r, S')) : zR shX yX8_hairsBy cX8_hairsBy 2  .int 2 [aR 17, aI a1] S r S' := by
  refine zR_of (by decide +kernel) (Nat.le_of_ble_eq_true rfl) (fun z hz hN hF => ?_)
  have hz : zO z cX8_hairsBy RX8 2 shX := hz
  show zA z 0 [(0, aR 17), (1, aI a1)] [] S
  unfold M_X8_hairsBy at h
  refine s_iload_n 1 hz dX8_hairsBy_0 rfl ?_
  obtain ⟨r1, S2, hc2, h⟩ := zb_of h
  refine s_callS [aI a1] [] hz ml_X8_39 ss_yX11_isCell (T_X11_isCell ra1 hW hc2) (by decide) rfl rfl (Nat.le_of_ble_eq_true rfl) dX8_hairsBy_1 (fun rr1 hW2 => ?_)
  refine s_if_eq 16 hz rr1 dX8_hairsBy_4 rfl (fun c3 => ?_) (fun c3 => ?_)
  · have h := zif_t c3 h
    refine s_iconst hz dX8_hairsBy_16 ?_
    exact s_iret h hz hF rl_0 hW2 dX8_hairsBy_17
  · have h := zif_f c3 h
    refine s_aload_n 0 hz dX8_hairsBy_7 rfl ?_
    refine s_getR 6 hz fl_X8_21 sx17 rfl (by decide) dX8_hairsBy_8 ?_
    refine s_iload_n 1 hz dX8_hairsBy_11 rfl ?_
    obtain ⟨g4, h⟩ := zg_of h
    refine s_iald hz sx21 rfl (by decide) g4 dX8_hairsBy_12 ?_
    refine s_goto 17 hz dX8_hairsBy_13 rfl ?_
    exact s_iret h hz hF (hW2 21 _ sx21 a1) hW2 dX8_hairsBy_17
def M_X6_addedIn (a1 : Int) (S : HS) : zO2 :=
  zb (M_X11_isCell a1 S) fun r1 S2 =>
  if r1 = 0 then (
    some (0, S2))
  else (
    zg ((0 : Int) ≤ a1 ∧ a1 < 192) <|
    some (S2 12 a1, S2))
set_option maxHeartbeats 4000000 in
set_option maxRecDepth 20000 in
theorem T_X6_addedIn {a1 : Int} {S S' : HS} {r : Int} (ra1 : rng a1) (hW : WR shX S) (h : M_X6_addedIn a1 S = some (r, S')) : zR shX yX6_addedIn cX6_addedIn 2  .int 2 [aR 7, aI a1] S r S' := by
  refine zR_of (by decide +kernel) (Nat.le_of_ble_eq_true rfl) (fun z hz hN hF => ?_)
  have hz : zO z cX6_addedIn RX6 2 shX := hz
  show zA z 0 [(0, aR 7), (1, aI a1)] [] S
  unfold M_X6_addedIn at h
  refine s_iload_n 1 hz dX6_addedIn_0 rfl ?_
  obtain ⟨r1, S2, hc2, h⟩ := zb_of h
  refine s_callS [aI a1] [] hz ml_X6_72 ss_yX11_isCell (T_X11_isCell ra1 hW hc2) (by decide) rfl rfl (Nat.le_of_ble_eq_true rfl) dX6_addedIn_1 (fun rr1 hW2 => ?_)
  refine s_if_eq 16 hz rr1 dX6_addedIn_4 rfl (fun c3 => ?_) (fun c3 => ?_)
  · have h := zif_t c3 h
    refine s_iconst hz dX6_addedIn_16 ?_
    exact s_iret h hz hF rl_0 hW2 dX6_addedIn_17
  · have h := zif_f c3 h
    refine s_aload_n 0 hz dX6_addedIn_7 rfl ?_
    refine s_getR 6 hz fl_X6_24 sx7 rfl (by decide) dX6_addedIn_8 ?_
    refine s_iload_n 1 hz dX6_addedIn_11 rfl ?_
    obtain ⟨g4, h⟩ := zg_of h
    refine s_iald hz sx12 rfl (by decide) g4 dX6_addedIn_12 ?_
    refine s_goto 17 hz dX6_addedIn_13 rfl ?_
    exact s_iret h hz hF (hW2 12 _ sx12 a1) hW2 dX6_addedIn_17
def M_X0_keepWeights (a1 : Int) (a2 : Int) (a3 : Int) (a4 : Int) (S : HS) : zO2 :=
  zb (M_X11_isCell a1 S) fun r1 S2 =>
  if r1 = 0 then (
    some (0, S2))
  else (
    zg ((0 : Int) ≤ a1 ∧ a1 < 192) <|
    zs (up S2 29 a1 a2) fun S5 =>
    zg ((0 : Int) ≤ a1 ∧ a1 < 192) <|
    zs (up S5 30 a1 a3) fun S7 =>
    zg ((0 : Int) ≤ a1 ∧ a1 < 192) <|
    zs (up S7 31 a1 a4) fun S9 =>
    some (0, S9))
set_option maxHeartbeats 4000000 in
set_option maxRecDepth 20000 in
theorem T_X0_keepWeights {a1 : Int} {a2 : Int} {a3 : Int} {a4 : Int} {S S' : HS} {r : Int} (ra1 : rng a1) (ra2 : rng a2) (ra3 : rng a3) (ra4 : rng a4) (hW : WR shX S) (h : M_X0_keepWeights a1 a2 a3 a4 S = some (r, S')) : zV shX yX0_keepWeights cX0_keepWeights 5 2 [aR 28, aI a1, aI a2, aI a3, aI a4] S S' := by
  refine zV_of (by decide +kernel) (Nat.le_of_ble_eq_true rfl) (fun z hz hN hF => ?_)
  have hz : zO z cX0_keepWeights RX0 2 shX := hz
  show zA z 0 [(0, aR 28), (1, aI a1), (2, aI a2), (3, aI a3), (4, aI a4)] [] S
  unfold M_X0_keepWeights at h
  refine s_iload_n 1 hz dX0_keepWeights_0 rfl ?_
  obtain ⟨r1, S2, hc2, h⟩ := zb_of h
  refine s_callS [aI a1] [] hz ml_X0_73 ss_yX11_isCell (T_X11_isCell ra1 hW hc2) (by decide) rfl rfl (Nat.le_of_ble_eq_true rfl) dX0_keepWeights_1 (fun rr1 hW2 => ?_)
  refine s_if_eq 29 hz rr1 dX0_keepWeights_4 rfl (fun c3 => ?_) (fun c3 => ?_)
  · have h := zif_t c3 h
    exact s_vret h hz hF hW2 dX0_keepWeights_29
  · have h := zif_f c3 h
    refine s_aload_n 0 hz dX0_keepWeights_7 rfl ?_
    refine s_getR 4 hz fl_X0_9 sx28 rfl (by decide) dX0_keepWeights_8 ?_
    refine s_iload_n 1 hz dX0_keepWeights_11 rfl ?_
    refine s_iload_n 2 hz dX0_keepWeights_12 rfl ?_
    obtain ⟨g4, h⟩ := zg_of h
    obtain ⟨S5, eS5, h⟩ := zs_ex h
    have hW5 : WR shX S5 := by rw [eS5]; exact hW2.up (i := a1) sx29 (v := a2) ra2
    refine s_iast hz sx29 rfl (by decide) g4 dX0_keepWeights_13 ?_
    rw [← eS5]
    refine s_aload_n 0 hz dX0_keepWeights_14 rfl ?_
    refine s_getR 5 hz fl_X0_15 sx28 rfl (by decide) dX0_keepWeights_15 ?_
    refine s_iload_n 1 hz dX0_keepWeights_18 rfl ?_
    refine s_iload_n 3 hz dX0_keepWeights_19 rfl ?_
    obtain ⟨g6, h⟩ := zg_of h
    obtain ⟨S7, eS7, h⟩ := zs_ex h
    have hW7 : WR shX S7 := by rw [eS7]; exact hW5.up (i := a1) sx30 (v := a3) ra3
    refine s_iast hz sx30 rfl (by decide) g6 dX0_keepWeights_20 ?_
    rw [← eS7]
    refine s_aload_n 0 hz dX0_keepWeights_21 rfl ?_
    refine s_getR 6 hz fl_X0_18 sx28 rfl (by decide) dX0_keepWeights_22 ?_
    refine s_iload_n 1 hz dX0_keepWeights_25 rfl ?_
    refine s_iload 4 hz dX0_keepWeights_26 rfl ?_
    obtain ⟨g8, h⟩ := zg_of h
    obtain ⟨S9, eS9, h⟩ := zs_ex h
    have hW9 : WR shX S9 := by rw [eS9]; exact hW7.up (i := a1) sx31 (v := a4) ra4
    refine s_iast hz sx31 rfl (by decide) g8 dX0_keepWeights_28 ?_
    rw [← eS9]
    exact s_vret h hz hF hW9 dX0_keepWeights_29
def M_X0_thirdOf (a1 : Int) (a2 : Int) (S : HS) : zO2 :=
  zl ((a1 + 2) - a2) fun x1 =>
  zg ((0 : Int) ≤ x1 ∧ (0 : Int) < 3) <|
  zl (x1 / 3) fun x3 =>
  some (x3, S)
set_option maxHeartbeats 4000000 in
set_option maxRecDepth 20000 in
theorem T_X0_thirdOf {a1 : Int} {a2 : Int} {S S' : HS} {r : Int} (ra1 : rng a1) (ra2 : rng a2) (hW : WR shX S) (h : M_X0_thirdOf a1 a2 S = some (r, S')) : zR shX yX0_thirdOf cX0_thirdOf 2  .int 1 [aI a1, aI a2] S r S' := by
  refine zR_of (by decide +kernel) (Nat.le_of_ble_eq_true rfl) (fun z hz hN hF => ?_)
  have hz : zO z cX0_thirdOf RX0 1 shX := hz
  show zA z 0 [(0, aI a1), (1, aI a2)] [] S
  unfold M_X0_thirdOf at h
  refine s_iload_n 0 hz dX0_thirdOf_0 rfl ?_
  refine s_iconst hz dX0_thirdOf_1 ?_
  refine s_iadd hz dX0_thirdOf_2 ?_
  refine s_iload_n 1 hz dX0_thirdOf_3 rfl ?_
  refine s_isub hz dX0_thirdOf_4 ?_
  refine s_iconst hz dX0_thirdOf_5 ?_
  obtain ⟨x1, ex1, rx1, h⟩ := zl_ex h
  rw [← ex1]
  obtain ⟨g2, h⟩ := zg_of h
  refine s_idiv hz g2.1 g2.2 rx1 rl_3 dX0_thirdOf_6 ?_
  obtain ⟨x3, ex3, rx3, h⟩ := zl_ex h
  rw [← ex3]
  exact s_iret h hz hF rx3 hW dX0_thirdOf_7
def J_X0_weigh_131 (k10 : Int → Int → Int → Int → HS → zO2) (v1 : Int) (v2 : Int) (v3 : Int) (v4 : Int) (v5 : Int) (v6 : Int) (S : HS) : zO2 :=
  zb (M_X0_keepWeights v6 v2 v3 v4 S) fun _ S16 =>
  zl (v5 + 1) fun x17 =>
  k10 v2 v3 v4 x17 S16
set_option maxHeartbeats 4000000 in
set_option maxRecDepth 20000 in
theorem TJ_X0_weigh_131 {k10 : Int → Int → Int → Int → HS → zO2} {v1 : Int} {v2 : Int} {v3 : Int} {v4 : Int} {v5 : Int} {v6 : Int} {S : HS} {r : Int} {S' : HS} {z : Zt} (hz : zO z cX0_weigh RX0 3 shX) (hN : zN z 10) (hF : zFv z shX S') (hk10 : ∀ (w2 w3 w4 w5 : Int) (S : HS), rng w2 → rng w3 → rng w4 → rng w5 → WR shX S → k10 w2 w3 w4 w5 S = some (r, S') → zA z 10 [(0, aR 28), (1, aI v1), (2, aI w2), (3, aI w3), (4, aI w4), (5, aI w5)] [] S) (rv1 : rng v1) (rv2 : rng v2) (rv3 : rng v3) (rv4 : rng v4) (rv5 : rng v5) (rv6 : rng v6) (hW : WR shX S) (h : J_X0_weigh_131 k10 v1 v2 v3 v4 v5 v6 S = some (r, S')) : zA z 131 [(0, aR 28), (1, aI v1), (2, aI v2), (3, aI v3), (4, aI v4), (5, aI v5), (6, aI v6)] [] S := by
  unfold J_X0_weigh_131 at h
  refine s_aload_n 0 hz dX0_weigh_131 rfl ?_
  refine s_iload 6 hz dX0_weigh_132 rfl ?_
  refine s_iload_n 2 hz dX0_weigh_134 rfl ?_
  refine s_iload_n 3 hz dX0_weigh_135 rfl ?_
  refine s_iload 4 hz dX0_weigh_136 rfl ?_
  obtain ⟨r15, S16, hc16, h⟩ := zb_of h
  refine s_callVv [aI v6, aI v2, aI v3, aI v4] [] hz ml_X0_69 sv_yX0_keepWeights (T_X0_keepWeights rv6 rv2 rv3 rv4 hW hc16) (by decide) rfl sx28 rfl rfl (Nat.le_of_ble_eq_true rfl) dX0_weigh_138 (fun hW16 => ?_)
  obtain ⟨x17, ex17, rx17, h⟩ := zl_ex h
  refine s_iinc (k0 := 5) (y := x17) (l' := [(5, aI x17), (0, aR 28), (1, aI v1), (2, aI v2), (3, aI v3), (4, aI v4), (6, aI v6)]) hz hN dX0_weigh_141 rfl ex17.symm (by decide) rfl ?_
  refine s_goto 10 hz dX0_weigh_144 rfl ?_
  refine s_pick (l' := [(0, aR 28), (1, aI v1), (2, aI v2), (3, aI v3), (4, aI v4), (5, aI x17)]) [1, 2, 3, 4, 5, 0] rfl ?_
  exact hk10 _ _ _ _ _ rv2 rv3 rv4 rx17 hW16 h
def L_X0_weigh_10 (p1 : Int) : Nat → Int → Int → Int → Int → HS → zO2
  | 0, _, _, _, _, _ => none
  | n + 1, v2, v3, v4, v5, S => 
    zb (M_X6_sizeIn p1 S) fun r1 S2 =>
    if r1 ≤ v5 then (
      some (0, S2))
    else (
      zb (M_X6_cellIn p1 v5 S2) fun r4 S5 =>
      zb (M_X8_hairsBy r4 S5) fun r6 S7 =>
      zb (M_X6_addedIn r4 S7) fun r8 S9 =>
      if v5 = 0 then (
        zb (M_X0_thirdOf r6 0 S9) fun r19 S20 =>
        zl (r19 + r8) fun x21 =>
        zb (M_X0_thirdOf r6 1 S20) fun r22 S23 =>
        zb (M_X0_thirdOf r6 2 S23) fun r24 S25 =>
        J_X0_weigh_131 (L_X0_weigh_10 p1 n) p1 x21 r22 r24 v5 r4 S25)
      else (
        zg ((0 : Int) ≤ v5 ∧ (0 : Int) < 2) <|
        zl (v5 % 2) fun x12 =>
        if x12 = 1 then (
          zl ((v2 + r6) + r8) fun x18 =>
          J_X0_weigh_131 (L_X0_weigh_10 p1 n) p1 v3 x18 v4 v5 r4 S9)
        else (
          zl ((v4 + r6) + r8) fun x14 =>
          J_X0_weigh_131 (L_X0_weigh_10 p1 n) p1 v2 x14 v3 v5 r4 S9)))
set_option maxHeartbeats 4000000 in
set_option maxRecDepth 20000 in
theorem TL_X0_weigh_10 {p1 : Int} {r : Int} {S' : HS} {z : Zt} (hz : zO z cX0_weigh RX0 3 shX) (hN : zN z 10) (hF : zFv z shX S') (rp1 : rng p1) : ∀ (n : Nat) {v2 : Int} {v3 : Int} {v4 : Int} {v5 : Int} {S : HS}, rng v2 → rng v3 → rng v4 → rng v5 → WR shX S → L_X0_weigh_10 p1 n v2 v3 v4 v5 S = some (r, S') → zA z 10 [(0, aR 28), (1, aI p1), (2, aI v2), (3, aI v3), (4, aI v4), (5, aI v5)] [] S := by
  intro n
  induction n with
  | zero =>
    intro _ _ _ _ _ _ _ _ _ _ h
    cases h
  | succ n ih =>
    intro v2 v3 v4 v5 S rv2 rv3 rv4 rv5 hW h
    rw [L_X0_weigh_10.eq_2] at h
    refine s_iload 5 hz dX0_weigh_10 rfl ?_
    refine s_aload_n 0 hz dX0_weigh_12 rfl ?_
    refine s_getR 1 hz fl_X0_28 sx28 rfl (by decide) dX0_weigh_13 ?_
    refine s_iload_n 1 hz dX0_weigh_16 rfl ?_
    obtain ⟨r1, S2, hc2, h⟩ := zb_of h
    refine s_callV [aI p1] [aI v5] hz ml_X0_50 sv_yX6_sizeIn (T_X6_sizeIn rp1 hW hc2) (by decide) rfl sx7 rfl rfl (Nat.le_of_ble_eq_true rfl) dX0_weigh_17 (fun rr1 hW2 => ?_)
    refine s_icmp_ge 147 hz rv5 rr1 dX0_weigh_20 rfl (fun c3 => ?_) (fun c3 => ?_)
    · have h := zif_t c3 h
      exact s_vret h hz hF hW2 dX0_weigh_147
    · have h := zif_f c3 h
      refine s_aload_n 0 hz dX0_weigh_23 rfl ?_
      refine s_getR 1 hz fl_X0_28 sx28 rfl (by decide) dX0_weigh_24 ?_
      refine s_iload_n 1 hz dX0_weigh_27 rfl ?_
      refine s_iload 5 hz dX0_weigh_28 rfl ?_
      obtain ⟨r4, S5, hc5, h⟩ := zb_of h
      refine s_callV [aI p1, aI v5] [] hz ml_X0_54 sv_yX6_cellIn (T_X6_cellIn rp1 rv5 hW2 hc5) (by decide) rfl sx7 rfl rfl (Nat.le_of_ble_eq_true rfl) dX0_weigh_30 (fun rr4 hW5 => ?_)
      refine s_istore (l' := [(6, aI r4), (0, aR 28), (1, aI p1), (2, aI v2), (3, aI v3), (4, aI v4), (5, aI v5)]) hz hN dX0_weigh_33 (by decide) rfl ?_
      refine s_aload_n 1 hz dX0_weigh_35 rfl ?_
      refine s_getR 2 hz fl_X0_32 sx28 rfl (by decide) dX0_weigh_36 ?_
      refine s_iload 0 hz dX0_weigh_39 rfl ?_
      obtain ⟨r6, S7, hc7, h⟩ := zb_of h
      refine s_callV [aI r4] [] hz ml_X0_58 sv_yX8_hairsBy (T_X8_hairsBy rr4 hW5 hc7) (by decide) rfl sx17 rfl rfl (Nat.le_of_ble_eq_true rfl) dX0_weigh_41 (fun rr6 hW7 => ?_)
      refine s_istore (l' := [(7, aI r6), (6, aI r4), (0, aR 28), (1, aI p1), (2, aI v2), (3, aI v3), (4, aI v4), (5, aI v5)]) hz hN dX0_weigh_44 (by decide) rfl ?_
      refine s_aload_n 2 hz dX0_weigh_46 rfl ?_
      refine s_getR 1 hz fl_X0_28 sx28 rfl (by decide) dX0_weigh_47 ?_
      refine s_iload 1 hz dX0_weigh_50 rfl ?_
      obtain ⟨r8, S9, hc9, h⟩ := zb_of h
      refine s_callV [aI r4] [] hz ml_X0_63 sv_yX6_addedIn (T_X6_addedIn rr4 hW7 hc9) (by decide) rfl sx7 rfl rfl (Nat.le_of_ble_eq_true rfl) dX0_weigh_52 (fun rr8 hW9 => ?_)
      refine s_istore (l' := [(8, aI r8), (7, aI r6), (6, aI r4), (0, aR 28), (1, aI p1), (2, aI v2), (3, aI v3), (4, aI v4), (5, aI v5)]) hz hN dX0_weigh_55 (by decide) rfl ?_
      refine s_iload 8 hz dX0_weigh_57 rfl ?_
      refine s_if_ne 90 hz rv5 dX0_weigh_59 rfl (fun c10 => ?_) (fun c10 => ?_)
      · have h := zif_f c10 h
        refine s_iload 8 hz dX0_weigh_90 rfl ?_
        refine s_iconst hz dX0_weigh_92 ?_
        obtain ⟨g11, h⟩ := zg_of h
        refine s_irem hz g11.1 g11.2 rv5 rl_2 dX0_weigh_93 ?_
        refine s_iconst hz dX0_weigh_94 ?_
        obtain ⟨x12, ex12, rx12, h⟩ := zl_ex h
        rw [← ex12]
        refine s_icmp_ne 115 hz rx12 rl_1 dX0_weigh_95 rfl (fun c13 => ?_) (fun c13 => ?_)
        · have h := zif_f c13 h
          refine s_iload 7 hz dX0_weigh_115 rfl ?_
          refine s_iload 1 hz dX0_weigh_117 rfl ?_
          refine s_iadd hz dX0_weigh_119 ?_
          refine s_iload 0 hz dX0_weigh_120 rfl ?_
          refine s_iadd hz dX0_weigh_122 ?_
          obtain ⟨x14, ex14, rx14, h⟩ := zl_ex h
          rw [← ex14]
          refine s_istore (l' := [(9, aI x14), (8, aI r8), (7, aI r6), (6, aI r4), (0, aR 28), (1, aI p1), (2, aI v2), (3, aI v3), (4, aI v4), (5, aI v5)]) hz hN dX0_weigh_123 (by decide) rfl ?_
          refine s_iload_n 7 hz dX0_weigh_125 rfl ?_
          refine s_istore (l' := [(4, aI v3), (9, aI x14), (8, aI r8), (7, aI r6), (6, aI r4), (0, aR 28), (1, aI p1), (2, aI v2), (3, aI v3), (5, aI v5)]) hz hN dX0_weigh_126 (by decide) rfl ?_
          refine s_iload 1 hz dX0_weigh_128 rfl ?_
          refine s_istore_n (l' := [(3, aI x14), (4, aI v3), (9, aI x14), (8, aI r8), (7, aI r6), (6, aI r4), (0, aR 28), (1, aI p1), (2, aI v2), (5, aI v5)]) hz hN dX0_weigh_130 (by decide) rfl ?_
          refine s_pick (l' := [(0, aR 28), (1, aI p1), (2, aI v2), (3, aI x14), (4, aI v3), (5, aI v5), (6, aI r4)]) [6, 7, 8, 0, 1, 9, 5] rfl ?_
          exact TJ_X0_weigh_131 hz hN hF (fun _ _ _ _ _ => ih) rp1 rv2 rx14 rv3 rv5 rr4 hW9 h
        · have h := zif_t c13 h
          refine s_iload_n 5 hz dX0_weigh_98 rfl ?_
          refine s_iload 1 hz dX0_weigh_99 rfl ?_
          refine s_iadd hz dX0_weigh_101 ?_
          refine s_iload 0 hz dX0_weigh_102 rfl ?_
          refine s_iadd hz dX0_weigh_104 ?_
          obtain ⟨x18, ex18, rx18, h⟩ := zl_ex h
          rw [← ex18]
          refine s_istore (l' := [(9, aI x18), (8, aI r8), (7, aI r6), (6, aI r4), (0, aR 28), (1, aI p1), (2, aI v2), (3, aI v3), (4, aI v4), (5, aI v5)]) hz hN dX0_weigh_105 (by decide) rfl ?_
          refine s_iload_n 7 hz dX0_weigh_107 rfl ?_
          refine s_istore_n (l' := [(2, aI v3), (9, aI x18), (8, aI r8), (7, aI r6), (6, aI r4), (0, aR 28), (1, aI p1), (3, aI v3), (4, aI v4), (5, aI v5)]) hz hN dX0_weigh_108 (by decide) rfl ?_
          refine s_iload 1 hz dX0_weigh_109 rfl ?_
          refine s_istore_n (l' := [(3, aI x18), (2, aI v3), (9, aI x18), (8, aI r8), (7, aI r6), (6, aI r4), (0, aR 28), (1, aI p1), (4, aI v4), (5, aI v5)]) hz hN dX0_weigh_111 (by decide) rfl ?_
          refine s_goto 131 hz dX0_weigh_112 rfl ?_
          refine s_pick (l' := [(0, aR 28), (1, aI p1), (2, aI v3), (3, aI x18), (4, aI v4), (5, aI v5), (6, aI r4)]) [6, 7, 1, 0, 8, 9, 5] rfl ?_
          exact TJ_X0_weigh_131 hz hN hF (fun _ _ _ _ _ => ih) rp1 rv3 rx18 rv4 rv5 rr4 hW9 h
      · have h := zif_t c10 h
        refine s_iload 1 hz dX0_weigh_62 rfl ?_
        refine s_iconst hz dX0_weigh_64 ?_
        obtain ⟨r19, S20, hc20, h⟩ := zb_of h
        refine s_callS [aI r6, aI 0] [] hz ml_X0_66 ss_yX0_thirdOf (T_X0_thirdOf rr6 rl_0 hW9 hc20) (by decide) rfl rfl (Nat.le_of_ble_eq_true rfl) dX0_weigh_65 (fun rr19 hW20 => ?_)
        refine s_iload 0 hz dX0_weigh_68 rfl ?_
        refine s_iadd hz dX0_weigh_70 ?_
        obtain ⟨x21, ex21, rx21, h⟩ := zl_ex h
        rw [← ex21]
        refine s_istore_n (l' := [(2, aI x21), (8, aI r8), (7, aI r6), (6, aI r4), (0, aR 28), (1, aI p1), (3, aI v3), (4, aI v4), (5, aI v5)]) hz hN dX0_weigh_71 (by decide) rfl ?_
        refine s_iload 2 hz dX0_weigh_72 rfl ?_
        refine s_iconst hz dX0_weigh_74 ?_
        obtain ⟨r22, S23, hc23, h⟩ := zb_of h
        refine s_callS [aI r6, aI 1] [] hz ml_X0_66 ss_yX0_thirdOf (T_X0_thirdOf rr6 rl_1 hW20 hc23) (by decide) rfl rfl (Nat.le_of_ble_eq_true rfl) dX0_weigh_75 (fun rr22 hW23 => ?_)
        refine s_istore_n (l' := [(3, aI r22), (2, aI x21), (8, aI r8), (7, aI r6), (6, aI r4), (0, aR 28), (1, aI p1), (4, aI v4), (5, aI v5)]) hz hN dX0_weigh_78 (by decide) rfl ?_
        refine s_iload 3 hz dX0_weigh_79 rfl ?_
        refine s_iconst hz dX0_weigh_81 ?_
        obtain ⟨r24, S25, hc25, h⟩ := zb_of h
        refine s_callS [aI r6, aI 2] [] hz ml_X0_66 ss_yX0_thirdOf (T_X0_thirdOf rr6 rl_2 hW23 hc25) (by decide) rfl rfl (Nat.le_of_ble_eq_true rfl) dX0_weigh_82 (fun rr24 hW25 => ?_)
        refine s_istore (l' := [(4, aI r24), (3, aI r22), (2, aI x21), (8, aI r8), (7, aI r6), (6, aI r4), (0, aR 28), (1, aI p1), (5, aI v5)]) hz hN dX0_weigh_85 (by decide) rfl ?_
        refine s_goto 131 hz dX0_weigh_87 rfl ?_
        refine s_pick (l' := [(0, aR 28), (1, aI p1), (2, aI x21), (3, aI r22), (4, aI r24), (5, aI v5), (6, aI r4)]) [6, 7, 2, 1, 0, 8, 5] rfl ?_
        exact TJ_X0_weigh_131 hz hN hF (fun _ _ _ _ _ => ih) rp1 rx21 rr22 rr24 rv5 rr4 hW25 h
def M_X0_weigh (a1 : Int) (S : HS) : zO2 :=
  L_X0_weigh_10 a1 zBig 0 0 0 0 S
set_option maxHeartbeats 4000000 in
set_option maxRecDepth 20000 in
theorem T_X0_weigh {a1 : Int} {S S' : HS} {r : Int} (ra1 : rng a1) (hW : WR shX S) (h : M_X0_weigh a1 S = some (r, S')) : zV shX yX0_weigh cX0_weigh 10 3 [aR 28, aI a1] S S' := by
  refine zV_of (by decide +kernel) (Nat.le_of_ble_eq_true rfl) (fun z hz hN hF => ?_)
  have hz : zO z cX0_weigh RX0 3 shX := hz
  show zA z 0 [(0, aR 28), (1, aI a1)] [] S
  unfold M_X0_weigh at h
  refine s_iconst hz dX0_weigh_0 ?_
  refine s_istore_n (l' := [(2, aI 0), (0, aR 28), (1, aI a1)]) hz hN dX0_weigh_1 (by decide) rfl ?_
  refine s_iconst hz dX0_weigh_2 ?_
  refine s_istore_n (l' := [(3, aI 0), (2, aI 0), (0, aR 28), (1, aI a1)]) hz hN dX0_weigh_3 (by decide) rfl ?_
  refine s_iconst hz dX0_weigh_4 ?_
  refine s_istore (l' := [(4, aI 0), (3, aI 0), (2, aI 0), (0, aR 28), (1, aI a1)]) hz hN dX0_weigh_5 (by decide) rfl ?_
  refine s_iconst hz dX0_weigh_7 ?_
  refine s_istore (l' := [(5, aI 0), (4, aI 0), (3, aI 0), (2, aI 0), (0, aR 28), (1, aI a1)]) hz hN dX0_weigh_8 (by decide) rfl ?_
  refine s_pick (l' := [(0, aR 28), (1, aI a1), (2, aI 0), (3, aI 0), (4, aI 0), (5, aI 0)]) [4, 5, 3, 2, 1, 0] rfl ?_
  exact TL_X0_weigh_10 hz hN hF ra1 zBig rl_0 rl_0 rl_0 rl_0 hW h
def L_X0_settle_2 : Nat → Int → HS → zO2
  | 0, _, _ => none
  | n + 1, v1, S => 
    if S 7 11 ≤ v1 then (
      some (0, S))
    else (
      zb (M_X0_weigh v1 S) fun _ S3 =>
      zl (v1 + 1) fun x4 =>
      L_X0_settle_2 n x4 S3)
set_option maxHeartbeats 4000000 in
set_option maxRecDepth 20000 in
theorem TL_X0_settle_2 {r : Int} {S' : HS} {z : Zt} (hz : zO z cX0_settle RX0 4 shX) (hN : zN z 2) (hF : zFv z shX S') : ∀ (n : Nat) {v1 : Int} {S : HS}, rng v1 → WR shX S → L_X0_settle_2 n v1 S = some (r, S') → zA z 2 [(0, aR 28), (1, aI v1)] [] S := by
  intro n
  induction n with
  | zero =>
    intro _ _ _ _ h
    cases h
  | succ n ih =>
    intro v1 S rv1 hW h
    rw [L_X0_settle_2.eq_2] at h
    refine s_iload_n 1 hz dX0_settle_2 rfl ?_
    refine s_aload_n 0 hz dX0_settle_3 rfl ?_
    refine s_getR 1 hz fl_X0_28 sx28 rfl (by decide) dX0_settle_4 ?_
    refine s_getI (kz := 11) 11 hz fl_X0_40 sx7 rfl rfl dX0_settle_7 ?_
    refine s_icmp_ge 24 hz rv1 (hW 7 _ sx7 11) dX0_settle_10 rfl (fun c1 => ?_) (fun c1 => ?_)
    · have h := zif_t c1 h
      exact s_vret h hz hF hW dX0_settle_24
    · have h := zif_f c1 h
      refine s_aload_n 0 hz dX0_settle_13 rfl ?_
      refine s_iload_n 1 hz dX0_settle_14 rfl ?_
      obtain ⟨r2, S3, hc3, h⟩ := zb_of h
      refine s_callVv [aI v1] [] hz ml_X0_46 sv_yX0_weigh (T_X0_weigh rv1 hW hc3) (by decide) rfl sx28 rfl rfl (Nat.le_of_ble_eq_true rfl) dX0_settle_15 (fun hW3 => ?_)
      obtain ⟨x4, ex4, rx4, h⟩ := zl_ex h
      refine s_iinc (k0 := 1) (y := x4) (l' := [(1, aI x4), (0, aR 28)]) hz hN dX0_settle_18 rfl ex4.symm (by decide) rfl ?_
      refine s_goto 2 hz dX0_settle_21 rfl ?_
      refine s_pick (l' := [(0, aR 28), (1, aI x4)]) [1, 0] rfl ?_
      exact ih rx4 hW3 h
def M_X0_settle (S : HS) : zO2 :=
  L_X0_settle_2 zBig 0 S
set_option maxHeartbeats 4000000 in
set_option maxRecDepth 20000 in
theorem T_X0_settle {S S' : HS} {r : Int} (hW : WR shX S) (h : M_X0_settle S = some (r, S')) : zV shX yX0_settle cX0_settle 2 4 [aR 28] S S' := by
  refine zV_of (by decide +kernel) (Nat.le_of_ble_eq_true rfl) (fun z hz hN hF => ?_)
  have hz : zO z cX0_settle RX0 4 shX := hz
  show zA z 0 [(0, aR 28)] [] S
  unfold M_X0_settle at h
  refine s_iconst hz dX0_settle_0 ?_
  refine s_istore_n (l' := [(1, aI 0), (0, aR 28)]) hz hN dX0_settle_1 (by decide) rfl ?_
  refine s_pick (l' := [(0, aR 28), (1, aI 0)]) [1, 0] rfl ?_
  exact TL_X0_settle_2 hz hN hF zBig rl_0 hW h
def M_X11_settle (S : HS) : zO2 :=
  zb (M_X8_settle S) fun _ S2 =>
  zb (M_X0_settle S2) fun _ S4 =>
  some (0, S4)
set_option maxHeartbeats 4000000 in
set_option maxRecDepth 20000 in
theorem T_X11_settle {S S' : HS} {r : Int} (hW : WR shX S) (h : M_X11_settle S = some (r, S')) : zV shX yX11_settle cX11_settle 1 7 [aR 0] S S' := by
  refine zV_of (by decide +kernel) (Nat.le_of_ble_eq_true rfl) (fun z hz hN hF => ?_)
  have hz : zO z cX11_settle RX11 7 shX := hz
  show zA z 0 [(0, aR 0)] [] S
  unfold M_X11_settle at h
  refine s_aload_n 0 hz dX11_settle_0 rfl ?_
  refine s_getR 3 hz fl_X11_37 sx0 rfl (by decide) dX11_settle_1 ?_
  obtain ⟨r1, S2, hc2, h⟩ := zb_of h
  refine s_callVv [] [] hz ml_X11_89 sv_yX8_settle (T_X8_settle hW hc2) (by decide) rfl sx17 rfl rfl (Nat.le_of_ble_eq_true rfl) dX11_settle_4 (fun hW2 => ?_)
  refine s_aload_n 0 hz dX11_settle_7 rfl ?_
  refine s_getR 5 hz fl_X11_53 sx0 rfl (by decide) dX11_settle_8 ?_
  obtain ⟨r3, S4, hc4, h⟩ := zb_of h
  refine s_callVv [] [] hz ml_X11_171 sv_yX0_settle (T_X0_settle hW2 hc4) (by decide) rfl sx28 rfl rfl (Nat.le_of_ble_eq_true rfl) dX11_settle_11 (fun hW4 => ?_)
  exact s_vret h hz hF hW4 dX11_settle_14
def M_X11_cell (a1 : Int) (a2 : Int) (a3 : Int) (S : HS) : zO2 :=
  zb (M_X11_cellAt a1 a2 S) fun r1 S2 =>
  if r1 = (-1) then (
    some (0, S2))
  else (
    if a3 < (-1) then (
      some (0, S2))
    else (
      if 99 < a3 then (
        some (0, S2))
      else (
        zb (M_X11_isUntouched S2) fun r6 S7 =>
        if r6 = 0 then (
          some (0, S7))
        else (
          zb (M_X2_putHairs r1 a3 S7) fun _ S10 =>
          zb (M_X11_settle S10) fun _ S12 =>
          some (1, S12)))))
set_option maxHeartbeats 4000000 in
set_option maxRecDepth 20000 in
theorem T_X11_cell {a1 : Int} {a2 : Int} {a3 : Int} {S S' : HS} {r : Int} (ra1 : rng a1) (ra2 : rng a2) (ra3 : rng a3) (hW : WR shX S) (h : M_X11_cell a1 a2 a3 S = some (r, S')) : zR shX yX11_cell cX11_cell 5  .boolean 8 [aR 0, aI a1, aI a2, aI a3] S r S' := by
  refine zR_of (by decide +kernel) (Nat.le_of_ble_eq_true rfl) (fun z hz hN hF => ?_)
  have hz : zO z cX11_cell RX11 8 shX := hz
  show zA z 0 [(0, aR 0), (1, aI a1), (2, aI a2), (3, aI a3)] [] S
  unfold M_X11_cell at h
  refine s_iload_n 1 hz dX11_cell_0 rfl ?_
  refine s_iload_n 2 hz dX11_cell_1 rfl ?_
  obtain ⟨r1, S2, hc2, h⟩ := zb_of h
  refine s_callS [aI a1, aI a2] [] hz ml_X11_92 ss_yX11_cellAt (T_X11_cellAt ra1 ra2 hW hc2) (by decide) rfl rfl (Nat.le_of_ble_eq_true rfl) dX11_cell_2 (fun rr1 hW2 => ?_)
  refine s_istore (l' := [(4, aI r1), (0, aR 0), (1, aI a1), (2, aI a2), (3, aI a3)]) hz hN dX11_cell_5 (by decide) rfl ?_
  refine s_iload 0 hz dX11_cell_7 rfl ?_
  refine s_iconst hz dX11_cell_9 ?_
  refine s_icmp_eq 31 hz rr1 rl_m1 dX11_cell_10 rfl (fun c3 => ?_) (fun c3 => ?_)
  · have h := zif_t c3 h
    refine s_iconst hz dX11_cell_31 ?_
    exact s_zret h hz hF (by decide) hW2 dX11_cell_32
  · have h := zif_f c3 h
    refine s_iload_n 4 hz dX11_cell_13 rfl ?_
    refine s_iconst hz dX11_cell_14 ?_
    refine s_icmp_lt 31 hz ra3 rl_m1 dX11_cell_15 rfl (fun c4 => ?_) (fun c4 => ?_)
    · have h := zif_t c4 h
      refine s_iconst hz dX11_cell_31 ?_
      exact s_zret h hz hF (by decide) hW2 dX11_cell_32
    · have h := zif_f c4 h
      refine s_iload_n 4 hz dX11_cell_18 rfl ?_
      refine s_bipush hz dX11_cell_19 bp_99 ?_
      refine s_icmp_gt 31 hz ra3 rl_99 dX11_cell_21 rfl (fun c5 => ?_) (fun c5 => ?_)
      · have h := zif_t c5 h
        refine s_iconst hz dX11_cell_31 ?_
        exact s_zret h hz hF (by decide) hW2 dX11_cell_32
      · have h := zif_f c5 h
        refine s_aload_n 1 hz dX11_cell_24 rfl ?_
        obtain ⟨r6, S7, hc7, h⟩ := zb_of h
        refine s_callV [] [] hz ml_X11_96 sv_yX11_isUntouched (T_X11_isUntouched hW2 hc7) (by decide) rfl sx0 rfl rfl (Nat.le_of_ble_eq_true rfl) dX11_cell_25 (fun rr6 hW7 => ?_)
        refine s_if_ne 33 hz rr6 dX11_cell_28 rfl (fun c8 => ?_) (fun c8 => ?_)
        · have h := zif_f c8 h
          refine s_aload_n 1 hz dX11_cell_33 rfl ?_
          refine s_getR 0 hz fl_X11_12 sx0 rfl (by decide) dX11_cell_34 ?_
          refine s_iload 0 hz dX11_cell_37 rfl ?_
          refine s_iload_n 4 hz dX11_cell_39 rfl ?_
          obtain ⟨r9, S10, hc10, h⟩ := zb_of h
          refine s_callVv [aI r1, aI a3] [] hz ml_X11_100 sv_yX2_putHairs (T_X2_putHairs rr1 ra3 hW7 hc10) (by decide) rfl sx1 rfl rfl (Nat.le_of_ble_eq_true rfl) dX11_cell_40 (fun hW10 => ?_)
          refine s_aload_n 1 hz dX11_cell_43 rfl ?_
          obtain ⟨r11, S12, hc12, h⟩ := zb_of h
          refine s_callVv [] [] hz ml_X11_104 sv_yX11_settle (T_X11_settle hW10 hc12) (by decide) rfl sx0 rfl rfl (Nat.le_of_ble_eq_true rfl) dX11_cell_44 (fun hW12 => ?_)
          refine s_iconst hz dX11_cell_47 ?_
          exact s_zret h hz hF (by decide) hW12 dX11_cell_48
        · have h := zif_t c8 h
          refine s_iconst hz dX11_cell_31 ?_
          exact s_zret h hz hF (by decide) hW7 dX11_cell_32
def M_X11_isLength (a1 : Int) (S : HS) : zO2 :=
  if a1 < 20 then (
    some (0, S))
  else (
    if 2000 < a1 then (
      some (0, S))
    else (
      some (1, S)))
set_option maxHeartbeats 4000000 in
set_option maxRecDepth 20000 in
theorem T_X11_isLength {a1 : Int} {S S' : HS} {r : Int} (ra1 : rng a1) (hW : WR shX S) (h : M_X11_isLength a1 S = some (r, S')) : zR shX yX11_isLength cX11_isLength 1  .boolean 1 [aI a1] S r S' := by
  refine zR_of (by decide +kernel) (Nat.le_of_ble_eq_true rfl) (fun z hz hN hF => ?_)
  have hz : zO z cX11_isLength RX11 1 shX := hz
  show zA z 0 [(0, aI a1)] [] S
  unfold M_X11_isLength at h
  refine s_iload_n 0 hz dX11_isLength_0 rfl ?_
  refine s_bipush hz dX11_isLength_1 bp_20 ?_
  refine s_icmp_lt 17 hz ra1 rl_20 dX11_isLength_3 rfl (fun c1 => ?_) (fun c1 => ?_)
  · have h := zif_t c1 h
    refine s_iconst hz dX11_isLength_17 ?_
    exact s_zret h hz hF (by decide) hW dX11_isLength_18
  · have h := zif_f c1 h
    refine s_iload_n 0 hz dX11_isLength_6 rfl ?_
    refine s_sipush hz dX11_isLength_7 sp_2000 ?_
    refine s_icmp_gt 17 hz ra1 rl_2000 dX11_isLength_10 rfl (fun c2 => ?_) (fun c2 => ?_)
    · have h := zif_t c2 h
      refine s_iconst hz dX11_isLength_17 ?_
      exact s_zret h hz hF (by decide) hW dX11_isLength_18
    · have h := zif_f c2 h
      refine s_iconst hz dX11_isLength_13 ?_
      refine s_goto 18 hz dX11_isLength_14 rfl ?_
      exact s_zret h hz hF (by decide) hW dX11_isLength_18
def M_X11_length (a1 : Int) (S : HS) : zO2 :=
  zb (M_X11_isLength a1 S) fun r1 S2 =>
  if r1 = 0 then (
    some (0, S2))
  else (
    zb (M_X11_isUntouched S2) fun r4 S5 =>
    if r4 = 0 then (
      some (0, S5))
    else (
      zs (up S5 1 1 a1) fun S7 =>
      some (1, S7)))
set_option maxHeartbeats 4000000 in
set_option maxRecDepth 20000 in
theorem T_X11_length {a1 : Int} {S S' : HS} {r : Int} (ra1 : rng a1) (hW : WR shX S) (h : M_X11_length a1 S = some (r, S')) : zR shX yX11_length cX11_length 2  .boolean 2 [aR 0, aI a1] S r S' := by
  refine zR_of (by decide +kernel) (Nat.le_of_ble_eq_true rfl) (fun z hz hN hF => ?_)
  have hz : zO z cX11_length RX11 2 shX := hz
  show zA z 0 [(0, aR 0), (1, aI a1)] [] S
  unfold M_X11_length at h
  refine s_iload_n 1 hz dX11_length_0 rfl ?_
  obtain ⟨r1, S2, hc2, h⟩ := zb_of h
  refine s_callS [aI a1] [] hz ml_X11_105 ss_yX11_isLength (T_X11_isLength ra1 hW hc2) (by decide) rfl rfl (Nat.le_of_ble_eq_true rfl) dX11_length_1 (fun rr1 hW2 => ?_)
  refine s_if_eq 14 hz rr1 dX11_length_4 rfl (fun c3 => ?_) (fun c3 => ?_)
  · have h := zif_t c3 h
    refine s_iconst hz dX11_length_14 ?_
    exact s_zret h hz hF (by decide) hW2 dX11_length_15
  · have h := zif_f c3 h
    refine s_aload_n 0 hz dX11_length_7 rfl ?_
    obtain ⟨r4, S5, hc5, h⟩ := zb_of h
    refine s_callV [] [] hz ml_X11_96 sv_yX11_isUntouched (T_X11_isUntouched hW2 hc5) (by decide) rfl sx0 rfl rfl (Nat.le_of_ble_eq_true rfl) dX11_length_8 (fun rr4 hW5 => ?_)
    refine s_if_ne 16 hz rr4 dX11_length_11 rfl (fun c6 => ?_) (fun c6 => ?_)
    · have h := zif_f c6 h
      refine s_aload_n 0 hz dX11_length_16 rfl ?_
      refine s_getR 0 hz fl_X11_12 sx0 rfl (by decide) dX11_length_17 ?_
      refine s_iload_n 1 hz dX11_length_20 rfl ?_
      obtain ⟨S7, eS7, h⟩ := zs_ex h
      have hW7 : WR shX S7 := by rw [eS7]; exact hW5.up (i := 1) sx1 (v := a1) ra1
      refine s_putI (kz := 1) 1 hz fp_X11_109 sx1 rfl rfl dX11_length_21 ?_
      rw [← eS7]
      refine s_iconst hz dX11_length_24 ?_
      exact s_zret h hz hF (by decide) hW7 dX11_length_25
    · have h := zif_t c6 h
      refine s_iconst hz dX11_length_14 ?_
      exact s_zret h hz hF (by decide) hW5 dX11_length_15
def J_X9_putSigns_82 (k3 : Int → HS → zO2) (v1 : Int) (v3 : Int) (S : HS) : zO2 :=
  zl (v3 + (-8)) fun x4 =>
  k3 x4 S
set_option maxHeartbeats 4000000 in
set_option maxRecDepth 20000 in
theorem TJ_X9_putSigns_82 {k3 : Int → HS → zO2} {v1 : Int} {v3 : Int} {S : HS} {r : Int} {S' : HS} {z : Zt} (hz : zO z cX9_putSigns RX9 1 shX) (hN : zN z 6) (hF : zFv z shX S') (hk3 : ∀ (w3 : Int) (S : HS), rng w3 → WR shX S → k3 w3 S = some (r, S') → zA z 3 [(0, aR 40), (1, aL v1), (3, aI w3)] [] S) (rv1 : rng6 v1) (rv3 : rng v3) (hW : WR shX S) (h : J_X9_putSigns_82 k3 v1 v3 S = some (r, S')) : zA z 82 [(0, aR 40), (1, aL v1), (3, aI v3)] [] S := by
  unfold J_X9_putSigns_82 at h
  obtain ⟨x4, ex4, rx4, h⟩ := zl_ex h
  refine s_iinc (k0 := 2) (y := x4) (l' := [(3, aI x4), (0, aR 40), (1, aL v1)]) hz hN dX9_putSigns_82 rfl ex4.symm (by decide) rfl ?_
  refine s_goto 3 hz dX9_putSigns_85 rfl ?_
  refine s_pick (l' := [(0, aR 40), (1, aL v1), (3, aI x4)]) [1, 2, 0] rfl ?_
  exact hk3 _ _ rx4 hW h
def J_X9_putSigns_43 (k3 : Int → HS → zO2) (v1 : Int) (v3 : Int) (v4 : Int) (t0 : Int) (S : HS) : zO2 :=
  if t0 = 0 then (
    J_X9_putSigns_82 k3 v1 v3 S)
  else (
    if 1000 ≤ S 40 1 then (
      J_X9_putSigns_82 k3 v1 v3 S)
    else (
      zg ((0 : Int) ≤ S 40 1 ∧ S 40 1 < 1000) <|
      zg (0 ≤ zi2c v4 ∧ zi2c v4 < 65536) <|
      zs (up S 41 (S 40 1) (zi2c v4)) fun S8 =>
      zl ((S8 40 1) + 1) fun x9 =>
      zs (up S8 40 1 x9) fun S10 =>
      J_X9_putSigns_82 k3 v1 v3 S10))
set_option maxHeartbeats 4000000 in
set_option maxRecDepth 20000 in
theorem TJ_X9_putSigns_43 {k3 : Int → HS → zO2} {v1 : Int} {v3 : Int} {v4 : Int} {t0 : Int} {S : HS} {r : Int} {S' : HS} {z : Zt} (hz : zO z cX9_putSigns RX9 1 shX) (hN : zN z 6) (hF : zFv z shX S') (hk3 : ∀ (w3 : Int) (S : HS), rng w3 → WR shX S → k3 w3 S = some (r, S') → zA z 3 [(0, aR 40), (1, aL v1), (3, aI w3)] [] S) (rv1 : rng6 v1) (rv3 : rng v3) (rv4 : rng v4) (rt0 : rng t0) (hW : WR shX S) (h : J_X9_putSigns_43 k3 v1 v3 v4 t0 S = some (r, S')) : zA z 43 [(0, aR 40), (1, aL v1), (3, aI v3), (4, aI v4)] [aI t0] S := by
  unfold J_X9_putSigns_43 at h
  refine s_istore (l' := [(5, aI t0), (0, aR 40), (1, aL v1), (3, aI v3), (4, aI v4)]) hz hN dX9_putSigns_43 (by decide) rfl ?_
  refine s_iload 0 hz dX9_putSigns_45 rfl ?_
  refine s_if_eq 82 hz rt0 dX9_putSigns_47 rfl (fun c3 => ?_) (fun c3 => ?_)
  · have h := zif_t c3 h
    refine s_pick (l' := [(0, aR 40), (1, aL v1), (3, aI v3)]) [1, 2, 3] rfl ?_
    exact TJ_X9_putSigns_82 hz hN hF hk3 rv1 rv3 hW h
  · have h := zif_f c3 h
    refine s_aload_n 1 hz dX9_putSigns_50 rfl ?_
    refine s_getI (kz := 1) 1 hz fl_X9_15 sx40 rfl rfl dX9_putSigns_51 ?_
    refine s_sipush hz dX9_putSigns_54 sp_1000 ?_
    refine s_icmp_ge 82 hz (hW 40 _ sx40 1) rl_1000 dX9_putSigns_57 rfl (fun c5 => ?_) (fun c5 => ?_)
    · have h := zif_t c5 h
      refine s_pick (l' := [(0, aR 40), (1, aL v1), (3, aI v3)]) [1, 2, 3] rfl ?_
      exact TJ_X9_putSigns_82 hz hN hF hk3 rv1 rv3 hW h
    · have h := zif_f c5 h
      refine s_aload_n 1 hz dX9_putSigns_60 rfl ?_
      refine s_getR 0 hz fl_X9_9 sx40 rfl (by decide) dX9_putSigns_61 ?_
      refine s_aload_n 1 hz dX9_putSigns_64 rfl ?_
      refine s_getI (kz := 1) 1 hz fl_X9_15 sx40 rfl rfl dX9_putSigns_65 ?_
      refine s_iload 4 hz dX9_putSigns_68 rfl ?_
      refine s_i2c hz dX9_putSigns_70 ?_
      obtain ⟨g6, h⟩ := zg_of h
      obtain ⟨g7, h⟩ := zg_of h
      obtain ⟨S8, eS8, h⟩ := zs_ex h
      have hW8 : WR shX S8 := by rw [eS8]; exact hW.up (i := (S 40 1)) sx41 (v := (zi2c v4)) zi2c_r
      refine s_cast hz sx41 rfl (by decide) g6 g7 dX9_putSigns_71 ?_
      rw [← eS8]
      refine s_aload_n 1 hz dX9_putSigns_72 rfl ?_
      refine s_dup hz rfl dX9_putSigns_73 ?_
      refine s_getI (kz := 1) 1 hz fl_X9_15 sx40 rfl rfl dX9_putSigns_74 ?_
      refine s_iconst hz dX9_putSigns_77 ?_
      refine s_iadd hz dX9_putSigns_78 ?_
      obtain ⟨x9, ex9, rx9, h⟩ := zl_ex h
      rw [← ex9]
      obtain ⟨S10, eS10, h⟩ := zs_ex h
      have hW10 : WR shX S10 := by rw [eS10]; exact hW8.up (i := 1) sx40 (v := x9) rx9
      refine s_putI (kz := 1) 1 hz fp_X9_15 sx40 rfl rfl dX9_putSigns_79 ?_
      rw [← eS10]
      refine s_pick (l' := [(0, aR 40), (1, aL v1), (3, aI v3)]) [1, 2, 3] rfl ?_
      exact TJ_X9_putSigns_82 hz hN hF hk3 rv1 rv3 hW10 h
def J_X9_putSigns_38 (k3 : Int → HS → zO2) (v1 : Int) (v3 : Int) (v4 : Int) (S : HS) : zO2 :=
  J_X9_putSigns_43 k3 v1 v3 v4 1 S
set_option maxHeartbeats 4000000 in
set_option maxRecDepth 20000 in
theorem TJ_X9_putSigns_38 {k3 : Int → HS → zO2} {v1 : Int} {v3 : Int} {v4 : Int} {S : HS} {r : Int} {S' : HS} {z : Zt} (hz : zO z cX9_putSigns RX9 1 shX) (hN : zN z 6) (hF : zFv z shX S') (hk3 : ∀ (w3 : Int) (S : HS), rng w3 → WR shX S → k3 w3 S = some (r, S') → zA z 3 [(0, aR 40), (1, aL v1), (3, aI w3)] [] S) (rv1 : rng6 v1) (rv3 : rng v3) (rv4 : rng v4) (hW : WR shX S) (h : J_X9_putSigns_38 k3 v1 v3 v4 S = some (r, S')) : zA z 38 [(0, aR 40), (1, aL v1), (3, aI v3), (4, aI v4)] [] S := by
  unfold J_X9_putSigns_38 at h
  refine s_iconst hz dX9_putSigns_38 ?_
  refine s_goto 43 hz dX9_putSigns_39 rfl ?_
  exact TJ_X9_putSigns_43 hz hN hF hk3 rv1 rv3 rv4 rl_1 hW h
def J_X9_putSigns_42 (k3 : Int → HS → zO2) (v1 : Int) (v3 : Int) (v4 : Int) (S : HS) : zO2 :=
  J_X9_putSigns_43 k3 v1 v3 v4 0 S
set_option maxHeartbeats 4000000 in
set_option maxRecDepth 20000 in
theorem TJ_X9_putSigns_42 {k3 : Int → HS → zO2} {v1 : Int} {v3 : Int} {v4 : Int} {S : HS} {r : Int} {S' : HS} {z : Zt} (hz : zO z cX9_putSigns RX9 1 shX) (hN : zN z 6) (hF : zFv z shX S') (hk3 : ∀ (w3 : Int) (S : HS), rng w3 → WR shX S → k3 w3 S = some (r, S') → zA z 3 [(0, aR 40), (1, aL v1), (3, aI w3)] [] S) (rv1 : rng6 v1) (rv3 : rng v3) (rv4 : rng v4) (hW : WR shX S) (h : J_X9_putSigns_42 k3 v1 v3 v4 S = some (r, S')) : zA z 42 [(0, aR 40), (1, aL v1), (3, aI v3), (4, aI v4)] [] S := by
  unfold J_X9_putSigns_42 at h
  refine s_iconst hz dX9_putSigns_42 ?_
  exact TJ_X9_putSigns_43 hz hN hF hk3 rv1 rv3 rv4 rl_0 hW h
def L_X9_putSigns_3 (p1 : Int) : Nat → Int → HS → zO2
  | 0, _, _ => none
  | n + 1, v3, S => 
    if v3 < 0 then (
      some (0, S))
    else (
      if zand (zl2i (zlushr p1 v3)) 255 = 10 then (
        J_X9_putSigns_38 (L_X9_putSigns_3 p1 n) p1 v3 (zand (zl2i (zlushr p1 v3)) 255) S)
      else (
        if zand (zl2i (zlushr p1 v3)) 255 < 32 then (
          J_X9_putSigns_42 (L_X9_putSigns_3 p1 n) p1 v3 (zand (zl2i (zlushr p1 v3)) 255) S)
        else (
          if 126 < zand (zl2i (zlushr p1 v3)) 255 then (
            J_X9_putSigns_42 (L_X9_putSigns_3 p1 n) p1 v3 (zand (zl2i (zlushr p1 v3)) 255) S)
          else (
            J_X9_putSigns_38 (L_X9_putSigns_3 p1 n) p1 v3 (zand (zl2i (zlushr p1 v3)) 255) S))))
set_option maxHeartbeats 4000000 in
set_option maxRecDepth 20000 in
theorem TL_X9_putSigns_3 {p1 : Int} {r : Int} {S' : HS} {z : Zt} (hz : zO z cX9_putSigns RX9 1 shX) (hN : zN z 6) (hF : zFv z shX S') (rp1 : rng6 p1) : ∀ (n : Nat) {v3 : Int} {S : HS}, rng v3 → WR shX S → L_X9_putSigns_3 p1 n v3 S = some (r, S') → zA z 3 [(0, aR 40), (1, aL p1), (3, aI v3)] [] S := by
  intro n
  induction n with
  | zero =>
    intro _ _ _ _ h
    cases h
  | succ n ih =>
    intro v3 S rv3 hW h
    rw [L_X9_putSigns_3.eq_2] at h
    refine s_iload_n 2 hz dX9_putSigns_3 rfl ?_
    refine s_if_lt 88 hz rv3 dX9_putSigns_4 rfl (fun c1 => ?_) (fun c1 => ?_)
    · have h := zif_t c1 h
      exact s_vret h hz hF hW dX9_putSigns_88
    · have h := zif_f c1 h
      refine s_lload_n 1 hz dX9_putSigns_7 rfl ?_
      refine s_iload_n 2 hz dX9_putSigns_8 rfl ?_
      refine s_lushr hz dX9_putSigns_9 ?_
      refine s_l2i hz dX9_putSigns_10 ?_
      refine s_sipush hz dX9_putSigns_11 sp_255 ?_
      refine s_iand hz dX9_putSigns_14 ?_
      refine s_istore (l' := [(4, aI (zand (zl2i (zlushr p1 v3)) 255)), (0, aR 40), (1, aL p1), (3, aI v3)]) hz hN dX9_putSigns_15 (by decide) rfl ?_
      refine s_iload 0 hz dX9_putSigns_17 rfl ?_
      refine s_bipush hz dX9_putSigns_19 bp_10 ?_
      refine s_icmp_eq 38 hz zand_r rl_10 dX9_putSigns_21 rfl (fun c2 => ?_) (fun c2 => ?_)
      · have h := zif_t c2 h
        refine s_pick (l' := [(0, aR 40), (1, aL p1), (3, aI v3), (4, aI (zand (zl2i (zlushr p1 v3)) 255))]) [1, 2, 3, 0] rfl ?_
        exact TJ_X9_putSigns_38 hz hN hF (fun _ _ => ih) rp1 rv3 zand_r hW h
      · have h := zif_f c2 h
        refine s_iload 0 hz dX9_putSigns_24 rfl ?_
        refine s_bipush hz dX9_putSigns_26 bp_32 ?_
        refine s_icmp_lt 42 hz zand_r rl_32 dX9_putSigns_28 rfl (fun c11 => ?_) (fun c11 => ?_)
        · have h := zif_t c11 h
          refine s_pick (l' := [(0, aR 40), (1, aL p1), (3, aI v3), (4, aI (zand (zl2i (zlushr p1 v3)) 255))]) [1, 2, 3, 0] rfl ?_
          exact TJ_X9_putSigns_42 hz hN hF (fun _ _ => ih) rp1 rv3 zand_r hW h
        · have h := zif_f c11 h
          refine s_iload 0 hz dX9_putSigns_31 rfl ?_
          refine s_bipush hz dX9_putSigns_33 bp_126 ?_
          refine s_icmp_gt 42 hz zand_r rl_126 dX9_putSigns_35 rfl (fun c12 => ?_) (fun c12 => ?_)
          · have h := zif_t c12 h
            refine s_pick (l' := [(0, aR 40), (1, aL p1), (3, aI v3), (4, aI (zand (zl2i (zlushr p1 v3)) 255))]) [1, 2, 3, 0] rfl ?_
            exact TJ_X9_putSigns_42 hz hN hF (fun _ _ => ih) rp1 rv3 zand_r hW h
          · have h := zif_f c12 h
            refine s_pick (l' := [(0, aR 40), (1, aL p1), (3, aI v3), (4, aI (zand (zl2i (zlushr p1 v3)) 255))]) [1, 2, 3, 0] rfl ?_
            exact TJ_X9_putSigns_38 hz hN hF (fun _ _ => ih) rp1 rv3 zand_r hW h
def M_X9_putSigns (a1 : Int) (S : HS) : zO2 :=
  L_X9_putSigns_3 a1 zBig 56 S
set_option maxHeartbeats 4000000 in
set_option maxRecDepth 20000 in
theorem T_X9_putSigns {a1 : Int} {S S' : HS} {r : Int} (ra1 : rng6 a1) (hW : WR shX S) (h : M_X9_putSigns a1 S = some (r, S')) : zV shX yX9_putSigns cX9_putSigns 6 1 [aR 40, aL a1] S S' := by
  refine zV_of (by decide +kernel) (Nat.le_of_ble_eq_true rfl) (fun z hz hN hF => ?_)
  have hz : zO z cX9_putSigns RX9 1 shX := hz
  show zA z 0 [(0, aR 40), (1, aL a1)] [] S
  unfold M_X9_putSigns at h
  refine s_bipush hz dX9_putSigns_0 bp_56 ?_
  refine s_istore_n (l' := [(3, aI 56), (0, aR 40), (1, aL a1)]) hz hN dX9_putSigns_2 (by decide) rfl ?_
  refine s_pick (l' := [(0, aR 40), (1, aL a1), (3, aI 56)]) [1, 2, 0] rfl ?_
  exact TL_X9_putSigns_3 hz hN hF ra1 zBig rl_56 hW h
def M_X11_feed (a1 : Int) (a2 : Int) (a3 : Int) (S : HS) : zO2 :=
  zb (M_X9_putSigns a1 S) fun _ S2 =>
  zb (M_X9_putSigns a2 S2) fun _ S4 =>
  zb (M_X9_putSigns a3 S4) fun _ S6 =>
  some (S6 40 1, S6)
set_option maxHeartbeats 4000000 in
set_option maxRecDepth 20000 in
theorem T_X11_feed {a1 : Int} {a2 : Int} {a3 : Int} {S S' : HS} {r : Int} (ra1 : rng6 a1) (ra2 : rng6 a2) (ra3 : rng6 a3) (hW : WR shX S) (h : M_X11_feed a1 a2 a3 S = some (r, S')) : zR shX yX11_feed cX11_feed 7  .int 2 [aR 0, aL a1, aL a2, aL a3] S r S' := by
  refine zR_of (by decide +kernel) (Nat.le_of_ble_eq_true rfl) (fun z hz hN hF => ?_)
  have hz : zO z cX11_feed RX11 2 shX := hz
  show zA z 0 [(0, aR 0), (1, aL a1), (3, aL a2), (5, aL a3)] [] S
  unfold M_X11_feed at h
  refine s_aload_n 0 hz dX11_feed_0 rfl ?_
  refine s_getR 7 hz fl_X11_67 sx0 rfl (by decide) dX11_feed_1 ?_
  refine s_lload_n 1 hz dX11_feed_4 rfl ?_
  obtain ⟨r1, S2, hc2, h⟩ := zb_of h
  refine s_callVv [aL a1] [] hz ml_X11_113 sv_yX9_putSigns (T_X9_putSigns ra1 hW hc2) (by decide) rfl sx40 rfl rfl (Nat.le_of_ble_eq_true rfl) dX11_feed_5 (fun hW2 => ?_)
  refine s_aload_n 0 hz dX11_feed_8 rfl ?_
  refine s_getR 7 hz fl_X11_67 sx0 rfl (by decide) dX11_feed_9 ?_
  refine s_lload_n 2 hz dX11_feed_12 rfl ?_
  obtain ⟨r3, S4, hc4, h⟩ := zb_of h
  refine s_callVv [aL a2] [] hz ml_X11_113 sv_yX9_putSigns (T_X9_putSigns ra2 hW2 hc4) (by decide) rfl sx40 rfl rfl (Nat.le_of_ble_eq_true rfl) dX11_feed_13 (fun hW4 => ?_)
  refine s_aload_n 0 hz dX11_feed_16 rfl ?_
  refine s_getR 7 hz fl_X11_67 sx0 rfl (by decide) dX11_feed_17 ?_
  refine s_lload 3 hz dX11_feed_20 rfl ?_
  obtain ⟨r5, S6, hc6, h⟩ := zb_of h
  refine s_callVv [aL a3] [] hz ml_X11_113 sv_yX9_putSigns (T_X9_putSigns ra3 hW4 hc6) (by decide) rfl sx40 rfl rfl (Nat.le_of_ble_eq_true rfl) dX11_feed_22 (fun hW6 => ?_)
  refine s_aload_n 0 hz dX11_feed_25 rfl ?_
  refine s_getR 7 hz fl_X11_67 sx0 rfl (by decide) dX11_feed_26 ?_
  refine s_getI (kz := 1) 1 hz fl_X11_117 sx40 rfl rfl dX11_feed_29 ?_
  exact s_iret h hz hF (hW6 40 _ sx40 1) hW6 dX11_feed_32
def M_X9_signAt (a1 : Int) (S : HS) : zO2 :=
  if a1 < 0 then (
    some (32, S))
  else (
    if S 40 1 ≤ a1 then (
      some (32, S))
    else (
      if 1000 ≤ a1 then (
        some (32, S))
      else (
        zg ((0 : Int) ≤ a1 ∧ a1 < 1000) <|
        zg ((0 : Int) ≤ S 41 a1 ∧ S 41 a1 < 65536) <|
        some (S 41 a1, S))))
set_option maxHeartbeats 4000000 in
set_option maxRecDepth 20000 in
theorem T_X9_signAt {a1 : Int} {S S' : HS} {r : Int} (ra1 : rng a1) (hW : WR shX S) (h : M_X9_signAt a1 S = some (r, S')) : zR shX yX9_signAt cX9_signAt 2  .char 1 [aR 40, aI a1] S r S' := by
  refine zR_of (by decide +kernel) (Nat.le_of_ble_eq_true rfl) (fun z hz hN hF => ?_)
  have hz : zO z cX9_signAt RX9 1 shX := hz
  show zA z 0 [(0, aR 40), (1, aI a1)] [] S
  unfold M_X9_signAt at h
  refine s_iload_n 1 hz dX9_signAt_0 rfl ?_
  refine s_if_lt 28 hz ra1 dX9_signAt_1 rfl (fun c1 => ?_) (fun c1 => ?_)
  · have h := zif_t c1 h
    refine s_bipush hz dX9_signAt_28 bp_32 ?_
    exact s_cret h hz hF (by decide) hW dX9_signAt_30
  · have h := zif_f c1 h
    refine s_iload_n 1 hz dX9_signAt_4 rfl ?_
    refine s_aload_n 0 hz dX9_signAt_5 rfl ?_
    refine s_getI (kz := 1) 1 hz fl_X9_15 sx40 rfl rfl dX9_signAt_6 ?_
    refine s_icmp_ge 28 hz ra1 (hW 40 _ sx40 1) dX9_signAt_9 rfl (fun c2 => ?_) (fun c2 => ?_)
    · have h := zif_t c2 h
      refine s_bipush hz dX9_signAt_28 bp_32 ?_
      exact s_cret h hz hF (by decide) hW dX9_signAt_30
    · have h := zif_f c2 h
      refine s_iload_n 1 hz dX9_signAt_12 rfl ?_
      refine s_sipush hz dX9_signAt_13 sp_1000 ?_
      refine s_icmp_ge 28 hz ra1 rl_1000 dX9_signAt_16 rfl (fun c3 => ?_) (fun c3 => ?_)
      · have h := zif_t c3 h
        refine s_bipush hz dX9_signAt_28 bp_32 ?_
        exact s_cret h hz hF (by decide) hW dX9_signAt_30
      · have h := zif_f c3 h
        refine s_aload_n 0 hz dX9_signAt_19 rfl ?_
        refine s_getR 0 hz fl_X9_9 sx40 rfl (by decide) dX9_signAt_20 ?_
        refine s_iload_n 1 hz dX9_signAt_23 rfl ?_
        obtain ⟨g4, h⟩ := zg_of h
        refine s_cald hz sx41 rfl (by decide) g4 dX9_signAt_24 ?_
        refine s_goto 30 hz dX9_signAt_25 rfl ?_
        obtain ⟨g5, h⟩ := zg_of h
        exact s_cret h hz hF g5 hW dX9_signAt_30
def J_X9_isBlank_12 (S : HS) : zO2 :=
  some (1, S)
set_option maxHeartbeats 4000000 in
set_option maxRecDepth 20000 in
theorem TJ_X9_isBlank_12 {S : HS} {r : Int} {S' : HS} {z : Zt} (hz : zO z cX9_isBlank RX9 1 shX) (hN : zN z 1) (hF : zFi z shX .boolean r S') (hW : WR shX S) (h : J_X9_isBlank_12 S = some (r, S')) : zA z 12 [] [] S := by
  unfold J_X9_isBlank_12 at h
  refine s_iconst hz dX9_isBlank_12 ?_
  refine s_goto 17 hz dX9_isBlank_13 rfl ?_
  exact s_zret h hz hF (by decide) hW dX9_isBlank_17
def M_X9_isBlank (a1 : Int) (S : HS) : zO2 :=
  if a1 = 10 then (
    J_X9_isBlank_12 S)
  else (
    if a1 = 32 then (
      J_X9_isBlank_12 S)
    else (
      some (0, S)))
set_option maxHeartbeats 4000000 in
set_option maxRecDepth 20000 in
theorem T_X9_isBlank {a1 : Int} {S S' : HS} {r : Int} (ra1 : rng a1) (hW : WR shX S) (h : M_X9_isBlank a1 S = some (r, S')) : zR shX yX9_isBlank cX9_isBlank 1  .boolean 1 [aI a1] S r S' := by
  refine zR_of (by decide +kernel) (Nat.le_of_ble_eq_true rfl) (fun z hz hN hF => ?_)
  have hz : zO z cX9_isBlank RX9 1 shX := hz
  show zA z 0 [(0, aI a1)] [] S
  unfold M_X9_isBlank at h
  refine s_iload_n 0 hz dX9_isBlank_0 rfl ?_
  refine s_bipush hz dX9_isBlank_1 bp_10 ?_
  refine s_icmp_eq 12 hz ra1 rl_10 dX9_isBlank_3 rfl (fun c1 => ?_) (fun c1 => ?_)
  · have h := zif_t c1 h
    refine s_pick (l' := []) [] rfl ?_
    exact TJ_X9_isBlank_12 hz hN hF hW h
  · have h := zif_f c1 h
    refine s_iload_n 0 hz dX9_isBlank_6 rfl ?_
    refine s_bipush hz dX9_isBlank_7 bp_32 ?_
    refine s_icmp_ne 16 hz ra1 rl_32 dX9_isBlank_9 rfl (fun c2 => ?_) (fun c2 => ?_)
    · have h := zif_f c2 h
      refine s_iconst hz dX9_isBlank_16 ?_
      exact s_zret h hz hF (by decide) hW dX9_isBlank_17
    · have h := zif_t c2 h
      refine s_pick (l' := []) [] rfl ?_
      exact TJ_X9_isBlank_12 hz hN hF hW h
def M_X9_isLetter (a1 : Int) (S : HS) : zO2 :=
  if a1 < 97 then (
    some (0, S))
  else (
    if 122 < a1 then (
      some (0, S))
    else (
      some (1, S)))
set_option maxHeartbeats 4000000 in
set_option maxRecDepth 20000 in
theorem T_X9_isLetter {a1 : Int} {S S' : HS} {r : Int} (ra1 : rng a1) (hW : WR shX S) (h : M_X9_isLetter a1 S = some (r, S')) : zR shX yX9_isLetter cX9_isLetter 1  .boolean 1 [aI a1] S r S' := by
  refine zR_of (by decide +kernel) (Nat.le_of_ble_eq_true rfl) (fun z hz hN hF => ?_)
  have hz : zO z cX9_isLetter RX9 1 shX := hz
  show zA z 0 [(0, aI a1)] [] S
  unfold M_X9_isLetter at h
  refine s_iload_n 0 hz dX9_isLetter_0 rfl ?_
  refine s_bipush hz dX9_isLetter_1 bp_97 ?_
  refine s_icmp_lt 16 hz ra1 rl_97 dX9_isLetter_3 rfl (fun c1 => ?_) (fun c1 => ?_)
  · have h := zif_t c1 h
    refine s_iconst hz dX9_isLetter_16 ?_
    exact s_zret h hz hF (by decide) hW dX9_isLetter_17
  · have h := zif_f c1 h
    refine s_iload_n 0 hz dX9_isLetter_6 rfl ?_
    refine s_bipush hz dX9_isLetter_7 bp_122 ?_
    refine s_icmp_gt 16 hz ra1 rl_122 dX9_isLetter_9 rfl (fun c2 => ?_) (fun c2 => ?_)
    · have h := zif_t c2 h
      refine s_iconst hz dX9_isLetter_16 ?_
      exact s_zret h hz hF (by decide) hW dX9_isLetter_17
    · have h := zif_f c2 h
      refine s_iconst hz dX9_isLetter_12 ?_
      refine s_goto 17 hz dX9_isLetter_13 rfl ?_
      exact s_zret h hz hF (by decide) hW dX9_isLetter_17
def M_X9_isDigit (a1 : Int) (S : HS) : zO2 :=
  if a1 < 48 then (
    some (0, S))
  else (
    if 57 < a1 then (
      some (0, S))
    else (
      some (1, S)))
set_option maxHeartbeats 4000000 in
set_option maxRecDepth 20000 in
theorem T_X9_isDigit {a1 : Int} {S S' : HS} {r : Int} (ra1 : rng a1) (hW : WR shX S) (h : M_X9_isDigit a1 S = some (r, S')) : zR shX yX9_isDigit cX9_isDigit 1  .boolean 1 [aI a1] S r S' := by
  refine zR_of (by decide +kernel) (Nat.le_of_ble_eq_true rfl) (fun z hz hN hF => ?_)
  have hz : zO z cX9_isDigit RX9 1 shX := hz
  show zA z 0 [(0, aI a1)] [] S
  unfold M_X9_isDigit at h
  refine s_iload_n 0 hz dX9_isDigit_0 rfl ?_
  refine s_bipush hz dX9_isDigit_1 bp_48 ?_
  refine s_icmp_lt 16 hz ra1 rl_48 dX9_isDigit_3 rfl (fun c1 => ?_) (fun c1 => ?_)
  · have h := zif_t c1 h
    refine s_iconst hz dX9_isDigit_16 ?_
    exact s_zret h hz hF (by decide) hW dX9_isDigit_17
  · have h := zif_f c1 h
    refine s_iload_n 0 hz dX9_isDigit_6 rfl ?_
    refine s_bipush hz dX9_isDigit_7 bp_57 ?_
    refine s_icmp_gt 16 hz ra1 rl_57 dX9_isDigit_9 rfl (fun c2 => ?_) (fun c2 => ?_)
    · have h := zif_t c2 h
      refine s_iconst hz dX9_isDigit_16 ?_
      exact s_zret h hz hF (by decide) hW dX9_isDigit_17
    · have h := zif_f c2 h
      refine s_iconst hz dX9_isDigit_12 ?_
      refine s_goto 17 hz dX9_isDigit_13 rfl ?_
      exact s_zret h hz hF (by decide) hW dX9_isDigit_17
/-- a number that goes round -/
def zwi (v : Int) : Int := (Int32.ofInt v).toInt
def zwr {α : Type} (v : Int) (f : Int → Option α) : Option α := f (zwi v)
theorem zwr_ex {α : Type} {v : Int} {f : Int → Option α} {x : α} (h : zwr v f = some x) : ∃ y : Int, y = zwi v ∧ rng y ∧ f y = some x := ⟨zwi v, rfl, z_rngI _, h⟩
theorem s_wr {z : Zt} {pc : Nat} {l : List (Nat × AV)} {st : List AV} {h : HS} {x : Int} (k : zA z pc l (aI (zwi x) :: st) h) : zA z pc l (aI x :: st) h := by
  obtain ⟨p, lc, e, R, s, m, args, below, meth, c, cells, slots, Q, σ, ad, D, cA, A⟩ := z
  intro H locs ls hv hP hD hS
  have e : (aI x :: st).map (cv ad) = (aI (zwi x) :: st).map (cv ad) := by
    show Value.int (Int32.ofInt x) :: _ = Value.int (Int32.ofInt (Int32.ofInt x).toInt) :: _
    rw [z_as]
  rw [e]
  exact k H locs ls hv hP hD hS
def L_X9_readNumber_5 (k66 : HS → zO2) : Nat → HS → zO2
  | 0, _ => none
  | n + 1, S => 
    if S 40 1 ≤ S 40 2 then (
      k66 S)
    else (
      zb (M_X9_signAt (S 40 2) S) fun r3 S4 =>
      zb (M_X9_isDigit r3 S4) fun r5 S6 =>
      if r5 = 0 then (
        k66 S6)
      else (
        zb (M_X9_signAt (S6 40 2) S6) fun r8 S9 =>
        zwr (((10 * (S6 40 5)) + r8) - 48) fun x10 =>
        zs (up S9 40 5 x10) fun S11 =>
        zl ((S11 40 2) + 1) fun x12 =>
        zs (up S11 40 2 x12) fun S13 =>
        L_X9_readNumber_5 k66 n S13))
set_option maxHeartbeats 4000000 in
set_option maxRecDepth 20000 in
theorem TL_X9_readNumber_5 {k66 : HS → zO2} {r : Int} {S' : HS} {z : Zt} (hz : zO z cX9_readNumber RX9 2 shX) (hN : zN z 1) (hF : zFv z shX S') (hk66 : ∀ (S : HS), WR shX S → k66 S = some (r, S') → zA z 66 [(0, aR 40)] [] S) : ∀ (n : Nat) {S : HS}, WR shX S → L_X9_readNumber_5 k66 n S = some (r, S') → zA z 5 [(0, aR 40)] [] S := by
  intro n
  induction n with
  | zero =>
    intro _ _ h
    cases h
  | succ n ih =>
    intro S hW h
    rw [L_X9_readNumber_5.eq_2] at h
    refine s_aload_n 0 hz dX9_readNumber_5 rfl ?_
    refine s_getI (kz := 2) 2 hz fl_X9_19 sx40 rfl rfl dX9_readNumber_6 ?_
    refine s_aload_n 0 hz dX9_readNumber_9 rfl ?_
    refine s_getI (kz := 1) 1 hz fl_X9_15 sx40 rfl rfl dX9_readNumber_10 ?_
    refine s_icmp_ge 66 hz (hW 40 _ sx40 2) (hW 40 _ sx40 1) dX9_readNumber_13 rfl (fun c2 => ?_) (fun c2 => ?_)
    · have h := zif_t c2 h
      exact hk66 _ hW h
    · have h := zif_f c2 h
      refine s_aload_n 0 hz dX9_readNumber_16 rfl ?_
      refine s_aload_n 0 hz dX9_readNumber_17 rfl ?_
      refine s_getI (kz := 2) 2 hz fl_X9_19 sx40 rfl rfl dX9_readNumber_18 ?_
      obtain ⟨r3, S4, hc4, h⟩ := zb_of h
      refine s_callV [aI (S 40 2)] [] hz ml_X9_25 sv_yX9_signAt (T_X9_signAt (hW 40 _ sx40 2) hW hc4) (by decide) rfl sx40 rfl rfl (Nat.le_of_ble_eq_true rfl) dX9_readNumber_21 (fun rr3 hW4 => ?_)
      obtain ⟨r5, S6, hc6, h⟩ := zb_of h
      refine s_callS [aI r3] [] hz ml_X9_45 ss_yX9_isDigit (T_X9_isDigit rr3 hW4 hc6) (by decide) rfl rfl (Nat.le_of_ble_eq_true rfl) dX9_readNumber_24 (fun rr5 hW6 => ?_)
      refine s_if_eq 66 hz rr5 dX9_readNumber_27 rfl (fun c7 => ?_) (fun c7 => ?_)
      · have h := zif_t c7 h
        exact hk66 _ hW6 h
      · have h := zif_f c7 h
        refine s_aload_n 0 hz dX9_readNumber_30 rfl ?_
        refine s_bipush hz dX9_readNumber_31 bp_10 ?_
        refine s_aload_n 0 hz dX9_readNumber_33 rfl ?_
        refine s_getI (kz := 5) 5 hz fl_X9_51 sx40 rfl rfl dX9_readNumber_34 ?_
        refine s_imul hz dX9_readNumber_37 ?_
        refine s_aload_n 0 hz dX9_readNumber_38 rfl ?_
        refine s_aload_n 0 hz dX9_readNumber_39 rfl ?_
        refine s_getI (kz := 2) 2 hz fl_X9_19 sx40 rfl rfl dX9_readNumber_40 ?_
        obtain ⟨r8, S9, hc9, h⟩ := zb_of h
        refine s_callV [aI (S6 40 2)] [aI (10 * (S6 40 5)), aR 40] hz ml_X9_25 sv_yX9_signAt (T_X9_signAt (hW6 40 _ sx40 2) hW6 hc9) (by decide) rfl sx40 rfl rfl (Nat.le_of_ble_eq_true rfl) dX9_readNumber_43 (fun rr8 hW9 => ?_)
        refine s_iadd hz dX9_readNumber_46 ?_
        refine s_bipush hz dX9_readNumber_47 bp_48 ?_
        refine s_isub hz dX9_readNumber_49 ?_
        obtain ⟨x10, ex10, rx10, h⟩ := zwr_ex h
        refine s_wr ?_
        rw [← ex10]
        obtain ⟨S11, eS11, h⟩ := zs_ex h
        have hW11 : WR shX S11 := by rw [eS11]; exact hW9.up (i := 5) sx40 (v := x10) rx10
        refine s_putI (kz := 5) 5 hz fp_X9_51 sx40 rfl rfl dX9_readNumber_50 ?_
        rw [← eS11]
        refine s_aload_n 0 hz dX9_readNumber_53 rfl ?_
        refine s_dup hz rfl dX9_readNumber_54 ?_
        refine s_getI (kz := 2) 2 hz fl_X9_19 sx40 rfl rfl dX9_readNumber_55 ?_
        refine s_iconst hz dX9_readNumber_58 ?_
        refine s_iadd hz dX9_readNumber_59 ?_
        obtain ⟨x12, ex12, rx12, h⟩ := zl_ex h
        rw [← ex12]
        obtain ⟨S13, eS13, h⟩ := zs_ex h
        have hW13 : WR shX S13 := by rw [eS13]; exact hW11.up (i := 2) sx40 (v := x12) rx12
        refine s_putI (kz := 2) 2 hz fp_X9_19 sx40 rfl rfl dX9_readNumber_60 ?_
        rw [← eS13]
        refine s_goto 5 hz dX9_readNumber_63 rfl ?_
        exact ih hW13 h
def J_X9_readNumber_87 (t0 : Int) (S : HS) : zO2 :=
  zs (up S 40 3 t0) fun S17 =>
  some (0, S17)
set_option maxHeartbeats 4000000 in
set_option maxRecDepth 20000 in
theorem TJ_X9_readNumber_87 {t0 : Int} {S : HS} {r : Int} {S' : HS} {z : Zt} (hz : zO z cX9_readNumber RX9 2 shX) (hN : zN z 1) (hF : zFv z shX S') (rt0 : rng t0) (hW : WR shX S) (h : J_X9_readNumber_87 t0 S = some (r, S')) : zA z 87 [] [aI t0, aR 40] S := by
  unfold J_X9_readNumber_87 at h
  obtain ⟨S17, eS17, h⟩ := zs_ex h
  have hW17 : WR shX S17 := by rw [eS17]; exact hW.up (i := 3) sx40 (v := t0) rt0
  refine s_putI (kz := 3) 3 hz fp_X9_36 sx40 rfl rfl dX9_readNumber_87 ?_
  rw [← eS17]
  exact s_vret h hz hF hW17 dX9_readNumber_90
def J_X9_readNumber_66 (S : HS) : zO2 :=
  zl ((S 40 2) - (S 40 4)) fun x15 =>
  if x15 ≤ 2 then (
    J_X9_readNumber_87 8 S)
  else (
    J_X9_readNumber_87 13 S)
set_option maxHeartbeats 4000000 in
set_option maxRecDepth 20000 in
theorem TJ_X9_readNumber_66 {S : HS} {r : Int} {S' : HS} {z : Zt} (hz : zO z cX9_readNumber RX9 2 shX) (hN : zN z 1) (hF : zFv z shX S') (hW : WR shX S) (h : J_X9_readNumber_66 S = some (r, S')) : zA z 66 [(0, aR 40)] [] S := by
  unfold J_X9_readNumber_66 at h
  refine s_aload_n 0 hz dX9_readNumber_66 rfl ?_
  refine s_aload_n 0 hz dX9_readNumber_67 rfl ?_
  refine s_getI (kz := 2) 2 hz fl_X9_19 sx40 rfl rfl dX9_readNumber_68 ?_
  refine s_aload_n 0 hz dX9_readNumber_71 rfl ?_
  refine s_getI (kz := 4) 4 hz fl_X9_33 sx40 rfl rfl dX9_readNumber_72 ?_
  refine s_isub hz dX9_readNumber_75 ?_
  refine s_iconst hz dX9_readNumber_76 ?_
  obtain ⟨x15, ex15, rx15, h⟩ := zl_ex h
  rw [← ex15]
  refine s_icmp_le 85 hz rx15 rl_2 dX9_readNumber_77 rfl (fun c16 => ?_) (fun c16 => ?_)
  · have h := zif_t c16 h
    refine s_bipush hz dX9_readNumber_85 bp_8 ?_
    refine s_pick (l' := []) [] rfl ?_
    exact TJ_X9_readNumber_87 hz hN hF rl_8 hW h
  · have h := zif_f c16 h
    refine s_bipush hz dX9_readNumber_80 bp_13 ?_
    refine s_goto 87 hz dX9_readNumber_82 rfl ?_
    refine s_pick (l' := []) [] rfl ?_
    exact TJ_X9_readNumber_87 hz hN hF rl_13 hW h
def M_X9_readNumber (S : HS) : zO2 :=
  zs (up S 40 5 0) fun S1 =>
  L_X9_readNumber_5 (fun S14 =>
      J_X9_readNumber_66 S14) zBig S1
set_option maxHeartbeats 4000000 in
set_option maxRecDepth 20000 in
theorem T_X9_readNumber {S S' : HS} {r : Int} (hW : WR shX S) (h : M_X9_readNumber S = some (r, S')) : zV shX yX9_readNumber cX9_readNumber 1 2 [aR 40] S S' := by
  refine zV_of (by decide +kernel) (Nat.le_of_ble_eq_true rfl) (fun z hz hN hF => ?_)
  have hz : zO z cX9_readNumber RX9 2 shX := hz
  show zA z 0 [(0, aR 40)] [] S
  unfold M_X9_readNumber at h
  refine s_aload_n 0 hz dX9_readNumber_0 rfl ?_
  refine s_iconst hz dX9_readNumber_1 ?_
  obtain ⟨S1, eS1, h⟩ := zs_ex h
  have hW1 : WR shX S1 := by rw [eS1]; exact hW.up (i := 5) sx40 (v := 0) rl_0
  refine s_putI (kz := 5) 5 hz fp_X9_51 sx40 rfl rfl dX9_readNumber_2 ?_
  rw [← eS1]
  refine TL_X9_readNumber_5 hz hN hF ?_ zBig hW1 h
  · clear h 
    intro S14 hW14 h
    exact TJ_X9_readNumber_66 hz hN hF hW14 h
def L_X9_isWord_32 (w : Nat) (p2 : Int) : Nat → Int → HS → zO2
  | 0, _, _ => none
  | n + 1, v3, S => 
    if p2 ≤ v3 then (
      some (1, S))
    else (
      zg (0 ≤ v3 ∧ v3 < zlenI w) <|
      zg ((0 : Int) ≤ (S 40 4) + v3 ∧ (S 40 4) + v3 < 1000) <|
      if zchI w v3 = S 41 ((S 40 4) + v3) then (
        zl (v3 + 1) fun x8 =>
        L_X9_isWord_32 w p2 n x8 S)
      else (
        some (0, S)))
set_option maxHeartbeats 4000000 in
set_option maxRecDepth 20000 in
theorem TL_X9_isWord_32 {w : Nat} {p2 : Int} {r : Int} {S' : HS} {z : Zt} (hz : zO z cX9_isWord RX9 4 shX) (hN : zN z 4) (hF : zFi z shX .boolean r S') (hw : w < 8) (rp2 : rng p2) : ∀ (n : Nat) {v3 : Int} {S : HS}, rng v3 → WR shX S → L_X9_isWord_32 w p2 n v3 S = some (r, S') → zA z 32 [(0, aR 40), (1, aR (w + 1000)), (2, aI p2), (3, aI v3)] [] S := by
  intro n
  induction n with
  | zero =>
    intro _ _ _ _ h
    cases h
  | succ n ih =>
    intro v3 S rv3 hW h
    rw [L_X9_isWord_32.eq_2] at h
    refine s_iload_n 3 hz dX9_isWord_32 rfl ?_
    refine s_iload_n 2 hz dX9_isWord_33 rfl ?_
    refine s_icmp_ge 64 hz rv3 rp2 dX9_isWord_34 rfl (fun c4 => ?_) (fun c4 => ?_)
    · have h := zif_t c4 h
      refine s_iconst hz dX9_isWord_64 ?_
      exact s_zret h hz hF (by decide) hW dX9_isWord_65
    · have h := zif_f c4 h
      refine s_aload_n 1 hz dX9_isWord_37 rfl ?_
      refine s_iload_n 3 hz dX9_isWord_38 rfl ?_
      obtain ⟨g5, h⟩ := zg_of h
      refine s_schar hz hw hW (by decide) rv3 g5 (Nat.le_of_ble_eq_true rfl) dX9_isWord_39 ?_
      refine s_aload_n 0 hz dX9_isWord_42 rfl ?_
      refine s_getR 0 hz fl_X9_9 sx40 rfl (by decide) dX9_isWord_43 ?_
      refine s_aload_n 0 hz dX9_isWord_46 rfl ?_
      refine s_getI (kz := 4) 4 hz fl_X9_33 sx40 rfl rfl dX9_isWord_47 ?_
      refine s_iload_n 3 hz dX9_isWord_50 rfl ?_
      refine s_iadd hz dX9_isWord_51 ?_
      obtain ⟨g6, h⟩ := zg_of h
      refine s_cald hz sx41 rfl (by decide) g6 dX9_isWord_52 ?_
      refine s_icmp_eq 58 hz zchI_r (hW 41 _ sx41 ((S 40 4) + v3)) dX9_isWord_53 rfl (fun c7 => ?_) (fun c7 => ?_)
      · have h := zif_t c7 h
        obtain ⟨x8, ex8, rx8, h⟩ := zl_ex h
        refine s_iinc (k0 := 3) (y := x8) (l' := [(3, aI x8), (0, aR 40), (1, aR (w + 1000)), (2, aI p2)]) hz hN dX9_isWord_58 rfl ex8.symm (by decide) rfl ?_
        refine s_goto 32 hz dX9_isWord_61 rfl ?_
        refine s_pick (l' := [(0, aR 40), (1, aR (w + 1000)), (2, aI p2), (3, aI x8)]) [1, 2, 3, 0] rfl ?_
        exact ih rx8 hW h
      · have h := zif_f c7 h
        refine s_iconst hz dX9_isWord_56 ?_
        exact s_zret h hz hF (by decide) hW dX9_isWord_57
def M_X9_isWord (w : Nat) (S : HS) : zO2 :=
  zl ((S 40 2) - (S 40 4)) fun x1 =>
  if zlenI w = x1 then (
    if S 40 2 ≤ 1000 then (
      L_X9_isWord_32 w (zlenI w) zBig 0 S)
    else (
      some (0, S)))
  else (
    some (0, S))
set_option maxHeartbeats 4000000 in
set_option maxRecDepth 20000 in
theorem T_X9_isWord {w : Nat} (hw : w < 8) {S S' : HS} {r : Int} (hW : WR shX S) (h : M_X9_isWord w S = some (r, S')) : zR shX yX9_isWord cX9_isWord 4  .boolean 4 [aR 40, aR (w + 1000)] S r S' := by
  refine zR_of (by decide +kernel) (Nat.le_of_ble_eq_true rfl) (fun z hz hN hF => ?_)
  have hz : zO z cX9_isWord RX9 4 shX := hz
  show zA z 0 [(0, aR 40), (1, aR (w + 1000))] [] S
  unfold M_X9_isWord at h
  refine s_aload_n 1 hz dX9_isWord_0 rfl ?_
  refine s_slen hz hw hW (by decide) (Nat.le_of_ble_eq_true rfl) dX9_isWord_1 ?_
  refine s_istore_n (l' := [(2, aI (zlenI w)), (0, aR 40), (1, aR (w + 1000))]) hz hN dX9_isWord_4 (by decide) rfl ?_
  refine s_iload_n 0 hz dX9_isWord_5 rfl ?_
  refine s_aload_n 1 hz dX9_isWord_6 rfl ?_
  refine s_getI (kz := 2) 2 hz fl_X9_19 sx40 rfl rfl dX9_isWord_7 ?_
  refine s_aload_n 1 hz dX9_isWord_10 rfl ?_
  refine s_getI (kz := 4) 4 hz fl_X9_33 sx40 rfl rfl dX9_isWord_11 ?_
  refine s_isub hz dX9_isWord_14 ?_
  obtain ⟨x1, ex1, rx1, h⟩ := zl_ex h
  rw [← ex1]
  refine s_icmp_ne 28 hz zlenI_r rx1 dX9_isWord_15 rfl (fun c2 => ?_) (fun c2 => ?_)
  · have h := zif_f c2 h
    refine s_iconst hz dX9_isWord_28 ?_
    exact s_zret h hz hF (by decide) hW dX9_isWord_29
  · have h := zif_t c2 h
    refine s_aload_n 1 hz dX9_isWord_18 rfl ?_
    refine s_getI (kz := 2) 2 hz fl_X9_19 sx40 rfl rfl dX9_isWord_19 ?_
    refine s_sipush hz dX9_isWord_22 sp_1000 ?_
    refine s_icmp_le 30 hz (hW 40 _ sx40 2) rl_1000 dX9_isWord_25 rfl (fun c3 => ?_) (fun c3 => ?_)
    · have h := zif_t c3 h
      refine s_iconst hz dX9_isWord_30 ?_
      refine s_istore_n (l' := [(3, aI 0), (2, aI (zlenI w)), (0, aR 40), (1, aR (w + 1000))]) hz hN dX9_isWord_31 (by decide) rfl ?_
      refine s_pick (l' := [(0, aR 40), (1, aR (w + 1000)), (2, aI (zlenI w)), (3, aI 0)]) [2, 3, 1, 0] rfl ?_
      exact TL_X9_isWord_32 hz hN hF hw zlenI_r zBig rl_0 hW h
    · have h := zif_f c3 h
      refine s_iconst hz dX9_isWord_28 ?_
      exact s_zret h hz hF (by decide) hW dX9_isWord_29
def L_X9_readWord_0 (k38 : HS → zO2) : Nat → HS → zO2
  | 0, _ => none
  | n + 1, S => 
    if S 40 1 ≤ S 40 2 then (
      k38 S)
    else (
      zb (M_X9_signAt (S 40 2) S) fun r2 S3 =>
      zb (M_X9_isLetter r2 S3) fun r4 S5 =>
      if r4 = 0 then (
        k38 S5)
      else (
        zl ((S5 40 2) + 1) fun x7 =>
        zs (up S5 40 2 x7) fun S8 =>
        L_X9_readWord_0 k38 n S8))
set_option maxHeartbeats 4000000 in
set_option maxRecDepth 20000 in
theorem TL_X9_readWord_0 {k38 : HS → zO2} {r : Int} {S' : HS} {z : Zt} (hz : zO z cX9_readWord RX9 5 shX) (hN : zN z 1) (hF : zFv z shX S') (hk38 : ∀ (S : HS), WR shX S → k38 S = some (r, S') → zA z 38 [(0, aR 40)] [] S) : ∀ (n : Nat) {S : HS}, WR shX S → L_X9_readWord_0 k38 n S = some (r, S') → zA z 0 [(0, aR 40)] [] S := by
  intro n
  induction n with
  | zero =>
    intro _ _ h
    cases h
  | succ n ih =>
    intro S hW h
    rw [L_X9_readWord_0.eq_2] at h
    refine s_aload_n 0 hz dX9_readWord_0 rfl ?_
    refine s_getI (kz := 2) 2 hz fl_X9_19 sx40 rfl rfl dX9_readWord_1 ?_
    refine s_aload_n 0 hz dX9_readWord_4 rfl ?_
    refine s_getI (kz := 1) 1 hz fl_X9_15 sx40 rfl rfl dX9_readWord_5 ?_
    refine s_icmp_ge 38 hz (hW 40 _ sx40 2) (hW 40 _ sx40 1) dX9_readWord_8 rfl (fun c1 => ?_) (fun c1 => ?_)
    · have h := zif_t c1 h
      exact hk38 _ hW h
    · have h := zif_f c1 h
      refine s_aload_n 0 hz dX9_readWord_11 rfl ?_
      refine s_aload_n 0 hz dX9_readWord_12 rfl ?_
      refine s_getI (kz := 2) 2 hz fl_X9_19 sx40 rfl rfl dX9_readWord_13 ?_
      obtain ⟨r2, S3, hc3, h⟩ := zb_of h
      refine s_callV [aI (S 40 2)] [] hz ml_X9_25 sv_yX9_signAt (T_X9_signAt (hW 40 _ sx40 2) hW hc3) (by decide) rfl sx40 rfl rfl (Nat.le_of_ble_eq_true rfl) dX9_readWord_16 (fun rr2 hW3 => ?_)
      obtain ⟨r4, S5, hc5, h⟩ := zb_of h
      refine s_callS [aI r2] [] hz ml_X9_39 ss_yX9_isLetter (T_X9_isLetter rr2 hW3 hc5) (by decide) rfl rfl (Nat.le_of_ble_eq_true rfl) dX9_readWord_19 (fun rr4 hW5 => ?_)
      refine s_if_eq 38 hz rr4 dX9_readWord_22 rfl (fun c6 => ?_) (fun c6 => ?_)
      · have h := zif_t c6 h
        exact hk38 _ hW5 h
      · have h := zif_f c6 h
        refine s_aload_n 0 hz dX9_readWord_25 rfl ?_
        refine s_dup hz rfl dX9_readWord_26 ?_
        refine s_getI (kz := 2) 2 hz fl_X9_19 sx40 rfl rfl dX9_readWord_27 ?_
        refine s_iconst hz dX9_readWord_30 ?_
        refine s_iadd hz dX9_readWord_31 ?_
        obtain ⟨x7, ex7, rx7, h⟩ := zl_ex h
        rw [← ex7]
        obtain ⟨S8, eS8, h⟩ := zs_ex h
        have hW8 : WR shX S8 := by rw [eS8]; exact hW5.up (i := 2) sx40 (v := x7) rx7
        refine s_putI (kz := 2) 2 hz fp_X9_19 sx40 rfl rfl dX9_readWord_32 ?_
        rw [← eS8]
        refine s_goto 0 hz dX9_readWord_35 rfl ?_
        exact ih hW8 h
def J_X9_readWord_175 (t0 : Int) (S : HS) : zO2 :=
  zs (up S 40 3 t0) fun S34 =>
  some (0, S34)
set_option maxHeartbeats 4000000 in
set_option maxRecDepth 20000 in
theorem TJ_X9_readWord_175 {t0 : Int} {S : HS} {r : Int} {S' : HS} {z : Zt} (hz : zO z cX9_readWord RX9 5 shX) (hN : zN z 1) (hF : zFv z shX S') (rt0 : rng t0) (hW : WR shX S) (h : J_X9_readWord_175 t0 S = some (r, S')) : zA z 175 [] [aI t0, aR 40] S := by
  unfold J_X9_readWord_175 at h
  obtain ⟨S34, eS34, h⟩ := zs_ex h
  have hW34 : WR shX S34 := by rw [eS34]; exact hW.up (i := 3) sx40 (v := t0) rt0
  refine s_putI (kz := 3) 3 hz fp_X9_36 sx40 rfl rfl dX9_readWord_175 ?_
  rw [← eS34]
  exact s_vret h hz hF hW34 dX9_readWord_178
def J_X9_readWord_38 (S : HS) : zO2 :=
  zb (M_X9_isWord 0 S) fun r10 S11 =>
  if r10 = 0 then (
    zb (M_X9_isWord 1 S11) fun r13 S14 =>
    if r13 = 0 then (
      zb (M_X9_isWord 2 S14) fun r16 S17 =>
      if r16 = 0 then (
        zb (M_X9_isWord 3 S17) fun r19 S20 =>
        if r19 = 0 then (
          zb (M_X9_isWord 4 S20) fun r22 S23 =>
          if r22 = 0 then (
            zb (M_X9_isWord 5 S23) fun r25 S26 =>
            if r25 = 0 then (
              zb (M_X9_isWord 6 S26) fun r28 S29 =>
              if r28 = 0 then (
                zb (M_X9_isWord 7 S29) fun r31 S32 =>
                if r31 = 0 then (
                  J_X9_readWord_175 13 S32)
                else (
                  J_X9_readWord_175 7 S32))
              else (
                zs (up S29 40 3 6) fun S35 =>
                some (0, S35)))
            else (
              zs (up S26 40 3 5) fun S36 =>
              some (0, S36)))
          else (
            zs (up S23 40 3 4) fun S37 =>
            some (0, S37)))
        else (
          zs (up S20 40 3 3) fun S38 =>
          some (0, S38)))
      else (
        zs (up S17 40 3 2) fun S39 =>
        some (0, S39)))
    else (
      zs (up S14 40 3 1) fun S40 =>
      some (0, S40)))
  else (
    zs (up S11 40 3 0) fun S41 =>
    some (0, S41))
set_option maxHeartbeats 4000000 in
set_option maxRecDepth 20000 in
theorem TJ_X9_readWord_38 {S : HS} {r : Int} {S' : HS} {z : Zt} (hz : zO z cX9_readWord RX9 5 shX) (hN : zN z 1) (hF : zFv z shX S') (hW : WR shX S) (h : J_X9_readWord_38 S = some (r, S')) : zA z 38 [(0, aR 40)] [] S := by
  unfold J_X9_readWord_38 at h
  refine s_aload_n 0 hz dX9_readWord_38 rfl ?_
  refine s_ldcT 0 hz rfl dX9_readWord_39 ?_
  obtain ⟨r10, S11, hc11, h⟩ := zb_of h
  refine s_callV [aR 1000] [] hz ml_X9_56 sv_yX9_isWord (T_X9_isWord (by decide) hW hc11) (by decide) rfl sx40 rfl rfl (Nat.le_of_ble_eq_true rfl) dX9_readWord_41 (fun rr10 hW11 => ?_)
  refine s_if_eq 55 hz rr10 dX9_readWord_44 rfl (fun c12 => ?_) (fun c12 => ?_)
  · have h := zif_t c12 h
    refine s_aload_n 0 hz dX9_readWord_55 rfl ?_
    refine s_ldcT 1 hz rfl dX9_readWord_56 ?_
    obtain ⟨r13, S14, hc14, h⟩ := zb_of h
    refine s_callV [aR 1001] [] hz ml_X9_56 sv_yX9_isWord (T_X9_isWord (by decide) hW11 hc14) (by decide) rfl sx40 rfl rfl (Nat.le_of_ble_eq_true rfl) dX9_readWord_58 (fun rr13 hW14 => ?_)
    refine s_if_eq 72 hz rr13 dX9_readWord_61 rfl (fun c15 => ?_) (fun c15 => ?_)
    · have h := zif_t c15 h
      refine s_aload_n 0 hz dX9_readWord_72 rfl ?_
      refine s_ldcT 2 hz rfl dX9_readWord_73 ?_
      obtain ⟨r16, S17, hc17, h⟩ := zb_of h
      refine s_callV [aR 1002] [] hz ml_X9_56 sv_yX9_isWord (T_X9_isWord (by decide) hW14 hc17) (by decide) rfl sx40 rfl rfl (Nat.le_of_ble_eq_true rfl) dX9_readWord_75 (fun rr16 hW17 => ?_)
      refine s_if_eq 89 hz rr16 dX9_readWord_78 rfl (fun c18 => ?_) (fun c18 => ?_)
      · have h := zif_t c18 h
        refine s_aload_n 0 hz dX9_readWord_89 rfl ?_
        refine s_ldcT 3 hz rfl dX9_readWord_90 ?_
        obtain ⟨r19, S20, hc20, h⟩ := zb_of h
        refine s_callV [aR 1003] [] hz ml_X9_56 sv_yX9_isWord (T_X9_isWord (by decide) hW17 hc20) (by decide) rfl sx40 rfl rfl (Nat.le_of_ble_eq_true rfl) dX9_readWord_92 (fun rr19 hW20 => ?_)
        refine s_if_eq 106 hz rr19 dX9_readWord_95 rfl (fun c21 => ?_) (fun c21 => ?_)
        · have h := zif_t c21 h
          refine s_aload_n 0 hz dX9_readWord_106 rfl ?_
          refine s_ldcT 4 hz rfl dX9_readWord_107 ?_
          obtain ⟨r22, S23, hc23, h⟩ := zb_of h
          refine s_callV [aR 1004] [] hz ml_X9_56 sv_yX9_isWord (T_X9_isWord (by decide) hW20 hc23) (by decide) rfl sx40 rfl rfl (Nat.le_of_ble_eq_true rfl) dX9_readWord_109 (fun rr22 hW23 => ?_)
          refine s_if_eq 123 hz rr22 dX9_readWord_112 rfl (fun c24 => ?_) (fun c24 => ?_)
          · have h := zif_t c24 h
            refine s_aload_n 0 hz dX9_readWord_123 rfl ?_
            refine s_ldcT 5 hz rfl dX9_readWord_124 ?_
            obtain ⟨r25, S26, hc26, h⟩ := zb_of h
            refine s_callV [aR 1005] [] hz ml_X9_56 sv_yX9_isWord (T_X9_isWord (by decide) hW23 hc26) (by decide) rfl sx40 rfl rfl (Nat.le_of_ble_eq_true rfl) dX9_readWord_126 (fun rr25 hW26 => ?_)
            refine s_if_eq 140 hz rr25 dX9_readWord_129 rfl (fun c27 => ?_) (fun c27 => ?_)
            · have h := zif_t c27 h
              refine s_aload_n 0 hz dX9_readWord_140 rfl ?_
              refine s_ldcT 6 hz rfl dX9_readWord_141 ?_
              obtain ⟨r28, S29, hc29, h⟩ := zb_of h
              refine s_callV [aR 1006] [] hz ml_X9_56 sv_yX9_isWord (T_X9_isWord (by decide) hW26 hc29) (by decide) rfl sx40 rfl rfl (Nat.le_of_ble_eq_true rfl) dX9_readWord_143 (fun rr28 hW29 => ?_)
              refine s_if_eq 158 hz rr28 dX9_readWord_146 rfl (fun c30 => ?_) (fun c30 => ?_)
              · have h := zif_t c30 h
                refine s_aload_n 0 hz dX9_readWord_158 rfl ?_
                refine s_aload_n 0 hz dX9_readWord_159 rfl ?_
                refine s_ldcT 7 hz rfl dX9_readWord_160 ?_
                obtain ⟨r31, S32, hc32, h⟩ := zb_of h
                refine s_callV [aR 1007] [aR 40] hz ml_X9_56 sv_yX9_isWord (T_X9_isWord (by decide) hW29 hc32) (by decide) rfl sx40 rfl rfl (Nat.le_of_ble_eq_true rfl) dX9_readWord_162 (fun rr31 hW32 => ?_)
                refine s_if_eq 173 hz rr31 dX9_readWord_165 rfl (fun c33 => ?_) (fun c33 => ?_)
                · have h := zif_t c33 h
                  refine s_bipush hz dX9_readWord_173 bp_13 ?_
                  refine s_pick (l' := []) [] rfl ?_
                  exact TJ_X9_readWord_175 hz hN hF rl_13 hW32 h
                · have h := zif_f c33 h
                  refine s_bipush hz dX9_readWord_168 bp_7 ?_
                  refine s_goto 175 hz dX9_readWord_170 rfl ?_
                  refine s_pick (l' := []) [] rfl ?_
                  exact TJ_X9_readWord_175 hz hN hF rl_7 hW32 h
              · have h := zif_f c30 h
                refine s_aload_n 0 hz dX9_readWord_149 rfl ?_
                refine s_bipush hz dX9_readWord_150 bp_6 ?_
                obtain ⟨S35, eS35, h⟩ := zs_ex h
                have hW35 : WR shX S35 := by rw [eS35]; exact hW29.up (i := 3) sx40 (v := 6) rl_6
                refine s_putI (kz := 3) 3 hz fp_X9_36 sx40 rfl rfl dX9_readWord_152 ?_
                rw [← eS35]
                refine s_goto 178 hz dX9_readWord_155 rfl ?_
                exact s_vret h hz hF hW35 dX9_readWord_178
            · have h := zif_f c27 h
              refine s_aload_n 0 hz dX9_readWord_132 rfl ?_
              refine s_iconst hz dX9_readWord_133 ?_
              obtain ⟨S36, eS36, h⟩ := zs_ex h
              have hW36 : WR shX S36 := by rw [eS36]; exact hW26.up (i := 3) sx40 (v := 5) rl_5
              refine s_putI (kz := 3) 3 hz fp_X9_36 sx40 rfl rfl dX9_readWord_134 ?_
              rw [← eS36]
              refine s_goto 178 hz dX9_readWord_137 rfl ?_
              exact s_vret h hz hF hW36 dX9_readWord_178
          · have h := zif_f c24 h
            refine s_aload_n 0 hz dX9_readWord_115 rfl ?_
            refine s_iconst hz dX9_readWord_116 ?_
            obtain ⟨S37, eS37, h⟩ := zs_ex h
            have hW37 : WR shX S37 := by rw [eS37]; exact hW23.up (i := 3) sx40 (v := 4) rl_4
            refine s_putI (kz := 3) 3 hz fp_X9_36 sx40 rfl rfl dX9_readWord_117 ?_
            rw [← eS37]
            refine s_goto 178 hz dX9_readWord_120 rfl ?_
            exact s_vret h hz hF hW37 dX9_readWord_178
        · have h := zif_f c21 h
          refine s_aload_n 0 hz dX9_readWord_98 rfl ?_
          refine s_iconst hz dX9_readWord_99 ?_
          obtain ⟨S38, eS38, h⟩ := zs_ex h
          have hW38 : WR shX S38 := by rw [eS38]; exact hW20.up (i := 3) sx40 (v := 3) rl_3
          refine s_putI (kz := 3) 3 hz fp_X9_36 sx40 rfl rfl dX9_readWord_100 ?_
          rw [← eS38]
          refine s_goto 178 hz dX9_readWord_103 rfl ?_
          exact s_vret h hz hF hW38 dX9_readWord_178
      · have h := zif_f c18 h
        refine s_aload_n 0 hz dX9_readWord_81 rfl ?_
        refine s_iconst hz dX9_readWord_82 ?_
        obtain ⟨S39, eS39, h⟩ := zs_ex h
        have hW39 : WR shX S39 := by rw [eS39]; exact hW17.up (i := 3) sx40 (v := 2) rl_2
        refine s_putI (kz := 3) 3 hz fp_X9_36 sx40 rfl rfl dX9_readWord_83 ?_
        rw [← eS39]
        refine s_goto 178 hz dX9_readWord_86 rfl ?_
        exact s_vret h hz hF hW39 dX9_readWord_178
    · have h := zif_f c15 h
      refine s_aload_n 0 hz dX9_readWord_64 rfl ?_
      refine s_iconst hz dX9_readWord_65 ?_
      obtain ⟨S40, eS40, h⟩ := zs_ex h
      have hW40 : WR shX S40 := by rw [eS40]; exact hW14.up (i := 3) sx40 (v := 1) rl_1
      refine s_putI (kz := 3) 3 hz fp_X9_36 sx40 rfl rfl dX9_readWord_66 ?_
      rw [← eS40]
      refine s_goto 178 hz dX9_readWord_69 rfl ?_
      exact s_vret h hz hF hW40 dX9_readWord_178
  · have h := zif_f c12 h
    refine s_aload_n 0 hz dX9_readWord_47 rfl ?_
    refine s_iconst hz dX9_readWord_48 ?_
    obtain ⟨S41, eS41, h⟩ := zs_ex h
    have hW41 : WR shX S41 := by rw [eS41]; exact hW11.up (i := 3) sx40 (v := 0) rl_0
    refine s_putI (kz := 3) 3 hz fp_X9_36 sx40 rfl rfl dX9_readWord_49 ?_
    rw [← eS41]
    refine s_goto 178 hz dX9_readWord_52 rfl ?_
    exact s_vret h hz hF hW41 dX9_readWord_178
def M_X9_readWord (S : HS) : zO2 :=
  L_X9_readWord_0 (fun S9 =>
      J_X9_readWord_38 S9) zBig S
set_option maxHeartbeats 4000000 in
set_option maxRecDepth 20000 in
theorem T_X9_readWord {S S' : HS} {r : Int} (hW : WR shX S) (h : M_X9_readWord S = some (r, S')) : zV shX yX9_readWord cX9_readWord 1 5 [aR 40] S S' := by
  refine zV_of (by decide +kernel) (Nat.le_of_ble_eq_true rfl) (fun z hz hN hF => ?_)
  have hz : zO z cX9_readWord RX9 5 shX := hz
  show zA z 0 [(0, aR 40)] [] S
  unfold M_X9_readWord at h
  refine TL_X9_readWord_0 hz hN hF ?_ zBig hW h
  · clear h 
    intro S9 hW9 h
    exact TJ_X9_readWord_38 hz hN hF hW9 h
def L_X9_next_0 (k38 : HS → zO2) : Nat → HS → zO2
  | 0, _ => none
  | n + 1, S => 
    if S 40 1 ≤ S 40 2 then (
      k38 S)
    else (
      zb (M_X9_signAt (S 40 2) S) fun r2 S3 =>
      zb (M_X9_isBlank r2 S3) fun r4 S5 =>
      if r4 = 0 then (
        k38 S5)
      else (
        zl ((S5 40 2) + 1) fun x7 =>
        zs (up S5 40 2 x7) fun S8 =>
        L_X9_next_0 k38 n S8))
set_option maxHeartbeats 4000000 in
set_option maxRecDepth 20000 in
theorem TL_X9_next_0 {k38 : HS → zO2} {r : Int} {S' : HS} {z : Zt} (hz : zO z cX9_next RX9 6 shX) (hN : zN z 2) (hF : zFv z shX S') (hk38 : ∀ (S : HS), WR shX S → k38 S = some (r, S') → zA z 38 [(0, aR 40)] [] S) : ∀ (n : Nat) {S : HS}, WR shX S → L_X9_next_0 k38 n S = some (r, S') → zA z 0 [(0, aR 40)] [] S := by
  intro n
  induction n with
  | zero =>
    intro _ _ h
    cases h
  | succ n ih =>
    intro S hW h
    rw [L_X9_next_0.eq_2] at h
    refine s_aload_n 0 hz dX9_next_0 rfl ?_
    refine s_getI (kz := 2) 2 hz fl_X9_19 sx40 rfl rfl dX9_next_1 ?_
    refine s_aload_n 0 hz dX9_next_4 rfl ?_
    refine s_getI (kz := 1) 1 hz fl_X9_15 sx40 rfl rfl dX9_next_5 ?_
    refine s_icmp_ge 38 hz (hW 40 _ sx40 2) (hW 40 _ sx40 1) dX9_next_8 rfl (fun c1 => ?_) (fun c1 => ?_)
    · have h := zif_t c1 h
      exact hk38 _ hW h
    · have h := zif_f c1 h
      refine s_aload_n 0 hz dX9_next_11 rfl ?_
      refine s_aload_n 0 hz dX9_next_12 rfl ?_
      refine s_getI (kz := 2) 2 hz fl_X9_19 sx40 rfl rfl dX9_next_13 ?_
      obtain ⟨r2, S3, hc3, h⟩ := zb_of h
      refine s_callV [aI (S 40 2)] [] hz ml_X9_25 sv_yX9_signAt (T_X9_signAt (hW 40 _ sx40 2) hW hc3) (by decide) rfl sx40 rfl rfl (Nat.le_of_ble_eq_true rfl) dX9_next_16 (fun rr2 hW3 => ?_)
      obtain ⟨r4, S5, hc5, h⟩ := zb_of h
      refine s_callS [aI r2] [] hz ml_X9_29 ss_yX9_isBlank (T_X9_isBlank rr2 hW3 hc5) (by decide) rfl rfl (Nat.le_of_ble_eq_true rfl) dX9_next_19 (fun rr4 hW5 => ?_)
      refine s_if_eq 38 hz rr4 dX9_next_22 rfl (fun c6 => ?_) (fun c6 => ?_)
      · have h := zif_t c6 h
        exact hk38 _ hW5 h
      · have h := zif_f c6 h
        refine s_aload_n 0 hz dX9_next_25 rfl ?_
        refine s_dup hz rfl dX9_next_26 ?_
        refine s_getI (kz := 2) 2 hz fl_X9_19 sx40 rfl rfl dX9_next_27 ?_
        refine s_iconst hz dX9_next_30 ?_
        refine s_iadd hz dX9_next_31 ?_
        obtain ⟨x7, ex7, rx7, h⟩ := zl_ex h
        rw [← ex7]
        obtain ⟨S8, eS8, h⟩ := zs_ex h
        have hW8 : WR shX S8 := by rw [eS8]; exact hW5.up (i := 2) sx40 (v := x7) rx7
        refine s_putI (kz := 2) 2 hz fp_X9_19 sx40 rfl rfl dX9_next_32 ?_
        rw [← eS8]
        refine s_goto 0 hz dX9_next_35 rfl ?_
        exact ih hW8 h
def J_X9_next_149 (t0 : Int) (S : HS) : zO2 :=
  zs (up S 40 3 t0) fun S25 =>
  some (0, S25)
set_option maxHeartbeats 4000000 in
set_option maxRecDepth 20000 in
theorem TJ_X9_next_149 {t0 : Int} {S : HS} {r : Int} {S' : HS} {z : Zt} (hz : zO z cX9_next RX9 6 shX) (hN : zN z 2) (hF : zFv z shX S') (rt0 : rng t0) (hW : WR shX S) (h : J_X9_next_149 t0 S = some (r, S')) : zA z 149 [] [aI t0, aR 40] S := by
  unfold J_X9_next_149 at h
  obtain ⟨S25, eS25, h⟩ := zs_ex h
  have hW25 : WR shX S25 := by rw [eS25]; exact hW.up (i := 3) sx40 (v := t0) rt0
  refine s_putI (kz := 3) 3 hz fp_X9_36 sx40 rfl rfl dX9_next_149 ?_
  rw [← eS25]
  exact s_vret h hz hF hW25 dX9_next_152
def J_X9_next_38 (S : HS) : zO2 :=
  zs (up S 40 4 (S 40 2)) fun S10 =>
  zb (M_X9_signAt (S10 40 2) S10) fun r11 S12 =>
  if S12 40 2 < S12 40 1 then (
    zb (M_X9_isLetter r11 S12) fun r14 S15 =>
    if r14 = 0 then (
      zb (M_X9_isDigit r11 S15) fun r17 S18 =>
      if r17 = 0 then (
        zl ((S18 40 2) + 1) fun x20 =>
        zs (up S18 40 2 x20) fun S21 =>
        if r11 = 40 then (
          J_X9_next_149 9 S21)
        else (
          if r11 = 41 then (
            J_X9_next_149 10 S21)
          else (
            if r11 = 59 then (
              J_X9_next_149 11 S21)
            else (
              J_X9_next_149 13 S21))))
      else (
        zb (M_X9_readNumber S18) fun _ S27 =>
        some (0, S27)))
    else (
      zb (M_X9_readWord S15) fun _ S29 =>
      some (0, S29)))
  else (
    zs (up S12 40 3 12) fun S30 =>
    some (0, S30))
set_option maxHeartbeats 4000000 in
set_option maxRecDepth 20000 in
theorem TJ_X9_next_38 {S : HS} {r : Int} {S' : HS} {z : Zt} (hz : zO z cX9_next RX9 6 shX) (hN : zN z 2) (hF : zFv z shX S') (hW : WR shX S) (h : J_X9_next_38 S = some (r, S')) : zA z 38 [(0, aR 40)] [] S := by
  unfold J_X9_next_38 at h
  refine s_aload_n 0 hz dX9_next_38 rfl ?_
  refine s_aload_n 0 hz dX9_next_39 rfl ?_
  refine s_getI (kz := 2) 2 hz fl_X9_19 sx40 rfl rfl dX9_next_40 ?_
  obtain ⟨S10, eS10, h⟩ := zs_ex h
  have hW10 : WR shX S10 := by rw [eS10]; exact hW.up (i := 4) sx40 (v := (S 40 2)) (hW 40 _ sx40 2)
  refine s_putI (kz := 4) 4 hz fp_X9_33 sx40 rfl rfl dX9_next_43 ?_
  rw [← eS10]
  refine s_aload_n 0 hz dX9_next_46 rfl ?_
  refine s_aload_n 0 hz dX9_next_47 rfl ?_
  refine s_getI (kz := 2) 2 hz fl_X9_19 sx40 rfl rfl dX9_next_48 ?_
  obtain ⟨r11, S12, hc12, h⟩ := zb_of h
  refine s_callV [aI (S10 40 2)] [] hz ml_X9_25 sv_yX9_signAt (T_X9_signAt (hW10 40 _ sx40 2) hW10 hc12) (by decide) rfl sx40 rfl rfl (Nat.le_of_ble_eq_true rfl) dX9_next_51 (fun rr11 hW12 => ?_)
  refine s_istore_n (l' := [(1, aI r11), (0, aR 40)]) hz hN dX9_next_54 (by decide) rfl ?_
  refine s_aload_n 1 hz dX9_next_55 rfl ?_
  refine s_getI (kz := 2) 2 hz fl_X9_19 sx40 rfl rfl dX9_next_56 ?_
  refine s_aload_n 1 hz dX9_next_59 rfl ?_
  refine s_getI (kz := 1) 1 hz fl_X9_15 sx40 rfl rfl dX9_next_60 ?_
  refine s_icmp_lt 75 hz (hW12 40 _ sx40 2) (hW12 40 _ sx40 1) dX9_next_63 rfl (fun c13 => ?_) (fun c13 => ?_)
  · have h := zif_t c13 h
    refine s_iload_n 0 hz dX9_next_75 rfl ?_
    obtain ⟨r14, S15, hc15, h⟩ := zb_of h
    refine s_callS [aI r11] [] hz ml_X9_39 ss_yX9_isLetter (T_X9_isLetter rr11 hW12 hc15) (by decide) rfl rfl (Nat.le_of_ble_eq_true rfl) dX9_next_76 (fun rr14 hW15 => ?_)
    refine s_if_eq 89 hz rr14 dX9_next_79 rfl (fun c16 => ?_) (fun c16 => ?_)
    · have h := zif_t c16 h
      refine s_iload_n 0 hz dX9_next_89 rfl ?_
      obtain ⟨r17, S18, hc18, h⟩ := zb_of h
      refine s_callS [aI r11] [] hz ml_X9_45 ss_yX9_isDigit (T_X9_isDigit rr11 hW15 hc18) (by decide) rfl rfl (Nat.le_of_ble_eq_true rfl) dX9_next_90 (fun rr17 hW18 => ?_)
      refine s_if_eq 103 hz rr17 dX9_next_93 rfl (fun c19 => ?_) (fun c19 => ?_)
      · have h := zif_t c19 h
        refine s_aload_n 1 hz dX9_next_103 rfl ?_
        refine s_dup hz rfl dX9_next_104 ?_
        refine s_getI (kz := 2) 2 hz fl_X9_19 sx40 rfl rfl dX9_next_105 ?_
        refine s_iconst hz dX9_next_108 ?_
        refine s_iadd hz dX9_next_109 ?_
        obtain ⟨x20, ex20, rx20, h⟩ := zl_ex h
        rw [← ex20]
        obtain ⟨S21, eS21, h⟩ := zs_ex h
        have hW21 : WR shX S21 := by rw [eS21]; exact hW18.up (i := 2) sx40 (v := x20) rx20
        refine s_putI (kz := 2) 2 hz fp_X9_19 sx40 rfl rfl dX9_next_110 ?_
        rw [← eS21]
        refine s_aload_n 1 hz dX9_next_113 rfl ?_
        refine s_iload_n 0 hz dX9_next_114 rfl ?_
        refine s_bipush hz dX9_next_115 bp_40 ?_
        refine s_icmp_ne 125 hz rr11 rl_40 dX9_next_117 rfl (fun c22 => ?_) (fun c22 => ?_)
        · have h := zif_f c22 h
          refine s_iload_n 0 hz dX9_next_125 rfl ?_
          refine s_bipush hz dX9_next_126 bp_41 ?_
          refine s_icmp_ne 136 hz rr11 rl_41 dX9_next_128 rfl (fun c23 => ?_) (fun c23 => ?_)
          · have h := zif_f c23 h
            refine s_iload_n 0 hz dX9_next_136 rfl ?_
            refine s_bipush hz dX9_next_137 bp_59 ?_
            refine s_icmp_ne 147 hz rr11 rl_59 dX9_next_139 rfl (fun c24 => ?_) (fun c24 => ?_)
            · have h := zif_f c24 h
              refine s_bipush hz dX9_next_147 bp_13 ?_
              refine s_pick (l' := []) [] rfl ?_
              exact TJ_X9_next_149 hz hN hF rl_13 hW21 h
            · have h := zif_t c24 h
              refine s_bipush hz dX9_next_142 bp_11 ?_
              refine s_goto 149 hz dX9_next_144 rfl ?_
              refine s_pick (l' := []) [] rfl ?_
              exact TJ_X9_next_149 hz hN hF rl_11 hW21 h
          · have h := zif_t c23 h
            refine s_bipush hz dX9_next_131 bp_10 ?_
            refine s_goto 149 hz dX9_next_133 rfl ?_
            refine s_pick (l' := []) [] rfl ?_
            exact TJ_X9_next_149 hz hN hF rl_10 hW21 h
        · have h := zif_t c22 h
          refine s_bipush hz dX9_next_120 bp_9 ?_
          refine s_goto 149 hz dX9_next_122 rfl ?_
          refine s_pick (l' := []) [] rfl ?_
          exact TJ_X9_next_149 hz hN hF rl_9 hW21 h
      · have h := zif_f c19 h
        refine s_aload_n 1 hz dX9_next_96 rfl ?_
        obtain ⟨r26, S27, hc27, h⟩ := zb_of h
        refine s_callVv [] [] hz ml_X9_48 sv_yX9_readNumber (T_X9_readNumber hW18 hc27) (by decide) rfl sx40 rfl rfl (Nat.le_of_ble_eq_true rfl) dX9_next_97 (fun hW27 => ?_)
        refine s_goto 152 hz dX9_next_100 rfl ?_
        exact s_vret h hz hF hW27 dX9_next_152
    · have h := zif_f c16 h
      refine s_aload_n 1 hz dX9_next_82 rfl ?_
      obtain ⟨r28, S29, hc29, h⟩ := zb_of h
      refine s_callVv [] [] hz ml_X9_42 sv_yX9_readWord (T_X9_readWord hW15 hc29) (by decide) rfl sx40 rfl rfl (Nat.le_of_ble_eq_true rfl) dX9_next_83 (fun hW29 => ?_)
      refine s_goto 152 hz dX9_next_86 rfl ?_
      exact s_vret h hz hF hW29 dX9_next_152
  · have h := zif_f c13 h
    refine s_aload_n 1 hz dX9_next_66 rfl ?_
    refine s_bipush hz dX9_next_67 bp_12 ?_
    obtain ⟨S30, eS30, h⟩ := zs_ex h
    have hW30 : WR shX S30 := by rw [eS30]; exact hW12.up (i := 3) sx40 (v := 12) rl_12
    refine s_putI (kz := 3) 3 hz fp_X9_36 sx40 rfl rfl dX9_next_69 ?_
    rw [← eS30]
    refine s_goto 152 hz dX9_next_72 rfl ?_
    exact s_vret h hz hF hW30 dX9_next_152
def M_X9_next (S : HS) : zO2 :=
  L_X9_next_0 (fun S9 =>
      J_X9_next_38 S9) zBig S
set_option maxHeartbeats 4000000 in
set_option maxRecDepth 20000 in
theorem T_X9_next {S S' : HS} {r : Int} (hW : WR shX S) (h : M_X9_next S = some (r, S')) : zV shX yX9_next cX9_next 2 6 [aR 40] S S' := by
  refine zV_of (by decide +kernel) (Nat.le_of_ble_eq_true rfl) (fun z hz hN hF => ?_)
  have hz : zO z cX9_next RX9 6 shX := hz
  show zA z 0 [(0, aR 40)] [] S
  unfold M_X9_next at h
  refine TL_X9_next_0 hz hN hF ?_ zBig hW h
  · clear h 
    intro S9 hW9 h
    exact TJ_X9_next_38 hz hN hF hW9 h
def M_X9_rewind (S : HS) : zO2 :=
  zs (up S 40 2 0) fun S1 =>
  zb (M_X9_next S1) fun _ S3 =>
  some (0, S3)
set_option maxHeartbeats 4000000 in
set_option maxRecDepth 20000 in
theorem T_X9_rewind {S S' : HS} {r : Int} (hW : WR shX S) (h : M_X9_rewind S = some (r, S')) : zV shX yX9_rewind cX9_rewind 1 7 [aR 40] S S' := by
  refine zV_of (by decide +kernel) (Nat.le_of_ble_eq_true rfl) (fun z hz hN hF => ?_)
  have hz : zO z cX9_rewind RX9 7 shX := hz
  show zA z 0 [(0, aR 40)] [] S
  unfold M_X9_rewind at h
  refine s_aload_n 0 hz dX9_rewind_0 rfl ?_
  refine s_iconst hz dX9_rewind_1 ?_
  obtain ⟨S1, eS1, h⟩ := zs_ex h
  have hW1 : WR shX S1 := by rw [eS1]; exact hW.up (i := 2) sx40 (v := 0) rl_0
  refine s_putI (kz := 2) 2 hz fp_X9_19 sx40 rfl rfl dX9_rewind_2 ?_
  rw [← eS1]
  refine s_aload_n 0 hz dX9_rewind_5 rfl ?_
  obtain ⟨r2, S3, hc3, h⟩ := zb_of h
  refine s_callVv [] [] hz ml_X9_22 sv_yX9_next (T_X9_next hW1 hc3) (by decide) rfl sx40 rfl rfl (Nat.le_of_ble_eq_true rfl) dX9_rewind_6 (fun hW3 => ?_)
  exact s_vret h hz hF hW3 dX9_rewind_9
def M_X7_put (a1 : Int) (S : HS) : zO2 :=
  if 1000 ≤ S 42 3 then (
    some (0, S))
  else (
    zg ((0 : Int) ≤ S 42 3 ∧ S 42 3 < 1000) <|
    zs (up S 43 (S 42 3) a1) fun S3 =>
    zl ((S3 42 3) + 1) fun x4 =>
    zs (up S3 42 3 x4) fun S5 =>
    some (0, S5))
set_option maxHeartbeats 4000000 in
set_option maxRecDepth 20000 in
theorem T_X7_put {a1 : Int} {S S' : HS} {r : Int} (ra1 : rng a1) (hW : WR shX S) (h : M_X7_put a1 S = some (r, S')) : zV shX yX7_put cX7_put 2 1 [aR 42, aI a1] S S' := by
  refine zV_of (by decide +kernel) (Nat.le_of_ble_eq_true rfl) (fun z hz hN hF => ?_)
  have hz : zO z cX7_put RX7 1 shX := hz
  show zA z 0 [(0, aR 42), (1, aI a1)] [] S
  unfold M_X7_put at h
  refine s_aload_n 0 hz dX7_put_0 rfl ?_
  refine s_getI (kz := 3) 3 hz fl_X7_22 sx42 rfl rfl dX7_put_1 ?_
  refine s_sipush hz dX7_put_4 sp_1000 ?_
  refine s_icmp_ge 30 hz (hW 42 _ sx42 3) rl_1000 dX7_put_7 rfl (fun c1 => ?_) (fun c1 => ?_)
  · have h := zif_t c1 h
    exact s_vret h hz hF hW dX7_put_30
  · have h := zif_f c1 h
    refine s_aload_n 0 hz dX7_put_10 rfl ?_
    refine s_getR 1 hz fl_X7_9 sx42 rfl (by decide) dX7_put_11 ?_
    refine s_aload_n 0 hz dX7_put_14 rfl ?_
    refine s_getI (kz := 3) 3 hz fl_X7_22 sx42 rfl rfl dX7_put_15 ?_
    refine s_iload_n 1 hz dX7_put_18 rfl ?_
    obtain ⟨g2, h⟩ := zg_of h
    obtain ⟨S3, eS3, h⟩ := zs_ex h
    have hW3 : WR shX S3 := by rw [eS3]; exact hW.up (i := (S 42 3)) sx43 (v := a1) ra1
    refine s_iast hz sx43 rfl (by decide) g2 dX7_put_19 ?_
    rw [← eS3]
    refine s_aload_n 0 hz dX7_put_20 rfl ?_
    refine s_dup hz rfl dX7_put_21 ?_
    refine s_getI (kz := 3) 3 hz fl_X7_22 sx42 rfl rfl dX7_put_22 ?_
    refine s_iconst hz dX7_put_25 ?_
    refine s_iadd hz dX7_put_26 ?_
    obtain ⟨x4, ex4, rx4, h⟩ := zl_ex h
    rw [← ex4]
    obtain ⟨S5, eS5, h⟩ := zs_ex h
    have hW5 : WR shX S5 := by rw [eS5]; exact hW3.up (i := 3) sx42 (v := x4) rx4
    refine s_putI (kz := 3) 3 hz fp_X7_22 sx42 rfl rfl dX7_put_27 ?_
    rw [← eS5]
    exact s_vret h hz hF hW5 dX7_put_30
def M_X7_tellFault (a1 : Int) (S : HS) : zO2 :=
  if S 42 5 = 0 then (
    zl (a1 + (16 * (S 40 4))) fun x2 =>
    zs (up S 42 5 x2) fun S3 =>
    some (0, S3))
  else (
    some (0, S))
set_option maxHeartbeats 4000000 in
set_option maxRecDepth 20000 in
theorem T_X7_tellFault {a1 : Int} {S S' : HS} {r : Int} (ra1 : rng a1) (hW : WR shX S) (h : M_X7_tellFault a1 S = some (r, S')) : zV shX yX7_tellFault cX7_tellFault 2 1 [aR 42, aI a1] S S' := by
  refine zV_of (by decide +kernel) (Nat.le_of_ble_eq_true rfl) (fun z hz hN hF => ?_)
  have hz : zO z cX7_tellFault RX7 1 shX := hz
  show zA z 0 [(0, aR 42), (1, aI a1)] [] S
  unfold M_X7_tellFault at h
  refine s_aload_n 0 hz dX7_tellFault_0 rfl ?_
  refine s_getI (kz := 5) 5 hz fl_X7_29 sx42 rfl rfl dX7_tellFault_1 ?_
  refine s_if_ne 23 hz (hW 42 _ sx42 5) dX7_tellFault_4 rfl (fun c1 => ?_) (fun c1 => ?_)
  · have h := zif_f c1 h
    exact s_vret h hz hF hW dX7_tellFault_23
  · have h := zif_t c1 h
    refine s_aload_n 0 hz dX7_tellFault_7 rfl ?_
    refine s_iload_n 1 hz dX7_tellFault_8 rfl ?_
    refine s_bipush hz dX7_tellFault_9 bp_16 ?_
    refine s_aload_n 0 hz dX7_tellFault_11 rfl ?_
    refine s_getR 0 hz fl_X7_18 sx42 rfl (by decide) dX7_tellFault_12 ?_
    refine s_getI (kz := 4) 4 hz fl_X7_76 sx40 rfl rfl dX7_tellFault_15 ?_
    refine s_imul hz dX7_tellFault_18 ?_
    refine s_iadd hz dX7_tellFault_19 ?_
    obtain ⟨x2, ex2, rx2, h⟩ := zl_ex h
    rw [← ex2]
    obtain ⟨S3, eS3, h⟩ := zs_ex h
    have hW3 : WR shX S3 := by rw [eS3]; exact hW.up (i := 5) sx42 (v := x2) rx2
    refine s_putI (kz := 5) 5 hz fp_X7_29 sx42 rfl rfl dX7_tellFault_20 ?_
    rw [← eS3]
    exact s_vret h hz hF hW3 dX7_tellFault_23
def J_X7_readNumber_47 (S : HS) : zO2 :=
  if S 42 5 = 0 then (
    zb (M_X7_put (S 40 5) S) fun _ S7 =>
    zb (M_X9_next S7) fun _ S9 =>
    some (0, S9))
  else (
    some (0, S))
set_option maxHeartbeats 4000000 in
set_option maxRecDepth 20000 in
theorem TJ_X7_readNumber_47 {S : HS} {r : Int} {S' : HS} {z : Zt} (hz : zO z cX7_readNumber RX7 7 shX) (hN : zN z 3) (hF : zFv z shX S') (hW : WR shX S) (h : J_X7_readNumber_47 S = some (r, S')) : zA z 47 [(0, aR 42)] [] S := by
  unfold J_X7_readNumber_47 at h
  refine s_aload_n 0 hz dX7_readNumber_47 rfl ?_
  refine s_getI (kz := 5) 5 hz fl_X7_29 sx42 rfl rfl dX7_readNumber_48 ?_
  refine s_if_ne 72 hz (hW 42 _ sx42 5) dX7_readNumber_51 rfl (fun c5 => ?_) (fun c5 => ?_)
  · have h := zif_f c5 h
    exact s_vret h hz hF hW dX7_readNumber_72
  · have h := zif_t c5 h
    refine s_aload_n 0 hz dX7_readNumber_54 rfl ?_
    refine s_aload_n 0 hz dX7_readNumber_55 rfl ?_
    refine s_getR 0 hz fl_X7_18 sx42 rfl (by decide) dX7_readNumber_56 ?_
    refine s_getI (kz := 5) 5 hz fl_X7_73 sx40 rfl rfl dX7_readNumber_59 ?_
    obtain ⟨r6, S7, hc7, h⟩ := zb_of h
    refine s_callVv [aI (S 40 5)] [] hz ml_X7_54 sv_yX7_put (T_X7_put (hW 40 _ sx40 5) hW hc7) (by decide) rfl sx42 rfl rfl (Nat.le_of_ble_eq_true rfl) dX7_readNumber_62 (fun hW7 => ?_)
    refine s_aload_n 0 hz dX7_readNumber_65 rfl ?_
    refine s_getR 0 hz fl_X7_18 sx42 rfl (by decide) dX7_readNumber_66 ?_
    obtain ⟨r8, S9, hc9, h⟩ := zb_of h
    refine s_callVv [] [] hz ml_X7_57 sv_yX9_next (T_X9_next hW7 hc9) (by decide) rfl sx40 rfl rfl (Nat.le_of_ble_eq_true rfl) dX7_readNumber_69 (fun hW9 => ?_)
    exact s_vret h hz hF hW9 dX7_readNumber_72
def J_X7_readNumber_42 (S : HS) : zO2 :=
  zb (M_X7_tellFault 4 S) fun _ S4 =>
  J_X7_readNumber_47 S4
set_option maxHeartbeats 4000000 in
set_option maxRecDepth 20000 in
theorem TJ_X7_readNumber_42 {S : HS} {r : Int} {S' : HS} {z : Zt} (hz : zO z cX7_readNumber RX7 7 shX) (hN : zN z 3) (hF : zFv z shX S') (hW : WR shX S) (h : J_X7_readNumber_42 S = some (r, S')) : zA z 42 [(0, aR 42)] [] S := by
  unfold J_X7_readNumber_42 at h
  refine s_aload_n 0 hz dX7_readNumber_42 rfl ?_
  refine s_iconst hz dX7_readNumber_43 ?_
  obtain ⟨r3, S4, hc4, h⟩ := zb_of h
  refine s_callVv [aI 4] [] hz ml_X7_50 sv_yX7_tellFault (T_X7_tellFault rl_4 hW hc4) (by decide) rfl sx42 rfl rfl (Nat.le_of_ble_eq_true rfl) dX7_readNumber_44 (fun hW4 => ?_)
  exact TJ_X7_readNumber_47 hz hN hF hW4 h
def M_X7_readNumber (a1 : Int) (a2 : Int) (S : HS) : zO2 :=
  if S 40 3 = 8 then (
    if S 40 5 < a1 then (
      J_X7_readNumber_42 S)
    else (
      if S 40 5 ≤ a2 then (
        J_X7_readNumber_47 S)
      else (
        J_X7_readNumber_42 S)))
  else (
    zb (M_X7_tellFault 1 S) fun _ S12 =>
    J_X7_readNumber_47 S12)
set_option maxHeartbeats 4000000 in
set_option maxRecDepth 20000 in
theorem T_X7_readNumber {a1 : Int} {a2 : Int} {S S' : HS} {r : Int} (ra1 : rng a1) (ra2 : rng a2) (hW : WR shX S) (h : M_X7_readNumber a1 a2 S = some (r, S')) : zV shX yX7_readNumber cX7_readNumber 3 7 [aR 42, aI a1, aI a2] S S' := by
  refine zV_of (by decide +kernel) (Nat.le_of_ble_eq_true rfl) (fun z hz hN hF => ?_)
  have hz : zO z cX7_readNumber RX7 7 shX := hz
  show zA z 0 [(0, aR 42), (1, aI a1), (2, aI a2)] [] S
  unfold M_X7_readNumber at h
  refine s_aload_n 0 hz dX7_readNumber_0 rfl ?_
  refine s_getR 0 hz fl_X7_18 sx42 rfl (by decide) dX7_readNumber_1 ?_
  refine s_getI (kz := 3) 3 hz fl_X7_37 sx40 rfl rfl dX7_readNumber_4 ?_
  refine s_bipush hz dX7_readNumber_7 bp_8 ?_
  refine s_icmp_eq 20 hz (hW 40 _ sx40 3) rl_8 dX7_readNumber_9 rfl (fun c1 => ?_) (fun c1 => ?_)
  · have h := zif_t c1 h
    refine s_aload_n 0 hz dX7_readNumber_20 rfl ?_
    refine s_getR 0 hz fl_X7_18 sx42 rfl (by decide) dX7_readNumber_21 ?_
    refine s_getI (kz := 5) 5 hz fl_X7_73 sx40 rfl rfl dX7_readNumber_24 ?_
    refine s_iload_n 1 hz dX7_readNumber_27 rfl ?_
    refine s_icmp_lt 42 hz (hW 40 _ sx40 5) ra1 dX7_readNumber_28 rfl (fun c2 => ?_) (fun c2 => ?_)
    · have h := zif_t c2 h
      refine s_pick (l' := [(0, aR 42)]) [0] rfl ?_
      exact TJ_X7_readNumber_42 hz hN hF hW h
    · have h := zif_f c2 h
      refine s_aload_n 0 hz dX7_readNumber_31 rfl ?_
      refine s_getR 0 hz fl_X7_18 sx42 rfl (by decide) dX7_readNumber_32 ?_
      refine s_getI (kz := 5) 5 hz fl_X7_73 sx40 rfl rfl dX7_readNumber_35 ?_
      refine s_iload_n 2 hz dX7_readNumber_38 rfl ?_
      refine s_icmp_le 47 hz (hW 40 _ sx40 5) ra2 dX7_readNumber_39 rfl (fun c10 => ?_) (fun c10 => ?_)
      · have h := zif_t c10 h
        refine s_pick (l' := [(0, aR 42)]) [0] rfl ?_
        exact TJ_X7_readNumber_47 hz hN hF hW h
      · have h := zif_f c10 h
        refine s_pick (l' := [(0, aR 42)]) [0] rfl ?_
        exact TJ_X7_readNumber_42 hz hN hF hW h
  · have h := zif_f c1 h
    refine s_aload_n 0 hz dX7_readNumber_12 rfl ?_
    refine s_iconst hz dX7_readNumber_13 ?_
    obtain ⟨r11, S12, hc12, h⟩ := zb_of h
    refine s_callVv [aI 1] [] hz ml_X7_50 sv_yX7_tellFault (T_X7_tellFault rl_1 hW hc12) (by decide) rfl sx42 rfl rfl (Nat.le_of_ble_eq_true rfl) dX7_readNumber_14 (fun hW12 => ?_)
    refine s_goto 47 hz dX7_readNumber_17 rfl ?_
    refine s_pick (l' := [(0, aR 42)]) [0] rfl ?_
    exact TJ_X7_readNumber_47 hz hN hF hW12 h
def J_X7_readWay_16 (S : HS) : zO2 :=
  if S 42 5 = 0 then (
    zb (M_X7_put (S 40 3) S) fun _ S4 =>
    zb (M_X9_next S4) fun _ S6 =>
    zb (M_X7_readNumber 0 16 S6) fun _ S8 =>
    some (0, S8))
  else (
    some (0, S))
set_option maxHeartbeats 4000000 in
set_option maxRecDepth 20000 in
theorem TJ_X7_readWay_16 {S : HS} {r : Int} {S' : HS} {z : Zt} (hz : zO z cX7_readWay RX7 8 shX) (hN : zN z 1) (hF : zFv z shX S') (hW : WR shX S) (h : J_X7_readWay_16 S = some (r, S')) : zA z 16 [(0, aR 42)] [] S := by
  unfold J_X7_readWay_16 at h
  refine s_aload_n 0 hz dX7_readWay_16 rfl ?_
  refine s_getI (kz := 5) 5 hz fl_X7_29 sx42 rfl rfl dX7_readWay_17 ?_
  refine s_if_ne 48 hz (hW 42 _ sx42 5) dX7_readWay_20 rfl (fun c2 => ?_) (fun c2 => ?_)
  · have h := zif_f c2 h
    exact s_vret h hz hF hW dX7_readWay_48
  · have h := zif_t c2 h
    refine s_aload_n 0 hz dX7_readWay_23 rfl ?_
    refine s_aload_n 0 hz dX7_readWay_24 rfl ?_
    refine s_getR 0 hz fl_X7_18 sx42 rfl (by decide) dX7_readWay_25 ?_
    refine s_getI (kz := 3) 3 hz fl_X7_37 sx40 rfl rfl dX7_readWay_28 ?_
    obtain ⟨r3, S4, hc4, h⟩ := zb_of h
    refine s_callVv [aI (S 40 3)] [] hz ml_X7_54 sv_yX7_put (T_X7_put (hW 40 _ sx40 3) hW hc4) (by decide) rfl sx42 rfl rfl (Nat.le_of_ble_eq_true rfl) dX7_readWay_31 (fun hW4 => ?_)
    refine s_aload_n 0 hz dX7_readWay_34 rfl ?_
    refine s_getR 0 hz fl_X7_18 sx42 rfl (by decide) dX7_readWay_35 ?_
    obtain ⟨r5, S6, hc6, h⟩ := zb_of h
    refine s_callVv [] [] hz ml_X7_57 sv_yX9_next (T_X9_next hW4 hc6) (by decide) rfl sx40 rfl rfl (Nat.le_of_ble_eq_true rfl) dX7_readWay_38 (fun hW6 => ?_)
    refine s_aload_n 0 hz dX7_readWay_41 rfl ?_
    refine s_iconst hz dX7_readWay_42 ?_
    refine s_bipush hz dX7_readWay_43 bp_16 ?_
    obtain ⟨r7, S8, hc8, h⟩ := zb_of h
    refine s_callVv [aI 0, aI 16] [] hz ml_X7_60 sv_yX7_readNumber (T_X7_readNumber rl_0 rl_16 hW6 hc8) (by decide) rfl sx42 rfl rfl (Nat.le_of_ble_eq_true rfl) dX7_readWay_45 (fun hW8 => ?_)
    exact s_vret h hz hF hW8 dX7_readWay_48
def M_X7_readWay (S : HS) : zO2 :=
  if S 40 3 < 4 then (
    J_X7_readWay_16 S)
  else (
    zb (M_X7_tellFault 1 S) fun _ S10 =>
    J_X7_readWay_16 S10)
set_option maxHeartbeats 4000000 in
set_option maxRecDepth 20000 in
theorem T_X7_readWay {S S' : HS} {r : Int} (hW : WR shX S) (h : M_X7_readWay S = some (r, S')) : zV shX yX7_readWay cX7_readWay 1 8 [aR 42] S S' := by
  refine zV_of (by decide +kernel) (Nat.le_of_ble_eq_true rfl) (fun z hz hN hF => ?_)
  have hz : zO z cX7_readWay RX7 8 shX := hz
  show zA z 0 [(0, aR 42)] [] S
  unfold M_X7_readWay at h
  refine s_aload_n 0 hz dX7_readWay_0 rfl ?_
  refine s_getR 0 hz fl_X7_18 sx42 rfl (by decide) dX7_readWay_1 ?_
  refine s_getI (kz := 3) 3 hz fl_X7_37 sx40 rfl rfl dX7_readWay_4 ?_
  refine s_iconst hz dX7_readWay_7 ?_
  refine s_icmp_lt 16 hz (hW 40 _ sx40 3) rl_4 dX7_readWay_8 rfl (fun c1 => ?_) (fun c1 => ?_)
  · have h := zif_t c1 h
    exact TJ_X7_readWay_16 hz hN hF hW h
  · have h := zif_f c1 h
    refine s_aload_n 0 hz dX7_readWay_11 rfl ?_
    refine s_iconst hz dX7_readWay_12 ?_
    obtain ⟨r9, S10, hc10, h⟩ := zb_of h
    refine s_callVv [aI 1] [] hz ml_X7_50 sv_yX7_tellFault (T_X7_tellFault rl_1 hW hc10) (by decide) rfl sx42 rfl rfl (Nat.le_of_ble_eq_true rfl) dX7_readWay_13 (fun hW10 => ?_)
    exact TJ_X7_readWay_16 hz hN hF hW10 h
def J_X7_expect_16 (S : HS) : zO2 :=
  if S 42 5 = 0 then (
    zb (M_X9_next S) fun _ S4 =>
    some (0, S4))
  else (
    some (0, S))
set_option maxHeartbeats 4000000 in
set_option maxRecDepth 20000 in
theorem TJ_X7_expect_16 {S : HS} {r : Int} {S' : HS} {z : Zt} (hz : zO z cX7_expect RX7 7 shX) (hN : zN z 2) (hF : zFv z shX S') (hW : WR shX S) (h : J_X7_expect_16 S = some (r, S')) : zA z 16 [(0, aR 42)] [] S := by
  unfold J_X7_expect_16 at h
  refine s_aload_n 0 hz dX7_expect_16 rfl ?_
  refine s_getI (kz := 5) 5 hz fl_X7_29 sx42 rfl rfl dX7_expect_17 ?_
  refine s_if_ne 30 hz (hW 42 _ sx42 5) dX7_expect_20 rfl (fun c2 => ?_) (fun c2 => ?_)
  · have h := zif_f c2 h
    exact s_vret h hz hF hW dX7_expect_30
  · have h := zif_t c2 h
    refine s_aload_n 0 hz dX7_expect_23 rfl ?_
    refine s_getR 0 hz fl_X7_18 sx42 rfl (by decide) dX7_expect_24 ?_
    obtain ⟨r3, S4, hc4, h⟩ := zb_of h
    refine s_callVv [] [] hz ml_X7_57 sv_yX9_next (T_X9_next hW hc4) (by decide) rfl sx40 rfl rfl (Nat.le_of_ble_eq_true rfl) dX7_expect_27 (fun hW4 => ?_)
    exact s_vret h hz hF hW4 dX7_expect_30
def M_X7_expect (a1 : Int) (S : HS) : zO2 :=
  if S 40 3 = a1 then (
    J_X7_expect_16 S)
  else (
    zb (M_X7_tellFault 1 S) fun _ S6 =>
    J_X7_expect_16 S6)
set_option maxHeartbeats 4000000 in
set_option maxRecDepth 20000 in
theorem T_X7_expect {a1 : Int} {S S' : HS} {r : Int} (ra1 : rng a1) (hW : WR shX S) (h : M_X7_expect a1 S = some (r, S')) : zV shX yX7_expect cX7_expect 2 7 [aR 42, aI a1] S S' := by
  refine zV_of (by decide +kernel) (Nat.le_of_ble_eq_true rfl) (fun z hz hN hF => ?_)
  have hz : zO z cX7_expect RX7 7 shX := hz
  show zA z 0 [(0, aR 42), (1, aI a1)] [] S
  unfold M_X7_expect at h
  refine s_aload_n 0 hz dX7_expect_0 rfl ?_
  refine s_getR 0 hz fl_X7_18 sx42 rfl (by decide) dX7_expect_1 ?_
  refine s_getI (kz := 3) 3 hz fl_X7_37 sx40 rfl rfl dX7_expect_4 ?_
  refine s_iload_n 1 hz dX7_expect_7 rfl ?_
  refine s_icmp_eq 16 hz (hW 40 _ sx40 3) ra1 dX7_expect_8 rfl (fun c1 => ?_) (fun c1 => ?_)
  · have h := zif_t c1 h
    refine s_pick (l' := [(0, aR 42)]) [0] rfl ?_
    exact TJ_X7_expect_16 hz hN hF hW h
  · have h := zif_f c1 h
    refine s_aload_n 0 hz dX7_expect_11 rfl ?_
    refine s_iconst hz dX7_expect_12 ?_
    obtain ⟨r5, S6, hc6, h⟩ := zb_of h
    refine s_callVv [aI 1] [] hz ml_X7_50 sv_yX7_tellFault (T_X7_tellFault rl_1 hW hc6) (by decide) rfl sx42 rfl rfl (Nat.le_of_ble_eq_true rfl) dX7_expect_13 (fun hW6 => ?_)
    refine s_pick (l' := [(0, aR 42)]) [0] rfl ?_
    exact TJ_X7_expect_16 hz hN hF hW6 h
def L_X7_readLine_47 (k84 : Int → HS → zO2) (p3 : Int) : Nat → Int → HS → zO2
  | 0, _, _ => none
  | n + 1, v4, S => 
    if 1000 < v4 then (
      k84 v4 S)
    else (
      if S 42 5 = 0 then (
        if S 40 3 = 11 then (
          k84 v4 S)
        else (
          zb (M_X7_readWay S) fun _ S17 =>
          zl (v4 + 1) fun x18 =>
          L_X7_readLine_47 k84 p3 n x18 S17))
      else (
        k84 v4 S))
set_option maxHeartbeats 4000000 in
set_option maxRecDepth 20000 in
theorem TL_X7_readLine_47 {k84 : Int → HS → zO2} {p3 : Int} {r : Int} {S' : HS} {z : Zt} (hz : zO z cX7_readLine RX7 9 shX) (hN : zN z 5) (hF : zFv z shX S') (hk84 : ∀ (w4 : Int) (S : HS), rng w4 → WR shX S → k84 w4 S = some (r, S') → zA z 84 [(0, aR 42), (3, aI p3), (4, aI w4)] [] S) (rp3 : rng p3) : ∀ (n : Nat) {v4 : Int} {S : HS}, rng v4 → WR shX S → L_X7_readLine_47 k84 p3 n v4 S = some (r, S') → zA z 47 [(0, aR 42), (3, aI p3), (4, aI v4)] [] S := by
  intro n
  induction n with
  | zero =>
    intro _ _ _ _ h
    cases h
  | succ n ih =>
    intro v4 S rv4 hW h
    rw [L_X7_readLine_47.eq_2] at h
    refine s_iload 2 hz dX7_readLine_47 rfl ?_
    refine s_sipush hz dX7_readLine_49 sp_1000 ?_
    refine s_icmp_gt 84 hz rv4 rl_1000 dX7_readLine_52 rfl (fun c13 => ?_) (fun c13 => ?_)
    · have h := zif_t c13 h
      exact hk84 _ _ rv4 hW h
    · have h := zif_f c13 h
      refine s_aload_n 0 hz dX7_readLine_55 rfl ?_
      refine s_getI (kz := 5) 5 hz fl_X7_29 sx42 rfl rfl dX7_readLine_56 ?_
      refine s_if_ne 84 hz (hW 42 _ sx42 5) dX7_readLine_59 rfl (fun c14 => ?_) (fun c14 => ?_)
      · have h := zif_f c14 h
        exact hk84 _ _ rv4 hW h
      · have h := zif_t c14 h
        refine s_aload_n 0 hz dX7_readLine_62 rfl ?_
        refine s_getR 0 hz fl_X7_18 sx42 rfl (by decide) dX7_readLine_63 ?_
        refine s_getI (kz := 3) 3 hz fl_X7_37 sx40 rfl rfl dX7_readLine_66 ?_
        refine s_bipush hz dX7_readLine_69 bp_11 ?_
        refine s_icmp_eq 84 hz (hW 40 _ sx40 3) rl_11 dX7_readLine_71 rfl (fun c15 => ?_) (fun c15 => ?_)
        · have h := zif_t c15 h
          exact hk84 _ _ rv4 hW h
        · have h := zif_f c15 h
          refine s_aload_n 0 hz dX7_readLine_74 rfl ?_
          obtain ⟨r16, S17, hc17, h⟩ := zb_of h
          refine s_callVv [] [] hz ml_X7_63 sv_yX7_readWay (T_X7_readWay hW hc17) (by decide) rfl sx42 rfl rfl (Nat.le_of_ble_eq_true rfl) dX7_readLine_75 (fun hW17 => ?_)
          obtain ⟨x18, ex18, rx18, h⟩ := zl_ex h
          refine s_iinc (k0 := 2) (y := x18) (l' := [(4, aI x18), (0, aR 42), (3, aI p3)]) hz hN dX7_readLine_78 rfl ex18.symm (by decide) rfl ?_
          refine s_goto 47 hz dX7_readLine_81 rfl ?_
          refine s_pick (l' := [(0, aR 42), (3, aI p3), (4, aI x18)]) [1, 2, 0] rfl ?_
          exact ih rx18 hW17 h
def J_X7_readLine_99 (S : HS) : zO2 :=
  zb (M_X7_expect 11 S) fun _ S22 =>
  some (0, S22)
set_option maxHeartbeats 4000000 in
set_option maxRecDepth 20000 in
theorem TJ_X7_readLine_99 {S : HS} {r : Int} {S' : HS} {z : Zt} (hz : zO z cX7_readLine RX7 9 shX) (hN : zN z 5) (hF : zFv z shX S') (hW : WR shX S) (h : J_X7_readLine_99 S = some (r, S')) : zA z 99 [(0, aR 42)] [] S := by
  unfold J_X7_readLine_99 at h
  refine s_aload_n 0 hz dX7_readLine_99 rfl ?_
  refine s_bipush hz dX7_readLine_100 bp_11 ?_
  obtain ⟨r21, S22, hc22, h⟩ := zb_of h
  refine s_callVv [aI 11] [] hz ml_X7_66 sv_yX7_expect (T_X7_expect rl_11 hW hc22) (by decide) rfl sx42 rfl rfl (Nat.le_of_ble_eq_true rfl) dX7_readLine_102 (fun hW22 => ?_)
  exact s_vret h hz hF hW22 dX7_readLine_105
def J_X7_readLine_84 (v3 : Int) (v4 : Int) (S : HS) : zO2 :=
  if 1000 ≤ v3 then (
    J_X7_readLine_99 S)
  else (
    zg ((0 : Int) ≤ v3 ∧ v3 < 1000) <|
    zs (up S 43 v3 v4) fun S24 =>
    J_X7_readLine_99 S24)
set_option maxHeartbeats 4000000 in
set_option maxRecDepth 20000 in
theorem TJ_X7_readLine_84 {v3 : Int} {v4 : Int} {S : HS} {r : Int} {S' : HS} {z : Zt} (hz : zO z cX7_readLine RX7 9 shX) (hN : zN z 5) (hF : zFv z shX S') (rv3 : rng v3) (rv4 : rng v4) (hW : WR shX S) (h : J_X7_readLine_84 v3 v4 S = some (r, S')) : zA z 84 [(0, aR 42), (3, aI v3), (4, aI v4)] [] S := by
  unfold J_X7_readLine_84 at h
  refine s_iload_n 1 hz dX7_readLine_84 rfl ?_
  refine s_sipush hz dX7_readLine_85 sp_1000 ?_
  refine s_icmp_ge 99 hz rv3 rl_1000 dX7_readLine_88 rfl (fun c20 => ?_) (fun c20 => ?_)
  · have h := zif_t c20 h
    refine s_pick (l' := [(0, aR 42)]) [0] rfl ?_
    exact TJ_X7_readLine_99 hz hN hF hW h
  · have h := zif_f c20 h
    refine s_aload_n 0 hz dX7_readLine_91 rfl ?_
    refine s_getR 1 hz fl_X7_9 sx42 rfl (by decide) dX7_readLine_92 ?_
    refine s_iload_n 1 hz dX7_readLine_95 rfl ?_
    refine s_iload 2 hz dX7_readLine_96 rfl ?_
    obtain ⟨g23, h⟩ := zg_of h
    obtain ⟨S24, eS24, h⟩ := zs_ex h
    have hW24 : WR shX S24 := by rw [eS24]; exact hW.up (i := v3) sx43 (v := v4) rv4
    refine s_iast hz sx43 rfl (by decide) g23 dX7_readLine_98 ?_
    rw [← eS24]
    refine s_pick (l' := [(0, aR 42)]) [0] rfl ?_
    exact TJ_X7_readLine_99 hz hN hF hW24 h
def M_X7_readLine (a1 : Int) (a2 : Int) (S : HS) : zO2 :=
  zb (M_X7_put (S 40 3) S) fun _ S2 =>
  zb (M_X9_next S2) fun _ S4 =>
  zb (M_X7_readNumber 0 a1 S4) fun _ S6 =>
  zb (M_X7_readNumber 0 a2 S6) fun _ S8 =>
  zb (M_X7_put 0 S8) fun _ S10 =>
  zb (M_X7_readWay S10) fun _ S12 =>
  L_X7_readLine_47 (fun e4 S19 =>
      J_X7_readLine_84 (S8 42 3) e4 S19) (S8 42 3) zBig 1 S12
set_option maxHeartbeats 4000000 in
set_option maxRecDepth 20000 in
theorem T_X7_readLine {a1 : Int} {a2 : Int} {S S' : HS} {r : Int} (ra1 : rng a1) (ra2 : rng a2) (hW : WR shX S) (h : M_X7_readLine a1 a2 S = some (r, S')) : zV shX yX7_readLine cX7_readLine 5 9 [aR 42, aI a1, aI a2] S S' := by
  refine zV_of (by decide +kernel) (Nat.le_of_ble_eq_true rfl) (fun z hz hN hF => ?_)
  have hz : zO z cX7_readLine RX7 9 shX := hz
  show zA z 0 [(0, aR 42), (1, aI a1), (2, aI a2)] [] S
  unfold M_X7_readLine at h
  refine s_aload_n 0 hz dX7_readLine_0 rfl ?_
  refine s_aload_n 0 hz dX7_readLine_1 rfl ?_
  refine s_getR 0 hz fl_X7_18 sx42 rfl (by decide) dX7_readLine_2 ?_
  refine s_getI (kz := 3) 3 hz fl_X7_37 sx40 rfl rfl dX7_readLine_5 ?_
  obtain ⟨r1, S2, hc2, h⟩ := zb_of h
  refine s_callVv [aI (S 40 3)] [] hz ml_X7_54 sv_yX7_put (T_X7_put (hW 40 _ sx40 3) hW hc2) (by decide) rfl sx42 rfl rfl (Nat.le_of_ble_eq_true rfl) dX7_readLine_8 (fun hW2 => ?_)
  refine s_aload_n 0 hz dX7_readLine_11 rfl ?_
  refine s_getR 0 hz fl_X7_18 sx42 rfl (by decide) dX7_readLine_12 ?_
  obtain ⟨r3, S4, hc4, h⟩ := zb_of h
  refine s_callVv [] [] hz ml_X7_57 sv_yX9_next (T_X9_next hW2 hc4) (by decide) rfl sx40 rfl rfl (Nat.le_of_ble_eq_true rfl) dX7_readLine_15 (fun hW4 => ?_)
  refine s_aload_n 0 hz dX7_readLine_18 rfl ?_
  refine s_iconst hz dX7_readLine_19 ?_
  refine s_iload_n 1 hz dX7_readLine_20 rfl ?_
  obtain ⟨r5, S6, hc6, h⟩ := zb_of h
  refine s_callVv [aI 0, aI a1] [] hz ml_X7_60 sv_yX7_readNumber (T_X7_readNumber rl_0 ra1 hW4 hc6) (by decide) rfl sx42 rfl rfl (Nat.le_of_ble_eq_true rfl) dX7_readLine_21 (fun hW6 => ?_)
  refine s_aload_n 0 hz dX7_readLine_24 rfl ?_
  refine s_iconst hz dX7_readLine_25 ?_
  refine s_iload_n 2 hz dX7_readLine_26 rfl ?_
  obtain ⟨r7, S8, hc8, h⟩ := zb_of h
  refine s_callVv [aI 0, aI a2] [] hz ml_X7_60 sv_yX7_readNumber (T_X7_readNumber rl_0 ra2 hW6 hc8) (by decide) rfl sx42 rfl rfl (Nat.le_of_ble_eq_true rfl) dX7_readLine_27 (fun hW8 => ?_)
  refine s_aload_n 0 hz dX7_readLine_30 rfl ?_
  refine s_getI (kz := 3) 3 hz fl_X7_22 sx42 rfl rfl dX7_readLine_31 ?_
  refine s_istore_n (l' := [(3, aI (S8 42 3)), (0, aR 42), (1, aI a1), (2, aI a2)]) hz hN dX7_readLine_34 (by decide) rfl ?_
  refine s_aload_n 1 hz dX7_readLine_35 rfl ?_
  refine s_iconst hz dX7_readLine_36 ?_
  obtain ⟨r9, S10, hc10, h⟩ := zb_of h
  refine s_callVv [aI 0] [] hz ml_X7_54 sv_yX7_put (T_X7_put rl_0 hW8 hc10) (by decide) rfl sx42 rfl rfl (Nat.le_of_ble_eq_true rfl) dX7_readLine_37 (fun hW10 => ?_)
  refine s_aload_n 1 hz dX7_readLine_40 rfl ?_
  obtain ⟨r11, S12, hc12, h⟩ := zb_of h
  refine s_callVv [] [] hz ml_X7_63 sv_yX7_readWay (T_X7_readWay hW10 hc12) (by decide) rfl sx42 rfl rfl (Nat.le_of_ble_eq_true rfl) dX7_readLine_41 (fun hW12 => ?_)
  refine s_iconst hz dX7_readLine_44 ?_
  refine s_istore (l' := [(4, aI 1), (3, aI (S8 42 3)), (0, aR 42), (1, aI a1), (2, aI a2)]) hz hN dX7_readLine_45 (by decide) rfl ?_
  refine s_pick (l' := [(0, aR 42), (3, aI (S8 42 3)), (4, aI 1)]) [2, 1, 0] rfl ?_
  refine TL_X7_readLine_47 hz hN hF ?_ (hW8 42 _ sx42 3) zBig rl_1 hW12 h
  · clear h 
    intro e4 S19 re4 hW19 h
    exact TJ_X7_readLine_84 hz hN hF (hW8 42 _ sx42 3) re4 hW19 h
def J_X7_readOpening_88 (S : HS) : zO2 :=
  zb (M_X7_put 0 S) fun _ S13 =>
  zb (M_X7_expect 9 S13) fun _ S15 =>
  some (0, S15)
set_option maxHeartbeats 4000000 in
set_option maxRecDepth 20000 in
theorem TJ_X7_readOpening_88 {S : HS} {r : Int} {S' : HS} {z : Zt} (hz : zO z cX7_readOpening RX7 9 shX) (hN : zN z 2) (hF : zFv z shX S') (hW : WR shX S) (h : J_X7_readOpening_88 S = some (r, S')) : zA z 88 [(0, aR 42)] [] S := by
  unfold J_X7_readOpening_88 at h
  refine s_aload_n 0 hz dX7_readOpening_88 rfl ?_
  refine s_iconst hz dX7_readOpening_89 ?_
  obtain ⟨r12, S13, hc13, h⟩ := zb_of h
  refine s_callVv [aI 0] [] hz ml_X7_54 sv_yX7_put (T_X7_put rl_0 hW hc13) (by decide) rfl sx42 rfl rfl (Nat.le_of_ble_eq_true rfl) dX7_readOpening_90 (fun hW13 => ?_)
  refine s_aload_n 0 hz dX7_readOpening_93 rfl ?_
  refine s_bipush hz dX7_readOpening_94 bp_9 ?_
  obtain ⟨r14, S15, hc15, h⟩ := zb_of h
  refine s_callVv [aI 9] [] hz ml_X7_66 sv_yX7_expect (T_X7_expect rl_9 hW13 hc15) (by decide) rfl sx42 rfl rfl (Nat.le_of_ble_eq_true rfl) dX7_readOpening_96 (fun hW15 => ?_)
  exact s_vret h hz hF hW15 dX7_readOpening_99
def J_X7_readOpening_54 (t0 : Int) (S : HS) : zO2 :=
  zb (M_X7_put (S 40 3) S) fun _ S8 =>
  zb (M_X9_next S8) fun _ S10 =>
  if t0 = 0 then (
    J_X7_readOpening_88 S10)
  else (
    zb (M_X7_readNumber 1 9 S10) fun _ S17 =>
    zb (M_X7_readWay S17) fun _ S19 =>
    J_X7_readOpening_88 S19)
set_option maxHeartbeats 4000000 in
set_option maxRecDepth 20000 in
theorem TJ_X7_readOpening_54 {t0 : Int} {S : HS} {r : Int} {S' : HS} {z : Zt} (hz : zO z cX7_readOpening RX7 9 shX) (hN : zN z 2) (hF : zFv z shX S') (rt0 : rng t0) (hW : WR shX S) (h : J_X7_readOpening_54 t0 S = some (r, S')) : zA z 54 [(0, aR 42)] [aI t0] S := by
  unfold J_X7_readOpening_54 at h
  refine s_istore_n (l' := [(1, aI t0), (0, aR 42)]) hz hN dX7_readOpening_54 (by decide) rfl ?_
  refine s_aload_n 1 hz dX7_readOpening_55 rfl ?_
  refine s_aload_n 1 hz dX7_readOpening_56 rfl ?_
  refine s_getR 0 hz fl_X7_18 sx42 rfl (by decide) dX7_readOpening_57 ?_
  refine s_getI (kz := 3) 3 hz fl_X7_37 sx40 rfl rfl dX7_readOpening_60 ?_
  obtain ⟨r7, S8, hc8, h⟩ := zb_of h
  refine s_callVv [aI (S 40 3)] [] hz ml_X7_54 sv_yX7_put (T_X7_put (hW 40 _ sx40 3) hW hc8) (by decide) rfl sx42 rfl rfl (Nat.le_of_ble_eq_true rfl) dX7_readOpening_63 (fun hW8 => ?_)
  refine s_aload_n 1 hz dX7_readOpening_66 rfl ?_
  refine s_getR 0 hz fl_X7_18 sx42 rfl (by decide) dX7_readOpening_67 ?_
  obtain ⟨r9, S10, hc10, h⟩ := zb_of h
  refine s_callVv [] [] hz ml_X7_57 sv_yX9_next (T_X9_next hW8 hc10) (by decide) rfl sx40 rfl rfl (Nat.le_of_ble_eq_true rfl) dX7_readOpening_70 (fun hW10 => ?_)
  refine s_iload_n 0 hz dX7_readOpening_73 rfl ?_
  refine s_if_eq 88 hz rt0 dX7_readOpening_74 rfl (fun c11 => ?_) (fun c11 => ?_)
  · have h := zif_t c11 h
    refine s_pick (l' := [(0, aR 42)]) [1] rfl ?_
    exact TJ_X7_readOpening_88 hz hN hF hW10 h
  · have h := zif_f c11 h
    refine s_aload_n 1 hz dX7_readOpening_77 rfl ?_
    refine s_iconst hz dX7_readOpening_78 ?_
    refine s_bipush hz dX7_readOpening_79 bp_9 ?_
    obtain ⟨r16, S17, hc17, h⟩ := zb_of h
    refine s_callVv [aI 1, aI 9] [] hz ml_X7_60 sv_yX7_readNumber (T_X7_readNumber rl_1 rl_9 hW10 hc17) (by decide) rfl sx42 rfl rfl (Nat.le_of_ble_eq_true rfl) dX7_readOpening_81 (fun hW17 => ?_)
    refine s_aload_n 1 hz dX7_readOpening_84 rfl ?_
    obtain ⟨r18, S19, hc19, h⟩ := zb_of h
    refine s_callVv [] [] hz ml_X7_63 sv_yX7_readWay (T_X7_readWay hW17 hc19) (by decide) rfl sx42 rfl rfl (Nat.le_of_ble_eq_true rfl) dX7_readOpening_85 (fun hW19 => ?_)
    refine s_pick (l' := [(0, aR 42)]) [1] rfl ?_
    exact TJ_X7_readOpening_88 hz hN hF hW19 h
def M_X7_readOpening (S : HS) : zO2 :=
  if S 42 4 < 4 then (
    zg ((0 : Int) ≤ S 42 4 ∧ S 42 4 < 4) <|
    zs (up S 44 (S 42 4) (S 42 3)) fun S3 =>
    zl ((S3 42 4) + 1) fun x4 =>
    zs (up S3 42 4 x4) fun S5 =>
    if S5 40 3 = 6 then (
      J_X7_readOpening_54 1 S5)
    else (
      J_X7_readOpening_54 0 S5))
  else (
    zb (M_X7_tellFault 5 S) fun _ S21 =>
    some (0, S21))
set_option maxHeartbeats 4000000 in
set_option maxRecDepth 20000 in
theorem T_X7_readOpening {S S' : HS} {r : Int} (hW : WR shX S) (h : M_X7_readOpening S = some (r, S')) : zV shX yX7_readOpening cX7_readOpening 2 9 [aR 42] S S' := by
  refine zV_of (by decide +kernel) (Nat.le_of_ble_eq_true rfl) (fun z hz hN hF => ?_)
  have hz : zO z cX7_readOpening RX7 9 shX := hz
  show zA z 0 [(0, aR 42)] [] S
  unfold M_X7_readOpening at h
  refine s_aload_n 0 hz dX7_readOpening_0 rfl ?_
  refine s_getI (kz := 4) 4 hz fl_X7_26 sx42 rfl rfl dX7_readOpening_1 ?_
  refine s_iconst hz dX7_readOpening_4 ?_
  refine s_icmp_lt 14 hz (hW 42 _ sx42 4) rl_4 dX7_readOpening_5 rfl (fun c1 => ?_) (fun c1 => ?_)
  · have h := zif_t c1 h
    refine s_aload_n 0 hz dX7_readOpening_14 rfl ?_
    refine s_getR 2 hz fl_X7_15 sx42 rfl (by decide) dX7_readOpening_15 ?_
    refine s_aload_n 0 hz dX7_readOpening_18 rfl ?_
    refine s_getI (kz := 4) 4 hz fl_X7_26 sx42 rfl rfl dX7_readOpening_19 ?_
    refine s_aload_n 0 hz dX7_readOpening_22 rfl ?_
    refine s_getI (kz := 3) 3 hz fl_X7_22 sx42 rfl rfl dX7_readOpening_23 ?_
    obtain ⟨g2, h⟩ := zg_of h
    obtain ⟨S3, eS3, h⟩ := zs_ex h
    have hW3 : WR shX S3 := by rw [eS3]; exact hW.up (i := (S 42 4)) sx44 (v := (S 42 3)) (hW 42 _ sx42 3)
    refine s_iast hz sx44 rfl (by decide) g2 dX7_readOpening_26 ?_
    rw [← eS3]
    refine s_aload_n 0 hz dX7_readOpening_27 rfl ?_
    refine s_dup hz rfl dX7_readOpening_28 ?_
    refine s_getI (kz := 4) 4 hz fl_X7_26 sx42 rfl rfl dX7_readOpening_29 ?_
    refine s_iconst hz dX7_readOpening_32 ?_
    refine s_iadd hz dX7_readOpening_33 ?_
    obtain ⟨x4, ex4, rx4, h⟩ := zl_ex h
    rw [← ex4]
    obtain ⟨S5, eS5, h⟩ := zs_ex h
    have hW5 : WR shX S5 := by rw [eS5]; exact hW3.up (i := 4) sx42 (v := x4) rx4
    refine s_putI (kz := 4) 4 hz fp_X7_26 sx42 rfl rfl dX7_readOpening_34 ?_
    rw [← eS5]
    refine s_aload_n 0 hz dX7_readOpening_37 rfl ?_
    refine s_getR 0 hz fl_X7_18 sx42 rfl (by decide) dX7_readOpening_38 ?_
    refine s_getI (kz := 3) 3 hz fl_X7_37 sx40 rfl rfl dX7_readOpening_41 ?_
    refine s_bipush hz dX7_readOpening_44 bp_6 ?_
    refine s_icmp_ne 53 hz (hW5 40 _ sx40 3) rl_6 dX7_readOpening_46 rfl (fun c6 => ?_) (fun c6 => ?_)
    · have h := zif_f c6 h
      refine s_iconst hz dX7_readOpening_53 ?_
      exact TJ_X7_readOpening_54 hz hN hF rl_0 hW5 h
    · have h := zif_t c6 h
      refine s_iconst hz dX7_readOpening_49 ?_
      refine s_goto 54 hz dX7_readOpening_50 rfl ?_
      exact TJ_X7_readOpening_54 hz hN hF rl_1 hW5 h
  · have h := zif_f c1 h
    refine s_aload_n 0 hz dX7_readOpening_8 rfl ?_
    refine s_iconst hz dX7_readOpening_9 ?_
    obtain ⟨r20, S21, hc21, h⟩ := zb_of h
    refine s_callVv [aI 5] [] hz ml_X7_50 sv_yX7_tellFault (T_X7_tellFault rl_5 hW hc21) (by decide) rfl sx42 rfl rfl (Nat.le_of_ble_eq_true rfl) dX7_readOpening_10 (fun hW21 => ?_)
    exact s_vret h hz hF hW21 dX7_readOpening_13
def J_X7_readClosing_15 (S : HS) : zO2 :=
  zb (M_X7_tellFault 1 S) fun _ S3 =>
  some (0, S3)
set_option maxHeartbeats 4000000 in
set_option maxRecDepth 20000 in
theorem TJ_X7_readClosing_15 {S : HS} {r : Int} {S' : HS} {z : Zt} (hz : zO z cX7_readClosing RX7 8 shX) (hN : zN z 3) (hF : zFv z shX S') (hW : WR shX S) (h : J_X7_readClosing_15 S = some (r, S')) : zA z 15 [(0, aR 42)] [] S := by
  unfold J_X7_readClosing_15 at h
  refine s_aload_n 0 hz dX7_readClosing_15 rfl ?_
  refine s_iconst hz dX7_readClosing_16 ?_
  obtain ⟨r2, S3, hc3, h⟩ := zb_of h
  refine s_callVv [aI 1] [] hz ml_X7_50 sv_yX7_tellFault (T_X7_tellFault rl_1 hW hc3) (by decide) rfl sx42 rfl rfl (Nat.le_of_ble_eq_true rfl) dX7_readClosing_17 (fun hW3 => ?_)
  exact s_vret h hz hF hW3 dX7_readClosing_20
def J_X7_readClosing_70 (v1 : Int) (t0 : Int) (t1 : Int) (S : HS) : zO2 :=
  zl (t1 + t0) fun x15 =>
  zl (x15 + 1) fun x16 =>
  if S 42 3 = x16 then (
    zs (up S 42 3 v1) fun S21 =>
    some (0, S21))
  else (
    if 1000 ≤ x15 then (
      some (0, S))
    else (
      zg ((0 : Int) ≤ x15 ∧ x15 < 1000) <|
      zs (up S 43 x15 (S 42 3)) fun S20 =>
      some (0, S20)))
set_option maxHeartbeats 4000000 in
set_option maxRecDepth 20000 in
theorem TJ_X7_readClosing_70 {v1 : Int} {t0 : Int} {t1 : Int} {S : HS} {r : Int} {S' : HS} {z : Zt} (hz : zO z cX7_readClosing RX7 8 shX) (hN : zN z 3) (hF : zFv z shX S') (rv1 : rng v1) (rt0 : rng t0) (rt1 : rng t1) (hW : WR shX S) (h : J_X7_readClosing_70 v1 t0 t1 S = some (r, S')) : zA z 70 [(0, aR 42), (1, aI v1)] [aI t0, aI t1] S := by
  unfold J_X7_readClosing_70 at h
  refine s_iadd hz dX7_readClosing_70 ?_
  obtain ⟨x15, ex15, rx15, h⟩ := zl_ex h
  rw [← ex15]
  refine s_istore_n (l' := [(2, aI x15), (0, aR 42), (1, aI v1)]) hz hN dX7_readClosing_71 (by decide) rfl ?_
  refine s_aload_n 1 hz dX7_readClosing_72 rfl ?_
  refine s_getI (kz := 3) 3 hz fl_X7_22 sx42 rfl rfl dX7_readClosing_73 ?_
  refine s_iload_n 0 hz dX7_readClosing_76 rfl ?_
  refine s_iconst hz dX7_readClosing_77 ?_
  refine s_iadd hz dX7_readClosing_78 ?_
  obtain ⟨x16, ex16, rx16, h⟩ := zl_ex h
  rw [← ex16]
  refine s_icmp_ne 90 hz (hW 42 _ sx42 3) rx16 dX7_readClosing_79 rfl (fun c17 => ?_) (fun c17 => ?_)
  · have h := zif_f c17 h
    refine s_iload_n 0 hz dX7_readClosing_90 rfl ?_
    refine s_sipush hz dX7_readClosing_91 sp_1000 ?_
    refine s_icmp_ge 107 hz rx15 rl_1000 dX7_readClosing_94 rfl (fun c18 => ?_) (fun c18 => ?_)
    · have h := zif_t c18 h
      exact s_vret h hz hF hW dX7_readClosing_107
    · have h := zif_f c18 h
      refine s_aload_n 1 hz dX7_readClosing_97 rfl ?_
      refine s_getR 1 hz fl_X7_9 sx42 rfl (by decide) dX7_readClosing_98 ?_
      refine s_iload_n 0 hz dX7_readClosing_101 rfl ?_
      refine s_aload_n 1 hz dX7_readClosing_102 rfl ?_
      refine s_getI (kz := 3) 3 hz fl_X7_22 sx42 rfl rfl dX7_readClosing_103 ?_
      obtain ⟨g19, h⟩ := zg_of h
      obtain ⟨S20, eS20, h⟩ := zs_ex h
      have hW20 : WR shX S20 := by rw [eS20]; exact hW.up (i := x15) sx43 (v := (S 42 3)) (hW 42 _ sx42 3)
      refine s_iast hz sx43 rfl (by decide) g19 dX7_readClosing_106 ?_
      rw [← eS20]
      exact s_vret h hz hF hW20 dX7_readClosing_107
  · have h := zif_t c17 h
    refine s_aload_n 1 hz dX7_readClosing_82 rfl ?_
    refine s_iload_n 2 hz dX7_readClosing_83 rfl ?_
    obtain ⟨S21, eS21, h⟩ := zs_ex h
    have hW21 : WR shX S21 := by rw [eS21]; exact hW.up (i := 3) sx42 (v := v1) rv1
    refine s_putI (kz := 3) 3 hz fp_X7_22 sx42 rfl rfl dX7_readClosing_84 ?_
    rw [← eS21]
    refine s_goto 107 hz dX7_readClosing_87 rfl ?_
    exact s_vret h hz hF hW21 dX7_readClosing_107
def M_X7_readClosing (S : HS) : zO2 :=
  if S 42 4 ≤ 0 then (
    J_X7_readClosing_15 S)
  else (
    if S 42 4 ≤ 4 then (
      zb (M_X9_next S) fun _ S6 =>
      zb (M_X7_expect 11 S6) fun _ S8 =>
      zl ((S8 42 4) - 1) fun x9 =>
      zs (up S8 42 4 x9) fun S10 =>
      zg ((0 : Int) ≤ S10 42 4 ∧ S10 42 4 < 4) <|
      zb (M_X7_codeAt (S10 44 (S10 42 4)) S10) fun r12 S13 =>
      if r12 = 6 then (
        J_X7_readClosing_70 (S10 44 (S10 42 4)) 4 (S10 44 (S10 42 4)) S13)
      else (
        J_X7_readClosing_70 (S10 44 (S10 42 4)) 1 (S10 44 (S10 42 4)) S13))
    else (
      J_X7_readClosing_15 S))
set_option maxHeartbeats 4000000 in
set_option maxRecDepth 20000 in
theorem T_X7_readClosing {S S' : HS} {r : Int} (hW : WR shX S) (h : M_X7_readClosing S = some (r, S')) : zV shX yX7_readClosing cX7_readClosing 3 8 [aR 42] S S' := by
  refine zV_of (by decide +kernel) (Nat.le_of_ble_eq_true rfl) (fun z hz hN hF => ?_)
  have hz : zO z cX7_readClosing RX7 8 shX := hz
  show zA z 0 [(0, aR 42)] [] S
  unfold M_X7_readClosing at h
  refine s_aload_n 0 hz dX7_readClosing_0 rfl ?_
  refine s_getI (kz := 4) 4 hz fl_X7_26 sx42 rfl rfl dX7_readClosing_1 ?_
  refine s_if_le 15 hz (hW 42 _ sx42 4) dX7_readClosing_4 rfl (fun c1 => ?_) (fun c1 => ?_)
  · have h := zif_t c1 h
    exact TJ_X7_readClosing_15 hz hN hF hW h
  · have h := zif_f c1 h
    refine s_aload_n 0 hz dX7_readClosing_7 rfl ?_
    refine s_getI (kz := 4) 4 hz fl_X7_26 sx42 rfl rfl dX7_readClosing_8 ?_
    refine s_iconst hz dX7_readClosing_11 ?_
    refine s_icmp_le 21 hz (hW 42 _ sx42 4) rl_4 dX7_readClosing_12 rfl (fun c4 => ?_) (fun c4 => ?_)
    · have h := zif_t c4 h
      refine s_aload_n 0 hz dX7_readClosing_21 rfl ?_
      refine s_getR 0 hz fl_X7_18 sx42 rfl (by decide) dX7_readClosing_22 ?_
      obtain ⟨r5, S6, hc6, h⟩ := zb_of h
      refine s_callVv [] [] hz ml_X7_57 sv_yX9_next (T_X9_next hW hc6) (by decide) rfl sx40 rfl rfl (Nat.le_of_ble_eq_true rfl) dX7_readClosing_25 (fun hW6 => ?_)
      refine s_aload_n 0 hz dX7_readClosing_28 rfl ?_
      refine s_bipush hz dX7_readClosing_29 bp_11 ?_
      obtain ⟨r7, S8, hc8, h⟩ := zb_of h
      refine s_callVv [aI 11] [] hz ml_X7_66 sv_yX7_expect (T_X7_expect rl_11 hW6 hc8) (by decide) rfl sx42 rfl rfl (Nat.le_of_ble_eq_true rfl) dX7_readClosing_31 (fun hW8 => ?_)
      refine s_aload_n 0 hz dX7_readClosing_34 rfl ?_
      refine s_dup hz rfl dX7_readClosing_35 ?_
      refine s_getI (kz := 4) 4 hz fl_X7_26 sx42 rfl rfl dX7_readClosing_36 ?_
      refine s_iconst hz dX7_readClosing_39 ?_
      refine s_isub hz dX7_readClosing_40 ?_
      obtain ⟨x9, ex9, rx9, h⟩ := zl_ex h
      rw [← ex9]
      obtain ⟨S10, eS10, h⟩ := zs_ex h
      have hW10 : WR shX S10 := by rw [eS10]; exact hW8.up (i := 4) sx42 (v := x9) rx9
      refine s_putI (kz := 4) 4 hz fp_X7_26 sx42 rfl rfl dX7_readClosing_41 ?_
      rw [← eS10]
      refine s_aload_n 0 hz dX7_readClosing_44 rfl ?_
      refine s_getR 2 hz fl_X7_15 sx42 rfl (by decide) dX7_readClosing_45 ?_
      refine s_aload_n 0 hz dX7_readClosing_48 rfl ?_
      refine s_getI (kz := 4) 4 hz fl_X7_26 sx42 rfl rfl dX7_readClosing_49 ?_
      obtain ⟨g11, h⟩ := zg_of h
      refine s_iald hz sx44 rfl (by decide) g11 dX7_readClosing_52 ?_
      refine s_istore_n (l' := [(1, aI (S10 44 (S10 42 4))), (0, aR 42)]) hz hN dX7_readClosing_53 (by decide) rfl ?_
      refine s_iload_n 0 hz dX7_readClosing_54 rfl ?_
      refine s_aload_n 1 hz dX7_readClosing_55 rfl ?_
      refine s_iload_n 0 hz dX7_readClosing_56 rfl ?_
      obtain ⟨r12, S13, hc13, h⟩ := zb_of h
      refine s_callV [aI (S10 44 (S10 42 4))] [aI (S10 44 (S10 42 4))] hz ml_X7_69 sv_yX7_codeAt (T_X7_codeAt (hW10 44 _ sx44 (S10 42 4)) hW10 hc13) (by decide) rfl sx42 rfl rfl (Nat.le_of_ble_eq_true rfl) dX7_readClosing_57 (fun rr12 hW13 => ?_)
      refine s_bipush hz dX7_readClosing_60 bp_6 ?_
      refine s_icmp_ne 69 hz rr12 rl_6 dX7_readClosing_62 rfl (fun c14 => ?_) (fun c14 => ?_)
      · have h := zif_f c14 h
        refine s_iconst hz dX7_readClosing_69 ?_
        refine s_pick (l' := [(0, aR 42), (1, aI (S10 44 (S10 42 4)))]) [1, 0] rfl ?_
        exact TJ_X7_readClosing_70 hz hN hF (hW10 44 _ sx44 (S10 42 4)) rl_1 (hW10 44 _ sx44 (S10 42 4)) hW13 h
      · have h := zif_t c14 h
        refine s_iconst hz dX7_readClosing_65 ?_
        refine s_goto 70 hz dX7_readClosing_66 rfl ?_
        refine s_pick (l' := [(0, aR 42), (1, aI (S10 44 (S10 42 4)))]) [1, 0] rfl ?_
        exact TJ_X7_readClosing_70 hz hN hF (hW10 44 _ sx44 (S10 42 4)) rl_4 (hW10 44 _ sx44 (S10 42 4)) hW13 h
    · have h := zif_f c4 h
      exact TJ_X7_readClosing_15 hz hN hF hW h
def J_X7_read_149 (k24 : Int → HS → zO2) (v1 : Int) (S : HS) : zO2 :=
  zl (v1 + 1) fun x12 =>
  k24 x12 S
set_option maxHeartbeats 4000000 in
set_option maxRecDepth 20000 in
theorem TJ_X7_read_149 {k24 : Int → HS → zO2} {v1 : Int} {S : HS} {r : Int} {S' : HS} {z : Zt} (hz : zO z cX7_read RX7 10 shX) (hN : zN z 2) (hF : zFi z shX .int r S') (hk24 : ∀ (w1 : Int) (S : HS), rng w1 → WR shX S → k24 w1 S = some (r, S') → zA z 24 [(0, aR 42), (1, aI w1)] [] S) (rv1 : rng v1) (hW : WR shX S) (h : J_X7_read_149 k24 v1 S = some (r, S')) : zA z 149 [(0, aR 42), (1, aI v1)] [] S := by
  unfold J_X7_read_149 at h
  obtain ⟨x12, ex12, rx12, h⟩ := zl_ex h
  refine s_iinc (k0 := 1) (y := x12) (l' := [(1, aI x12), (0, aR 42)]) hz hN dX7_read_149 rfl ex12.symm (by decide) rfl ?_
  refine s_goto 24 hz dX7_read_152 rfl ?_
  refine s_pick (l' := [(0, aR 42), (1, aI x12)]) [1, 0] rfl ?_
  exact hk24 _ _ rx12 hW h
def J_X7_read_57 (k24 : Int → HS → zO2) (v1 : Int) (S : HS) : zO2 :=
  if S 40 3 = 4 then (
    zb (M_X7_readLine 16 12 S) fun _ S11 =>
    J_X7_read_149 k24 v1 S11) else (
  if S 40 3 = 5 then (
    zb (M_X7_readLine 15 11 S) fun _ S15 =>
    J_X7_read_149 k24 v1 S15) else (
  if S 40 3 = 6 then (
    zb (M_X7_readOpening S) fun _ S18 =>
    J_X7_read_149 k24 v1 S18) else (
  if S 40 3 = 7 then (
    zb (M_X7_readOpening S) fun _ S21 =>
    J_X7_read_149 k24 v1 S21) else (
  if S 40 3 = 8 then (
    zb (M_X7_tellFault 1 S) fun _ S24 =>
    J_X7_read_149 k24 v1 S24) else (
  if S 40 3 = 9 then (
    zb (M_X7_tellFault 1 S) fun _ S27 =>
    J_X7_read_149 k24 v1 S27) else (
  if S 40 3 = 10 then (
    zb (M_X7_readClosing S) fun _ S30 =>
    J_X7_read_149 k24 v1 S30) else (
  zb (M_X7_tellFault 1 S) fun _ S32 =>
  J_X7_read_149 k24 v1 S32)))))))
set_option maxHeartbeats 4000000 in
set_option maxRecDepth 20000 in
theorem TJ_X7_read_57 {k24 : Int → HS → zO2} {v1 : Int} {S : HS} {r : Int} {S' : HS} {z : Zt} (hz : zO z cX7_read RX7 10 shX) (hN : zN z 2) (hF : zFi z shX .int r S') (hk24 : ∀ (w1 : Int) (S : HS), rng w1 → WR shX S → k24 w1 S = some (r, S') → zA z 24 [(0, aR 42), (1, aI w1)] [] S) (rv1 : rng v1) (hW : WR shX S) (h : J_X7_read_57 k24 v1 S = some (r, S')) : zA z 57 [(0, aR 42), (1, aI v1)] [] S := by
  unfold J_X7_read_57 at h
  refine s_aload_n 0 hz dX7_read_57 rfl ?_
  refine s_getR 0 hz fl_X7_18 sx42 rfl (by decide) dX7_read_58 ?_
  refine s_getI (kz := 3) 3 hz fl_X7_37 sx40 rfl rfl dX7_read_61 ?_
  by_cases c9 : S 40 3 = 4
  · have h := zif_t c9 h
    refine s_tab 4 hz c9 rl_4 dX7_read_64 (by decide) rfl rfl ?_
    refine s_aload_n 0 hz dX7_read_108 rfl ?_
    refine s_bipush hz dX7_read_109 bp_16 ?_
    refine s_bipush hz dX7_read_111 bp_12 ?_
    obtain ⟨r10, S11, hc11, h⟩ := zb_of h
    refine s_callVv [aI 16, aI 12] [] hz ml_X7_40 sv_yX7_readLine (T_X7_readLine rl_16 rl_12 hW hc11) (by decide) rfl sx42 rfl rfl (Nat.le_of_ble_eq_true rfl) dX7_read_113 (fun hW11 => ?_)
    refine s_goto 149 hz dX7_read_116 rfl ?_
    exact TJ_X7_read_149 hz hN hF hk24 rv1 hW11 h
  have h := zif_f c9 h
  by_cases c13 : S 40 3 = 5
  · have h := zif_t c13 h
    refine s_tab 5 hz c13 rl_5 dX7_read_64 (by decide) rfl rfl ?_
    refine s_aload_n 0 hz dX7_read_119 rfl ?_
    refine s_bipush hz dX7_read_120 bp_15 ?_
    refine s_bipush hz dX7_read_122 bp_11 ?_
    obtain ⟨r14, S15, hc15, h⟩ := zb_of h
    refine s_callVv [aI 15, aI 11] [] hz ml_X7_40 sv_yX7_readLine (T_X7_readLine rl_15 rl_11 hW hc15) (by decide) rfl sx42 rfl rfl (Nat.le_of_ble_eq_true rfl) dX7_read_124 (fun hW15 => ?_)
    refine s_goto 149 hz dX7_read_127 rfl ?_
    exact TJ_X7_read_149 hz hN hF hk24 rv1 hW15 h
  have h := zif_f c13 h
  by_cases c16 : S 40 3 = 6
  · have h := zif_t c16 h
    refine s_tab 6 hz c16 rl_6 dX7_read_64 (by decide) rfl rfl ?_
    refine s_aload_n 0 hz dX7_read_130 rfl ?_
    obtain ⟨r17, S18, hc18, h⟩ := zb_of h
    refine s_callVv [] [] hz ml_X7_44 sv_yX7_readOpening (T_X7_readOpening hW hc18) (by decide) rfl sx42 rfl rfl (Nat.le_of_ble_eq_true rfl) dX7_read_131 (fun hW18 => ?_)
    refine s_goto 149 hz dX7_read_134 rfl ?_
    exact TJ_X7_read_149 hz hN hF hk24 rv1 hW18 h
  have h := zif_f c16 h
  by_cases c19 : S 40 3 = 7
  · have h := zif_t c19 h
    refine s_tab 7 hz c19 rl_7 dX7_read_64 (by decide) rfl rfl ?_
    refine s_aload_n 0 hz dX7_read_130 rfl ?_
    obtain ⟨r20, S21, hc21, h⟩ := zb_of h
    refine s_callVv [] [] hz ml_X7_44 sv_yX7_readOpening (T_X7_readOpening hW hc21) (by decide) rfl sx42 rfl rfl (Nat.le_of_ble_eq_true rfl) dX7_read_131 (fun hW21 => ?_)
    refine s_goto 149 hz dX7_read_134 rfl ?_
    exact TJ_X7_read_149 hz hN hF hk24 rv1 hW21 h
  have h := zif_f c19 h
  by_cases c22 : S 40 3 = 8
  · have h := zif_t c22 h
    refine s_tab 8 hz c22 rl_8 dX7_read_64 (by decide) rfl rfl ?_
    refine s_aload_n 0 hz dX7_read_144 rfl ?_
    refine s_iconst hz dX7_read_145 ?_
    obtain ⟨r23, S24, hc24, h⟩ := zb_of h
    refine s_callVv [aI 1] [] hz ml_X7_50 sv_yX7_tellFault (T_X7_tellFault rl_1 hW hc24) (by decide) rfl sx42 rfl rfl (Nat.le_of_ble_eq_true rfl) dX7_read_146 (fun hW24 => ?_)
    exact TJ_X7_read_149 hz hN hF hk24 rv1 hW24 h
  have h := zif_f c22 h
  by_cases c25 : S 40 3 = 9
  · have h := zif_t c25 h
    refine s_tab 9 hz c25 rl_9 dX7_read_64 (by decide) rfl rfl ?_
    refine s_aload_n 0 hz dX7_read_144 rfl ?_
    refine s_iconst hz dX7_read_145 ?_
    obtain ⟨r26, S27, hc27, h⟩ := zb_of h
    refine s_callVv [aI 1] [] hz ml_X7_50 sv_yX7_tellFault (T_X7_tellFault rl_1 hW hc27) (by decide) rfl sx42 rfl rfl (Nat.le_of_ble_eq_true rfl) dX7_read_146 (fun hW27 => ?_)
    exact TJ_X7_read_149 hz hN hF hk24 rv1 hW27 h
  have h := zif_f c25 h
  by_cases c28 : S 40 3 = 10
  · have h := zif_t c28 h
    refine s_tab 10 hz c28 rl_10 dX7_read_64 (by decide) rfl rfl ?_
    refine s_aload_n 0 hz dX7_read_137 rfl ?_
    obtain ⟨r29, S30, hc30, h⟩ := zb_of h
    refine s_callVv [] [] hz ml_X7_47 sv_yX7_readClosing (T_X7_readClosing hW hc30) (by decide) rfl sx42 rfl rfl (Nat.le_of_ble_eq_true rfl) dX7_read_138 (fun hW30 => ?_)
    refine s_goto 149 hz dX7_read_141 rfl ?_
    exact TJ_X7_read_149 hz hN hF hk24 rv1 hW30 h
  have h := zif_f c28 h
  refine s_tabO 144 hz (hW 40 _ sx40 3) dX7_read_64 (by omega) rfl ?_
  refine s_aload_n 0 hz dX7_read_144 rfl ?_
  refine s_iconst hz dX7_read_145 ?_
  obtain ⟨r31, S32, hc32, h⟩ := zb_of h
  refine s_callVv [aI 1] [] hz ml_X7_50 sv_yX7_tellFault (T_X7_tellFault rl_1 hW hc32) (by decide) rfl sx42 rfl rfl (Nat.le_of_ble_eq_true rfl) dX7_read_146 (fun hW32 => ?_)
  exact TJ_X7_read_149 hz hN hF hk24 rv1 hW32 h
def L_X7_read_24 (k155 : HS → zO2) : Nat → Int → HS → zO2
  | 0, _, _ => none
  | n + 1, v1, S => 
    if 1000 < v1 then (
      k155 S)
    else (
      if S 42 5 = 0 then (
        if 0 < S 42 4 then (
          J_X7_read_57 (L_X7_read_24 k155 n) v1 S)
        else (
          if S 40 3 = 12 then (
            k155 S)
          else (
            J_X7_read_57 (L_X7_read_24 k155 n) v1 S)))
      else (
        k155 S))
set_option maxHeartbeats 4000000 in
set_option maxRecDepth 20000 in
theorem TL_X7_read_24 {k155 : HS → zO2} {r : Int} {S' : HS} {z : Zt} (hz : zO z cX7_read RX7 10 shX) (hN : zN z 2) (hF : zFi z shX .int r S') (hk155 : ∀ (S : HS), WR shX S → k155 S = some (r, S') → zA z 155 [(0, aR 42)] [] S) : ∀ (n : Nat) {v1 : Int} {S : HS}, rng v1 → WR shX S → L_X7_read_24 k155 n v1 S = some (r, S') → zA z 24 [(0, aR 42), (1, aI v1)] [] S := by
  intro n
  induction n with
  | zero =>
    intro _ _ _ _ h
    cases h
  | succ n ih =>
    intro v1 S rv1 hW h
    rw [L_X7_read_24.eq_2] at h
    refine s_iload_n 1 hz dX7_read_24 rfl ?_
    refine s_sipush hz dX7_read_25 sp_1000 ?_
    refine s_icmp_gt 155 hz rv1 rl_1000 dX7_read_28 rfl (fun c6 => ?_) (fun c6 => ?_)
    · have h := zif_t c6 h
      refine s_pick (l' := [(0, aR 42)]) [0] rfl ?_
      exact hk155 _ hW h
    · have h := zif_f c6 h
      refine s_aload_n 0 hz dX7_read_31 rfl ?_
      refine s_getI (kz := 5) 5 hz fl_X7_29 sx42 rfl rfl dX7_read_32 ?_
      refine s_if_ne 155 hz (hW 42 _ sx42 5) dX7_read_35 rfl (fun c7 => ?_) (fun c7 => ?_)
      · have h := zif_f c7 h
        refine s_pick (l' := [(0, aR 42)]) [0] rfl ?_
        exact hk155 _ hW h
      · have h := zif_t c7 h
        refine s_aload_n 0 hz dX7_read_38 rfl ?_
        refine s_getI (kz := 4) 4 hz fl_X7_26 sx42 rfl rfl dX7_read_39 ?_
        refine s_if_gt 57 hz (hW 42 _ sx42 4) dX7_read_42 rfl (fun c8 => ?_) (fun c8 => ?_)
        · have h := zif_t c8 h
          exact TJ_X7_read_57 hz hN hF (fun _ _ => ih) rv1 hW h
        · have h := zif_f c8 h
          refine s_aload_n 0 hz dX7_read_45 rfl ?_
          refine s_getR 0 hz fl_X7_18 sx42 rfl (by decide) dX7_read_46 ?_
          refine s_getI (kz := 3) 3 hz fl_X7_37 sx40 rfl rfl dX7_read_49 ?_
          refine s_bipush hz dX7_read_52 bp_12 ?_
          refine s_icmp_eq 155 hz (hW 40 _ sx40 3) rl_12 dX7_read_54 rfl (fun c33 => ?_) (fun c33 => ?_)
          · have h := zif_t c33 h
            refine s_pick (l' := [(0, aR 42)]) [0] rfl ?_
            exact hk155 _ hW h
          · have h := zif_f c33 h
            exact TJ_X7_read_57 hz hN hF (fun _ _ => ih) rv1 hW h
def J_X7_read_155 (S : HS) : zO2 :=
  some (S 42 5, S)
set_option maxHeartbeats 4000000 in
set_option maxRecDepth 20000 in
theorem TJ_X7_read_155 {S : HS} {r : Int} {S' : HS} {z : Zt} (hz : zO z cX7_read RX7 10 shX) (hN : zN z 2) (hF : zFi z shX .int r S') (hW : WR shX S) (h : J_X7_read_155 S = some (r, S')) : zA z 155 [(0, aR 42)] [] S := by
  unfold J_X7_read_155 at h
  refine s_aload_n 0 hz dX7_read_155 rfl ?_
  refine s_getI (kz := 5) 5 hz fl_X7_29 sx42 rfl rfl dX7_read_156 ?_
  exact s_iret h hz hF (hW 42 _ sx42 5) hW dX7_read_159
def M_X7_read (S : HS) : zO2 :=
  zs (up S 42 3 0) fun S1 =>
  zs (up S1 42 4 0) fun S2 =>
  zs (up S2 42 5 0) fun S3 =>
  zb (M_X9_rewind S3) fun _ S5 =>
  L_X7_read_24 (fun S34 =>
      J_X7_read_155 S34) zBig 0 S5
set_option maxHeartbeats 4000000 in
set_option maxRecDepth 20000 in
theorem T_X7_read {S S' : HS} {r : Int} (hW : WR shX S) (h : M_X7_read S = some (r, S')) : zR shX yX7_read cX7_read 2  .int 10 [aR 42] S r S' := by
  refine zR_of (by decide +kernel) (Nat.le_of_ble_eq_true rfl) (fun z hz hN hF => ?_)
  have hz : zO z cX7_read RX7 10 shX := hz
  show zA z 0 [(0, aR 42)] [] S
  unfold M_X7_read at h
  refine s_aload_n 0 hz dX7_read_0 rfl ?_
  refine s_iconst hz dX7_read_1 ?_
  obtain ⟨S1, eS1, h⟩ := zs_ex h
  have hW1 : WR shX S1 := by rw [eS1]; exact hW.up (i := 3) sx42 (v := 0) rl_0
  refine s_putI (kz := 3) 3 hz fp_X7_22 sx42 rfl rfl dX7_read_2 ?_
  rw [← eS1]
  refine s_aload_n 0 hz dX7_read_5 rfl ?_
  refine s_iconst hz dX7_read_6 ?_
  obtain ⟨S2, eS2, h⟩ := zs_ex h
  have hW2 : WR shX S2 := by rw [eS2]; exact hW1.up (i := 4) sx42 (v := 0) rl_0
  refine s_putI (kz := 4) 4 hz fp_X7_26 sx42 rfl rfl dX7_read_7 ?_
  rw [← eS2]
  refine s_aload_n 0 hz dX7_read_10 rfl ?_
  refine s_iconst hz dX7_read_11 ?_
  obtain ⟨S3, eS3, h⟩ := zs_ex h
  have hW3 : WR shX S3 := by rw [eS3]; exact hW2.up (i := 5) sx42 (v := 0) rl_0
  refine s_putI (kz := 5) 5 hz fp_X7_29 sx42 rfl rfl dX7_read_12 ?_
  rw [← eS3]
  refine s_aload_n 0 hz dX7_read_15 rfl ?_
  refine s_getR 0 hz fl_X7_18 sx42 rfl (by decide) dX7_read_16 ?_
  obtain ⟨r4, S5, hc5, h⟩ := zb_of h
  refine s_callVv [] [] hz ml_X7_32 sv_yX9_rewind (T_X9_rewind hW3 hc5) (by decide) rfl sx40 rfl rfl (Nat.le_of_ble_eq_true rfl) dX7_read_19 (fun hW5 => ?_)
  refine s_iconst hz dX7_read_22 ?_
  refine s_istore_n (l' := [(1, aI 0), (0, aR 42)]) hz hN dX7_read_23 (by decide) rfl ?_
  refine s_pick (l' := [(0, aR 42), (1, aI 0)]) [1, 0] rfl ?_
  refine TL_X7_read_24 hz hN hF ?_ zBig rl_0 hW5 h
  · clear h 
    intro S34 hW34 h
    exact TJ_X7_read_155 hz hN hF hW34 h
def M_X9_clear (S : HS) : zO2 :=
  zs (up S 40 1 0) fun S1 =>
  some (0, S1)
set_option maxHeartbeats 4000000 in
set_option maxRecDepth 20000 in
theorem T_X9_clear {S S' : HS} {r : Int} (hW : WR shX S) (h : M_X9_clear S = some (r, S')) : zV shX yX9_clear cX9_clear 1 1 [aR 40] S S' := by
  refine zV_of (by decide +kernel) (Nat.le_of_ble_eq_true rfl) (fun z hz hN hF => ?_)
  have hz : zO z cX9_clear RX9 1 shX := hz
  show zA z 0 [(0, aR 40)] [] S
  unfold M_X9_clear at h
  refine s_aload_n 0 hz dX9_clear_0 rfl ?_
  refine s_iconst hz dX9_clear_1 ?_
  obtain ⟨S1, eS1, h⟩ := zs_ex h
  have hW1 : WR shX S1 := by rw [eS1]; exact hW.up (i := 1) sx40 (v := 0) rl_0
  refine s_putI (kz := 1) 1 hz fp_X9_15 sx40 rfl rfl dX9_clear_2 ?_
  rw [← eS1]
  exact s_vret h hz hF hW1 dX9_clear_5
def J_X5_cutTo_26 (k2 : Int → HS → zO2) (v1 : Int) (v2 : Int) (S : HS) : zO2 :=
  zl (v2 + 1) fun x4 =>
  k2 x4 S
set_option maxHeartbeats 4000000 in
set_option maxRecDepth 20000 in
theorem TJ_X5_cutTo_26 {k2 : Int → HS → zO2} {v1 : Int} {v2 : Int} {S : HS} {r : Int} {S' : HS} {z : Zt} (hz : zO z cX5_cutTo RX5 1 shX) (hN : zN z 3) (hF : zFv z shX S') (hk2 : ∀ (w2 : Int) (S : HS), rng w2 → WR shX S → k2 w2 S = some (r, S') → zA z 2 [(0, aR 3), (1, aI v1), (2, aI w2)] [] S) (rv1 : rng v1) (rv2 : rng v2) (hW : WR shX S) (h : J_X5_cutTo_26 k2 v1 v2 S = some (r, S')) : zA z 26 [(0, aR 3), (1, aI v1), (2, aI v2)] [] S := by
  unfold J_X5_cutTo_26 at h
  obtain ⟨x4, ex4, rx4, h⟩ := zl_ex h
  refine s_iinc (k0 := 2) (y := x4) (l' := [(2, aI x4), (0, aR 3), (1, aI v1)]) hz hN dX5_cutTo_26 rfl ex4.symm (by decide) rfl ?_
  refine s_goto 2 hz dX5_cutTo_29 rfl ?_
  refine s_pick (l' := [(0, aR 3), (1, aI v1), (2, aI x4)]) [1, 2, 0] rfl ?_
  exact hk2 _ _ rx4 hW h
def L_X5_cutTo_2 (k32 : HS → zO2) (p1 : Int) : Nat → Int → HS → zO2
  | 0, _, _ => none
  | n + 1, v2, S => 
    if 412 ≤ v2 then (
      k32 S)
    else (
      zg ((0 : Int) ≤ v2 ∧ v2 < 412) <|
      if S 4 v2 < p1 then (
        J_X5_cutTo_26 (L_X5_cutTo_2 k32 p1 n) p1 v2 S)
      else (
        zg ((0 : Int) ≤ v2 ∧ v2 < 412) <|
        zs (up S 4 v2 (-1)) fun S6 =>
        J_X5_cutTo_26 (L_X5_cutTo_2 k32 p1 n) p1 v2 S6))
set_option maxHeartbeats 4000000 in
set_option maxRecDepth 20000 in
theorem TL_X5_cutTo_2 {k32 : HS → zO2} {p1 : Int} {r : Int} {S' : HS} {z : Zt} (hz : zO z cX5_cutTo RX5 1 shX) (hN : zN z 3) (hF : zFv z shX S') (hk32 : ∀ (S : HS), WR shX S → k32 S = some (r, S') → zA z 32 [(0, aR 3), (1, aI p1)] [] S) (rp1 : rng p1) : ∀ (n : Nat) {v2 : Int} {S : HS}, rng v2 → WR shX S → L_X5_cutTo_2 k32 p1 n v2 S = some (r, S') → zA z 2 [(0, aR 3), (1, aI p1), (2, aI v2)] [] S := by
  intro n
  induction n with
  | zero =>
    intro _ _ _ _ h
    cases h
  | succ n ih =>
    intro v2 S rv2 hW h
    rw [L_X5_cutTo_2.eq_2] at h
    refine s_iload_n 2 hz dX5_cutTo_2 rfl ?_
    refine s_sipush hz dX5_cutTo_3 sp_412 ?_
    refine s_icmp_ge 32 hz rv2 rl_412 dX5_cutTo_6 rfl (fun c1 => ?_) (fun c1 => ?_)
    · have h := zif_t c1 h
      refine s_pick (l' := [(0, aR 3), (1, aI p1)]) [0, 1] rfl ?_
      exact hk32 _ hW h
    · have h := zif_f c1 h
      refine s_aload_n 0 hz dX5_cutTo_9 rfl ?_
      refine s_getR 0 hz fl_X5_9 sx3 rfl (by decide) dX5_cutTo_10 ?_
      refine s_iload_n 2 hz dX5_cutTo_13 rfl ?_
      obtain ⟨g2, h⟩ := zg_of h
      refine s_iald hz sx4 rfl (by decide) g2 dX5_cutTo_14 ?_
      refine s_iload_n 1 hz dX5_cutTo_15 rfl ?_
      refine s_icmp_lt 26 hz (hW 4 _ sx4 v2) rp1 dX5_cutTo_16 rfl (fun c3 => ?_) (fun c3 => ?_)
      · have h := zif_t c3 h
        exact TJ_X5_cutTo_26 hz hN hF (fun _ _ => ih) rp1 rv2 hW h
      · have h := zif_f c3 h
        refine s_aload_n 0 hz dX5_cutTo_19 rfl ?_
        refine s_getR 0 hz fl_X5_9 sx3 rfl (by decide) dX5_cutTo_20 ?_
        refine s_iload_n 2 hz dX5_cutTo_23 rfl ?_
        refine s_iconst hz dX5_cutTo_24 ?_
        obtain ⟨g5, h⟩ := zg_of h
        obtain ⟨S6, eS6, h⟩ := zs_ex h
        have hW6 : WR shX S6 := by rw [eS6]; exact hW.up (i := v2) sx4 (v := (-1)) rl_m1
        refine s_iast hz sx4 rfl (by decide) g5 dX5_cutTo_25 ?_
        rw [← eS6]
        exact TJ_X5_cutTo_26 hz hN hF (fun _ _ => ih) rp1 rv2 hW6 h
def M_X5_cutTo (a1 : Int) (S : HS) : zO2 :=
  L_X5_cutTo_2 (fun S7 =>
      zs (up S7 3 3 a1) fun S8 =>
      some (0, S8)) a1 zBig 0 S
set_option maxHeartbeats 4000000 in
set_option maxRecDepth 20000 in
theorem T_X5_cutTo {a1 : Int} {S S' : HS} {r : Int} (ra1 : rng a1) (hW : WR shX S) (h : M_X5_cutTo a1 S = some (r, S')) : zV shX yX5_cutTo cX5_cutTo 3 1 [aR 3, aI a1] S S' := by
  refine zV_of (by decide +kernel) (Nat.le_of_ble_eq_true rfl) (fun z hz hN hF => ?_)
  have hz : zO z cX5_cutTo RX5 1 shX := hz
  show zA z 0 [(0, aR 3), (1, aI a1)] [] S
  unfold M_X5_cutTo at h
  refine s_iconst hz dX5_cutTo_0 ?_
  refine s_istore_n (l' := [(2, aI 0), (0, aR 3), (1, aI a1)]) hz hN dX5_cutTo_1 (by decide) rfl ?_
  refine s_pick (l' := [(0, aR 3), (1, aI a1), (2, aI 0)]) [1, 2, 0] rfl ?_
  refine TL_X5_cutTo_2 hz hN hF ?_ ra1 zBig rl_0 hW h
  · clear h 
    intro S7 hW7 h
    refine s_aload_n 0 hz dX5_cutTo_32 rfl ?_
    refine s_iload_n 1 hz dX5_cutTo_33 rfl ?_
    obtain ⟨S8, eS8, h⟩ := zs_ex h
    have hW8 : WR shX S8 := by rw [eS8]; exact hW7.up (i := 3) sx3 (v := a1) ra1
    refine s_putI (kz := 3) 3 hz fp_X5_21 sx3 rfl rfl dX5_cutTo_34 ?_
    rw [← eS8]
    exact s_vret h hz hF hW8 dX5_cutTo_37
def J_X6_cutTo_30 (k2 : Int → HS → zO2) (v1 : Int) (v2 : Int) (S : HS) : zO2 :=
  zl (v2 + 1) fun x5 =>
  k2 x5 S
set_option maxHeartbeats 4000000 in
set_option maxRecDepth 20000 in
theorem TJ_X6_cutTo_30 {k2 : Int → HS → zO2} {v1 : Int} {v2 : Int} {S : HS} {r : Int} {S' : HS} {z : Zt} (hz : zO z cX6_cutTo RX6 1 shX) (hN : zN z 3) (hF : zFv z shX S') (hk2 : ∀ (w2 : Int) (S : HS), rng w2 → WR shX S → k2 w2 S = some (r, S') → zA z 2 [(0, aR 7), (1, aI v1), (2, aI w2)] [] S) (rv1 : rng v1) (rv2 : rng v2) (hW : WR shX S) (h : J_X6_cutTo_30 k2 v1 v2 S = some (r, S')) : zA z 30 [(0, aR 7), (1, aI v1), (2, aI v2)] [] S := by
  unfold J_X6_cutTo_30 at h
  obtain ⟨x5, ex5, rx5, h⟩ := zl_ex h
  refine s_iinc (k0 := 2) (y := x5) (l' := [(2, aI x5), (0, aR 7), (1, aI v1)]) hz hN dX6_cutTo_30 rfl ex5.symm (by decide) rfl ?_
  refine s_goto 2 hz dX6_cutTo_33 rfl ?_
  refine s_pick (l' := [(0, aR 7), (1, aI v1), (2, aI x5)]) [1, 2, 0] rfl ?_
  exact hk2 _ _ rx5 hW h
def L_X6_cutTo_2 (k36 : HS → zO2) (p1 : Int) : Nat → Int → HS → zO2
  | 0, _, _ => none
  | n + 1, v2, S => 
    if 192 ≤ v2 then (
      k36 S)
    else (
      zg ((0 : Int) ≤ v2 ∧ v2 < 192) <|
      zl (200 * p1) fun x3 =>
      if S 11 v2 < x3 then (
        J_X6_cutTo_30 (L_X6_cutTo_2 k36 p1 n) p1 v2 S)
      else (
        zg ((0 : Int) ≤ v2 ∧ v2 < 192) <|
        zs (up S 11 v2 (-1)) fun S7 =>
        J_X6_cutTo_30 (L_X6_cutTo_2 k36 p1 n) p1 v2 S7))
set_option maxHeartbeats 4000000 in
set_option maxRecDepth 20000 in
theorem TL_X6_cutTo_2 {k36 : HS → zO2} {p1 : Int} {r : Int} {S' : HS} {z : Zt} (hz : zO z cX6_cutTo RX6 1 shX) (hN : zN z 3) (hF : zFv z shX S') (hk36 : ∀ (S : HS), WR shX S → k36 S = some (r, S') → zA z 36 [(0, aR 7), (1, aI p1)] [] S) (rp1 : rng p1) : ∀ (n : Nat) {v2 : Int} {S : HS}, rng v2 → WR shX S → L_X6_cutTo_2 k36 p1 n v2 S = some (r, S') → zA z 2 [(0, aR 7), (1, aI p1), (2, aI v2)] [] S := by
  intro n
  induction n with
  | zero =>
    intro _ _ _ _ h
    cases h
  | succ n ih =>
    intro v2 S rv2 hW h
    rw [L_X6_cutTo_2.eq_2] at h
    refine s_iload_n 2 hz dX6_cutTo_2 rfl ?_
    refine s_sipush hz dX6_cutTo_3 sp_192 ?_
    refine s_icmp_ge 36 hz rv2 rl_192 dX6_cutTo_6 rfl (fun c1 => ?_) (fun c1 => ?_)
    · have h := zif_t c1 h
      refine s_pick (l' := [(0, aR 7), (1, aI p1)]) [0, 1] rfl ?_
      exact hk36 _ hW h
    · have h := zif_f c1 h
      refine s_aload_n 0 hz dX6_cutTo_9 rfl ?_
      refine s_getR 5 hz fl_X6_21 sx7 rfl (by decide) dX6_cutTo_10 ?_
      refine s_iload_n 2 hz dX6_cutTo_13 rfl ?_
      obtain ⟨g2, h⟩ := zg_of h
      refine s_iald hz sx11 rfl (by decide) g2 dX6_cutTo_14 ?_
      refine s_sipush hz dX6_cutTo_15 sp_200 ?_
      refine s_iload_n 1 hz dX6_cutTo_18 rfl ?_
      refine s_imul hz dX6_cutTo_19 ?_
      obtain ⟨x3, ex3, rx3, h⟩ := zl_ex h
      rw [← ex3]
      refine s_icmp_lt 30 hz (hW 11 _ sx11 v2) rx3 dX6_cutTo_20 rfl (fun c4 => ?_) (fun c4 => ?_)
      · have h := zif_t c4 h
        exact TJ_X6_cutTo_30 hz hN hF (fun _ _ => ih) rp1 rv2 hW h
      · have h := zif_f c4 h
        refine s_aload_n 0 hz dX6_cutTo_23 rfl ?_
        refine s_getR 5 hz fl_X6_21 sx7 rfl (by decide) dX6_cutTo_24 ?_
        refine s_iload_n 2 hz dX6_cutTo_27 rfl ?_
        refine s_iconst hz dX6_cutTo_28 ?_
        obtain ⟨g6, h⟩ := zg_of h
        obtain ⟨S7, eS7, h⟩ := zs_ex h
        have hW7 : WR shX S7 := by rw [eS7]; exact hW.up (i := v2) sx11 (v := (-1)) rl_m1
        refine s_iast hz sx11 rfl (by decide) g6 dX6_cutTo_29 ?_
        rw [← eS7]
        exact TJ_X6_cutTo_30 hz hN hF (fun _ _ => ih) rp1 rv2 hW7 h
def M_X6_cutTo (a1 : Int) (S : HS) : zO2 :=
  L_X6_cutTo_2 (fun S8 =>
      zs (up S8 7 11 a1) fun S9 =>
      some (0, S9)) a1 zBig 0 S
set_option maxHeartbeats 4000000 in
set_option maxRecDepth 20000 in
theorem T_X6_cutTo {a1 : Int} {S S' : HS} {r : Int} (ra1 : rng a1) (hW : WR shX S) (h : M_X6_cutTo a1 S = some (r, S')) : zV shX yX6_cutTo cX6_cutTo 3 1 [aR 7, aI a1] S S' := by
  refine zV_of (by decide +kernel) (Nat.le_of_ble_eq_true rfl) (fun z hz hN hF => ?_)
  have hz : zO z cX6_cutTo RX6 1 shX := hz
  show zA z 0 [(0, aR 7), (1, aI a1)] [] S
  unfold M_X6_cutTo at h
  refine s_iconst hz dX6_cutTo_0 ?_
  refine s_istore_n (l' := [(2, aI 0), (0, aR 7), (1, aI a1)]) hz hN dX6_cutTo_1 (by decide) rfl ?_
  refine s_pick (l' := [(0, aR 7), (1, aI a1), (2, aI 0)]) [1, 2, 0] rfl ?_
  refine TL_X6_cutTo_2 hz hN hF ?_ ra1 zBig rl_0 hW h
  · clear h 
    intro S8 hW8 h
    refine s_aload_n 0 hz dX6_cutTo_36 rfl ?_
    refine s_iload_n 1 hz dX6_cutTo_37 rfl ?_
    obtain ⟨S9, eS9, h⟩ := zs_ex h
    have hW9 : WR shX S9 := by rw [eS9]; exact hW8.up (i := 11) sx7 (v := a1) ra1
    refine s_putI (kz := 11) 11 hz fp_X6_39 sx7 rfl rfl dX6_cutTo_38 ?_
    rw [← eS9]
    exact s_vret h hz hF hW9 dX6_cutTo_41
def J_X4_drawProgram_115 (S : HS) : zO2 :=
  some (S 45 8, S)
set_option maxHeartbeats 4000000 in
set_option maxRecDepth 20000 in
theorem TJ_X4_drawProgram_115 {S : HS} {r : Int} {S' : HS} {z : Zt} (hz : zO z cX4_drawProgram RX4 18 shX) (hN : zN z 3) (hF : zFi z shX .int r S') (hW : WR shX S) (h : J_X4_drawProgram_115 S = some (r, S')) : zA z 115 [(0, aR 45)] [] S := by
  unfold J_X4_drawProgram_115 at h
  refine s_aload_n 0 hz dX4_drawProgram_115 rfl ?_
  refine s_getI (kz := 8) 8 hz fl_X4_52 sx45 rfl rfl dX4_drawProgram_116 ?_
  exact s_iret h hz hF (hW 45 _ sx45 8) hW dX4_drawProgram_119
def M_X4_drawProgram (S : HS) : zO2 :=
  zs (up S 45 7 0) fun S1 =>
  zs (up S1 45 8 (-1)) fun S2 =>
  zb (M_X4_drawSteps 6 0 (S2 42 3) 1 0 0 0 S2) fun _ S4 =>
  if S4 45 8 = (-1) then (
    if S4 45 7 ≤ 0 then (
      J_X4_drawProgram_115 S4)
    else (
      if 84 ≤ S4 45 6 then (
        J_X4_drawProgram_115 S4)
      else (
        zg ((0 : Int) ≤ S4 45 6 ∧ S4 45 6 < 84) <|
        zs (up S4 49 (S4 45 6) (S 3 3)) fun S9 =>
        zg ((0 : Int) ≤ S9 45 6 ∧ S9 45 6 < 84) <|
        zs (up S9 50 (S9 45 6) (S 7 11)) fun S11 =>
        zl ((S11 45 6) + 1) fun x12 =>
        zs (up S11 45 6 x12) fun S13 =>
        J_X4_drawProgram_115 S13)))
  else (
    zb (M_X5_cutTo (S 3 3) S4) fun _ S15 =>
    zb (M_X6_cutTo (S 7 11) S15) fun _ S17 =>
    J_X4_drawProgram_115 S17)
set_option maxHeartbeats 4000000 in
set_option maxRecDepth 20000 in
theorem T_X4_drawProgram {S S' : HS} {r : Int} (hW : WR shX S) (h : M_X4_drawProgram S = some (r, S')) : zR shX yX4_drawProgram cX4_drawProgram 3  .int 18 [aR 45] S r S' := by
  refine zR_of (by decide +kernel) (Nat.le_of_ble_eq_true rfl) (fun z hz hN hF => ?_)
  have hz : zO z cX4_drawProgram RX4 18 shX := hz
  show zA z 0 [(0, aR 45)] [] S
  unfold M_X4_drawProgram at h
  refine s_aload_n 0 hz dX4_drawProgram_0 rfl ?_
  refine s_getR 1 hz fl_X4_33 sx45 rfl (by decide) dX4_drawProgram_1 ?_
  refine s_getI (kz := 3) 3 hz fl_X4_41 sx3 rfl rfl dX4_drawProgram_4 ?_
  refine s_istore_n (l' := [(1, aI (S 3 3)), (0, aR 45)]) hz hN dX4_drawProgram_7 (by decide) rfl ?_
  refine s_aload_n 1 hz dX4_drawProgram_8 rfl ?_
  refine s_getR 2 hz fl_X4_37 sx45 rfl (by decide) dX4_drawProgram_9 ?_
  refine s_getI (kz := 11) 11 hz fl_X4_46 sx7 rfl rfl dX4_drawProgram_12 ?_
  refine s_istore_n (l' := [(2, aI (S 7 11)), (1, aI (S 3 3)), (0, aR 45)]) hz hN dX4_drawProgram_15 (by decide) rfl ?_
  refine s_aload_n 2 hz dX4_drawProgram_16 rfl ?_
  refine s_iconst hz dX4_drawProgram_17 ?_
  obtain ⟨S1, eS1, h⟩ := zs_ex h
  have hW1 : WR shX S1 := by rw [eS1]; exact hW.up (i := 7) sx45 (v := 0) rl_0
  refine s_putI (kz := 7) 7 hz fp_X4_49 sx45 rfl rfl dX4_drawProgram_18 ?_
  rw [← eS1]
  refine s_aload_n 2 hz dX4_drawProgram_21 rfl ?_
  refine s_iconst hz dX4_drawProgram_22 ?_
  obtain ⟨S2, eS2, h⟩ := zs_ex h
  have hW2 : WR shX S2 := by rw [eS2]; exact hW1.up (i := 8) sx45 (v := (-1)) rl_m1
  refine s_putI (kz := 8) 8 hz fp_X4_52 sx45 rfl rfl dX4_drawProgram_23 ?_
  rw [← eS2]
  refine s_aload_n 2 hz dX4_drawProgram_26 rfl ?_
  refine s_iconst hz dX4_drawProgram_27 ?_
  refine s_aload_n 2 hz dX4_drawProgram_28 rfl ?_
  refine s_getR 0 hz fl_X4_29 sx45 rfl (by decide) dX4_drawProgram_29 ?_
  refine s_getI (kz := 3) 3 hz fl_X4_55 sx42 rfl rfl dX4_drawProgram_32 ?_
  refine s_iconst hz dX4_drawProgram_35 ?_
  refine s_iconst hz dX4_drawProgram_36 ?_
  refine s_iconst hz dX4_drawProgram_37 ?_
  refine s_iconst hz dX4_drawProgram_38 ?_
  obtain ⟨r3, S4, hc4, h⟩ := zb_of h
  refine s_callVv [aI 0, aI (S2 42 3), aI 1, aI 0, aI 0, aI 0] [] hz ml_X4_58 sv_yX4_drawSteps (T_X4_drawSteps 6 rl_0 (hW2 42 _ sx42 3) rl_1 rl_0 rl_0 rl_0 hW2 hc4) (by decide) rfl sx45 rfl rfl (Nat.le_of_ble_eq_true rfl) dX4_drawProgram_39 (fun hW4 => ?_)
  refine s_aload_n 2 hz dX4_drawProgram_42 rfl ?_
  refine s_getI (kz := 8) 8 hz fl_X4_52 sx45 rfl rfl dX4_drawProgram_43 ?_
  refine s_iconst hz dX4_drawProgram_46 ?_
  refine s_icmp_eq 69 hz (hW4 45 _ sx45 8) rl_m1 dX4_drawProgram_47 rfl (fun c5 => ?_) (fun c5 => ?_)
  · have h := zif_t c5 h
    refine s_aload_n 2 hz dX4_drawProgram_69 rfl ?_
    refine s_getI (kz := 7) 7 hz fl_X4_49 sx45 rfl rfl dX4_drawProgram_70 ?_
    refine s_if_le 115 hz (hW4 45 _ sx45 7) dX4_drawProgram_73 rfl (fun c6 => ?_) (fun c6 => ?_)
    · have h := zif_t c6 h
      refine s_pick (l' := [(0, aR 45)]) [2] rfl ?_
      exact TJ_X4_drawProgram_115 hz hN hF hW4 h
    · have h := zif_f c6 h
      refine s_aload_n 2 hz dX4_drawProgram_76 rfl ?_
      refine s_getI (kz := 6) 6 hz fl_X4_25 sx45 rfl rfl dX4_drawProgram_77 ?_
      refine s_bipush hz dX4_drawProgram_80 bp_84 ?_
      refine s_icmp_ge 115 hz (hW4 45 _ sx45 6) rl_84 dX4_drawProgram_82 rfl (fun c7 => ?_) (fun c7 => ?_)
      · have h := zif_t c7 h
        refine s_pick (l' := [(0, aR 45)]) [2] rfl ?_
        exact TJ_X4_drawProgram_115 hz hN hF hW4 h
      · have h := zif_f c7 h
        refine s_aload_n 2 hz dX4_drawProgram_85 rfl ?_
        refine s_getR 4 hz fl_X4_18 sx45 rfl (by decide) dX4_drawProgram_86 ?_
        refine s_aload_n 2 hz dX4_drawProgram_89 rfl ?_
        refine s_getI (kz := 6) 6 hz fl_X4_25 sx45 rfl rfl dX4_drawProgram_90 ?_
        refine s_iload_n 1 hz dX4_drawProgram_93 rfl ?_
        obtain ⟨g8, h⟩ := zg_of h
        obtain ⟨S9, eS9, h⟩ := zs_ex h
        have hW9 : WR shX S9 := by rw [eS9]; exact hW4.up (i := (S4 45 6)) sx49 (v := (S 3 3)) (hW 3 _ sx3 3)
        refine s_iast hz sx49 rfl (by decide) g8 dX4_drawProgram_94 ?_
        rw [← eS9]
        refine s_aload_n 2 hz dX4_drawProgram_95 rfl ?_
        refine s_getR 5 hz fl_X4_22 sx45 rfl (by decide) dX4_drawProgram_96 ?_
        refine s_aload_n 2 hz dX4_drawProgram_99 rfl ?_
        refine s_getI (kz := 6) 6 hz fl_X4_25 sx45 rfl rfl dX4_drawProgram_100 ?_
        refine s_iload_n 0 hz dX4_drawProgram_103 rfl ?_
        obtain ⟨g10, h⟩ := zg_of h
        obtain ⟨S11, eS11, h⟩ := zs_ex h
        have hW11 : WR shX S11 := by rw [eS11]; exact hW9.up (i := (S9 45 6)) sx50 (v := (S 7 11)) (hW 7 _ sx7 11)
        refine s_iast hz sx50 rfl (by decide) g10 dX4_drawProgram_104 ?_
        rw [← eS11]
        refine s_aload_n 2 hz dX4_drawProgram_105 rfl ?_
        refine s_dup hz rfl dX4_drawProgram_106 ?_
        refine s_getI (kz := 6) 6 hz fl_X4_25 sx45 rfl rfl dX4_drawProgram_107 ?_
        refine s_iconst hz dX4_drawProgram_110 ?_
        refine s_iadd hz dX4_drawProgram_111 ?_
        obtain ⟨x12, ex12, rx12, h⟩ := zl_ex h
        rw [← ex12]
        obtain ⟨S13, eS13, h⟩ := zs_ex h
        have hW13 : WR shX S13 := by rw [eS13]; exact hW11.up (i := 6) sx45 (v := x12) rx12
        refine s_putI (kz := 6) 6 hz fp_X4_25 sx45 rfl rfl dX4_drawProgram_112 ?_
        rw [← eS13]
        refine s_pick (l' := [(0, aR 45)]) [2] rfl ?_
        exact TJ_X4_drawProgram_115 hz hN hF hW13 h
  · have h := zif_f c5 h
    refine s_aload_n 2 hz dX4_drawProgram_50 rfl ?_
    refine s_getR 1 hz fl_X4_33 sx45 rfl (by decide) dX4_drawProgram_51 ?_
    refine s_iload_n 1 hz dX4_drawProgram_54 rfl ?_
    obtain ⟨r14, S15, hc15, h⟩ := zb_of h
    refine s_callVv [aI (S 3 3)] [] hz ml_X4_62 sv_yX5_cutTo (T_X5_cutTo (hW 3 _ sx3 3) hW4 hc15) (by decide) rfl sx3 rfl rfl (Nat.le_of_ble_eq_true rfl) dX4_drawProgram_55 (fun hW15 => ?_)
    refine s_aload_n 2 hz dX4_drawProgram_58 rfl ?_
    refine s_getR 2 hz fl_X4_37 sx45 rfl (by decide) dX4_drawProgram_59 ?_
    refine s_iload_n 0 hz dX4_drawProgram_62 rfl ?_
    obtain ⟨r16, S17, hc17, h⟩ := zb_of h
    refine s_callVv [aI (S 7 11)] [] hz ml_X4_66 sv_yX6_cutTo (T_X6_cutTo (hW 7 _ sx7 11) hW15 hc17) (by decide) rfl sx7 rfl rfl (Nat.le_of_ble_eq_true rfl) dX4_drawProgram_63 (fun hW17 => ?_)
    refine s_goto 115 hz dX4_drawProgram_66 rfl ?_
    refine s_pick (l' := [(0, aR 45)]) [2] rfl ?_
    exact TJ_X4_drawProgram_115 hz hN hF hW17 h
