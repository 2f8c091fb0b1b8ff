def M_X11_draw (S : HS) : zO2 :=
  zb (M_X7_read S) fun r1 S2 =>
  zb (M_X9_clear S2) fun _ S4 =>
  if r1 = 0 then (
    zb (M_X4_drawProgram S4) fun r6 S7 =>
    if r6 = (-1) then (
      zb (M_X11_settle S7) fun _ S10 =>
      some (0, S10))
    else (
      zl ((-1) - r6) fun x11 =>
      some (x11, S7)))
  else (
    some (r1, S4))
set_option maxHeartbeats 4000000 in
set_option maxRecDepth 20000 in
theorem T_X11_draw {S S' : HS} {r : Int} (hW : WR shX S) (h : M_X11_draw S = some (r, S')) : zR shX yX11_draw cX11_draw 3  .int 19 [aR 0] S r S' := by
  refine zR_of (by decide +kernel) (Nat.le_of_ble_eq_true rfl) (fun z hz hN hF => ?_)
  have hz : zO z cX11_draw RX11 19 shX := hz
  show zA z 0 [(0, aR 0)] [] S
  unfold M_X11_draw at h
  refine s_aload_n 0 hz dX11_draw_0 rfl ?_
  refine s_getR 8 hz fl_X11_76 sx0 rfl (by decide) dX11_draw_1 ?_
  obtain ⟨r1, S2, hc2, h⟩ := zb_of h
  refine s_callV [] [] hz ml_X11_120 sv_yX7_read (T_X7_read hW hc2) (by decide) rfl sx42 rfl rfl (Nat.le_of_ble_eq_true rfl) dX11_draw_4 (fun rr1 hW2 => ?_)
  refine s_istore_n (l' := [(1, aI r1), (0, aR 0)]) hz hN dX11_draw_7 (by decide) rfl ?_
  refine s_aload_n 1 hz dX11_draw_8 rfl ?_
  refine s_getR 7 hz fl_X11_67 sx0 rfl (by decide) dX11_draw_9 ?_
  obtain ⟨r3, S4, hc4, h⟩ := zb_of h
  refine s_callVv [] [] hz ml_X11_124 sv_yX9_clear (T_X9_clear hW2 hc4) (by decide) rfl sx40 rfl rfl (Nat.le_of_ble_eq_true rfl) dX11_draw_12 (fun hW4 => ?_)
  refine s_iload_n 0 hz dX11_draw_15 rfl ?_
  refine s_if_eq 21 hz rr1 dX11_draw_16 rfl (fun c5 => ?_) (fun c5 => ?_)
  · have h := zif_t c5 h
    refine s_aload_n 1 hz dX11_draw_21 rfl ?_
    refine s_getR 9 hz fl_X11_85 sx0 rfl (by decide) dX11_draw_22 ?_
    obtain ⟨r6, S7, hc7, h⟩ := zb_of h
    refine s_callV [] [] hz ml_X11_127 sv_yX4_drawProgram (T_X4_drawProgram hW4 hc7) (by decide) rfl sx45 rfl rfl (Nat.le_of_ble_eq_true rfl) dX11_draw_25 (fun rr6 hW7 => ?_)
    refine s_istore_n (l' := [(2, aI r6), (1, aI r1), (0, aR 0)]) hz hN dX11_draw_28 (by decide) rfl ?_
    refine s_iload_n 0 hz dX11_draw_29 rfl ?_
    refine s_iconst hz dX11_draw_30 ?_
    refine s_icmp_eq 38 hz rr6 rl_m1 dX11_draw_31 rfl (fun c8 => ?_) (fun c8 => ?_)
    · have h := zif_t c8 h
      refine s_aload_n 2 hz dX11_draw_38 rfl ?_
      obtain ⟨r9, S10, hc10, h⟩ := zb_of h
      refine s_callVv [] [] hz ml_X11_104 sv_yX11_settle (T_X11_settle hW7 hc10) (by decide) rfl sx0 rfl rfl (Nat.le_of_ble_eq_true rfl) dX11_draw_39 (fun hW10 => ?_)
      refine s_iconst hz dX11_draw_42 ?_
      exact s_iret h hz hF rl_0 hW10 dX11_draw_43
    · have h := zif_f c8 h
      refine s_iconst hz dX11_draw_34 ?_
      refine s_iload_n 0 hz dX11_draw_35 rfl ?_
      refine s_isub hz dX11_draw_36 ?_
      obtain ⟨x11, ex11, rx11, h⟩ := zl_ex h
      rw [← ex11]
      exact s_iret h hz hF rx11 hW7 dX11_draw_37
  · have h := zif_f c5 h
    refine s_iload_n 0 hz dX11_draw_19 rfl ?_
    exact s_iret h hz hF rr1 hW4 dX11_draw_20
def M_X6_timesAddedTo (a1 : Int) (S : HS) : zO2 :=
  zb (M_X6_has a1 S) fun r1 S2 =>
  if r1 = 0 then (
    some (0, S2))
  else (
    zg ((0 : Int) ≤ a1 ∧ a1 < 24) <|
    some (S2 13 a1, S2))
set_option maxHeartbeats 4000000 in
set_option maxRecDepth 20000 in
theorem T_X6_timesAddedTo {a1 : Int} {S S' : HS} {r : Int} (ra1 : rng a1) (hW : WR shX S) (h : M_X6_timesAddedTo a1 S = some (r, S')) : zR shX yX6_timesAddedTo cX6_timesAddedTo 2  .int 2 [aR 7, aI a1] S r S' := by
  refine zR_of (by decide +kernel) (Nat.le_of_ble_eq_true rfl) (fun z hz hN hF => ?_)
  have hz : zO z cX6_timesAddedTo RX6 2 shX := hz
  show zA z 0 [(0, aR 7), (1, aI a1)] [] S
  unfold M_X6_timesAddedTo at h
  refine s_aload_n 0 hz dX6_timesAddedTo_0 rfl ?_
  refine s_iload_n 1 hz dX6_timesAddedTo_1 rfl ?_
  obtain ⟨r1, S2, hc2, h⟩ := zb_of h
  refine s_callV [aI a1] [] hz ml_X6_60 sv_yX6_has (T_X6_has ra1 hW hc2) (by decide) rfl sx7 rfl rfl (Nat.le_of_ble_eq_true rfl) dX6_timesAddedTo_2 (fun rr1 hW2 => ?_)
  refine s_if_eq 17 hz rr1 dX6_timesAddedTo_5 rfl (fun c3 => ?_) (fun c3 => ?_)
  · have h := zif_t c3 h
    refine s_iconst hz dX6_timesAddedTo_17 ?_
    exact s_iret h hz hF rl_0 hW2 dX6_timesAddedTo_18
  · have h := zif_f c3 h
    refine s_aload_n 0 hz dX6_timesAddedTo_8 rfl ?_
    refine s_getR 7 hz fl_X6_27 sx7 rfl (by decide) dX6_timesAddedTo_9 ?_
    refine s_iload_n 1 hz dX6_timesAddedTo_12 rfl ?_
    obtain ⟨g4, h⟩ := zg_of h
    refine s_iald hz sx13 rfl (by decide) g4 dX6_timesAddedTo_13 ?_
    refine s_goto 18 hz dX6_timesAddedTo_14 rfl ?_
    exact s_iret h hz hF (hW2 13 _ sx13 a1) hW2 dX6_timesAddedTo_18
def M_X6_knotWith (a1 : Int) (S : HS) : zO2 :=
  zb (M_X6_has a1 S) fun r1 S2 =>
  if r1 = 0 then (
    some ((-1), S2))
  else (
    zg ((0 : Int) ≤ a1 ∧ a1 < 24) <|
    some (S2 14 a1, S2))
set_option maxHeartbeats 4000000 in
set_option maxRecDepth 20000 in
theorem T_X6_knotWith {a1 : Int} {S S' : HS} {r : Int} (ra1 : rng a1) (hW : WR shX S) (h : M_X6_knotWith a1 S = some (r, S')) : zR shX yX6_knotWith cX6_knotWith 2  .int 2 [aR 7, aI a1] S r S' := by
  refine zR_of (by decide +kernel) (Nat.le_of_ble_eq_true rfl) (fun z hz hN hF => ?_)
  have hz : zO z cX6_knotWith RX6 2 shX := hz
  show zA z 0 [(0, aR 7), (1, aI a1)] [] S
  unfold M_X6_knotWith at h
  refine s_aload_n 0 hz dX6_knotWith_0 rfl ?_
  refine s_iload_n 1 hz dX6_knotWith_1 rfl ?_
  obtain ⟨r1, S2, hc2, h⟩ := zb_of h
  refine s_callV [aI a1] [] hz ml_X6_60 sv_yX6_has (T_X6_has ra1 hW hc2) (by decide) rfl sx7 rfl rfl (Nat.le_of_ble_eq_true rfl) dX6_knotWith_2 (fun rr1 hW2 => ?_)
  refine s_if_eq 17 hz rr1 dX6_knotWith_5 rfl (fun c3 => ?_) (fun c3 => ?_)
  · have h := zif_t c3 h
    refine s_iconst hz dX6_knotWith_17 ?_
    exact s_iret h hz hF rl_m1 hW2 dX6_knotWith_18
  · have h := zif_f c3 h
    refine s_aload_n 0 hz dX6_knotWith_8 rfl ?_
    refine s_getR 8 hz fl_X6_30 sx7 rfl (by decide) dX6_knotWith_9 ?_
    refine s_iload_n 1 hz dX6_knotWith_12 rfl ?_
    obtain ⟨g4, h⟩ := zg_of h
    refine s_iald hz sx14 rfl (by decide) g4 dX6_knotWith_13 ?_
    refine s_goto 18 hz dX6_knotWith_14 rfl ?_
    exact s_iret h hz hF (hW2 14 _ sx14 a1) hW2 dX6_knotWith_18
def M_X6_isTied (a1 : Int) (S : HS) : zO2 :=
  zb (M_X6_knotWith a1 S) fun r1 S2 =>
  if r1 = (-1) then (
    some (0, S2))
  else (
    some (1, S2))
set_option maxHeartbeats 4000000 in
set_option maxRecDepth 20000 in
theorem T_X6_isTied {a1 : Int} {S S' : HS} {r : Int} (ra1 : rng a1) (hW : WR shX S) (h : M_X6_isTied a1 S = some (r, S')) : zR shX yX6_isTied cX6_isTied 2  .boolean 3 [aR 7, aI a1] S r S' := by
  refine zR_of (by decide +kernel) (Nat.le_of_ble_eq_true rfl) (fun z hz hN hF => ?_)
  have hz : zO z cX6_isTied RX6 3 shX := hz
  show zA z 0 [(0, aR 7), (1, aI a1)] [] S
  unfold M_X6_isTied at h
  refine s_aload_n 0 hz dX6_isTied_0 rfl ?_
  refine s_iload_n 1 hz dX6_isTied_1 rfl ?_
  obtain ⟨r1, S2, hc2, h⟩ := zb_of h
  refine s_callV [aI a1] [] hz ml_X6_106 sv_yX6_knotWith (T_X6_knotWith ra1 hW hc2) (by decide) rfl sx7 rfl rfl (Nat.le_of_ble_eq_true rfl) dX6_isTied_2 (fun rr1 hW2 => ?_)
  refine s_iconst hz dX6_isTied_5 ?_
  refine s_icmp_eq 13 hz rr1 rl_m1 dX6_isTied_6 rfl (fun c3 => ?_) (fun c3 => ?_)
  · have h := zif_t c3 h
    refine s_iconst hz dX6_isTied_13 ?_
    exact s_zret h hz hF (by decide) hW2 dX6_isTied_14
  · have h := zif_f c3 h
    refine s_iconst hz dX6_isTied_9 ?_
    refine s_goto 14 hz dX6_isTied_10 rfl ?_
    exact s_zret h hz hF (by decide) hW2 dX6_isTied_14
def L_X4_undoLatest_44 (k85 : HS → zO2) (p1 : Int) (p2 : Int) : Nat → Int → HS → zO2
  | 0, _, _ => none
  | n + 1, v3, S => 
    if S 7 11 ≤ v3 then (
      k85 S)
    else (
      zb (M_X6_timesAddedTo v3 S) fun r6 S7 =>
      if 0 < r6 then (
        some ((-1), S7))
      else (
        zb (M_X6_isTied v3 S7) fun r9 S10 =>
        if r9 = 0 then (
          zl (v3 + 1) fun x12 =>
          L_X4_undoLatest_44 k85 p1 p2 n x12 S10)
        else (
          some ((-1), S10))))
set_option maxHeartbeats 4000000 in
set_option maxRecDepth 20000 in
theorem TL_X4_undoLatest_44 {k85 : HS → zO2} {p1 : Int} {p2 : Int} {r : Int} {S' : HS} {z : Zt} (hz : zO z cX4_undoLatest RX4 4 shX) (hN : zN z 4) (hF : zFi z shX .int r S') (hk85 : ∀ (S : HS), WR shX S → k85 S = some (r, S') → zA z 85 [(0, aR 45), (1, aI p1), (2, aI p2)] [] S) (rp1 : rng p1) (rp2 : rng p2) : ∀ (n : Nat) {v3 : Int} {S : HS}, rng v3 → WR shX S → L_X4_undoLatest_44 k85 p1 p2 n v3 S = some (r, S') → zA z 44 [(0, aR 45), (1, aI p1), (2, aI p2), (3, aI v3)] [] S := by
  intro n
  induction n with
  | zero =>
    intro _ _ _ _ h
    cases h
  | succ n ih =>
    intro v3 S rv3 hW h
    rw [L_X4_undoLatest_44.eq_2] at h
    refine s_iload_n 3 hz dX4_undoLatest_44 rfl ?_
    refine s_aload_n 0 hz dX4_undoLatest_45 rfl ?_
    refine s_getR 2 hz fl_X4_37 sx45 rfl (by decide) dX4_undoLatest_46 ?_
    refine s_getI (kz := 11) 11 hz fl_X4_46 sx7 rfl rfl dX4_undoLatest_49 ?_
    refine s_icmp_ge 85 hz rv3 (hW 7 _ sx7 11) dX4_undoLatest_52 rfl (fun c5 => ?_) (fun c5 => ?_)
    · have h := zif_t c5 h
      refine s_pick (l' := [(0, aR 45), (1, aI p1), (2, aI p2)]) [0, 1, 2] rfl ?_
      exact hk85 _ hW h
    · have h := zif_f c5 h
      refine s_aload_n 0 hz dX4_undoLatest_55 rfl ?_
      refine s_getR 2 hz fl_X4_37 sx45 rfl (by decide) dX4_undoLatest_56 ?_
      refine s_iload_n 3 hz dX4_undoLatest_59 rfl ?_
      obtain ⟨r6, S7, hc7, h⟩ := zb_of h
      refine s_callV [aI v3] [] hz ml_X4_67 sv_yX6_timesAddedTo (T_X6_timesAddedTo rv3 hW hc7) (by decide) rfl sx7 rfl rfl (Nat.le_of_ble_eq_true rfl) dX4_undoLatest_60 (fun rr6 hW7 => ?_)
      refine s_if_gt 77 hz rr6 dX4_undoLatest_63 rfl (fun c8 => ?_) (fun c8 => ?_)
      · have h := zif_t c8 h
        refine s_iconst hz dX4_undoLatest_77 ?_
        exact s_iret h hz hF rl_m1 hW7 dX4_undoLatest_78
      · have h := zif_f c8 h
        refine s_aload_n 0 hz dX4_undoLatest_66 rfl ?_
        refine s_getR 2 hz fl_X4_37 sx45 rfl (by decide) dX4_undoLatest_67 ?_
        refine s_iload_n 3 hz dX4_undoLatest_70 rfl ?_
        obtain ⟨r9, S10, hc10, h⟩ := zb_of h
        refine s_callV [aI v3] [] hz ml_X4_71 sv_yX6_isTied (T_X6_isTied rv3 hW7 hc10) (by decide) rfl sx7 rfl rfl (Nat.le_of_ble_eq_true rfl) dX4_undoLatest_71 (fun rr9 hW10 => ?_)
        refine s_if_eq 79 hz rr9 dX4_undoLatest_74 rfl (fun c11 => ?_) (fun c11 => ?_)
        · have h := zif_t c11 h
          obtain ⟨x12, ex12, rx12, h⟩ := zl_ex h
          refine s_iinc (k0 := 3) (y := x12) (l' := [(3, aI x12), (0, aR 45), (1, aI p1), (2, aI p2)]) hz hN dX4_undoLatest_79 rfl ex12.symm (by decide) rfl ?_
          refine s_goto 44 hz dX4_undoLatest_82 rfl ?_
          refine s_pick (l' := [(0, aR 45), (1, aI p1), (2, aI p2), (3, aI x12)]) [1, 2, 3, 0] rfl ?_
          exact ih rx12 hW10 h
        · have h := zif_f c11 h
          refine s_iconst hz dX4_undoLatest_77 ?_
          exact s_iret h hz hF rl_m1 hW10 dX4_undoLatest_78
def M_X4_undoLatest (S : HS) : zO2 :=
  if S 45 6 ≤ 0 then (
    some ((-1), S))
  else (
    if S 45 6 ≤ 84 then (
      zg ((0 : Int) ≤ (S 45 6) - 1 ∧ (S 45 6) - 1 < 84) <|
      zg ((0 : Int) ≤ (S 45 6) - 1 ∧ (S 45 6) - 1 < 84) <|
      L_X4_undoLatest_44 (fun S13 =>
          zl ((((S13 3 3) - (S 49 ((S 45 6) - 1))) + (S13 7 11)) - (S 50 ((S 45 6) - 1))) fun x14 =>
          zb (M_X5_cutTo (S 49 ((S 45 6) - 1)) S13) fun _ S16 =>
          zb (M_X6_cutTo (S 50 ((S 45 6) - 1)) S16) fun _ S18 =>
          zl ((S18 45 6) - 1) fun x19 =>
          zs (up S18 45 6 x19) fun S20 =>
          some (x14, S20)) (S 49 ((S 45 6) - 1)) (S 50 ((S 45 6) - 1)) zBig (S 50 ((S 45 6) - 1)) S)
    else (
      some ((-1), S)))
set_option maxHeartbeats 4000000 in
set_option maxRecDepth 20000 in
theorem T_X4_undoLatest {S S' : HS} {r : Int} (hW : WR shX S) (h : M_X4_undoLatest S = some (r, S')) : zR shX yX4_undoLatest cX4_undoLatest 4  .int 4 [aR 45] S r S' := by
  refine zR_of (by decide +kernel) (Nat.le_of_ble_eq_true rfl) (fun z hz hN hF => ?_)
  have hz : zO z cX4_undoLatest RX4 4 shX := hz
  show zA z 0 [(0, aR 45)] [] S
  unfold M_X4_undoLatest at h
  refine s_aload_n 0 hz dX4_undoLatest_0 rfl ?_
  refine s_getI (kz := 6) 6 hz fl_X4_25 sx45 rfl rfl dX4_undoLatest_1 ?_
  refine s_if_le 16 hz (hW 45 _ sx45 6) dX4_undoLatest_4 rfl (fun c1 => ?_) (fun c1 => ?_)
  · have h := zif_t c1 h
    refine s_iconst hz dX4_undoLatest_16 ?_
    exact s_iret h hz hF rl_m1 hW dX4_undoLatest_17
  · have h := zif_f c1 h
    refine s_aload_n 0 hz dX4_undoLatest_7 rfl ?_
    refine s_getI (kz := 6) 6 hz fl_X4_25 sx45 rfl rfl dX4_undoLatest_8 ?_
    refine s_bipush hz dX4_undoLatest_11 bp_84 ?_
    refine s_icmp_le 18 hz (hW 45 _ sx45 6) rl_84 dX4_undoLatest_13 rfl (fun c2 => ?_) (fun c2 => ?_)
    · have h := zif_t c2 h
      refine s_aload_n 0 hz dX4_undoLatest_18 rfl ?_
      refine s_getR 4 hz fl_X4_18 sx45 rfl (by decide) dX4_undoLatest_19 ?_
      refine s_aload_n 0 hz dX4_undoLatest_22 rfl ?_
      refine s_getI (kz := 6) 6 hz fl_X4_25 sx45 rfl rfl dX4_undoLatest_23 ?_
      refine s_iconst hz dX4_undoLatest_26 ?_
      refine s_isub hz dX4_undoLatest_27 ?_
      obtain ⟨g3, h⟩ := zg_of h
      refine s_iald hz sx49 rfl (by decide) g3 dX4_undoLatest_28 ?_
      refine s_istore_n (l' := [(1, aI (S 49 ((S 45 6) - 1))), (0, aR 45)]) hz hN dX4_undoLatest_29 (by decide) rfl ?_
      refine s_aload_n 1 hz dX4_undoLatest_30 rfl ?_
      refine s_getR 5 hz fl_X4_22 sx45 rfl (by decide) dX4_undoLatest_31 ?_
      refine s_aload_n 1 hz dX4_undoLatest_34 rfl ?_
      refine s_getI (kz := 6) 6 hz fl_X4_25 sx45 rfl rfl dX4_undoLatest_35 ?_
      refine s_iconst hz dX4_undoLatest_38 ?_
      refine s_isub hz dX4_undoLatest_39 ?_
      obtain ⟨g4, h⟩ := zg_of h
      refine s_iald hz sx50 rfl (by decide) g4 dX4_undoLatest_40 ?_
      refine s_istore_n (l' := [(2, aI (S 50 ((S 45 6) - 1))), (1, aI (S 49 ((S 45 6) - 1))), (0, aR 45)]) hz hN dX4_undoLatest_41 (by decide) rfl ?_
      refine s_iload_n 0 hz dX4_undoLatest_42 rfl ?_
      refine s_istore_n (l' := [(3, aI (S 50 ((S 45 6) - 1))), (2, aI (S 50 ((S 45 6) - 1))), (1, aI (S 49 ((S 45 6) - 1))), (0, aR 45)]) hz hN dX4_undoLatest_43 (by decide) rfl ?_
      refine s_pick (l' := [(0, aR 45), (1, aI (S 49 ((S 45 6) - 1))), (2, aI (S 50 ((S 45 6) - 1))), (3, aI (S 50 ((S 45 6) - 1)))]) [3, 2, 1, 0] rfl ?_
      refine TL_X4_undoLatest_44 hz hN hF ?_ (hW 49 _ sx49 ((S 45 6) - 1)) (hW 50 _ sx50 ((S 45 6) - 1)) zBig (hW 50 _ sx50 ((S 45 6) - 1)) hW h
      · clear h 
        intro S13 hW13 h
        refine s_aload_n 0 hz dX4_undoLatest_85 rfl ?_
        refine s_getR 1 hz fl_X4_33 sx45 rfl (by decide) dX4_undoLatest_86 ?_
        refine s_getI (kz := 3) 3 hz fl_X4_41 sx3 rfl rfl dX4_undoLatest_89 ?_
        refine s_iload_n 1 hz dX4_undoLatest_92 rfl ?_
        refine s_isub hz dX4_undoLatest_93 ?_
        refine s_aload_n 0 hz dX4_undoLatest_94 rfl ?_
        refine s_getR 2 hz fl_X4_37 sx45 rfl (by decide) dX4_undoLatest_95 ?_
        refine s_getI (kz := 11) 11 hz fl_X4_46 sx7 rfl rfl dX4_undoLatest_98 ?_
        refine s_iadd hz dX4_undoLatest_101 ?_
        refine s_iload_n 2 hz dX4_undoLatest_102 rfl ?_
        refine s_isub hz dX4_undoLatest_103 ?_
        obtain ⟨x14, ex14, rx14, h⟩ := zl_ex h
        rw [← ex14]
        refine s_istore_n (l' := [(3, aI x14), (0, aR 45), (1, aI (S 49 ((S 45 6) - 1))), (2, aI (S 50 ((S 45 6) - 1)))]) hz hN dX4_undoLatest_104 (by decide) rfl ?_
        refine s_aload_n 1 hz dX4_undoLatest_105 rfl ?_
        refine s_getR 1 hz fl_X4_33 sx45 rfl (by decide) dX4_undoLatest_106 ?_
        refine s_iload_n 2 hz dX4_undoLatest_109 rfl ?_
        obtain ⟨r15, S16, hc16, h⟩ := zb_of h
        refine s_callVv [aI (S 49 ((S 45 6) - 1))] [] hz ml_X4_62 sv_yX5_cutTo (T_X5_cutTo (hW 49 _ sx49 ((S 45 6) - 1)) hW13 hc16) (by decide) rfl sx3 rfl rfl (Nat.le_of_ble_eq_true rfl) dX4_undoLatest_110 (fun hW16 => ?_)
        refine s_aload_n 1 hz dX4_undoLatest_113 rfl ?_
        refine s_getR 2 hz fl_X4_37 sx45 rfl (by decide) dX4_undoLatest_114 ?_
        refine s_iload_n 3 hz dX4_undoLatest_117 rfl ?_
        obtain ⟨r17, S18, hc18, h⟩ := zb_of h
        refine s_callVv [aI (S 50 ((S 45 6) - 1))] [] hz ml_X4_66 sv_yX6_cutTo (T_X6_cutTo (hW 50 _ sx50 ((S 45 6) - 1)) hW16 hc18) (by decide) rfl sx7 rfl rfl (Nat.le_of_ble_eq_true rfl) dX4_undoLatest_118 (fun hW18 => ?_)
        refine s_aload_n 1 hz dX4_undoLatest_121 rfl ?_
        refine s_dup hz rfl dX4_undoLatest_122 ?_
        refine s_getI (kz := 6) 6 hz fl_X4_25 sx45 rfl rfl dX4_undoLatest_123 ?_
        refine s_iconst hz dX4_undoLatest_126 ?_
        refine s_isub hz dX4_undoLatest_127 ?_
        obtain ⟨x19, ex19, rx19, h⟩ := zl_ex h
        rw [← ex19]
        obtain ⟨S20, eS20, h⟩ := zs_ex h
        have hW20 : WR shX S20 := by rw [eS20]; exact hW18.up (i := 6) sx45 (v := x19) rx19
        refine s_putI (kz := 6) 6 hz fp_X4_25 sx45 rfl rfl dX4_undoLatest_128 ?_
        rw [← eS20]
        refine s_iload_n 0 hz dX4_undoLatest_131 rfl ?_
        exact s_iret h hz hF rx14 hW20 dX4_undoLatest_132
    · have h := zif_f c2 h
      refine s_iconst hz dX4_undoLatest_16 ?_
      exact s_iret h hz hF rl_m1 hW dX4_undoLatest_17
def M_X11_takeBack (S : HS) : zO2 :=
  zb (M_X4_undoLatest S) fun r1 S2 =>
  if r1 = (-1) then (
    some (r1, S2))
  else (
    zb (M_X11_settle S2) fun _ S5 =>
    some (r1, S5))
set_option maxHeartbeats 4000000 in
set_option maxRecDepth 20000 in
theorem T_X11_takeBack {S S' : HS} {r : Int} (hW : WR shX S) (h : M_X11_takeBack S = some (r, S')) : zR shX yX11_takeBack cX11_takeBack 2  .int 8 [aR 0] S r S' := by
  refine zR_of (by decide +kernel) (Nat.le_of_ble_eq_true rfl) (fun z hz hN hF => ?_)
  have hz : zO z cX11_takeBack RX11 8 shX := hz
  show zA z 0 [(0, aR 0)] [] S
  unfold M_X11_takeBack at h
  refine s_aload_n 0 hz dX11_takeBack_0 rfl ?_
  refine s_getR 9 hz fl_X11_85 sx0 rfl (by decide) dX11_takeBack_1 ?_
  obtain ⟨r1, S2, hc2, h⟩ := zb_of h
  refine s_callV [] [] hz ml_X11_130 sv_yX4_undoLatest (T_X4_undoLatest hW hc2) (by decide) rfl sx45 rfl rfl (Nat.le_of_ble_eq_true rfl) dX11_takeBack_4 (fun rr1 hW2 => ?_)
  refine s_istore_n (l' := [(1, aI r1), (0, aR 0)]) hz hN dX11_takeBack_7 (by decide) rfl ?_
  refine s_iload_n 0 hz dX11_takeBack_8 rfl ?_
  refine s_iconst hz dX11_takeBack_9 ?_
  refine s_icmp_eq 17 hz rr1 rl_m1 dX11_takeBack_10 rfl (fun c3 => ?_) (fun c3 => ?_)
  · have h := zif_t c3 h
    refine s_iload_n 0 hz dX11_takeBack_17 rfl ?_
    exact s_iret h hz hF rr1 hW2 dX11_takeBack_18
  · have h := zif_f c3 h
    refine s_aload_n 1 hz dX11_takeBack_13 rfl ?_
    obtain ⟨r4, S5, hc5, h⟩ := zb_of h
    refine s_callVv [] [] hz ml_X11_104 sv_yX11_settle (T_X11_settle hW2 hc5) (by decide) rfl sx0 rfl rfl (Nat.le_of_ble_eq_true rfl) dX11_takeBack_14 (fun hW5 => ?_)
    refine s_iload_n 0 hz dX11_takeBack_17 rfl ?_
    exact s_iret h hz hF rr1 hW5 dX11_takeBack_18
def M_X8_regionAt (a1 : Int) (S : HS) : zO2 :=
  zb (M_X11_isCell a1 S) fun r1 S2 =>
  if r1 = 0 then (
    some ((-1), S2))
  else (
    zg ((0 : Int) ≤ a1 ∧ a1 < 192) <|
    some (S2 18 a1, S2))
set_option maxHeartbeats 4000000 in
set_option maxRecDepth 20000 in
theorem T_X8_regionAt {a1 : Int} {S S' : HS} {r : Int} (ra1 : rng a1) (hW : WR shX S) (h : M_X8_regionAt a1 S = some (r, S')) : zR shX yX8_regionAt cX8_regionAt 2  .int 2 [aR 17, aI a1] S r S' := by
  refine zR_of (by decide +kernel) (Nat.le_of_ble_eq_true rfl) (fun z hz hN hF => ?_)
  have hz : zO z cX8_regionAt RX8 2 shX := hz
  show zA z 0 [(0, aR 17), (1, aI a1)] [] S
  unfold M_X8_regionAt at h
  refine s_iload_n 1 hz dX8_regionAt_0 rfl ?_
  obtain ⟨r1, S2, hc2, h⟩ := zb_of h
  refine s_callS [aI a1] [] hz ml_X8_39 ss_yX11_isCell (T_X11_isCell ra1 hW hc2) (by decide) rfl rfl (Nat.le_of_ble_eq_true rfl) dX8_regionAt_1 (fun rr1 hW2 => ?_)
  refine s_if_eq 16 hz rr1 dX8_regionAt_4 rfl (fun c3 => ?_) (fun c3 => ?_)
  · have h := zif_t c3 h
    refine s_iconst hz dX8_regionAt_16 ?_
    exact s_iret h hz hF rl_m1 hW2 dX8_regionAt_17
  · have h := zif_f c3 h
    refine s_aload_n 0 hz dX8_regionAt_7 rfl ?_
    refine s_getR 3 hz fl_X8_9 sx17 rfl (by decide) dX8_regionAt_8 ?_
    refine s_iload_n 1 hz dX8_regionAt_11 rfl ?_
    obtain ⟨g4, h⟩ := zg_of h
    refine s_iald hz sx18 rfl (by decide) g4 dX8_regionAt_12 ?_
    refine s_goto 17 hz dX8_regionAt_13 rfl ?_
    exact s_iret h hz hF (hW2 18 _ sx18 a1) hW2 dX8_regionAt_17
def M_X11_region (a1 : Int) (a2 : Int) (S : HS) : zO2 :=
  zb (M_X11_cellAt a1 a2 S) fun r1 S2 =>
  zb (M_X8_regionAt r1 S2) fun r3 S4 =>
  some (r3, S4)
set_option maxHeartbeats 4000000 in
set_option maxRecDepth 20000 in
theorem T_X11_region {a1 : Int} {a2 : Int} {S S' : HS} {r : Int} (ra1 : rng a1) (ra2 : rng a2) (hW : WR shX S) (h : M_X11_region a1 a2 S = some (r, S')) : zR shX yX11_region cX11_region 3  .int 3 [aR 0, aI a1, aI a2] S r S' := by
  refine zR_of (by decide +kernel) (Nat.le_of_ble_eq_true rfl) (fun z hz hN hF => ?_)
  have hz : zO z cX11_region RX11 3 shX := hz
  show zA z 0 [(0, aR 0), (1, aI a1), (2, aI a2)] [] S
  unfold M_X11_region at h
  refine s_aload_n 0 hz dX11_region_0 rfl ?_
  refine s_getR 3 hz fl_X11_37 sx0 rfl (by decide) dX11_region_1 ?_
  refine s_iload_n 1 hz dX11_region_4 rfl ?_
  refine s_iload_n 2 hz dX11_region_5 rfl ?_
  obtain ⟨r1, S2, hc2, h⟩ := zb_of h
  refine s_callS [aI a1, aI a2] [aR 17] hz ml_X11_92 ss_yX11_cellAt (T_X11_cellAt ra1 ra2 hW hc2) (by decide) rfl rfl (Nat.le_of_ble_eq_true rfl) dX11_region_6 (fun rr1 hW2 => ?_)
  obtain ⟨r3, S4, hc4, h⟩ := zb_of h
  refine s_callV [aI r1] [] hz ml_X11_133 sv_yX8_regionAt (T_X8_regionAt rr1 hW2 hc4) (by decide) rfl sx17 rfl rfl (Nat.le_of_ble_eq_true rfl) dX11_region_9 (fun rr3 hW4 => ?_)
  exact s_iret h hz hF rr3 hW4 dX11_region_12
def M_X8_takerAt (a1 : Int) (S : HS) : zO2 :=
  zb (M_X11_isCell a1 S) fun r1 S2 =>
  if r1 = 0 then (
    some ((-1), S2))
  else (
    zg ((0 : Int) ≤ a1 ∧ a1 < 192) <|
    some (S2 19 a1, S2))
set_option maxHeartbeats 4000000 in
set_option maxRecDepth 20000 in
theorem T_X8_takerAt {a1 : Int} {S S' : HS} {r : Int} (ra1 : rng a1) (hW : WR shX S) (h : M_X8_takerAt a1 S = some (r, S')) : zR shX yX8_takerAt cX8_takerAt 2  .int 2 [aR 17, aI a1] S r S' := by
  refine zR_of (by decide +kernel) (Nat.le_of_ble_eq_true rfl) (fun z hz hN hF => ?_)
  have hz : zO z cX8_takerAt RX8 2 shX := hz
  show zA z 0 [(0, aR 17), (1, aI a1)] [] S
  unfold M_X8_takerAt at h
  refine s_iload_n 1 hz dX8_takerAt_0 rfl ?_
  obtain ⟨r1, S2, hc2, h⟩ := zb_of h
  refine s_callS [aI a1] [] hz ml_X8_39 ss_yX11_isCell (T_X11_isCell ra1 hW hc2) (by decide) rfl rfl (Nat.le_of_ble_eq_true rfl) dX8_takerAt_1 (fun rr1 hW2 => ?_)
  refine s_if_eq 16 hz rr1 dX8_takerAt_4 rfl (fun c3 => ?_) (fun c3 => ?_)
  · have h := zif_t c3 h
    refine s_iconst hz dX8_takerAt_16 ?_
    exact s_iret h hz hF rl_m1 hW2 dX8_takerAt_17
  · have h := zif_f c3 h
    refine s_aload_n 0 hz dX8_takerAt_7 rfl ?_
    refine s_getR 4 hz fl_X8_15 sx17 rfl (by decide) dX8_takerAt_8 ?_
    refine s_iload_n 1 hz dX8_takerAt_11 rfl ?_
    obtain ⟨g4, h⟩ := zg_of h
    refine s_iald hz sx19 rfl (by decide) g4 dX8_takerAt_12 ?_
    refine s_goto 17 hz dX8_takerAt_13 rfl ?_
    exact s_iret h hz hF (hW2 19 _ sx19 a1) hW2 dX8_takerAt_17
def M_X11_taken (a1 : Int) (a2 : Int) (S : HS) : zO2 :=
  zb (M_X11_cellAt a1 a2 S) fun r1 S2 =>
  zb (M_X8_takerAt r1 S2) fun r3 S4 =>
  some (r3, S4)
set_option maxHeartbeats 4000000 in
set_option maxRecDepth 20000 in
theorem T_X11_taken {a1 : Int} {a2 : Int} {S S' : HS} {r : Int} (ra1 : rng a1) (ra2 : rng a2) (hW : WR shX S) (h : M_X11_taken a1 a2 S = some (r, S')) : zR shX yX11_taken cX11_taken 3  .int 3 [aR 0, aI a1, aI a2] S r S' := by
  refine zR_of (by decide +kernel) (Nat.le_of_ble_eq_true rfl) (fun z hz hN hF => ?_)
  have hz : zO z cX11_taken RX11 3 shX := hz
  show zA z 0 [(0, aR 0), (1, aI a1), (2, aI a2)] [] S
  unfold M_X11_taken at h
  refine s_aload_n 0 hz dX11_taken_0 rfl ?_
  refine s_getR 3 hz fl_X11_37 sx0 rfl (by decide) dX11_taken_1 ?_
  refine s_iload_n 1 hz dX11_taken_4 rfl ?_
  refine s_iload_n 2 hz dX11_taken_5 rfl ?_
  obtain ⟨r1, S2, hc2, h⟩ := zb_of h
  refine s_callS [aI a1, aI a2] [aR 17] hz ml_X11_92 ss_yX11_cellAt (T_X11_cellAt ra1 ra2 hW hc2) (by decide) rfl rfl (Nat.le_of_ble_eq_true rfl) dX11_taken_6 (fun rr1 hW2 => ?_)
  obtain ⟨r3, S4, hc4, h⟩ := zb_of h
  refine s_callV [aI r1] [] hz ml_X11_137 sv_yX8_takerAt (T_X8_takerAt rr1 hW2 hc4) (by decide) rfl sx17 rfl rfl (Nat.le_of_ble_eq_true rfl) dX11_taken_9 (fun rr3 hW4 => ?_)
  exact s_iret h hz hF rr3 hW4 dX11_taken_12
def M_X11_side (a1 : Int) (a2 : Int) (a3 : Int) (S : HS) : zO2 :=
  zb (M_X11_cellAt a1 a2 S) fun r1 S2 =>
  if r1 = (-1) then (
    some ((-1), S2))
  else (
    if a3 < 0 then (
      some ((-1), S2))
    else (
      if a3 < 4 then (
        zb (M_X5_isParted r1 a3 S2) fun r6 S7 =>
        if r6 = 0 then (
          some (0, S7))
        else (
          some (1, S7)))
      else (
        some ((-1), S2))))
set_option maxHeartbeats 4000000 in
set_option maxRecDepth 20000 in
theorem T_X11_side {a1 : Int} {a2 : Int} {a3 : Int} {S S' : HS} {r : Int} (ra1 : rng a1) (ra2 : rng a2) (ra3 : rng a3) (hW : WR shX S) (h : M_X11_side a1 a2 a3 S = some (r, S')) : zR shX yX11_side cX11_side 5  .int 3 [aR 0, aI a1, aI a2, aI a3] S r S' := by
  refine zR_of (by decide +kernel) (Nat.le_of_ble_eq_true rfl) (fun z hz hN hF => ?_)
  have hz : zO z cX11_side RX11 3 shX := hz
  show zA z 0 [(0, aR 0), (1, aI a1), (2, aI a2), (3, aI a3)] [] S
  unfold M_X11_side at h
  refine s_iload_n 1 hz dX11_side_0 rfl ?_
  refine s_iload_n 2 hz dX11_side_1 rfl ?_
  obtain ⟨r1, S2, hc2, h⟩ := zb_of h
  refine s_callS [aI a1, aI a2] [] hz ml_X11_92 ss_yX11_cellAt (T_X11_cellAt ra1 ra2 hW hc2) (by decide) rfl rfl (Nat.le_of_ble_eq_true rfl) dX11_side_2 (fun rr1 hW2 => ?_)
  refine s_istore (l' := [(4, aI r1), (0, aR 0), (1, aI a1), (2, aI a2), (3, aI a3)]) hz hN dX11_side_5 (by decide) rfl ?_
  refine s_iload 0 hz dX11_side_7 rfl ?_
  refine s_iconst hz dX11_side_9 ?_
  refine s_icmp_eq 22 hz rr1 rl_m1 dX11_side_10 rfl (fun c3 => ?_) (fun c3 => ?_)
  · have h := zif_t c3 h
    refine s_iconst hz dX11_side_22 ?_
    exact s_iret h hz hF rl_m1 hW2 dX11_side_23
  · have h := zif_f c3 h
    refine s_iload_n 4 hz dX11_side_13 rfl ?_
    refine s_if_lt 22 hz ra3 dX11_side_14 rfl (fun c4 => ?_) (fun c4 => ?_)
    · have h := zif_t c4 h
      refine s_iconst hz dX11_side_22 ?_
      exact s_iret h hz hF rl_m1 hW2 dX11_side_23
    · have h := zif_f c4 h
      refine s_iload_n 4 hz dX11_side_17 rfl ?_
      refine s_iconst hz dX11_side_18 ?_
      refine s_icmp_lt 24 hz ra3 rl_4 dX11_side_19 rfl (fun c5 => ?_) (fun c5 => ?_)
      · have h := zif_t c5 h
        refine s_aload_n 1 hz dX11_side_24 rfl ?_
        refine s_getR 1 hz fl_X11_19 sx0 rfl (by decide) dX11_side_25 ?_
        refine s_iload 0 hz dX11_side_28 rfl ?_
        refine s_iload_n 4 hz dX11_side_30 rfl ?_
        obtain ⟨r6, S7, hc7, h⟩ := zb_of h
        refine s_callV [aI r1, aI a3] [] hz ml_X11_140 sv_yX5_isParted (T_X5_isParted rr1 ra3 hW2 hc7) (by decide) rfl sx3 rfl rfl (Nat.le_of_ble_eq_true rfl) dX11_side_31 (fun rr6 hW7 => ?_)
        refine s_if_eq 41 hz rr6 dX11_side_34 rfl (fun c8 => ?_) (fun c8 => ?_)
        · have h := zif_t c8 h
          refine s_iconst hz dX11_side_41 ?_
          exact s_iret h hz hF rl_0 hW7 dX11_side_42
        · have h := zif_f c8 h
          refine s_iconst hz dX11_side_37 ?_
          refine s_goto 42 hz dX11_side_38 rfl ?_
          exact s_iret h hz hF rl_1 hW7 dX11_side_42
      · have h := zif_f c5 h
        refine s_iconst hz dX11_side_22 ?_
        exact s_iret h hz hF rl_m1 hW2 dX11_side_23
def M_X11_row (a1 : Int) (a2 : Int) (S : HS) : zO2 :=
  zb (M_X6_cellIn a1 a2 S) fun r1 S2 =>
  some (r1, S2)
set_option maxHeartbeats 4000000 in
set_option maxRecDepth 20000 in
theorem T_X11_row {a1 : Int} {a2 : Int} {S S' : HS} {r : Int} (ra1 : rng a1) (ra2 : rng a2) (hW : WR shX S) (h : M_X11_row a1 a2 S = some (r, S')) : zR shX yX11_row cX11_row 3  .int 3 [aR 0, aI a1, aI a2] S r S' := by
  refine zR_of (by decide +kernel) (Nat.le_of_ble_eq_true rfl) (fun z hz hN hF => ?_)
  have hz : zO z cX11_row RX11 3 shX := hz
  show zA z 0 [(0, aR 0), (1, aI a1), (2, aI a2)] [] S
  unfold M_X11_row at h
  refine s_aload_n 0 hz dX11_row_0 rfl ?_
  refine s_getR 2 hz fl_X11_28 sx0 rfl (by decide) dX11_row_1 ?_
  refine s_iload_n 1 hz dX11_row_4 rfl ?_
  refine s_iload_n 2 hz dX11_row_5 rfl ?_
  obtain ⟨r1, S2, hc2, h⟩ := zb_of h
  refine s_callV [aI a1, aI a2] [] hz ml_X11_144 sv_yX6_cellIn (T_X6_cellIn ra1 ra2 hW hc2) (by decide) rfl sx7 rfl rfl (Nat.le_of_ble_eq_true rfl) dX11_row_6 (fun rr1 hW2 => ?_)
  exact s_iret h hz hF rr1 hW2 dX11_row_9
def M_X3_put (a1 : Int) (a2 : Int) (a3 : Int) (a4 : Int) (S : HS) : zO2 :=
  if 60 ≤ S 23 4 then (
    some (0, S))
  else (
    zg ((0 : Int) ≤ S 23 4 ∧ S 23 4 < 60) <|
    zs (up S 24 (S 23 4) a1) fun S3 =>
    zg ((0 : Int) ≤ S3 23 4 ∧ S3 23 4 < 60) <|
    zs (up S3 25 (S3 23 4) a2) fun S5 =>
    zg ((0 : Int) ≤ S5 23 4 ∧ S5 23 4 < 60) <|
    zs (up S5 26 (S5 23 4) a3) fun S7 =>
    zg ((0 : Int) ≤ S7 23 4 ∧ S7 23 4 < 60) <|
    zs (up S7 27 (S7 23 4) a4) fun S9 =>
    zl ((S9 23 4) + 1) fun x10 =>
    zs (up S9 23 4 x10) fun S11 =>
    some (0, S11))
set_option maxHeartbeats 4000000 in
set_option maxRecDepth 20000 in
theorem T_X3_put {a1 : Int} {a2 : Int} {a3 : Int} {a4 : Int} {S S' : HS} {r : Int} (ra1 : rng a1) (ra2 : rng a2) (ra3 : rng a3) (ra4 : rng a4) (hW : WR shX S) (h : M_X3_put a1 a2 a3 a4 S = some (r, S')) : zV shX yX3_put cX3_put 5 1 [aR 23, aI a1, aI a2, aI a3, aI a4] S S' := by
  refine zV_of (by decide +kernel) (Nat.le_of_ble_eq_true rfl) (fun z hz hN hF => ?_)
  have hz : zO z cX3_put RX3 1 shX := hz
  show zA z 0 [(0, aR 23), (1, aI a1), (2, aI a2), (3, aI a3), (4, aI a4)] [] S
  unfold M_X3_put at h
  refine s_aload_n 0 hz dX3_put_0 rfl ?_
  refine s_getI (kz := 4) 4 hz fl_X3_24 sx23 rfl rfl dX3_put_1 ?_
  refine s_bipush hz dX3_put_4 bp_60 ?_
  refine s_icmp_ge 60 hz (hW 23 _ sx23 4) rl_60 dX3_put_6 rfl (fun c1 => ?_) (fun c1 => ?_)
  · have h := zif_t c1 h
    exact s_vret h hz hF hW dX3_put_60
  · have h := zif_f c1 h
    refine s_aload_n 0 hz dX3_put_9 rfl ?_
    refine s_getR 0 hz fl_X3_9 sx23 rfl (by decide) dX3_put_10 ?_
    refine s_aload_n 0 hz dX3_put_13 rfl ?_
    refine s_getI (kz := 4) 4 hz fl_X3_24 sx23 rfl rfl dX3_put_14 ?_
    refine s_iload_n 1 hz dX3_put_17 rfl ?_
    obtain ⟨g2, h⟩ := zg_of h
    obtain ⟨S3, eS3, h⟩ := zs_ex h
    have hW3 : WR shX S3 := by rw [eS3]; exact hW.up (i := (S 23 4)) sx24 (v := a1) ra1
    refine s_iast hz sx24 rfl (by decide) g2 dX3_put_18 ?_
    rw [← eS3]
    refine s_aload_n 0 hz dX3_put_19 rfl ?_
    refine s_getR 1 hz fl_X3_15 sx23 rfl (by decide) dX3_put_20 ?_
    refine s_aload_n 0 hz dX3_put_23 rfl ?_
    refine s_getI (kz := 4) 4 hz fl_X3_24 sx23 rfl rfl dX3_put_24 ?_
    refine s_iload_n 2 hz dX3_put_27 rfl ?_
    obtain ⟨g4, h⟩ := zg_of h
    obtain ⟨S5, eS5, h⟩ := zs_ex h
    have hW5 : WR shX S5 := by rw [eS5]; exact hW3.up (i := (S3 23 4)) sx25 (v := a2) ra2
    refine s_iast hz sx25 rfl (by decide) g4 dX3_put_28 ?_
    rw [← eS5]
    refine s_aload_n 0 hz dX3_put_29 rfl ?_
    refine s_getR 2 hz fl_X3_18 sx23 rfl (by decide) dX3_put_30 ?_
    refine s_aload_n 0 hz dX3_put_33 rfl ?_
    refine s_getI (kz := 4) 4 hz fl_X3_24 sx23 rfl rfl dX3_put_34 ?_
    refine s_iload_n 3 hz dX3_put_37 rfl ?_
    obtain ⟨g6, h⟩ := zg_of h
    obtain ⟨S7, eS7, h⟩ := zs_ex h
    have hW7 : WR shX S7 := by rw [eS7]; exact hW5.up (i := (S5 23 4)) sx26 (v := a3) ra3
    refine s_iast hz sx26 rfl (by decide) g6 dX3_put_38 ?_
    rw [← eS7]
    refine s_aload_n 0 hz dX3_put_39 rfl ?_
    refine s_getR 3 hz fl_X3_21 sx23 rfl (by decide) dX3_put_40 ?_
    refine s_aload_n 0 hz dX3_put_43 rfl ?_
    refine s_getI (kz := 4) 4 hz fl_X3_24 sx23 rfl rfl dX3_put_44 ?_
    refine s_iload 4 hz dX3_put_47 rfl ?_
    obtain ⟨g8, h⟩ := zg_of h
    obtain ⟨S9, eS9, h⟩ := zs_ex h
    have hW9 : WR shX S9 := by rw [eS9]; exact hW7.up (i := (S7 23 4)) sx27 (v := a4) ra4
    refine s_iast hz sx27 rfl (by decide) g8 dX3_put_49 ?_
    rw [← eS9]
    refine s_aload_n 0 hz dX3_put_50 rfl ?_
    refine s_dup hz rfl dX3_put_51 ?_
    refine s_getI (kz := 4) 4 hz fl_X3_24 sx23 rfl rfl dX3_put_52 ?_
    refine s_iconst hz dX3_put_55 ?_
    refine s_iadd hz dX3_put_56 ?_
    obtain ⟨x10, ex10, rx10, h⟩ := zl_ex h
    rw [← ex10]
    obtain ⟨S11, eS11, h⟩ := zs_ex h
    have hW11 : WR shX S11 := by rw [eS11]; exact hW9.up (i := 4) sx23 (v := x10) rx10
    refine s_putI (kz := 4) 4 hz fp_X3_24 sx23 rfl rfl dX3_put_57 ?_
    rw [← eS11]
    exact s_vret h hz hF hW11 dX3_put_60
def M_X6_noteAdded (a1 : Int) (a2 : Int) (a3 : Int) (S : HS) : zO2 :=
  zb (M_X6_has a1 S) fun r1 S2 =>
  if r1 = 0 then (
    some (0, S2))
  else (
    zb (M_X11_isCell a2 S2) fun r4 S5 =>
    if r4 = 0 then (
      some (0, S5))
    else (
      zg ((0 : Int) ≤ a1 ∧ a1 < 24) <|
      zl ((S5 13 a1) + 1) fun x8 =>
      zg ((0 : Int) ≤ a1 ∧ a1 < 24) <|
      zs (up S5 13 a1 x8) fun S10 =>
      zg ((0 : Int) ≤ a2 ∧ a2 < 192) <|
      zl ((S10 12 a2) + a3) fun x12 =>
      zg ((0 : Int) ≤ a2 ∧ a2 < 192) <|
      zs (up S10 12 a2 x12) fun S14 =>
      some (0, S14)))
set_option maxHeartbeats 4000000 in
set_option maxRecDepth 20000 in
theorem T_X6_noteAdded {a1 : Int} {a2 : Int} {a3 : Int} {S S' : HS} {r : Int} (ra1 : rng a1) (ra2 : rng a2) (ra3 : rng a3) (hW : WR shX S) (h : M_X6_noteAdded a1 a2 a3 S = some (r, S')) : zV shX yX6_noteAdded cX6_noteAdded 4 2 [aR 7, aI a1, aI a2, aI a3] S S' := by
  refine zV_of (by decide +kernel) (Nat.le_of_ble_eq_true rfl) (fun z hz hN hF => ?_)
  have hz : zO z cX6_noteAdded RX6 2 shX := hz
  show zA z 0 [(0, aR 7), (1, aI a1), (2, aI a2), (3, aI a3)] [] S
  unfold M_X6_noteAdded at h
  refine s_aload_n 0 hz dX6_noteAdded_0 rfl ?_
  refine s_iload_n 1 hz dX6_noteAdded_1 rfl ?_
  obtain ⟨r1, S2, hc2, h⟩ := zb_of h
  refine s_callV [aI a1] [] hz ml_X6_60 sv_yX6_has (T_X6_has ra1 hW hc2) (by decide) rfl sx7 rfl rfl (Nat.le_of_ble_eq_true rfl) dX6_noteAdded_2 (fun rr1 hW2 => ?_)
  refine s_if_eq 35 hz rr1 dX6_noteAdded_5 rfl (fun c3 => ?_) (fun c3 => ?_)
  · have h := zif_t c3 h
    exact s_vret h hz hF hW2 dX6_noteAdded_35
  · have h := zif_f c3 h
    refine s_iload_n 2 hz dX6_noteAdded_8 rfl ?_
    obtain ⟨r4, S5, hc5, h⟩ := zb_of h
    refine s_callS [aI a2] [] hz ml_X6_72 ss_yX11_isCell (T_X11_isCell ra2 hW2 hc5) (by decide) rfl rfl (Nat.le_of_ble_eq_true rfl) dX6_noteAdded_9 (fun rr4 hW5 => ?_)
    refine s_if_eq 35 hz rr4 dX6_noteAdded_12 rfl (fun c6 => ?_) (fun c6 => ?_)
    · have h := zif_t c6 h
      exact s_vret h hz hF hW5 dX6_noteAdded_35
    · have h := zif_f c6 h
      refine s_aload_n 0 hz dX6_noteAdded_15 rfl ?_
      refine s_getR 7 hz fl_X6_27 sx7 rfl (by decide) dX6_noteAdded_16 ?_
      refine s_iload_n 1 hz dX6_noteAdded_19 rfl ?_
      refine s_dup2 hz rfl rfl dX6_noteAdded_20 ?_
      obtain ⟨g7, h⟩ := zg_of h
      refine s_iald hz sx13 rfl (by decide) g7 dX6_noteAdded_21 ?_
      refine s_iconst hz dX6_noteAdded_22 ?_
      refine s_iadd hz dX6_noteAdded_23 ?_
      obtain ⟨x8, ex8, rx8, h⟩ := zl_ex h
      rw [← ex8]
      obtain ⟨g9, h⟩ := zg_of h
      obtain ⟨S10, eS10, h⟩ := zs_ex h
      have hW10 : WR shX S10 := by rw [eS10]; exact hW5.up (i := a1) sx13 (v := x8) rx8
      refine s_iast hz sx13 rfl (by decide) g9 dX6_noteAdded_24 ?_
      rw [← eS10]
      refine s_aload_n 0 hz dX6_noteAdded_25 rfl ?_
      refine s_getR 6 hz fl_X6_24 sx7 rfl (by decide) dX6_noteAdded_26 ?_
      refine s_iload_n 2 hz dX6_noteAdded_29 rfl ?_
      refine s_dup2 hz rfl rfl dX6_noteAdded_30 ?_
      obtain ⟨g11, h⟩ := zg_of h
      refine s_iald hz sx12 rfl (by decide) g11 dX6_noteAdded_31 ?_
      refine s_iload_n 3 hz dX6_noteAdded_32 rfl ?_
      refine s_iadd hz dX6_noteAdded_33 ?_
      obtain ⟨x12, ex12, rx12, h⟩ := zl_ex h
      rw [← ex12]
      obtain ⟨g13, h⟩ := zg_of h
      obtain ⟨S14, eS14, h⟩ := zs_ex h
      have hW14 : WR shX S14 := by rw [eS14]; exact hW10.up (i := a2) sx12 (v := x12) rx12
      refine s_iast hz sx12 rfl (by decide) g13 dX6_noteAdded_34 ?_
      rw [← eS14]
      exact s_vret h hz hF hW14 dX6_noteAdded_35
def J_X11_added_24 (v1 : Int) (v2 : Int) (v3 : Int) (v4 : Int) (t0 : Int) (S : HS) : zO2 :=
  zb (M_X6_cellIn v1 v2 S) fun r2 S3 =>
  if r2 = (-1) then (
    some ((-1), S3))
  else (
    if t0 = 0 then (
      some ((-1), S3))
    else (
      if S3 23 4 < 60 then (
        zb (M_X3_put v1 v2 v3 v4 S3) fun _ S8 =>
        zb (M_X6_noteAdded v1 r2 v3 S8) fun _ S10 =>
        zb (M_X0_settle S10) fun _ S12 =>
        some (S12 23 4, S12))
      else (
        some ((-1), S3))))
set_option maxHeartbeats 4000000 in
set_option maxRecDepth 20000 in
theorem TJ_X11_added_24 {v1 : Int} {v2 : Int} {v3 : Int} {v4 : Int} {t0 : Int} {S : HS} {r : Int} {S' : HS} {z : Zt} (hz : zO z cX11_added RX11 5 shX) (hN : zN z 7) (hF : zFi z shX .int r S') (rv1 : rng v1) (rv2 : rng v2) (rv3 : rng v3) (rv4 : rng v4) (rt0 : rng t0) (hW : WR shX S) (h : J_X11_added_24 v1 v2 v3 v4 t0 S = some (r, S')) : zA z 24 [(0, aR 0), (1, aI v1), (2, aI v2), (3, aI v3), (4, aI v4)] [aI t0] S := by
  unfold J_X11_added_24 at h
  refine s_istore (l' := [(5, aI t0), (0, aR 0), (1, aI v1), (2, aI v2), (3, aI v3), (4, aI v4)]) hz hN dX11_added_24 (by decide) rfl ?_
  refine s_aload_n 1 hz dX11_added_26 rfl ?_
  refine s_getR 2 hz fl_X11_28 sx0 rfl (by decide) dX11_added_27 ?_
  refine s_iload_n 2 hz dX11_added_30 rfl ?_
  refine s_iload_n 3 hz dX11_added_31 rfl ?_
  obtain ⟨r2, S3, hc3, h⟩ := zb_of h
  refine s_callV [aI v1, aI v2] [] hz ml_X11_144 sv_yX6_cellIn (T_X6_cellIn rv1 rv2 hW hc3) (by decide) rfl sx7 rfl rfl (Nat.le_of_ble_eq_true rfl) dX11_added_32 (fun rr2 hW3 => ?_)
  refine s_istore (l' := [(6, aI r2), (5, aI t0), (0, aR 0), (1, aI v1), (2, aI v2), (3, aI v3), (4, aI v4)]) hz hN dX11_added_35 (by decide) rfl ?_
  refine s_iload 0 hz dX11_added_37 rfl ?_
  refine s_iconst hz dX11_added_39 ?_
  refine s_icmp_eq 60 hz rr2 rl_m1 dX11_added_40 rfl (fun c4 => ?_) (fun c4 => ?_)
  · have h := zif_t c4 h
    refine s_iconst hz dX11_added_60 ?_
    exact s_iret h hz hF rl_m1 hW3 dX11_added_61
  · have h := zif_f c4 h
    refine s_iload 1 hz dX11_added_43 rfl ?_
    refine s_if_eq 60 hz rt0 dX11_added_45 rfl (fun c5 => ?_) (fun c5 => ?_)
    · have h := zif_t c5 h
      refine s_iconst hz dX11_added_60 ?_
      exact s_iret h hz hF rl_m1 hW3 dX11_added_61
    · have h := zif_f c5 h
      refine s_aload_n 2 hz dX11_added_48 rfl ?_
      refine s_getR 4 hz fl_X11_44 sx0 rfl (by decide) dX11_added_49 ?_
      refine s_getI (kz := 4) 4 hz fl_X11_162 sx23 rfl rfl dX11_added_52 ?_
      refine s_bipush hz dX11_added_55 bp_60 ?_
      refine s_icmp_lt 62 hz (hW3 23 _ sx23 4) rl_60 dX11_added_57 rfl (fun c6 => ?_) (fun c6 => ?_)
      · have h := zif_t c6 h
        refine s_aload_n 2 hz dX11_added_62 rfl ?_
        refine s_getR 4 hz fl_X11_44 sx0 rfl (by decide) dX11_added_63 ?_
        refine s_iload_n 3 hz dX11_added_66 rfl ?_
        refine s_iload_n 4 hz dX11_added_67 rfl ?_
        refine s_iload_n 5 hz dX11_added_68 rfl ?_
        refine s_iload 6 hz dX11_added_69 rfl ?_
        obtain ⟨r7, S8, hc8, h⟩ := zb_of h
        refine s_callVv [aI v1, aI v2, aI v3, aI v4] [] hz ml_X11_163 sv_yX3_put (T_X3_put rv1 rv2 rv3 rv4 hW3 hc8) (by decide) rfl sx23 rfl rfl (Nat.le_of_ble_eq_true rfl) dX11_added_71 (fun hW8 => ?_)
        refine s_aload_n 2 hz dX11_added_74 rfl ?_
        refine s_getR 2 hz fl_X11_28 sx0 rfl (by decide) dX11_added_75 ?_
        refine s_iload_n 3 hz dX11_added_78 rfl ?_
        refine s_iload 0 hz dX11_added_79 rfl ?_
        refine s_iload_n 5 hz dX11_added_81 rfl ?_
        obtain ⟨r9, S10, hc10, h⟩ := zb_of h
        refine s_callVv [aI v1, aI r2, aI v3] [] hz ml_X11_167 sv_yX6_noteAdded (T_X6_noteAdded rv1 rr2 rv3 hW8 hc10) (by decide) rfl sx7 rfl rfl (Nat.le_of_ble_eq_true rfl) dX11_added_82 (fun hW10 => ?_)
        refine s_aload_n 2 hz dX11_added_85 rfl ?_
        refine s_getR 5 hz fl_X11_53 sx0 rfl (by decide) dX11_added_86 ?_
        obtain ⟨r11, S12, hc12, h⟩ := zb_of h
        refine s_callVv [] [] hz ml_X11_171 sv_yX0_settle (T_X0_settle hW10 hc12) (by decide) rfl sx28 rfl rfl (Nat.le_of_ble_eq_true rfl) dX11_added_89 (fun hW12 => ?_)
        refine s_aload_n 2 hz dX11_added_92 rfl ?_
        refine s_getR 4 hz fl_X11_44 sx0 rfl (by decide) dX11_added_93 ?_
        refine s_getI (kz := 4) 4 hz fl_X11_162 sx23 rfl rfl dX11_added_96 ?_
        exact s_iret h hz hF (hW12 23 _ sx23 4) hW12 dX11_added_99
      · have h := zif_f c6 h
        refine s_iconst hz dX11_added_60 ?_
        exact s_iret h hz hF rl_m1 hW3 dX11_added_61
def J_X11_added_23 (v1 : Int) (v2 : Int) (v3 : Int) (v4 : Int) (S : HS) : zO2 :=
  J_X11_added_24 v1 v2 v3 v4 0 S
set_option maxHeartbeats 4000000 in
set_option maxRecDepth 20000 in
theorem TJ_X11_added_23 {v1 : Int} {v2 : Int} {v3 : Int} {v4 : Int} {S : HS} {r : Int} {S' : HS} {z : Zt} (hz : zO z cX11_added RX11 5 shX) (hN : zN z 7) (hF : zFi z shX .int r S') (rv1 : rng v1) (rv2 : rng v2) (rv3 : rng v3) (rv4 : rng v4) (hW : WR shX S) (h : J_X11_added_23 v1 v2 v3 v4 S = some (r, S')) : zA z 23 [(0, aR 0), (1, aI v1), (2, aI v2), (3, aI v3), (4, aI v4)] [] S := by
  unfold J_X11_added_23 at h
  refine s_iconst hz dX11_added_23 ?_
  exact TJ_X11_added_24 hz hN hF rv1 rv2 rv3 rv4 rl_0 hW h
def M_X11_added (a1 : Int) (a2 : Int) (a3 : Int) (a4 : Int) (S : HS) : zO2 :=
  if a3 < 1 then (
    J_X11_added_23 a1 a2 a3 a4 S)
  else (
    if 99 < a3 then (
      J_X11_added_23 a1 a2 a3 a4 S)
    else (
      zb (M_X11_isLength a4 S) fun r14 S15 =>
      if r14 = 0 then (
        J_X11_added_23 a1 a2 a3 a4 S15)
      else (
        J_X11_added_24 a1 a2 a3 a4 1 S15)))
set_option maxHeartbeats 4000000 in
set_option maxRecDepth 20000 in
theorem T_X11_added {a1 : Int} {a2 : Int} {a3 : Int} {a4 : Int} {S S' : HS} {r : Int} (ra1 : rng a1) (ra2 : rng a2) (ra3 : rng a3) (ra4 : rng a4) (hW : WR shX S) (h : M_X11_added a1 a2 a3 a4 S = some (r, S')) : zR shX yX11_added cX11_added 7  .int 5 [aR 0, aI a1, aI a2, aI a3, aI a4] S r S' := by
  refine zR_of (by decide +kernel) (Nat.le_of_ble_eq_true rfl) (fun z hz hN hF => ?_)
  have hz : zO z cX11_added RX11 5 shX := hz
  show zA z 0 [(0, aR 0), (1, aI a1), (2, aI a2), (3, aI a3), (4, aI a4)] [] S
  unfold M_X11_added at h
  refine s_iload_n 3 hz dX11_added_0 rfl ?_
  refine s_iconst hz dX11_added_1 ?_
  refine s_icmp_lt 23 hz ra3 rl_1 dX11_added_2 rfl (fun c1 => ?_) (fun c1 => ?_)
  · have h := zif_t c1 h
    exact TJ_X11_added_23 hz hN hF ra1 ra2 ra3 ra4 hW h
  · have h := zif_f c1 h
    refine s_iload_n 3 hz dX11_added_5 rfl ?_
    refine s_bipush hz dX11_added_6 bp_99 ?_
    refine s_icmp_gt 23 hz ra3 rl_99 dX11_added_8 rfl (fun c13 => ?_) (fun c13 => ?_)
    · have h := zif_t c13 h
      exact TJ_X11_added_23 hz hN hF ra1 ra2 ra3 ra4 hW h
    · have h := zif_f c13 h
      refine s_iload 4 hz dX11_added_11 rfl ?_
      obtain ⟨r14, S15, hc15, h⟩ := zb_of h
      refine s_callS [aI a4] [] hz ml_X11_105 ss_yX11_isLength (T_X11_isLength ra4 hW hc15) (by decide) rfl rfl (Nat.le_of_ble_eq_true rfl) dX11_added_13 (fun rr14 hW15 => ?_)
      refine s_if_eq 23 hz rr14 dX11_added_16 rfl (fun c16 => ?_) (fun c16 => ?_)
      · have h := zif_t c16 h
        exact TJ_X11_added_23 hz hN hF ra1 ra2 ra3 ra4 hW15 h
      · have h := zif_f c16 h
        refine s_iconst hz dX11_added_19 ?_
        refine s_goto 24 hz dX11_added_20 rfl ?_
        exact TJ_X11_added_24 hz hN hF ra1 ra2 ra3 ra4 rl_1 hW15 h
def M_X0_weightAt (a1 : Int) (a2 : Int) (S : HS) : zO2 :=
  zb (M_X11_isCell a1 S) fun r1 S2 =>
  if r1 = 0 then (
    some (0, S2))
  else (
    if a2 = 0 then (
      zg ((0 : Int) ≤ a1 ∧ a1 < 192) <|
      some (S2 29 a1, S2))
    else (
      if a2 = 1 then (
        zg ((0 : Int) ≤ a1 ∧ a1 < 192) <|
        some (S2 30 a1, S2))
      else (
        zg ((0 : Int) ≤ a1 ∧ a1 < 192) <|
        some (S2 31 a1, S2))))
set_option maxHeartbeats 4000000 in
set_option maxRecDepth 20000 in
theorem T_X0_weightAt {a1 : Int} {a2 : Int} {S S' : HS} {r : Int} (ra1 : rng a1) (ra2 : rng a2) (hW : WR shX S) (h : M_X0_weightAt a1 a2 S = some (r, S')) : zR shX yX0_weightAt cX0_weightAt 3  .int 2 [aR 28, aI a1, aI a2] S r S' := by
  refine zR_of (by decide +kernel) (Nat.le_of_ble_eq_true rfl) (fun z hz hN hF => ?_)
  have hz : zO z cX0_weightAt RX0 2 shX := hz
  show zA z 0 [(0, aR 28), (1, aI a1), (2, aI a2)] [] S
  unfold M_X0_weightAt at h
  refine s_iload_n 1 hz dX0_weightAt_0 rfl ?_
  obtain ⟨r1, S2, hc2, h⟩ := zb_of h
  refine s_callS [aI a1] [] hz ml_X0_73 ss_yX11_isCell (T_X11_isCell ra1 hW hc2) (by decide) rfl rfl (Nat.le_of_ble_eq_true rfl) dX0_weightAt_1 (fun rr1 hW2 => ?_)
  refine s_if_ne 9 hz rr1 dX0_weightAt_4 rfl (fun c3 => ?_) (fun c3 => ?_)
  · have h := zif_f c3 h
    refine s_iload_n 2 hz dX0_weightAt_9 rfl ?_
    refine s_if_ne 22 hz ra2 dX0_weightAt_10 rfl (fun c4 => ?_) (fun c4 => ?_)
    · have h := zif_f c4 h
      refine s_iload_n 2 hz dX0_weightAt_22 rfl ?_
      refine s_iconst hz dX0_weightAt_23 ?_
      refine s_icmp_ne 36 hz ra2 rl_1 dX0_weightAt_24 rfl (fun c5 => ?_) (fun c5 => ?_)
      · have h := zif_f c5 h
        refine s_aload_n 0 hz dX0_weightAt_36 rfl ?_
        refine s_getR 6 hz fl_X0_18 sx28 rfl (by decide) dX0_weightAt_37 ?_
        refine s_iload_n 1 hz dX0_weightAt_40 rfl ?_
        obtain ⟨g6, h⟩ := zg_of h
        refine s_iald hz sx31 rfl (by decide) g6 dX0_weightAt_41 ?_
        exact s_iret h hz hF (hW2 31 _ sx31 a1) hW2 dX0_weightAt_42
      · have h := zif_t c5 h
        refine s_aload_n 0 hz dX0_weightAt_27 rfl ?_
        refine s_getR 5 hz fl_X0_15 sx28 rfl (by decide) dX0_weightAt_28 ?_
        refine s_iload_n 1 hz dX0_weightAt_31 rfl ?_
        obtain ⟨g7, h⟩ := zg_of h
        refine s_iald hz sx30 rfl (by decide) g7 dX0_weightAt_32 ?_
        refine s_goto 42 hz dX0_weightAt_33 rfl ?_
        exact s_iret h hz hF (hW2 30 _ sx30 a1) hW2 dX0_weightAt_42
    · have h := zif_t c4 h
      refine s_aload_n 0 hz dX0_weightAt_13 rfl ?_
      refine s_getR 4 hz fl_X0_9 sx28 rfl (by decide) dX0_weightAt_14 ?_
      refine s_iload_n 1 hz dX0_weightAt_17 rfl ?_
      obtain ⟨g8, h⟩ := zg_of h
      refine s_iald hz sx29 rfl (by decide) g8 dX0_weightAt_18 ?_
      refine s_goto 42 hz dX0_weightAt_19 rfl ?_
      exact s_iret h hz hF (hW2 29 _ sx29 a1) hW2 dX0_weightAt_42
  · have h := zif_t c3 h
    refine s_iconst hz dX0_weightAt_7 ?_
    exact s_iret h hz hF rl_0 hW2 dX0_weightAt_8
def M_X0_greatestAt (a1 : Int) (S : HS) : zO2 :=
  zb (M_X0_weightAt a1 0 S) fun r1 S2 =>
  zb (M_X0_weightAt a1 1 S2) fun r3 S4 =>
  zb (M_X0_weightAt a1 2 S4) fun r5 S6 =>
  some (max r1 (max r3 r5), S6)
set_option maxHeartbeats 4000000 in
set_option maxRecDepth 20000 in
theorem T_X0_greatestAt {a1 : Int} {S S' : HS} {r : Int} (ra1 : rng a1) (hW : WR shX S) (h : M_X0_greatestAt a1 S = some (r, S')) : zR shX yX0_greatestAt cX0_greatestAt 2  .int 3 [aR 28, aI a1] S r S' := by
  refine zR_of (by decide +kernel) (Nat.le_of_ble_eq_true rfl) (fun z hz hN hF => ?_)
  have hz : zO z cX0_greatestAt RX0 3 shX := hz
  show zA z 0 [(0, aR 28), (1, aI a1)] [] S
  unfold M_X0_greatestAt at h
  refine s_aload_n 0 hz dX0_greatestAt_0 rfl ?_
  refine s_iload_n 1 hz dX0_greatestAt_1 rfl ?_
  refine s_iconst hz dX0_greatestAt_2 ?_
  obtain ⟨r1, S2, hc2, h⟩ := zb_of h
  refine s_callV [aI a1, aI 0] [] hz ml_X0_77 sv_yX0_weightAt (T_X0_weightAt ra1 rl_0 hW hc2) (by decide) rfl sx28 rfl rfl (Nat.le_of_ble_eq_true rfl) dX0_greatestAt_3 (fun rr1 hW2 => ?_)
  refine s_aload_n 0 hz dX0_greatestAt_6 rfl ?_
  refine s_iload_n 1 hz dX0_greatestAt_7 rfl ?_
  refine s_iconst hz dX0_greatestAt_8 ?_
  obtain ⟨r3, S4, hc4, h⟩ := zb_of h
  refine s_callV [aI a1, aI 1] [aI r1] hz ml_X0_77 sv_yX0_weightAt (T_X0_weightAt ra1 rl_1 hW2 hc4) (by decide) rfl sx28 rfl rfl (Nat.le_of_ble_eq_true rfl) dX0_greatestAt_9 (fun rr3 hW4 => ?_)
  refine s_aload_n 0 hz dX0_greatestAt_12 rfl ?_
  refine s_iload_n 1 hz dX0_greatestAt_13 rfl ?_
  refine s_iconst hz dX0_greatestAt_14 ?_
  obtain ⟨r5, S6, hc6, h⟩ := zb_of h
  refine s_callV [aI a1, aI 2] [aI r3, aI r1] hz ml_X0_77 sv_yX0_weightAt (T_X0_weightAt ra1 rl_2 hW4 hc6) (by decide) rfl sx28 rfl rfl (Nat.le_of_ble_eq_true rfl) dX0_greatestAt_15 (fun rr5 hW6 => ?_)
  refine s_max hz mj_X0_85 (by decide) rr3 rr5 (Nat.le_of_ble_eq_true rfl) dX0_greatestAt_18 ?_
  refine s_max hz mj_X0_85 (by decide) rr1 (zmax_r rr3 rr5) (Nat.le_of_ble_eq_true rfl) dX0_greatestAt_21 ?_
  exact s_iret h hz hF (zmax_r rr1 (zmax_r rr3 rr5)) hW6 dX0_greatestAt_24
def M_X0_leastAt (a1 : Int) (S : HS) : zO2 :=
  zb (M_X0_weightAt a1 0 S) fun r1 S2 =>
  zb (M_X0_weightAt a1 1 S2) fun r3 S4 =>
  zb (M_X0_weightAt a1 2 S4) fun r5 S6 =>
  some (min r1 (min r3 r5), S6)
set_option maxHeartbeats 4000000 in
set_option maxRecDepth 20000 in
theorem T_X0_leastAt {a1 : Int} {S S' : HS} {r : Int} (ra1 : rng a1) (hW : WR shX S) (h : M_X0_leastAt a1 S = some (r, S')) : zR shX yX0_leastAt cX0_leastAt 2  .int 3 [aR 28, aI a1] S r S' := by
  refine zR_of (by decide +kernel) (Nat.le_of_ble_eq_true rfl) (fun z hz hN hF => ?_)
  have hz : zO z cX0_leastAt RX0 3 shX := hz
  show zA z 0 [(0, aR 28), (1, aI a1)] [] S
  unfold M_X0_leastAt at h
  refine s_aload_n 0 hz dX0_leastAt_0 rfl ?_
  refine s_iload_n 1 hz dX0_leastAt_1 rfl ?_
  refine s_iconst hz dX0_leastAt_2 ?_
  obtain ⟨r1, S2, hc2, h⟩ := zb_of h
  refine s_callV [aI a1, aI 0] [] hz ml_X0_77 sv_yX0_weightAt (T_X0_weightAt ra1 rl_0 hW hc2) (by decide) rfl sx28 rfl rfl (Nat.le_of_ble_eq_true rfl) dX0_leastAt_3 (fun rr1 hW2 => ?_)
  refine s_aload_n 0 hz dX0_leastAt_6 rfl ?_
  refine s_iload_n 1 hz dX0_leastAt_7 rfl ?_
  refine s_iconst hz dX0_leastAt_8 ?_
  obtain ⟨r3, S4, hc4, h⟩ := zb_of h
  refine s_callV [aI a1, aI 1] [aI r1] hz ml_X0_77 sv_yX0_weightAt (T_X0_weightAt ra1 rl_1 hW2 hc4) (by decide) rfl sx28 rfl rfl (Nat.le_of_ble_eq_true rfl) dX0_leastAt_9 (fun rr3 hW4 => ?_)
  refine s_aload_n 0 hz dX0_leastAt_12 rfl ?_
  refine s_iload_n 1 hz dX0_leastAt_13 rfl ?_
  refine s_iconst hz dX0_leastAt_14 ?_
  obtain ⟨r5, S6, hc6, h⟩ := zb_of h
  refine s_callV [aI a1, aI 2] [aI r3, aI r1] hz ml_X0_77 sv_yX0_weightAt (T_X0_weightAt ra1 rl_2 hW4 hc6) (by decide) rfl sx28 rfl rfl (Nat.le_of_ble_eq_true rfl) dX0_leastAt_15 (fun rr5 hW6 => ?_)
  refine s_min hz mj_X0_80 (by decide) rr3 rr5 (Nat.le_of_ble_eq_true rfl) dX0_leastAt_18 ?_
  refine s_min hz mj_X0_80 (by decide) rr1 (zmin_r rr3 rr5) (Nat.le_of_ble_eq_true rfl) dX0_leastAt_21 ?_
  exact s_iret h hz hF (zmin_r rr1 (zmin_r rr3 rr5)) hW6 dX0_leastAt_24
def L_X2_isEdge_2 (p1 : Int) : Nat → Int → HS → zO2
  | 0, _, _ => none
  | n + 1, v2, S => 
    if 4 ≤ v2 then (
      some (0, S))
    else (
      zb (M_X11_cellBeside p1 v2 S) fun r2 S3 =>
      zb (M_X2_isScalp r2 S3) fun r4 S5 =>
      if r4 = 0 then (
        some (1, S5))
      else (
        zl (v2 + 1) fun x7 =>
        L_X2_isEdge_2 p1 n x7 S5))
set_option maxHeartbeats 4000000 in
set_option maxRecDepth 20000 in
theorem TL_X2_isEdge_2 {p1 : Int} {r : Int} {S' : HS} {z : Zt} (hz : zO z cX2_isEdge RX2 3 shX) (hN : zN z 3) (hF : zFi z shX .boolean r S') (rp1 : rng p1) : ∀ (n : Nat) {v2 : Int} {S : HS}, rng v2 → WR shX S → L_X2_isEdge_2 p1 n v2 S = some (r, S') → zA z 2 [(0, aR 1), (1, aI p1), (2, aI v2)] [] S := by
  intro n
  induction n with
  | zero =>
    intro _ _ _ _ h
    cases h
  | succ n ih =>
    intro v2 S rv2 hW h
    rw [L_X2_isEdge_2.eq_2] at h
    refine s_iload_n 2 hz dX2_isEdge_2 rfl ?_
    refine s_iconst hz dX2_isEdge_3 ?_
    refine s_icmp_ge 27 hz rv2 rl_4 dX2_isEdge_4 rfl (fun c1 => ?_) (fun c1 => ?_)
    · have h := zif_t c1 h
      refine s_iconst hz dX2_isEdge_27 ?_
      exact s_zret h hz hF (by decide) hW dX2_isEdge_28
    · have h := zif_f c1 h
      refine s_aload_n 0 hz dX2_isEdge_7 rfl ?_
      refine s_iload_n 1 hz dX2_isEdge_8 rfl ?_
      refine s_iload_n 2 hz dX2_isEdge_9 rfl ?_
      obtain ⟨r2, S3, hc3, h⟩ := zb_of h
      refine s_callS [aI p1, aI v2] [aR 1] hz ml_X2_32 ss_yX11_cellBeside (T_X11_cellBeside rp1 rv2 hW hc3) (by decide) rfl rfl (Nat.le_of_ble_eq_true rfl) dX2_isEdge_10 (fun rr2 hW3 => ?_)
      obtain ⟨r4, S5, hc5, h⟩ := zb_of h
      refine s_callV [aI r2] [] hz ml_X2_36 sv_yX2_isScalp (T_X2_isScalp rr2 hW3 hc5) (by decide) rfl sx1 rfl rfl (Nat.le_of_ble_eq_true rfl) dX2_isEdge_13 (fun rr4 hW5 => ?_)
      refine s_if_ne 21 hz rr4 dX2_isEdge_16 rfl (fun c6 => ?_) (fun c6 => ?_)
      · have h := zif_f c6 h
        obtain ⟨x7, ex7, rx7, h⟩ := zl_ex h
        refine s_iinc (k0 := 2) (y := x7) (l' := [(2, aI x7), (0, aR 1), (1, aI p1)]) hz hN dX2_isEdge_21 rfl ex7.symm (by decide) rfl ?_
        refine s_goto 2 hz dX2_isEdge_24 rfl ?_
        refine s_pick (l' := [(0, aR 1), (1, aI p1), (2, aI x7)]) [1, 2, 0] rfl ?_
        exact ih rx7 hW5 h
      · have h := zif_t c6 h
        refine s_iconst hz dX2_isEdge_19 ?_
        exact s_zret h hz hF (by decide) hW5 dX2_isEdge_20
def M_X2_isEdge (a1 : Int) (S : HS) : zO2 :=
  L_X2_isEdge_2 a1 zBig 0 S
set_option maxHeartbeats 4000000 in
set_option maxRecDepth 20000 in
theorem T_X2_isEdge {a1 : Int} {S S' : HS} {r : Int} (ra1 : rng a1) (hW : WR shX S) (h : M_X2_isEdge a1 S = some (r, S')) : zR shX yX2_isEdge cX2_isEdge 3  .boolean 3 [aR 1, aI a1] S r S' := by
  refine zR_of (by decide +kernel) (Nat.le_of_ble_eq_true rfl) (fun z hz hN hF => ?_)
  have hz : zO z cX2_isEdge RX2 3 shX := hz
  show zA z 0 [(0, aR 1), (1, aI a1)] [] S
  unfold M_X2_isEdge at h
  refine s_iconst hz dX2_isEdge_0 ?_
  refine s_istore_n (l' := [(2, aI 0), (0, aR 1), (1, aI a1)]) hz hN dX2_isEdge_1 (by decide) rfl ?_
  refine s_pick (l' := [(0, aR 1), (1, aI a1), (2, aI 0)]) [1, 2, 0] rfl ?_
  exact TL_X2_isEdge_2 hz hN hF ra1 zBig rl_0 hW h
def M_X0_pullAt (a1 : Int) (S : HS) : zO2 :=
  zb (M_X0_greatestAt a1 S) fun r1 S2 =>
  zb (M_X0_leastAt a1 S2) fun r3 S4 =>
  zl (r1 - r3) fun x5 =>
  zb (M_X2_isEdge a1 S4) fun r6 S7 =>
  if r6 = 0 then (
    some (x5, S7))
  else (
    zl (2 * x5) fun x9 =>
    some (x9, S7))
set_option maxHeartbeats 4000000 in
set_option maxRecDepth 20000 in
theorem T_X0_pullAt {a1 : Int} {S S' : HS} {r : Int} (ra1 : rng a1) (hW : WR shX S) (h : M_X0_pullAt a1 S = some (r, S')) : zR shX yX0_pullAt cX0_pullAt 3  .int 4 [aR 28, aI a1] S r S' := by
  refine zR_of (by decide +kernel) (Nat.le_of_ble_eq_true rfl) (fun z hz hN hF => ?_)
  have hz : zO z cX0_pullAt RX0 4 shX := hz
  show zA z 0 [(0, aR 28), (1, aI a1)] [] S
  unfold M_X0_pullAt at h
  refine s_aload_n 0 hz dX0_pullAt_0 rfl ?_
  refine s_iload_n 1 hz dX0_pullAt_1 rfl ?_
  obtain ⟨r1, S2, hc2, h⟩ := zb_of h
  refine s_callV [aI a1] [] hz ml_X0_88 sv_yX0_greatestAt (T_X0_greatestAt ra1 hW hc2) (by decide) rfl sx28 rfl rfl (Nat.le_of_ble_eq_true rfl) dX0_pullAt_2 (fun rr1 hW2 => ?_)
  refine s_aload_n 0 hz dX0_pullAt_5 rfl ?_
  refine s_iload_n 1 hz dX0_pullAt_6 rfl ?_
  obtain ⟨r3, S4, hc4, h⟩ := zb_of h
  refine s_callV [aI a1] [aI r1] hz ml_X0_91 sv_yX0_leastAt (T_X0_leastAt ra1 hW2 hc4) (by decide) rfl sx28 rfl rfl (Nat.le_of_ble_eq_true rfl) dX0_pullAt_7 (fun rr3 hW4 => ?_)
  refine s_isub hz dX0_pullAt_10 ?_
  obtain ⟨x5, ex5, rx5, h⟩ := zl_ex h
  rw [← ex5]
  refine s_istore_n (l' := [(2, aI x5), (0, aR 28), (1, aI a1)]) hz hN dX0_pullAt_11 (by decide) rfl ?_
  refine s_aload_n 1 hz dX0_pullAt_12 rfl ?_
  refine s_getR 0 hz fl_X0_24 sx28 rfl (by decide) dX0_pullAt_13 ?_
  refine s_iload_n 2 hz dX0_pullAt_16 rfl ?_
  obtain ⟨r6, S7, hc7, h⟩ := zb_of h
  refine s_callV [aI a1] [] hz ml_X0_94 sv_yX2_isEdge (T_X2_isEdge ra1 hW4 hc7) (by decide) rfl sx1 rfl rfl (Nat.le_of_ble_eq_true rfl) dX0_pullAt_17 (fun rr6 hW7 => ?_)
  refine s_if_eq 29 hz rr6 dX0_pullAt_20 rfl (fun c8 => ?_) (fun c8 => ?_)
  · have h := zif_t c8 h
    refine s_iload_n 0 hz dX0_pullAt_29 rfl ?_
    exact s_iret h hz hF rx5 hW7 dX0_pullAt_30
  · have h := zif_f c8 h
    refine s_iconst hz dX0_pullAt_23 ?_
    refine s_iload_n 0 hz dX0_pullAt_24 rfl ?_
    refine s_imul hz dX0_pullAt_25 ?_
    refine s_goto 30 hz dX0_pullAt_26 rfl ?_
    obtain ⟨x9, ex9, rx9, h⟩ := zl_ex h
    rw [← ex9]
    exact s_iret h hz hF rx9 hW7 dX0_pullAt_30
def L_X0_greatestPull_4 (p1 : Int) : Nat → Int → Int → HS → zO2
  | 0, _, _, _ => none
  | n + 1, v2, v3, S => 
    zb (M_X6_sizeIn p1 S) fun r1 S2 =>
    if r1 ≤ v3 then (
      some (v2, S2))
    else (
      zb (M_X6_cellIn p1 v3 S2) fun r4 S5 =>
      zb (M_X0_pullAt r4 S5) fun r6 S7 =>
      zl (v3 + 1) fun x8 =>
      L_X0_greatestPull_4 p1 n (max v2 r6) x8 S7)
set_option maxHeartbeats 4000000 in
set_option maxRecDepth 20000 in
theorem TL_X0_greatestPull_4 {p1 : Int} {r : Int} {S' : HS} {z : Zt} (hz : zO z cX0_greatestPull RX0 5 shX) (hN : zN z 4) (hF : zFi z shX .int r S') (rp1 : rng p1) : ∀ (n : Nat) {v2 : Int} {v3 : Int} {S : HS}, rng v2 → rng v3 → WR shX S → L_X0_greatestPull_4 p1 n v2 v3 S = some (r, S') → zA z 4 [(0, aR 28), (1, aI p1), (2, aI v2), (3, aI v3)] [] S := by
  intro n
  induction n with
  | zero =>
    intro _ _ _ _ _ _ h
    cases h
  | succ n ih =>
    intro v2 v3 S rv2 rv3 hW h
    rw [L_X0_greatestPull_4.eq_2] at h
    refine s_iload_n 3 hz dX0_greatestPull_4 rfl ?_
    refine s_aload_n 0 hz dX0_greatestPull_5 rfl ?_
    refine s_getR 1 hz fl_X0_28 sx28 rfl (by decide) dX0_greatestPull_6 ?_
    refine s_iload_n 1 hz dX0_greatestPull_9 rfl ?_
    obtain ⟨r1, S2, hc2, h⟩ := zb_of h
    refine s_callV [aI p1] [aI v3] hz ml_X0_50 sv_yX6_sizeIn (T_X6_sizeIn rp1 hW hc2) (by decide) rfl sx7 rfl rfl (Nat.le_of_ble_eq_true rfl) dX0_greatestPull_10 (fun rr1 hW2 => ?_)
    refine s_icmp_ge 40 hz rv3 rr1 dX0_greatestPull_13 rfl (fun c3 => ?_) (fun c3 => ?_)
    · have h := zif_t c3 h
      refine s_iload_n 2 hz dX0_greatestPull_40 rfl ?_
      exact s_iret h hz hF rv2 hW2 dX0_greatestPull_41
    · have h := zif_f c3 h
      refine s_iload_n 2 hz dX0_greatestPull_16 rfl ?_
      refine s_aload_n 0 hz dX0_greatestPull_17 rfl ?_
      refine s_aload_n 0 hz dX0_greatestPull_18 rfl ?_
      refine s_getR 1 hz fl_X0_28 sx28 rfl (by decide) dX0_greatestPull_19 ?_
      refine s_iload_n 1 hz dX0_greatestPull_22 rfl ?_
      refine s_iload_n 3 hz dX0_greatestPull_23 rfl ?_
      obtain ⟨r4, S5, hc5, h⟩ := zb_of h
      refine s_callV [aI p1, aI v3] [aR 28, aI v2] hz ml_X0_54 sv_yX6_cellIn (T_X6_cellIn rp1 rv3 hW2 hc5) (by decide) rfl sx7 rfl rfl (Nat.le_of_ble_eq_true rfl) dX0_greatestPull_24 (fun rr4 hW5 => ?_)
      obtain ⟨r6, S7, hc7, h⟩ := zb_of h
      refine s_callV [aI r4] [aI v2] hz ml_X0_99 sv_yX0_pullAt (T_X0_pullAt rr4 hW5 hc7) (by decide) rfl sx28 rfl rfl (Nat.le_of_ble_eq_true rfl) dX0_greatestPull_27 (fun rr6 hW7 => ?_)
      refine s_max hz mj_X0_85 (by decide) rv2 rr6 (Nat.le_of_ble_eq_true rfl) dX0_greatestPull_30 ?_
      refine s_istore_n (l' := [(2, aI (max v2 r6)), (0, aR 28), (1, aI p1), (3, aI v3)]) hz hN dX0_greatestPull_33 (by decide) rfl ?_
      obtain ⟨x8, ex8, rx8, h⟩ := zl_ex h
      refine s_iinc (k0 := 3) (y := x8) (l' := [(3, aI x8), (2, aI (max v2 r6)), (0, aR 28), (1, aI p1)]) hz hN dX0_greatestPull_34 rfl ex8.symm (by decide) rfl ?_
      refine s_goto 4 hz dX0_greatestPull_37 rfl ?_
      refine s_pick (l' := [(0, aR 28), (1, aI p1), (2, aI (max v2 r6)), (3, aI x8)]) [2, 3, 1, 0] rfl ?_
      exact ih (zmax_r rv2 rr6) rx8 hW7 h
def M_X0_greatestPull (a1 : Int) (S : HS) : zO2 :=
  L_X0_greatestPull_4 a1 zBig 0 0 S
set_option maxHeartbeats 4000000 in
set_option maxRecDepth 20000 in
theorem T_X0_greatestPull {a1 : Int} {S S' : HS} {r : Int} (ra1 : rng a1) (hW : WR shX S) (h : M_X0_greatestPull a1 S = some (r, S')) : zR shX yX0_greatestPull cX0_greatestPull 4  .int 5 [aR 28, aI a1] S r S' := by
  refine zR_of (by decide +kernel) (Nat.le_of_ble_eq_true rfl) (fun z hz hN hF => ?_)
  have hz : zO z cX0_greatestPull RX0 5 shX := hz
  show zA z 0 [(0, aR 28), (1, aI a1)] [] S
  unfold M_X0_greatestPull at h
  refine s_iconst hz dX0_greatestPull_0 ?_
  refine s_istore_n (l' := [(2, aI 0), (0, aR 28), (1, aI a1)]) hz hN dX0_greatestPull_1 (by decide) rfl ?_
  refine s_iconst hz dX0_greatestPull_2 ?_
  refine s_istore_n (l' := [(3, aI 0), (2, aI 0), (0, aR 28), (1, aI a1)]) hz hN dX0_greatestPull_3 (by decide) rfl ?_
  refine s_pick (l' := [(0, aR 28), (1, aI a1), (2, aI 0), (3, aI 0)]) [2, 3, 1, 0] rfl ?_
  exact TL_X0_greatestPull_4 hz hN hF ra1 zBig rl_0 rl_0 hW h
def M_X11_pull (a1 : Int) (S : HS) : zO2 :=
  zb (M_X6_has a1 S) fun r1 S2 =>
  if r1 = 0 then (
    some ((-1), S2))
  else (
    zb (M_X0_greatestPull a1 S2) fun r4 S5 =>
    some (r4, S5))
set_option maxHeartbeats 4000000 in
set_option maxRecDepth 20000 in
theorem T_X11_pull {a1 : Int} {S S' : HS} {r : Int} (ra1 : rng a1) (hW : WR shX S) (h : M_X11_pull a1 S = some (r, S')) : zR shX yX11_pull cX11_pull 2  .int 6 [aR 0, aI a1] S r S' := by
  refine zR_of (by decide +kernel) (Nat.le_of_ble_eq_true rfl) (fun z hz hN hF => ?_)
  have hz : zO z cX11_pull RX11 6 shX := hz
  show zA z 0 [(0, aR 0), (1, aI a1)] [] S
  unfold M_X11_pull at h
  refine s_aload_n 0 hz dX11_pull_0 rfl ?_
  refine s_getR 2 hz fl_X11_28 sx0 rfl (by decide) dX11_pull_1 ?_
  refine s_iload_n 1 hz dX11_pull_4 rfl ?_
  obtain ⟨r1, S2, hc2, h⟩ := zb_of h
  refine s_callV [aI a1] [] hz ml_X11_172 sv_yX6_has (T_X6_has ra1 hW hc2) (by decide) rfl sx7 rfl rfl (Nat.le_of_ble_eq_true rfl) dX11_pull_5 (fun rr1 hW2 => ?_)
  refine s_if_eq 22 hz rr1 dX11_pull_8 rfl (fun c3 => ?_) (fun c3 => ?_)
  · have h := zif_t c3 h
    refine s_iconst hz dX11_pull_22 ?_
    exact s_iret h hz hF rl_m1 hW2 dX11_pull_23
  · have h := zif_f c3 h
    refine s_aload_n 0 hz dX11_pull_11 rfl ?_
    refine s_getR 5 hz fl_X11_53 sx0 rfl (by decide) dX11_pull_12 ?_
    refine s_iload_n 1 hz dX11_pull_15 rfl ?_
    obtain ⟨r4, S5, hc5, h⟩ := zb_of h
    refine s_callV [aI a1] [] hz ml_X11_175 sv_yX0_greatestPull (T_X0_greatestPull ra1 hW2 hc5) (by decide) rfl sx28 rfl rfl (Nat.le_of_ble_eq_true rfl) dX11_pull_16 (fun rr4 hW5 => ?_)
    refine s_goto 23 hz dX11_pull_19 rfl ?_
    exact s_iret h hz hF rr4 hW5 dX11_pull_23
def L_X0_unevenness_22 (k74 : Int → Int → HS → zO2) (p1 : Int) : Nat → Int → Int → Int → HS → zO2
  | 0, _, _, _, _ => none
  | n + 1, v2, v3, v4, S => 
    zb (M_X6_sizeIn p1 S) fun r5 S6 =>
    if r5 ≤ v4 then (
      k74 v2 v3 S6)
    else (
      zb (M_X6_cellIn p1 v4 S6) fun r8 S9 =>
      zb (M_X8_hairsBy r8 S9) fun r10 S11 =>
      zl (v4 + 1) fun x12 =>
      L_X0_unevenness_22 k74 p1 n (min v2 r10) (max v3 r10) x12 S11)
set_option maxHeartbeats 4000000 in
set_option maxRecDepth 20000 in
theorem TL_X0_unevenness_22 {k74 : Int → Int → HS → zO2} {p1 : Int} {r : Int} {S' : HS} {z : Zt} (hz : zO z cX0_unevenness RX0 3 shX) (hN : zN z 6) (hF : zFi z shX .int r S') (hk74 : ∀ (w2 w3 : Int) (S : HS), rng w2 → rng w3 → WR shX S → k74 w2 w3 S = some (r, S') → zA z 74 [(2, aI w2), (3, aI w3)] [] S) (rp1 : rng p1) : ∀ (n : Nat) {v2 : Int} {v3 : Int} {v4 : Int} {S : HS}, rng v2 → rng v3 → rng v4 → WR shX S → L_X0_unevenness_22 k74 p1 n v2 v3 v4 S = some (r, S') → zA z 22 [(0, aR 28), (1, aI p1), (2, aI v2), (3, aI v3), (4, aI v4)] [] S := by
  intro n
  induction n with
  | zero =>
    intro _ _ _ _ _ _ _ _ h
    cases h
  | succ n ih =>
    intro v2 v3 v4 S rv2 rv3 rv4 hW h
    rw [L_X0_unevenness_22.eq_2] at h
    refine s_iload 4 hz dX0_unevenness_22 rfl ?_
    refine s_aload_n 0 hz dX0_unevenness_24 rfl ?_
    refine s_getR 1 hz fl_X0_28 sx28 rfl (by decide) dX0_unevenness_25 ?_
    refine s_iload_n 1 hz dX0_unevenness_28 rfl ?_
    obtain ⟨r5, S6, hc6, h⟩ := zb_of h
    refine s_callV [aI p1] [aI v4] hz ml_X0_50 sv_yX6_sizeIn (T_X6_sizeIn rp1 hW hc6) (by decide) rfl sx7 rfl rfl (Nat.le_of_ble_eq_true rfl) dX0_unevenness_29 (fun rr5 hW6 => ?_)
    refine s_icmp_ge 74 hz rv4 rr5 dX0_unevenness_32 rfl (fun c7 => ?_) (fun c7 => ?_)
    · have h := zif_t c7 h
      refine s_pick (l' := [(2, aI v2), (3, aI v3)]) [2, 3] rfl ?_
      exact hk74 _ _ _ rv2 rv3 hW6 h
    · have h := zif_f c7 h
      refine s_aload_n 0 hz dX0_unevenness_35 rfl ?_
      refine s_getR 2 hz fl_X0_32 sx28 rfl (by decide) dX0_unevenness_36 ?_
      refine s_aload_n 0 hz dX0_unevenness_39 rfl ?_
      refine s_getR 1 hz fl_X0_28 sx28 rfl (by decide) dX0_unevenness_40 ?_
      refine s_iload_n 1 hz dX0_unevenness_43 rfl ?_
      refine s_iload 4 hz dX0_unevenness_44 rfl ?_
      obtain ⟨r8, S9, hc9, h⟩ := zb_of h
      refine s_callV [aI p1, aI v4] [aR 17] hz ml_X0_54 sv_yX6_cellIn (T_X6_cellIn rp1 rv4 hW6 hc9) (by decide) rfl sx7 rfl rfl (Nat.le_of_ble_eq_true rfl) dX0_unevenness_46 (fun rr8 hW9 => ?_)
      obtain ⟨r10, S11, hc11, h⟩ := zb_of h
      refine s_callV [aI r8] [] hz ml_X0_58 sv_yX8_hairsBy (T_X8_hairsBy rr8 hW9 hc11) (by decide) rfl sx17 rfl rfl (Nat.le_of_ble_eq_true rfl) dX0_unevenness_49 (fun rr10 hW11 => ?_)
      refine s_istore (l' := [(5, aI r10), (0, aR 28), (1, aI p1), (2, aI v2), (3, aI v3), (4, aI v4)]) hz hN dX0_unevenness_52 (by decide) rfl ?_
      refine s_iload_n 3 hz dX0_unevenness_54 rfl ?_
      refine s_iload 0 hz dX0_unevenness_55 rfl ?_
      refine s_min hz mj_X0_80 (by decide) rv2 rr10 (Nat.le_of_ble_eq_true rfl) dX0_unevenness_57 ?_
      refine s_istore_n (l' := [(2, aI (min v2 r10)), (5, aI r10), (0, aR 28), (1, aI p1), (3, aI v3), (4, aI v4)]) hz hN dX0_unevenness_60 (by decide) rfl ?_
      refine s_iload_n 4 hz dX0_unevenness_61 rfl ?_
      refine s_iload 1 hz dX0_unevenness_62 rfl ?_
      refine s_max hz mj_X0_85 (by decide) rv3 rr10 (Nat.le_of_ble_eq_true rfl) dX0_unevenness_64 ?_
      refine s_istore_n (l' := [(3, aI (max v3 r10)), (2, aI (min v2 r10)), (5, aI r10), (0, aR 28), (1, aI p1), (4, aI v4)]) hz hN dX0_unevenness_67 (by decide) rfl ?_
      obtain ⟨x12, ex12, rx12, h⟩ := zl_ex h
      refine s_iinc (k0 := 5) (y := x12) (l' := [(4, aI x12), (3, aI (max v3 r10)), (2, aI (min v2 r10)), (5, aI r10), (0, aR 28), (1, aI p1)]) hz hN dX0_unevenness_68 rfl ex12.symm (by decide) rfl ?_
      refine s_goto 22 hz dX0_unevenness_71 rfl ?_
      refine s_pick (l' := [(0, aR 28), (1, aI p1), (2, aI (min v2 r10)), (3, aI (max v3 r10)), (4, aI x12)]) [4, 5, 2, 1, 0] rfl ?_
      exact ih (zmin_r rv2 rr10) (zmax_r rv3 rr10) rx12 hW11 h
def M_X0_unevenness (a1 : Int) (S : HS) : zO2 :=
  zb (M_X6_cellIn a1 0 S) fun r1 S2 =>
  zb (M_X8_hairsBy r1 S2) fun r3 S4 =>
  L_X0_unevenness_22 (fun e2 e3 S13 =>
      zl (e3 - e2) fun x14 =>
      some (x14, S13)) a1 zBig r3 r3 1 S4
set_option maxHeartbeats 4000000 in
set_option maxRecDepth 20000 in
theorem T_X0_unevenness {a1 : Int} {S S' : HS} {r : Int} (ra1 : rng a1) (hW : WR shX S) (h : M_X0_unevenness a1 S = some (r, S')) : zR shX yX0_unevenness cX0_unevenness 6  .int 3 [aR 28, aI a1] S r S' := by
  refine zR_of (by decide +kernel) (Nat.le_of_ble_eq_true rfl) (fun z hz hN hF => ?_)
  have hz : zO z cX0_unevenness RX0 3 shX := hz
  show zA z 0 [(0, aR 28), (1, aI a1)] [] S
  unfold M_X0_unevenness at h
  refine s_aload_n 0 hz dX0_unevenness_0 rfl ?_
  refine s_getR 2 hz fl_X0_32 sx28 rfl (by decide) dX0_unevenness_1 ?_
  refine s_aload_n 0 hz dX0_unevenness_4 rfl ?_
  refine s_getR 1 hz fl_X0_28 sx28 rfl (by decide) dX0_unevenness_5 ?_
  refine s_iload_n 1 hz dX0_unevenness_8 rfl ?_
  refine s_iconst hz dX0_unevenness_9 ?_
  obtain ⟨r1, S2, hc2, h⟩ := zb_of h
  refine s_callV [aI a1, aI 0] [aR 17] hz ml_X0_54 sv_yX6_cellIn (T_X6_cellIn ra1 rl_0 hW hc2) (by decide) rfl sx7 rfl rfl (Nat.le_of_ble_eq_true rfl) dX0_unevenness_10 (fun rr1 hW2 => ?_)
  obtain ⟨r3, S4, hc4, h⟩ := zb_of h
  refine s_callV [aI r1] [] hz ml_X0_58 sv_yX8_hairsBy (T_X8_hairsBy rr1 hW2 hc4) (by decide) rfl sx17 rfl rfl (Nat.le_of_ble_eq_true rfl) dX0_unevenness_13 (fun rr3 hW4 => ?_)
  refine s_istore_n (l' := [(2, aI r3), (0, aR 28), (1, aI a1)]) hz hN dX0_unevenness_16 (by decide) rfl ?_
  refine s_iload_n 0 hz dX0_unevenness_17 rfl ?_
  refine s_istore_n (l' := [(3, aI r3), (2, aI r3), (0, aR 28), (1, aI a1)]) hz hN dX0_unevenness_18 (by decide) rfl ?_
  refine s_iconst hz dX0_unevenness_19 ?_
  refine s_istore (l' := [(4, aI 1), (3, aI r3), (2, aI r3), (0, aR 28), (1, aI a1)]) hz hN dX0_unevenness_20 (by decide) rfl ?_
  refine s_pick (l' := [(0, aR 28), (1, aI a1), (2, aI r3), (3, aI r3), (4, aI 1)]) [3, 4, 2, 1, 0] rfl ?_
  refine TL_X0_unevenness_22 hz hN hF ?_ ra1 zBig rr3 rr3 rl_1 hW4 h
  · clear h 
    intro e2 e3 S13 re2 re3 hW13 h
    refine s_iload_n 1 hz dX0_unevenness_74 rfl ?_
    refine s_iload_n 0 hz dX0_unevenness_75 rfl ?_
    refine s_isub hz dX0_unevenness_76 ?_
    obtain ⟨x14, ex14, rx14, h⟩ := zl_ex h
    rw [← ex14]
    exact s_iret h hz hF rx14 hW13 dX0_unevenness_77
def M_X11_even (a1 : Int) (S : HS) : zO2 :=
  zb (M_X6_has a1 S) fun r1 S2 =>
  if r1 = 0 then (
    some ((-1), S2))
  else (
    zb (M_X0_unevenness a1 S2) fun r4 S5 =>
    some (r4, S5))
set_option maxHeartbeats 4000000 in
set_option maxRecDepth 20000 in
theorem T_X11_even {a1 : Int} {S S' : HS} {r : Int} (ra1 : rng a1) (hW : WR shX S) (h : M_X11_even a1 S = some (r, S')) : zR shX yX11_even cX11_even 2  .int 4 [aR 0, aI a1] S r S' := by
  refine zR_of (by decide +kernel) (Nat.le_of_ble_eq_true rfl) (fun z hz hN hF => ?_)
  have hz : zO z cX11_even RX11 4 shX := hz
  show zA z 0 [(0, aR 0), (1, aI a1)] [] S
  unfold M_X11_even at h
  refine s_aload_n 0 hz dX11_even_0 rfl ?_
  refine s_getR 2 hz fl_X11_28 sx0 rfl (by decide) dX11_even_1 ?_
  refine s_iload_n 1 hz dX11_even_4 rfl ?_
  obtain ⟨r1, S2, hc2, h⟩ := zb_of h
  refine s_callV [aI a1] [] hz ml_X11_172 sv_yX6_has (T_X6_has ra1 hW hc2) (by decide) rfl sx7 rfl rfl (Nat.le_of_ble_eq_true rfl) dX11_even_5 (fun rr1 hW2 => ?_)
  refine s_if_eq 22 hz rr1 dX11_even_8 rfl (fun c3 => ?_) (fun c3 => ?_)
  · have h := zif_t c3 h
    refine s_iconst hz dX11_even_22 ?_
    exact s_iret h hz hF rl_m1 hW2 dX11_even_23
  · have h := zif_f c3 h
    refine s_aload_n 0 hz dX11_even_11 rfl ?_
    refine s_getR 5 hz fl_X11_53 sx0 rfl (by decide) dX11_even_12 ?_
    refine s_iload_n 1 hz dX11_even_15 rfl ?_
    obtain ⟨r4, S5, hc5, h⟩ := zb_of h
    refine s_callV [aI a1] [] hz ml_X11_178 sv_yX0_unevenness (T_X0_unevenness ra1 hW2 hc5) (by decide) rfl sx28 rfl rfl (Nat.le_of_ble_eq_true rfl) dX11_even_16 (fun rr4 hW5 => ?_)
    refine s_goto 23 hz dX11_even_19 rfl ?_
    exact s_iret h hz hF rr4 hW5 dX11_even_23
def M_X0_takerAt (a1 : Int) (S : HS) : zO2 :=
  if a1 = 0 then (
    some (0, S))
  else (
    zg ((0 : Int) ≤ a1 ∧ (0 : Int) < 3) <|
    zl (a1 % 3) fun x3 =>
    if x3 = 1 then (
      some (0, S))
    else (
      zg ((0 : Int) ≤ a1 ∧ (0 : Int) < 3) <|
      zl (a1 % 3) fun x6 =>
      if x6 = 2 then (
        some (2, S))
      else (
        some (1, S))))
set_option maxHeartbeats 4000000 in
set_option maxRecDepth 20000 in
theorem T_X0_takerAt {a1 : Int} {S S' : HS} {r : Int} (ra1 : rng a1) (hW : WR shX S) (h : M_X0_takerAt a1 S = some (r, S')) : zR shX yX0_takerAt cX0_takerAt 1  .int 1 [aI a1] S r S' := by
  refine zR_of (by decide +kernel) (Nat.le_of_ble_eq_true rfl) (fun z hz hN hF => ?_)
  have hz : zO z cX0_takerAt RX0 1 shX := hz
  show zA z 0 [(0, aI a1)] [] S
  unfold M_X0_takerAt at h
  refine s_iload_n 0 hz dX0_takerAt_0 rfl ?_
  refine s_if_eq 11 hz ra1 dX0_takerAt_1 rfl (fun c1 => ?_) (fun c1 => ?_)
  · have h := zif_t c1 h
    refine s_iconst hz dX0_takerAt_11 ?_
    exact s_iret h hz hF rl_0 hW dX0_takerAt_12
  · have h := zif_f c1 h
    refine s_iload_n 0 hz dX0_takerAt_4 rfl ?_
    refine s_iconst hz dX0_takerAt_5 ?_
    obtain ⟨g2, h⟩ := zg_of h
    refine s_irem hz g2.1 g2.2 ra1 rl_3 dX0_takerAt_6 ?_
    refine s_iconst hz dX0_takerAt_7 ?_
    obtain ⟨x3, ex3, rx3, h⟩ := zl_ex h
    rw [← ex3]
    refine s_icmp_ne 13 hz rx3 rl_1 dX0_takerAt_8 rfl (fun c4 => ?_) (fun c4 => ?_)
    · have h := zif_f c4 h
      refine s_iload_n 0 hz dX0_takerAt_13 rfl ?_
      refine s_iconst hz dX0_takerAt_14 ?_
      obtain ⟨g5, h⟩ := zg_of h
      refine s_irem hz g5.1 g5.2 ra1 rl_3 dX0_takerAt_15 ?_
      refine s_iconst hz dX0_takerAt_16 ?_
      obtain ⟨x6, ex6, rx6, h⟩ := zl_ex h
      rw [← ex6]
      refine s_icmp_ne 24 hz rx6 rl_2 dX0_takerAt_17 rfl (fun c7 => ?_) (fun c7 => ?_)
      · have h := zif_f c7 h
        refine s_iconst hz dX0_takerAt_24 ?_
        exact s_iret h hz hF rl_1 hW dX0_takerAt_25
      · have h := zif_t c7 h
        refine s_iconst hz dX0_takerAt_20 ?_
        refine s_goto 25 hz dX0_takerAt_21 rfl ?_
        exact s_iret h hz hF rl_2 hW dX0_takerAt_25
    · have h := zif_t c4 h
      refine s_iconst hz dX0_takerAt_11 ?_
      exact s_iret h hz hF rl_0 hW dX0_takerAt_12
def M_X0_shareAt (a1 : Int) (a2 : Int) (a3 : Int) (S : HS) : zO2 :=
  zb (M_X6_cellIn a1 a2 S) fun r1 S2 =>
  zb (M_X8_hairsBy r1 S2) fun r3 S4 =>
  if a3 = 3 then (
    some (r3, S4))
  else (
    if a2 = 0 then (
      zb (M_X0_thirdOf r3 a3 S4) fun r10 S11 =>
      some (r10, S11))
    else (
      zb (M_X0_takerAt a2 S4) fun r7 S8 =>
      if r7 = a3 then (
        some (r3, S8))
      else (
        some (0, S8))))
set_option maxHeartbeats 4000000 in
set_option maxRecDepth 20000 in
theorem T_X0_shareAt {a1 : Int} {a2 : Int} {a3 : Int} {S S' : HS} {r : Int} (ra1 : rng a1) (ra2 : rng a2) (ra3 : rng a3) (hW : WR shX S) (h : M_X0_shareAt a1 a2 a3 S = some (r, S')) : zR shX yX0_shareAt cX0_shareAt 5  .int 3 [aR 28, aI a1, aI a2, aI a3] S r S' := by
  refine zR_of (by decide +kernel) (Nat.le_of_ble_eq_true rfl) (fun z hz hN hF => ?_)
  have hz : zO z cX0_shareAt RX0 3 shX := hz
  show zA z 0 [(0, aR 28), (1, aI a1), (2, aI a2), (3, aI a3)] [] S
  unfold M_X0_shareAt at h
  refine s_aload_n 0 hz dX0_shareAt_0 rfl ?_
  refine s_getR 2 hz fl_X0_32 sx28 rfl (by decide) dX0_shareAt_1 ?_
  refine s_aload_n 0 hz dX0_shareAt_4 rfl ?_
  refine s_getR 1 hz fl_X0_28 sx28 rfl (by decide) dX0_shareAt_5 ?_
  refine s_iload_n 1 hz dX0_shareAt_8 rfl ?_
  refine s_iload_n 2 hz dX0_shareAt_9 rfl ?_
  obtain ⟨r1, S2, hc2, h⟩ := zb_of h
  refine s_callV [aI a1, aI a2] [aR 17] hz ml_X0_54 sv_yX6_cellIn (T_X6_cellIn ra1 ra2 hW hc2) (by decide) rfl sx7 rfl rfl (Nat.le_of_ble_eq_true rfl) dX0_shareAt_10 (fun rr1 hW2 => ?_)
  obtain ⟨r3, S4, hc4, h⟩ := zb_of h
  refine s_callV [aI r1] [] hz ml_X0_58 sv_yX8_hairsBy (T_X8_hairsBy rr1 hW2 hc4) (by decide) rfl sx17 rfl rfl (Nat.le_of_ble_eq_true rfl) dX0_shareAt_13 (fun rr3 hW4 => ?_)
  refine s_istore (l' := [(4, aI r3), (0, aR 28), (1, aI a1), (2, aI a2), (3, aI a3)]) hz hN dX0_shareAt_16 (by decide) rfl ?_
  refine s_iload_n 4 hz dX0_shareAt_18 rfl ?_
  refine s_iconst hz dX0_shareAt_19 ?_
  refine s_icmp_ne 26 hz ra3 rl_3 dX0_shareAt_20 rfl (fun c5 => ?_) (fun c5 => ?_)
  · have h := zif_f c5 h
    refine s_iload_n 3 hz dX0_shareAt_26 rfl ?_
    refine s_if_ne 37 hz ra2 dX0_shareAt_27 rfl (fun c6 => ?_) (fun c6 => ?_)
    · have h := zif_f c6 h
      refine s_iload_n 3 hz dX0_shareAt_37 rfl ?_
      obtain ⟨r7, S8, hc8, h⟩ := zb_of h
      refine s_callS [aI a2] [] hz ml_X0_146 ss_yX0_takerAt (T_X0_takerAt ra2 hW4 hc8) (by decide) rfl rfl (Nat.le_of_ble_eq_true rfl) dX0_shareAt_38 (fun rr7 hW8 => ?_)
      refine s_iload_n 4 hz dX0_shareAt_41 rfl ?_
      refine s_icmp_ne 50 hz rr7 ra3 dX0_shareAt_42 rfl (fun c9 => ?_) (fun c9 => ?_)
      · have h := zif_f c9 h
        refine s_iconst hz dX0_shareAt_50 ?_
        exact s_iret h hz hF rl_0 hW8 dX0_shareAt_51
      · have h := zif_t c9 h
        refine s_iload 0 hz dX0_shareAt_45 rfl ?_
        refine s_goto 51 hz dX0_shareAt_47 rfl ?_
        exact s_iret h hz hF rr3 hW8 dX0_shareAt_51
    · have h := zif_t c6 h
      refine s_iload 0 hz dX0_shareAt_30 rfl ?_
      refine s_iload_n 4 hz dX0_shareAt_32 rfl ?_
      obtain ⟨r10, S11, hc11, h⟩ := zb_of h
      refine s_callS [aI r3, aI a3] [] hz ml_X0_66 ss_yX0_thirdOf (T_X0_thirdOf rr3 ra3 hW4 hc11) (by decide) rfl rfl (Nat.le_of_ble_eq_true rfl) dX0_shareAt_33 (fun rr10 hW11 => ?_)
      exact s_iret h hz hF rr10 hW11 dX0_shareAt_36
  · have h := zif_t c5 h
    refine s_iload 0 hz dX0_shareAt_23 rfl ?_
    exact s_iret h hz hF rr3 hW4 dX0_shareAt_25
def L_X0_insert_57 (k102 : Int → HS → zO2) (p1 : Int) : Nat → Int → HS → zO2
  | 0, _, _ => none
  | n + 1, v2, S => 
    if v2 ≤ 0 then (
      k102 v2 S)
    else (
      if 9 ≤ v2 then (
        k102 v2 S)
      else (
        zg ((0 : Int) ≤ v2 - 1 ∧ v2 - 1 < 9) <|
        if p1 ≤ S 32 (v2 - 1) then (
          k102 v2 S)
        else (
          zg ((0 : Int) ≤ v2 - 1 ∧ v2 - 1 < 9) <|
          zg ((0 : Int) ≤ v2 ∧ v2 < 9) <|
          zs (up S 32 v2 (S 32 (v2 - 1))) fun S10 =>
          zl (v2 + (-1)) fun x11 =>
          L_X0_insert_57 k102 p1 n x11 S10)))
set_option maxHeartbeats 4000000 in
set_option maxRecDepth 20000 in
theorem TL_X0_insert_57 {k102 : Int → HS → zO2} {p1 : Int} {r : Int} {S' : HS} {z : Zt} (hz : zO z cX0_insert RX0 1 shX) (hN : zN z 3) (hF : zFv z shX S') (hk102 : ∀ (w2 : Int) (S : HS), rng w2 → WR shX S → k102 w2 S = some (r, S') → zA z 102 [(0, aR 28), (1, aI p1), (2, aI w2)] [] S) (rp1 : rng p1) : ∀ (n : Nat) {v2 : Int} {S : HS}, rng v2 → WR shX S → L_X0_insert_57 k102 p1 n v2 S = some (r, S') → zA z 57 [(0, aR 28), (1, aI p1), (2, aI v2)] [] S := by
  intro n
  induction n with
  | zero =>
    intro _ _ _ _ h
    cases h
  | succ n ih =>
    intro v2 S rv2 hW h
    rw [L_X0_insert_57.eq_2] at h
    refine s_iload_n 2 hz dX0_insert_57 rfl ?_
    refine s_if_le 102 hz rv2 dX0_insert_58 rfl (fun c4 => ?_) (fun c4 => ?_)
    · have h := zif_t c4 h
      exact hk102 _ _ rv2 hW h
    · have h := zif_f c4 h
      refine s_iload_n 2 hz dX0_insert_61 rfl ?_
      refine s_aload_n 0 hz dX0_insert_62 rfl ?_
      refine s_getR 7 hz fl_X0_21 sx28 rfl (by decide) dX0_insert_63 ?_
      refine s_alen hz sx32 (by decide) rfl dX0_insert_66 ?_
      refine s_icmp_ge 102 hz rv2 rl_9 dX0_insert_67 rfl (fun c5 => ?_) (fun c5 => ?_)
      · have h := zif_t c5 h
        exact hk102 _ _ rv2 hW h
      · have h := zif_f c5 h
        refine s_aload_n 0 hz dX0_insert_70 rfl ?_
        refine s_getR 7 hz fl_X0_21 sx28 rfl (by decide) dX0_insert_71 ?_
        refine s_iload_n 2 hz dX0_insert_74 rfl ?_
        refine s_iconst hz dX0_insert_75 ?_
        refine s_isub hz dX0_insert_76 ?_
        obtain ⟨g6, h⟩ := zg_of h
        refine s_iald hz sx32 rfl (by decide) g6 dX0_insert_77 ?_
        refine s_iload_n 1 hz dX0_insert_78 rfl ?_
        refine s_icmp_ge 102 hz (hW 32 _ sx32 (v2 - 1)) rp1 dX0_insert_79 rfl (fun c7 => ?_) (fun c7 => ?_)
        · have h := zif_t c7 h
          exact hk102 _ _ rv2 hW h
        · have h := zif_f c7 h
          refine s_aload_n 0 hz dX0_insert_82 rfl ?_
          refine s_getR 7 hz fl_X0_21 sx28 rfl (by decide) dX0_insert_83 ?_
          refine s_iload_n 2 hz dX0_insert_86 rfl ?_
          refine s_aload_n 0 hz dX0_insert_87 rfl ?_
          refine s_getR 7 hz fl_X0_21 sx28 rfl (by decide) dX0_insert_88 ?_
          refine s_iload_n 2 hz dX0_insert_91 rfl ?_
          refine s_iconst hz dX0_insert_92 ?_
          refine s_isub hz dX0_insert_93 ?_
          obtain ⟨g8, h⟩ := zg_of h
          refine s_iald hz sx32 rfl (by decide) g8 dX0_insert_94 ?_
          obtain ⟨g9, h⟩ := zg_of h
          obtain ⟨S10, eS10, h⟩ := zs_ex h
          have hW10 : WR shX S10 := by rw [eS10]; exact hW.up (i := v2) sx32 (v := (S 32 (v2 - 1))) (hW 32 _ sx32 (v2 - 1))
          refine s_iast hz sx32 rfl (by decide) g9 dX0_insert_95 ?_
          rw [← eS10]
          obtain ⟨x11, ex11, rx11, h⟩ := zl_ex h
          refine s_iinc (k0 := 2) (y := x11) (l' := [(2, aI x11), (0, aR 28), (1, aI p1)]) hz hN dX0_insert_96 rfl ex11.symm (by decide) rfl ?_
          refine s_goto 57 hz dX0_insert_99 rfl ?_
          refine s_pick (l' := [(0, aR 28), (1, aI p1), (2, aI x11)]) [1, 2, 0] rfl ?_
          exact ih rx11 hW10 h
def J_X0_insert_102 (v1 : Int) (v2 : Int) (S : HS) : zO2 :=
  if v2 < 0 then (
    some (0, S))
  else (
    if 9 ≤ v2 then (
      some (0, S))
    else (
      zg ((0 : Int) ≤ v2 ∧ v2 < 9) <|
      zs (up S 32 v2 v1) fun S16 =>
      some (0, S16)))
set_option maxHeartbeats 4000000 in
set_option maxRecDepth 20000 in
theorem TJ_X0_insert_102 {v1 : Int} {v2 : Int} {S : HS} {r : Int} {S' : HS} {z : Zt} (hz : zO z cX0_insert RX0 1 shX) (hN : zN z 3) (hF : zFv z shX S') (rv1 : rng v1) (rv2 : rng v2) (hW : WR shX S) (h : J_X0_insert_102 v1 v2 S = some (r, S')) : zA z 102 [(0, aR 28), (1, aI v1), (2, aI v2)] [] S := by
  unfold J_X0_insert_102 at h
  refine s_iload_n 2 hz dX0_insert_102 rfl ?_
  refine s_if_lt 122 hz rv2 dX0_insert_103 rfl (fun c13 => ?_) (fun c13 => ?_)
  · have h := zif_t c13 h
    exact s_vret h hz hF hW dX0_insert_122
  · have h := zif_f c13 h
    refine s_iload_n 2 hz dX0_insert_106 rfl ?_
    refine s_aload_n 0 hz dX0_insert_107 rfl ?_
    refine s_getR 7 hz fl_X0_21 sx28 rfl (by decide) dX0_insert_108 ?_
    refine s_alen hz sx32 (by decide) rfl dX0_insert_111 ?_
    refine s_icmp_ge 122 hz rv2 rl_9 dX0_insert_112 rfl (fun c14 => ?_) (fun c14 => ?_)
    · have h := zif_t c14 h
      exact s_vret h hz hF hW dX0_insert_122
    · have h := zif_f c14 h
      refine s_aload_n 0 hz dX0_insert_115 rfl ?_
      refine s_getR 7 hz fl_X0_21 sx28 rfl (by decide) dX0_insert_116 ?_
      refine s_iload_n 2 hz dX0_insert_119 rfl ?_
      refine s_iload_n 1 hz dX0_insert_120 rfl ?_
      obtain ⟨g15, h⟩ := zg_of h
      obtain ⟨S16, eS16, h⟩ := zs_ex h
      have hW16 : WR shX S16 := by rw [eS16]; exact hW.up (i := v2) sx32 (v := v1) rv1
      refine s_iast hz sx32 rfl (by decide) g15 dX0_insert_121 ?_
      rw [← eS16]
      exact s_vret h hz hF hW16 dX0_insert_122
def J_X0_insert_57 (v1 : Int) (v2 : Int) (S : HS) : zO2 :=
  L_X0_insert_57 (fun e2 S12 =>
      J_X0_insert_102 v1 e2 S12) v1 zBig v2 S
set_option maxHeartbeats 4000000 in
set_option maxRecDepth 20000 in
theorem TJ_X0_insert_57 {v1 : Int} {v2 : Int} {S : HS} {r : Int} {S' : HS} {z : Zt} (hz : zO z cX0_insert RX0 1 shX) (hN : zN z 3) (hF : zFv z shX S') (rv1 : rng v1) (rv2 : rng v2) (hW : WR shX S) (h : J_X0_insert_57 v1 v2 S = some (r, S')) : zA z 57 [(0, aR 28), (1, aI v1), (2, aI v2)] [] S := by
  unfold J_X0_insert_57 at h
  refine TL_X0_insert_57 hz hN hF ?_ rv1 zBig rv2 hW h
  · clear h 
    intro e2 S12 re2 hW12 h
    exact TJ_X0_insert_102 hz hN hF rv1 re2 hW12 h
def M_X0_insert (a1 : Int) (S : HS) : zO2 :=
  if S 28 9 < S 28 8 then (
    zl ((S 28 9) + 1) fun x2 =>
    zs (up S 28 9 x2) fun S3 =>
    J_X0_insert_57 a1 (S 28 9) S3)
  else (
    zl ((S 28 8) - 1) fun x17 =>
    if x17 < 0 then (
      some (0, S))
    else (
      if 9 ≤ x17 then (
        some (0, S))
      else (
        zg ((0 : Int) ≤ x17 ∧ x17 < 9) <|
        if S 32 x17 < a1 then (
          J_X0_insert_57 a1 x17 S)
        else (
          some (0, S)))))
set_option maxHeartbeats 4000000 in
set_option maxRecDepth 20000 in
theorem T_X0_insert {a1 : Int} {S S' : HS} {r : Int} (ra1 : rng a1) (hW : WR shX S) (h : M_X0_insert a1 S = some (r, S')) : zV shX yX0_insert cX0_insert 3 1 [aR 28, aI a1] S S' := by
  refine zV_of (by decide +kernel) (Nat.le_of_ble_eq_true rfl) (fun z hz hN hF => ?_)
  have hz : zO z cX0_insert RX0 1 shX := hz
  show zA z 0 [(0, aR 28), (1, aI a1)] [] S
  unfold M_X0_insert at h
  refine s_aload_n 0 hz dX0_insert_0 rfl ?_
  refine s_getI (kz := 9) 9 hz fl_X0_124 sx28 rfl rfl dX0_insert_1 ?_
  refine s_istore_n (l' := [(2, aI (S 28 9)), (0, aR 28), (1, aI a1)]) hz hN dX0_insert_4 (by decide) rfl ?_
  refine s_aload_n 1 hz dX0_insert_5 rfl ?_
  refine s_getI (kz := 9) 9 hz fl_X0_124 sx28 rfl rfl dX0_insert_6 ?_
  refine s_aload_n 1 hz dX0_insert_9 rfl ?_
  refine s_getI (kz := 8) 8 hz fl_X0_121 sx28 rfl rfl dX0_insert_10 ?_
  refine s_icmp_lt 47 hz (hW 28 _ sx28 9) (hW 28 _ sx28 8) dX0_insert_13 rfl (fun c1 => ?_) (fun c1 => ?_)
  · have h := zif_t c1 h
    refine s_aload_n 1 hz dX0_insert_47 rfl ?_
    refine s_dup hz rfl dX0_insert_48 ?_
    refine s_getI (kz := 9) 9 hz fl_X0_124 sx28 rfl rfl dX0_insert_49 ?_
    refine s_iconst hz dX0_insert_52 ?_
    refine s_iadd hz dX0_insert_53 ?_
    obtain ⟨x2, ex2, rx2, h⟩ := zl_ex h
    rw [← ex2]
    obtain ⟨S3, eS3, h⟩ := zs_ex h
    have hW3 : WR shX S3 := by rw [eS3]; exact hW.up (i := 9) sx28 (v := x2) rx2
    refine s_putI (kz := 9) 9 hz fp_X0_124 sx28 rfl rfl dX0_insert_54 ?_
    rw [← eS3]
    refine s_pick (l' := [(0, aR 28), (1, aI a1), (2, aI (S 28 9))]) [1, 2, 0] rfl ?_
    exact TJ_X0_insert_57 hz hN hF ra1 (hW 28 _ sx28 9) hW3 h
  · have h := zif_f c1 h
    refine s_aload_n 1 hz dX0_insert_16 rfl ?_
    refine s_getI (kz := 8) 8 hz fl_X0_121 sx28 rfl rfl dX0_insert_17 ?_
    refine s_iconst hz dX0_insert_20 ?_
    refine s_isub hz dX0_insert_21 ?_
    obtain ⟨x17, ex17, rx17, h⟩ := zl_ex h
    rw [← ex17]
    refine s_istore_n (l' := [(2, aI x17), (0, aR 28), (1, aI a1)]) hz hN dX0_insert_22 (by decide) rfl ?_
    refine s_iload_n 0 hz dX0_insert_23 rfl ?_
    refine s_if_lt 46 hz rx17 dX0_insert_24 rfl (fun c18 => ?_) (fun c18 => ?_)
    · have h := zif_t c18 h
      exact s_vret h hz hF hW dX0_insert_46
    · have h := zif_f c18 h
      refine s_iload_n 0 hz dX0_insert_27 rfl ?_
      refine s_aload_n 1 hz dX0_insert_28 rfl ?_
      refine s_getR 7 hz fl_X0_21 sx28 rfl (by decide) dX0_insert_29 ?_
      refine s_alen hz sx32 (by decide) rfl dX0_insert_32 ?_
      refine s_icmp_ge 46 hz rx17 rl_9 dX0_insert_33 rfl (fun c19 => ?_) (fun c19 => ?_)
      · have h := zif_t c19 h
        exact s_vret h hz hF hW dX0_insert_46
      · have h := zif_f c19 h
        refine s_aload_n 1 hz dX0_insert_36 rfl ?_
        refine s_getR 7 hz fl_X0_21 sx28 rfl (by decide) dX0_insert_37 ?_
        refine s_iload_n 0 hz dX0_insert_40 rfl ?_
        obtain ⟨g20, h⟩ := zg_of h
        refine s_iald hz sx32 rfl (by decide) g20 dX0_insert_41 ?_
        refine s_iload_n 2 hz dX0_insert_42 rfl ?_
        refine s_icmp_lt 57 hz (hW 32 _ sx32 x17) ra1 dX0_insert_43 rfl (fun c21 => ?_) (fun c21 => ?_)
        · have h := zif_t c21 h
          refine s_pick (l' := [(0, aR 28), (1, aI a1), (2, aI x17)]) [1, 2, 0] rfl ?_
          exact TJ_X0_insert_57 hz hN hF ra1 rx17 hW h
        · have h := zif_f c21 h
          exact s_vret h hz hF hW dX0_insert_46
def L_X0_keepLongest_12 (p2 : Int) (p3 : Int) : Nat → Int → HS → zO2
  | 0, _, _ => none
  | n + 1, v4, S => 
    if p3 ≤ v4 then (
      some (0, S))
    else (
      zb (M_X0_insert (max 0 p2) S) fun _ S3 =>
      zl (v4 + 1) fun x4 =>
      L_X0_keepLongest_12 p2 p3 n x4 S3)
set_option maxHeartbeats 4000000 in
set_option maxRecDepth 20000 in
theorem TL_X0_keepLongest_12 {p2 : Int} {p3 : Int} {r : Int} {S' : HS} {z : Zt} (hz : zO z cX0_keepLongest RX0 2 shX) (hN : zN z 5) (hF : zFv z shX S') (rp2 : rng p2) (rp3 : rng p3) : ∀ (n : Nat) {v4 : Int} {S : HS}, rng v4 → WR shX S → L_X0_keepLongest_12 p2 p3 n v4 S = some (r, S') → zA z 12 [(0, aR 28), (2, aI p2), (3, aI p3), (4, aI v4)] [] S := by
  intro n
  induction n with
  | zero =>
    intro _ _ _ _ h
    cases h
  | succ n ih =>
    intro v4 S rv4 hW h
    rw [L_X0_keepLongest_12.eq_2] at h
    refine s_iload 3 hz dX0_keepLongest_12 rfl ?_
    refine s_iload_n 2 hz dX0_keepLongest_14 rfl ?_
    refine s_icmp_ge 33 hz rv4 rp3 dX0_keepLongest_15 rfl (fun c1 => ?_) (fun c1 => ?_)
    · have h := zif_t c1 h
      exact s_vret h hz hF hW dX0_keepLongest_33
    · have h := zif_f c1 h
      refine s_aload_n 0 hz dX0_keepLongest_18 rfl ?_
      refine s_iconst hz dX0_keepLongest_19 ?_
      refine s_iload_n 1 hz dX0_keepLongest_20 rfl ?_
      refine s_max hz mj_X0_85 (by decide) rl_0 rp2 (Nat.le_of_ble_eq_true rfl) dX0_keepLongest_21 ?_
      obtain ⟨r2, S3, hc3, h⟩ := zb_of h
      refine s_callVv [aI (max 0 p2)] [] hz ml_X0_155 sv_yX0_insert (T_X0_insert (zmax_r rl_0 rp2) hW hc3) (by decide) rfl sx28 rfl rfl (Nat.le_of_ble_eq_true rfl) dX0_keepLongest_24 (fun hW3 => ?_)
      obtain ⟨x4, ex4, rx4, h⟩ := zl_ex h
      refine s_iinc (k0 := 3) (y := x4) (l' := [(4, aI x4), (0, aR 28), (2, aI p2), (3, aI p3)]) hz hN dX0_keepLongest_27 rfl ex4.symm (by decide) rfl ?_
      refine s_goto 12 hz dX0_keepLongest_30 rfl ?_
      refine s_pick (l' := [(0, aR 28), (2, aI p2), (3, aI p3), (4, aI x4)]) [1, 2, 3, 0] rfl ?_
      exact ih rx4 hW3 h
def M_X0_keepLongest (a1 : Int) (a2 : Int) (S : HS) : zO2 :=
  L_X0_keepLongest_12 a2 (min a1 (S 28 8)) zBig 0 S
set_option maxHeartbeats 4000000 in
set_option maxRecDepth 20000 in
theorem T_X0_keepLongest {a1 : Int} {a2 : Int} {S S' : HS} {r : Int} (ra1 : rng a1) (ra2 : rng a2) (hW : WR shX S) (h : M_X0_keepLongest a1 a2 S = some (r, S')) : zV shX yX0_keepLongest cX0_keepLongest 5 2 [aR 28, aI a1, aI a2] S S' := by
  refine zV_of (by decide +kernel) (Nat.le_of_ble_eq_true rfl) (fun z hz hN hF => ?_)
  have hz : zO z cX0_keepLongest RX0 2 shX := hz
  show zA z 0 [(0, aR 28), (1, aI a1), (2, aI a2)] [] S
  unfold M_X0_keepLongest at h
  refine s_iload_n 1 hz dX0_keepLongest_0 rfl ?_
  refine s_aload_n 0 hz dX0_keepLongest_1 rfl ?_
  refine s_getI (kz := 8) 8 hz fl_X0_121 sx28 rfl rfl dX0_keepLongest_2 ?_
  refine s_min hz mj_X0_80 (by decide) ra1 (hW 28 _ sx28 8) (Nat.le_of_ble_eq_true rfl) dX0_keepLongest_5 ?_
  refine s_istore_n (l' := [(3, aI (min a1 (S 28 8))), (0, aR 28), (1, aI a1), (2, aI a2)]) hz hN dX0_keepLongest_8 (by decide) rfl ?_
  refine s_iconst hz dX0_keepLongest_9 ?_
  refine s_istore (l' := [(4, aI 0), (3, aI (min a1 (S 28 8))), (0, aR 28), (1, aI a1), (2, aI a2)]) hz hN dX0_keepLongest_10 (by decide) rfl ?_
  refine s_pick (l' := [(0, aR 28), (2, aI a2), (3, aI (min a1 (S 28 8))), (4, aI 0)]) [2, 4, 1, 0] rfl ?_
  exact TL_X0_keepLongest_12 hz hN hF ra2 (zmin_r ra1 (hW 28 _ sx28 8)) zBig rl_0 hW h
def L_X0_reach_25 (k66 : HS → zO2) (p1 : Int) (p2 : Int) (p4 : Int) : Nat → Int → HS → zO2
  | 0, _, _ => none
  | n + 1, v5, S => 
    if p4 < v5 then (
      k66 S)
    else (
      zb (M_X0_shareAt p1 v5 p2 S) fun r7 S8 =>
      zl ((S8 1 1) - (10 * (p4 - v5))) fun x9 =>
      zb (M_X0_keepLongest r7 x9 S8) fun _ S11 =>
      zl (v5 + 1) fun x12 =>
      L_X0_reach_25 k66 p1 p2 p4 n x12 S11)
set_option maxHeartbeats 4000000 in
set_option maxRecDepth 20000 in
theorem TL_X0_reach_25 {k66 : HS → zO2} {p1 : Int} {p2 : Int} {p4 : Int} {r : Int} {S' : HS} {z : Zt} (hz : zO z cX0_reach RX0 4 shX) (hN : zN z 7) (hF : zFi z shX .int r S') (hk66 : ∀ (S : HS), WR shX S → k66 S = some (r, S') → zA z 66 [(0, aR 28), (1, aI p1), (2, aI p2), (4, aI p4)] [] S) (rp1 : rng p1) (rp2 : rng p2) (rp4 : rng p4) : ∀ (n : Nat) {v5 : Int} {S : HS}, rng v5 → WR shX S → L_X0_reach_25 k66 p1 p2 p4 n v5 S = some (r, S') → zA z 25 [(0, aR 28), (1, aI p1), (2, aI p2), (4, aI p4), (5, aI v5)] [] S := by
  intro n
  induction n with
  | zero =>
    intro _ _ _ _ h
    cases h
  | succ n ih =>
    intro v5 S rv5 hW h
    rw [L_X0_reach_25.eq_2] at h
    refine s_iload 4 hz dX0_reach_25 rfl ?_
    refine s_iload 3 hz dX0_reach_27 rfl ?_
    refine s_icmp_gt 66 hz rv5 rp4 dX0_reach_29 rfl (fun c6 => ?_) (fun c6 => ?_)
    · have h := zif_t c6 h
      refine s_pick (l' := [(0, aR 28), (1, aI p1), (2, aI p2), (4, aI p4)]) [0, 1, 2, 3] rfl ?_
      exact hk66 _ hW h
    · have h := zif_f c6 h
      refine s_aload_n 0 hz dX0_reach_32 rfl ?_
      refine s_aload_n 0 hz dX0_reach_33 rfl ?_
      refine s_iload_n 1 hz dX0_reach_34 rfl ?_
      refine s_iload 4 hz dX0_reach_35 rfl ?_
      refine s_iload_n 2 hz dX0_reach_37 rfl ?_
      obtain ⟨r7, S8, hc8, h⟩ := zb_of h
      refine s_callV [aI p1, aI v5, aI p2] [aR 28] hz ml_X0_127 sv_yX0_shareAt (T_X0_shareAt rp1 rv5 rp2 hW hc8) (by decide) rfl sx28 rfl rfl (Nat.le_of_ble_eq_true rfl) dX0_reach_38 (fun rr7 hW8 => ?_)
      refine s_aload_n 0 hz dX0_reach_41 rfl ?_
      refine s_getR 0 hz fl_X0_24 sx28 rfl (by decide) dX0_reach_42 ?_
      refine s_getI (kz := 1) 1 hz fl_X0_130 sx1 rfl rfl dX0_reach_45 ?_
      refine s_bipush hz dX0_reach_48 bp_10 ?_
      refine s_iload 3 hz dX0_reach_50 rfl ?_
      refine s_iload 4 hz dX0_reach_52 rfl ?_
      refine s_isub hz dX0_reach_54 ?_
      refine s_imul hz dX0_reach_55 ?_
      refine s_isub hz dX0_reach_56 ?_
      obtain ⟨x9, ex9, rx9, h⟩ := zl_ex h
      rw [← ex9]
      obtain ⟨r10, S11, hc11, h⟩ := zb_of h
      refine s_callVv [aI r7, aI x9] [] hz ml_X0_133 sv_yX0_keepLongest (T_X0_keepLongest rr7 rx9 hW8 hc11) (by decide) rfl sx28 rfl rfl (Nat.le_of_ble_eq_true rfl) dX0_reach_57 (fun hW11 => ?_)
      obtain ⟨x12, ex12, rx12, h⟩ := zl_ex h
      refine s_iinc (k0 := 4) (y := x12) (l' := [(5, aI x12), (0, aR 28), (1, aI p1), (2, aI p2), (4, aI p4)]) hz hN dX0_reach_60 rfl ex12.symm (by decide) rfl ?_
      refine s_goto 25 hz dX0_reach_63 rfl ?_
      refine s_pick (l' := [(0, aR 28), (1, aI p1), (2, aI p2), (4, aI p4), (5, aI x12)]) [1, 2, 3, 4, 0] rfl ?_
      exact ih rx12 hW11 h
def J_X0_reach_161 (k69 : Int → HS → zO2) (v1 : Int) (v2 : Int) (v4 : Int) (v5 : Int) (S : HS) : zO2 :=
  zl (v5 + 1) fun x19 =>
  k69 x19 S
set_option maxHeartbeats 4000000 in
set_option maxRecDepth 20000 in
theorem TJ_X0_reach_161 {k69 : Int → HS → zO2} {v1 : Int} {v2 : Int} {v4 : Int} {v5 : Int} {S : HS} {r : Int} {S' : HS} {z : Zt} (hz : zO z cX0_reach RX0 4 shX) (hN : zN z 7) (hF : zFi z shX .int r S') (hk69 : ∀ (w5 : Int) (S : HS), rng w5 → WR shX S → k69 w5 S = some (r, S') → zA z 69 [(0, aR 28), (1, aI v1), (2, aI v2), (4, aI v4), (5, aI w5)] [] S) (rv1 : rng v1) (rv2 : rng v2) (rv4 : rng v4) (rv5 : rng v5) (hW : WR shX S) (h : J_X0_reach_161 k69 v1 v2 v4 v5 S = some (r, S')) : zA z 161 [(0, aR 28), (1, aI v1), (2, aI v2), (4, aI v4), (5, aI v5)] [] S := by
  unfold J_X0_reach_161 at h
  obtain ⟨x19, ex19, rx19, h⟩ := zl_ex h
  refine s_iinc (k0 := 4) (y := x19) (l' := [(5, aI x19), (0, aR 28), (1, aI v1), (2, aI v2), (4, aI v4)]) hz hN dX0_reach_161 rfl ex19.symm (by decide) rfl ?_
  refine s_goto 69 hz dX0_reach_164 rfl ?_
  refine s_pick (l' := [(0, aR 28), (1, aI v1), (2, aI v2), (4, aI v4), (5, aI x19)]) [1, 2, 3, 4, 0] rfl ?_
  exact hk69 _ _ rx19 hW h
def J_X0_reach_128 (k69 : Int → HS → zO2) (v1 : Int) (v2 : Int) (v4 : Int) (v5 : Int) (v6 : Int) (S : HS) : zO2 :=
  zg ((0 : Int) ≤ v5 ∧ v5 < 60) <|
  zg ((0 : Int) ≤ v5 ∧ v5 < 60) <|
  zl ((S 27 v5) - (10 * (v4 - v6))) fun x23 =>
  zb (M_X0_keepLongest (S 26 v5) x23 S) fun _ S25 =>
  J_X0_reach_161 k69 v1 v2 v4 v5 S25
set_option maxHeartbeats 4000000 in
set_option maxRecDepth 20000 in
theorem TJ_X0_reach_128 {k69 : Int → HS → zO2} {v1 : Int} {v2 : Int} {v4 : Int} {v5 : Int} {v6 : Int} {S : HS} {r : Int} {S' : HS} {z : Zt} (hz : zO z cX0_reach RX0 4 shX) (hN : zN z 7) (hF : zFi z shX .int r S') (hk69 : ∀ (w5 : Int) (S : HS), rng w5 → WR shX S → k69 w5 S = some (r, S') → zA z 69 [(0, aR 28), (1, aI v1), (2, aI v2), (4, aI v4), (5, aI w5)] [] S) (rv1 : rng v1) (rv2 : rng v2) (rv4 : rng v4) (rv5 : rng v5) (rv6 : rng v6) (hW : WR shX S) (h : J_X0_reach_128 k69 v1 v2 v4 v5 v6 S = some (r, S')) : zA z 128 [(0, aR 28), (1, aI v1), (2, aI v2), (4, aI v4), (5, aI v5), (6, aI v6)] [] S := by
  unfold J_X0_reach_128 at h
  refine s_aload_n 0 hz dX0_reach_128 rfl ?_
  refine s_aload_n 0 hz dX0_reach_129 rfl ?_
  refine s_getR 3 hz fl_X0_36 sx28 rfl (by decide) dX0_reach_130 ?_
  refine s_getR 2 hz fl_X0_149 sx23 rfl (by decide) dX0_reach_133 ?_
  refine s_iload 4 hz dX0_reach_136 rfl ?_
  obtain ⟨g21, h⟩ := zg_of h
  refine s_iald hz sx26 rfl (by decide) g21 dX0_reach_138 ?_
  refine s_aload_n 0 hz dX0_reach_139 rfl ?_
  refine s_getR 3 hz fl_X0_36 sx28 rfl (by decide) dX0_reach_140 ?_
  refine s_getR 3 hz fl_X0_152 sx23 rfl (by decide) dX0_reach_143 ?_
  refine s_iload 4 hz dX0_reach_146 rfl ?_
  obtain ⟨g22, h⟩ := zg_of h
  refine s_iald hz sx27 rfl (by decide) g22 dX0_reach_148 ?_
  refine s_bipush hz dX0_reach_149 bp_10 ?_
  refine s_iload 3 hz dX0_reach_151 rfl ?_
  refine s_iload 5 hz dX0_reach_153 rfl ?_
  refine s_isub hz dX0_reach_155 ?_
  refine s_imul hz dX0_reach_156 ?_
  refine s_isub hz dX0_reach_157 ?_
  obtain ⟨x23, ex23, rx23, h⟩ := zl_ex h
  rw [← ex23]
  obtain ⟨r24, S25, hc25, h⟩ := zb_of h
  refine s_callVv [aI (S 26 v5), aI x23] [] hz ml_X0_133 sv_yX0_keepLongest (T_X0_keepLongest (hW 26 _ sx26 v5) rx23 hW hc25) (by decide) rfl sx28 rfl rfl (Nat.le_of_ble_eq_true rfl) dX0_reach_158 (fun hW25 => ?_)
  refine s_pick (l' := [(0, aR 28), (1, aI v1), (2, aI v2), (4, aI v4), (5, aI v5)]) [0, 1, 2, 3, 4] rfl ?_
  exact TJ_X0_reach_161 hz hN hF hk69 rv1 rv2 rv4 rv5 hW25 h
def L_X0_reach_69 (k167 : HS → zO2) (p1 : Int) (p2 : Int) (p4 : Int) : Nat → Int → HS → zO2
  | 0, _, _ => none
  | n + 1, v5, S => 
    if S 23 4 ≤ v5 then (
      k167 S)
    else (
      if 60 ≤ v5 then (
        k167 S)
      else (
        zg ((0 : Int) ≤ v5 ∧ v5 < 60) <|
        zg ((0 : Int) ≤ v5 ∧ v5 < 60) <|
        if S 24 v5 = p1 then (
          if p2 = 3 then (
            J_X0_reach_128 (L_X0_reach_69 k167 p1 p2 p4 n) p1 p2 p4 v5 (S 25 v5) S)
          else (
            zb (M_X0_takerAt (S 25 v5) S) fun r26 S27 =>
            if r26 = p2 then (
              J_X0_reach_128 (L_X0_reach_69 k167 p1 p2 p4 n) p1 p2 p4 v5 (S 25 v5) S27)
            else (
              J_X0_reach_161 (L_X0_reach_69 k167 p1 p2 p4 n) p1 p2 p4 v5 S27)))
        else (
          J_X0_reach_161 (L_X0_reach_69 k167 p1 p2 p4 n) p1 p2 p4 v5 S)))
set_option maxHeartbeats 4000000 in
set_option maxRecDepth 20000 in
theorem TL_X0_reach_69 {k167 : HS → zO2} {p1 : Int} {p2 : Int} {p4 : Int} {r : Int} {S' : HS} {z : Zt} (hz : zO z cX0_reach RX0 4 shX) (hN : zN z 7) (hF : zFi z shX .int r S') (hk167 : ∀ (S : HS), WR shX S → k167 S = some (r, S') → zA z 167 [(0, aR 28)] [] S) (rp1 : rng p1) (rp2 : rng p2) (rp4 : rng p4) : ∀ (n : Nat) {v5 : Int} {S : HS}, rng v5 → WR shX S → L_X0_reach_69 k167 p1 p2 p4 n v5 S = some (r, S') → zA z 69 [(0, aR 28), (1, aI p1), (2, aI p2), (4, aI p4), (5, aI v5)] [] S := by
  intro n
  induction n with
  | zero =>
    intro _ _ _ _ h
    cases h
  | succ n ih =>
    intro v5 S rv5 hW h
    rw [L_X0_reach_69.eq_2] at h
    refine s_iload 4 hz dX0_reach_69 rfl ?_
    refine s_aload_n 0 hz dX0_reach_71 rfl ?_
    refine s_getR 3 hz fl_X0_36 sx28 rfl (by decide) dX0_reach_72 ?_
    refine s_getI (kz := 4) 4 hz fl_X0_137 sx23 rfl rfl dX0_reach_75 ?_
    refine s_icmp_ge 167 hz rv5 (hW 23 _ sx23 4) dX0_reach_78 rfl (fun c14 => ?_) (fun c14 => ?_)
    · have h := zif_t c14 h
      refine s_pick (l' := [(0, aR 28)]) [0] rfl ?_
      exact hk167 _ hW h
    · have h := zif_f c14 h
      refine s_iload 4 hz dX0_reach_81 rfl ?_
      refine s_bipush hz dX0_reach_83 bp_60 ?_
      refine s_icmp_ge 167 hz rv5 rl_60 dX0_reach_85 rfl (fun c15 => ?_) (fun c15 => ?_)
      · have h := zif_t c15 h
        refine s_pick (l' := [(0, aR 28)]) [0] rfl ?_
        exact hk167 _ hW h
      · have h := zif_f c15 h
        refine s_aload_n 0 hz dX0_reach_88 rfl ?_
        refine s_getR 3 hz fl_X0_36 sx28 rfl (by decide) dX0_reach_89 ?_
        refine s_getR 1 hz fl_X0_140 sx23 rfl (by decide) dX0_reach_92 ?_
        refine s_iload 4 hz dX0_reach_95 rfl ?_
        obtain ⟨g16, h⟩ := zg_of h
        refine s_iald hz sx25 rfl (by decide) g16 dX0_reach_97 ?_
        refine s_istore (l' := [(6, aI (S 25 v5)), (0, aR 28), (1, aI p1), (2, aI p2), (4, aI p4), (5, aI v5)]) hz hN dX0_reach_98 (by decide) rfl ?_
        refine s_aload_n 1 hz dX0_reach_100 rfl ?_
        refine s_getR 3 hz fl_X0_36 sx28 rfl (by decide) dX0_reach_101 ?_
        refine s_getR 0 hz fl_X0_143 sx23 rfl (by decide) dX0_reach_104 ?_
        refine s_iload 5 hz dX0_reach_107 rfl ?_
        obtain ⟨g17, h⟩ := zg_of h
        refine s_iald hz sx24 rfl (by decide) g17 dX0_reach_109 ?_
        refine s_iload_n 2 hz dX0_reach_110 rfl ?_
        refine s_icmp_ne 161 hz (hW 24 _ sx24 v5) rp1 dX0_reach_111 rfl (fun c18 => ?_) (fun c18 => ?_)
        · have h := zif_f c18 h
          refine s_pick (l' := [(0, aR 28), (1, aI p1), (2, aI p2), (4, aI p4), (5, aI v5)]) [1, 2, 3, 4, 5] rfl ?_
          exact TJ_X0_reach_161 hz hN hF (fun _ _ => ih) rp1 rp2 rp4 rv5 hW h
        · have h := zif_t c18 h
          refine s_iload_n 3 hz dX0_reach_114 rfl ?_
          refine s_iconst hz dX0_reach_115 ?_
          refine s_icmp_eq 128 hz rp2 rl_3 dX0_reach_116 rfl (fun c20 => ?_) (fun c20 => ?_)
          · have h := zif_t c20 h
            refine s_pick (l' := [(0, aR 28), (1, aI p1), (2, aI p2), (4, aI p4), (5, aI v5), (6, aI (S 25 v5))]) [1, 2, 3, 4, 5, 0] rfl ?_
            exact TJ_X0_reach_128 hz hN hF (fun _ _ => ih) rp1 rp2 rp4 rv5 (hW 25 _ sx25 v5) hW h
          · have h := zif_f c20 h
            refine s_iload 0 hz dX0_reach_119 rfl ?_
            obtain ⟨r26, S27, hc27, h⟩ := zb_of h
            refine s_callS [aI (S 25 v5)] [] hz ml_X0_146 ss_yX0_takerAt (T_X0_takerAt (hW 25 _ sx25 v5) hW hc27) (by decide) rfl rfl (Nat.le_of_ble_eq_true rfl) dX0_reach_121 (fun rr26 hW27 => ?_)
            refine s_iload_n 3 hz dX0_reach_124 rfl ?_
            refine s_icmp_ne 161 hz rr26 rp2 dX0_reach_125 rfl (fun c28 => ?_) (fun c28 => ?_)
            · have h := zif_f c28 h
              refine s_pick (l' := [(0, aR 28), (1, aI p1), (2, aI p2), (4, aI p4), (5, aI v5)]) [1, 2, 3, 4, 5] rfl ?_
              exact TJ_X0_reach_161 hz hN hF (fun _ _ => ih) rp1 rp2 rp4 rv5 hW27 h
            · have h := zif_t c28 h
              refine s_pick (l' := [(0, aR 28), (1, aI p1), (2, aI p2), (4, aI p4), (5, aI v5), (6, aI (S 25 v5))]) [1, 2, 3, 4, 5, 0] rfl ?_
              exact TJ_X0_reach_128 hz hN hF (fun _ _ => ih) rp1 rp2 rp4 rv5 (hW 25 _ sx25 v5) hW27 h
def J_X0_reach_167 (S : HS) : zO2 :=
  if S 28 9 ≤ 0 then (
    some (0, S))
  else (
    if S 28 9 < S 28 8 then (
      some (0, S))
    else (
      if 9 < S 28 9 then (
        some (0, S))
      else (
        zg ((0 : Int) ≤ (S 28 9) - 1 ∧ (S 28 9) - 1 < 9) <|
        some (S 32 ((S 28 9) - 1), S))))
set_option maxHeartbeats 4000000 in
set_option maxRecDepth 20000 in
theorem TJ_X0_reach_167 {S : HS} {r : Int} {S' : HS} {z : Zt} (hz : zO z cX0_reach RX0 4 shX) (hN : zN z 7) (hF : zFi z shX .int r S') (hW : WR shX S) (h : J_X0_reach_167 S = some (r, S')) : zA z 167 [(0, aR 28)] [] S := by
  unfold J_X0_reach_167 at h
  refine s_aload_n 0 hz dX0_reach_167 rfl ?_
  refine s_getI (kz := 9) 9 hz fl_X0_124 sx28 rfl rfl dX0_reach_168 ?_
  refine s_if_le 211 hz (hW 28 _ sx28 9) dX0_reach_171 rfl (fun c30 => ?_) (fun c30 => ?_)
  · have h := zif_t c30 h
    refine s_iconst hz dX0_reach_211 ?_
    exact s_iret h hz hF rl_0 hW dX0_reach_212
  · have h := zif_f c30 h
    refine s_aload_n 0 hz dX0_reach_174 rfl ?_
    refine s_getI (kz := 9) 9 hz fl_X0_124 sx28 rfl rfl dX0_reach_175 ?_
    refine s_aload_n 0 hz dX0_reach_178 rfl ?_
    refine s_getI (kz := 8) 8 hz fl_X0_121 sx28 rfl rfl dX0_reach_179 ?_
    refine s_icmp_lt 211 hz (hW 28 _ sx28 9) (hW 28 _ sx28 8) dX0_reach_182 rfl (fun c31 => ?_) (fun c31 => ?_)
    · have h := zif_t c31 h
      refine s_iconst hz dX0_reach_211 ?_
      exact s_iret h hz hF rl_0 hW dX0_reach_212
    · have h := zif_f c31 h
      refine s_aload_n 0 hz dX0_reach_185 rfl ?_
      refine s_getI (kz := 9) 9 hz fl_X0_124 sx28 rfl rfl dX0_reach_186 ?_
      refine s_aload_n 0 hz dX0_reach_189 rfl ?_
      refine s_getR 7 hz fl_X0_21 sx28 rfl (by decide) dX0_reach_190 ?_
      refine s_alen hz sx32 (by decide) rfl dX0_reach_193 ?_
      refine s_icmp_gt 211 hz (hW 28 _ sx28 9) rl_9 dX0_reach_194 rfl (fun c32 => ?_) (fun c32 => ?_)
      · have h := zif_t c32 h
        refine s_iconst hz dX0_reach_211 ?_
        exact s_iret h hz hF rl_0 hW dX0_reach_212
      · have h := zif_f c32 h
        refine s_aload_n 0 hz dX0_reach_197 rfl ?_
        refine s_getR 7 hz fl_X0_21 sx28 rfl (by decide) dX0_reach_198 ?_
        refine s_aload_n 0 hz dX0_reach_201 rfl ?_
        refine s_getI (kz := 9) 9 hz fl_X0_124 sx28 rfl rfl dX0_reach_202 ?_
        refine s_iconst hz dX0_reach_205 ?_
        refine s_isub hz dX0_reach_206 ?_
        obtain ⟨g33, h⟩ := zg_of h
        refine s_iald hz sx32 rfl (by decide) g33 dX0_reach_207 ?_
        refine s_goto 212 hz dX0_reach_208 rfl ?_
        exact s_iret h hz hF (hW 32 _ sx32 ((S 28 9) - 1)) hW dX0_reach_212
def M_X0_reach (a1 : Int) (a2 : Int) (a3 : Int) (S : HS) : zO2 :=
  zs (up S 28 8 a3) fun S1 =>
  zs (up S1 28 9 0) fun S2 =>
  zb (M_X6_sizeIn a1 S2) fun r3 S4 =>
  zl (r3 - 1) fun x5 =>
  L_X0_reach_25 (fun S13 =>
      L_X0_reach_69 (fun S29 =>
          J_X0_reach_167 S29) a1 a2 x5 zBig 0 S13) a1 a2 x5 zBig 0 S4
set_option maxHeartbeats 4000000 in
set_option maxRecDepth 20000 in
theorem T_X0_reach {a1 : Int} {a2 : Int} {a3 : Int} {S S' : HS} {r : Int} (ra1 : rng a1) (ra2 : rng a2) (ra3 : rng a3) (hW : WR shX S) (h : M_X0_reach a1 a2 a3 S = some (r, S')) : zR shX yX0_reach cX0_reach 7  .int 4 [aR 28, aI a1, aI a2, aI a3] S r S' := by
  refine zR_of (by decide +kernel) (Nat.le_of_ble_eq_true rfl) (fun z hz hN hF => ?_)
  have hz : zO z cX0_reach RX0 4 shX := hz
  show zA z 0 [(0, aR 28), (1, aI a1), (2, aI a2), (3, aI a3)] [] S
  unfold M_X0_reach at h
  refine s_aload_n 0 hz dX0_reach_0 rfl ?_
  refine s_iload_n 3 hz dX0_reach_1 rfl ?_
  obtain ⟨S1, eS1, h⟩ := zs_ex h
  have hW1 : WR shX S1 := by rw [eS1]; exact hW.up (i := 8) sx28 (v := a3) ra3
  refine s_putI (kz := 8) 8 hz fp_X0_121 sx28 rfl rfl dX0_reach_2 ?_
  rw [← eS1]
  refine s_aload_n 0 hz dX0_reach_5 rfl ?_
  refine s_iconst hz dX0_reach_6 ?_
  obtain ⟨S2, eS2, h⟩ := zs_ex h
  have hW2 : WR shX S2 := by rw [eS2]; exact hW1.up (i := 9) sx28 (v := 0) rl_0
  refine s_putI (kz := 9) 9 hz fp_X0_124 sx28 rfl rfl dX0_reach_7 ?_
  rw [← eS2]
  refine s_aload_n 0 hz dX0_reach_10 rfl ?_
  refine s_getR 1 hz fl_X0_28 sx28 rfl (by decide) dX0_reach_11 ?_
  refine s_iload_n 1 hz dX0_reach_14 rfl ?_
  obtain ⟨r3, S4, hc4, h⟩ := zb_of h
  refine s_callV [aI a1] [] hz ml_X0_50 sv_yX6_sizeIn (T_X6_sizeIn ra1 hW2 hc4) (by decide) rfl sx7 rfl rfl (Nat.le_of_ble_eq_true rfl) dX0_reach_15 (fun rr3 hW4 => ?_)
  refine s_iconst hz dX0_reach_18 ?_
  refine s_isub hz dX0_reach_19 ?_
  obtain ⟨x5, ex5, rx5, h⟩ := zl_ex h
  rw [← ex5]
  refine s_istore (l' := [(4, aI x5), (0, aR 28), (1, aI a1), (2, aI a2), (3, aI a3)]) hz hN dX0_reach_20 (by decide) rfl ?_
  refine s_iconst hz dX0_reach_22 ?_
  refine s_istore (l' := [(5, aI 0), (4, aI x5), (0, aR 28), (1, aI a1), (2, aI a2), (3, aI a3)]) hz hN dX0_reach_23 (by decide) rfl ?_
  refine s_pick (l' := [(0, aR 28), (1, aI a1), (2, aI a2), (4, aI x5), (5, aI 0)]) [2, 3, 4, 1, 0] rfl ?_
  refine TL_X0_reach_25 hz hN hF ?_ ra1 ra2 rx5 zBig rl_0 hW4 h
  · clear h 
    intro S13 hW13 h
    refine s_iconst hz dX0_reach_66 ?_
    refine s_istore (l' := [(5, aI 0), (0, aR 28), (1, aI a1), (2, aI a2), (4, aI x5)]) hz hN dX0_reach_67 (by decide) rfl ?_
    refine s_pick (l' := [(0, aR 28), (1, aI a1), (2, aI a2), (4, aI x5), (5, aI 0)]) [1, 2, 3, 4, 0] rfl ?_
    refine TL_X0_reach_69 hz hN hF ?_ ra1 ra2 rx5 zBig rl_0 hW13 h
    · clear h 
      intro S29 hW29 h
      exact TJ_X0_reach_167 hz hN hF hW29 h
def J_X0_hang_87 (k44 : Int → Int → HS → zO2) (v1 : Int) (v2 : Int) (v3 : Int) (S : HS) : zO2 :=
  zl (v3 + 1) fun x10 =>
  k44 v2 x10 S
set_option maxHeartbeats 4000000 in
set_option maxRecDepth 20000 in
theorem TJ_X0_hang_87 {k44 : Int → Int → HS → zO2} {v1 : Int} {v2 : Int} {v3 : Int} {S : HS} {r : Int} {S' : HS} {z : Zt} (hz : zO z cX0_hang RX0 5 shX) (hN : zN z 4) (hF : zFi z shX .int r S') (hk44 : ∀ (w2 w3 : Int) (S : HS), rng w2 → rng w3 → WR shX S → k44 w2 w3 S = some (r, S') → zA z 44 [(0, aR 28), (1, aI v1), (2, aI w2), (3, aI w3)] [] S) (rv1 : rng v1) (rv2 : rng v2) (rv3 : rng v3) (hW : WR shX S) (h : J_X0_hang_87 k44 v1 v2 v3 S = some (r, S')) : zA z 87 [(0, aR 28), (1, aI v1), (2, aI v2), (3, aI v3)] [] S := by
  unfold J_X0_hang_87 at h
  obtain ⟨x10, ex10, rx10, h⟩ := zl_ex h
  refine s_iinc (k0 := 3) (y := x10) (l' := [(3, aI x10), (0, aR 28), (1, aI v1), (2, aI v2)]) hz hN dX0_hang_87 rfl ex10.symm (by decide) rfl ?_
  refine s_goto 44 hz dX0_hang_90 rfl ?_
  refine s_pick (l' := [(0, aR 28), (1, aI v1), (2, aI v2), (3, aI x10)]) [1, 2, 3, 0] rfl ?_
  exact hk44 _ _ _ rv2 rx10 hW h
def L_X0_hang_44 (p1 : Int) : Nat → Int → Int → HS → zO2
  | 0, _, _, _ => none
  | n + 1, v2, v3, S => 
    if S 7 11 ≤ v3 then (
      some (v2, S))
    else (
      zb (M_X6_knotWith v3 S) fun r5 S6 =>
      zb (M_X6_knotWith p1 S6) fun r7 S8 =>
      if r5 = r7 then (
        zb (M_X0_reach v3 3 9 S8) fun r11 S12 =>
        J_X0_hang_87 (L_X0_hang_44 p1 n) p1 (min v2 r11) v3 S12)
      else (
        J_X0_hang_87 (L_X0_hang_44 p1 n) p1 v2 v3 S8))
set_option maxHeartbeats 4000000 in
set_option maxRecDepth 20000 in
theorem TL_X0_hang_44 {p1 : Int} {r : Int} {S' : HS} {z : Zt} (hz : zO z cX0_hang RX0 5 shX) (hN : zN z 4) (hF : zFi z shX .int r S') (rp1 : rng p1) : ∀ (n : Nat) {v2 : Int} {v3 : Int} {S : HS}, rng v2 → rng v3 → WR shX S → L_X0_hang_44 p1 n v2 v3 S = some (r, S') → zA z 44 [(0, aR 28), (1, aI p1), (2, aI v2), (3, aI v3)] [] S := by
  intro n
  induction n with
  | zero =>
    intro _ _ _ _ _ _ h
    cases h
  | succ n ih =>
    intro v2 v3 S rv2 rv3 hW h
    rw [L_X0_hang_44.eq_2] at h
    refine s_iload_n 3 hz dX0_hang_44 rfl ?_
    refine s_aload_n 0 hz dX0_hang_45 rfl ?_
    refine s_getR 1 hz fl_X0_28 sx28 rfl (by decide) dX0_hang_46 ?_
    refine s_getI (kz := 11) 11 hz fl_X0_40 sx7 rfl rfl dX0_hang_49 ?_
    refine s_icmp_ge 93 hz rv3 (hW 7 _ sx7 11) dX0_hang_52 rfl (fun c4 => ?_) (fun c4 => ?_)
    · have h := zif_t c4 h
      refine s_iload_n 2 hz dX0_hang_93 rfl ?_
      exact s_iret h hz hF rv2 hW dX0_hang_94
    · have h := zif_f c4 h
      refine s_aload_n 0 hz dX0_hang_55 rfl ?_
      refine s_getR 1 hz fl_X0_28 sx28 rfl (by decide) dX0_hang_56 ?_
      refine s_iload_n 3 hz dX0_hang_59 rfl ?_
      obtain ⟨r5, S6, hc6, h⟩ := zb_of h
      refine s_callV [aI v3] [] hz ml_X0_118 sv_yX6_knotWith (T_X6_knotWith rv3 hW hc6) (by decide) rfl sx7 rfl rfl (Nat.le_of_ble_eq_true rfl) dX0_hang_60 (fun rr5 hW6 => ?_)
      refine s_aload_n 0 hz dX0_hang_63 rfl ?_
      refine s_getR 1 hz fl_X0_28 sx28 rfl (by decide) dX0_hang_64 ?_
      refine s_iload_n 1 hz dX0_hang_67 rfl ?_
      obtain ⟨r7, S8, hc8, h⟩ := zb_of h
      refine s_callV [aI p1] [aI r5] hz ml_X0_118 sv_yX6_knotWith (T_X6_knotWith rp1 hW6 hc8) (by decide) rfl sx7 rfl rfl (Nat.le_of_ble_eq_true rfl) dX0_hang_68 (fun rr7 hW8 => ?_)
      refine s_icmp_ne 87 hz rr5 rr7 dX0_hang_71 rfl (fun c9 => ?_) (fun c9 => ?_)
      · have h := zif_f c9 h
        exact TJ_X0_hang_87 hz hN hF (fun _ _ _ => ih) rp1 rv2 rv3 hW8 h
      · have h := zif_t c9 h
        refine s_iload_n 2 hz dX0_hang_74 rfl ?_
        refine s_aload_n 0 hz dX0_hang_75 rfl ?_
        refine s_iload_n 3 hz dX0_hang_76 rfl ?_
        refine s_iconst hz dX0_hang_77 ?_
        refine s_bipush hz dX0_hang_78 bp_9 ?_
        obtain ⟨r11, S12, hc12, h⟩ := zb_of h
        refine s_callV [aI v3, aI 3, aI 9] [aI v2] hz ml_X0_114 sv_yX0_reach (T_X0_reach rv3 rl_3 rl_9 hW8 hc12) (by decide) rfl sx28 rfl rfl (Nat.le_of_ble_eq_true rfl) dX0_hang_80 (fun rr11 hW12 => ?_)
        refine s_min hz mj_X0_80 (by decide) rv2 rr11 (Nat.le_of_ble_eq_true rfl) dX0_hang_83 ?_
        refine s_istore_n (l' := [(2, aI (min v2 r11)), (0, aR 28), (1, aI p1), (3, aI v3)]) hz hN dX0_hang_86 (by decide) rfl ?_
        refine s_pick (l' := [(0, aR 28), (1, aI p1), (2, aI (min v2 r11)), (3, aI v3)]) [1, 2, 0, 3] rfl ?_
        exact TJ_X0_hang_87 hz hN hF (fun _ _ _ => ih) rp1 (zmin_r rv2 rr11) rv3 hW12 h
def L_X0_hang_17 (p1 : Int) : Nat → Int → Int → HS → zO2
  | 0, _, _, _ => none
  | n + 1, v2, v3, S => 
    if 3 ≤ v3 then (
      some (v2, S))
    else (
      zb (M_X0_reach p1 v3 3 S) fun r14 S15 =>
      zl (v3 + 1) fun x16 =>
      L_X0_hang_17 p1 n (min v2 r14) x16 S15)
set_option maxHeartbeats 4000000 in
set_option maxRecDepth 20000 in
theorem TL_X0_hang_17 {p1 : Int} {r : Int} {S' : HS} {z : Zt} (hz : zO z cX0_hang RX0 5 shX) (hN : zN z 4) (hF : zFi z shX .int r S') (rp1 : rng p1) : ∀ (n : Nat) {v2 : Int} {v3 : Int} {S : HS}, rng v2 → rng v3 → WR shX S → L_X0_hang_17 p1 n v2 v3 S = some (r, S') → zA z 17 [(0, aR 28), (1, aI p1), (2, aI v2), (3, aI v3)] [] S := by
  intro n
  induction n with
  | zero =>
    intro _ _ _ _ _ _ h
    cases h
  | succ n ih =>
    intro v2 v3 S rv2 rv3 hW h
    rw [L_X0_hang_17.eq_2] at h
    refine s_iload_n 3 hz dX0_hang_17 rfl ?_
    refine s_iconst hz dX0_hang_18 ?_
    refine s_icmp_ge 40 hz rv3 rl_3 dX0_hang_19 rfl (fun c13 => ?_) (fun c13 => ?_)
    · have h := zif_t c13 h
      refine s_iload_n 2 hz dX0_hang_40 rfl ?_
      exact s_iret h hz hF rv2 hW dX0_hang_41
    · have h := zif_f c13 h
      refine s_iload_n 2 hz dX0_hang_22 rfl ?_
      refine s_aload_n 0 hz dX0_hang_23 rfl ?_
      refine s_iload_n 1 hz dX0_hang_24 rfl ?_
      refine s_iload_n 3 hz dX0_hang_25 rfl ?_
      refine s_iconst hz dX0_hang_26 ?_
      obtain ⟨r14, S15, hc15, h⟩ := zb_of h
      refine s_callV [aI p1, aI v3, aI 3] [aI v2] hz ml_X0_114 sv_yX0_reach (T_X0_reach rp1 rv3 rl_3 hW hc15) (by decide) rfl sx28 rfl rfl (Nat.le_of_ble_eq_true rfl) dX0_hang_27 (fun rr14 hW15 => ?_)
      refine s_min hz mj_X0_80 (by decide) rv2 rr14 (Nat.le_of_ble_eq_true rfl) dX0_hang_30 ?_
      refine s_istore_n (l' := [(2, aI (min v2 r14)), (0, aR 28), (1, aI p1), (3, aI v3)]) hz hN dX0_hang_33 (by decide) rfl ?_
      obtain ⟨x16, ex16, rx16, h⟩ := zl_ex h
      refine s_iinc (k0 := 3) (y := x16) (l' := [(3, aI x16), (2, aI (min v2 r14)), (0, aR 28), (1, aI p1)]) hz hN dX0_hang_34 rfl ex16.symm (by decide) rfl ?_
      refine s_goto 17 hz dX0_hang_37 rfl ?_
      refine s_pick (l' := [(0, aR 28), (1, aI p1), (2, aI (min v2 r14)), (3, aI x16)]) [2, 3, 1, 0] rfl ?_
      exact ih (zmin_r rv2 rr14) rx16 hW15 h
def M_X0_hang (a1 : Int) (S : HS) : zO2 :=
  zb (M_X6_isTied a1 S) fun r1 S2 =>
  if r1 = 0 then (
    L_X0_hang_17 a1 zBig 2000 0 S2)
  else (
    L_X0_hang_44 a1 zBig 2000 0 S2)
set_option maxHeartbeats 4000000 in
set_option maxRecDepth 20000 in
theorem T_X0_hang {a1 : Int} {S S' : HS} {r : Int} (ra1 : rng a1) (hW : WR shX S) (h : M_X0_hang a1 S = some (r, S')) : zR shX yX0_hang cX0_hang 4  .int 5 [aR 28, aI a1] S r S' := by
  refine zR_of (by decide +kernel) (Nat.le_of_ble_eq_true rfl) (fun z hz hN hF => ?_)
  have hz : zO z cX0_hang RX0 5 shX := hz
  show zA z 0 [(0, aR 28), (1, aI a1)] [] S
  unfold M_X0_hang at h
  refine s_sipush hz dX0_hang_0 sp_2000 ?_
  refine s_istore_n (l' := [(2, aI 2000), (0, aR 28), (1, aI a1)]) hz hN dX0_hang_3 (by decide) rfl ?_
  refine s_aload_n 1 hz dX0_hang_4 rfl ?_
  refine s_getR 1 hz fl_X0_28 sx28 rfl (by decide) dX0_hang_5 ?_
  refine s_iload_n 2 hz dX0_hang_8 rfl ?_
  obtain ⟨r1, S2, hc2, h⟩ := zb_of h
  refine s_callV [aI a1] [] hz ml_X0_111 sv_yX6_isTied (T_X6_isTied ra1 hW hc2) (by decide) rfl sx7 rfl rfl (Nat.le_of_ble_eq_true rfl) dX0_hang_9 (fun rr1 hW2 => ?_)
  refine s_if_ne 42 hz rr1 dX0_hang_12 rfl (fun c3 => ?_) (fun c3 => ?_)
  · have h := zif_f c3 h
    refine s_iconst hz dX0_hang_42 ?_
    refine s_istore_n (l' := [(3, aI 0), (2, aI 2000), (0, aR 28), (1, aI a1)]) hz hN dX0_hang_43 (by decide) rfl ?_
    refine s_pick (l' := [(0, aR 28), (1, aI a1), (2, aI 2000), (3, aI 0)]) [2, 3, 1, 0] rfl ?_
    exact TL_X0_hang_44 hz hN hF ra1 zBig rl_2000 rl_0 hW2 h
  · have h := zif_t c3 h
    refine s_iconst hz dX0_hang_15 ?_
    refine s_istore_n (l' := [(3, aI 0), (2, aI 2000), (0, aR 28), (1, aI a1)]) hz hN dX0_hang_16 (by decide) rfl ?_
    refine s_pick (l' := [(0, aR 28), (1, aI a1), (2, aI 2000), (3, aI 0)]) [2, 3, 1, 0] rfl ?_
    exact TL_X0_hang_17 hz hN hF ra1 zBig rl_2000 rl_0 hW2 h
def M_X11_hangs (a1 : Int) (S : HS) : zO2 :=
  zb (M_X6_has a1 S) fun r1 S2 =>
  if r1 = 0 then (
    some ((-1), S2))
  else (
    zb (M_X0_hang a1 S2) fun r4 S5 =>
    some (r4, S5))
set_option maxHeartbeats 4000000 in
set_option maxRecDepth 20000 in
theorem T_X11_hangs {a1 : Int} {S S' : HS} {r : Int} (ra1 : rng a1) (hW : WR shX S) (h : M_X11_hangs a1 S = some (r, S')) : zR shX yX11_hangs cX11_hangs 2  .int 6 [aR 0, aI a1] S r S' := by
  refine zR_of (by decide +kernel) (Nat.le_of_ble_eq_true rfl) (fun z hz hN hF => ?_)
  have hz : zO z cX11_hangs RX11 6 shX := hz
  show zA z 0 [(0, aR 0), (1, aI a1)] [] S
  unfold M_X11_hangs at h
  refine s_aload_n 0 hz dX11_hangs_0 rfl ?_
  refine s_getR 2 hz fl_X11_28 sx0 rfl (by decide) dX11_hangs_1 ?_
  refine s_iload_n 1 hz dX11_hangs_4 rfl ?_
  obtain ⟨r1, S2, hc2, h⟩ := zb_of h
  refine s_callV [aI a1] [] hz ml_X11_172 sv_yX6_has (T_X6_has ra1 hW hc2) (by decide) rfl sx7 rfl rfl (Nat.le_of_ble_eq_true rfl) dX11_hangs_5 (fun rr1 hW2 => ?_)
  refine s_if_eq 22 hz rr1 dX11_hangs_8 rfl (fun c3 => ?_) (fun c3 => ?_)
  · have h := zif_t c3 h
    refine s_iconst hz dX11_hangs_22 ?_
    exact s_iret h hz hF rl_m1 hW2 dX11_hangs_23
  · have h := zif_f c3 h
    refine s_aload_n 0 hz dX11_hangs_11 rfl ?_
    refine s_getR 5 hz fl_X11_53 sx0 rfl (by decide) dX11_hangs_12 ?_
    refine s_iload_n 1 hz dX11_hangs_15 rfl ?_
    obtain ⟨r4, S5, hc5, h⟩ := zb_of h
    refine s_callV [aI a1] [] hz ml_X11_181 sv_yX0_hang (T_X0_hang ra1 hW2 hc5) (by decide) rfl sx28 rfl rfl (Nat.le_of_ble_eq_true rfl) dX11_hangs_16 (fun rr4 hW5 => ?_)
    refine s_goto 23 hz dX11_hangs_19 rfl ?_
    exact s_iret h hz hF rr4 hW5 dX11_hangs_23
def M_X6_lastCell (a1 : Int) (S : HS) : zO2 :=
  zb (M_X6_sizeIn a1 S) fun r1 S2 =>
  zl (r1 - 1) fun x3 =>
  zb (M_X6_cellIn a1 x3 S2) fun r4 S5 =>
  some (r4, S5)
set_option maxHeartbeats 4000000 in
set_option maxRecDepth 20000 in
theorem T_X6_lastCell {a1 : Int} {S S' : HS} {r : Int} (ra1 : rng a1) (hW : WR shX S) (h : M_X6_lastCell a1 S = some (r, S')) : zR shX yX6_lastCell cX6_lastCell 2  .int 3 [aR 7, aI a1] S r S' := by
  refine zR_of (by decide +kernel) (Nat.le_of_ble_eq_true rfl) (fun z hz hN hF => ?_)
  have hz : zO z cX6_lastCell RX6 3 shX := hz
  show zA z 0 [(0, aR 7), (1, aI a1)] [] S
  unfold M_X6_lastCell at h
  refine s_aload_n 0 hz dX6_lastCell_0 rfl ?_
  refine s_iload_n 1 hz dX6_lastCell_1 rfl ?_
  refine s_aload_n 0 hz dX6_lastCell_2 rfl ?_
  refine s_iload_n 1 hz dX6_lastCell_3 rfl ?_
  obtain ⟨r1, S2, hc2, h⟩ := zb_of h
  refine s_callV [aI a1] [aI a1, aR 7] hz ml_X6_64 sv_yX6_sizeIn (T_X6_sizeIn ra1 hW hc2) (by decide) rfl sx7 rfl rfl (Nat.le_of_ble_eq_true rfl) dX6_lastCell_4 (fun rr1 hW2 => ?_)
  refine s_iconst hz dX6_lastCell_7 ?_
  refine s_isub hz dX6_lastCell_8 ?_
  obtain ⟨x3, ex3, rx3, h⟩ := zl_ex h
  rw [← ex3]
  obtain ⟨r4, S5, hc5, h⟩ := zb_of h
  refine s_callV [aI a1, aI x3] [] hz ml_X6_68 sv_yX6_cellIn (T_X6_cellIn ra1 rx3 hW2 hc5) (by decide) rfl sx7 rfl rfl (Nat.le_of_ble_eq_true rfl) dX6_lastCell_9 (fun rr4 hW5 => ?_)
  exact s_iret h hz hF rr4 hW5 dX6_lastCell_12
def M_X6_endNear (a1 : Int) (a2 : Int) (S : HS) : zO2 :=
  zb (M_X6_lastCell a1 S) fun r1 S2 =>
  zb (M_X6_lastCell a2 S2) fun r3 S4 =>
  zg ((0 : Int) ≤ r1 ∧ (0 : Int) < 16) <|
  zg ((0 : Int) ≤ r3 ∧ (0 : Int) < 16) <|
  zl ((r1 % 16) - (r3 % 16)) fun x7 =>
  zl (zabs x7) fun x8 =>
  if 2 < x8 then (
    some (0, S4))
  else (
    zg ((0 : Int) ≤ r1 ∧ (0 : Int) < 16) <|
    zg ((0 : Int) ≤ r3 ∧ (0 : Int) < 16) <|
    zl ((r1 / 16) - (r3 / 16)) fun x12 =>
    zl (zabs x12) fun x13 =>
    if 2 < x13 then (
      some (0, S4))
    else (
      some (1, S4)))
set_option maxHeartbeats 4000000 in
set_option maxRecDepth 20000 in
theorem T_X6_endNear {a1 : Int} {a2 : Int} {S S' : HS} {r : Int} (ra1 : rng a1) (ra2 : rng a2) (hW : WR shX S) (h : M_X6_endNear a1 a2 S = some (r, S')) : zR shX yX6_endNear cX6_endNear 5  .boolean 4 [aR 7, aI a1, aI a2] S r S' := by
  refine zR_of (by decide +kernel) (Nat.le_of_ble_eq_true rfl) (fun z hz hN hF => ?_)
  have hz : zO z cX6_endNear RX6 4 shX := hz
  show zA z 0 [(0, aR 7), (1, aI a1), (2, aI a2)] [] S
  unfold M_X6_endNear at h
  refine s_aload_n 0 hz dX6_endNear_0 rfl ?_
  refine s_iload_n 1 hz dX6_endNear_1 rfl ?_
  obtain ⟨r1, S2, hc2, h⟩ := zb_of h
  refine s_callV [aI a1] [] hz ml_X6_115 sv_yX6_lastCell (T_X6_lastCell ra1 hW hc2) (by decide) rfl sx7 rfl rfl (Nat.le_of_ble_eq_true rfl) dX6_endNear_2 (fun rr1 hW2 => ?_)
  refine s_istore_n (l' := [(3, aI r1), (0, aR 7), (1, aI a1), (2, aI a2)]) hz hN dX6_endNear_5 (by decide) rfl ?_
  refine s_aload_n 1 hz dX6_endNear_6 rfl ?_
  refine s_iload_n 3 hz dX6_endNear_7 rfl ?_
  obtain ⟨r3, S4, hc4, h⟩ := zb_of h
  refine s_callV [aI a2] [] hz ml_X6_115 sv_yX6_lastCell (T_X6_lastCell ra2 hW2 hc4) (by decide) rfl sx7 rfl rfl (Nat.le_of_ble_eq_true rfl) dX6_endNear_8 (fun rr3 hW4 => ?_)
  refine s_istore (l' := [(4, aI r3), (3, aI r1), (0, aR 7), (1, aI a1), (2, aI a2)]) hz hN dX6_endNear_11 (by decide) rfl ?_
  refine s_iload_n 1 hz dX6_endNear_13 rfl ?_
  refine s_bipush hz dX6_endNear_14 bp_16 ?_
  obtain ⟨g5, h⟩ := zg_of h
  refine s_irem hz g5.1 g5.2 rr1 rl_16 dX6_endNear_16 ?_
  refine s_iload 0 hz dX6_endNear_17 rfl ?_
  refine s_bipush hz dX6_endNear_19 bp_16 ?_
  obtain ⟨g6, h⟩ := zg_of h
  refine s_irem hz g6.1 g6.2 rr3 rl_16 dX6_endNear_21 ?_
  refine s_isub hz dX6_endNear_22 ?_
  obtain ⟨x7, ex7, rx7, h⟩ := zl_ex h
  rw [← ex7]
  refine s_abs hz mj_X6_118 (by decide) rx7 (Nat.le_of_ble_eq_true rfl) dX6_endNear_23 ?_
  refine s_iconst hz dX6_endNear_26 ?_
  obtain ⟨x8, ex8, rx8, h⟩ := zl_ex h
  rw [← ex8]
  refine s_icmp_gt 51 hz rx8 rl_2 dX6_endNear_27 rfl (fun c9 => ?_) (fun c9 => ?_)
  · have h := zif_t c9 h
    refine s_iconst hz dX6_endNear_51 ?_
    exact s_zret h hz hF (by decide) hW4 dX6_endNear_52
  · have h := zif_f c9 h
    refine s_iload_n 1 hz dX6_endNear_30 rfl ?_
    refine s_bipush hz dX6_endNear_31 bp_16 ?_
    obtain ⟨g10, h⟩ := zg_of h
    refine s_idiv hz g10.1 g10.2 rr1 rl_16 dX6_endNear_33 ?_
    refine s_iload 0 hz dX6_endNear_34 rfl ?_
    refine s_bipush hz dX6_endNear_36 bp_16 ?_
    obtain ⟨g11, h⟩ := zg_of h
    refine s_idiv hz g11.1 g11.2 rr3 rl_16 dX6_endNear_38 ?_
    refine s_isub hz dX6_endNear_39 ?_
    obtain ⟨x12, ex12, rx12, h⟩ := zl_ex h
    rw [← ex12]
    refine s_abs hz mj_X6_118 (by decide) rx12 (Nat.le_of_ble_eq_true rfl) dX6_endNear_40 ?_
    refine s_iconst hz dX6_endNear_43 ?_
    obtain ⟨x13, ex13, rx13, h⟩ := zl_ex h
    rw [← ex13]
    refine s_icmp_gt 51 hz rx13 rl_2 dX6_endNear_44 rfl (fun c14 => ?_) (fun c14 => ?_)
    · have h := zif_t c14 h
      refine s_iconst hz dX6_endNear_51 ?_
      exact s_zret h hz hF (by decide) hW4 dX6_endNear_52
    · have h := zif_f c14 h
      refine s_iconst hz dX6_endNear_47 ?_
      refine s_goto 52 hz dX6_endNear_48 rfl ?_
      exact s_zret h hz hF (by decide) hW4 dX6_endNear_52
def M_X6_canTie (a1 : Int) (a2 : Int) (a3 : Int) (S : HS) : zO2 :=
  zb (M_X6_has a1 S) fun r1 S2 =>
  if r1 = 0 then (
    some (0, S2))
  else (
    zb (M_X6_has a2 S2) fun r4 S5 =>
    if r4 = 0 then (
      some (0, S5))
    else (
      zb (M_X6_has a3 S5) fun r7 S8 =>
      if r7 = 0 then (
        some (0, S8))
      else (
        if a1 = a2 then (
          some (0, S8))
        else (
          if a1 = a3 then (
            some (0, S8))
          else (
            if a2 = a3 then (
              some (0, S8))
            else (
              zb (M_X6_isTied a1 S8) fun r13 S14 =>
              if r13 = 0 then (
                zb (M_X6_isTied a2 S14) fun r16 S17 =>
                if r16 = 0 then (
                  zb (M_X6_isTied a3 S17) fun r19 S20 =>
                  if r19 = 0 then (
                    zb (M_X6_endNear a1 a2 S20) fun r22 S23 =>
                    if r22 = 0 then (
                      some (0, S23))
                    else (
                      zb (M_X6_endNear a1 a3 S23) fun r25 S26 =>
                      if r25 = 0 then (
                        some (0, S26))
                      else (
                        zb (M_X6_endNear a2 a3 S26) fun r28 S29 =>
                        if r28 = 0 then (
                          some (0, S29))
                        else (
                          some (1, S29)))))
                  else (
                    some (0, S20)))
                else (
                  some (0, S17)))
              else (
                some (0, S14))))))))
set_option maxHeartbeats 4000000 in
set_option maxRecDepth 20000 in
theorem T_X6_canTie {a1 : Int} {a2 : Int} {a3 : Int} {S S' : HS} {r : Int} (ra1 : rng a1) (ra2 : rng a2) (ra3 : rng a3) (hW : WR shX S) (h : M_X6_canTie a1 a2 a3 S = some (r, S')) : zR shX yX6_canTie cX6_canTie 4  .boolean 5 [aR 7, aI a1, aI a2, aI a3] S r S' := by
  refine zR_of (by decide +kernel) (Nat.le_of_ble_eq_true rfl) (fun z hz hN hF => ?_)
  have hz : zO z cX6_canTie RX6 5 shX := hz
  show zA z 0 [(0, aR 7), (1, aI a1), (2, aI a2), (3, aI a3)] [] S
  unfold M_X6_canTie at h
  refine s_aload_n 0 hz dX6_canTie_0 rfl ?_
  refine s_iload_n 1 hz dX6_canTie_1 rfl ?_
  obtain ⟨r1, S2, hc2, h⟩ := zb_of h
  refine s_callV [aI a1] [] hz ml_X6_60 sv_yX6_has (T_X6_has ra1 hW hc2) (by decide) rfl sx7 rfl rfl (Nat.le_of_ble_eq_true rfl) dX6_canTie_2 (fun rr1 hW2 => ?_)
  refine s_if_eq 39 hz rr1 dX6_canTie_5 rfl (fun c3 => ?_) (fun c3 => ?_)
  · have h := zif_t c3 h
    refine s_iconst hz dX6_canTie_39 ?_
    exact s_zret h hz hF (by decide) hW2 dX6_canTie_40
  · have h := zif_f c3 h
    refine s_aload_n 0 hz dX6_canTie_8 rfl ?_
    refine s_iload_n 2 hz dX6_canTie_9 rfl ?_
    obtain ⟨r4, S5, hc5, h⟩ := zb_of h
    refine s_callV [aI a2] [] hz ml_X6_60 sv_yX6_has (T_X6_has ra2 hW2 hc5) (by decide) rfl sx7 rfl rfl (Nat.le_of_ble_eq_true rfl) dX6_canTie_10 (fun rr4 hW5 => ?_)
    refine s_if_eq 39 hz rr4 dX6_canTie_13 rfl (fun c6 => ?_) (fun c6 => ?_)
    · have h := zif_t c6 h
      refine s_iconst hz dX6_canTie_39 ?_
      exact s_zret h hz hF (by decide) hW5 dX6_canTie_40
    · have h := zif_f c6 h
      refine s_aload_n 0 hz dX6_canTie_16 rfl ?_
      refine s_iload_n 3 hz dX6_canTie_17 rfl ?_
      obtain ⟨r7, S8, hc8, h⟩ := zb_of h
      refine s_callV [aI a3] [] hz ml_X6_60 sv_yX6_has (T_X6_has ra3 hW5 hc8) (by decide) rfl sx7 rfl rfl (Nat.le_of_ble_eq_true rfl) dX6_canTie_18 (fun rr7 hW8 => ?_)
      refine s_if_eq 39 hz rr7 dX6_canTie_21 rfl (fun c9 => ?_) (fun c9 => ?_)
      · have h := zif_t c9 h
        refine s_iconst hz dX6_canTie_39 ?_
        exact s_zret h hz hF (by decide) hW8 dX6_canTie_40
      · have h := zif_f c9 h
        refine s_iload_n 1 hz dX6_canTie_24 rfl ?_
        refine s_iload_n 2 hz dX6_canTie_25 rfl ?_
        refine s_icmp_eq 39 hz ra1 ra2 dX6_canTie_26 rfl (fun c10 => ?_) (fun c10 => ?_)
        · have h := zif_t c10 h
          refine s_iconst hz dX6_canTie_39 ?_
          exact s_zret h hz hF (by decide) hW8 dX6_canTie_40
        · have h := zif_f c10 h
          refine s_iload_n 1 hz dX6_canTie_29 rfl ?_
          refine s_iload_n 3 hz dX6_canTie_30 rfl ?_
          refine s_icmp_eq 39 hz ra1 ra3 dX6_canTie_31 rfl (fun c11 => ?_) (fun c11 => ?_)
          · have h := zif_t c11 h
            refine s_iconst hz dX6_canTie_39 ?_
            exact s_zret h hz hF (by decide) hW8 dX6_canTie_40
          · have h := zif_f c11 h
            refine s_iload_n 2 hz dX6_canTie_34 rfl ?_
            refine s_iload_n 3 hz dX6_canTie_35 rfl ?_
            refine s_icmp_ne 41 hz ra2 ra3 dX6_canTie_36 rfl (fun c12 => ?_) (fun c12 => ?_)
            · have h := zif_f c12 h
              refine s_aload_n 0 hz dX6_canTie_41 rfl ?_
              refine s_iload_n 1 hz dX6_canTie_42 rfl ?_
              obtain ⟨r13, S14, hc14, h⟩ := zb_of h
              refine s_callV [aI a1] [] hz ml_X6_109 sv_yX6_isTied (T_X6_isTied ra1 hW8 hc14) (by decide) rfl sx7 rfl rfl (Nat.le_of_ble_eq_true rfl) dX6_canTie_43 (fun rr13 hW14 => ?_)
              refine s_if_ne 65 hz rr13 dX6_canTie_46 rfl (fun c15 => ?_) (fun c15 => ?_)
              · have h := zif_f c15 h
                refine s_iconst hz dX6_canTie_65 ?_
                exact s_zret h hz hF (by decide) hW14 dX6_canTie_66
              · have h := zif_t c15 h
                refine s_aload_n 0 hz dX6_canTie_49 rfl ?_
                refine s_iload_n 2 hz dX6_canTie_50 rfl ?_
                obtain ⟨r16, S17, hc17, h⟩ := zb_of h
                refine s_callV [aI a2] [] hz ml_X6_109 sv_yX6_isTied (T_X6_isTied ra2 hW14 hc17) (by decide) rfl sx7 rfl rfl (Nat.le_of_ble_eq_true rfl) dX6_canTie_51 (fun rr16 hW17 => ?_)
                refine s_if_ne 65 hz rr16 dX6_canTie_54 rfl (fun c18 => ?_) (fun c18 => ?_)
                · have h := zif_f c18 h
                  refine s_iconst hz dX6_canTie_65 ?_
                  exact s_zret h hz hF (by decide) hW17 dX6_canTie_66
                · have h := zif_t c18 h
                  refine s_aload_n 0 hz dX6_canTie_57 rfl ?_
                  refine s_iload_n 3 hz dX6_canTie_58 rfl ?_
                  obtain ⟨r19, S20, hc20, h⟩ := zb_of h
                  refine s_callV [aI a3] [] hz ml_X6_109 sv_yX6_isTied (T_X6_isTied ra3 hW17 hc20) (by decide) rfl sx7 rfl rfl (Nat.le_of_ble_eq_true rfl) dX6_canTie_59 (fun rr19 hW20 => ?_)
                  refine s_if_eq 67 hz rr19 dX6_canTie_62 rfl (fun c21 => ?_) (fun c21 => ?_)
                  · have h := zif_t c21 h
                    refine s_aload_n 0 hz dX6_canTie_67 rfl ?_
                    refine s_iload_n 1 hz dX6_canTie_68 rfl ?_
                    refine s_iload_n 2 hz dX6_canTie_69 rfl ?_
                    obtain ⟨r22, S23, hc23, h⟩ := zb_of h
                    refine s_callV [aI a1, aI a2] [] hz ml_X6_112 sv_yX6_endNear (T_X6_endNear ra1 ra2 hW20 hc23) (by decide) rfl sx7 rfl rfl (Nat.le_of_ble_eq_true rfl) dX6_canTie_70 (fun rr22 hW23 => ?_)
                    refine s_if_eq 98 hz rr22 dX6_canTie_73 rfl (fun c24 => ?_) (fun c24 => ?_)
                    · have h := zif_t c24 h
                      refine s_iconst hz dX6_canTie_98 ?_
                      exact s_zret h hz hF (by decide) hW23 dX6_canTie_99
                    · have h := zif_f c24 h
                      refine s_aload_n 0 hz dX6_canTie_76 rfl ?_
                      refine s_iload_n 1 hz dX6_canTie_77 rfl ?_
                      refine s_iload_n 3 hz dX6_canTie_78 rfl ?_
                      obtain ⟨r25, S26, hc26, h⟩ := zb_of h
                      refine s_callV [aI a1, aI a3] [] hz ml_X6_112 sv_yX6_endNear (T_X6_endNear ra1 ra3 hW23 hc26) (by decide) rfl sx7 rfl rfl (Nat.le_of_ble_eq_true rfl) dX6_canTie_79 (fun rr25 hW26 => ?_)
                      refine s_if_eq 98 hz rr25 dX6_canTie_82 rfl (fun c27 => ?_) (fun c27 => ?_)
                      · have h := zif_t c27 h
                        refine s_iconst hz dX6_canTie_98 ?_
                        exact s_zret h hz hF (by decide) hW26 dX6_canTie_99
                      · have h := zif_f c27 h
                        refine s_aload_n 0 hz dX6_canTie_85 rfl ?_
                        refine s_iload_n 2 hz dX6_canTie_86 rfl ?_
                        refine s_iload_n 3 hz dX6_canTie_87 rfl ?_
                        obtain ⟨r28, S29, hc29, h⟩ := zb_of h
                        refine s_callV [aI a2, aI a3] [] hz ml_X6_112 sv_yX6_endNear (T_X6_endNear ra2 ra3 hW26 hc29) (by decide) rfl sx7 rfl rfl (Nat.le_of_ble_eq_true rfl) dX6_canTie_88 (fun rr28 hW29 => ?_)
                        refine s_if_eq 98 hz rr28 dX6_canTie_91 rfl (fun c30 => ?_) (fun c30 => ?_)
                        · have h := zif_t c30 h
                          refine s_iconst hz dX6_canTie_98 ?_
                          exact s_zret h hz hF (by decide) hW29 dX6_canTie_99
                        · have h := zif_f c30 h
                          refine s_iconst hz dX6_canTie_94 ?_
                          refine s_goto 99 hz dX6_canTie_95 rfl ?_
                          exact s_zret h hz hF (by decide) hW29 dX6_canTie_99
                  · have h := zif_f c21 h
                    refine s_iconst hz dX6_canTie_65 ?_
                    exact s_zret h hz hF (by decide) hW20 dX6_canTie_66
            · have h := zif_t c12 h
              refine s_iconst hz dX6_canTie_39 ?_
              exact s_zret h hz hF (by decide) hW8 dX6_canTie_40
def J_X6_tie_64 (S : HS) : zO2 :=
  some (S 7 12, S)
set_option maxHeartbeats 4000000 in
set_option maxRecDepth 20000 in
theorem TJ_X6_tie_64 {S : HS} {r : Int} {S' : HS} {z : Zt} (hz : zO z cX6_tie RX6 2 shX) (hN : zN z 4) (hF : zFi z shX .int r S') (hW : WR shX S) (h : J_X6_tie_64 S = some (r, S')) : zA z 64 [(0, aR 7)] [] S := by
  unfold J_X6_tie_64 at h
  refine s_aload_n 0 hz dX6_tie_64 rfl ?_
  refine s_getI (kz := 12) 12 hz fl_X6_43 sx7 rfl rfl dX6_tie_65 ?_
  exact s_iret h hz hF (hW 7 _ sx7 12) hW dX6_tie_68
def M_X6_tie (a1 : Int) (a2 : Int) (a3 : Int) (S : HS) : zO2 :=
  zb (M_X6_has a1 S) fun r1 S2 =>
  if r1 = 0 then (
    J_X6_tie_64 S2)
  else (
    zb (M_X6_has a2 S2) fun r4 S5 =>
    if r4 = 0 then (
      J_X6_tie_64 S5)
    else (
      zb (M_X6_has a3 S5) fun r7 S8 =>
      if r7 = 0 then (
        J_X6_tie_64 S8)
      else (
        zg ((0 : Int) ≤ a1 ∧ a1 < 24) <|
        zs (up S8 14 a1 (S8 7 12)) fun S11 =>
        zg ((0 : Int) ≤ a2 ∧ a2 < 24) <|
        zs (up S11 14 a2 (S11 7 12)) fun S13 =>
        zg ((0 : Int) ≤ a3 ∧ a3 < 24) <|
        zs (up S13 14 a3 (S13 7 12)) fun S15 =>
        zl ((S15 7 12) + 1) fun x16 =>
        zs (up S15 7 12 x16) fun S17 =>
        J_X6_tie_64 S17)))
set_option maxHeartbeats 4000000 in
set_option maxRecDepth 20000 in
theorem T_X6_tie {a1 : Int} {a2 : Int} {a3 : Int} {S S' : HS} {r : Int} (ra1 : rng a1) (ra2 : rng a2) (ra3 : rng a3) (hW : WR shX S) (h : M_X6_tie a1 a2 a3 S = some (r, S')) : zR shX yX6_tie cX6_tie 4  .int 2 [aR 7, aI a1, aI a2, aI a3] S r S' := by
  refine zR_of (by decide +kernel) (Nat.le_of_ble_eq_true rfl) (fun z hz hN hF => ?_)
  have hz : zO z cX6_tie RX6 2 shX := hz
  show zA z 0 [(0, aR 7), (1, aI a1), (2, aI a2), (3, aI a3)] [] S
  unfold M_X6_tie at h
  refine s_aload_n 0 hz dX6_tie_0 rfl ?_
  refine s_iload_n 1 hz dX6_tie_1 rfl ?_
  obtain ⟨r1, S2, hc2, h⟩ := zb_of h
  refine s_callV [aI a1] [] hz ml_X6_60 sv_yX6_has (T_X6_has ra1 hW hc2) (by decide) rfl sx7 rfl rfl (Nat.le_of_ble_eq_true rfl) dX6_tie_2 (fun rr1 hW2 => ?_)
  refine s_if_eq 64 hz rr1 dX6_tie_5 rfl (fun c3 => ?_) (fun c3 => ?_)
  · have h := zif_t c3 h
    refine s_pick (l' := [(0, aR 7)]) [0] rfl ?_
    exact TJ_X6_tie_64 hz hN hF hW2 h
  · have h := zif_f c3 h
    refine s_aload_n 0 hz dX6_tie_8 rfl ?_
    refine s_iload_n 2 hz dX6_tie_9 rfl ?_
    obtain ⟨r4, S5, hc5, h⟩ := zb_of h
    refine s_callV [aI a2] [] hz ml_X6_60 sv_yX6_has (T_X6_has ra2 hW2 hc5) (by decide) rfl sx7 rfl rfl (Nat.le_of_ble_eq_true rfl) dX6_tie_10 (fun rr4 hW5 => ?_)
    refine s_if_eq 64 hz rr4 dX6_tie_13 rfl (fun c6 => ?_) (fun c6 => ?_)
    · have h := zif_t c6 h
      refine s_pick (l' := [(0, aR 7)]) [0] rfl ?_
      exact TJ_X6_tie_64 hz hN hF hW5 h
    · have h := zif_f c6 h
      refine s_aload_n 0 hz dX6_tie_16 rfl ?_
      refine s_iload_n 3 hz dX6_tie_17 rfl ?_
      obtain ⟨r7, S8, hc8, h⟩ := zb_of h
      refine s_callV [aI a3] [] hz ml_X6_60 sv_yX6_has (T_X6_has ra3 hW5 hc8) (by decide) rfl sx7 rfl rfl (Nat.le_of_ble_eq_true rfl) dX6_tie_18 (fun rr7 hW8 => ?_)
      refine s_if_eq 64 hz rr7 dX6_tie_21 rfl (fun c9 => ?_) (fun c9 => ?_)
      · have h := zif_t c9 h
        refine s_pick (l' := [(0, aR 7)]) [0] rfl ?_
        exact TJ_X6_tie_64 hz hN hF hW8 h
      · have h := zif_f c9 h
        refine s_aload_n 0 hz dX6_tie_24 rfl ?_
        refine s_getR 8 hz fl_X6_30 sx7 rfl (by decide) dX6_tie_25 ?_
        refine s_iload_n 1 hz dX6_tie_28 rfl ?_
        refine s_aload_n 0 hz dX6_tie_29 rfl ?_
        refine s_getI (kz := 12) 12 hz fl_X6_43 sx7 rfl rfl dX6_tie_30 ?_
        obtain ⟨g10, h⟩ := zg_of h
        obtain ⟨S11, eS11, h⟩ := zs_ex h
        have hW11 : WR shX S11 := by rw [eS11]; exact hW8.up (i := a1) sx14 (v := (S8 7 12)) (hW8 7 _ sx7 12)
        refine s_iast hz sx14 rfl (by decide) g10 dX6_tie_33 ?_
        rw [← eS11]
        refine s_aload_n 0 hz dX6_tie_34 rfl ?_
        refine s_getR 8 hz fl_X6_30 sx7 rfl (by decide) dX6_tie_35 ?_
        refine s_iload_n 2 hz dX6_tie_38 rfl ?_
        refine s_aload_n 0 hz dX6_tie_39 rfl ?_
        refine s_getI (kz := 12) 12 hz fl_X6_43 sx7 rfl rfl dX6_tie_40 ?_
        obtain ⟨g12, h⟩ := zg_of h
        obtain ⟨S13, eS13, h⟩ := zs_ex h
        have hW13 : WR shX S13 := by rw [eS13]; exact hW11.up (i := a2) sx14 (v := (S11 7 12)) (hW11 7 _ sx7 12)
        refine s_iast hz sx14 rfl (by decide) g12 dX6_tie_43 ?_
        rw [← eS13]
        refine s_aload_n 0 hz dX6_tie_44 rfl ?_
        refine s_getR 8 hz fl_X6_30 sx7 rfl (by decide) dX6_tie_45 ?_
        refine s_iload_n 3 hz dX6_tie_48 rfl ?_
        refine s_aload_n 0 hz dX6_tie_49 rfl ?_
        refine s_getI (kz := 12) 12 hz fl_X6_43 sx7 rfl rfl dX6_tie_50 ?_
        obtain ⟨g14, h⟩ := zg_of h
        obtain ⟨S15, eS15, h⟩ := zs_ex h
        have hW15 : WR shX S15 := by rw [eS15]; exact hW13.up (i := a3) sx14 (v := (S13 7 12)) (hW13 7 _ sx7 12)
        refine s_iast hz sx14 rfl (by decide) g14 dX6_tie_53 ?_
        rw [← eS15]
        refine s_aload_n 0 hz dX6_tie_54 rfl ?_
        refine s_dup hz rfl dX6_tie_55 ?_
        refine s_getI (kz := 12) 12 hz fl_X6_43 sx7 rfl rfl dX6_tie_56 ?_
        refine s_iconst hz dX6_tie_59 ?_
        refine s_iadd hz dX6_tie_60 ?_
        obtain ⟨x16, ex16, rx16, h⟩ := zl_ex h
        rw [← ex16]
        obtain ⟨S17, eS17, h⟩ := zs_ex h
        have hW17 : WR shX S17 := by rw [eS17]; exact hW15.up (i := 12) sx7 (v := x16) rx16
        refine s_putI (kz := 12) 12 hz fp_X6_43 sx7 rfl rfl dX6_tie_61 ?_
        rw [← eS17]
        refine s_pick (l' := [(0, aR 7)]) [0] rfl ?_
        exact TJ_X6_tie_64 hz hN hF hW17 h
def M_X11_join (a1 : Int) (a2 : Int) (a3 : Int) (S : HS) : zO2 :=
  zb (M_X6_canTie a1 a2 a3 S) fun r1 S2 =>
  if r1 = 0 then (
    some ((-1), S2))
  else (
    zb (M_X6_tie a1 a2 a3 S2) fun r4 S5 =>
    some (r4, S5))
set_option maxHeartbeats 4000000 in
set_option maxRecDepth 20000 in
theorem T_X11_join {a1 : Int} {a2 : Int} {a3 : Int} {S S' : HS} {r : Int} (ra1 : rng a1) (ra2 : rng a2) (ra3 : rng a3) (hW : WR shX S) (h : M_X11_join a1 a2 a3 S = some (r, S')) : zR shX yX11_join cX11_join 4  .int 6 [aR 0, aI a1, aI a2, aI a3] S r S' := by
  refine zR_of (by decide +kernel) (Nat.le_of_ble_eq_true rfl) (fun z hz hN hF => ?_)
  have hz : zO z cX11_join RX11 6 shX := hz
  show zA z 0 [(0, aR 0), (1, aI a1), (2, aI a2), (3, aI a3)] [] S
  unfold M_X11_join at h
  refine s_aload_n 0 hz dX11_join_0 rfl ?_
  refine s_getR 2 hz fl_X11_28 sx0 rfl (by decide) dX11_join_1 ?_
  refine s_iload_n 1 hz dX11_join_4 rfl ?_
  refine s_iload_n 2 hz dX11_join_5 rfl ?_
  refine s_iload_n 3 hz dX11_join_6 rfl ?_
  obtain ⟨r1, S2, hc2, h⟩ := zb_of h
  refine s_callV [aI a1, aI a2, aI a3] [] hz ml_X11_184 sv_yX6_canTie (T_X6_canTie ra1 ra2 ra3 hW hc2) (by decide) rfl sx7 rfl rfl (Nat.le_of_ble_eq_true rfl) dX11_join_7 (fun rr1 hW2 => ?_)
  refine s_if_ne 15 hz rr1 dX11_join_10 rfl (fun c3 => ?_) (fun c3 => ?_)
  · have h := zif_f c3 h
    refine s_aload_n 0 hz dX11_join_15 rfl ?_
    refine s_getR 2 hz fl_X11_28 sx0 rfl (by decide) dX11_join_16 ?_
    refine s_iload_n 1 hz dX11_join_19 rfl ?_
    refine s_iload_n 2 hz dX11_join_20 rfl ?_
    refine s_iload_n 3 hz dX11_join_21 rfl ?_
    obtain ⟨r4, S5, hc5, h⟩ := zb_of h
    refine s_callV [aI a1, aI a2, aI a3] [] hz ml_X11_188 sv_yX6_tie (T_X6_tie ra1 ra2 ra3 hW2 hc5) (by decide) rfl sx7 rfl rfl (Nat.le_of_ble_eq_true rfl) dX11_join_22 (fun rr4 hW5 => ?_)
    exact s_iret h hz hF rr4 hW5 dX11_join_25
  · have h := zif_t c3 h
    refine s_iconst hz dX11_join_13 ?_
    exact s_iret h hz hF rl_m1 hW2 dX11_join_14
def M_X0_lastWeights (a1 : Int) (S : HS) : zO2 :=
  zb (M_X6_lastCell a1 S) fun r1 S2 =>
  zb (M_X0_weightAt r1 0 S2) fun r3 S4 =>
  zb (M_X0_weightAt r1 1 S4) fun r5 S6 =>
  zb (M_X0_weightAt r1 2 S6) fun r7 S8 =>
  zl ((r3 + r5) + r7) fun x9 =>
  some (x9, S8)
set_option maxHeartbeats 4000000 in
set_option maxRecDepth 20000 in
theorem T_X0_lastWeights {a1 : Int} {S S' : HS} {r : Int} (ra1 : rng a1) (hW : WR shX S) (h : M_X0_lastWeights a1 S = some (r, S')) : zR shX yX0_lastWeights cX0_lastWeights 3  .int 4 [aR 28, aI a1] S r S' := by
  refine zR_of (by decide +kernel) (Nat.le_of_ble_eq_true rfl) (fun z hz hN hF => ?_)
  have hz : zO z cX0_lastWeights RX0 4 shX := hz
  show zA z 0 [(0, aR 28), (1, aI a1)] [] S
  unfold M_X0_lastWeights at h
  refine s_aload_n 0 hz dX0_lastWeights_0 rfl ?_
  refine s_getR 1 hz fl_X0_28 sx28 rfl (by decide) dX0_lastWeights_1 ?_
  refine s_iload_n 1 hz dX0_lastWeights_4 rfl ?_
  obtain ⟨r1, S2, hc2, h⟩ := zb_of h
  refine s_callV [aI a1] [] hz ml_X0_102 sv_yX6_lastCell (T_X6_lastCell ra1 hW hc2) (by decide) rfl sx7 rfl rfl (Nat.le_of_ble_eq_true rfl) dX0_lastWeights_5 (fun rr1 hW2 => ?_)
  refine s_istore_n (l' := [(2, aI r1), (0, aR 28), (1, aI a1)]) hz hN dX0_lastWeights_8 (by decide) rfl ?_
  refine s_aload_n 1 hz dX0_lastWeights_9 rfl ?_
  refine s_iload_n 0 hz dX0_lastWeights_10 rfl ?_
  refine s_iconst hz dX0_lastWeights_11 ?_
  obtain ⟨r3, S4, hc4, h⟩ := zb_of h
  refine s_callV [aI r1, aI 0] [] hz ml_X0_77 sv_yX0_weightAt (T_X0_weightAt rr1 rl_0 hW2 hc4) (by decide) rfl sx28 rfl rfl (Nat.le_of_ble_eq_true rfl) dX0_lastWeights_12 (fun rr3 hW4 => ?_)
  refine s_aload_n 1 hz dX0_lastWeights_15 rfl ?_
  refine s_iload_n 0 hz dX0_lastWeights_16 rfl ?_
  refine s_iconst hz dX0_lastWeights_17 ?_
  obtain ⟨r5, S6, hc6, h⟩ := zb_of h
  refine s_callV [aI r1, aI 1] [aI r3] hz ml_X0_77 sv_yX0_weightAt (T_X0_weightAt rr1 rl_1 hW4 hc6) (by decide) rfl sx28 rfl rfl (Nat.le_of_ble_eq_true rfl) dX0_lastWeights_18 (fun rr5 hW6 => ?_)
  refine s_iadd hz dX0_lastWeights_21 ?_
  refine s_aload_n 1 hz dX0_lastWeights_22 rfl ?_
  refine s_iload_n 0 hz dX0_lastWeights_23 rfl ?_
  refine s_iconst hz dX0_lastWeights_24 ?_
  obtain ⟨r7, S8, hc8, h⟩ := zb_of h
  refine s_callV [aI r1, aI 2] [aI (r3 + r5)] hz ml_X0_77 sv_yX0_weightAt (T_X0_weightAt rr1 rl_2 hW6 hc8) (by decide) rfl sx28 rfl rfl (Nat.le_of_ble_eq_true rfl) dX0_lastWeights_25 (fun rr7 hW8 => ?_)
  refine s_iadd hz dX0_lastWeights_28 ?_
  obtain ⟨x9, ex9, rx9, h⟩ := zl_ex h
  rw [← ex9]
  exact s_iret h hz hF rx9 hW8 dX0_lastWeights_29
def M_X0_minutes (a1 : Int) (S : HS) : zO2 :=
  zb (M_X6_sizeIn a1 S) fun r1 S2 =>
  zb (M_X0_lastWeights a1 S2) fun r3 S4 =>
  zg ((0 : Int) ≤ r3 ∧ (0 : Int) < 10) <|
  zb (M_X6_timesAddedTo a1 S4) fun r6 S7 =>
  zl (((2 * r1) + (r3 / 10)) + (5 * r6)) fun x8 =>
  some (x8, S7)
set_option maxHeartbeats 4000000 in
set_option maxRecDepth 20000 in
theorem T_X0_minutes {a1 : Int} {S S' : HS} {r : Int} (ra1 : rng a1) (hW : WR shX S) (h : M_X0_minutes a1 S = some (r, S')) : zR shX yX0_minutes cX0_minutes 2  .int 5 [aR 28, aI a1] S r S' := by
  refine zR_of (by decide +kernel) (Nat.le_of_ble_eq_true rfl) (fun z hz hN hF => ?_)
  have hz : zO z cX0_minutes RX0 5 shX := hz
  show zA z 0 [(0, aR 28), (1, aI a1)] [] S
  unfold M_X0_minutes at h
  refine s_iconst hz dX0_minutes_0 ?_
  refine s_aload_n 0 hz dX0_minutes_1 rfl ?_
  refine s_getR 1 hz fl_X0_28 sx28 rfl (by decide) dX0_minutes_2 ?_
  refine s_iload_n 1 hz dX0_minutes_5 rfl ?_
  obtain ⟨r1, S2, hc2, h⟩ := zb_of h
  refine s_callV [aI a1] [aI 2] hz ml_X0_50 sv_yX6_sizeIn (T_X6_sizeIn ra1 hW hc2) (by decide) rfl sx7 rfl rfl (Nat.le_of_ble_eq_true rfl) dX0_minutes_6 (fun rr1 hW2 => ?_)
  refine s_imul hz dX0_minutes_9 ?_
  refine s_aload_n 0 hz dX0_minutes_10 rfl ?_
  refine s_iload_n 1 hz dX0_minutes_11 rfl ?_
  obtain ⟨r3, S4, hc4, h⟩ := zb_of h
  refine s_callV [aI a1] [aI (2 * r1)] hz ml_X0_105 sv_yX0_lastWeights (T_X0_lastWeights ra1 hW2 hc4) (by decide) rfl sx28 rfl rfl (Nat.le_of_ble_eq_true rfl) dX0_minutes_12 (fun rr3 hW4 => ?_)
  refine s_bipush hz dX0_minutes_15 bp_10 ?_
  obtain ⟨g5, h⟩ := zg_of h
  refine s_idiv hz g5.1 g5.2 rr3 rl_10 dX0_minutes_17 ?_
  refine s_iadd hz dX0_minutes_18 ?_
  refine s_iconst hz dX0_minutes_19 ?_
  refine s_aload_n 0 hz dX0_minutes_20 rfl ?_
  refine s_getR 1 hz fl_X0_28 sx28 rfl (by decide) dX0_minutes_21 ?_
  refine s_iload_n 1 hz dX0_minutes_24 rfl ?_
  obtain ⟨r6, S7, hc7, h⟩ := zb_of h
  refine s_callV [aI a1] [aI 5, aI ((2 * r1) + (r3 / 10))] hz ml_X0_108 sv_yX6_timesAddedTo (T_X6_timesAddedTo ra1 hW4 hc7) (by decide) rfl sx7 rfl rfl (Nat.le_of_ble_eq_true rfl) dX0_minutes_25 (fun rr6 hW7 => ?_)
  refine s_imul hz dX0_minutes_28 ?_
  refine s_iadd hz dX0_minutes_29 ?_
  obtain ⟨x8, ex8, rx8, h⟩ := zl_ex h
  rw [← ex8]
  exact s_iret h hz hF rx8 hW7 dX0_minutes_30
def M_X11_work (a1 : Int) (S : HS) : zO2 :=
  zb (M_X6_has a1 S) fun r1 S2 =>
  if r1 = 0 then (
    some ((-1), S2))
  else (
    zb (M_X0_minutes a1 S2) fun r4 S5 =>
    some (r4, S5))
set_option maxHeartbeats 4000000 in
set_option maxRecDepth 20000 in
theorem T_X11_work {a1 : Int} {S S' : HS} {r : Int} (ra1 : rng a1) (hW : WR shX S) (h : M_X11_work a1 S = some (r, S')) : zR shX yX11_work cX11_work 2  .int 6 [aR 0, aI a1] S r S' := by
  refine zR_of (by decide +kernel) (Nat.le_of_ble_eq_true rfl) (fun z hz hN hF => ?_)
  have hz : zO z cX11_work RX11 6 shX := hz
  show zA z 0 [(0, aR 0), (1, aI a1)] [] S
  unfold M_X11_work at h
  refine s_aload_n 0 hz dX11_work_0 rfl ?_
  refine s_getR 2 hz fl_X11_28 sx0 rfl (by decide) dX11_work_1 ?_
  refine s_iload_n 1 hz dX11_work_4 rfl ?_
  obtain ⟨r1, S2, hc2, h⟩ := zb_of h
  refine s_callV [aI a1] [] hz ml_X11_172 sv_yX6_has (T_X6_has ra1 hW hc2) (by decide) rfl sx7 rfl rfl (Nat.le_of_ble_eq_true rfl) dX11_work_5 (fun rr1 hW2 => ?_)
  refine s_if_eq 22 hz rr1 dX11_work_8 rfl (fun c3 => ?_) (fun c3 => ?_)
  · have h := zif_t c3 h
    refine s_iconst hz dX11_work_22 ?_
    exact s_iret h hz hF rl_m1 hW2 dX11_work_23
  · have h := zif_f c3 h
    refine s_aload_n 0 hz dX11_work_11 rfl ?_
    refine s_getR 5 hz fl_X11_53 sx0 rfl (by decide) dX11_work_12 ?_
    refine s_iload_n 1 hz dX11_work_15 rfl ?_
    obtain ⟨r4, S5, hc5, h⟩ := zb_of h
    refine s_callV [aI a1] [] hz ml_X11_201 sv_yX0_minutes (T_X0_minutes ra1 hW2 hc5) (by decide) rfl sx28 rfl rfl (Nat.le_of_ble_eq_true rfl) dX11_work_16 (fun rr4 hW5 => ?_)
    refine s_goto 23 hz dX11_work_19 rfl ?_
    exact s_iret h hz hF rr4 hW5 dX11_work_23
def M_X11_isSpeed (a1 : Int) (S : HS) : zO2 :=
  if a1 < 0 then (
    some (0, S))
  else (
    if 3 < a1 then (
      some (0, S))
    else (
      some (1, S)))
set_option maxHeartbeats 4000000 in
set_option maxRecDepth 20000 in
theorem T_X11_isSpeed {a1 : Int} {S S' : HS} {r : Int} (ra1 : rng a1) (hW : WR shX S) (h : M_X11_isSpeed a1 S = some (r, S')) : zR shX yX11_isSpeed cX11_isSpeed 1  .boolean 1 [aI a1] S r S' := by
  refine zR_of (by decide +kernel) (Nat.le_of_ble_eq_true rfl) (fun z hz hN hF => ?_)
  have hz : zO z cX11_isSpeed RX11 1 shX := hz
  show zA z 0 [(0, aI a1)] [] S
  unfold M_X11_isSpeed at h
  refine s_iload_n 0 hz dX11_isSpeed_0 rfl ?_
  refine s_if_lt 13 hz ra1 dX11_isSpeed_1 rfl (fun c1 => ?_) (fun c1 => ?_)
  · have h := zif_t c1 h
    refine s_iconst hz dX11_isSpeed_13 ?_
    exact s_zret h hz hF (by decide) hW dX11_isSpeed_14
  · have h := zif_f c1 h
    refine s_iload_n 0 hz dX11_isSpeed_4 rfl ?_
    refine s_iconst hz dX11_isSpeed_5 ?_
    refine s_icmp_gt 13 hz ra1 rl_3 dX11_isSpeed_6 rfl (fun c2 => ?_) (fun c2 => ?_)
    · have h := zif_t c2 h
      refine s_iconst hz dX11_isSpeed_13 ?_
      exact s_zret h hz hF (by decide) hW dX11_isSpeed_14
    · have h := zif_f c2 h
      refine s_iconst hz dX11_isSpeed_9 ?_
      refine s_goto 14 hz dX11_isSpeed_10 rfl ?_
      exact s_zret h hz hF (by decide) hW dX11_isSpeed_14
def J_X1_hire_28 (t0 : Int) (t1 : Int) (S : HS) : zO2 :=
  zg ((0 : Int) ≤ t1 ∧ t1 < 3) <|
  zs (up S 34 t1 t0) fun S5 =>
  some (0, S5)
set_option maxHeartbeats 4000000 in
set_option maxRecDepth 20000 in
theorem TJ_X1_hire_28 {t0 : Int} {t1 : Int} {S : HS} {r : Int} {S' : HS} {z : Zt} (hz : zO z cX1_hire RX1 1 shX) (hN : zN z 4) (hF : zFv z shX S') (rt0 : rng t0) (rt1 : rng t1) (hW : WR shX S) (h : J_X1_hire_28 t0 t1 S = some (r, S')) : zA z 28 [] [aI t0, aI t1, aR 34] S := by
  unfold J_X1_hire_28 at h
  obtain ⟨g4, h⟩ := zg_of h
  obtain ⟨S5, eS5, h⟩ := zs_ex h
  have hW5 : WR shX S5 := by rw [eS5]; exact hW.up (i := t1) sx34 (v := t0) rt0
  refine s_iast hz sx34 rfl (by decide) g4 dX1_hire_28 ?_
  rw [← eS5]
  exact s_vret h hz hF hW5 dX1_hire_29
def M_X1_hire (a1 : Int) (a2 : Int) (a3 : Int) (S : HS) : zO2 :=
  zs (up S 34 0 a1) fun S1 =>
  zs (up S1 34 1 a2) fun S2 =>
  if a2 = 0 then (
    J_X1_hire_28 0 2 S2)
  else (
    J_X1_hire_28 a3 2 S2)
set_option maxHeartbeats 4000000 in
set_option maxRecDepth 20000 in
theorem T_X1_hire {a1 : Int} {a2 : Int} {a3 : Int} {S S' : HS} {r : Int} (ra1 : rng a1) (ra2 : rng a2) (ra3 : rng a3) (hW : WR shX S) (h : M_X1_hire a1 a2 a3 S = some (r, S')) : zV shX yX1_hire cX1_hire 4 1 [aR 33, aI a1, aI a2, aI a3] S S' := by
  refine zV_of (by decide +kernel) (Nat.le_of_ble_eq_true rfl) (fun z hz hN hF => ?_)
  have hz : zO z cX1_hire RX1 1 shX := hz
  show zA z 0 [(0, aR 33), (1, aI a1), (2, aI a2), (3, aI a3)] [] S
  unfold M_X1_hire at h
  refine s_aload_n 0 hz dX1_hire_0 rfl ?_
  refine s_getR 0 hz fl_X1_9 sx33 rfl (by decide) dX1_hire_1 ?_
  refine s_iconst hz dX1_hire_4 ?_
  refine s_iload_n 1 hz dX1_hire_5 rfl ?_
  obtain ⟨S1, eS1, h⟩ := zs_ex h
  have hW1 : WR shX S1 := by rw [eS1]; exact hW.up (i := 0) sx34 (v := a1) ra1
  refine s_iast hz sx34 rfl (by decide) (by decide) dX1_hire_6 ?_
  rw [← eS1]
  refine s_aload_n 0 hz dX1_hire_7 rfl ?_
  refine s_getR 0 hz fl_X1_9 sx33 rfl (by decide) dX1_hire_8 ?_
  refine s_iconst hz dX1_hire_11 ?_
  refine s_iload_n 2 hz dX1_hire_12 rfl ?_
  obtain ⟨S2, eS2, h⟩ := zs_ex h
  have hW2 : WR shX S2 := by rw [eS2]; exact hW1.up (i := 1) sx34 (v := a2) ra2
  refine s_iast hz sx34 rfl (by decide) (by decide) dX1_hire_13 ?_
  rw [← eS2]
  refine s_aload_n 0 hz dX1_hire_14 rfl ?_
  refine s_getR 0 hz fl_X1_9 sx33 rfl (by decide) dX1_hire_15 ?_
  refine s_iconst hz dX1_hire_18 ?_
  refine s_iload_n 2 hz dX1_hire_19 rfl ?_
  refine s_if_ne 27 hz ra2 dX1_hire_20 rfl (fun c3 => ?_) (fun c3 => ?_)
  · have h := zif_f c3 h
    refine s_iload_n 3 hz dX1_hire_27 rfl ?_
    refine s_pick (l' := []) [] rfl ?_
    exact TJ_X1_hire_28 hz hN hF ra3 rl_2 hW2 h
  · have h := zif_t c3 h
    refine s_iconst hz dX1_hire_23 ?_
    refine s_goto 28 hz dX1_hire_24 rfl ?_
    refine s_pick (l' := []) [] rfl ?_
    exact TJ_X1_hire_28 hz hN hF rl_0 rl_2 hW2 h
def M_X11_hands (a1 : Int) (a2 : Int) (a3 : Int) (S : HS) : zO2 :=
  if a1 = 0 then (
    some (0, S))
  else (
    zb (M_X11_isSpeed a1 S) fun r2 S3 =>
    if r2 = 0 then (
      some (0, S3))
    else (
      zb (M_X11_isSpeed a2 S3) fun r5 S6 =>
      if r5 = 0 then (
        some (0, S6))
      else (
        zb (M_X11_isSpeed a3 S6) fun r8 S9 =>
        if r8 = 0 then (
          some (0, S9))
        else (
          zb (M_X1_hire a1 a2 a3 S9) fun _ S12 =>
          some (1, S12)))))
set_option maxHeartbeats 4000000 in
set_option maxRecDepth 20000 in
theorem T_X11_hands {a1 : Int} {a2 : Int} {a3 : Int} {S S' : HS} {r : Int} (ra1 : rng a1) (ra2 : rng a2) (ra3 : rng a3) (hW : WR shX S) (h : M_X11_hands a1 a2 a3 S = some (r, S')) : zR shX yX11_hands cX11_hands 4  .boolean 2 [aR 0, aI a1, aI a2, aI a3] S r S' := by
  refine zR_of (by decide +kernel) (Nat.le_of_ble_eq_true rfl) (fun z hz hN hF => ?_)
  have hz : zO z cX11_hands RX11 2 shX := hz
  show zA z 0 [(0, aR 0), (1, aI a1), (2, aI a2), (3, aI a3)] [] S
  unfold M_X11_hands at h
  refine s_iload_n 1 hz dX11_hands_0 rfl ?_
  refine s_if_eq 25 hz ra1 dX11_hands_1 rfl (fun c1 => ?_) (fun c1 => ?_)
  · have h := zif_t c1 h
    refine s_iconst hz dX11_hands_25 ?_
    exact s_zret h hz hF (by decide) hW dX11_hands_26
  · have h := zif_f c1 h
    refine s_iload_n 1 hz dX11_hands_4 rfl ?_
    obtain ⟨r2, S3, hc3, h⟩ := zb_of h
    refine s_callS [aI a1] [] hz ml_X11_204 ss_yX11_isSpeed (T_X11_isSpeed ra1 hW hc3) (by decide) rfl rfl (Nat.le_of_ble_eq_true rfl) dX11_hands_5 (fun rr2 hW3 => ?_)
    refine s_if_eq 25 hz rr2 dX11_hands_8 rfl (fun c4 => ?_) (fun c4 => ?_)
    · have h := zif_t c4 h
      refine s_iconst hz dX11_hands_25 ?_
      exact s_zret h hz hF (by decide) hW3 dX11_hands_26
    · have h := zif_f c4 h
      refine s_iload_n 2 hz dX11_hands_11 rfl ?_
      obtain ⟨r5, S6, hc6, h⟩ := zb_of h
      refine s_callS [aI a2] [] hz ml_X11_204 ss_yX11_isSpeed (T_X11_isSpeed ra2 hW3 hc6) (by decide) rfl rfl (Nat.le_of_ble_eq_true rfl) dX11_hands_12 (fun rr5 hW6 => ?_)
      refine s_if_eq 25 hz rr5 dX11_hands_15 rfl (fun c7 => ?_) (fun c7 => ?_)
      · have h := zif_t c7 h
        refine s_iconst hz dX11_hands_25 ?_
        exact s_zret h hz hF (by decide) hW6 dX11_hands_26
      · have h := zif_f c7 h
        refine s_iload_n 3 hz dX11_hands_18 rfl ?_
        obtain ⟨r8, S9, hc9, h⟩ := zb_of h
        refine s_callS [aI a3] [] hz ml_X11_204 ss_yX11_isSpeed (T_X11_isSpeed ra3 hW6 hc9) (by decide) rfl rfl (Nat.le_of_ble_eq_true rfl) dX11_hands_19 (fun rr8 hW9 => ?_)
        refine s_if_ne 27 hz rr8 dX11_hands_22 rfl (fun c10 => ?_) (fun c10 => ?_)
        · have h := zif_f c10 h
          refine s_aload_n 0 hz dX11_hands_27 rfl ?_
          refine s_getR 6 hz fl_X11_60 sx0 rfl (by decide) dX11_hands_28 ?_
          refine s_iload_n 1 hz dX11_hands_31 rfl ?_
          refine s_iload_n 2 hz dX11_hands_32 rfl ?_
          refine s_iload_n 3 hz dX11_hands_33 rfl ?_
          obtain ⟨r11, S12, hc12, h⟩ := zb_of h
          refine s_callVv [aI a1, aI a2, aI a3] [] hz ml_X11_207 sv_yX1_hire (T_X1_hire ra1 ra2 ra3 hW9 hc12) (by decide) rfl sx33 rfl rfl (Nat.le_of_ble_eq_true rfl) dX11_hands_34 (fun hW12 => ?_)
          refine s_iconst hz dX11_hands_37 ?_
          exact s_zret h hz hF (by decide) hW12 dX11_hands_38
        · have h := zif_t c10 h
          refine s_iconst hz dX11_hands_25 ?_
          exact s_zret h hz hF (by decide) hW9 dX11_hands_26
def M_X1_clear (S : HS) : zO2 :=
  zs (up S 33 6 0) fun S1 =>
  some (0, S1)
set_option maxHeartbeats 4000000 in
set_option maxRecDepth 20000 in
theorem T_X1_clear {S S' : HS} {r : Int} (hW : WR shX S) (h : M_X1_clear S = some (r, S')) : zV shX yX1_clear cX1_clear 1 1 [aR 33] S S' := by
  refine zV_of (by decide +kernel) (Nat.le_of_ble_eq_true rfl) (fun z hz hN hF => ?_)
  have hz : zO z cX1_clear RX1 1 shX := hz
  show zA z 0 [(0, aR 33)] [] S
  unfold M_X1_clear at h
  refine s_aload_n 0 hz dX1_clear_0 rfl ?_
  refine s_iconst hz dX1_clear_1 ?_
  obtain ⟨S1, eS1, h⟩ := zs_ex h
  have hW1 : WR shX S1 := by rw [eS1]; exact hW.up (i := 6) sx33 (v := 0) rl_0
  refine s_putI (kz := 6) 6 hz fp_X1_30 sx33 rfl rfl dX1_clear_2 ?_
  rw [← eS1]
  exact s_vret h hz hF hW1 dX1_clear_5
def M_X6_weekOf (a1 : Int) (S : HS) : zO2 :=
  zb (M_X6_has a1 S) fun r1 S2 =>
  if r1 = 0 then (
    some ((-1), S2))
  else (
    zg ((0 : Int) ≤ a1 ∧ a1 < 24) <|
    some (S2 15 a1, S2))
set_option maxHeartbeats 4000000 in
set_option maxRecDepth 20000 in
theorem T_X6_weekOf {a1 : Int} {S S' : HS} {r : Int} (ra1 : rng a1) (hW : WR shX S) (h : M_X6_weekOf a1 S = some (r, S')) : zR shX yX6_weekOf cX6_weekOf 2  .int 2 [aR 7, aI a1] S r S' := by
  refine zR_of (by decide +kernel) (Nat.le_of_ble_eq_true rfl) (fun z hz hN hF => ?_)
  have hz : zO z cX6_weekOf RX6 2 shX := hz
  show zA z 0 [(0, aR 7), (1, aI a1)] [] S
  unfold M_X6_weekOf at h
  refine s_aload_n 0 hz dX6_weekOf_0 rfl ?_
  refine s_iload_n 1 hz dX6_weekOf_1 rfl ?_
  obtain ⟨r1, S2, hc2, h⟩ := zb_of h
  refine s_callV [aI a1] [] hz ml_X6_60 sv_yX6_has (T_X6_has ra1 hW hc2) (by decide) rfl sx7 rfl rfl (Nat.le_of_ble_eq_true rfl) dX6_weekOf_2 (fun rr1 hW2 => ?_)
  refine s_if_eq 17 hz rr1 dX6_weekOf_5 rfl (fun c3 => ?_) (fun c3 => ?_)
  · have h := zif_t c3 h
    refine s_iconst hz dX6_weekOf_17 ?_
    exact s_iret h hz hF rl_m1 hW2 dX6_weekOf_18
  · have h := zif_f c3 h
    refine s_aload_n 0 hz dX6_weekOf_8 rfl ?_
    refine s_getR 9 hz fl_X6_33 sx7 rfl (by decide) dX6_weekOf_9 ?_
    refine s_iload_n 1 hz dX6_weekOf_12 rfl ?_
    obtain ⟨g4, h⟩ := zg_of h
    refine s_iald hz sx15 rfl (by decide) g4 dX6_weekOf_13 ?_
    refine s_goto 18 hz dX6_weekOf_14 rfl ?_
    exact s_iret h hz hF (hW2 15 _ sx15 a1) hW2 dX6_weekOf_18
def M_X1_put (a1 : Int) (a2 : Int) (S : HS) : zO2 :=
  if 8 ≤ S 33 6 then (
    some (0, S))
  else (
    zg ((0 : Int) ≤ S 33 6 ∧ S 33 6 < 8) <|
    zs (up S 36 (S 33 6) a1) fun S3 =>
    zg ((0 : Int) ≤ S3 33 6 ∧ S3 33 6 < 8) <|
    zs (up S3 37 (S3 33 6) a2) fun S5 =>
    zl ((S5 33 6) + 1) fun x6 =>
    zs (up S5 33 6 x6) fun S7 =>
    some (0, S7))
set_option maxHeartbeats 4000000 in
set_option maxRecDepth 20000 in
theorem T_X1_put {a1 : Int} {a2 : Int} {S S' : HS} {r : Int} (ra1 : rng a1) (ra2 : rng a2) (hW : WR shX S) (h : M_X1_put a1 a2 S = some (r, S')) : zV shX yX1_put cX1_put 3 1 [aR 33, aI a1, aI a2] S S' := by
  refine zV_of (by decide +kernel) (Nat.le_of_ble_eq_true rfl) (fun z hz hN hF => ?_)
  have hz : zO z cX1_put RX1 1 shX := hz
  show zA z 0 [(0, aR 33), (1, aI a1), (2, aI a2)] [] S
  unfold M_X1_put at h
  refine s_aload_n 0 hz dX1_put_0 rfl ?_
  refine s_getI (kz := 6) 6 hz fl_X1_30 sx33 rfl rfl dX1_put_1 ?_
  refine s_bipush hz dX1_put_4 bp_8 ?_
  refine s_icmp_ge 39 hz (hW 33 _ sx33 6) rl_8 dX1_put_6 rfl (fun c1 => ?_) (fun c1 => ?_)
  · have h := zif_t c1 h
    exact s_vret h hz hF hW dX1_put_39
  · have h := zif_f c1 h
    refine s_aload_n 0 hz dX1_put_9 rfl ?_
    refine s_getR 2 hz fl_X1_18 sx33 rfl (by decide) dX1_put_10 ?_
    refine s_aload_n 0 hz dX1_put_13 rfl ?_
    refine s_getI (kz := 6) 6 hz fl_X1_30 sx33 rfl rfl dX1_put_14 ?_
    refine s_iload_n 1 hz dX1_put_17 rfl ?_
    obtain ⟨g2, h⟩ := zg_of h
    obtain ⟨S3, eS3, h⟩ := zs_ex h
    have hW3 : WR shX S3 := by rw [eS3]; exact hW.up (i := (S 33 6)) sx36 (v := a1) ra1
    refine s_iast hz sx36 rfl (by decide) g2 dX1_put_18 ?_
    rw [← eS3]
    refine s_aload_n 0 hz dX1_put_19 rfl ?_
    refine s_getR 3 hz fl_X1_21 sx33 rfl (by decide) dX1_put_20 ?_
    refine s_aload_n 0 hz dX1_put_23 rfl ?_
    refine s_getI (kz := 6) 6 hz fl_X1_30 sx33 rfl rfl dX1_put_24 ?_
    refine s_iload_n 2 hz dX1_put_27 rfl ?_
    obtain ⟨g4, h⟩ := zg_of h
    obtain ⟨S5, eS5, h⟩ := zs_ex h
    have hW5 : WR shX S5 := by rw [eS5]; exact hW3.up (i := (S3 33 6)) sx37 (v := a2) ra2
    refine s_iast hz sx37 rfl (by decide) g4 dX1_put_28 ?_
    rw [← eS5]
    refine s_aload_n 0 hz dX1_put_29 rfl ?_
    refine s_dup hz rfl dX1_put_30 ?_
    refine s_getI (kz := 6) 6 hz fl_X1_30 sx33 rfl rfl dX1_put_31 ?_
    refine s_iconst hz dX1_put_34 ?_
    refine s_iadd hz dX1_put_35 ?_
    obtain ⟨x6, ex6, rx6, h⟩ := zl_ex h
    rw [← ex6]
    obtain ⟨S7, eS7, h⟩ := zs_ex h
    have hW7 : WR shX S7 := by rw [eS7]; exact hW5.up (i := 6) sx33 (v := x6) rx6
    refine s_putI (kz := 6) 6 hz fp_X1_30 sx33 rfl rfl dX1_put_36 ?_
    rw [← eS7]
    exact s_vret h hz hF hW7 dX1_put_39
def L_X0_weeksHeld_16 (k52 : Int → HS → zO2) (p1 : Int) : Nat → Int → Int → HS → zO2
  | 0, _, _, _ => none
  | n + 1, v2, v3, S => 
    zb (M_X6_sizeIn p1 S) fun r5 S6 =>
    if r5 ≤ v3 then (
      k52 v2 S6)
    else (
      zb (M_X6_cellIn p1 v3 S6) fun r8 S9 =>
      zb (M_X0_leastAt r8 S9) fun r10 S11 =>
      zl (v3 + 1) fun x12 =>
      L_X0_weeksHeld_16 k52 p1 n (min v2 r10) x12 S11)
set_option maxHeartbeats 4000000 in
set_option maxRecDepth 20000 in
theorem TL_X0_weeksHeld_16 {k52 : Int → HS → zO2} {p1 : Int} {r : Int} {S' : HS} {z : Zt} (hz : zO z cX0_weeksHeld RX0 4 shX) (hN : zN z 4) (hF : zFi z shX .int r S') (hk52 : ∀ (w2 : Int) (S : HS), rng w2 → WR shX S → k52 w2 S = some (r, S') → zA z 52 [(2, aI w2)] [] S) (rp1 : rng p1) : ∀ (n : Nat) {v2 : Int} {v3 : Int} {S : HS}, rng v2 → rng v3 → WR shX S → L_X0_weeksHeld_16 k52 p1 n v2 v3 S = some (r, S') → zA z 16 [(0, aR 28), (1, aI p1), (2, aI v2), (3, aI v3)] [] S := by
  intro n
  induction n with
  | zero =>
    intro _ _ _ _ _ _ h
    cases h
  | succ n ih =>
    intro v2 v3 S rv2 rv3 hW h
    rw [L_X0_weeksHeld_16.eq_2] at h
    refine s_iload_n 3 hz dX0_weeksHeld_16 rfl ?_
    refine s_aload_n 0 hz dX0_weeksHeld_17 rfl ?_
    refine s_getR 1 hz fl_X0_28 sx28 rfl (by decide) dX0_weeksHeld_18 ?_
    refine s_iload_n 1 hz dX0_weeksHeld_21 rfl ?_
    obtain ⟨r5, S6, hc6, h⟩ := zb_of h
    refine s_callV [aI p1] [aI v3] hz ml_X0_50 sv_yX6_sizeIn (T_X6_sizeIn rp1 hW hc6) (by decide) rfl sx7 rfl rfl (Nat.le_of_ble_eq_true rfl) dX0_weeksHeld_22 (fun rr5 hW6 => ?_)
    refine s_icmp_ge 52 hz rv3 rr5 dX0_weeksHeld_25 rfl (fun c7 => ?_) (fun c7 => ?_)
    · have h := zif_t c7 h
      refine s_pick (l' := [(2, aI v2)]) [2] rfl ?_
      exact hk52 _ _ rv2 hW6 h
    · have h := zif_f c7 h
      refine s_iload_n 2 hz dX0_weeksHeld_28 rfl ?_
      refine s_aload_n 0 hz dX0_weeksHeld_29 rfl ?_
      refine s_aload_n 0 hz dX0_weeksHeld_30 rfl ?_
      refine s_getR 1 hz fl_X0_28 sx28 rfl (by decide) dX0_weeksHeld_31 ?_
      refine s_iload_n 1 hz dX0_weeksHeld_34 rfl ?_
      refine s_iload_n 3 hz dX0_weeksHeld_35 rfl ?_
      obtain ⟨r8, S9, hc9, h⟩ := zb_of h
      refine s_callV [aI p1, aI v3] [aR 28, aI v2] hz ml_X0_54 sv_yX6_cellIn (T_X6_cellIn rp1 rv3 hW6 hc9) (by decide) rfl sx7 rfl rfl (Nat.le_of_ble_eq_true rfl) dX0_weeksHeld_36 (fun rr8 hW9 => ?_)
      obtain ⟨r10, S11, hc11, h⟩ := zb_of h
      refine s_callV [aI r8] [aI v2] hz ml_X0_91 sv_yX0_leastAt (T_X0_leastAt rr8 hW9 hc11) (by decide) rfl sx28 rfl rfl (Nat.le_of_ble_eq_true rfl) dX0_weeksHeld_39 (fun rr10 hW11 => ?_)
      refine s_min hz mj_X0_80 (by decide) rv2 rr10 (Nat.le_of_ble_eq_true rfl) dX0_weeksHeld_42 ?_
      refine s_istore_n (l' := [(2, aI (min v2 r10)), (0, aR 28), (1, aI p1), (3, aI v3)]) hz hN dX0_weeksHeld_45 (by decide) rfl ?_
      obtain ⟨x12, ex12, rx12, h⟩ := zl_ex h
      refine s_iinc (k0 := 3) (y := x12) (l' := [(3, aI x12), (2, aI (min v2 r10)), (0, aR 28), (1, aI p1)]) hz hN dX0_weeksHeld_46 rfl ex12.symm (by decide) rfl ?_
      refine s_goto 16 hz dX0_weeksHeld_49 rfl ?_
      refine s_pick (l' := [(0, aR 28), (1, aI p1), (2, aI (min v2 r10)), (3, aI x12)]) [2, 3, 1, 0] rfl ?_
      exact ih (zmin_r rv2 rr10) rx12 hW11 h
def M_X0_weeksHeld (a1 : Int) (S : HS) : zO2 :=
  zb (M_X6_cellIn a1 0 S) fun r1 S2 =>
  zb (M_X0_leastAt r1 S2) fun r3 S4 =>
  L_X0_weeksHeld_16 (fun e2 S13 =>
      zg ((0 : Int) ≤ e2 ∧ (0 : Int) < 4) <|
      zl ((e2 / 4) + 1) fun x15 =>
      some (min 8 x15, S13)) a1 zBig r3 1 S4
set_option maxHeartbeats 4000000 in
set_option maxRecDepth 20000 in
theorem T_X0_weeksHeld {a1 : Int} {S S' : HS} {r : Int} (ra1 : rng a1) (hW : WR shX S) (h : M_X0_weeksHeld a1 S = some (r, S')) : zR shX yX0_weeksHeld cX0_weeksHeld 4  .int 4 [aR 28, aI a1] S r S' := by
  refine zR_of (by decide +kernel) (Nat.le_of_ble_eq_true rfl) (fun z hz hN hF => ?_)
  have hz : zO z cX0_weeksHeld RX0 4 shX := hz
  show zA z 0 [(0, aR 28), (1, aI a1)] [] S
  unfold M_X0_weeksHeld at h
  refine s_aload_n 0 hz dX0_weeksHeld_0 rfl ?_
  refine s_aload_n 0 hz dX0_weeksHeld_1 rfl ?_
  refine s_getR 1 hz fl_X0_28 sx28 rfl (by decide) dX0_weeksHeld_2 ?_
  refine s_iload_n 1 hz dX0_weeksHeld_5 rfl ?_
  refine s_iconst hz dX0_weeksHeld_6 ?_
  obtain ⟨r1, S2, hc2, h⟩ := zb_of h
  refine s_callV [aI a1, aI 0] [aR 28] hz ml_X0_54 sv_yX6_cellIn (T_X6_cellIn ra1 rl_0 hW hc2) (by decide) rfl sx7 rfl rfl (Nat.le_of_ble_eq_true rfl) dX0_weeksHeld_7 (fun rr1 hW2 => ?_)
  obtain ⟨r3, S4, hc4, h⟩ := zb_of h
  refine s_callV [aI r1] [] hz ml_X0_91 sv_yX0_leastAt (T_X0_leastAt rr1 hW2 hc4) (by decide) rfl sx28 rfl rfl (Nat.le_of_ble_eq_true rfl) dX0_weeksHeld_10 (fun rr3 hW4 => ?_)
  refine s_istore_n (l' := [(2, aI r3), (0, aR 28), (1, aI a1)]) hz hN dX0_weeksHeld_13 (by decide) rfl ?_
  refine s_iconst hz dX0_weeksHeld_14 ?_
  refine s_istore_n (l' := [(3, aI 1), (2, aI r3), (0, aR 28), (1, aI a1)]) hz hN dX0_weeksHeld_15 (by decide) rfl ?_
  refine s_pick (l' := [(0, aR 28), (1, aI a1), (2, aI r3), (3, aI 1)]) [2, 3, 1, 0] rfl ?_
  refine TL_X0_weeksHeld_16 hz hN hF ?_ ra1 zBig rr3 rl_1 hW4 h
  · clear h 
    intro e2 S13 re2 hW13 h
    refine s_bipush hz dX0_weeksHeld_52 bp_8 ?_
    refine s_iload_n 0 hz dX0_weeksHeld_54 rfl ?_
    refine s_iconst hz dX0_weeksHeld_55 ?_
    obtain ⟨g14, h⟩ := zg_of h
    refine s_idiv hz g14.1 g14.2 re2 rl_4 dX0_weeksHeld_56 ?_
    refine s_iconst hz dX0_weeksHeld_57 ?_
    refine s_iadd hz dX0_weeksHeld_58 ?_
    obtain ⟨x15, ex15, rx15, h⟩ := zl_ex h
    rw [← ex15]
    refine s_min hz mj_X0_80 (by decide) rl_8 rx15 (Nat.le_of_ble_eq_true rfl) dX0_weeksHeld_59 ?_
    exact s_iret h hz hF (zmin_r rl_8 rx15) hW13 dX0_weeksHeld_62
def M_X11_isGrownOut (a1 : Int) (S : HS) : zO2 :=
  zb (M_X6_weekOf a1 S) fun r1 S2 =>
  if r1 = (-1) then (
    some (0, S2))
  else (
    zb (M_X0_weeksHeld a1 S2) fun r4 S5 =>
    zl ((S2 1 2) - r1) fun x6 =>
    if x6 < r4 then (
      some (0, S5))
    else (
      some (1, S5)))
set_option maxHeartbeats 4000000 in
set_option maxRecDepth 20000 in
theorem T_X11_isGrownOut {a1 : Int} {S S' : HS} {r : Int} (ra1 : rng a1) (hW : WR shX S) (h : M_X11_isGrownOut a1 S = some (r, S')) : zR shX yX11_isGrownOut cX11_isGrownOut 3  .boolean 5 [aR 0, aI a1] S r S' := by
  refine zR_of (by decide +kernel) (Nat.le_of_ble_eq_true rfl) (fun z hz hN hF => ?_)
  have hz : zO z cX11_isGrownOut RX11 5 shX := hz
  show zA z 0 [(0, aR 0), (1, aI a1)] [] S
  unfold M_X11_isGrownOut at h
  refine s_aload_n 0 hz dX11_isGrownOut_0 rfl ?_
  refine s_getR 2 hz fl_X11_28 sx0 rfl (by decide) dX11_isGrownOut_1 ?_
  refine s_iload_n 1 hz dX11_isGrownOut_4 rfl ?_
  obtain ⟨r1, S2, hc2, h⟩ := zb_of h
  refine s_callV [aI a1] [] hz ml_X11_268 sv_yX6_weekOf (T_X6_weekOf ra1 hW hc2) (by decide) rfl sx7 rfl rfl (Nat.le_of_ble_eq_true rfl) dX11_isGrownOut_5 (fun rr1 hW2 => ?_)
  refine s_istore_n (l' := [(2, aI r1), (0, aR 0), (1, aI a1)]) hz hN dX11_isGrownOut_8 (by decide) rfl ?_
  refine s_iload_n 0 hz dX11_isGrownOut_9 rfl ?_
  refine s_iconst hz dX11_isGrownOut_10 ?_
  refine s_icmp_eq 38 hz rr1 rl_m1 dX11_isGrownOut_11 rfl (fun c3 => ?_) (fun c3 => ?_)
  · have h := zif_t c3 h
    refine s_iconst hz dX11_isGrownOut_38 ?_
    exact s_zret h hz hF (by decide) hW2 dX11_isGrownOut_39
  · have h := zif_f c3 h
    refine s_aload_n 1 hz dX11_isGrownOut_14 rfl ?_
    refine s_getR 0 hz fl_X11_12 sx0 rfl (by decide) dX11_isGrownOut_15 ?_
    refine s_getI (kz := 2) 2 hz fl_X11_224 sx1 rfl rfl dX11_isGrownOut_18 ?_
    refine s_iload_n 0 hz dX11_isGrownOut_21 rfl ?_
    refine s_isub hz dX11_isGrownOut_22 ?_
    refine s_aload_n 1 hz dX11_isGrownOut_23 rfl ?_
    refine s_getR 5 hz fl_X11_53 sx0 rfl (by decide) dX11_isGrownOut_24 ?_
    refine s_iload_n 2 hz dX11_isGrownOut_27 rfl ?_
    obtain ⟨r4, S5, hc5, h⟩ := zb_of h
    refine s_callV [aI a1] [aI ((S2 1 2) - r1)] hz ml_X11_234 sv_yX0_weeksHeld (T_X0_weeksHeld ra1 hW2 hc5) (by decide) rfl sx28 rfl rfl (Nat.le_of_ble_eq_true rfl) dX11_isGrownOut_28 (fun rr4 hW5 => ?_)
    obtain ⟨x6, ex6, rx6, h⟩ := zl_ex h
    rw [← ex6]
    refine s_icmp_lt 38 hz rx6 rr4 dX11_isGrownOut_31 rfl (fun c7 => ?_) (fun c7 => ?_)
    · have h := zif_t c7 h
      refine s_iconst hz dX11_isGrownOut_38 ?_
      exact s_zret h hz hF (by decide) hW5 dX11_isGrownOut_39
    · have h := zif_f c7 h
      refine s_iconst hz dX11_isGrownOut_34 ?_
      refine s_goto 39 hz dX11_isGrownOut_35 rfl ?_
      exact s_zret h hz hF (by decide) hW5 dX11_isGrownOut_39
def M_X1_settle (S : HS) : zO2 :=
  zs (zfill S 35 3 0) fun S1 =>
  zs (up S1 33 7 1000000) fun S2 =>
  zb (M_X1_share 9 0 0 S2) fun _ S4 =>
  some (0, S4)
set_option maxHeartbeats 4000000 in
set_option maxRecDepth 20000 in
theorem T_X1_settle {S S' : HS} {r : Int} (hW : WR shX S) (h : M_X1_settle S = some (r, S')) : zV shX yX1_settle cX1_settle 1 20 [aR 33] S S' := by
  refine zV_of (by decide +kernel) (Nat.le_of_ble_eq_true rfl) (fun z hz hN hF => ?_)
  have hz : zO z cX1_settle RX1 20 shX := hz
  show zA z 0 [(0, aR 33)] [] S
  unfold M_X1_settle at h
  refine s_aload_n 0 hz dX1_settle_0 rfl ?_
  refine s_getR 1 hz fl_X1_15 sx33 rfl (by decide) dX1_settle_1 ?_
  refine s_iconst hz dX1_settle_4 ?_
  obtain ⟨S1, eS1, h⟩ := zs_ex h
  have hW1 : WR shX S1 := by rw [eS1]; exact zfill_W (n := 3) (v := 0) hW sx35 rl_0
  refine s_callSv [aR 35, aI 0] [] hz ml_X1_37 ss_yJ7_fill_53178 (T_fill (nz := 3) hW sx35 (by decide) rfl rl_0) (by decide) rfl rfl (Nat.le_of_ble_eq_true rfl) dX1_settle_5 (fun _ => ?_)
  rw [← eS1]
  refine s_aload_n 0 hz dX1_settle_8 rfl ?_
  refine s_ldc 1000000 hz cn_X1_43 dX1_settle_9 ?_
  obtain ⟨S2, eS2, h⟩ := zs_ex h
  have hW2 : WR shX S2 := by rw [eS2]; exact hW1.up (i := 7) sx33 (v := 1000000) rl_1000000
  refine s_putI (kz := 7) 7 hz fp_X1_34 sx33 rfl rfl dX1_settle_11 ?_
  rw [← eS2]
  refine s_aload_n 0 hz dX1_settle_14 rfl ?_
  refine s_iconst hz dX1_settle_15 ?_
  refine s_iconst hz dX1_settle_16 ?_
  obtain ⟨r3, S4, hc4, h⟩ := zb_of h
  refine s_callVv [aI 0, aI 0] [] hz ml_X1_44 sv_yX1_share (T_X1_share 9 rl_0 rl_0 hW2 hc4) (by decide) rfl sx33 rfl rfl (Nat.le_of_ble_eq_true rfl) dX1_settle_17 (fun hW4 => ?_)
  exact s_vret h hz hF hW4 dX1_settle_20
def J_X11_makePlan_56 (k9 : Int → HS → zO2) (v1 : Int) (S : HS) : zO2 :=
  zl (v1 + 1) fun x11 =>
  k9 x11 S
set_option maxHeartbeats 4000000 in
set_option maxRecDepth 20000 in
theorem TJ_X11_makePlan_56 {k9 : Int → HS → zO2} {v1 : Int} {S : HS} {r : Int} {S' : HS} {z : Zt} (hz : zO z cX11_makePlan RX11 21 shX) (hN : zN z 2) (hF : zFv z shX S') (hk9 : ∀ (w1 : Int) (S : HS), rng w1 → WR shX S → k9 w1 S = some (r, S') → zA z 9 [(0, aR 0), (1, aI w1)] [] S) (rv1 : rng v1) (hW : WR shX S) (h : J_X11_makePlan_56 k9 v1 S = some (r, S')) : zA z 56 [(0, aR 0), (1, aI v1)] [] S := by
  unfold J_X11_makePlan_56 at h
  obtain ⟨x11, ex11, rx11, h⟩ := zl_ex h
  refine s_iinc (k0 := 1) (y := x11) (l' := [(1, aI x11), (0, aR 0)]) hz hN dX11_makePlan_56 rfl ex11.symm (by decide) rfl ?_
  refine s_goto 9 hz dX11_makePlan_59 rfl ?_
  refine s_pick (l' := [(0, aR 0), (1, aI x11)]) [1, 0] rfl ?_
  exact hk9 _ _ rx11 hW h
def J_X11_makePlan_40 (k9 : Int → HS → zO2) (v1 : Int) (S : HS) : zO2 :=
  zb (M_X0_minutes v1 S) fun r7 S8 =>
  zb (M_X1_put v1 r7 S8) fun _ S10 =>
  J_X11_makePlan_56 k9 v1 S10
set_option maxHeartbeats 4000000 in
set_option maxRecDepth 20000 in
theorem TJ_X11_makePlan_40 {k9 : Int → HS → zO2} {v1 : Int} {S : HS} {r : Int} {S' : HS} {z : Zt} (hz : zO z cX11_makePlan RX11 21 shX) (hN : zN z 2) (hF : zFv z shX S') (hk9 : ∀ (w1 : Int) (S : HS), rng w1 → WR shX S → k9 w1 S = some (r, S') → zA z 9 [(0, aR 0), (1, aI w1)] [] S) (rv1 : rng v1) (hW : WR shX S) (h : J_X11_makePlan_40 k9 v1 S = some (r, S')) : zA z 40 [(0, aR 0), (1, aI v1)] [] S := by
  unfold J_X11_makePlan_40 at h
  refine s_aload_n 0 hz dX11_makePlan_40 rfl ?_
  refine s_getR 6 hz fl_X11_60 sx0 rfl (by decide) dX11_makePlan_41 ?_
  refine s_iload_n 1 hz dX11_makePlan_44 rfl ?_
  refine s_aload_n 0 hz dX11_makePlan_45 rfl ?_
  refine s_getR 5 hz fl_X11_53 sx0 rfl (by decide) dX11_makePlan_46 ?_
  refine s_iload_n 1 hz dX11_makePlan_49 rfl ?_
  obtain ⟨r7, S8, hc8, h⟩ := zb_of h
  refine s_callV [aI v1] [aI v1, aR 33] hz ml_X11_201 sv_yX0_minutes (T_X0_minutes rv1 hW hc8) (by decide) rfl sx28 rfl rfl (Nat.le_of_ble_eq_true rfl) dX11_makePlan_50 (fun rr7 hW8 => ?_)
  obtain ⟨r9, S10, hc10, h⟩ := zb_of h
  refine s_callVv [aI v1, aI r7] [] hz ml_X11_272 sv_yX1_put (T_X1_put rv1 rr7 hW8 hc10) (by decide) rfl sx33 rfl rfl (Nat.le_of_ble_eq_true rfl) dX11_makePlan_53 (fun hW10 => ?_)
  exact TJ_X11_makePlan_56 hz hN hF hk9 rv1 hW10 h
def L_X11_makePlan_9 (k62 : HS → zO2) : Nat → Int → HS → zO2
  | 0, _, _ => none
  | n + 1, v1, S => 
    if S 7 11 ≤ v1 then (
      k62 S)
    else (
      zb (M_X6_weekOf v1 S) fun r4 S5 =>
      if r4 = (-1) then (
        J_X11_makePlan_40 (L_X11_makePlan_9 k62 n) v1 S5)
      else (
        zb (M_X11_isGrownOut v1 S5) fun r12 S13 =>
        if r12 = 0 then (
          J_X11_makePlan_56 (L_X11_makePlan_9 k62 n) v1 S13)
        else (
          J_X11_makePlan_40 (L_X11_makePlan_9 k62 n) v1 S13)))
set_option maxHeartbeats 4000000 in
set_option maxRecDepth 20000 in
theorem TL_X11_makePlan_9 {k62 : HS → zO2} {r : Int} {S' : HS} {z : Zt} (hz : zO z cX11_makePlan RX11 21 shX) (hN : zN z 2) (hF : zFv z shX S') (hk62 : ∀ (S : HS), WR shX S → k62 S = some (r, S') → zA z 62 [(0, aR 0)] [] S) : ∀ (n : Nat) {v1 : Int} {S : HS}, rng v1 → WR shX S → L_X11_makePlan_9 k62 n v1 S = some (r, S') → zA z 9 [(0, aR 0), (1, aI v1)] [] S := by
  intro n
  induction n with
  | zero =>
    intro _ _ _ _ h
    cases h
  | succ n ih =>
    intro v1 S rv1 hW h
    rw [L_X11_makePlan_9.eq_2] at h
    refine s_iload_n 1 hz dX11_makePlan_9 rfl ?_
    refine s_aload_n 0 hz dX11_makePlan_10 rfl ?_
    refine s_getR 2 hz fl_X11_28 sx0 rfl (by decide) dX11_makePlan_11 ?_
    refine s_getI (kz := 11) 11 hz fl_X11_223 sx7 rfl rfl dX11_makePlan_14 ?_
    refine s_icmp_ge 62 hz rv1 (hW 7 _ sx7 11) dX11_makePlan_17 rfl (fun c3 => ?_) (fun c3 => ?_)
    · have h := zif_t c3 h
      refine s_pick (l' := [(0, aR 0)]) [0] rfl ?_
      exact hk62 _ hW h
    · have h := zif_f c3 h
      refine s_aload_n 0 hz dX11_makePlan_20 rfl ?_
      refine s_getR 2 hz fl_X11_28 sx0 rfl (by decide) dX11_makePlan_21 ?_
      refine s_iload_n 1 hz dX11_makePlan_24 rfl ?_
      obtain ⟨r4, S5, hc5, h⟩ := zb_of h
      refine s_callV [aI v1] [] hz ml_X11_268 sv_yX6_weekOf (T_X6_weekOf rv1 hW hc5) (by decide) rfl sx7 rfl rfl (Nat.le_of_ble_eq_true rfl) dX11_makePlan_25 (fun rr4 hW5 => ?_)
      refine s_iconst hz dX11_makePlan_28 ?_
      refine s_icmp_eq 40 hz rr4 rl_m1 dX11_makePlan_29 rfl (fun c6 => ?_) (fun c6 => ?_)
      · have h := zif_t c6 h
        exact TJ_X11_makePlan_40 hz hN hF (fun _ _ => ih) rv1 hW5 h
      · have h := zif_f c6 h
        refine s_aload_n 0 hz dX11_makePlan_32 rfl ?_
        refine s_iload_n 1 hz dX11_makePlan_33 rfl ?_
        obtain ⟨r12, S13, hc13, h⟩ := zb_of h
        refine s_callV [aI v1] [] hz ml_X11_237 sv_yX11_isGrownOut (T_X11_isGrownOut rv1 hW5 hc13) (by decide) rfl sx0 rfl rfl (Nat.le_of_ble_eq_true rfl) dX11_makePlan_34 (fun rr12 hW13 => ?_)
        refine s_if_eq 56 hz rr12 dX11_makePlan_37 rfl (fun c14 => ?_) (fun c14 => ?_)
        · have h := zif_t c14 h
          exact TJ_X11_makePlan_56 hz hN hF (fun _ _ => ih) rv1 hW13 h
        · have h := zif_f c14 h
          exact TJ_X11_makePlan_40 hz hN hF (fun _ _ => ih) rv1 hW13 h
def M_X11_makePlan (S : HS) : zO2 :=
  zb (M_X1_clear S) fun _ S2 =>
  L_X11_makePlan_9 (fun S15 =>
      zb (M_X1_settle S15) fun _ S17 =>
      some (0, S17)) zBig 0 S2
set_option maxHeartbeats 4000000 in
set_option maxRecDepth 20000 in
theorem T_X11_makePlan {S S' : HS} {r : Int} (hW : WR shX S) (h : M_X11_makePlan S = some (r, S')) : zV shX yX11_makePlan cX11_makePlan 2 21 [aR 0] S S' := by
  refine zV_of (by decide +kernel) (Nat.le_of_ble_eq_true rfl) (fun z hz hN hF => ?_)
  have hz : zO z cX11_makePlan RX11 21 shX := hz
  show zA z 0 [(0, aR 0)] [] S
  unfold M_X11_makePlan at h
  refine s_aload_n 0 hz dX11_makePlan_0 rfl ?_
  refine s_getR 6 hz fl_X11_60 sx0 rfl (by decide) dX11_makePlan_1 ?_
  obtain ⟨r1, S2, hc2, h⟩ := zb_of h
  refine s_callVv [] [] hz ml_X11_271 sv_yX1_clear (T_X1_clear hW hc2) (by decide) rfl sx33 rfl rfl (Nat.le_of_ble_eq_true rfl) dX11_makePlan_4 (fun hW2 => ?_)
  refine s_iconst hz dX11_makePlan_7 ?_
  refine s_istore_n (l' := [(1, aI 0), (0, aR 0)]) hz hN dX11_makePlan_8 (by decide) rfl ?_
  refine s_pick (l' := [(0, aR 0), (1, aI 0)]) [1, 0] rfl ?_
  refine TL_X11_makePlan_9 hz hN hF ?_ zBig rl_0 hW2 h
  · clear h 
    intro S15 hW15 h
    refine s_aload_n 0 hz dX11_makePlan_62 rfl ?_
    refine s_getR 6 hz fl_X11_60 sx0 rfl (by decide) dX11_makePlan_63 ?_
    obtain ⟨r16, S17, hc17, h⟩ := zb_of h
    refine s_callVv [] [] hz ml_X11_274 sv_yX1_settle (T_X1_settle hW15 hc17) (by decide) rfl sx33 rfl rfl (Nat.le_of_ble_eq_true rfl) dX11_makePlan_66 (fun hW17 => ?_)
    exact s_vret h hz hF hW17 dX11_makePlan_69
def J_X1_sitting_20 (t0 : Int) (S : HS) : zO2 :=
  zl ((S 33 7) + (10 * t0)) fun x2 =>
  some (x2, S)
set_option maxHeartbeats 4000000 in
set_option maxRecDepth 20000 in
theorem TJ_X1_sitting_20 {t0 : Int} {S : HS} {r : Int} {S' : HS} {z : Zt} (hz : zO z cX1_sitting RX1 1 shX) (hN : zN z 2) (hF : zFi z shX .int r S') (rt0 : rng t0) (hW : WR shX S) (h : J_X1_sitting_20 t0 S = some (r, S')) : zA z 20 [(0, aR 33)] [aI t0] S := by
  unfold J_X1_sitting_20 at h
  refine s_istore_n (l' := [(1, aI t0), (0, aR 33)]) hz hN dX1_sitting_20 (by decide) rfl ?_
  refine s_aload_n 1 hz dX1_sitting_21 rfl ?_
  refine s_getI (kz := 7) 7 hz fl_X1_34 sx33 rfl rfl dX1_sitting_22 ?_
  refine s_bipush hz dX1_sitting_25 bp_10 ?_
  refine s_iload_n 0 hz dX1_sitting_27 rfl ?_
  refine s_imul hz dX1_sitting_28 ?_
  refine s_iadd hz dX1_sitting_29 ?_
  obtain ⟨x2, ex2, rx2, h⟩ := zl_ex h
  rw [← ex2]
  exact s_iret h hz hF rx2 hW dX1_sitting_30
def M_X1_sitting (S : HS) : zO2 :=
  if S 33 7 ≤ 0 then (
    J_X1_sitting_20 0 S)
  else (
    zl ((S 33 7) - 1) fun x3 =>
    zg ((0 : Int) ≤ x3 ∧ (0 : Int) < 60) <|
    zl (x3 / 60) fun x5 =>
    J_X1_sitting_20 x5 S)
set_option maxHeartbeats 4000000 in
set_option maxRecDepth 20000 in
theorem T_X1_sitting {S S' : HS} {r : Int} (hW : WR shX S) (h : M_X1_sitting S = some (r, S')) : zR shX yX1_sitting cX1_sitting 2  .int 1 [aR 33] S r S' := by
  refine zR_of (by decide +kernel) (Nat.le_of_ble_eq_true rfl) (fun z hz hN hF => ?_)
  have hz : zO z cX1_sitting RX1 1 shX := hz
  show zA z 0 [(0, aR 33)] [] S
  unfold M_X1_sitting at h
  refine s_aload_n 0 hz dX1_sitting_0 rfl ?_
  refine s_getI (kz := 7) 7 hz fl_X1_34 sx33 rfl rfl dX1_sitting_1 ?_
  refine s_if_le 19 hz (hW 33 _ sx33 7) dX1_sitting_4 rfl (fun c1 => ?_) (fun c1 => ?_)
  · have h := zif_t c1 h
    refine s_iconst hz dX1_sitting_19 ?_
    exact TJ_X1_sitting_20 hz hN hF rl_0 hW h
  · have h := zif_f c1 h
    refine s_aload_n 0 hz dX1_sitting_7 rfl ?_
    refine s_getI (kz := 7) 7 hz fl_X1_34 sx33 rfl rfl dX1_sitting_8 ?_
    refine s_iconst hz dX1_sitting_11 ?_
    refine s_isub hz dX1_sitting_12 ?_
    refine s_bipush hz dX1_sitting_13 bp_60 ?_
    obtain ⟨x3, ex3, rx3, h⟩ := zl_ex h
    rw [← ex3]
    obtain ⟨g4, h⟩ := zg_of h
    refine s_idiv hz g4.1 g4.2 rx3 rl_60 dX1_sitting_15 ?_
    refine s_goto 20 hz dX1_sitting_16 rfl ?_
    obtain ⟨x5, ex5, rx5, h⟩ := zl_ex h
    rw [← ex5]
    exact TJ_X1_sitting_20 hz hN hF rx5 hW h
def M_X11_plan (a1 : Int) (S : HS) : zO2 :=
  if a1 < 0 then (
    some ((-1), S))
  else (
    if a1 ≤ 2 then (
      zb (M_X11_makePlan S) fun _ S4 =>
      if a1 = 0 then (
        some (S4 33 7, S4))
      else (
        if a1 = 1 then (
          zb (M_X1_sitting S4) fun r7 S8 =>
          some (r7, S8))
        else (
          some (S4 33 6, S4))))
    else (
      some ((-1), S)))
set_option maxHeartbeats 4000000 in
set_option maxRecDepth 20000 in
theorem T_X11_plan {a1 : Int} {S S' : HS} {r : Int} (ra1 : rng a1) (hW : WR shX S) (h : M_X11_plan a1 S = some (r, S')) : zR shX yX11_plan cX11_plan 2  .int 22 [aR 0, aI a1] S r S' := by
  refine zR_of (by decide +kernel) (Nat.le_of_ble_eq_true rfl) (fun z hz hN hF => ?_)
  have hz : zO z cX11_plan RX11 22 shX := hz
  show zA z 0 [(0, aR 0), (1, aI a1)] [] S
  unfold M_X11_plan at h
  refine s_iload_n 1 hz dX11_plan_0 rfl ?_
  refine s_if_lt 9 hz ra1 dX11_plan_1 rfl (fun c1 => ?_) (fun c1 => ?_)
  · have h := zif_t c1 h
    refine s_iconst hz dX11_plan_9 ?_
    exact s_iret h hz hF rl_m1 hW dX11_plan_10
  · have h := zif_f c1 h
    refine s_iload_n 1 hz dX11_plan_4 rfl ?_
    refine s_iconst hz dX11_plan_5 ?_
    refine s_icmp_le 11 hz ra1 rl_2 dX11_plan_6 rfl (fun c2 => ?_) (fun c2 => ?_)
    · have h := zif_t c2 h
      refine s_aload_n 0 hz dX11_plan_11 rfl ?_
      obtain ⟨r3, S4, hc4, h⟩ := zb_of h
      refine s_callVv [] [] hz ml_X11_210 sv_yX11_makePlan (T_X11_makePlan hW hc4) (by decide) rfl sx0 rfl rfl (Nat.le_of_ble_eq_true rfl) dX11_plan_12 (fun hW4 => ?_)
      refine s_iload_n 1 hz dX11_plan_15 rfl ?_
      refine s_if_ne 27 hz ra1 dX11_plan_16 rfl (fun c5 => ?_) (fun c5 => ?_)
      · have h := zif_f c5 h
        refine s_iload_n 1 hz dX11_plan_27 rfl ?_
        refine s_iconst hz dX11_plan_28 ?_
        refine s_icmp_ne 42 hz ra1 rl_1 dX11_plan_29 rfl (fun c6 => ?_) (fun c6 => ?_)
        · have h := zif_f c6 h
          refine s_aload_n 0 hz dX11_plan_42 rfl ?_
          refine s_getR 6 hz fl_X11_60 sx0 rfl (by decide) dX11_plan_43 ?_
          refine s_getI (kz := 6) 6 hz fl_X11_219 sx33 rfl rfl dX11_plan_46 ?_
          exact s_iret h hz hF (hW4 33 _ sx33 6) hW4 dX11_plan_49
        · have h := zif_t c6 h
          refine s_aload_n 0 hz dX11_plan_32 rfl ?_
          refine s_getR 6 hz fl_X11_60 sx0 rfl (by decide) dX11_plan_33 ?_
          obtain ⟨r7, S8, hc8, h⟩ := zb_of h
          refine s_callV [] [] hz ml_X11_216 sv_yX1_sitting (T_X1_sitting hW4 hc8) (by decide) rfl sx33 rfl rfl (Nat.le_of_ble_eq_true rfl) dX11_plan_36 (fun rr7 hW8 => ?_)
          refine s_goto 49 hz dX11_plan_39 rfl ?_
          exact s_iret h hz hF rr7 hW8 dX11_plan_49
      · have h := zif_t c5 h
        refine s_aload_n 0 hz dX11_plan_19 rfl ?_
        refine s_getR 6 hz fl_X11_60 sx0 rfl (by decide) dX11_plan_20 ?_
        refine s_getI (kz := 7) 7 hz fl_X11_213 sx33 rfl rfl dX11_plan_23 ?_
        exact s_iret h hz hF (hW4 33 _ sx33 7) hW4 dX11_plan_26
    · have h := zif_f c2 h
      refine s_iconst hz dX11_plan_9 ?_
      exact s_iret h hz hF rl_m1 hW dX11_plan_10
def L_X1_handFor_2 (k26 : Int → HS → zO2) (p1 : Int) : Nat → Int → HS → zO2
  | 0, _, _ => none
  | n + 1, v2, S => 
    if S 33 6 ≤ v2 then (
      some ((-1), S))
    else (
      if 8 ≤ v2 then (
        some ((-1), S))
      else (
        zg ((0 : Int) ≤ v2 ∧ v2 < 8) <|
        if S 36 v2 = p1 then (
          k26 v2 S)
        else (
          zl (v2 + 1) fun x5 =>
          L_X1_handFor_2 k26 p1 n x5 S)))
set_option maxHeartbeats 4000000 in
set_option maxRecDepth 20000 in
theorem TL_X1_handFor_2 {k26 : Int → HS → zO2} {p1 : Int} {r : Int} {S' : HS} {z : Zt} (hz : zO z cX1_handFor RX1 1 shX) (hN : zN z 3) (hF : zFi z shX .int r S') (hk26 : ∀ (w2 : Int) (S : HS), rng w2 → WR shX S → k26 w2 S = some (r, S') → zA z 26 [(0, aR 33), (2, aI w2)] [] S) (rp1 : rng p1) : ∀ (n : Nat) {v2 : Int} {S : HS}, rng v2 → WR shX S → L_X1_handFor_2 k26 p1 n v2 S = some (r, S') → zA z 2 [(0, aR 33), (1, aI p1), (2, aI v2)] [] S := by
  intro n
  induction n with
  | zero =>
    intro _ _ _ _ h
    cases h
  | succ n ih =>
    intro v2 S rv2 hW h
    rw [L_X1_handFor_2.eq_2] at h
    refine s_iload_n 2 hz dX1_handFor_2 rfl ?_
    refine s_aload_n 0 hz dX1_handFor_3 rfl ?_
    refine s_getI (kz := 6) 6 hz fl_X1_30 sx33 rfl rfl dX1_handFor_4 ?_
    refine s_icmp_ge 39 hz rv2 (hW 33 _ sx33 6) dX1_handFor_7 rfl (fun c1 => ?_) (fun c1 => ?_)
    · have h := zif_t c1 h
      refine s_iconst hz dX1_handFor_39 ?_
      exact s_iret h hz hF rl_m1 hW dX1_handFor_40
    · have h := zif_f c1 h
      refine s_iload_n 2 hz dX1_handFor_10 rfl ?_
      refine s_bipush hz dX1_handFor_11 bp_8 ?_
      refine s_icmp_ge 39 hz rv2 rl_8 dX1_handFor_13 rfl (fun c2 => ?_) (fun c2 => ?_)
      · have h := zif_t c2 h
        refine s_iconst hz dX1_handFor_39 ?_
        exact s_iret h hz hF rl_m1 hW dX1_handFor_40
      · have h := zif_f c2 h
        refine s_aload_n 0 hz dX1_handFor_16 rfl ?_
        refine s_getR 2 hz fl_X1_18 sx33 rfl (by decide) dX1_handFor_17 ?_
        refine s_iload_n 2 hz dX1_handFor_20 rfl ?_
        obtain ⟨g3, h⟩ := zg_of h
        refine s_iald hz sx36 rfl (by decide) g3 dX1_handFor_21 ?_
        refine s_iload_n 1 hz dX1_handFor_22 rfl ?_
        refine s_icmp_ne 33 hz (hW 36 _ sx36 v2) rp1 dX1_handFor_23 rfl (fun c4 => ?_) (fun c4 => ?_)
        · have h := zif_f c4 h
          obtain ⟨x5, ex5, rx5, h⟩ := zl_ex h
          refine s_iinc (k0 := 2) (y := x5) (l' := [(2, aI x5), (0, aR 33), (1, aI p1)]) hz hN dX1_handFor_33 rfl ex5.symm (by decide) rfl ?_
          refine s_goto 2 hz dX1_handFor_36 rfl ?_
          refine s_pick (l' := [(0, aR 33), (1, aI p1), (2, aI x5)]) [1, 2, 0] rfl ?_
          exact ih rx5 hW h
        · have h := zif_t c4 h
          refine s_pick (l' := [(0, aR 33), (2, aI v2)]) [0, 2] rfl ?_
          exact hk26 _ _ rv2 hW h
def M_X1_handFor (a1 : Int) (S : HS) : zO2 :=
  L_X1_handFor_2 (fun e2 S6 =>
      zg ((0 : Int) ≤ e2 ∧ e2 < 8) <|
      some (S6 39 e2, S6)) a1 zBig 0 S
set_option maxHeartbeats 4000000 in
set_option maxRecDepth 20000 in
theorem T_X1_handFor {a1 : Int} {S S' : HS} {r : Int} (ra1 : rng a1) (hW : WR shX S) (h : M_X1_handFor a1 S = some (r, S')) : zR shX yX1_handFor cX1_handFor 3  .int 1 [aR 33, aI a1] S r S' := by
  refine zR_of (by decide +kernel) (Nat.le_of_ble_eq_true rfl) (fun z hz hN hF => ?_)
  have hz : zO z cX1_handFor RX1 1 shX := hz
  show zA z 0 [(0, aR 33), (1, aI a1)] [] S
  unfold M_X1_handFor at h
  refine s_iconst hz dX1_handFor_0 ?_
  refine s_istore_n (l' := [(2, aI 0), (0, aR 33), (1, aI a1)]) hz hN dX1_handFor_1 (by decide) rfl ?_
  refine s_pick (l' := [(0, aR 33), (1, aI a1), (2, aI 0)]) [1, 2, 0] rfl ?_
  refine TL_X1_handFor_2 hz hN hF ?_ ra1 zBig rl_0 hW h
  · clear h 
    intro e2 S6 re2 hW6 h
    refine s_aload_n 0 hz dX1_handFor_26 rfl ?_
    refine s_getR 5 hz fl_X1_27 sx33 rfl (by decide) dX1_handFor_27 ?_
    refine s_iload_n 1 hz dX1_handFor_30 rfl ?_
    obtain ⟨g7, h⟩ := zg_of h
    refine s_iald hz sx39 rfl (by decide) g7 dX1_handFor_31 ?_
    exact s_iret h hz hF (hW6 39 _ sx39 e2) hW6 dX1_handFor_32
def M_X11_planned (a1 : Int) (S : HS) : zO2 :=
  zb (M_X11_makePlan S) fun _ S2 =>
  zb (M_X1_handFor a1 S2) fun r3 S4 =>
  some (r3, S4)
set_option maxHeartbeats 4000000 in
set_option maxRecDepth 20000 in
theorem T_X11_planned {a1 : Int} {S S' : HS} {r : Int} (ra1 : rng a1) (hW : WR shX S) (h : M_X11_planned a1 S = some (r, S')) : zR shX yX11_planned cX11_planned 2  .int 22 [aR 0, aI a1] S r S' := by
  refine zR_of (by decide +kernel) (Nat.le_of_ble_eq_true rfl) (fun z hz hN hF => ?_)
  have hz : zO z cX11_planned RX11 22 shX := hz
  show zA z 0 [(0, aR 0), (1, aI a1)] [] S
  unfold M_X11_planned at h
  refine s_aload_n 0 hz dX11_planned_0 rfl ?_
  obtain ⟨r1, S2, hc2, h⟩ := zb_of h
  refine s_callVv [] [] hz ml_X11_210 sv_yX11_makePlan (T_X11_makePlan hW hc2) (by decide) rfl sx0 rfl rfl (Nat.le_of_ble_eq_true rfl) dX11_planned_1 (fun hW2 => ?_)
  refine s_aload_n 0 hz dX11_planned_4 rfl ?_
  refine s_getR 6 hz fl_X11_60 sx0 rfl (by decide) dX11_planned_5 ?_
  refine s_iload_n 1 hz dX11_planned_8 rfl ?_
  obtain ⟨r3, S4, hc4, h⟩ := zb_of h
  refine s_callV [aI a1] [] hz ml_X11_220 sv_yX1_handFor (T_X1_handFor ra1 hW2 hc4) (by decide) rfl sx33 rfl rfl (Nat.le_of_ble_eq_true rfl) dX11_planned_9 (fun rr3 hW4 => ?_)
  exact s_iret h hz hF rr3 hW4 dX11_planned_12
def M_X6_putWeek (a1 : Int) (a2 : Int) (S : HS) : zO2 :=
  zb (M_X6_has a1 S) fun r1 S2 =>
  if r1 = 0 then (
    some (0, S2))
  else (
    zg ((0 : Int) ≤ a1 ∧ a1 < 24) <|
    zs (up S2 15 a1 a2) fun S5 =>
    some (0, S5))
set_option maxHeartbeats 4000000 in
set_option maxRecDepth 20000 in
theorem T_X6_putWeek {a1 : Int} {a2 : Int} {S S' : HS} {r : Int} (ra1 : rng a1) (ra2 : rng a2) (hW : WR shX S) (h : M_X6_putWeek a1 a2 S = some (r, S')) : zV shX yX6_putWeek cX6_putWeek 3 2 [aR 7, aI a1, aI a2] S S' := by
  refine zV_of (by decide +kernel) (Nat.le_of_ble_eq_true rfl) (fun z hz hN hF => ?_)
  have hz : zO z cX6_putWeek RX6 2 shX := hz
  show zA z 0 [(0, aR 7), (1, aI a1), (2, aI a2)] [] S
  unfold M_X6_putWeek at h
  refine s_aload_n 0 hz dX6_putWeek_0 rfl ?_
  refine s_iload_n 1 hz dX6_putWeek_1 rfl ?_
  obtain ⟨r1, S2, hc2, h⟩ := zb_of h
  refine s_callV [aI a1] [] hz ml_X6_60 sv_yX6_has (T_X6_has ra1 hW hc2) (by decide) rfl sx7 rfl rfl (Nat.le_of_ble_eq_true rfl) dX6_putWeek_2 (fun rr1 hW2 => ?_)
  refine s_if_eq 15 hz rr1 dX6_putWeek_5 rfl (fun c3 => ?_) (fun c3 => ?_)
  · have h := zif_t c3 h
    exact s_vret h hz hF hW2 dX6_putWeek_15
  · have h := zif_f c3 h
    refine s_aload_n 0 hz dX6_putWeek_8 rfl ?_
    refine s_getR 9 hz fl_X6_33 sx7 rfl (by decide) dX6_putWeek_9 ?_
    refine s_iload_n 1 hz dX6_putWeek_12 rfl ?_
    refine s_iload_n 2 hz dX6_putWeek_13 rfl ?_
    obtain ⟨g4, h⟩ := zg_of h
    obtain ⟨S5, eS5, h⟩ := zs_ex h
    have hW5 : WR shX S5 := by rw [eS5]; exact hW2.up (i := a1) sx15 (v := a2) ra2
    refine s_iast hz sx15 rfl (by decide) g4 dX6_putWeek_14 ?_
    rw [← eS5]
    exact s_vret h hz hF hW5 dX6_putWeek_15
def L_X11_done_2 (k34 : HS → zO2) : Nat → Int → HS → zO2
  | 0, _, _ => none
  | n + 1, v1, S => 
    if S 7 11 ≤ v1 then (
      k34 S)
    else (
      zb (M_X6_putWeek v1 (S 1 2) S) fun _ S3 =>
      zl (v1 + 1) fun x4 =>
      L_X11_done_2 k34 n x4 S3)
set_option maxHeartbeats 4000000 in
set_option maxRecDepth 20000 in
theorem TL_X11_done_2 {k34 : HS → zO2} {r : Int} {S' : HS} {z : Zt} (hz : zO z cX11_done RX11 3 shX) (hN : zN z 2) (hF : zFi z shX .int r S') (hk34 : ∀ (S : HS), WR shX S → k34 S = some (r, S') → zA z 34 [(0, aR 0)] [] S) : ∀ (n : Nat) {v1 : Int} {S : HS}, rng v1 → WR shX S → L_X11_done_2 k34 n v1 S = some (r, S') → zA z 2 [(0, aR 0), (1, aI v1)] [] S := by
  intro n
  induction n with
  | zero =>
    intro _ _ _ _ h
    cases h
  | succ n ih =>
    intro v1 S rv1 hW h
    rw [L_X11_done_2.eq_2] at h
    refine s_iload_n 1 hz dX11_done_2 rfl ?_
    refine s_aload_n 0 hz dX11_done_3 rfl ?_
    refine s_getR 2 hz fl_X11_28 sx0 rfl (by decide) dX11_done_4 ?_
    refine s_getI (kz := 11) 11 hz fl_X11_223 sx7 rfl rfl dX11_done_7 ?_
    refine s_icmp_ge 34 hz rv1 (hW 7 _ sx7 11) dX11_done_10 rfl (fun c1 => ?_) (fun c1 => ?_)
    · have h := zif_t c1 h
      refine s_pick (l' := [(0, aR 0)]) [0] rfl ?_
      exact hk34 _ hW h
    · have h := zif_f c1 h
      refine s_aload_n 0 hz dX11_done_13 rfl ?_
      refine s_getR 2 hz fl_X11_28 sx0 rfl (by decide) dX11_done_14 ?_
      refine s_iload_n 1 hz dX11_done_17 rfl ?_
      refine s_aload_n 0 hz dX11_done_18 rfl ?_
      refine s_getR 0 hz fl_X11_12 sx0 rfl (by decide) dX11_done_19 ?_
      refine s_getI (kz := 2) 2 hz fl_X11_224 sx1 rfl rfl dX11_done_22 ?_
      obtain ⟨r2, S3, hc3, h⟩ := zb_of h
      refine s_callVv [aI v1, aI (S 1 2)] [] hz ml_X11_227 sv_yX6_putWeek (T_X6_putWeek rv1 (hW 1 _ sx1 2) hW hc3) (by decide) rfl sx7 rfl rfl (Nat.le_of_ble_eq_true rfl) dX11_done_25 (fun hW3 => ?_)
      obtain ⟨x4, ex4, rx4, h⟩ := zl_ex h
      refine s_iinc (k0 := 1) (y := x4) (l' := [(1, aI x4), (0, aR 0)]) hz hN dX11_done_28 rfl ex4.symm (by decide) rfl ?_
      refine s_goto 2 hz dX11_done_31 rfl ?_
      refine s_pick (l' := [(0, aR 0), (1, aI x4)]) [1, 0] rfl ?_
      exact ih rx4 hW3 h
def M_X11_done (S : HS) : zO2 :=
  L_X11_done_2 (fun S5 =>
      some (S5 7 11, S5)) zBig 0 S
set_option maxHeartbeats 4000000 in
set_option maxRecDepth 20000 in
theorem T_X11_done {S S' : HS} {r : Int} (hW : WR shX S) (h : M_X11_done S = some (r, S')) : zR shX yX11_done cX11_done 2  .int 3 [aR 0] S r S' := by
  refine zR_of (by decide +kernel) (Nat.le_of_ble_eq_true rfl) (fun z hz hN hF => ?_)
  have hz : zO z cX11_done RX11 3 shX := hz
  show zA z 0 [(0, aR 0)] [] S
  unfold M_X11_done at h
  refine s_iconst hz dX11_done_0 ?_
  refine s_istore_n (l' := [(1, aI 0), (0, aR 0)]) hz hN dX11_done_1 (by decide) rfl ?_
  refine s_pick (l' := [(0, aR 0), (1, aI 0)]) [1, 0] rfl ?_
  refine TL_X11_done_2 hz hN hF ?_ zBig rl_0 hW h
  · clear h 
    intro S5 hW5 h
    refine s_aload_n 0 hz dX11_done_34 rfl ?_
    refine s_getR 2 hz fl_X11_28 sx0 rfl (by decide) dX11_done_35 ?_
    refine s_getI (kz := 11) 11 hz fl_X11_223 sx7 rfl rfl dX11_done_38 ?_
    exact s_iret h hz hF (hW5 7 _ sx7 11) hW5 dX11_done_41
def M_X2_grow (a1 : Int) (S : HS) : zO2 :=
  zl ((S 1 2) + a1) fun x1 =>
  zs (up S 1 2 x1) fun S2 =>
  zl ((S2 1 1) + (3 * a1)) fun x3 =>
  zs (up S2 1 1 (min 2000 x3)) fun S4 =>
  some (0, S4)
set_option maxHeartbeats 4000000 in
set_option maxRecDepth 20000 in
theorem T_X2_grow {a1 : Int} {S S' : HS} {r : Int} (ra1 : rng a1) (hW : WR shX S) (h : M_X2_grow a1 S = some (r, S')) : zV shX yX2_grow cX2_grow 2 1 [aR 1, aI a1] S S' := by
  refine zV_of (by decide +kernel) (Nat.le_of_ble_eq_true rfl) (fun z hz hN hF => ?_)
  have hz : zO z cX2_grow RX2 1 shX := hz
  show zA z 0 [(0, aR 1), (1, aI a1)] [] S
  unfold M_X2_grow at h
  refine s_aload_n 0 hz dX2_grow_0 rfl ?_
  refine s_dup hz rfl dX2_grow_1 ?_
  refine s_getI (kz := 2) 2 hz fl_X2_19 sx1 rfl rfl dX2_grow_2 ?_
  refine s_iload_n 1 hz dX2_grow_5 rfl ?_
  refine s_iadd hz dX2_grow_6 ?_
  obtain ⟨x1, ex1, rx1, h⟩ := zl_ex h
  rw [← ex1]
  obtain ⟨S2, eS2, h⟩ := zs_ex h
  have hW2 : WR shX S2 := by rw [eS2]; exact hW.up (i := 2) sx1 (v := x1) rx1
  refine s_putI (kz := 2) 2 hz fp_X2_19 sx1 rfl rfl dX2_grow_7 ?_
  rw [← eS2]
  refine s_aload_n 0 hz dX2_grow_10 rfl ?_
  refine s_sipush hz dX2_grow_11 sp_2000 ?_
  refine s_aload_n 0 hz dX2_grow_14 rfl ?_
  refine s_getI (kz := 1) 1 hz fl_X2_15 sx1 rfl rfl dX2_grow_15 ?_
  refine s_iconst hz dX2_grow_18 ?_
  refine s_iload_n 1 hz dX2_grow_19 rfl ?_
  refine s_imul hz dX2_grow_20 ?_
  refine s_iadd hz dX2_grow_21 ?_
  obtain ⟨x3, ex3, rx3, h⟩ := zl_ex h
  rw [← ex3]
  refine s_min hz mj_X2_44 (by decide) rl_2000 rx3 (Nat.le_of_ble_eq_true rfl) dX2_grow_22 ?_
  obtain ⟨S4, eS4, h⟩ := zs_ex h
  have hW4 : WR shX S4 := by rw [eS4]; exact hW2.up (i := 1) sx1 (v := (min 2000 x3)) (zmin_r rl_2000 rx3)
  refine s_putI (kz := 1) 1 hz fp_X2_15 sx1 rfl rfl dX2_grow_25 ?_
  rw [← eS4]
  exact s_vret h hz hF hW4 dX2_grow_28
def M_X11_weeks (a1 : Int) (S : HS) : zO2 :=
  if a1 < 0 then (
    some ((-1), S))
  else (
    if 20 < a1 then (
      some ((-1), S))
    else (
      zl ((S 1 2) + a1) fun x3 =>
      if x3 ≤ 99 then (
        zb (M_X2_grow a1 S) fun _ S6 =>
        some (S6 1 2, S6))
      else (
        some ((-1), S))))
set_option maxHeartbeats 4000000 in
set_option maxRecDepth 20000 in
theorem T_X11_weeks {a1 : Int} {S S' : HS} {r : Int} (ra1 : rng a1) (hW : WR shX S) (h : M_X11_weeks a1 S = some (r, S')) : zR shX yX11_weeks cX11_weeks 2  .int 2 [aR 0, aI a1] S r S' := by
  refine zR_of (by decide +kernel) (Nat.le_of_ble_eq_true rfl) (fun z hz hN hF => ?_)
  have hz : zO z cX11_weeks RX11 2 shX := hz
  show zA z 0 [(0, aR 0), (1, aI a1)] [] S
  unfold M_X11_weeks at h
  refine s_iload_n 1 hz dX11_weeks_0 rfl ?_
  refine s_if_lt 24 hz ra1 dX11_weeks_1 rfl (fun c1 => ?_) (fun c1 => ?_)
  · have h := zif_t c1 h
    refine s_iconst hz dX11_weeks_24 ?_
    exact s_iret h hz hF rl_m1 hW dX11_weeks_25
  · have h := zif_f c1 h
    refine s_iload_n 1 hz dX11_weeks_4 rfl ?_
    refine s_bipush hz dX11_weeks_5 bp_20 ?_
    refine s_icmp_gt 24 hz ra1 rl_20 dX11_weeks_7 rfl (fun c2 => ?_) (fun c2 => ?_)
    · have h := zif_t c2 h
      refine s_iconst hz dX11_weeks_24 ?_
      exact s_iret h hz hF rl_m1 hW dX11_weeks_25
    · have h := zif_f c2 h
      refine s_aload_n 0 hz dX11_weeks_10 rfl ?_
      refine s_getR 0 hz fl_X11_12 sx0 rfl (by decide) dX11_weeks_11 ?_
      refine s_getI (kz := 2) 2 hz fl_X11_224 sx1 rfl rfl dX11_weeks_14 ?_
      refine s_iload_n 1 hz dX11_weeks_17 rfl ?_
      refine s_iadd hz dX11_weeks_18 ?_
      refine s_bipush hz dX11_weeks_19 bp_99 ?_
      obtain ⟨x3, ex3, rx3, h⟩ := zl_ex h
      rw [← ex3]
      refine s_icmp_le 26 hz rx3 rl_99 dX11_weeks_21 rfl (fun c4 => ?_) (fun c4 => ?_)
      · have h := zif_t c4 h
        refine s_aload_n 0 hz dX11_weeks_26 rfl ?_
        refine s_getR 0 hz fl_X11_12 sx0 rfl (by decide) dX11_weeks_27 ?_
        refine s_iload_n 1 hz dX11_weeks_30 rfl ?_
        obtain ⟨r5, S6, hc6, h⟩ := zb_of h
        refine s_callVv [aI a1] [] hz ml_X11_230 sv_yX2_grow (T_X2_grow ra1 hW hc6) (by decide) rfl sx1 rfl rfl (Nat.le_of_ble_eq_true rfl) dX11_weeks_31 (fun hW6 => ?_)
        refine s_aload_n 0 hz dX11_weeks_34 rfl ?_
        refine s_getR 0 hz fl_X11_12 sx0 rfl (by decide) dX11_weeks_35 ?_
        refine s_getI (kz := 2) 2 hz fl_X11_224 sx1 rfl rfl dX11_weeks_38 ?_
        exact s_iret h hz hF (hW6 1 _ sx1 2) hW6 dX11_weeks_41
      · have h := zif_f c4 h
        refine s_iconst hz dX11_weeks_24 ?_
        exact s_iret h hz hF rl_m1 hW dX11_weeks_25
def M_X11_holds (a1 : Int) (S : HS) : zO2 :=
  zb (M_X6_has a1 S) fun r1 S2 =>
  if r1 = 0 then (
    some ((-1), S2))
  else (
    zb (M_X0_weeksHeld a1 S2) fun r4 S5 =>
    some (r4, S5))
set_option maxHeartbeats 4000000 in
set_option maxRecDepth 20000 in
theorem T_X11_holds {a1 : Int} {S S' : HS} {r : Int} (ra1 : rng a1) (hW : WR shX S) (h : M_X11_holds a1 S = some (r, S')) : zR shX yX11_holds cX11_holds 2  .int 5 [aR 0, aI a1] S r S' := by
  refine zR_of (by decide +kernel) (Nat.le_of_ble_eq_true rfl) (fun z hz hN hF => ?_)
  have hz : zO z cX11_holds RX11 5 shX := hz
  show zA z 0 [(0, aR 0), (1, aI a1)] [] S
  unfold M_X11_holds at h
  refine s_aload_n 0 hz dX11_holds_0 rfl ?_
  refine s_getR 2 hz fl_X11_28 sx0 rfl (by decide) dX11_holds_1 ?_
  refine s_iload_n 1 hz dX11_holds_4 rfl ?_
  obtain ⟨r1, S2, hc2, h⟩ := zb_of h
  refine s_callV [aI a1] [] hz ml_X11_172 sv_yX6_has (T_X6_has ra1 hW hc2) (by decide) rfl sx7 rfl rfl (Nat.le_of_ble_eq_true rfl) dX11_holds_5 (fun rr1 hW2 => ?_)
  refine s_if_eq 22 hz rr1 dX11_holds_8 rfl (fun c3 => ?_) (fun c3 => ?_)
  · have h := zif_t c3 h
    refine s_iconst hz dX11_holds_22 ?_
    exact s_iret h hz hF rl_m1 hW2 dX11_holds_23
  · have h := zif_f c3 h
    refine s_aload_n 0 hz dX11_holds_11 rfl ?_
    refine s_getR 5 hz fl_X11_53 sx0 rfl (by decide) dX11_holds_12 ?_
    refine s_iload_n 1 hz dX11_holds_15 rfl ?_
    obtain ⟨r4, S5, hc5, h⟩ := zb_of h
    refine s_callV [aI a1] [] hz ml_X11_234 sv_yX0_weeksHeld (T_X0_weeksHeld ra1 hW2 hc5) (by decide) rfl sx28 rfl rfl (Nat.le_of_ble_eq_true rfl) dX11_holds_16 (fun rr4 hW5 => ?_)
    refine s_goto 23 hz dX11_holds_19 rfl ?_
    exact s_iret h hz hF rr4 hW5 dX11_holds_23
def M_X11_isOut (a1 : Int) (S : HS) : zO2 :=
  zb (M_X6_has a1 S) fun r1 S2 =>
  if r1 = 0 then (
    some ((-1), S2))
  else (
    zb (M_X11_isGrownOut a1 S2) fun r4 S5 =>
    if r4 = 0 then (
      some (0, S5))
    else (
      some (1, S5)))
set_option maxHeartbeats 4000000 in
set_option maxRecDepth 20000 in
theorem T_X11_isOut {a1 : Int} {S S' : HS} {r : Int} (ra1 : rng a1) (hW : WR shX S) (h : M_X11_isOut a1 S = some (r, S')) : zR shX yX11_isOut cX11_isOut 2  .int 6 [aR 0, aI a1] S r S' := by
  refine zR_of (by decide +kernel) (Nat.le_of_ble_eq_true rfl) (fun z hz hN hF => ?_)
  have hz : zO z cX11_isOut RX11 6 shX := hz
  show zA z 0 [(0, aR 0), (1, aI a1)] [] S
  unfold M_X11_isOut at h
  refine s_aload_n 0 hz dX11_isOut_0 rfl ?_
  refine s_getR 2 hz fl_X11_28 sx0 rfl (by decide) dX11_isOut_1 ?_
  refine s_iload_n 1 hz dX11_isOut_4 rfl ?_
  obtain ⟨r1, S2, hc2, h⟩ := zb_of h
  refine s_callV [aI a1] [] hz ml_X11_172 sv_yX6_has (T_X6_has ra1 hW hc2) (by decide) rfl sx7 rfl rfl (Nat.le_of_ble_eq_true rfl) dX11_isOut_5 (fun rr1 hW2 => ?_)
  refine s_if_ne 13 hz rr1 dX11_isOut_8 rfl (fun c3 => ?_) (fun c3 => ?_)
  · have h := zif_f c3 h
    refine s_aload_n 0 hz dX11_isOut_13 rfl ?_
    refine s_iload_n 1 hz dX11_isOut_14 rfl ?_
    obtain ⟨r4, S5, hc5, h⟩ := zb_of h
    refine s_callV [aI a1] [] hz ml_X11_237 sv_yX11_isGrownOut (T_X11_isGrownOut ra1 hW2 hc5) (by decide) rfl sx0 rfl rfl (Nat.le_of_ble_eq_true rfl) dX11_isOut_15 (fun rr4 hW5 => ?_)
    refine s_if_eq 25 hz rr4 dX11_isOut_18 rfl (fun c6 => ?_) (fun c6 => ?_)
    · have h := zif_t c6 h
      refine s_iconst hz dX11_isOut_25 ?_
      exact s_iret h hz hF rl_0 hW5 dX11_isOut_26
    · have h := zif_f c6 h
      refine s_iconst hz dX11_isOut_21 ?_
      refine s_goto 26 hz dX11_isOut_22 rfl ?_
      exact s_iret h hz hF rl_1 hW5 dX11_isOut_26
  · have h := zif_t c3 h
    refine s_iconst hz dX11_isOut_11 ?_
    exact s_iret h hz hF rl_m1 hW2 dX11_isOut_12
def M_X11_redo (a1 : Int) (S : HS) : zO2 :=
  zb (M_X6_has a1 S) fun r1 S2 =>
  if r1 = 0 then (
    some (0, S2))
  else (
    zb (M_X11_isGrownOut a1 S2) fun r4 S5 =>
    if r4 = 0 then (
      some (0, S5))
    else (
      zb (M_X6_isTied a1 S5) fun r7 S8 =>
      if r7 = 0 then (
        zb (M_X6_putWeek a1 (S8 1 2) S8) fun _ S11 =>
        some (1, S11))
      else (
        some (0, S8))))
set_option maxHeartbeats 4000000 in
set_option maxRecDepth 20000 in
theorem T_X11_redo {a1 : Int} {S S' : HS} {r : Int} (ra1 : rng a1) (hW : WR shX S) (h : M_X11_redo a1 S = some (r, S')) : zR shX yX11_redo cX11_redo 2  .boolean 6 [aR 0, aI a1] S r S' := by
  refine zR_of (by decide +kernel) (Nat.le_of_ble_eq_true rfl) (fun z hz hN hF => ?_)
  have hz : zO z cX11_redo RX11 6 shX := hz
  show zA z 0 [(0, aR 0), (1, aI a1)] [] S
  unfold M_X11_redo at h
  refine s_aload_n 0 hz dX11_redo_0 rfl ?_
  refine s_getR 2 hz fl_X11_28 sx0 rfl (by decide) dX11_redo_1 ?_
  refine s_iload_n 1 hz dX11_redo_4 rfl ?_
  obtain ⟨r1, S2, hc2, h⟩ := zb_of h
  refine s_callV [aI a1] [] hz ml_X11_172 sv_yX6_has (T_X6_has ra1 hW hc2) (by decide) rfl sx7 rfl rfl (Nat.le_of_ble_eq_true rfl) dX11_redo_5 (fun rr1 hW2 => ?_)
  refine s_if_eq 30 hz rr1 dX11_redo_8 rfl (fun c3 => ?_) (fun c3 => ?_)
  · have h := zif_t c3 h
    refine s_iconst hz dX11_redo_30 ?_
    exact s_zret h hz hF (by decide) hW2 dX11_redo_31
  · have h := zif_f c3 h
    refine s_aload_n 0 hz dX11_redo_11 rfl ?_
    refine s_iload_n 1 hz dX11_redo_12 rfl ?_
    obtain ⟨r4, S5, hc5, h⟩ := zb_of h
    refine s_callV [aI a1] [] hz ml_X11_237 sv_yX11_isGrownOut (T_X11_isGrownOut ra1 hW2 hc5) (by decide) rfl sx0 rfl rfl (Nat.le_of_ble_eq_true rfl) dX11_redo_13 (fun rr4 hW5 => ?_)
    refine s_if_eq 30 hz rr4 dX11_redo_16 rfl (fun c6 => ?_) (fun c6 => ?_)
    · have h := zif_t c6 h
      refine s_iconst hz dX11_redo_30 ?_
      exact s_zret h hz hF (by decide) hW5 dX11_redo_31
    · have h := zif_f c6 h
      refine s_aload_n 0 hz dX11_redo_19 rfl ?_
      refine s_getR 2 hz fl_X11_28 sx0 rfl (by decide) dX11_redo_20 ?_
      refine s_iload_n 1 hz dX11_redo_23 rfl ?_
      obtain ⟨r7, S8, hc8, h⟩ := zb_of h
      refine s_callV [aI a1] [] hz ml_X11_240 sv_yX6_isTied (T_X6_isTied ra1 hW5 hc8) (by decide) rfl sx7 rfl rfl (Nat.le_of_ble_eq_true rfl) dX11_redo_24 (fun rr7 hW8 => ?_)
      refine s_if_eq 32 hz rr7 dX11_redo_27 rfl (fun c9 => ?_) (fun c9 => ?_)
      · have h := zif_t c9 h
        refine s_aload_n 0 hz dX11_redo_32 rfl ?_
        refine s_getR 2 hz fl_X11_28 sx0 rfl (by decide) dX11_redo_33 ?_
        refine s_iload_n 1 hz dX11_redo_36 rfl ?_
        refine s_aload_n 0 hz dX11_redo_37 rfl ?_
        refine s_getR 0 hz fl_X11_12 sx0 rfl (by decide) dX11_redo_38 ?_
        refine s_getI (kz := 2) 2 hz fl_X11_224 sx1 rfl rfl dX11_redo_41 ?_
        obtain ⟨r10, S11, hc11, h⟩ := zb_of h
        refine s_callVv [aI a1, aI (S8 1 2)] [] hz ml_X11_227 sv_yX6_putWeek (T_X6_putWeek ra1 (hW8 1 _ sx1 2) hW8 hc11) (by decide) rfl sx7 rfl rfl (Nat.le_of_ble_eq_true rfl) dX11_redo_44 (fun hW11 => ?_)
        refine s_iconst hz dX11_redo_47 ?_
        exact s_zret h hz hF (by decide) hW11 dX11_redo_48
      · have h := zif_f c9 h
        refine s_iconst hz dX11_redo_30 ?_
        exact s_zret h hz hF (by decide) hW8 dX11_redo_31
def J_X11_isUnlike_109 (S : HS) : zO2 :=
  some (1, S)
set_option maxHeartbeats 4000000 in
set_option maxRecDepth 20000 in
theorem TJ_X11_isUnlike_109 {S : HS} {r : Int} {S' : HS} {z : Zt} (hz : zO z cX11_isUnlike RX11 3 shX) (hN : zN z 3) (hF : zFi z shX .boolean r S') (hW : WR shX S) (h : J_X11_isUnlike_109 S = some (r, S')) : zA z 109 [] [] S := by
  unfold J_X11_isUnlike_109 at h
  refine s_iconst hz dX11_isUnlike_109 ?_
  refine s_goto 114 hz dX11_isUnlike_110 rfl ?_
  exact s_zret h hz hF (by decide) hW dX11_isUnlike_114
def J_X11_isUnlike_106 (t0 : Int) (t1 : Int) (S : HS) : zO2 :=
  if t1 = t0 then (
    some (0, S))
  else (
    J_X11_isUnlike_109 S)
set_option maxHeartbeats 4000000 in
set_option maxRecDepth 20000 in
theorem TJ_X11_isUnlike_106 {t0 : Int} {t1 : Int} {S : HS} {r : Int} {S' : HS} {z : Zt} (hz : zO z cX11_isUnlike RX11 3 shX) (hN : zN z 3) (hF : zFi z shX .boolean r S') (rt0 : rng t0) (rt1 : rng t1) (hW : WR shX S) (h : J_X11_isUnlike_106 t0 t1 S = some (r, S')) : zA z 106 [] [aI t0, aI t1] S := by
  unfold J_X11_isUnlike_106 at h
  refine s_icmp_eq 113 hz rt1 rt0 dX11_isUnlike_106 rfl (fun c21 => ?_) (fun c21 => ?_)
  · have h := zif_t c21 h
    refine s_iconst hz dX11_isUnlike_113 ?_
    exact s_zret h hz hF (by decide) hW dX11_isUnlike_114
  · have h := zif_f c21 h
    exact TJ_X11_isUnlike_109 hz hN hF hW h
