def M_X12_isWord (a1 : Int) (S : HS) : zO2 :=
  if S 51 8 = 0 then (
    zg ((0 : Int) ≤ S 51 7 ∧ S 51 7 < 1002) <|
    if S 53 (S 51 7) = 1 then (
      zg ((0 : Int) ≤ S 51 7 ∧ S 51 7 < 1002) <|
      zg ((0 : Int) ≤ a1 ∧ a1 < 8) <|
      if zcmp (S 55 (S 51 7)) (S 56 a1) = 0 then (
        some (1, S))
      else (
        some (0, S)))
    else (
      some (0, S)))
  else (
    some (0, S))
set_option maxHeartbeats 4000000 in
set_option maxRecDepth 20000 in
theorem T_X12_isWord {a1 : Int} {S S' : HS} {r : Int} (ra1 : rng a1) (hW : WR shF S) (h : M_X12_isWord a1 S = some (r, S')) : zR shF yX12_isWord cX12_isWord 2  .boolean 1 [aR 51, aI a1] S r S' := by
  refine zR_of (by decide +kernel) (Nat.le_of_ble_eq_true rfl) (fun z hz hN hF => ?_)
  have hz : zO z cX12_isWord RX12 1 shF := hz
  show zA z 0 [(0, aR 51), (1, aI a1)] [] S
  unfold M_X12_isWord at h
  refine s_aload_n 0 hz dX12_isWord_0 rfl ?_
  refine s_getI (kz := 8) 8 hz fl_X12_194 sf51 rfl rfl dX12_isWord_1 ?_
  refine s_if_ne 43 hz (hW 51 _ sf51 8) dX12_isWord_4 rfl (fun c1 => ?_) (fun c1 => ?_)
  · have h := zif_f c1 h
    refine s_iconst hz dX12_isWord_43 ?_
    exact s_zret h hz hF (by decide) hW dX12_isWord_44
  · have h := zif_t c1 h
    refine s_aload_n 0 hz dX12_isWord_7 rfl ?_
    refine s_getR 4 hz fl_X12_24 sf51 rfl (by decide) dX12_isWord_8 ?_
    refine s_aload_n 0 hz dX12_isWord_11 rfl ?_
    refine s_getI (kz := 7) 7 hz fl_X12_191 sf51 rfl rfl dX12_isWord_12 ?_
    obtain ⟨g2, h⟩ := zg_of h
    refine s_iald hz sf53 rfl (by decide) g2 dX12_isWord_15 ?_
    refine s_iconst hz dX12_isWord_16 ?_
    refine s_icmp_ne 43 hz (hW 53 _ sf53 (S 51 7)) rl_1 dX12_isWord_17 rfl (fun c3 => ?_) (fun c3 => ?_)
    · have h := zif_f c3 h
      refine s_iconst hz dX12_isWord_43 ?_
      exact s_zret h hz hF (by decide) hW dX12_isWord_44
    · have h := zif_t c3 h
      refine s_aload_n 0 hz dX12_isWord_20 rfl ?_
      refine s_getR 6 hz fl_X12_30 sf51 rfl (by decide) dX12_isWord_21 ?_
      refine s_aload_n 0 hz dX12_isWord_24 rfl ?_
      refine s_getI (kz := 7) 7 hz fl_X12_191 sf51 rfl rfl dX12_isWord_25 ?_
      obtain ⟨g4, h⟩ := zg_of h
      refine s_lald hz sf55 rfl (by decide) g4 dX12_isWord_28 ?_
      refine s_aload_n 0 hz dX12_isWord_29 rfl ?_
      refine s_getR 9 hz fl_X12_50 sf51 rfl (by decide) dX12_isWord_30 ?_
      refine s_iload_n 1 hz dX12_isWord_33 rfl ?_
      obtain ⟨g5, h⟩ := zg_of h
      refine s_lald hz sf56 rfl (by decide) g5 dX12_isWord_34 ?_
      refine s_lcmp hz (hW 55 _ sf55 (S 51 7)) (hW 56 _ sf56 a1) dX12_isWord_35 ?_
      refine s_if_ne 43 hz zcmp_r dX12_isWord_36 rfl (fun c6 => ?_) (fun c6 => ?_)
      · have h := zif_f c6 h
        refine s_iconst hz dX12_isWord_43 ?_
        exact s_zret h hz hF (by decide) hW dX12_isWord_44
      · have h := zif_t c6 h
        refine s_iconst hz dX12_isWord_39 ?_
        refine s_goto 44 hz dX12_isWord_40 rfl ?_
        exact s_zret h hz hF (by decide) hW dX12_isWord_44
def M_X12_emit (a1 : Int) (a2 : Int) (a3 : Int) (S : HS) : zO2 :=
  zg ((0 : Int) ≤ S 51 10 ∧ S 51 10 < 1100) <|
  zs (up S 57 (S 51 10) a1) fun S2 =>
  zg ((0 : Int) ≤ S2 51 10 ∧ S2 51 10 < 1100) <|
  zs (up S2 58 (S2 51 10) a2) fun S4 =>
  zg ((0 : Int) ≤ S4 51 10 ∧ S4 51 10 < 1100) <|
  zs (up S4 59 (S4 51 10) a3) fun S6 =>
  zg ((0 : Int) ≤ S6 51 10 ∧ S6 51 10 < 1100) <|
  zs (up S6 60 (S6 51 10) 0) fun S8 =>
  zl ((S8 51 10) + 1) fun x9 =>
  zs (up S8 51 10 x9) fun S10 =>
  zl ((S10 51 10) - 1) fun x11 =>
  some (x11, S10)
set_option maxHeartbeats 4000000 in
set_option maxRecDepth 20000 in
theorem T_X12_emit {a1 : Int} {a2 : Int} {a3 : Int} {S S' : HS} {r : Int} (ra1 : rng a1) (ra2 : rng a2) (ra3 : rng a3) (hW : WR shF S) (h : M_X12_emit a1 a2 a3 S = some (r, S')) : zR shF yX12_emit cX12_emit 4  .int 1 [aR 51, aI a1, aI a2, aI a3] S r S' := by
  refine zR_of (by decide +kernel) (Nat.le_of_ble_eq_true rfl) (fun z hz hN hF => ?_)
  have hz : zO z cX12_emit RX12 1 shF := hz
  show zA z 0 [(0, aR 51), (1, aI a1), (2, aI a2), (3, aI a3)] [] S
  unfold M_X12_emit at h
  refine s_aload_n 0 hz dX12_emit_0 rfl ?_
  refine s_getR 11 hz fl_X12_53 sf51 rfl (by decide) dX12_emit_1 ?_
  refine s_aload_n 0 hz dX12_emit_4 rfl ?_
  refine s_getI (kz := 10) 10 hz fl_X12_210 sf51 rfl rfl dX12_emit_5 ?_
  refine s_iload_n 1 hz dX12_emit_8 rfl ?_
  obtain ⟨g1, h⟩ := zg_of h
  obtain ⟨S2, eS2, h⟩ := zs_ex h
  have hW2 : WR shF S2 := by rw [eS2]; exact hW.up (i := (S 51 10)) sf57 (v := a1) ra1
  refine s_iast hz sf57 rfl (by decide) g1 dX12_emit_9 ?_
  rw [← eS2]
  refine s_aload_n 0 hz dX12_emit_10 rfl ?_
  refine s_getR 12 hz fl_X12_56 sf51 rfl (by decide) dX12_emit_11 ?_
  refine s_aload_n 0 hz dX12_emit_14 rfl ?_
  refine s_getI (kz := 10) 10 hz fl_X12_210 sf51 rfl rfl dX12_emit_15 ?_
  refine s_iload_n 2 hz dX12_emit_18 rfl ?_
  obtain ⟨g3, h⟩ := zg_of h
  obtain ⟨S4, eS4, h⟩ := zs_ex h
  have hW4 : WR shF S4 := by rw [eS4]; exact hW2.up (i := (S2 51 10)) sf58 (v := a2) ra2
  refine s_iast hz sf58 rfl (by decide) g3 dX12_emit_19 ?_
  rw [← eS4]
  refine s_aload_n 0 hz dX12_emit_20 rfl ?_
  refine s_getR 13 hz fl_X12_59 sf51 rfl (by decide) dX12_emit_21 ?_
  refine s_aload_n 0 hz dX12_emit_24 rfl ?_
  refine s_getI (kz := 10) 10 hz fl_X12_210 sf51 rfl rfl dX12_emit_25 ?_
  refine s_iload_n 3 hz dX12_emit_28 rfl ?_
  obtain ⟨g5, h⟩ := zg_of h
  obtain ⟨S6, eS6, h⟩ := zs_ex h
  have hW6 : WR shF S6 := by rw [eS6]; exact hW4.up (i := (S4 51 10)) sf59 (v := a3) ra3
  refine s_iast hz sf59 rfl (by decide) g5 dX12_emit_29 ?_
  rw [← eS6]
  refine s_aload_n 0 hz dX12_emit_30 rfl ?_
  refine s_getR 14 hz fl_X12_62 sf51 rfl (by decide) dX12_emit_31 ?_
  refine s_aload_n 0 hz dX12_emit_34 rfl ?_
  refine s_getI (kz := 10) 10 hz fl_X12_210 sf51 rfl rfl dX12_emit_35 ?_
  refine s_iconst hz dX12_emit_38 ?_
  obtain ⟨g7, h⟩ := zg_of h
  obtain ⟨S8, eS8, h⟩ := zs_ex h
  have hW8 : WR shF S8 := by rw [eS8]; exact hW6.up (i := (S6 51 10)) sf60 (v := 0) rl_0
  refine s_iast hz sf60 rfl (by decide) g7 dX12_emit_39 ?_
  rw [← eS8]
  refine s_aload_n 0 hz dX12_emit_40 rfl ?_
  refine s_dup hz rfl dX12_emit_41 ?_
  refine s_getI (kz := 10) 10 hz fl_X12_210 sf51 rfl rfl dX12_emit_42 ?_
  refine s_iconst hz dX12_emit_45 ?_
  refine s_iadd hz dX12_emit_46 ?_
  obtain ⟨x9, ex9, rx9, h⟩ := zl_ex h
  rw [← ex9]
  obtain ⟨S10, eS10, h⟩ := zs_ex h
  have hW10 : WR shF S10 := by rw [eS10]; exact hW8.up (i := 10) sf51 (v := x9) rx9
  refine s_putI (kz := 10) 10 hz fp_X12_210 sf51 rfl rfl dX12_emit_47 ?_
  rw [← eS10]
  refine s_aload_n 0 hz dX12_emit_50 rfl ?_
  refine s_getI (kz := 10) 10 hz fl_X12_210 sf51 rfl rfl dX12_emit_51 ?_
  refine s_iconst hz dX12_emit_54 ?_
  refine s_isub hz dX12_emit_55 ?_
  obtain ⟨x11, ex11, rx11, h⟩ := zl_ex h
  rw [← ex11]
  exact s_iret h hz hF rx11 hW10 dX12_emit_56
def M_X12_isSign (a1 : Int) (S : HS) : zO2 :=
  if S 51 8 = 0 then (
    zg ((0 : Int) ≤ S 51 7 ∧ S 51 7 < 1002) <|
    if S 53 (S 51 7) = 3 then (
      zg ((0 : Int) ≤ S 51 7 ∧ S 51 7 < 1002) <|
      if zcmp (S 55 (S 51 7)) a1 = 0 then (
        some (1, S))
      else (
        some (0, S)))
    else (
      some (0, S)))
  else (
    some (0, S))
set_option maxHeartbeats 4000000 in
set_option maxRecDepth 20000 in
theorem T_X12_isSign {a1 : Int} {S S' : HS} {r : Int} (ra1 : rng a1) (hW : WR shF S) (h : M_X12_isSign a1 S = some (r, S')) : zR shF yX12_isSign cX12_isSign 2  .boolean 1 [aR 51, aI a1] S r S' := by
  refine zR_of (by decide +kernel) (Nat.le_of_ble_eq_true rfl) (fun z hz hN hF => ?_)
  have hz : zO z cX12_isSign RX12 1 shF := hz
  show zA z 0 [(0, aR 51), (1, aI a1)] [] S
  unfold M_X12_isSign at h
  refine s_aload_n 0 hz dX12_isSign_0 rfl ?_
  refine s_getI (kz := 8) 8 hz fl_X12_194 sf51 rfl rfl dX12_isSign_1 ?_
  refine s_if_ne 39 hz (hW 51 _ sf51 8) dX12_isSign_4 rfl (fun c1 => ?_) (fun c1 => ?_)
  · have h := zif_f c1 h
    refine s_iconst hz dX12_isSign_39 ?_
    exact s_zret h hz hF (by decide) hW dX12_isSign_40
  · have h := zif_t c1 h
    refine s_aload_n 0 hz dX12_isSign_7 rfl ?_
    refine s_getR 4 hz fl_X12_24 sf51 rfl (by decide) dX12_isSign_8 ?_
    refine s_aload_n 0 hz dX12_isSign_11 rfl ?_
    refine s_getI (kz := 7) 7 hz fl_X12_191 sf51 rfl rfl dX12_isSign_12 ?_
    obtain ⟨g2, h⟩ := zg_of h
    refine s_iald hz sf53 rfl (by decide) g2 dX12_isSign_15 ?_
    refine s_iconst hz dX12_isSign_16 ?_
    refine s_icmp_ne 39 hz (hW 53 _ sf53 (S 51 7)) rl_3 dX12_isSign_17 rfl (fun c3 => ?_) (fun c3 => ?_)
    · have h := zif_f c3 h
      refine s_iconst hz dX12_isSign_39 ?_
      exact s_zret h hz hF (by decide) hW dX12_isSign_40
    · have h := zif_t c3 h
      refine s_aload_n 0 hz dX12_isSign_20 rfl ?_
      refine s_getR 6 hz fl_X12_30 sf51 rfl (by decide) dX12_isSign_21 ?_
      refine s_aload_n 0 hz dX12_isSign_24 rfl ?_
      refine s_getI (kz := 7) 7 hz fl_X12_191 sf51 rfl rfl dX12_isSign_25 ?_
      obtain ⟨g4, h⟩ := zg_of h
      refine s_lald hz sf55 rfl (by decide) g4 dX12_isSign_28 ?_
      refine s_iload_n 1 hz dX12_isSign_29 rfl ?_
      refine s_i2l hz ra1 dX12_isSign_30 ?_
      refine s_lcmp hz (hW 55 _ sf55 (S 51 7)) (z_ri ra1) dX12_isSign_31 ?_
      refine s_if_ne 39 hz zcmp_r dX12_isSign_32 rfl (fun c5 => ?_) (fun c5 => ?_)
      · have h := zif_f c5 h
        refine s_iconst hz dX12_isSign_39 ?_
        exact s_zret h hz hF (by decide) hW dX12_isSign_40
      · have h := zif_t c5 h
        refine s_iconst hz dX12_isSign_35 ?_
        refine s_goto 40 hz dX12_isSign_36 rfl ?_
        exact s_zret h hz hF (by decide) hW dX12_isSign_40
def M_X12_wrong (a1 : Int) (S : HS) : zO2 :=
  if S 51 8 = 0 then (
    zg ((0 : Int) ≤ S 51 7 ∧ S 51 7 < 1002) <|
    zl (a1 + (16 * (S 54 (S 51 7)))) fun x3 =>
    zs (up S 51 8 x3) fun S4 =>
    some (0, S4))
  else (
    some (0, S))
set_option maxHeartbeats 4000000 in
set_option maxRecDepth 20000 in
theorem T_X12_wrong {a1 : Int} {S S' : HS} {r : Int} (ra1 : rng a1) (hW : WR shF S) (h : M_X12_wrong a1 S = some (r, S')) : zV shF yX12_wrong cX12_wrong 2 1 [aR 51, aI a1] S S' := by
  refine zV_of (by decide +kernel) (Nat.le_of_ble_eq_true rfl) (fun z hz hN hF => ?_)
  have hz : zO z cX12_wrong RX12 1 shF := hz
  show zA z 0 [(0, aR 51), (1, aI a1)] [] S
  unfold M_X12_wrong at h
  refine s_aload_n 0 hz dX12_wrong_0 rfl ?_
  refine s_getI (kz := 8) 8 hz fl_X12_194 sf51 rfl rfl dX12_wrong_1 ?_
  refine s_if_ne 25 hz (hW 51 _ sf51 8) dX12_wrong_4 rfl (fun c1 => ?_) (fun c1 => ?_)
  · have h := zif_f c1 h
    exact s_vret h hz hF hW dX12_wrong_25
  · have h := zif_t c1 h
    refine s_aload_n 0 hz dX12_wrong_7 rfl ?_
    refine s_iload_n 1 hz dX12_wrong_8 rfl ?_
    refine s_bipush hz dX12_wrong_9 bp_16 ?_
    refine s_aload_n 0 hz dX12_wrong_11 rfl ?_
    refine s_getR 5 hz fl_X12_27 sf51 rfl (by decide) dX12_wrong_12 ?_
    refine s_aload_n 0 hz dX12_wrong_15 rfl ?_
    refine s_getI (kz := 7) 7 hz fl_X12_191 sf51 rfl rfl dX12_wrong_16 ?_
    obtain ⟨g2, h⟩ := zg_of h
    refine s_iald hz sf54 rfl (by decide) g2 dX12_wrong_19 ?_
    refine s_imul hz dX12_wrong_20 ?_
    refine s_iadd hz dX12_wrong_21 ?_
    obtain ⟨x3, ex3, rx3, h⟩ := zl_ex h
    rw [← ex3]
    obtain ⟨S4, eS4, h⟩ := zs_ex h
    have hW4 : WR shF S4 := by rw [eS4]; exact hW.up (i := 8) sf51 (v := x3) rx3
    refine s_putI (kz := 8) 8 hz fp_X12_194 sf51 rfl rfl dX12_wrong_22 ?_
    rw [← eS4]
    exact s_vret h hz hF hW4 dX12_wrong_25
def M_X12_takeSign (a1 : Int) (S : HS) : zO2 :=
  zb (M_X12_isSign a1 S) fun r1 S2 =>
  if r1 = 0 then (
    zb (M_X12_wrong 1 S2) fun _ S5 =>
    some (0, S5))
  else (
    zl ((S2 51 7) + 1) fun x6 =>
    zs (up S2 51 7 x6) fun S7 =>
    some (0, S7))
set_option maxHeartbeats 4000000 in
set_option maxRecDepth 20000 in
theorem T_X12_takeSign {a1 : Int} {S S' : HS} {r : Int} (ra1 : rng a1) (hW : WR shF S) (h : M_X12_takeSign a1 S = some (r, S')) : zV shF yX12_takeSign cX12_takeSign 2 2 [aR 51, aI a1] S S' := by
  refine zV_of (by decide +kernel) (Nat.le_of_ble_eq_true rfl) (fun z hz hN hF => ?_)
  have hz : zO z cX12_takeSign RX12 2 shF := hz
  show zA z 0 [(0, aR 51), (1, aI a1)] [] S
  unfold M_X12_takeSign at h
  refine s_aload_n 0 hz dX12_takeSign_0 rfl ?_
  refine s_iload_n 1 hz dX12_takeSign_1 rfl ?_
  obtain ⟨r1, S2, hc2, h⟩ := zb_of h
  refine s_callV [aI a1] [] hz ml_X12_197 sv_yX12_isSign (T_X12_isSign ra1 hW hc2) (by decide) rfl sf51 rfl rfl (Nat.le_of_ble_eq_true rfl) dX12_takeSign_2 (fun rr1 hW2 => ?_)
  refine s_if_eq 21 hz rr1 dX12_takeSign_5 rfl (fun c3 => ?_) (fun c3 => ?_)
  · have h := zif_t c3 h
    refine s_aload_n 0 hz dX12_takeSign_21 rfl ?_
    refine s_iconst hz dX12_takeSign_22 ?_
    obtain ⟨r4, S5, hc5, h⟩ := zb_of h
    refine s_callVv [aI 1] [] hz ml_X12_200 sv_yX12_wrong (T_X12_wrong rl_1 hW2 hc5) (by decide) rfl sf51 rfl rfl (Nat.le_of_ble_eq_true rfl) dX12_takeSign_23 (fun hW5 => ?_)
    exact s_vret h hz hF hW5 dX12_takeSign_26
  · have h := zif_f c3 h
    refine s_aload_n 0 hz dX12_takeSign_8 rfl ?_
    refine s_dup hz rfl dX12_takeSign_9 ?_
    refine s_getI (kz := 7) 7 hz fl_X12_191 sf51 rfl rfl dX12_takeSign_10 ?_
    refine s_iconst hz dX12_takeSign_13 ?_
    refine s_iadd hz dX12_takeSign_14 ?_
    obtain ⟨x6, ex6, rx6, h⟩ := zl_ex h
    rw [← ex6]
    obtain ⟨S7, eS7, h⟩ := zs_ex h
    have hW7 : WR shF S7 := by rw [eS7]; exact hW2.up (i := 7) sf51 (v := x6) rx6
    refine s_putI (kz := 7) 7 hz fp_X12_191 sf51 rfl rfl dX12_takeSign_15 ?_
    rw [← eS7]
    refine s_goto 26 hz dX12_takeSign_18 rfl ?_
    exact s_vret h hz hF hW7 dX12_takeSign_26
def J_X12_takeNumber_70 (S : HS) : zO2 :=
  if S 51 8 ≤ 0 then (
    zl ((S 51 7) + 1) fun x4 =>
    zs (up S 51 7 x4) fun S5 =>
    zg ((0 : Int) ≤ (S5 51 7) - 1 ∧ (S5 51 7) - 1 < 1002) <|
    some (zl2i (S5 55 ((S5 51 7) - 1)), S5))
  else (
    some (0, S))
set_option maxHeartbeats 4000000 in
set_option maxRecDepth 20000 in
theorem TJ_X12_takeNumber_70 {S : HS} {r : Int} {S' : HS} {z : Zt} (hz : zO z cX12_takeNumber RX12 2 shF) (hN : zN z 3) (hF : zFi z shF .int r S') (hW : WR shF S) (h : J_X12_takeNumber_70 S = some (r, S')) : zA z 70 [(0, aR 51)] [] S := by
  unfold J_X12_takeNumber_70 at h
  refine s_aload_n 0 hz dX12_takeNumber_70 rfl ?_
  refine s_getI (kz := 8) 8 hz fl_X12_194 sf51 rfl rfl dX12_takeNumber_71 ?_
  refine s_if_le 79 hz (hW 51 _ sf51 8) dX12_takeNumber_74 rfl (fun c3 => ?_) (fun c3 => ?_)
  · have h := zif_t c3 h
    refine s_aload_n 0 hz dX12_takeNumber_79 rfl ?_
    refine s_dup hz rfl dX12_takeNumber_80 ?_
    refine s_getI (kz := 7) 7 hz fl_X12_191 sf51 rfl rfl dX12_takeNumber_81 ?_
    refine s_iconst hz dX12_takeNumber_84 ?_
    refine s_iadd hz dX12_takeNumber_85 ?_
    obtain ⟨x4, ex4, rx4, h⟩ := zl_ex h
    rw [← ex4]
    obtain ⟨S5, eS5, h⟩ := zs_ex h
    have hW5 : WR shF S5 := by rw [eS5]; exact hW.up (i := 7) sf51 (v := x4) rx4
    refine s_putI (kz := 7) 7 hz fp_X12_191 sf51 rfl rfl dX12_takeNumber_86 ?_
    rw [← eS5]
    refine s_aload_n 0 hz dX12_takeNumber_89 rfl ?_
    refine s_getR 6 hz fl_X12_30 sf51 rfl (by decide) dX12_takeNumber_90 ?_
    refine s_aload_n 0 hz dX12_takeNumber_93 rfl ?_
    refine s_getI (kz := 7) 7 hz fl_X12_191 sf51 rfl rfl dX12_takeNumber_94 ?_
    refine s_iconst hz dX12_takeNumber_97 ?_
    refine s_isub hz dX12_takeNumber_98 ?_
    obtain ⟨g6, h⟩ := zg_of h
    refine s_lald hz sf55 rfl (by decide) g6 dX12_takeNumber_99 ?_
    refine s_l2i hz dX12_takeNumber_100 ?_
    exact s_iret h hz hF zl2i_r hW5 dX12_takeNumber_101
  · have h := zif_f c3 h
    refine s_iconst hz dX12_takeNumber_77 ?_
    exact s_iret h hz hF rl_0 hW dX12_takeNumber_78
def J_X12_takeNumber_65 (S : HS) : zO2 :=
  zb (M_X12_wrong 4 S) fun _ S10 =>
  J_X12_takeNumber_70 S10
set_option maxHeartbeats 4000000 in
set_option maxRecDepth 20000 in
theorem TJ_X12_takeNumber_65 {S : HS} {r : Int} {S' : HS} {z : Zt} (hz : zO z cX12_takeNumber RX12 2 shF) (hN : zN z 3) (hF : zFi z shF .int r S') (hW : WR shF S) (h : J_X12_takeNumber_65 S = some (r, S')) : zA z 65 [(0, aR 51)] [] S := by
  unfold J_X12_takeNumber_65 at h
  refine s_aload_n 0 hz dX12_takeNumber_65 rfl ?_
  refine s_iconst hz dX12_takeNumber_66 ?_
  obtain ⟨r9, S10, hc10, h⟩ := zb_of h
  refine s_callVv [aI 4] [] hz ml_X12_200 sv_yX12_wrong (T_X12_wrong rl_4 hW hc10) (by decide) rfl sf51 rfl rfl (Nat.le_of_ble_eq_true rfl) dX12_takeNumber_67 (fun hW10 => ?_)
  exact TJ_X12_takeNumber_70 hz hN hF hW10 h
def J_X12_takeNumber_28 (v1 : Int) (v2 : Int) (S : HS) : zO2 :=
  if S 51 8 = 0 then (
    zg ((0 : Int) ≤ S 51 7 ∧ S 51 7 < 1002) <|
    if zcmp (S 55 (S 51 7)) v1 < 0 then (
      J_X12_takeNumber_65 S)
    else (
      zg ((0 : Int) ≤ S 51 7 ∧ S 51 7 < 1002) <|
      if zcmp (S 55 (S 51 7)) v2 ≤ 0 then (
        J_X12_takeNumber_70 S)
      else (
        J_X12_takeNumber_65 S)))
  else (
    J_X12_takeNumber_70 S)
set_option maxHeartbeats 4000000 in
set_option maxRecDepth 20000 in
theorem TJ_X12_takeNumber_28 {v1 : Int} {v2 : Int} {S : HS} {r : Int} {S' : HS} {z : Zt} (hz : zO z cX12_takeNumber RX12 2 shF) (hN : zN z 3) (hF : zFi z shF .int r S') (rv1 : rng v1) (rv2 : rng v2) (hW : WR shF S) (h : J_X12_takeNumber_28 v1 v2 S = some (r, S')) : zA z 28 [(0, aR 51), (1, aI v1), (2, aI v2)] [] S := by
  unfold J_X12_takeNumber_28 at h
  refine s_aload_n 0 hz dX12_takeNumber_28 rfl ?_
  refine s_getI (kz := 8) 8 hz fl_X12_194 sf51 rfl rfl dX12_takeNumber_29 ?_
  refine s_if_ne 70 hz (hW 51 _ sf51 8) dX12_takeNumber_32 rfl (fun c2 => ?_) (fun c2 => ?_)
  · have h := zif_f c2 h
    refine s_pick (l' := [(0, aR 51)]) [0] rfl ?_
    exact TJ_X12_takeNumber_70 hz hN hF hW h
  · have h := zif_t c2 h
    refine s_aload_n 0 hz dX12_takeNumber_35 rfl ?_
    refine s_getR 6 hz fl_X12_30 sf51 rfl (by decide) dX12_takeNumber_36 ?_
    refine s_aload_n 0 hz dX12_takeNumber_39 rfl ?_
    refine s_getI (kz := 7) 7 hz fl_X12_191 sf51 rfl rfl dX12_takeNumber_40 ?_
    obtain ⟨g7, h⟩ := zg_of h
    refine s_lald hz sf55 rfl (by decide) g7 dX12_takeNumber_43 ?_
    refine s_iload_n 1 hz dX12_takeNumber_44 rfl ?_
    refine s_i2l hz rv1 dX12_takeNumber_45 ?_
    refine s_lcmp hz (hW 55 _ sf55 (S 51 7)) (z_ri rv1) dX12_takeNumber_46 ?_
    refine s_if_lt 65 hz zcmp_r dX12_takeNumber_47 rfl (fun c8 => ?_) (fun c8 => ?_)
    · have h := zif_t c8 h
      refine s_pick (l' := [(0, aR 51)]) [0] rfl ?_
      exact TJ_X12_takeNumber_65 hz hN hF hW h
    · have h := zif_f c8 h
      refine s_aload_n 0 hz dX12_takeNumber_50 rfl ?_
      refine s_getR 6 hz fl_X12_30 sf51 rfl (by decide) dX12_takeNumber_51 ?_
      refine s_aload_n 0 hz dX12_takeNumber_54 rfl ?_
      refine s_getI (kz := 7) 7 hz fl_X12_191 sf51 rfl rfl dX12_takeNumber_55 ?_
      obtain ⟨g11, h⟩ := zg_of h
      refine s_lald hz sf55 rfl (by decide) g11 dX12_takeNumber_58 ?_
      refine s_iload_n 2 hz dX12_takeNumber_59 rfl ?_
      refine s_i2l hz rv2 dX12_takeNumber_60 ?_
      refine s_lcmp hz (hW 55 _ sf55 (S 51 7)) (z_ri rv2) dX12_takeNumber_61 ?_
      refine s_if_le 70 hz zcmp_r dX12_takeNumber_62 rfl (fun c12 => ?_) (fun c12 => ?_)
      · have h := zif_t c12 h
        refine s_pick (l' := [(0, aR 51)]) [0] rfl ?_
        exact TJ_X12_takeNumber_70 hz hN hF hW h
      · have h := zif_f c12 h
        refine s_pick (l' := [(0, aR 51)]) [0] rfl ?_
        exact TJ_X12_takeNumber_65 hz hN hF hW h
def M_X12_takeNumber (a1 : Int) (a2 : Int) (S : HS) : zO2 :=
  if S 51 8 = 0 then (
    zg ((0 : Int) ≤ S 51 7 ∧ S 51 7 < 1002) <|
    if S 53 (S 51 7) = 2 then (
      J_X12_takeNumber_28 a1 a2 S)
    else (
      zb (M_X12_wrong 1 S) fun _ S16 =>
      J_X12_takeNumber_70 S16))
  else (
    J_X12_takeNumber_28 a1 a2 S)
set_option maxHeartbeats 4000000 in
set_option maxRecDepth 20000 in
theorem T_X12_takeNumber {a1 : Int} {a2 : Int} {S S' : HS} {r : Int} (ra1 : rng a1) (ra2 : rng a2) (hW : WR shF S) (h : M_X12_takeNumber a1 a2 S = some (r, S')) : zR shF yX12_takeNumber cX12_takeNumber 3  .int 2 [aR 51, aI a1, aI a2] S r S' := by
  refine zR_of (by decide +kernel) (Nat.le_of_ble_eq_true rfl) (fun z hz hN hF => ?_)
  have hz : zO z cX12_takeNumber RX12 2 shF := hz
  show zA z 0 [(0, aR 51), (1, aI a1), (2, aI a2)] [] S
  unfold M_X12_takeNumber at h
  refine s_aload_n 0 hz dX12_takeNumber_0 rfl ?_
  refine s_getI (kz := 8) 8 hz fl_X12_194 sf51 rfl rfl dX12_takeNumber_1 ?_
  refine s_if_ne 28 hz (hW 51 _ sf51 8) dX12_takeNumber_4 rfl (fun c1 => ?_) (fun c1 => ?_)
  · have h := zif_f c1 h
    exact TJ_X12_takeNumber_28 hz hN hF ra1 ra2 hW h
  · have h := zif_t c1 h
    refine s_aload_n 0 hz dX12_takeNumber_7 rfl ?_
    refine s_getR 4 hz fl_X12_24 sf51 rfl (by decide) dX12_takeNumber_8 ?_
    refine s_aload_n 0 hz dX12_takeNumber_11 rfl ?_
    refine s_getI (kz := 7) 7 hz fl_X12_191 sf51 rfl rfl dX12_takeNumber_12 ?_
    obtain ⟨g13, h⟩ := zg_of h
    refine s_iald hz sf53 rfl (by decide) g13 dX12_takeNumber_15 ?_
    refine s_iconst hz dX12_takeNumber_16 ?_
    refine s_icmp_eq 28 hz (hW 53 _ sf53 (S 51 7)) rl_2 dX12_takeNumber_17 rfl (fun c14 => ?_) (fun c14 => ?_)
    · have h := zif_t c14 h
      exact TJ_X12_takeNumber_28 hz hN hF ra1 ra2 hW h
    · have h := zif_f c14 h
      refine s_aload_n 0 hz dX12_takeNumber_20 rfl ?_
      refine s_iconst hz dX12_takeNumber_21 ?_
      obtain ⟨r15, S16, hc16, h⟩ := zb_of h
      refine s_callVv [aI 1] [] hz ml_X12_200 sv_yX12_wrong (T_X12_wrong rl_1 hW hc16) (by decide) rfl sf51 rfl rfl (Nat.le_of_ble_eq_true rfl) dX12_takeNumber_22 (fun hW16 => ?_)
      refine s_goto 70 hz dX12_takeNumber_25 rfl ?_
      refine s_pick (l' := [(0, aR 51)]) [0] rfl ?_
      exact TJ_X12_takeNumber_70 hz hN hF hW16 h
def L_X12_wayWord_2 : Nat → Int → HS → zO2
  | 0, _, _ => none
  | n + 1, v1, S => 
    if 7 < v1 then (
      some ((-1), S))
    else (
      zb (M_X12_isWord v1 S) fun r2 S3 =>
      if r2 = 0 then (
        zl (v1 + 1) fun x5 =>
        L_X12_wayWord_2 n x5 S3)
      else (
        some (v1, S3)))
set_option maxHeartbeats 4000000 in
set_option maxRecDepth 20000 in
theorem TL_X12_wayWord_2 {r : Int} {S' : HS} {z : Zt} (hz : zO z cX12_wayWord RX12 2 shF) (hN : zN z 2) (hF : zFi z shF .int r S') : ∀ (n : Nat) {v1 : Int} {S : HS}, rng v1 → WR shF S → L_X12_wayWord_2 n v1 S = some (r, S') → zA z 2 [(0, aR 51), (1, aI v1)] [] S := by
  intro n
  induction n with
  | zero =>
    intro _ _ _ _ h
    cases h
  | succ n ih =>
    intro v1 S rv1 hW h
    rw [L_X12_wayWord_2.eq_2] at h
    refine s_iload_n 1 hz dX12_wayWord_2 rfl ?_
    refine s_bipush hz dX12_wayWord_3 bp_7 ?_
    refine s_icmp_gt 24 hz rv1 rl_7 dX12_wayWord_5 rfl (fun c1 => ?_) (fun c1 => ?_)
    · have h := zif_t c1 h
      refine s_iconst hz dX12_wayWord_24 ?_
      exact s_iret h hz hF rl_m1 hW dX12_wayWord_25
    · have h := zif_f c1 h
      refine s_aload_n 0 hz dX12_wayWord_8 rfl ?_
      refine s_iload_n 1 hz dX12_wayWord_9 rfl ?_
      obtain ⟨r2, S3, hc3, h⟩ := zb_of h
      refine s_callV [aI v1] [] hz ml_X12_204 sv_yX12_isWord (T_X12_isWord rv1 hW hc3) (by decide) rfl sf51 rfl rfl (Nat.le_of_ble_eq_true rfl) dX12_wayWord_10 (fun rr2 hW3 => ?_)
      refine s_if_eq 18 hz rr2 dX12_wayWord_13 rfl (fun c4 => ?_) (fun c4 => ?_)
      · have h := zif_t c4 h
        obtain ⟨x5, ex5, rx5, h⟩ := zl_ex h
        refine s_iinc (k0 := 1) (y := x5) (l' := [(1, aI x5), (0, aR 51)]) hz hN dX12_wayWord_18 rfl ex5.symm (by decide) rfl ?_
        refine s_goto 2 hz dX12_wayWord_21 rfl ?_
        refine s_pick (l' := [(0, aR 51), (1, aI x5)]) [1, 0] rfl ?_
        exact ih rx5 hW3 h
      · have h := zif_f c4 h
        refine s_iload_n 1 hz dX12_wayWord_16 rfl ?_
        exact s_iret h hz hF rv1 hW3 dX12_wayWord_17
def M_X12_wayWord (S : HS) : zO2 :=
  L_X12_wayWord_2 zBig 4 S
set_option maxHeartbeats 4000000 in
set_option maxRecDepth 20000 in
theorem T_X12_wayWord {S S' : HS} {r : Int} (hW : WR shF S) (h : M_X12_wayWord S = some (r, S')) : zR shF yX12_wayWord cX12_wayWord 2  .int 2 [aR 51] S r S' := by
  refine zR_of (by decide +kernel) (Nat.le_of_ble_eq_true rfl) (fun z hz hN hF => ?_)
  have hz : zO z cX12_wayWord RX12 2 shF := hz
  show zA z 0 [(0, aR 51)] [] S
  unfold M_X12_wayWord at h
  refine s_iconst hz dX12_wayWord_0 ?_
  refine s_istore_n (l' := [(1, aI 4), (0, aR 51)]) hz hN dX12_wayWord_1 (by decide) rfl ?_
  refine s_pick (l' := [(0, aR 51), (1, aI 4)]) [1, 0] rfl ?_
  exact TL_X12_wayWord_2 hz hN hF zBig rl_4 hW h
def J_X12_readWay_80 (t0 : Int) (S : HS) : zO2 :=
  zs (up S 51 16 t0) fun S13 =>
  some (0, S13)
set_option maxHeartbeats 4000000 in
set_option maxRecDepth 20000 in
theorem TJ_X12_readWay_80 {t0 : Int} {S : HS} {r : Int} {S' : HS} {z : Zt} (hz : zO z cX12_readWay RX12 3 shF) (hN : zN z 3) (hF : zFv z shF S') (rt0 : rng t0) (hW : WR shF S) (h : J_X12_readWay_80 t0 S = some (r, S')) : zA z 80 [] [aI t0, aR 51] S := by
  unfold J_X12_readWay_80 at h
  obtain ⟨S13, eS13, h⟩ := zs_ex h
  have hW13 : WR shF S13 := by rw [eS13]; exact hW.up (i := 16) sf51 (v := t0) rt0
  refine s_putI (kz := 16) 16 hz fp_X12_224 sf51 rfl rfl dX12_readWay_80 ?_
  rw [← eS13]
  exact s_vret h hz hF hW13 dX12_readWay_83
def J_X12_readWay_56 (v1 : Int) (v2 : Int) (t0 : Int) (S : HS) : zO2 :=
  zs (up S 51 15 t0) fun S10 =>
  if v1 = 4 then (
    zl (-v2) fun x14 =>
    J_X12_readWay_80 x14 S10)
  else (
    if v1 = 5 then (
      J_X12_readWay_80 v2 S10)
    else (
      J_X12_readWay_80 0 S10))
set_option maxHeartbeats 4000000 in
set_option maxRecDepth 20000 in
theorem TJ_X12_readWay_56 {v1 : Int} {v2 : Int} {t0 : Int} {S : HS} {r : Int} {S' : HS} {z : Zt} (hz : zO z cX12_readWay RX12 3 shF) (hN : zN z 3) (hF : zFv z shF S') (rv1 : rng v1) (rv2 : rng v2) (rt0 : rng t0) (hW : WR shF S) (h : J_X12_readWay_56 v1 v2 t0 S = some (r, S')) : zA z 56 [(0, aR 51), (1, aI v1), (2, aI v2)] [aI t0, aR 51] S := by
  unfold J_X12_readWay_56 at h
  obtain ⟨S10, eS10, h⟩ := zs_ex h
  have hW10 : WR shF S10 := by rw [eS10]; exact hW.up (i := 15) sf51 (v := t0) rt0
  refine s_putI (kz := 15) 15 hz fp_X12_221 sf51 rfl rfl dX12_readWay_56 ?_
  rw [← eS10]
  refine s_aload_n 0 hz dX12_readWay_59 rfl ?_
  refine s_iload_n 1 hz dX12_readWay_60 rfl ?_
  refine s_iconst hz dX12_readWay_61 ?_
  refine s_icmp_ne 70 hz rv1 rl_4 dX12_readWay_62 rfl (fun c11 => ?_) (fun c11 => ?_)
  · have h := zif_f c11 h
    refine s_iload_n 1 hz dX12_readWay_70 rfl ?_
    refine s_iconst hz dX12_readWay_71 ?_
    refine s_icmp_ne 79 hz rv1 rl_5 dX12_readWay_72 rfl (fun c12 => ?_) (fun c12 => ?_)
    · have h := zif_f c12 h
      refine s_iconst hz dX12_readWay_79 ?_
      refine s_pick (l' := []) [] rfl ?_
      exact TJ_X12_readWay_80 hz hN hF rl_0 hW10 h
    · have h := zif_t c12 h
      refine s_iload_n 2 hz dX12_readWay_75 rfl ?_
      refine s_goto 80 hz dX12_readWay_76 rfl ?_
      refine s_pick (l' := []) [] rfl ?_
      exact TJ_X12_readWay_80 hz hN hF rv2 hW10 h
  · have h := zif_t c11 h
    refine s_iload_n 2 hz dX12_readWay_65 rfl ?_
    refine s_ineg hz dX12_readWay_66 ?_
    refine s_goto 80 hz dX12_readWay_67 rfl ?_
    obtain ⟨x14, ex14, rx14, h⟩ := zl_ex h
    rw [← ex14]
    refine s_pick (l' := []) [] rfl ?_
    exact TJ_X12_readWay_80 hz hN hF rx14 hW10 h
def M_X12_readWay (S : HS) : zO2 :=
  zb (M_X12_wayWord S) fun r1 S2 =>
  if 0 ≤ r1 then (
    zl ((S2 51 7) + 1) fun x4 =>
    zs (up S2 51 7 x4) fun S5 =>
    zb (M_X12_takeNumber 0 16 S5) fun r6 S7 =>
    if r1 = 6 then (
      zl (-r6) fun x15 =>
      J_X12_readWay_56 r1 r6 x15 S7)
    else (
      if r1 = 7 then (
        J_X12_readWay_56 r1 r6 r6 S7)
      else (
        J_X12_readWay_56 r1 r6 0 S7)))
  else (
    zb (M_X12_wrong 1 S2) fun _ S17 =>
    some (0, S17))
set_option maxHeartbeats 4000000 in
set_option maxRecDepth 20000 in
theorem T_X12_readWay {S S' : HS} {r : Int} (hW : WR shF S) (h : M_X12_readWay S = some (r, S')) : zV shF yX12_readWay cX12_readWay 3 3 [aR 51] S S' := by
  refine zV_of (by decide +kernel) (Nat.le_of_ble_eq_true rfl) (fun z hz hN hF => ?_)
  have hz : zO z cX12_readWay RX12 3 shF := hz
  show zA z 0 [(0, aR 51)] [] S
  unfold M_X12_readWay at h
  refine s_aload_n 0 hz dX12_readWay_0 rfl ?_
  obtain ⟨r1, S2, hc2, h⟩ := zb_of h
  refine s_callV [] [] hz ml_X12_213 sv_yX12_wayWord (T_X12_wayWord hW hc2) (by decide) rfl sf51 rfl rfl (Nat.le_of_ble_eq_true rfl) dX12_readWay_1 (fun rr1 hW2 => ?_)
  refine s_istore_n (l' := [(1, aI r1), (0, aR 51)]) hz hN dX12_readWay_4 (by decide) rfl ?_
  refine s_iload_n 0 hz dX12_readWay_5 rfl ?_
  refine s_if_ge 15 hz rr1 dX12_readWay_6 rfl (fun c3 => ?_) (fun c3 => ?_)
  · have h := zif_t c3 h
    refine s_aload_n 1 hz dX12_readWay_15 rfl ?_
    refine s_dup hz rfl dX12_readWay_16 ?_
    refine s_getI (kz := 7) 7 hz fl_X12_191 sf51 rfl rfl dX12_readWay_17 ?_
    refine s_iconst hz dX12_readWay_20 ?_
    refine s_iadd hz dX12_readWay_21 ?_
    obtain ⟨x4, ex4, rx4, h⟩ := zl_ex h
    rw [← ex4]
    obtain ⟨S5, eS5, h⟩ := zs_ex h
    have hW5 : WR shF S5 := by rw [eS5]; exact hW2.up (i := 7) sf51 (v := x4) rx4
    refine s_putI (kz := 7) 7 hz fp_X12_191 sf51 rfl rfl dX12_readWay_22 ?_
    rw [← eS5]
    refine s_aload_n 1 hz dX12_readWay_25 rfl ?_
    refine s_iconst hz dX12_readWay_26 ?_
    refine s_bipush hz dX12_readWay_27 bp_16 ?_
    obtain ⟨r6, S7, hc7, h⟩ := zb_of h
    refine s_callV [aI 0, aI 16] [] hz ml_X12_217 sv_yX12_takeNumber (T_X12_takeNumber rl_0 rl_16 hW5 hc7) (by decide) rfl sf51 rfl rfl (Nat.le_of_ble_eq_true rfl) dX12_readWay_29 (fun rr6 hW7 => ?_)
    refine s_istore_n (l' := [(2, aI r6), (1, aI r1), (0, aR 51)]) hz hN dX12_readWay_32 (by decide) rfl ?_
    refine s_aload_n 2 hz dX12_readWay_33 rfl ?_
    refine s_iload_n 1 hz dX12_readWay_34 rfl ?_
    refine s_bipush hz dX12_readWay_35 bp_6 ?_
    refine s_icmp_ne 45 hz rr1 rl_6 dX12_readWay_37 rfl (fun c8 => ?_) (fun c8 => ?_)
    · have h := zif_f c8 h
      refine s_iload_n 1 hz dX12_readWay_45 rfl ?_
      refine s_bipush hz dX12_readWay_46 bp_7 ?_
      refine s_icmp_ne 55 hz rr1 rl_7 dX12_readWay_48 rfl (fun c9 => ?_) (fun c9 => ?_)
      · have h := zif_f c9 h
        refine s_iconst hz dX12_readWay_55 ?_
        refine s_pick (l' := [(0, aR 51), (1, aI r1), (2, aI r6)]) [2, 1, 0] rfl ?_
        exact TJ_X12_readWay_56 hz hN hF rr1 rr6 rl_0 hW7 h
      · have h := zif_t c9 h
        refine s_iload_n 0 hz dX12_readWay_51 rfl ?_
        refine s_goto 56 hz dX12_readWay_52 rfl ?_
        refine s_pick (l' := [(0, aR 51), (1, aI r1), (2, aI r6)]) [2, 1, 0] rfl ?_
        exact TJ_X12_readWay_56 hz hN hF rr1 rr6 rr6 hW7 h
    · have h := zif_t c8 h
      refine s_iload_n 0 hz dX12_readWay_40 rfl ?_
      refine s_ineg hz dX12_readWay_41 ?_
      refine s_goto 56 hz dX12_readWay_42 rfl ?_
      obtain ⟨x15, ex15, rx15, h⟩ := zl_ex h
      rw [← ex15]
      refine s_pick (l' := [(0, aR 51), (1, aI r1), (2, aI r6)]) [2, 1, 0] rfl ?_
      exact TJ_X12_readWay_56 hz hN hF rr1 rr6 rx15 hW7 h
  · have h := zif_f c3 h
    refine s_aload_n 1 hz dX12_readWay_9 rfl ?_
    refine s_iconst hz dX12_readWay_10 ?_
    obtain ⟨r16, S17, hc17, h⟩ := zb_of h
    refine s_callVv [aI 1] [] hz ml_X12_200 sv_yX12_wrong (T_X12_wrong rl_1 hW2 hc17) (by decide) rfl sf51 rfl rfl (Nat.le_of_ble_eq_true rfl) dX12_readWay_11 (fun hW17 => ?_)
    exact s_vret h hz hF hW17 dX12_readWay_14
def J_X12_isStep_26 (k4 : Int → Int → HS → zO2) (v2 : Int) (t0 : Int) (S : HS) : zO2 :=
  zl (v2 + 1) fun x4 =>
  k4 t0 x4 S
set_option maxHeartbeats 4000000 in
set_option maxRecDepth 20000 in
theorem TJ_X12_isStep_26 {k4 : Int → Int → HS → zO2} {v2 : Int} {t0 : Int} {S : HS} {r : Int} {S' : HS} {z : Zt} (hz : zO z cX12_isStep RX12 2 shF) (hN : zN z 3) (hF : zFi z shF .boolean r S') (hk4 : ∀ (w1 w2 : Int) (S : HS), rng w1 → rng w2 → WR shF S → k4 w1 w2 S = some (r, S') → zA z 4 [(0, aR 51), (1, aI w1), (2, aI w2)] [] S) (rv2 : rng v2) (rt0 : rng t0) (hW : WR shF S) (h : J_X12_isStep_26 k4 v2 t0 S = some (r, S')) : zA z 26 [(0, aR 51), (2, aI v2)] [aI t0] S := by
  unfold J_X12_isStep_26 at h
  refine s_istore_n (l' := [(1, aI t0), (0, aR 51), (2, aI v2)]) hz hN dX12_isStep_26 (by decide) rfl ?_
  obtain ⟨x4, ex4, rx4, h⟩ := zl_ex h
  refine s_iinc (k0 := 2) (y := x4) (l' := [(2, aI x4), (1, aI t0), (0, aR 51)]) hz hN dX12_isStep_27 rfl ex4.symm (by decide) rfl ?_
  refine s_goto 4 hz dX12_isStep_30 rfl ?_
  refine s_pick (l' := [(0, aR 51), (1, aI t0), (2, aI x4)]) [2, 1, 0] rfl ?_
  exact hk4 _ _ _ rt0 rx4 hW h
def J_X12_isStep_21 (k4 : Int → Int → HS → zO2) (v2 : Int) (S : HS) : zO2 :=
  J_X12_isStep_26 k4 v2 1 S
set_option maxHeartbeats 4000000 in
set_option maxRecDepth 20000 in
theorem TJ_X12_isStep_21 {k4 : Int → Int → HS → zO2} {v2 : Int} {S : HS} {r : Int} {S' : HS} {z : Zt} (hz : zO z cX12_isStep RX12 2 shF) (hN : zN z 3) (hF : zFi z shF .boolean r S') (hk4 : ∀ (w1 w2 : Int) (S : HS), rng w1 → rng w2 → WR shF S → k4 w1 w2 S = some (r, S') → zA z 4 [(0, aR 51), (1, aI w1), (2, aI w2)] [] S) (rv2 : rng v2) (hW : WR shF S) (h : J_X12_isStep_21 k4 v2 S = some (r, S')) : zA z 21 [(0, aR 51), (2, aI v2)] [] S := by
  unfold J_X12_isStep_21 at h
  refine s_iconst hz dX12_isStep_21 ?_
  refine s_goto 26 hz dX12_isStep_22 rfl ?_
  exact TJ_X12_isStep_26 hz hN hF hk4 rv2 rl_1 hW h
def L_X12_isStep_4 : Nat → Int → Int → HS → zO2
  | 0, _, _, _ => none
  | n + 1, v1, v2, S => 
    if 3 < v2 then (
      zg (v1 = 0 ∨ v1 = 1) <|
      some (v1, S))
    else (
      if v1 = 0 then (
        zb (M_X12_isWord v2 S) fun r5 S6 =>
        if r5 = 0 then (
          J_X12_isStep_26 (L_X12_isStep_4 n) v2 0 S6)
        else (
          J_X12_isStep_21 (L_X12_isStep_4 n) v2 S6))
      else (
        J_X12_isStep_21 (L_X12_isStep_4 n) v2 S))
set_option maxHeartbeats 4000000 in
set_option maxRecDepth 20000 in
theorem TL_X12_isStep_4 {r : Int} {S' : HS} {z : Zt} (hz : zO z cX12_isStep RX12 2 shF) (hN : zN z 3) (hF : zFi z shF .boolean r S') : ∀ (n : Nat) {v1 : Int} {v2 : Int} {S : HS}, rng v1 → rng v2 → WR shF S → L_X12_isStep_4 n v1 v2 S = some (r, S') → zA z 4 [(0, aR 51), (1, aI v1), (2, aI v2)] [] S := by
  intro n
  induction n with
  | zero =>
    intro _ _ _ _ _ _ h
    cases h
  | succ n ih =>
    intro v1 v2 S rv1 rv2 hW h
    rw [L_X12_isStep_4.eq_2] at h
    refine s_iload_n 2 hz dX12_isStep_4 rfl ?_
    refine s_iconst hz dX12_isStep_5 ?_
    refine s_icmp_gt 33 hz rv2 rl_3 dX12_isStep_6 rfl (fun c1 => ?_) (fun c1 => ?_)
    · have h := zif_t c1 h
      refine s_iload_n 1 hz dX12_isStep_33 rfl ?_
      obtain ⟨g2, h⟩ := zg_of h
      exact s_zret h hz hF g2 hW dX12_isStep_34
    · have h := zif_f c1 h
      refine s_iload_n 1 hz dX12_isStep_9 rfl ?_
      refine s_if_ne 21 hz rv1 dX12_isStep_10 rfl (fun c3 => ?_) (fun c3 => ?_)
      · have h := zif_f c3 h
        refine s_pick (l' := [(0, aR 51), (2, aI v2)]) [0, 2] rfl ?_
        exact TJ_X12_isStep_21 hz hN hF (fun _ _ _ => ih) rv2 hW h
      · have h := zif_t c3 h
        refine s_aload_n 0 hz dX12_isStep_13 rfl ?_
        refine s_iload_n 2 hz dX12_isStep_14 rfl ?_
        obtain ⟨r5, S6, hc6, h⟩ := zb_of h
        refine s_callV [aI v2] [] hz ml_X12_204 sv_yX12_isWord (T_X12_isWord rv2 hW hc6) (by decide) rfl sf51 rfl rfl (Nat.le_of_ble_eq_true rfl) dX12_isStep_15 (fun rr5 hW6 => ?_)
        refine s_if_eq 25 hz rr5 dX12_isStep_18 rfl (fun c7 => ?_) (fun c7 => ?_)
        · have h := zif_t c7 h
          refine s_iconst hz dX12_isStep_25 ?_
          refine s_pick (l' := [(0, aR 51), (2, aI v2)]) [0, 2] rfl ?_
          exact TJ_X12_isStep_26 hz hN hF (fun _ _ _ => ih) rv2 rl_0 hW6 h
        · have h := zif_f c7 h
          refine s_pick (l' := [(0, aR 51), (2, aI v2)]) [0, 2] rfl ?_
          exact TJ_X12_isStep_21 hz hN hF (fun _ _ _ => ih) rv2 hW6 h
def M_X12_isStep (S : HS) : zO2 :=
  L_X12_isStep_4 zBig 0 0 S
set_option maxHeartbeats 4000000 in
set_option maxRecDepth 20000 in
theorem T_X12_isStep {S S' : HS} {r : Int} (hW : WR shF S) (h : M_X12_isStep S = some (r, S')) : zR shF yX12_isStep cX12_isStep 3  .boolean 2 [aR 51] S r S' := by
  refine zR_of (by decide +kernel) (Nat.le_of_ble_eq_true rfl) (fun z hz hN hF => ?_)
  have hz : zO z cX12_isStep RX12 2 shF := hz
  show zA z 0 [(0, aR 51)] [] S
  unfold M_X12_isStep at h
  refine s_iconst hz dX12_isStep_0 ?_
  refine s_istore_n (l' := [(1, aI 0), (0, aR 51)]) hz hN dX12_isStep_1 (by decide) rfl ?_
  refine s_iconst hz dX12_isStep_2 ?_
  refine s_istore_n (l' := [(2, aI 0), (1, aI 0), (0, aR 51)]) hz hN dX12_isStep_3 (by decide) rfl ?_
  refine s_pick (l' := [(0, aR 51), (1, aI 0), (2, aI 0)]) [2, 1, 0] rfl ?_
  exact TL_X12_isStep_4 hz hN hF zBig rl_0 rl_0 hW h
def L_X12_readLine_86 (k115 : HS → zO2) (p4 : Int) : Nat → HS → zO2
  | 0, _ => none
  | n + 1, S => 
    zb (M_X12_wayWord S) fun r18 S19 =>
    if r18 < 0 then (
      k115 S19)
    else (
      zb (M_X12_readWay S19) fun _ S22 =>
      zb (M_X12_emit 4 (S22 51 15) (S22 51 16) S22) fun r23 S24 =>
      L_X12_readLine_86 k115 p4 n S24)
set_option maxHeartbeats 4000000 in
set_option maxRecDepth 20000 in
theorem TL_X12_readLine_86 {k115 : HS → zO2} {p4 : Int} {r : Int} {S' : HS} {z : Zt} (hz : zO z cX12_readLine RX12 4 shF) (hN : zN z 6) (hF : zFv z shF S') (hk115 : ∀ (S : HS), WR shF S → k115 S = some (r, S') → zA z 115 [(0, aR 51), (4, aI p4)] [] S) (rp4 : rng p4) : ∀ (n : Nat) {S : HS}, WR shF S → L_X12_readLine_86 k115 p4 n S = some (r, S') → zA z 86 [(0, aR 51), (4, aI p4)] [] S := by
  intro n
  induction n with
  | zero =>
    intro _ _ h
    cases h
  | succ n ih =>
    intro S hW h
    rw [L_X12_readLine_86.eq_2] at h
    refine s_aload_n 0 hz dX12_readLine_86 rfl ?_
    obtain ⟨r18, S19, hc19, h⟩ := zb_of h
    refine s_callV [] [] hz ml_X12_213 sv_yX12_wayWord (T_X12_wayWord hW hc19) (by decide) rfl sf51 rfl rfl (Nat.le_of_ble_eq_true rfl) dX12_readLine_87 (fun rr18 hW19 => ?_)
    refine s_if_lt 115 hz rr18 dX12_readLine_90 rfl (fun c20 => ?_) (fun c20 => ?_)
    · have h := zif_t c20 h
      exact hk115 _ hW19 h
    · have h := zif_f c20 h
      refine s_aload_n 0 hz dX12_readLine_93 rfl ?_
      obtain ⟨r21, S22, hc22, h⟩ := zb_of h
      refine s_callVv [] [] hz ml_X12_241 sv_yX12_readWay (T_X12_readWay hW19 hc22) (by decide) rfl sf51 rfl rfl (Nat.le_of_ble_eq_true rfl) dX12_readLine_94 (fun hW22 => ?_)
      refine s_aload_n 0 hz dX12_readLine_97 rfl ?_
      refine s_iconst hz dX12_readLine_98 ?_
      refine s_aload_n 0 hz dX12_readLine_99 rfl ?_
      refine s_getI (kz := 15) 15 hz fl_X12_221 sf51 rfl rfl dX12_readLine_100 ?_
      refine s_aload_n 0 hz dX12_readLine_103 rfl ?_
      refine s_getI (kz := 16) 16 hz fl_X12_224 sf51 rfl rfl dX12_readLine_104 ?_
      obtain ⟨r23, S24, hc24, h⟩ := zb_of h
      refine s_callV [aI 4, aI (S22 51 15), aI (S22 51 16)] [] hz ml_X12_237 sv_yX12_emit (T_X12_emit rl_4 (hW22 51 _ sf51 15) (hW22 51 _ sf51 16) hW22 hc24) (by decide) rfl sf51 rfl rfl (Nat.le_of_ble_eq_true rfl) dX12_readLine_107 (fun rr23 hW24 => ?_)
      refine s_istore (l' := [(5, aI r23), (0, aR 51), (4, aI p4)]) hz hN dX12_readLine_110 (by decide) rfl ?_
      refine s_goto 86 hz dX12_readLine_112 rfl ?_
      refine s_pick (l' := [(0, aR 51), (4, aI p4)]) [1, 2] rfl ?_
      exact ih hW24 h
def J_X12_readLine_60 (v2 : Int) (v3 : Int) (t0 : Int) (S : HS) : zO2 :=
  zb (M_X12_emit t0 v2 v3 S) fun r12 S13 =>
  zb (M_X12_readWay S13) fun _ S15 =>
  zb (M_X12_emit 4 (S15 51 15) (S15 51 16) S15) fun r16 S17 =>
  L_X12_readLine_86 (fun S25 =>
      zb (M_X12_takeSign 59 S25) fun _ S27 =>
      zg ((0 : Int) ≤ r12 ∧ r12 < 1100) <|
      zs (up S27 60 r12 (S27 51 10)) fun S29 =>
      some (0, S29)) r12 zBig S17
set_option maxHeartbeats 4000000 in
set_option maxRecDepth 20000 in
theorem TJ_X12_readLine_60 {v2 : Int} {v3 : Int} {t0 : Int} {S : HS} {r : Int} {S' : HS} {z : Zt} (hz : zO z cX12_readLine RX12 4 shF) (hN : zN z 6) (hF : zFv z shF S') (rv2 : rng v2) (rv3 : rng v3) (rt0 : rng t0) (hW : WR shF S) (h : J_X12_readLine_60 v2 v3 t0 S = some (r, S')) : zA z 60 [(0, aR 51), (2, aI v2), (3, aI v3)] [aI t0, aR 51] S := by
  unfold J_X12_readLine_60 at h
  refine s_iload_n 1 hz dX12_readLine_60 rfl ?_
  refine s_iload_n 2 hz dX12_readLine_61 rfl ?_
  obtain ⟨r12, S13, hc13, h⟩ := zb_of h
  refine s_callV [aI t0, aI v2, aI v3] [] hz ml_X12_237 sv_yX12_emit (T_X12_emit rt0 rv2 rv3 hW hc13) (by decide) rfl sf51 rfl rfl (Nat.le_of_ble_eq_true rfl) dX12_readLine_62 (fun rr12 hW13 => ?_)
  refine s_istore (l' := [(4, aI r12), (0, aR 51), (2, aI v2), (3, aI v3)]) hz hN dX12_readLine_65 (by decide) rfl ?_
  refine s_aload_n 1 hz dX12_readLine_67 rfl ?_
  obtain ⟨r14, S15, hc15, h⟩ := zb_of h
  refine s_callVv [] [] hz ml_X12_241 sv_yX12_readWay (T_X12_readWay hW13 hc15) (by decide) rfl sf51 rfl rfl (Nat.le_of_ble_eq_true rfl) dX12_readLine_68 (fun hW15 => ?_)
  refine s_aload_n 1 hz dX12_readLine_71 rfl ?_
  refine s_iconst hz dX12_readLine_72 ?_
  refine s_aload_n 1 hz dX12_readLine_73 rfl ?_
  refine s_getI (kz := 15) 15 hz fl_X12_221 sf51 rfl rfl dX12_readLine_74 ?_
  refine s_aload_n 1 hz dX12_readLine_77 rfl ?_
  refine s_getI (kz := 16) 16 hz fl_X12_224 sf51 rfl rfl dX12_readLine_78 ?_
  obtain ⟨r16, S17, hc17, h⟩ := zb_of h
  refine s_callV [aI 4, aI (S15 51 15), aI (S15 51 16)] [] hz ml_X12_237 sv_yX12_emit (T_X12_emit rl_4 (hW15 51 _ sf51 15) (hW15 51 _ sf51 16) hW15 hc17) (by decide) rfl sf51 rfl rfl (Nat.le_of_ble_eq_true rfl) dX12_readLine_81 (fun rr16 hW17 => ?_)
  refine s_istore (l' := [(5, aI r16), (4, aI r12), (0, aR 51), (2, aI v2), (3, aI v3)]) hz hN dX12_readLine_84 (by decide) rfl ?_
  refine s_pick (l' := [(0, aR 51), (4, aI r12)]) [2, 1] rfl ?_
  refine TL_X12_readLine_86 hz hN hF ?_ rr12 zBig hW17 h
  · clear h 
    intro S25 hW25 h
    refine s_aload_n 0 hz dX12_readLine_115 rfl ?_
    refine s_bipush hz dX12_readLine_116 bp_59 ?_
    obtain ⟨r26, S27, hc27, h⟩ := zb_of h
    refine s_callVv [aI 59] [] hz ml_X12_244 sv_yX12_takeSign (T_X12_takeSign rl_59 hW25 hc27) (by decide) rfl sf51 rfl rfl (Nat.le_of_ble_eq_true rfl) dX12_readLine_118 (fun hW27 => ?_)
    refine s_aload_n 0 hz dX12_readLine_121 rfl ?_
    refine s_getR 14 hz fl_X12_62 sf51 rfl (by decide) dX12_readLine_122 ?_
    refine s_iload 1 hz dX12_readLine_125 rfl ?_
    refine s_aload_n 0 hz dX12_readLine_127 rfl ?_
    refine s_getI (kz := 10) 10 hz fl_X12_210 sf51 rfl rfl dX12_readLine_128 ?_
    obtain ⟨g28, h⟩ := zg_of h
    obtain ⟨S29, eS29, h⟩ := zs_ex h
    have hW29 : WR shF S29 := by rw [eS29]; exact hW27.up (i := r12) sf60 (v := (S27 51 10)) (hW27 51 _ sf51 10)
    refine s_iast hz sf60 rfl (by decide) g28 dX12_readLine_131 ?_
    rw [← eS29]
    exact s_vret h hz hF hW29 dX12_readLine_132
def J_X12_readLine_46 (v1 : Int) (v2 : Int) (t0 : Int) (t1 : Int) (S : HS) : zO2 :=
  zb (M_X12_takeNumber t1 t0 S) fun r9 S10 =>
  if v1 = 0 then (
    J_X12_readLine_60 v2 r9 1 S10)
  else (
    J_X12_readLine_60 v2 r9 0 S10)
set_option maxHeartbeats 4000000 in
set_option maxRecDepth 20000 in
theorem TJ_X12_readLine_46 {v1 : Int} {v2 : Int} {t0 : Int} {t1 : Int} {S : HS} {r : Int} {S' : HS} {z : Zt} (hz : zO z cX12_readLine RX12 4 shF) (hN : zN z 6) (hF : zFv z shF S') (rv1 : rng v1) (rv2 : rng v2) (rt0 : rng t0) (rt1 : rng t1) (hW : WR shF S) (h : J_X12_readLine_46 v1 v2 t0 t1 S = some (r, S')) : zA z 46 [(0, aR 51), (1, aI v1), (2, aI v2)] [aI t0, aI t1, aR 51] S := by
  unfold J_X12_readLine_46 at h
  obtain ⟨r9, S10, hc10, h⟩ := zb_of h
  refine s_callV [aI t1, aI t0] [] hz ml_X12_217 sv_yX12_takeNumber (T_X12_takeNumber rt1 rt0 hW hc10) (by decide) rfl sf51 rfl rfl (Nat.le_of_ble_eq_true rfl) dX12_readLine_46 (fun rr9 hW10 => ?_)
  refine s_istore_n (l' := [(3, aI r9), (0, aR 51), (1, aI v1), (2, aI v2)]) hz hN dX12_readLine_49 (by decide) rfl ?_
  refine s_aload_n 1 hz dX12_readLine_50 rfl ?_
  refine s_iload_n 2 hz dX12_readLine_51 rfl ?_
  refine s_if_eq 59 hz rv1 dX12_readLine_52 rfl (fun c11 => ?_) (fun c11 => ?_)
  · have h := zif_t c11 h
    refine s_iconst hz dX12_readLine_59 ?_
    refine s_pick (l' := [(0, aR 51), (2, aI v2), (3, aI r9)]) [1, 3, 0] rfl ?_
    exact TJ_X12_readLine_60 hz hN hF rv2 rr9 rl_1 hW10 h
  · have h := zif_f c11 h
    refine s_iconst hz dX12_readLine_55 ?_
    refine s_goto 60 hz dX12_readLine_56 rfl ?_
    refine s_pick (l' := [(0, aR 51), (2, aI v2), (3, aI r9)]) [1, 3, 0] rfl ?_
    exact TJ_X12_readLine_60 hz hN hF rv2 rr9 rl_0 hW10 h
def J_X12_readLine_29 (v1 : Int) (t0 : Int) (t1 : Int) (S : HS) : zO2 :=
  zb (M_X12_takeNumber t1 t0 S) fun r6 S7 =>
  if v1 = 0 then (
    J_X12_readLine_46 v1 r6 11 0 S7)
  else (
    J_X12_readLine_46 v1 r6 12 0 S7)
set_option maxHeartbeats 4000000 in
set_option maxRecDepth 20000 in
theorem TJ_X12_readLine_29 {v1 : Int} {t0 : Int} {t1 : Int} {S : HS} {r : Int} {S' : HS} {z : Zt} (hz : zO z cX12_readLine RX12 4 shF) (hN : zN z 6) (hF : zFv z shF S') (rv1 : rng v1) (rt0 : rng t0) (rt1 : rng t1) (hW : WR shF S) (h : J_X12_readLine_29 v1 t0 t1 S = some (r, S')) : zA z 29 [(0, aR 51), (1, aI v1)] [aI t0, aI t1, aR 51] S := by
  unfold J_X12_readLine_29 at h
  obtain ⟨r6, S7, hc7, h⟩ := zb_of h
  refine s_callV [aI t1, aI t0] [] hz ml_X12_217 sv_yX12_takeNumber (T_X12_takeNumber rt1 rt0 hW hc7) (by decide) rfl sf51 rfl rfl (Nat.le_of_ble_eq_true rfl) dX12_readLine_29 (fun rr6 hW7 => ?_)
  refine s_istore_n (l' := [(2, aI r6), (0, aR 51), (1, aI v1)]) hz hN dX12_readLine_32 (by decide) rfl ?_
  refine s_aload_n 1 hz dX12_readLine_33 rfl ?_
  refine s_iconst hz dX12_readLine_34 ?_
  refine s_iload_n 2 hz dX12_readLine_35 rfl ?_
  refine s_if_eq 44 hz rv1 dX12_readLine_36 rfl (fun c8 => ?_) (fun c8 => ?_)
  · have h := zif_t c8 h
    refine s_bipush hz dX12_readLine_44 bp_11 ?_
    refine s_pick (l' := [(0, aR 51), (1, aI v1), (2, aI r6)]) [1, 2, 0] rfl ?_
    exact TJ_X12_readLine_46 hz hN hF rv1 rr6 rl_11 rl_0 hW7 h
  · have h := zif_f c8 h
    refine s_bipush hz dX12_readLine_39 bp_12 ?_
    refine s_goto 46 hz dX12_readLine_41 rfl ?_
    refine s_pick (l' := [(0, aR 51), (1, aI v1), (2, aI r6)]) [1, 2, 0] rfl ?_
    exact TJ_X12_readLine_46 hz hN hF rv1 rr6 rl_12 rl_0 hW7 h
def M_X12_readLine (S : HS) : zO2 :=
  zb (M_X12_isWord 0 S) fun r1 S2 =>
  zl ((S2 51 7) + 1) fun x3 =>
  zs (up S2 51 7 x3) fun S4 =>
  if r1 = 0 then (
    J_X12_readLine_29 r1 15 0 S4)
  else (
    J_X12_readLine_29 r1 16 0 S4)
set_option maxHeartbeats 4000000 in
set_option maxRecDepth 20000 in
theorem T_X12_readLine {S S' : HS} {r : Int} (hW : WR shF S) (h : M_X12_readLine S = some (r, S')) : zV shF yX12_readLine cX12_readLine 6 4 [aR 51] S S' := by
  refine zV_of (by decide +kernel) (Nat.le_of_ble_eq_true rfl) (fun z hz hN hF => ?_)
  have hz : zO z cX12_readLine RX12 4 shF := hz
  show zA z 0 [(0, aR 51)] [] S
  unfold M_X12_readLine at h
  refine s_aload_n 0 hz dX12_readLine_0 rfl ?_
  refine s_iconst hz dX12_readLine_1 ?_
  obtain ⟨r1, S2, hc2, h⟩ := zb_of h
  refine s_callV [aI 0] [] hz ml_X12_204 sv_yX12_isWord (T_X12_isWord rl_0 hW hc2) (by decide) rfl sf51 rfl rfl (Nat.le_of_ble_eq_true rfl) dX12_readLine_2 (fun rr1 hW2 => ?_)
  refine s_istore_n (l' := [(1, aI r1), (0, aR 51)]) hz hN dX12_readLine_5 (by decide) rfl ?_
  refine s_aload_n 1 hz dX12_readLine_6 rfl ?_
  refine s_dup hz rfl dX12_readLine_7 ?_
  refine s_getI (kz := 7) 7 hz fl_X12_191 sf51 rfl rfl dX12_readLine_8 ?_
  refine s_iconst hz dX12_readLine_11 ?_
  refine s_iadd hz dX12_readLine_12 ?_
  obtain ⟨x3, ex3, rx3, h⟩ := zl_ex h
  rw [← ex3]
  obtain ⟨S4, eS4, h⟩ := zs_ex h
  have hW4 : WR shF S4 := by rw [eS4]; exact hW2.up (i := 7) sf51 (v := x3) rx3
  refine s_putI (kz := 7) 7 hz fp_X12_191 sf51 rfl rfl dX12_readLine_13 ?_
  rw [← eS4]
  refine s_aload_n 1 hz dX12_readLine_16 rfl ?_
  refine s_iconst hz dX12_readLine_17 ?_
  refine s_iload_n 0 hz dX12_readLine_18 rfl ?_
  refine s_if_eq 27 hz rr1 dX12_readLine_19 rfl (fun c5 => ?_) (fun c5 => ?_)
  · have h := zif_t c5 h
    refine s_bipush hz dX12_readLine_27 bp_15 ?_
    refine s_pick (l' := [(0, aR 51), (1, aI r1)]) [1, 0] rfl ?_
    exact TJ_X12_readLine_29 hz hN hF rr1 rl_15 rl_0 hW4 h
  · have h := zif_f c5 h
    refine s_bipush hz dX12_readLine_22 bp_16 ?_
    refine s_goto 29 hz dX12_readLine_24 rfl ?_
    refine s_pick (l' := [(0, aR 51), (1, aI r1)]) [1, 0] rfl ?_
    exact TJ_X12_readLine_29 hz hN hF rr1 rl_16 rl_0 hW4 h
def J_X12_readBlock_82 (rec : Int → HS → zO2) (v1 : Int) (v2 : Int) (S : HS) : zO2 :=
  zb (M_X12_takeSign 40 S) fun _ S12 =>
  zl (v1 + 1) fun x13 =>
  zb (rec x13 S12) fun _ S15 =>
  zb (M_X12_takeSign 41 S15) fun _ S17 =>
  zb (M_X12_takeSign 59 S17) fun _ S19 =>
  zg ((0 : Int) ≤ v2 ∧ v2 < 1100) <|
  zs (up S19 60 v2 (S19 51 10)) fun S21 =>
  some (0, S21)
set_option maxHeartbeats 4000000 in
set_option maxRecDepth 20000 in
theorem TJ_X12_readBlock_82 {e : Nat} {rec : Int → HS → zO2} {v1 : Int} {v2 : Int} {S : HS} {r : Int} {S' : HS} {z : Zt} (hz : zO z cX12_readBlock RX12 (e + 1) shF) (hN : zN z 4) (hF : zFv z shF S') (hrec : ∀ (b1 : Int) (S S' : HS) (r : Int), rng b1 → WR shF S → rec b1 S = some (r, S') → zV shF yX12_readSteps cX12_readSteps 2 e [aR 51, aI b1] S S') (he : 4 ≤ e) (rv1 : rng v1) (rv2 : rng v2) (hW : WR shF S) (h : J_X12_readBlock_82 rec v1 v2 S = some (r, S')) : zA z 82 [(0, aR 51), (1, aI v1), (2, aI v2)] [] S := by
  unfold J_X12_readBlock_82 at h
  refine s_aload_n 0 hz dX12_readBlock_82 rfl ?_
  refine s_bipush hz dX12_readBlock_83 bp_40 ?_
  obtain ⟨r11, S12, hc12, h⟩ := zb_of h
  refine s_callVv [aI 40] [] hz ml_X12_244 sv_yX12_takeSign (T_X12_takeSign rl_40 hW hc12) (by omega) rfl sf51 rfl rfl (Nat.le_of_ble_eq_true rfl) dX12_readBlock_85 (fun hW12 => ?_)
  refine s_aload_n 0 hz dX12_readBlock_88 rfl ?_
  refine s_iload_n 1 hz dX12_readBlock_89 rfl ?_
  refine s_iconst hz dX12_readBlock_90 ?_
  refine s_iadd hz dX12_readBlock_91 ?_
  obtain ⟨x13, ex13, rx13, h⟩ := zl_ex h
  rw [← ex13]
  obtain ⟨r14, S15, hc15, h⟩ := zb_of h
  refine s_callVv [aI x13] [] hz ml_X12_247 sv_yX12_readSteps (hrec _ _ _ _ rx13 hW12 hc15) (by omega) rfl sf51 rfl rfl (Nat.le_of_ble_eq_true rfl) dX12_readBlock_92 (fun hW15 => ?_)
  refine s_aload_n 0 hz dX12_readBlock_95 rfl ?_
  refine s_bipush hz dX12_readBlock_96 bp_41 ?_
  obtain ⟨r16, S17, hc17, h⟩ := zb_of h
  refine s_callVv [aI 41] [] hz ml_X12_244 sv_yX12_takeSign (T_X12_takeSign rl_41 hW15 hc17) (by omega) rfl sf51 rfl rfl (Nat.le_of_ble_eq_true rfl) dX12_readBlock_98 (fun hW17 => ?_)
  refine s_aload_n 0 hz dX12_readBlock_101 rfl ?_
  refine s_bipush hz dX12_readBlock_102 bp_59 ?_
  obtain ⟨r18, S19, hc19, h⟩ := zb_of h
  refine s_callVv [aI 59] [] hz ml_X12_244 sv_yX12_takeSign (T_X12_takeSign rl_59 hW17 hc19) (by omega) rfl sf51 rfl rfl (Nat.le_of_ble_eq_true rfl) dX12_readBlock_104 (fun hW19 => ?_)
  refine s_aload_n 0 hz dX12_readBlock_107 rfl ?_
  refine s_getR 14 hz fl_X12_62 sf51 rfl (by decide) dX12_readBlock_108 ?_
  refine s_iload_n 2 hz dX12_readBlock_111 rfl ?_
  refine s_aload_n 0 hz dX12_readBlock_112 rfl ?_
  refine s_getI (kz := 10) 10 hz fl_X12_210 sf51 rfl rfl dX12_readBlock_113 ?_
  obtain ⟨g20, h⟩ := zg_of h
  obtain ⟨S21, eS21, h⟩ := zs_ex h
  have hW21 : WR shF S21 := by rw [eS21]; exact hW19.up (i := v2) sf60 (v := (S19 51 10)) (hW19 51 _ sf51 10)
  refine s_iast hz sf60 rfl (by decide) g20 dX12_readBlock_116 ?_
  rw [← eS21]
  exact s_vret h hz hF hW21 dX12_readBlock_117
def J_X12_readBlock_25 (rec : Int → HS → zO2) (v1 : Int) (t0 : Int) (S : HS) : zO2 :=
  zb (M_X12_emit t0 0 0 S) fun r5 S6 =>
  zl ((S6 51 7) + 1) fun x7 =>
  zs (up S6 51 7 x7) fun S8 =>
  zg ((0 : Int) ≤ r5 ∧ r5 < 1100) <|
  if S8 57 r5 = 2 then (
    zb (M_X12_takeNumber 1 9 S8) fun r22 S23 =>
    zg ((0 : Int) ≤ r5 ∧ r5 < 1100) <|
    zs (up S23 58 r5 r22) fun S25 =>
    zb (M_X12_readWay S25) fun _ S27 =>
    zb (M_X12_emit 4 (S27 51 15) (S27 51 16) S27) fun r28 S29 =>
    J_X12_readBlock_82 rec v1 r5 S29)
  else (
    J_X12_readBlock_82 rec v1 r5 S8)
set_option maxHeartbeats 4000000 in
set_option maxRecDepth 20000 in
theorem TJ_X12_readBlock_25 {e : Nat} {rec : Int → HS → zO2} {v1 : Int} {t0 : Int} {S : HS} {r : Int} {S' : HS} {z : Zt} (hz : zO z cX12_readBlock RX12 (e + 1) shF) (hN : zN z 4) (hF : zFv z shF S') (hrec : ∀ (b1 : Int) (S S' : HS) (r : Int), rng b1 → WR shF S → rec b1 S = some (r, S') → zV shF yX12_readSteps cX12_readSteps 2 e [aR 51, aI b1] S S') (he : 4 ≤ e) (rv1 : rng v1) (rt0 : rng t0) (hW : WR shF S) (h : J_X12_readBlock_25 rec v1 t0 S = some (r, S')) : zA z 25 [(0, aR 51), (1, aI v1)] [aI t0, aR 51] S := by
  unfold J_X12_readBlock_25 at h
  refine s_iconst hz dX12_readBlock_25 ?_
  refine s_iconst hz dX12_readBlock_26 ?_
  obtain ⟨r5, S6, hc6, h⟩ := zb_of h
  refine s_callV [aI t0, aI 0, aI 0] [] hz ml_X12_237 sv_yX12_emit (T_X12_emit rt0 rl_0 rl_0 hW hc6) (by omega) rfl sf51 rfl rfl (Nat.le_of_ble_eq_true rfl) dX12_readBlock_27 (fun rr5 hW6 => ?_)
  refine s_istore_n (l' := [(2, aI r5), (0, aR 51), (1, aI v1)]) hz hN dX12_readBlock_30 (by decide) rfl ?_
  refine s_aload_n 1 hz dX12_readBlock_31 rfl ?_
  refine s_dup hz rfl dX12_readBlock_32 ?_
  refine s_getI (kz := 7) 7 hz fl_X12_191 sf51 rfl rfl dX12_readBlock_33 ?_
  refine s_iconst hz dX12_readBlock_36 ?_
  refine s_iadd hz dX12_readBlock_37 ?_
  obtain ⟨x7, ex7, rx7, h⟩ := zl_ex h
  rw [← ex7]
  obtain ⟨S8, eS8, h⟩ := zs_ex h
  have hW8 : WR shF S8 := by rw [eS8]; exact hW6.up (i := 7) sf51 (v := x7) rx7
  refine s_putI (kz := 7) 7 hz fp_X12_191 sf51 rfl rfl dX12_readBlock_38 ?_
  rw [← eS8]
  refine s_aload_n 1 hz dX12_readBlock_41 rfl ?_
  refine s_getR 11 hz fl_X12_53 sf51 rfl (by decide) dX12_readBlock_42 ?_
  refine s_iload_n 0 hz dX12_readBlock_45 rfl ?_
  obtain ⟨g9, h⟩ := zg_of h
  refine s_iald hz sf57 rfl (by decide) g9 dX12_readBlock_46 ?_
  refine s_iconst hz dX12_readBlock_47 ?_
  refine s_icmp_ne 82 hz (hW8 57 _ sf57 r5) rl_2 dX12_readBlock_48 rfl (fun c10 => ?_) (fun c10 => ?_)
  · have h := zif_f c10 h
    refine s_pick (l' := [(0, aR 51), (1, aI v1), (2, aI r5)]) [1, 2, 0] rfl ?_
    exact TJ_X12_readBlock_82 hz hN hF hrec he rv1 rr5 hW8 h
  · have h := zif_t c10 h
    refine s_aload_n 1 hz dX12_readBlock_51 rfl ?_
    refine s_getR 12 hz fl_X12_56 sf51 rfl (by decide) dX12_readBlock_52 ?_
    refine s_iload_n 0 hz dX12_readBlock_55 rfl ?_
    refine s_aload_n 1 hz dX12_readBlock_56 rfl ?_
    refine s_iconst hz dX12_readBlock_57 ?_
    refine s_bipush hz dX12_readBlock_58 bp_9 ?_
    obtain ⟨r22, S23, hc23, h⟩ := zb_of h
    refine s_callV [aI 1, aI 9] [aI r5, aR 58] hz ml_X12_217 sv_yX12_takeNumber (T_X12_takeNumber rl_1 rl_9 hW8 hc23) (by omega) rfl sf51 rfl rfl (Nat.le_of_ble_eq_true rfl) dX12_readBlock_60 (fun rr22 hW23 => ?_)
    obtain ⟨g24, h⟩ := zg_of h
    obtain ⟨S25, eS25, h⟩ := zs_ex h
    have hW25 : WR shF S25 := by rw [eS25]; exact hW23.up (i := r5) sf58 (v := r22) rr22
    refine s_iast hz sf58 rfl (by decide) g24 dX12_readBlock_63 ?_
    rw [← eS25]
    refine s_aload_n 1 hz dX12_readBlock_64 rfl ?_
    obtain ⟨r26, S27, hc27, h⟩ := zb_of h
    refine s_callVv [] [] hz ml_X12_241 sv_yX12_readWay (T_X12_readWay hW25 hc27) (by omega) rfl sf51 rfl rfl (Nat.le_of_ble_eq_true rfl) dX12_readBlock_65 (fun hW27 => ?_)
    refine s_aload_n 1 hz dX12_readBlock_68 rfl ?_
    refine s_iconst hz dX12_readBlock_69 ?_
    refine s_aload_n 1 hz dX12_readBlock_70 rfl ?_
    refine s_getI (kz := 15) 15 hz fl_X12_221 sf51 rfl rfl dX12_readBlock_71 ?_
    refine s_aload_n 1 hz dX12_readBlock_74 rfl ?_
    refine s_getI (kz := 16) 16 hz fl_X12_224 sf51 rfl rfl dX12_readBlock_75 ?_
    obtain ⟨r28, S29, hc29, h⟩ := zb_of h
    refine s_callV [aI 4, aI (S27 51 15), aI (S27 51 16)] [] hz ml_X12_237 sv_yX12_emit (T_X12_emit rl_4 (hW27 51 _ sf51 15) (hW27 51 _ sf51 16) hW27 hc29) (by omega) rfl sf51 rfl rfl (Nat.le_of_ble_eq_true rfl) dX12_readBlock_78 (fun rr28 hW29 => ?_)
    refine s_istore_n (l' := [(3, aI r28), (2, aI r5), (0, aR 51), (1, aI v1)]) hz hN dX12_readBlock_81 (by decide) rfl ?_
    refine s_pick (l' := [(0, aR 51), (1, aI v1), (2, aI r5)]) [2, 3, 1] rfl ?_
    exact TJ_X12_readBlock_82 hz hN hF hrec he rv1 rr5 hW29 h
def M_X12_readBlock (rec : Int → HS → zO2) (a1 : Int) (S : HS) : zO2 :=
  if a1 = 4 then (
    zb (M_X12_wrong 5 S) fun _ S31 =>
    some (0, S31))
  else (
    zb (M_X12_isWord 2 S) fun r2 S3 =>
    if r2 = 0 then (
      J_X12_readBlock_25 rec a1 3 S3)
    else (
      J_X12_readBlock_25 rec a1 2 S3))
set_option maxHeartbeats 4000000 in
set_option maxRecDepth 20000 in
theorem T_X12_readBlock {e : Nat} {rec : Int → HS → zO2} (hrec : ∀ (b1 : Int) (S S' : HS) (r : Int), rng b1 → WR shF S → rec b1 S = some (r, S') → zV shF yX12_readSteps cX12_readSteps 2 e [aR 51, aI b1] S S') (he : 4 ≤ e) {a1 : Int} {S S' : HS} {r : Int} (ra1 : rng a1) (hW : WR shF S) (h : M_X12_readBlock rec a1 S = some (r, S')) : zV shF yX12_readBlock cX12_readBlock 4 (e + 1) [aR 51, aI a1] S S' := by
  refine zV_of (by decide +kernel) (Nat.le_of_ble_eq_true rfl) (fun z hz hN hF => ?_)
  have hz : zO z cX12_readBlock RX12 (e + 1) shF := hz
  show zA z 0 [(0, aR 51), (1, aI a1)] [] S
  unfold M_X12_readBlock at h
  refine s_iload_n 1 hz dX12_readBlock_0 rfl ?_
  refine s_iconst hz dX12_readBlock_1 ?_
  refine s_icmp_ne 11 hz ra1 rl_4 dX12_readBlock_2 rfl (fun c1 => ?_) (fun c1 => ?_)
  · have h := zif_f c1 h
    refine s_aload_n 0 hz dX12_readBlock_11 rfl ?_
    refine s_aload_n 0 hz dX12_readBlock_12 rfl ?_
    refine s_iconst hz dX12_readBlock_13 ?_
    obtain ⟨r2, S3, hc3, h⟩ := zb_of h
    refine s_callV [aI 2] [aR 51] hz ml_X12_204 sv_yX12_isWord (T_X12_isWord rl_2 hW hc3) (by omega) rfl sf51 rfl rfl (Nat.le_of_ble_eq_true rfl) dX12_readBlock_14 (fun rr2 hW3 => ?_)
    refine s_if_eq 24 hz rr2 dX12_readBlock_17 rfl (fun c4 => ?_) (fun c4 => ?_)
    · have h := zif_t c4 h
      refine s_iconst hz dX12_readBlock_24 ?_
      exact TJ_X12_readBlock_25 hz hN hF hrec he ra1 rl_3 hW3 h
    · have h := zif_f c4 h
      refine s_iconst hz dX12_readBlock_20 ?_
      refine s_goto 25 hz dX12_readBlock_21 rfl ?_
      exact TJ_X12_readBlock_25 hz hN hF hrec he ra1 rl_2 hW3 h
  · have h := zif_t c1 h
    refine s_aload_n 0 hz dX12_readBlock_5 rfl ?_
    refine s_iconst hz dX12_readBlock_6 ?_
    obtain ⟨r30, S31, hc31, h⟩ := zb_of h
    refine s_callVv [aI 5] [] hz ml_X12_200 sv_yX12_wrong (T_X12_wrong rl_5 hW hc31) (by omega) rfl sf51 rfl rfl (Nat.le_of_ble_eq_true rfl) dX12_readBlock_7 (fun hW31 => ?_)
    exact s_vret h hz hF hW31 dX12_readBlock_10
def J_X12_readSteps_23 (rec : Int → HS → zO2) (k0 : HS → zO2) (v1 : Int) (S : HS) : zO2 :=
  zb (M_X12_readLine S) fun _ S8 =>
  k0 S8
set_option maxHeartbeats 4000000 in
set_option maxRecDepth 20000 in
theorem TJ_X12_readSteps_23 {e : Nat} {rec : Int → HS → zO2} {k0 : HS → zO2} {v1 : Int} {S : HS} {r : Int} {S' : HS} {z : Zt} (hz : zO z cX12_readSteps RX12 (e + 2) shF) (hN : zN z 2) (hF : zFv z shF S') (hrec : ∀ (b1 : Int) (S S' : HS) (r : Int), rng b1 → WR shF S → rec b1 S = some (r, S') → zV shF yX12_readSteps cX12_readSteps 2 e [aR 51, aI b1] S S') (he : 4 ≤ e) (hk0 : ∀ (S : HS), WR shF S → k0 S = some (r, S') → zA z 0 [(0, aR 51), (1, aI v1)] [] S) (rv1 : rng v1) (hW : WR shF S) (h : J_X12_readSteps_23 rec k0 v1 S = some (r, S')) : zA z 23 [(0, aR 51), (1, aI v1)] [] S := by
  unfold J_X12_readSteps_23 at h
  refine s_aload_n 0 hz dX12_readSteps_23 rfl ?_
  obtain ⟨r7, S8, hc8, h⟩ := zb_of h
  refine s_callVv [] [] hz ml_X12_231 sv_yX12_readLine (T_X12_readLine hW hc8) (by omega) rfl sf51 rfl rfl (Nat.le_of_ble_eq_true rfl) dX12_readSteps_24 (fun hW8 => ?_)
  refine s_goto 0 hz dX12_readSteps_27 rfl ?_
  exact hk0 _ hW8 h
def L_X12_readSteps_0 (rec : Int → HS → zO2) (p1 : Int) : Nat → HS → zO2
  | 0, _ => none
  | n + 1, S => 
    zb (M_X12_isStep S) fun r1 S2 =>
    if r1 = 0 then (
      some (0, S2))
    else (
      zb (M_X12_isWord 0 S2) fun r4 S5 =>
      if r4 = 0 then (
        zb (M_X12_isWord 1 S5) fun r9 S10 =>
        if r9 = 0 then (
          zb (M_X12_readBlock rec p1 S10) fun _ S13 =>
          L_X12_readSteps_0 rec p1 n S13)
        else (
          J_X12_readSteps_23 rec (L_X12_readSteps_0 rec p1 n) p1 S10))
      else (
        J_X12_readSteps_23 rec (L_X12_readSteps_0 rec p1 n) p1 S5))
set_option maxHeartbeats 4000000 in
set_option maxRecDepth 20000 in
theorem TL_X12_readSteps_0 {e : Nat} {rec : Int → HS → zO2} {p1 : Int} {r : Int} {S' : HS} {z : Zt} (hz : zO z cX12_readSteps RX12 (e + 2) shF) (hN : zN z 2) (hF : zFv z shF S') (hrec : ∀ (b1 : Int) (S S' : HS) (r : Int), rng b1 → WR shF S → rec b1 S = some (r, S') → zV shF yX12_readSteps cX12_readSteps 2 e [aR 51, aI b1] S S') (he : 4 ≤ e) (rp1 : rng p1) : ∀ (n : Nat) {S : HS}, WR shF S → L_X12_readSteps_0 rec p1 n S = some (r, S') → zA z 0 [(0, aR 51), (1, aI p1)] [] S := by
  intro n
  induction n with
  | zero =>
    intro _ _ h
    cases h
  | succ n ih =>
    intro S hW h
    rw [L_X12_readSteps_0.eq_2] at h
    refine s_aload_n 0 hz dX12_readSteps_0 rfl ?_
    obtain ⟨r1, S2, hc2, h⟩ := zb_of h
    refine s_callV [] [] hz ml_X12_227 sv_yX12_isStep (T_X12_isStep hW hc2) (by omega) rfl sf51 rfl rfl (Nat.le_of_ble_eq_true rfl) dX12_readSteps_1 (fun rr1 hW2 => ?_)
    refine s_if_eq 38 hz rr1 dX12_readSteps_4 rfl (fun c3 => ?_) (fun c3 => ?_)
    · have h := zif_t c3 h
      exact s_vret h hz hF hW2 dX12_readSteps_38
    · have h := zif_f c3 h
      refine s_aload_n 0 hz dX12_readSteps_7 rfl ?_
      refine s_iconst hz dX12_readSteps_8 ?_
      obtain ⟨r4, S5, hc5, h⟩ := zb_of h
      refine s_callV [aI 0] [] hz ml_X12_204 sv_yX12_isWord (T_X12_isWord rl_0 hW2 hc5) (by omega) rfl sf51 rfl rfl (Nat.le_of_ble_eq_true rfl) dX12_readSteps_9 (fun rr4 hW5 => ?_)
      refine s_if_ne 23 hz rr4 dX12_readSteps_12 rfl (fun c6 => ?_) (fun c6 => ?_)
      · have h := zif_f c6 h
        exact TJ_X12_readSteps_23 hz hN hF hrec he (fun _ => ih) rp1 hW5 h
      · have h := zif_t c6 h
        refine s_aload_n 0 hz dX12_readSteps_15 rfl ?_
        refine s_iconst hz dX12_readSteps_16 ?_
        obtain ⟨r9, S10, hc10, h⟩ := zb_of h
        refine s_callV [aI 1] [] hz ml_X12_204 sv_yX12_isWord (T_X12_isWord rl_1 hW5 hc10) (by omega) rfl sf51 rfl rfl (Nat.le_of_ble_eq_true rfl) dX12_readSteps_17 (fun rr9 hW10 => ?_)
        refine s_if_eq 30 hz rr9 dX12_readSteps_20 rfl (fun c11 => ?_) (fun c11 => ?_)
        · have h := zif_t c11 h
          refine s_aload_n 0 hz dX12_readSteps_30 rfl ?_
          refine s_iload_n 1 hz dX12_readSteps_31 rfl ?_
          obtain ⟨r12, S13, hc13, h⟩ := zb_of h
          refine s_callVv [aI p1] [] hz ml_X12_234 sv_yX12_readBlock (T_X12_readBlock hrec (by omega) rp1 hW10 hc13) (by omega) rfl sf51 rfl rfl (Nat.le_of_ble_eq_true rfl) dX12_readSteps_32 (fun hW13 => ?_)
          refine s_goto 0 hz dX12_readSteps_35 rfl ?_
          exact ih hW13 h
        · have h := zif_f c11 h
          exact TJ_X12_readSteps_23 hz hN hF hrec he (fun _ => ih) rp1 hW10 h
def F_X12_readSteps (rec : Int → HS → zO2) (a1 : Int) (S : HS) : zO2 :=
  L_X12_readSteps_0 rec a1 zBig S
set_option maxHeartbeats 4000000 in
set_option maxRecDepth 20000 in
theorem TF_X12_readSteps {e : Nat} {rec : Int → HS → zO2} (hrec : ∀ (b1 : Int) (S S' : HS) (r : Int), rng b1 → WR shF S → rec b1 S = some (r, S') → zV shF yX12_readSteps cX12_readSteps 2 e [aR 51, aI b1] S S') (he : 4 ≤ e) {a1 : Int} {S S' : HS} {r : Int} (ra1 : rng a1) (hW : WR shF S) (h : F_X12_readSteps rec a1 S = some (r, S')) : zV shF yX12_readSteps cX12_readSteps 2 (e + 2) [aR 51, aI a1] S S' := by
  refine zV_of (by decide +kernel) (Nat.le_of_ble_eq_true rfl) (fun z hz hN hF => ?_)
  have hz : zO z cX12_readSteps RX12 (e + 2) shF := hz
  show zA z 0 [(0, aR 51), (1, aI a1)] [] S
  unfold F_X12_readSteps at h
  exact TL_X12_readSteps_0 hz hN hF hrec he ra1 zBig hW h
def M_X12_readSteps : Nat → Int → HS → zO2
  | 0, _, _ => none
  | n + 1, a1, S => F_X12_readSteps (M_X12_readSteps n) a1 S
set_option maxHeartbeats 4000000 in
set_option maxRecDepth 20000 in
theorem T_X12_readSteps : ∀ (n : Nat) {a1 : Int} {S S' : HS} {r : Int}, rng a1 → WR shF S → M_X12_readSteps n a1 S = some (r, S') → zV shF yX12_readSteps cX12_readSteps 2 (4 + 2 * n) [aR 51, aI a1] S S' := by
  intro n
  induction n with
  | zero =>
    intro _ _ _ _ _ _ h
    cases h
  | succ n ih =>
    intro a1 S S' r ra1 hW h
    rw [M_X12_readSteps.eq_2] at h
    rw [show 4 + 2 * (n + 1) = (4 + 2 * n) + 2 by omega]
    exact TF_X12_readSteps (fun _ _ _ _ q0 h1 h2 => ih q0 h1 h2) (by omega) ra1 hW h
def J_X12_goes_198 (k183 : Int → Int → Int → HS → zO2) (k253 : Int → Int → HS → zO2) (v1 : Int) (v2 : Int) (v6 : Int) (v7 : Int) (v8 : Int) (v9 : Int) (v10 : Int) (v11 : Int) (v12 : Int) (t0 : Int) (t1 : Int) (S : HS) : zO2 :=
  if t0 ≤ t1 then (
    k253 v6 v7 S)
  else (
    zl (v6 + v9) fun x28 =>
    zl (v7 + v10) fun x29 =>
    zg ((0 : Int) ≤ S 51 19 ∧ S 51 19 < 4100) <|
    zs (up S 61 (S 51 19) x28) fun S31 =>
    zg ((0 : Int) ≤ S31 51 19 ∧ S31 51 19 < 4100) <|
    zs (up S31 62 (S31 51 19) x29) fun S33 =>
    zl ((S33 51 19) + 1) fun x34 =>
    zs (up S33 51 19 x34) fun S35 =>
    zl (v12 + 1) fun x36 =>
    k183 x28 x29 x36 S35)
set_option maxHeartbeats 4000000 in
set_option maxRecDepth 20000 in
theorem TJ_X12_goes_198 {k183 : Int → Int → Int → HS → zO2} {k253 : Int → Int → HS → zO2} {v1 : Int} {v2 : Int} {v6 : Int} {v7 : Int} {v8 : Int} {v9 : Int} {v10 : Int} {v11 : Int} {v12 : Int} {t0 : Int} {t1 : Int} {S : HS} {r : Int} {S' : HS} {z : Zt} (hz : zO z cX12_goes RX12 1 shF) (hN : zN z 13) (hF : zFv z shF S') (hk183 : ∀ (w6 w7 w12 : Int) (S : HS), rng w6 → rng w7 → rng w12 → WR shF S → k183 w6 w7 w12 S = some (r, S') → zA z 183 [(0, aR 51), (1, aI v1), (2, aI v2), (6, aI w6), (7, aI w7), (8, aI v8), (9, aI v9), (10, aI v10), (11, aI v11), (12, aI w12)] [] S) (hk253 : ∀ (w6 w7 : Int) (S : HS), rng w6 → rng w7 → WR shF S → k253 w6 w7 S = some (r, S') → zA z 253 [(0, aR 51), (1, aI v1), (2, aI v2), (6, aI w6), (7, aI w7), (8, aI v8)] [] S) (rv1 : rng v1) (rv2 : rng v2) (rv6 : rng v6) (rv7 : rng v7) (rv8 : rng v8) (rv9 : rng v9) (rv10 : rng v10) (rv11 : rng v11) (rv12 : rng v12) (rt0 : rng t0) (rt1 : rng t1) (hW : WR shF S) (h : J_X12_goes_198 k183 k253 v1 v2 v6 v7 v8 v9 v10 v11 v12 t0 t1 S = some (r, S')) : zA z 198 [(0, aR 51), (1, aI v1), (2, aI v2), (6, aI v6), (7, aI v7), (8, aI v8), (9, aI v9), (10, aI v10), (11, aI v11), (12, aI v12)] [aI t0, aI t1] S := by
  unfold J_X12_goes_198 at h
  refine s_icmp_ge 253 hz rt1 rt0 dX12_goes_198 rfl (fun c27 => ?_) (fun c27 => ?_)
  · have h := zif_t c27 h
    refine s_pick (l' := [(0, aR 51), (1, aI v1), (2, aI v2), (6, aI v6), (7, aI v7), (8, aI v8)]) [0, 1, 2, 3, 4, 5] rfl ?_
    exact hk253 _ _ _ rv6 rv7 hW h
  · have h := zif_f c27 h
    refine s_iload 3 hz dX12_goes_201 rfl ?_
    refine s_iload 6 hz dX12_goes_203 rfl ?_
    refine s_iadd hz dX12_goes_205 ?_
    obtain ⟨x28, ex28, rx28, h⟩ := zl_ex h
    rw [← ex28]
    refine s_istore (l' := [(6, aI x28), (0, aR 51), (1, aI v1), (2, aI v2), (7, aI v7), (8, aI v8), (9, aI v9), (10, aI v10), (11, aI v11), (12, aI v12)]) hz hN dX12_goes_206 (by decide) rfl ?_
    refine s_iload 4 hz dX12_goes_208 rfl ?_
    refine s_iload 7 hz dX12_goes_210 rfl ?_
    refine s_iadd hz dX12_goes_212 ?_
    obtain ⟨x29, ex29, rx29, h⟩ := zl_ex h
    rw [← ex29]
    refine s_istore (l' := [(7, aI x29), (6, aI x28), (0, aR 51), (1, aI v1), (2, aI v2), (8, aI v8), (9, aI v9), (10, aI v10), (11, aI v11), (12, aI v12)]) hz hN dX12_goes_213 (by decide) rfl ?_
    refine s_aload_n 2 hz dX12_goes_215 rfl ?_
    refine s_getR 20 hz fl_X12_65 sf51 rfl (by decide) dX12_goes_216 ?_
    refine s_aload_n 2 hz dX12_goes_219 rfl ?_
    refine s_getI (kz := 19) 19 hz fl_X12_286 sf51 rfl rfl dX12_goes_220 ?_
    refine s_iload 1 hz dX12_goes_223 rfl ?_
    obtain ⟨g30, h⟩ := zg_of h
    obtain ⟨S31, eS31, h⟩ := zs_ex h
    have hW31 : WR shF S31 := by rw [eS31]; exact hW.up (i := (S 51 19)) sf61 (v := x28) rx28
    refine s_iast hz sf61 rfl (by decide) g30 dX12_goes_225 ?_
    rw [← eS31]
    refine s_aload_n 2 hz dX12_goes_226 rfl ?_
    refine s_getR 21 hz fl_X12_68 sf51 rfl (by decide) dX12_goes_227 ?_
    refine s_aload_n 2 hz dX12_goes_230 rfl ?_
    refine s_getI (kz := 19) 19 hz fl_X12_286 sf51 rfl rfl dX12_goes_231 ?_
    refine s_iload 0 hz dX12_goes_234 rfl ?_
    obtain ⟨g32, h⟩ := zg_of h
    obtain ⟨S33, eS33, h⟩ := zs_ex h
    have hW33 : WR shF S33 := by rw [eS33]; exact hW31.up (i := (S31 51 19)) sf62 (v := x29) rx29
    refine s_iast hz sf62 rfl (by decide) g32 dX12_goes_236 ?_
    rw [← eS33]
    refine s_aload_n 2 hz dX12_goes_237 rfl ?_
    refine s_dup hz rfl dX12_goes_238 ?_
    refine s_getI (kz := 19) 19 hz fl_X12_286 sf51 rfl rfl dX12_goes_239 ?_
    refine s_iconst hz dX12_goes_242 ?_
    refine s_iadd hz dX12_goes_243 ?_
    obtain ⟨x34, ex34, rx34, h⟩ := zl_ex h
    rw [← ex34]
    obtain ⟨S35, eS35, h⟩ := zs_ex h
    have hW35 : WR shF S35 := by rw [eS35]; exact hW33.up (i := 19) sf51 (v := x34) rx34
    refine s_putI (kz := 19) 19 hz fp_X12_286 sf51 rfl rfl dX12_goes_244 ?_
    rw [← eS35]
    obtain ⟨x36, ex36, rx36, h⟩ := zl_ex h
    refine s_iinc (k0 := 9) (y := x36) (l' := [(12, aI x36), (7, aI x29), (6, aI x28), (0, aR 51), (1, aI v1), (2, aI v2), (8, aI v8), (9, aI v9), (10, aI v10), (11, aI v11)]) hz hN dX12_goes_247 rfl ex36.symm (by decide) rfl ?_
    refine s_goto 183 hz dX12_goes_250 rfl ?_
    refine s_pick (l' := [(0, aR 51), (1, aI v1), (2, aI v2), (6, aI x28), (7, aI x29), (8, aI v8), (9, aI v9), (10, aI v10), (11, aI v11), (12, aI x36)]) [3, 4, 5, 2, 1, 6, 7, 8, 9, 0] rfl ?_
    exact hk183 _ _ _ _ rx28 rx29 rx36 hW35 h
def L_X12_goes_183 (k253 : Int → Int → HS → zO2) (p1 : Int) (p2 : Int) (p8 : Int) (p9 : Int) (p10 : Int) (p11 : Int) : Nat → Int → Int → Int → HS → zO2
  | 0, _, _, _, _ => none
  | n + 1, v6, v7, v12, S => 
    if 0 ≤ p11 then (
      J_X12_goes_198 (L_X12_goes_183 k253 p1 p2 p8 p9 p10 p11 n) k253 p1 p2 v6 v7 p8 p9 p10 p11 v12 p11 v12 S)
    else (
      zl (-p11) fun x37 =>
      J_X12_goes_198 (L_X12_goes_183 k253 p1 p2 p8 p9 p10 p11 n) k253 p1 p2 v6 v7 p8 p9 p10 p11 v12 x37 v12 S)
set_option maxHeartbeats 4000000 in
set_option maxRecDepth 20000 in
theorem TL_X12_goes_183 {k253 : Int → Int → HS → zO2} {p1 : Int} {p2 : Int} {p8 : Int} {p9 : Int} {p10 : Int} {p11 : Int} {r : Int} {S' : HS} {z : Zt} (hz : zO z cX12_goes RX12 1 shF) (hN : zN z 13) (hF : zFv z shF S') (hk253 : ∀ (w6 w7 : Int) (S : HS), rng w6 → rng w7 → WR shF S → k253 w6 w7 S = some (r, S') → zA z 253 [(0, aR 51), (1, aI p1), (2, aI p2), (6, aI w6), (7, aI w7), (8, aI p8)] [] S) (rp1 : rng p1) (rp2 : rng p2) (rp8 : rng p8) (rp9 : rng p9) (rp10 : rng p10) (rp11 : rng p11) : ∀ (n : Nat) {v6 : Int} {v7 : Int} {v12 : Int} {S : HS}, rng v6 → rng v7 → rng v12 → WR shF S → L_X12_goes_183 k253 p1 p2 p8 p9 p10 p11 n v6 v7 v12 S = some (r, S') → zA z 183 [(0, aR 51), (1, aI p1), (2, aI p2), (6, aI v6), (7, aI v7), (8, aI p8), (9, aI p9), (10, aI p10), (11, aI p11), (12, aI v12)] [] S := by
  intro n
  induction n with
  | zero =>
    intro _ _ _ _ _ _ _ _ h
    cases h
  | succ n ih =>
    intro v6 v7 v12 S rv6 rv7 rv12 hW h
    rw [L_X12_goes_183.eq_2] at h
    refine s_iload 9 hz dX12_goes_183 rfl ?_
    refine s_iload 8 hz dX12_goes_185 rfl ?_
    refine s_if_ge 196 hz rp11 dX12_goes_187 rfl (fun c26 => ?_) (fun c26 => ?_)
    · have h := zif_t c26 h
      refine s_iload 8 hz dX12_goes_196 rfl ?_
      exact TJ_X12_goes_198 hz hN hF (fun _ _ _ _ => ih) hk253 rp1 rp2 rv6 rv7 rp8 rp9 rp10 rp11 rv12 rp11 rv12 hW h
    · have h := zif_f c26 h
      refine s_iload 8 hz dX12_goes_190 rfl ?_
      refine s_ineg hz dX12_goes_192 ?_
      refine s_goto 198 hz dX12_goes_193 rfl ?_
      obtain ⟨x37, ex37, rx37, h⟩ := zl_ex h
      rw [← ex37]
      exact TJ_X12_goes_198 hz hN hF (fun _ _ _ _ => ih) hk253 rp1 rp2 rv6 rv7 rp8 rp9 rp10 rp11 rv12 rx37 rv12 hW h
def J_X12_goes_161 (k81 : Int → Int → Int → HS → zO2) (v1 : Int) (v2 : Int) (v6 : Int) (v7 : Int) (v8 : Int) (v9 : Int) (t0 : Int) (S : HS) : zO2 :=
  zg ((0 : Int) ≤ v8 ∧ v8 < 1100) <|
  zg ((0 : Int) ≤ v8 ∧ v8 < 1100) <|
  zl ((S 58 v8) + (S 59 v8)) fun x25 =>
  L_X12_goes_183 (fun e6 e7 S38 =>
      zl (v8 + 1) fun x39 =>
      k81 e6 e7 x39 S38) v1 v2 v8 v9 t0 x25 zBig v6 v7 0 S
set_option maxHeartbeats 4000000 in
set_option maxRecDepth 20000 in
theorem TJ_X12_goes_161 {k81 : Int → Int → Int → HS → zO2} {v1 : Int} {v2 : Int} {v6 : Int} {v7 : Int} {v8 : Int} {v9 : Int} {t0 : Int} {S : HS} {r : Int} {S' : HS} {z : Zt} (hz : zO z cX12_goes RX12 1 shF) (hN : zN z 13) (hF : zFv z shF S') (hk81 : ∀ (w6 w7 w8 : Int) (S : HS), rng w6 → rng w7 → rng w8 → WR shF S → k81 w6 w7 w8 S = some (r, S') → zA z 81 [(0, aR 51), (1, aI v1), (2, aI v2), (6, aI w6), (7, aI w7), (8, aI w8)] [] S) (rv1 : rng v1) (rv2 : rng v2) (rv6 : rng v6) (rv7 : rng v7) (rv8 : rng v8) (rv9 : rng v9) (rt0 : rng t0) (hW : WR shF S) (h : J_X12_goes_161 k81 v1 v2 v6 v7 v8 v9 t0 S = some (r, S')) : zA z 161 [(0, aR 51), (1, aI v1), (2, aI v2), (6, aI v6), (7, aI v7), (8, aI v8), (9, aI v9)] [aI t0] S := by
  unfold J_X12_goes_161 at h
  refine s_istore (l' := [(10, aI t0), (0, aR 51), (1, aI v1), (2, aI v2), (6, aI v6), (7, aI v7), (8, aI v8), (9, aI v9)]) hz hN dX12_goes_161 (by decide) rfl ?_
  refine s_aload_n 1 hz dX12_goes_163 rfl ?_
  refine s_getR 12 hz fl_X12_56 sf51 rfl (by decide) dX12_goes_164 ?_
  refine s_iload 6 hz dX12_goes_167 rfl ?_
  obtain ⟨g23, h⟩ := zg_of h
  refine s_iald hz sf58 rfl (by decide) g23 dX12_goes_169 ?_
  refine s_aload_n 1 hz dX12_goes_170 rfl ?_
  refine s_getR 13 hz fl_X12_59 sf51 rfl (by decide) dX12_goes_171 ?_
  refine s_iload 6 hz dX12_goes_174 rfl ?_
  obtain ⟨g24, h⟩ := zg_of h
  refine s_iald hz sf59 rfl (by decide) g24 dX12_goes_176 ?_
  refine s_iadd hz dX12_goes_177 ?_
  obtain ⟨x25, ex25, rx25, h⟩ := zl_ex h
  rw [← ex25]
  refine s_istore (l' := [(11, aI x25), (10, aI t0), (0, aR 51), (1, aI v1), (2, aI v2), (6, aI v6), (7, aI v7), (8, aI v8), (9, aI v9)]) hz hN dX12_goes_178 (by decide) rfl ?_
  refine s_iconst hz dX12_goes_180 ?_
  refine s_istore (l' := [(12, aI 0), (11, aI x25), (10, aI t0), (0, aR 51), (1, aI v1), (2, aI v2), (6, aI v6), (7, aI v7), (8, aI v8), (9, aI v9)]) hz hN dX12_goes_181 (by decide) rfl ?_
  refine s_pick (l' := [(0, aR 51), (1, aI v1), (2, aI v2), (6, aI v6), (7, aI v7), (8, aI v8), (9, aI v9), (10, aI t0), (11, aI x25), (12, aI 0)]) [3, 4, 5, 6, 7, 8, 9, 2, 1, 0] rfl ?_
  refine TL_X12_goes_183 hz hN hF ?_ rv1 rv2 rv8 rv9 rt0 rx25 zBig rv6 rv7 rl_0 hW h
  · clear h 
    intro e6 e7 S38 re6 re7 hW38 h
    obtain ⟨x39, ex39, rx39, h⟩ := zl_ex h
    refine s_iinc (k0 := 5) (y := x39) (l' := [(8, aI x39), (0, aR 51), (1, aI v1), (2, aI v2), (6, aI e6), (7, aI e7)]) hz hN dX12_goes_253 rfl ex39.symm (by decide) rfl ?_
    refine s_goto 81 hz dX12_goes_256 rfl ?_
    refine s_pick (l' := [(0, aR 51), (1, aI v1), (2, aI v2), (6, aI e6), (7, aI e7), (8, aI x39)]) [1, 2, 3, 4, 5, 0] rfl ?_
    exact hk81 _ _ _ _ re6 re7 rx39 hW38 h
def J_X12_goes_130 (k81 : Int → Int → Int → HS → zO2) (v1 : Int) (v2 : Int) (v6 : Int) (v7 : Int) (v8 : Int) (t0 : Int) (S : HS) : zO2 :=
  zg ((0 : Int) ≤ v8 ∧ v8 < 1100) <|
  if S 59 v8 = 0 then (
    J_X12_goes_161 k81 v1 v2 v6 v7 v8 t0 0 S)
  else (
    zg ((0 : Int) ≤ v8 ∧ v8 < 1100) <|
    if S 59 v8 ≤ 0 then (
      J_X12_goes_161 k81 v1 v2 v6 v7 v8 t0 (-1) S)
    else (
      J_X12_goes_161 k81 v1 v2 v6 v7 v8 t0 1 S))
set_option maxHeartbeats 4000000 in
set_option maxRecDepth 20000 in
theorem TJ_X12_goes_130 {k81 : Int → Int → Int → HS → zO2} {v1 : Int} {v2 : Int} {v6 : Int} {v7 : Int} {v8 : Int} {t0 : Int} {S : HS} {r : Int} {S' : HS} {z : Zt} (hz : zO z cX12_goes RX12 1 shF) (hN : zN z 13) (hF : zFv z shF S') (hk81 : ∀ (w6 w7 w8 : Int) (S : HS), rng w6 → rng w7 → rng w8 → WR shF S → k81 w6 w7 w8 S = some (r, S') → zA z 81 [(0, aR 51), (1, aI v1), (2, aI v2), (6, aI w6), (7, aI w7), (8, aI w8)] [] S) (rv1 : rng v1) (rv2 : rng v2) (rv6 : rng v6) (rv7 : rng v7) (rv8 : rng v8) (rt0 : rng t0) (hW : WR shF S) (h : J_X12_goes_130 k81 v1 v2 v6 v7 v8 t0 S = some (r, S')) : zA z 130 [(0, aR 51), (1, aI v1), (2, aI v2), (6, aI v6), (7, aI v7), (8, aI v8)] [aI t0] S := by
  unfold J_X12_goes_130 at h
  refine s_istore (l' := [(9, aI t0), (0, aR 51), (1, aI v1), (2, aI v2), (6, aI v6), (7, aI v7), (8, aI v8)]) hz hN dX12_goes_130 (by decide) rfl ?_
  refine s_aload_n 1 hz dX12_goes_132 rfl ?_
  refine s_getR 13 hz fl_X12_59 sf51 rfl (by decide) dX12_goes_133 ?_
  refine s_iload 6 hz dX12_goes_136 rfl ?_
  obtain ⟨g19, h⟩ := zg_of h
  refine s_iald hz sf59 rfl (by decide) g19 dX12_goes_138 ?_
  refine s_if_ne 146 hz (hW 59 _ sf59 v8) dX12_goes_139 rfl (fun c20 => ?_) (fun c20 => ?_)
  · have h := zif_f c20 h
    refine s_aload_n 1 hz dX12_goes_146 rfl ?_
    refine s_getR 13 hz fl_X12_59 sf51 rfl (by decide) dX12_goes_147 ?_
    refine s_iload 6 hz dX12_goes_150 rfl ?_
    obtain ⟨g21, h⟩ := zg_of h
    refine s_iald hz sf59 rfl (by decide) g21 dX12_goes_152 ?_
    refine s_if_le 160 hz (hW 59 _ sf59 v8) dX12_goes_153 rfl (fun c22 => ?_) (fun c22 => ?_)
    · have h := zif_t c22 h
      refine s_iconst hz dX12_goes_160 ?_
      refine s_pick (l' := [(0, aR 51), (1, aI v1), (2, aI v2), (6, aI v6), (7, aI v7), (8, aI v8), (9, aI t0)]) [1, 2, 3, 4, 5, 6, 0] rfl ?_
      exact TJ_X12_goes_161 hz hN hF hk81 rv1 rv2 rv6 rv7 rv8 rt0 rl_m1 hW h
    · have h := zif_f c22 h
      refine s_iconst hz dX12_goes_156 ?_
      refine s_goto 161 hz dX12_goes_157 rfl ?_
      refine s_pick (l' := [(0, aR 51), (1, aI v1), (2, aI v2), (6, aI v6), (7, aI v7), (8, aI v8), (9, aI t0)]) [1, 2, 3, 4, 5, 6, 0] rfl ?_
      exact TJ_X12_goes_161 hz hN hF hk81 rv1 rv2 rv6 rv7 rv8 rt0 rl_1 hW h
  · have h := zif_t c20 h
    refine s_iconst hz dX12_goes_142 ?_
    refine s_goto 161 hz dX12_goes_143 rfl ?_
    refine s_pick (l' := [(0, aR 51), (1, aI v1), (2, aI v2), (6, aI v6), (7, aI v7), (8, aI v8), (9, aI t0)]) [1, 2, 3, 4, 5, 6, 0] rfl ?_
    exact TJ_X12_goes_161 hz hN hF hk81 rv1 rv2 rv6 rv7 rv8 rt0 rl_0 hW h
def J_X12_goes_121 (k81 : Int → Int → Int → HS → zO2) (v1 : Int) (v2 : Int) (v6 : Int) (v7 : Int) (v8 : Int) (t0 : Int) (S : HS) : zO2 :=
  if t0 = v2 then (
    J_X12_goes_130 k81 v1 v2 v6 v7 v8 (-1) S)
  else (
    J_X12_goes_130 k81 v1 v2 v6 v7 v8 1 S)
set_option maxHeartbeats 4000000 in
set_option maxRecDepth 20000 in
theorem TJ_X12_goes_121 {k81 : Int → Int → Int → HS → zO2} {v1 : Int} {v2 : Int} {v6 : Int} {v7 : Int} {v8 : Int} {t0 : Int} {S : HS} {r : Int} {S' : HS} {z : Zt} (hz : zO z cX12_goes RX12 1 shF) (hN : zN z 13) (hF : zFv z shF S') (hk81 : ∀ (w6 w7 w8 : Int) (S : HS), rng w6 → rng w7 → rng w8 → WR shF S → k81 w6 w7 w8 S = some (r, S') → zA z 81 [(0, aR 51), (1, aI v1), (2, aI v2), (6, aI w6), (7, aI w7), (8, aI w8)] [] S) (rv1 : rng v1) (rv2 : rng v2) (rv6 : rng v6) (rv7 : rng v7) (rv8 : rng v8) (rt0 : rng t0) (hW : WR shF S) (h : J_X12_goes_121 k81 v1 v2 v6 v7 v8 t0 S = some (r, S')) : zA z 121 [(0, aR 51), (1, aI v1), (2, aI v2), (6, aI v6), (7, aI v7), (8, aI v8)] [aI t0] S := by
  unfold J_X12_goes_121 at h
  refine s_iload_n 2 hz dX12_goes_121 rfl ?_
  refine s_icmp_eq 129 hz rt0 rv2 dX12_goes_122 rfl (fun c18 => ?_) (fun c18 => ?_)
  · have h := zif_t c18 h
    refine s_iconst hz dX12_goes_129 ?_
    exact TJ_X12_goes_130 hz hN hF hk81 rv1 rv2 rv6 rv7 rv8 rl_m1 hW h
  · have h := zif_f c18 h
    refine s_iconst hz dX12_goes_125 ?_
    refine s_goto 130 hz dX12_goes_126 rfl ?_
    exact TJ_X12_goes_130 hz hN hF hk81 rv1 rv2 rv6 rv7 rv8 rl_1 hW h
def L_X12_goes_81 (p1 : Int) (p2 : Int) : Nat → Int → Int → Int → HS → zO2
  | 0, _, _, _, _ => none
  | n + 1, v6, v7, v8, S => 
    zg ((0 : Int) ≤ p1 ∧ p1 < 1100) <|
    if S 60 p1 ≤ v8 then (
      some (0, S))
    else (
      zg ((0 : Int) ≤ v8 ∧ v8 < 1100) <|
      if S 58 v8 = 0 then (
        J_X12_goes_130 (L_X12_goes_81 p1 p2 n) p1 p2 v6 v7 v8 0 S)
      else (
        zg ((0 : Int) ≤ v8 ∧ v8 < 1100) <|
        if S 58 v8 ≤ 0 then (
          J_X12_goes_121 (L_X12_goes_81 p1 p2 n) p1 p2 v6 v7 v8 0 S)
        else (
          J_X12_goes_121 (L_X12_goes_81 p1 p2 n) p1 p2 v6 v7 v8 1 S)))
set_option maxHeartbeats 4000000 in
set_option maxRecDepth 20000 in
theorem TL_X12_goes_81 {p1 : Int} {p2 : Int} {r : Int} {S' : HS} {z : Zt} (hz : zO z cX12_goes RX12 1 shF) (hN : zN z 13) (hF : zFv z shF S') (rp1 : rng p1) (rp2 : rng p2) : ∀ (n : Nat) {v6 : Int} {v7 : Int} {v8 : Int} {S : HS}, rng v6 → rng v7 → rng v8 → WR shF S → L_X12_goes_81 p1 p2 n v6 v7 v8 S = some (r, S') → zA z 81 [(0, aR 51), (1, aI p1), (2, aI p2), (6, aI v6), (7, aI v7), (8, aI v8)] [] S := by
  intro n
  induction n with
  | zero =>
    intro _ _ _ _ _ _ _ _ h
    cases h
  | succ n ih =>
    intro v6 v7 v8 S rv6 rv7 rv8 hW h
    rw [L_X12_goes_81.eq_2] at h
    refine s_iload 5 hz dX12_goes_81 rfl ?_
    refine s_aload_n 0 hz dX12_goes_83 rfl ?_
    refine s_getR 14 hz fl_X12_62 sf51 rfl (by decide) dX12_goes_84 ?_
    refine s_iload_n 1 hz dX12_goes_87 rfl ?_
    obtain ⟨g12, h⟩ := zg_of h
    refine s_iald hz sf60 rfl (by decide) g12 dX12_goes_88 ?_
    refine s_icmp_ge 259 hz rv8 (hW 60 _ sf60 p1) dX12_goes_89 rfl (fun c13 => ?_) (fun c13 => ?_)
    · have h := zif_t c13 h
      exact s_vret h hz hF hW dX12_goes_259
    · have h := zif_f c13 h
      refine s_aload_n 0 hz dX12_goes_92 rfl ?_
      refine s_getR 12 hz fl_X12_56 sf51 rfl (by decide) dX12_goes_93 ?_
      refine s_iload 5 hz dX12_goes_96 rfl ?_
      obtain ⟨g14, h⟩ := zg_of h
      refine s_iald hz sf58 rfl (by decide) g14 dX12_goes_98 ?_
      refine s_if_ne 106 hz (hW 58 _ sf58 v8) dX12_goes_99 rfl (fun c15 => ?_) (fun c15 => ?_)
      · have h := zif_f c15 h
        refine s_aload_n 0 hz dX12_goes_106 rfl ?_
        refine s_getR 12 hz fl_X12_56 sf51 rfl (by decide) dX12_goes_107 ?_
        refine s_iload 5 hz dX12_goes_110 rfl ?_
        obtain ⟨g16, h⟩ := zg_of h
        refine s_iald hz sf58 rfl (by decide) g16 dX12_goes_112 ?_
        refine s_if_le 120 hz (hW 58 _ sf58 v8) dX12_goes_113 rfl (fun c17 => ?_) (fun c17 => ?_)
        · have h := zif_t c17 h
          refine s_iconst hz dX12_goes_120 ?_
          exact TJ_X12_goes_121 hz hN hF (fun _ _ _ _ => ih) rp1 rp2 rv6 rv7 rv8 rl_0 hW h
        · have h := zif_f c17 h
          refine s_iconst hz dX12_goes_116 ?_
          refine s_goto 121 hz dX12_goes_117 rfl ?_
          exact TJ_X12_goes_121 hz hN hF (fun _ _ _ _ => ih) rp1 rp2 rv6 rv7 rv8 rl_1 hW h
      · have h := zif_t c15 h
        refine s_iconst hz dX12_goes_102 ?_
        refine s_goto 130 hz dX12_goes_103 rfl ?_
        exact TJ_X12_goes_130 hz hN hF (fun _ _ _ _ => ih) rp1 rp2 rv6 rv7 rv8 rl_0 hW h
def J_X12_goes_40 (v1 : Int) (v2 : Int) (v3 : Int) (v4 : Int) (t0 : Int) (S : HS) : zO2 :=
  zl (t0 + v3) fun x5 =>
  zg ((0 : Int) ≤ v1 ∧ v1 < 1100) <|
  zl ((S 59 v1) + v4) fun x7 =>
  zs (up S 51 19 1) fun S8 =>
  zs (up S8 61 0 x5) fun S9 =>
  zs (up S9 62 0 x7) fun S10 =>
  zl (v1 + 1) fun x11 =>
  L_X12_goes_81 v1 v2 zBig x5 x7 x11 S10
set_option maxHeartbeats 4000000 in
set_option maxRecDepth 20000 in
theorem TJ_X12_goes_40 {v1 : Int} {v2 : Int} {v3 : Int} {v4 : Int} {t0 : Int} {S : HS} {r : Int} {S' : HS} {z : Zt} (hz : zO z cX12_goes RX12 1 shF) (hN : zN z 13) (hF : zFv z shF S') (rv1 : rng v1) (rv2 : rng v2) (rv3 : rng v3) (rv4 : rng v4) (rt0 : rng t0) (hW : WR shF S) (h : J_X12_goes_40 v1 v2 v3 v4 t0 S = some (r, S')) : zA z 40 [(0, aR 51), (1, aI v1), (2, aI v2), (3, aI v3), (4, aI v4)] [aI t0] S := by
  unfold J_X12_goes_40 at h
  refine s_iload_n 3 hz dX12_goes_40 rfl ?_
  refine s_iadd hz dX12_goes_41 ?_
  obtain ⟨x5, ex5, rx5, h⟩ := zl_ex h
  rw [← ex5]
  refine s_istore (l' := [(6, aI x5), (0, aR 51), (1, aI v1), (2, aI v2), (3, aI v3), (4, aI v4)]) hz hN dX12_goes_42 (by decide) rfl ?_
  refine s_aload_n 1 hz dX12_goes_44 rfl ?_
  refine s_getR 13 hz fl_X12_59 sf51 rfl (by decide) dX12_goes_45 ?_
  refine s_iload_n 2 hz dX12_goes_48 rfl ?_
  obtain ⟨g6, h⟩ := zg_of h
  refine s_iald hz sf59 rfl (by decide) g6 dX12_goes_49 ?_
  refine s_iload 5 hz dX12_goes_50 rfl ?_
  refine s_iadd hz dX12_goes_52 ?_
  obtain ⟨x7, ex7, rx7, h⟩ := zl_ex h
  rw [← ex7]
  refine s_istore (l' := [(7, aI x7), (6, aI x5), (0, aR 51), (1, aI v1), (2, aI v2), (3, aI v3), (4, aI v4)]) hz hN dX12_goes_53 (by decide) rfl ?_
  refine s_aload_n 2 hz dX12_goes_55 rfl ?_
  refine s_iconst hz dX12_goes_56 ?_
  obtain ⟨S8, eS8, h⟩ := zs_ex h
  have hW8 : WR shF S8 := by rw [eS8]; exact hW.up (i := 19) sf51 (v := 1) rl_1
  refine s_putI (kz := 19) 19 hz fp_X12_286 sf51 rfl rfl dX12_goes_57 ?_
  rw [← eS8]
  refine s_aload_n 2 hz dX12_goes_60 rfl ?_
  refine s_getR 20 hz fl_X12_65 sf51 rfl (by decide) dX12_goes_61 ?_
  refine s_iconst hz dX12_goes_64 ?_
  refine s_iload 1 hz dX12_goes_65 rfl ?_
  obtain ⟨S9, eS9, h⟩ := zs_ex h
  have hW9 : WR shF S9 := by rw [eS9]; exact hW8.up (i := 0) sf61 (v := x5) rx5
  refine s_iast hz sf61 rfl (by decide) (by decide) dX12_goes_67 ?_
  rw [← eS9]
  refine s_aload_n 2 hz dX12_goes_68 rfl ?_
  refine s_getR 21 hz fl_X12_68 sf51 rfl (by decide) dX12_goes_69 ?_
  refine s_iconst hz dX12_goes_72 ?_
  refine s_iload 0 hz dX12_goes_73 rfl ?_
  obtain ⟨S10, eS10, h⟩ := zs_ex h
  have hW10 : WR shF S10 := by rw [eS10]; exact hW9.up (i := 0) sf62 (v := x7) rx7
  refine s_iast hz sf62 rfl (by decide) (by decide) dX12_goes_75 ?_
  rw [← eS10]
  refine s_iload_n 3 hz dX12_goes_76 rfl ?_
  refine s_iconst hz dX12_goes_77 ?_
  refine s_iadd hz dX12_goes_78 ?_
  obtain ⟨x11, ex11, rx11, h⟩ := zl_ex h
  rw [← ex11]
  refine s_istore (l' := [(8, aI x11), (7, aI x7), (6, aI x5), (0, aR 51), (1, aI v1), (2, aI v2), (3, aI v3), (4, aI v4)]) hz hN dX12_goes_79 (by decide) rfl ?_
  refine s_pick (l' := [(0, aR 51), (1, aI v1), (2, aI v2), (6, aI x5), (7, aI x7), (8, aI x11)]) [3, 4, 5, 2, 1, 0] rfl ?_
  exact TL_X12_goes_81 hz hN hF rv1 rv2 zBig rx5 rx7 rx11 hW10 h
def J_X12_goes_16 (v1 : Int) (v2 : Int) (v3 : Int) (v4 : Int) (t0 : Int) (S : HS) : zO2 :=
  if v2 = 0 then (
    zg ((0 : Int) ≤ v1 ∧ v1 < 1100) <|
    J_X12_goes_40 v1 v2 v3 v4 (S 58 v1) S)
  else (
    zg ((0 : Int) ≤ v1 ∧ v1 < 1100) <|
    zl (t0 - (S 58 v1)) fun x41 =>
    J_X12_goes_40 v1 v2 v3 v4 x41 S)
set_option maxHeartbeats 4000000 in
set_option maxRecDepth 20000 in
theorem TJ_X12_goes_16 {v1 : Int} {v2 : Int} {v3 : Int} {v4 : Int} {t0 : Int} {S : HS} {r : Int} {S' : HS} {z : Zt} (hz : zO z cX12_goes RX12 1 shF) (hN : zN z 13) (hF : zFv z shF S') (rv1 : rng v1) (rv2 : rng v2) (rv3 : rng v3) (rv4 : rng v4) (rt0 : rng t0) (hW : WR shF S) (h : J_X12_goes_16 v1 v2 v3 v4 t0 S = some (r, S')) : zA z 16 [(0, aR 51), (1, aI v1), (2, aI v2), (3, aI v3), (4, aI v4)] [aI t0] S := by
  unfold J_X12_goes_16 at h
  refine s_istore (l' := [(5, aI t0), (0, aR 51), (1, aI v1), (2, aI v2), (3, aI v3), (4, aI v4)]) hz hN dX12_goes_16 (by decide) rfl ?_
  refine s_iload_n 3 hz dX12_goes_18 rfl ?_
  refine s_if_eq 34 hz rv2 dX12_goes_19 rfl (fun c3 => ?_) (fun c3 => ?_)
  · have h := zif_t c3 h
    refine s_aload_n 1 hz dX12_goes_34 rfl ?_
    refine s_getR 12 hz fl_X12_56 sf51 rfl (by decide) dX12_goes_35 ?_
    refine s_iload_n 2 hz dX12_goes_38 rfl ?_
    obtain ⟨g4, h⟩ := zg_of h
    refine s_iald hz sf58 rfl (by decide) g4 dX12_goes_39 ?_
    refine s_pick (l' := [(0, aR 51), (1, aI v1), (2, aI v2), (3, aI v3), (4, aI v4)]) [1, 2, 3, 4, 5] rfl ?_
    exact TJ_X12_goes_40 hz hN hF rv1 rv2 rv3 rv4 (hW 58 _ sf58 v1) hW h
  · have h := zif_f c3 h
    refine s_iload 0 hz dX12_goes_22 rfl ?_
    refine s_aload_n 1 hz dX12_goes_24 rfl ?_
    refine s_getR 12 hz fl_X12_56 sf51 rfl (by decide) dX12_goes_25 ?_
    refine s_iload_n 2 hz dX12_goes_28 rfl ?_
    obtain ⟨g40, h⟩ := zg_of h
    refine s_iald hz sf58 rfl (by decide) g40 dX12_goes_29 ?_
    refine s_isub hz dX12_goes_30 ?_
    refine s_goto 40 hz dX12_goes_31 rfl ?_
    obtain ⟨x41, ex41, rx41, h⟩ := zl_ex h
    rw [← ex41]
    refine s_pick (l' := [(0, aR 51), (1, aI v1), (2, aI v2), (3, aI v3), (4, aI v4)]) [1, 2, 3, 4, 5] rfl ?_
    exact TJ_X12_goes_40 hz hN hF rv1 rv2 rv3 rv4 rx41 hW h
def M_X12_goes (a1 : Int) (a2 : Int) (a3 : Int) (a4 : Int) (S : HS) : zO2 :=
  zg ((0 : Int) ≤ a1 ∧ a1 < 1100) <|
  if S 57 a1 = 0 then (
    J_X12_goes_16 a1 a2 a3 a4 16 S)
  else (
    J_X12_goes_16 a1 a2 a3 a4 15 S)
set_option maxHeartbeats 4000000 in
set_option maxRecDepth 20000 in
theorem T_X12_goes {a1 : Int} {a2 : Int} {a3 : Int} {a4 : Int} {S S' : HS} {r : Int} (ra1 : rng a1) (ra2 : rng a2) (ra3 : rng a3) (ra4 : rng a4) (hW : WR shF S) (h : M_X12_goes a1 a2 a3 a4 S = some (r, S')) : zV shF yX12_goes cX12_goes 13 1 [aR 51, aI a1, aI a2, aI a3, aI a4] S S' := by
  refine zV_of (by decide +kernel) (Nat.le_of_ble_eq_true rfl) (fun z hz hN hF => ?_)
  have hz : zO z cX12_goes RX12 1 shF := hz
  show zA z 0 [(0, aR 51), (1, aI a1), (2, aI a2), (3, aI a3), (4, aI a4)] [] S
  unfold M_X12_goes at h
  refine s_aload_n 0 hz dX12_goes_0 rfl ?_
  refine s_getR 11 hz fl_X12_53 sf51 rfl (by decide) dX12_goes_1 ?_
  refine s_iload_n 1 hz dX12_goes_4 rfl ?_
  obtain ⟨g1, h⟩ := zg_of h
  refine s_iald hz sf57 rfl (by decide) g1 dX12_goes_5 ?_
  refine s_if_ne 14 hz (hW 57 _ sf57 a1) dX12_goes_6 rfl (fun c2 => ?_) (fun c2 => ?_)
  · have h := zif_f c2 h
    refine s_bipush hz dX12_goes_14 bp_15 ?_
    exact TJ_X12_goes_16 hz hN hF ra1 ra2 ra3 ra4 rl_15 hW h
  · have h := zif_t c2 h
    refine s_bipush hz dX12_goes_9 bp_16 ?_
    refine s_goto 16 hz dX12_goes_11 rfl ?_
    exact TJ_X12_goes_16 hz hN hF ra1 ra2 ra3 ra4 rl_16 hW h
def M_X12_isCell (a1 : Int) (a2 : Int) (S : HS) : zO2 :=
  if a1 < 0 then (
    some (0, S))
  else (
    if 16 ≤ a1 then (
      some (0, S))
    else (
      if a2 < 0 then (
        some (0, S))
      else (
        if 12 ≤ a2 then (
          some (0, S))
        else (
          some (1, S)))))
set_option maxHeartbeats 4000000 in
set_option maxRecDepth 20000 in
theorem T_X12_isCell {a1 : Int} {a2 : Int} {S S' : HS} {r : Int} (ra1 : rng a1) (ra2 : rng a2) (hW : WR shF S) (h : M_X12_isCell a1 a2 S = some (r, S')) : zR shF yX12_isCell cX12_isCell 2  .boolean 1 [aI a1, aI a2] S r S' := by
  refine zR_of (by decide +kernel) (Nat.le_of_ble_eq_true rfl) (fun z hz hN hF => ?_)
  have hz : zO z cX12_isCell RX12 1 shF := hz
  show zA z 0 [(0, aI a1), (1, aI a2)] [] S
  unfold M_X12_isCell at h
  refine s_iload_n 0 hz dX12_isCell_0 rfl ?_
  refine s_if_lt 24 hz ra1 dX12_isCell_1 rfl (fun c1 => ?_) (fun c1 => ?_)
  · have h := zif_t c1 h
    refine s_iconst hz dX12_isCell_24 ?_
    exact s_zret h hz hF (by decide) hW dX12_isCell_25
  · have h := zif_f c1 h
    refine s_iload_n 0 hz dX12_isCell_4 rfl ?_
    refine s_bipush hz dX12_isCell_5 bp_16 ?_
    refine s_icmp_ge 24 hz ra1 rl_16 dX12_isCell_7 rfl (fun c2 => ?_) (fun c2 => ?_)
    · have h := zif_t c2 h
      refine s_iconst hz dX12_isCell_24 ?_
      exact s_zret h hz hF (by decide) hW dX12_isCell_25
    · have h := zif_f c2 h
      refine s_iload_n 1 hz dX12_isCell_10 rfl ?_
      refine s_if_lt 24 hz ra2 dX12_isCell_11 rfl (fun c3 => ?_) (fun c3 => ?_)
      · have h := zif_t c3 h
        refine s_iconst hz dX12_isCell_24 ?_
        exact s_zret h hz hF (by decide) hW dX12_isCell_25
      · have h := zif_f c3 h
        refine s_iload_n 1 hz dX12_isCell_14 rfl ?_
        refine s_bipush hz dX12_isCell_15 bp_12 ?_
        refine s_icmp_ge 24 hz ra2 rl_12 dX12_isCell_17 rfl (fun c4 => ?_) (fun c4 => ?_)
        · have h := zif_t c4 h
          refine s_iconst hz dX12_isCell_24 ?_
          exact s_zret h hz hF (by decide) hW dX12_isCell_25
        · have h := zif_f c4 h
          refine s_iconst hz dX12_isCell_20 ?_
          refine s_goto 25 hz dX12_isCell_21 rfl ?_
          exact s_zret h hz hF (by decide) hW dX12_isCell_25
def M_X12_isScalp (a1 : Int) (a2 : Int) (S : HS) : zO2 :=
  zb (M_X12_isCell a1 a2 S) fun r1 S2 =>
  if r1 = 0 then (
    some (0, S2))
  else (
    zg ((0 : Int) ≤ (16 * a2) + a1 ∧ (16 * a2) + a1 < 192) <|
    if S2 67 ((16 * a2) + a1) < 0 then (
      some (0, S2))
    else (
      some (1, S2)))
set_option maxHeartbeats 4000000 in
set_option maxRecDepth 20000 in
theorem T_X12_isScalp {a1 : Int} {a2 : Int} {S S' : HS} {r : Int} (ra1 : rng a1) (ra2 : rng a2) (hW : WR shF S) (h : M_X12_isScalp a1 a2 S = some (r, S')) : zR shF yX12_isScalp cX12_isScalp 3  .boolean 2 [aR 51, aI a1, aI a2] S r S' := by
  refine zR_of (by decide +kernel) (Nat.le_of_ble_eq_true rfl) (fun z hz hN hF => ?_)
  have hz : zO z cX12_isScalp RX12 2 shF := hz
  show zA z 0 [(0, aR 51), (1, aI a1), (2, aI a2)] [] S
  unfold M_X12_isScalp at h
  refine s_iload_n 1 hz dX12_isScalp_0 rfl ?_
  refine s_iload_n 2 hz dX12_isScalp_1 rfl ?_
  obtain ⟨r1, S2, hc2, h⟩ := zb_of h
  refine s_callS [aI a1, aI a2] [] hz ml_X12_311 ss_yX12_isCell (T_X12_isCell ra1 ra2 hW hc2) (by decide) rfl rfl (Nat.le_of_ble_eq_true rfl) dX12_isScalp_2 (fun rr1 hW2 => ?_)
  refine s_if_eq 26 hz rr1 dX12_isScalp_5 rfl (fun c3 => ?_) (fun c3 => ?_)
  · have h := zif_t c3 h
    refine s_iconst hz dX12_isScalp_26 ?_
    exact s_zret h hz hF (by decide) hW2 dX12_isScalp_27
  · have h := zif_f c3 h
    refine s_aload_n 0 hz dX12_isScalp_8 rfl ?_
    refine s_getR 28 hz fl_X12_84 sf51 rfl (by decide) dX12_isScalp_9 ?_
    refine s_bipush hz dX12_isScalp_12 bp_16 ?_
    refine s_iload_n 2 hz dX12_isScalp_14 rfl ?_
    refine s_imul hz dX12_isScalp_15 ?_
    refine s_iload_n 1 hz dX12_isScalp_16 rfl ?_
    refine s_iadd hz dX12_isScalp_17 ?_
    obtain ⟨g4, h⟩ := zg_of h
    refine s_iald hz sf67 rfl (by decide) g4 dX12_isScalp_18 ?_
    refine s_if_lt 26 hz (hW2 67 _ sf67 ((16 * a2) + a1)) dX12_isScalp_19 rfl (fun c5 => ?_) (fun c5 => ?_)
    · have h := zif_t c5 h
      refine s_iconst hz dX12_isScalp_26 ?_
      exact s_zret h hz hF (by decide) hW2 dX12_isScalp_27
    · have h := zif_f c5 h
      refine s_iconst hz dX12_isScalp_22 ?_
      refine s_goto 27 hz dX12_isScalp_23 rfl ?_
      exact s_zret h hz hF (by decide) hW2 dX12_isScalp_27
def J_X12_isParted_55 (v1 : Int) (t0 : Int) (t1 : Int) (S : HS) : zO2 :=
  zg ((0 : Int) ≤ (t1 * t0) + v1 ∧ (t1 * t0) + v1 < 208) <|
  if S 63 ((t1 * t0) + v1) ≤ 0 then (
    some (0, S))
  else (
    some (1, S))
set_option maxHeartbeats 4000000 in
set_option maxRecDepth 20000 in
theorem TJ_X12_isParted_55 {v1 : Int} {t0 : Int} {t1 : Int} {S : HS} {r : Int} {S' : HS} {z : Zt} (hz : zO z cX12_isParted RX12 1 shF) (hN : zN z 5) (hF : zFi z shF .boolean r S') (rv1 : rng v1) (rt0 : rng t0) (rt1 : rng t1) (hW : WR shF S) (h : J_X12_isParted_55 v1 t0 t1 S = some (r, S')) : zA z 55 [(1, aI v1)] [aI t0, aI t1, aR 63] S := by
  unfold J_X12_isParted_55 at h
  refine s_imul hz dX12_isParted_55 ?_
  refine s_iload_n 0 hz dX12_isParted_56 rfl ?_
  refine s_iadd hz dX12_isParted_57 ?_
  obtain ⟨g3, h⟩ := zg_of h
  refine s_iald hz sf63 rfl (by decide) g3 dX12_isParted_58 ?_
  refine s_if_le 66 hz (hW 63 _ sf63 ((t1 * t0) + v1)) dX12_isParted_59 rfl (fun c4 => ?_) (fun c4 => ?_)
  · have h := zif_t c4 h
    refine s_iconst hz dX12_isParted_66 ?_
    exact s_zret h hz hF (by decide) hW dX12_isParted_67
  · have h := zif_f c4 h
    refine s_iconst hz dX12_isParted_62 ?_
    refine s_goto 67 hz dX12_isParted_63 rfl ?_
    exact s_zret h hz hF (by decide) hW dX12_isParted_67
def J_X12_isParted_24 (t0 : Int) (t1 : Int) (S : HS) : zO2 :=
  zg ((0 : Int) ≤ t1 + t0 ∧ t1 + t0 < 204) <|
  if S 64 (t1 + t0) ≤ 0 then (
    some (0, S))
  else (
    some (1, S))
set_option maxHeartbeats 4000000 in
set_option maxRecDepth 20000 in
theorem TJ_X12_isParted_24 {t0 : Int} {t1 : Int} {S : HS} {r : Int} {S' : HS} {z : Zt} (hz : zO z cX12_isParted RX12 1 shF) (hN : zN z 5) (hF : zFi z shF .boolean r S') (rt0 : rng t0) (rt1 : rng t1) (hW : WR shF S) (h : J_X12_isParted_24 t0 t1 S = some (r, S')) : zA z 24 [] [aI t0, aI t1, aR 64] S := by
  unfold J_X12_isParted_24 at h
  refine s_iadd hz dX12_isParted_24 ?_
  obtain ⟨g7, h⟩ := zg_of h
  refine s_iald hz sf64 rfl (by decide) g7 dX12_isParted_25 ?_
  refine s_if_le 33 hz (hW 64 _ sf64 (t1 + t0)) dX12_isParted_26 rfl (fun c8 => ?_) (fun c8 => ?_)
  · have h := zif_t c8 h
    refine s_iconst hz dX12_isParted_33 ?_
    refine s_goto 67 hz dX12_isParted_34 rfl ?_
    exact s_zret h hz hF (by decide) hW dX12_isParted_67
  · have h := zif_f c8 h
    refine s_iconst hz dX12_isParted_29 ?_
    refine s_goto 67 hz dX12_isParted_30 rfl ?_
    exact s_zret h hz hF (by decide) hW dX12_isParted_67
def M_X12_isParted (a1 : Int) (a2 : Int) (a3 : Int) (a4 : Int) (S : HS) : zO2 :=
  if a2 = a4 then (
    if a1 ≤ a3 then (
      zl (17 * a2) fun x6 =>
      J_X12_isParted_24 a3 x6 S)
    else (
      zl (17 * a2) fun x9 =>
      J_X12_isParted_24 a1 x9 S))
  else (
    if a2 ≤ a4 then (
      J_X12_isParted_55 a1 a4 16 S)
    else (
      J_X12_isParted_55 a1 a2 16 S))
set_option maxHeartbeats 4000000 in
set_option maxRecDepth 20000 in
theorem T_X12_isParted {a1 : Int} {a2 : Int} {a3 : Int} {a4 : Int} {S S' : HS} {r : Int} (ra1 : rng a1) (ra2 : rng a2) (ra3 : rng a3) (ra4 : rng a4) (hW : WR shF S) (h : M_X12_isParted a1 a2 a3 a4 S = some (r, S')) : zR shF yX12_isParted cX12_isParted 5  .boolean 1 [aR 51, aI a1, aI a2, aI a3, aI a4] S r S' := by
  refine zR_of (by decide +kernel) (Nat.le_of_ble_eq_true rfl) (fun z hz hN hF => ?_)
  have hz : zO z cX12_isParted RX12 1 shF := hz
  show zA z 0 [(0, aR 51), (1, aI a1), (2, aI a2), (3, aI a3), (4, aI a4)] [] S
  unfold M_X12_isParted at h
  refine s_iload_n 2 hz dX12_isParted_0 rfl ?_
  refine s_iload 4 hz dX12_isParted_1 rfl ?_
  refine s_icmp_ne 37 hz ra2 ra4 dX12_isParted_3 rfl (fun c1 => ?_) (fun c1 => ?_)
  · have h := zif_f c1 h
    refine s_aload_n 0 hz dX12_isParted_37 rfl ?_
    refine s_getR 23 hz fl_X12_71 sf51 rfl (by decide) dX12_isParted_38 ?_
    refine s_bipush hz dX12_isParted_41 bp_16 ?_
    refine s_iload_n 2 hz dX12_isParted_43 rfl ?_
    refine s_iload 4 hz dX12_isParted_44 rfl ?_
    refine s_icmp_le 53 hz ra2 ra4 dX12_isParted_46 rfl (fun c2 => ?_) (fun c2 => ?_)
    · have h := zif_t c2 h
      refine s_iload 4 hz dX12_isParted_53 rfl ?_
      refine s_pick (l' := [(1, aI a1)]) [1] rfl ?_
      exact TJ_X12_isParted_55 hz hN hF ra1 ra4 rl_16 hW h
    · have h := zif_f c2 h
      refine s_iload_n 2 hz dX12_isParted_49 rfl ?_
      refine s_goto 55 hz dX12_isParted_50 rfl ?_
      refine s_pick (l' := [(1, aI a1)]) [1] rfl ?_
      exact TJ_X12_isParted_55 hz hN hF ra1 ra2 rl_16 hW h
  · have h := zif_t c1 h
    refine s_aload_n 0 hz dX12_isParted_6 rfl ?_
    refine s_getR 24 hz fl_X12_74 sf51 rfl (by decide) dX12_isParted_7 ?_
    refine s_bipush hz dX12_isParted_10 bp_17 ?_
    refine s_iload_n 2 hz dX12_isParted_12 rfl ?_
    refine s_imul hz dX12_isParted_13 ?_
    refine s_iload_n 1 hz dX12_isParted_14 rfl ?_
    refine s_iload_n 3 hz dX12_isParted_15 rfl ?_
    refine s_icmp_le 23 hz ra1 ra3 dX12_isParted_16 rfl (fun c5 => ?_) (fun c5 => ?_)
    · have h := zif_t c5 h
      refine s_iload_n 3 hz dX12_isParted_23 rfl ?_
      obtain ⟨x6, ex6, rx6, h⟩ := zl_ex h
      rw [← ex6]
      refine s_pick (l' := []) [] rfl ?_
      exact TJ_X12_isParted_24 hz hN hF ra3 rx6 hW h
    · have h := zif_f c5 h
      refine s_iload_n 1 hz dX12_isParted_19 rfl ?_
      refine s_goto 24 hz dX12_isParted_20 rfl ?_
      obtain ⟨x9, ex9, rx9, h⟩ := zl_ex h
      rw [← ex9]
      refine s_pick (l' := []) [] rfl ?_
      exact TJ_X12_isParted_24 hz hN hF ra1 rx9 hW h
def L_X12_frees_2 (p1 : Int) (p2 : Int) : Nat → Int → HS → zO2
  | 0, _, _ => none
  | n + 1, v3, S => 
    if p1 ≤ v3 then (
      some (p2, S))
    else (
      zg ((0 : Int) ≤ (192 * (S 51 27)) + v3 ∧ (192 * (S 51 27)) + v3 < 4608) <|
      zg ((0 : Int) ≤ S 70 ((192 * (S 51 27)) + v3) ∧ S 70 ((192 * (S 51 27)) + v3) < 192) <|
      zs (up S 68 (S 70 ((192 * (S 51 27)) + v3)) (-1)) fun S4 =>
      zl (v3 + 1) fun x5 =>
      L_X12_frees_2 p1 p2 n x5 S4)
set_option maxHeartbeats 4000000 in
set_option maxRecDepth 20000 in
theorem TL_X12_frees_2 {p1 : Int} {p2 : Int} {r : Int} {S' : HS} {z : Zt} (hz : zO z cX12_frees RX12 1 shF) (hN : zN z 4) (hF : zFi z shF .int r S') (rp1 : rng p1) (rp2 : rng p2) : ∀ (n : Nat) {v3 : Int} {S : HS}, rng v3 → WR shF S → L_X12_frees_2 p1 p2 n v3 S = some (r, S') → zA z 2 [(0, aR 51), (1, aI p1), (2, aI p2), (3, aI v3)] [] S := by
  intro n
  induction n with
  | zero =>
    intro _ _ _ _ h
    cases h
  | succ n ih =>
    intro v3 S rv3 hW h
    rw [L_X12_frees_2.eq_2] at h
    refine s_iload_n 3 hz dX12_frees_2 rfl ?_
    refine s_iload_n 1 hz dX12_frees_3 rfl ?_
    refine s_icmp_ge 34 hz rv3 rp1 dX12_frees_4 rfl (fun c1 => ?_) (fun c1 => ?_)
    · have h := zif_t c1 h
      refine s_iload_n 2 hz dX12_frees_34 rfl ?_
      exact s_iret h hz hF rp2 hW dX12_frees_35
    · have h := zif_f c1 h
      refine s_aload_n 0 hz dX12_frees_7 rfl ?_
      refine s_getR 29 hz fl_X12_87 sf51 rfl (by decide) dX12_frees_8 ?_
      refine s_aload_n 0 hz dX12_frees_11 rfl ?_
      refine s_getR 31 hz fl_X12_93 sf51 rfl (by decide) dX12_frees_12 ?_
      refine s_sipush hz dX12_frees_15 sp_192 ?_
      refine s_aload_n 0 hz dX12_frees_18 rfl ?_
      refine s_getI (kz := 27) 27 hz fl_X12_256 sf51 rfl rfl dX12_frees_19 ?_
      refine s_imul hz dX12_frees_22 ?_
      refine s_iload_n 3 hz dX12_frees_23 rfl ?_
      refine s_iadd hz dX12_frees_24 ?_
      obtain ⟨g2, h⟩ := zg_of h
      refine s_iald hz sf70 rfl (by decide) g2 dX12_frees_25 ?_
      refine s_iconst hz dX12_frees_26 ?_
      obtain ⟨g3, h⟩ := zg_of h
      obtain ⟨S4, eS4, h⟩ := zs_ex h
      have hW4 : WR shF S4 := by rw [eS4]; exact hW.up (i := (S 70 ((192 * (S 51 27)) + v3))) sf68 (v := (-1)) rl_m1
      refine s_iast hz sf68 rfl (by decide) g3 dX12_frees_27 ?_
      rw [← eS4]
      obtain ⟨x5, ex5, rx5, h⟩ := zl_ex h
      refine s_iinc (k0 := 3) (y := x5) (l' := [(3, aI x5), (0, aR 51), (1, aI p1), (2, aI p2)]) hz hN dX12_frees_28 rfl ex5.symm (by decide) rfl ?_
      refine s_goto 2 hz dX12_frees_31 rfl ?_
      refine s_pick (l' := [(0, aR 51), (1, aI p1), (2, aI p2), (3, aI x5)]) [1, 2, 3, 0] rfl ?_
      exact ih rx5 hW4 h
def M_X12_frees (a1 : Int) (a2 : Int) (S : HS) : zO2 :=
  L_X12_frees_2 a1 a2 zBig 0 S
set_option maxHeartbeats 4000000 in
set_option maxRecDepth 20000 in
theorem T_X12_frees {a1 : Int} {a2 : Int} {S S' : HS} {r : Int} (ra1 : rng a1) (ra2 : rng a2) (hW : WR shF S) (h : M_X12_frees a1 a2 S = some (r, S')) : zR shF yX12_frees cX12_frees 4  .int 1 [aR 51, aI a1, aI a2] S r S' := by
  refine zR_of (by decide +kernel) (Nat.le_of_ble_eq_true rfl) (fun z hz hN hF => ?_)
  have hz : zO z cX12_frees RX12 1 shF := hz
  show zA z 0 [(0, aR 51), (1, aI a1), (2, aI a2)] [] S
  unfold M_X12_frees at h
  refine s_iconst hz dX12_frees_0 ?_
  refine s_istore_n (l' := [(3, aI 0), (0, aR 51), (1, aI a1), (2, aI a2)]) hz hN dX12_frees_1 (by decide) rfl ?_
  refine s_pick (l' := [(0, aR 51), (1, aI a1), (2, aI a2), (3, aI 0)]) [1, 2, 3, 0] rfl ?_
  exact TL_X12_frees_2 hz hN hF ra1 ra2 zBig rl_0 hW h
def J_X12_rowing_89 (k14 : Int → HS → zO2) (k103 : Int → HS → zO2) (v1 : Int) (v2 : Int) (v3 : Int) (S : HS) : zO2 :=
  zg ((0 : Int) ≤ (16 * v3) + v2 ∧ (16 * v3) + v2 < 192) <|
  if S 68 ((16 * v3) + v2) < 0 then (
    zg ((0 : Int) ≤ (16 * v3) + v2 ∧ (16 * v3) + v2 < 192) <|
    zs (up S 68 ((16 * v3) + v2) (S 51 27)) fun S12 =>
    zl ((16 * v3) + v2) fun x13 =>
    zg ((0 : Int) ≤ (192 * (S12 51 27)) + v1 ∧ (192 * (S12 51 27)) + v1 < 4608) <|
    zs (up S12 70 ((192 * (S12 51 27)) + v1) x13) fun S15 =>
    zl (v1 + 1) fun x16 =>
    k14 x16 S15)
  else (
    k103 v1 S)
set_option maxHeartbeats 4000000 in
set_option maxRecDepth 20000 in
theorem TJ_X12_rowing_89 {k14 : Int → HS → zO2} {k103 : Int → HS → zO2} {v1 : Int} {v2 : Int} {v3 : Int} {S : HS} {r : Int} {S' : HS} {z : Zt} (hz : zO z cX12_rowing RX12 3 shF) (hN : zN z 4) (hF : zFi z shF .int r S') (hk14 : ∀ (w1 : Int) (S : HS), rng w1 → WR shF S → k14 w1 S = some (r, S') → zA z 14 [(0, aR 51), (1, aI w1)] [] S) (hk103 : ∀ (w1 : Int) (S : HS), rng w1 → WR shF S → k103 w1 S = some (r, S') → zA z 103 [(0, aR 51), (1, aI w1)] [] S) (rv1 : rng v1) (rv2 : rng v2) (rv3 : rng v3) (hW : WR shF S) (h : J_X12_rowing_89 k14 k103 v1 v2 v3 S = some (r, S')) : zA z 89 [(0, aR 51), (1, aI v1), (2, aI v2), (3, aI v3)] [] S := by
  unfold J_X12_rowing_89 at h
  refine s_aload_n 0 hz dX12_rowing_89 rfl ?_
  refine s_getR 29 hz fl_X12_87 sf51 rfl (by decide) dX12_rowing_90 ?_
  refine s_bipush hz dX12_rowing_93 bp_16 ?_
  refine s_iload_n 3 hz dX12_rowing_95 rfl ?_
  refine s_imul hz dX12_rowing_96 ?_
  refine s_iload_n 2 hz dX12_rowing_97 rfl ?_
  refine s_iadd hz dX12_rowing_98 ?_
  obtain ⟨g9, h⟩ := zg_of h
  refine s_iald hz sf68 rfl (by decide) g9 dX12_rowing_99 ?_
  refine s_if_lt 111 hz (hW 68 _ sf68 ((16 * v3) + v2)) dX12_rowing_100 rfl (fun c10 => ?_) (fun c10 => ?_)
  · have h := zif_t c10 h
    refine s_aload_n 0 hz dX12_rowing_111 rfl ?_
    refine s_getR 29 hz fl_X12_87 sf51 rfl (by decide) dX12_rowing_112 ?_
    refine s_bipush hz dX12_rowing_115 bp_16 ?_
    refine s_iload_n 3 hz dX12_rowing_117 rfl ?_
    refine s_imul hz dX12_rowing_118 ?_
    refine s_iload_n 2 hz dX12_rowing_119 rfl ?_
    refine s_iadd hz dX12_rowing_120 ?_
    refine s_aload_n 0 hz dX12_rowing_121 rfl ?_
    refine s_getI (kz := 27) 27 hz fl_X12_256 sf51 rfl rfl dX12_rowing_122 ?_
    obtain ⟨g11, h⟩ := zg_of h
    obtain ⟨S12, eS12, h⟩ := zs_ex h
    have hW12 : WR shF S12 := by rw [eS12]; exact hW.up (i := ((16 * v3) + v2)) sf68 (v := (S 51 27)) (hW 51 _ sf51 27)
    refine s_iast hz sf68 rfl (by decide) g11 dX12_rowing_125 ?_
    rw [← eS12]
    refine s_aload_n 0 hz dX12_rowing_126 rfl ?_
    refine s_getR 31 hz fl_X12_93 sf51 rfl (by decide) dX12_rowing_127 ?_
    refine s_sipush hz dX12_rowing_130 sp_192 ?_
    refine s_aload_n 0 hz dX12_rowing_133 rfl ?_
    refine s_getI (kz := 27) 27 hz fl_X12_256 sf51 rfl rfl dX12_rowing_134 ?_
    refine s_imul hz dX12_rowing_137 ?_
    refine s_iload_n 1 hz dX12_rowing_138 rfl ?_
    refine s_iadd hz dX12_rowing_139 ?_
    refine s_bipush hz dX12_rowing_140 bp_16 ?_
    refine s_iload_n 3 hz dX12_rowing_142 rfl ?_
    refine s_imul hz dX12_rowing_143 ?_
    refine s_iload_n 2 hz dX12_rowing_144 rfl ?_
    refine s_iadd hz dX12_rowing_145 ?_
    obtain ⟨x13, ex13, rx13, h⟩ := zl_ex h
    rw [← ex13]
    obtain ⟨g14, h⟩ := zg_of h
    obtain ⟨S15, eS15, h⟩ := zs_ex h
    have hW15 : WR shF S15 := by rw [eS15]; exact hW12.up (i := ((192 * (S12 51 27)) + v1)) sf70 (v := x13) rx13
    refine s_iast hz sf70 rfl (by decide) g14 dX12_rowing_146 ?_
    rw [← eS15]
    obtain ⟨x16, ex16, rx16, h⟩ := zl_ex h
    refine s_iinc (k0 := 1) (y := x16) (l' := [(1, aI x16), (0, aR 51), (2, aI v2), (3, aI v3)]) hz hN dX12_rowing_147 rfl ex16.symm (by decide) rfl ?_
    refine s_goto 14 hz dX12_rowing_150 rfl ?_
    refine s_pick (l' := [(0, aR 51), (1, aI x16)]) [1, 0] rfl ?_
    exact hk14 _ _ rx16 hW15 h
  · have h := zif_f c10 h
    refine s_pick (l' := [(0, aR 51), (1, aI v1)]) [0, 1] rfl ?_
    exact hk103 _ _ rv1 hW h
def L_X12_rowing_14 (k45 : Int → HS → zO2) (k81 : Int → HS → zO2) (k103 : Int → HS → zO2) (k153 : HS → zO2) : Nat → Int → HS → zO2
  | 0, _, _ => none
  | n + 1, v1, S => 
    if S 51 19 ≤ v1 then (
      k153 S)
    else (
      zg ((0 : Int) ≤ v1 ∧ v1 < 4100) <|
      zg ((0 : Int) ≤ v1 ∧ v1 < 4100) <|
      zb (M_X12_isScalp (S 61 v1) (S 62 v1) S) fun r5 S6 =>
      if r5 = 0 then (
        k45 v1 S6)
      else (
        if v1 ≤ 0 then (
          J_X12_rowing_89 (L_X12_rowing_14 k45 k81 k103 k153 n) k103 v1 (S 61 v1) (S 62 v1) S6)
        else (
          zg ((0 : Int) ≤ v1 - 1 ∧ v1 - 1 < 4100) <|
          zg ((0 : Int) ≤ v1 - 1 ∧ v1 - 1 < 4100) <|
          zb (M_X12_isParted (S 61 v1) (S 62 v1) (S6 61 (v1 - 1)) (S6 62 (v1 - 1)) S6) fun r19 S20 =>
          if r19 = 0 then (
            J_X12_rowing_89 (L_X12_rowing_14 k45 k81 k103 k153 n) k103 v1 (S 61 v1) (S 62 v1) S20)
          else (
            k81 v1 S20))))
set_option maxHeartbeats 4000000 in
set_option maxRecDepth 20000 in
theorem TL_X12_rowing_14 {k45 : Int → HS → zO2} {k81 : Int → HS → zO2} {k103 : Int → HS → zO2} {k153 : HS → zO2} {r : Int} {S' : HS} {z : Zt} (hz : zO z cX12_rowing RX12 3 shF) (hN : zN z 4) (hF : zFi z shF .int r S') (hk45 : ∀ (w1 : Int) (S : HS), rng w1 → WR shF S → k45 w1 S = some (r, S') → zA z 45 [(0, aR 51), (1, aI w1)] [] S) (hk81 : ∀ (w1 : Int) (S : HS), rng w1 → WR shF S → k81 w1 S = some (r, S') → zA z 81 [(0, aR 51), (1, aI w1)] [] S) (hk103 : ∀ (w1 : Int) (S : HS), rng w1 → WR shF S → k103 w1 S = some (r, S') → zA z 103 [(0, aR 51), (1, aI w1)] [] S) (hk153 : ∀ (S : HS), WR shF S → k153 S = some (r, S') → zA z 153 [(0, aR 51)] [] S) : ∀ (n : Nat) {v1 : Int} {S : HS}, rng v1 → WR shF S → L_X12_rowing_14 k45 k81 k103 k153 n v1 S = some (r, S') → zA z 14 [(0, aR 51), (1, aI v1)] [] S := by
  intro n
  induction n with
  | zero =>
    intro _ _ _ _ h
    cases h
  | succ n ih =>
    intro v1 S rv1 hW h
    rw [L_X12_rowing_14.eq_2] at h
    refine s_iload_n 1 hz dX12_rowing_14 rfl ?_
    refine s_aload_n 0 hz dX12_rowing_15 rfl ?_
    refine s_getI (kz := 19) 19 hz fl_X12_286 sf51 rfl rfl dX12_rowing_16 ?_
    refine s_icmp_ge 153 hz rv1 (hW 51 _ sf51 19) dX12_rowing_19 rfl (fun c2 => ?_) (fun c2 => ?_)
    · have h := zif_t c2 h
      refine s_pick (l' := [(0, aR 51)]) [0] rfl ?_
      exact hk153 _ hW h
    · have h := zif_f c2 h
      refine s_aload_n 0 hz dX12_rowing_22 rfl ?_
      refine s_getR 20 hz fl_X12_65 sf51 rfl (by decide) dX12_rowing_23 ?_
      refine s_iload_n 1 hz dX12_rowing_26 rfl ?_
      obtain ⟨g3, h⟩ := zg_of h
      refine s_iald hz sf61 rfl (by decide) g3 dX12_rowing_27 ?_
      refine s_istore_n (l' := [(2, aI (S 61 v1)), (0, aR 51), (1, aI v1)]) hz hN dX12_rowing_28 (by decide) rfl ?_
      refine s_aload_n 1 hz dX12_rowing_29 rfl ?_
      refine s_getR 21 hz fl_X12_68 sf51 rfl (by decide) dX12_rowing_30 ?_
      refine s_iload_n 2 hz dX12_rowing_33 rfl ?_
      obtain ⟨g4, h⟩ := zg_of h
      refine s_iald hz sf62 rfl (by decide) g4 dX12_rowing_34 ?_
      refine s_istore_n (l' := [(3, aI (S 62 v1)), (2, aI (S 61 v1)), (0, aR 51), (1, aI v1)]) hz hN dX12_rowing_35 (by decide) rfl ?_
      refine s_aload_n 2 hz dX12_rowing_36 rfl ?_
      refine s_iload_n 1 hz dX12_rowing_37 rfl ?_
      refine s_iload_n 0 hz dX12_rowing_38 rfl ?_
      obtain ⟨r5, S6, hc6, h⟩ := zb_of h
      refine s_callV [aI (S 61 v1), aI (S 62 v1)] [] hz ml_X12_314 sv_yX12_isScalp (T_X12_isScalp (hW 61 _ sf61 v1) (hW 62 _ sf62 v1) hW hc6) (by decide) rfl sf51 rfl rfl (Nat.le_of_ble_eq_true rfl) dX12_rowing_39 (fun rr5 hW6 => ?_)
      refine s_if_ne 52 hz rr5 dX12_rowing_42 rfl (fun c7 => ?_) (fun c7 => ?_)
      · have h := zif_f c7 h
        refine s_iload_n 3 hz dX12_rowing_52 rfl ?_
        refine s_if_le 89 hz rv1 dX12_rowing_53 rfl (fun c8 => ?_) (fun c8 => ?_)
        · have h := zif_t c8 h
          refine s_pick (l' := [(0, aR 51), (1, aI v1), (2, aI (S 61 v1)), (3, aI (S 62 v1))]) [2, 3, 1, 0] rfl ?_
          exact TJ_X12_rowing_89 hz hN hF (fun _ _ => ih) hk103 rv1 (hW 61 _ sf61 v1) (hW 62 _ sf62 v1) hW6 h
        · have h := zif_f c8 h
          refine s_aload_n 2 hz dX12_rowing_56 rfl ?_
          refine s_iload_n 1 hz dX12_rowing_57 rfl ?_
          refine s_iload_n 0 hz dX12_rowing_58 rfl ?_
          refine s_aload_n 2 hz dX12_rowing_59 rfl ?_
          refine s_getR 20 hz fl_X12_65 sf51 rfl (by decide) dX12_rowing_60 ?_
          refine s_iload_n 3 hz dX12_rowing_63 rfl ?_
          refine s_iconst hz dX12_rowing_64 ?_
          refine s_isub hz dX12_rowing_65 ?_
          obtain ⟨g17, h⟩ := zg_of h
          refine s_iald hz sf61 rfl (by decide) g17 dX12_rowing_66 ?_
          refine s_aload_n 2 hz dX12_rowing_67 rfl ?_
          refine s_getR 21 hz fl_X12_68 sf51 rfl (by decide) dX12_rowing_68 ?_
          refine s_iload_n 3 hz dX12_rowing_71 rfl ?_
          refine s_iconst hz dX12_rowing_72 ?_
          refine s_isub hz dX12_rowing_73 ?_
          obtain ⟨g18, h⟩ := zg_of h
          refine s_iald hz sf62 rfl (by decide) g18 dX12_rowing_74 ?_
          obtain ⟨r19, S20, hc20, h⟩ := zb_of h
          refine s_callV [aI (S 61 v1), aI (S 62 v1), aI (S6 61 (v1 - 1)), aI (S6 62 (v1 - 1))] [] hz ml_X12_320 sv_yX12_isParted (T_X12_isParted (hW 61 _ sf61 v1) (hW 62 _ sf62 v1) (hW6 61 _ sf61 (v1 - 1)) (hW6 62 _ sf62 (v1 - 1)) hW6 hc20) (by decide) rfl sf51 rfl rfl (Nat.le_of_ble_eq_true rfl) dX12_rowing_75 (fun rr19 hW20 => ?_)
          refine s_if_eq 89 hz rr19 dX12_rowing_78 rfl (fun c21 => ?_) (fun c21 => ?_)
          · have h := zif_t c21 h
            refine s_pick (l' := [(0, aR 51), (1, aI v1), (2, aI (S 61 v1)), (3, aI (S 62 v1))]) [2, 3, 1, 0] rfl ?_
            exact TJ_X12_rowing_89 hz hN hF (fun _ _ => ih) hk103 rv1 (hW 61 _ sf61 v1) (hW 62 _ sf62 v1) hW20 h
          · have h := zif_f c21 h
            refine s_pick (l' := [(0, aR 51), (1, aI v1)]) [2, 3] rfl ?_
            exact hk81 _ _ rv1 hW20 h
      · have h := zif_t c7 h
        refine s_pick (l' := [(0, aR 51), (1, aI v1)]) [2, 3] rfl ?_
        exact hk45 _ _ rv1 hW6 h
def M_X12_rowing (S : HS) : zO2 :=
  if S 51 27 = 24 then (
    some (9, S))
  else (
    L_X12_rowing_14 (fun e1 S22 =>
        zb (M_X12_frees e1 5 S22) fun r23 S24 =>
        some (r23, S24)) (fun e1 S25 =>
        zb (M_X12_frees e1 6 S25) fun r26 S27 =>
        some (r26, S27)) (fun e1 S28 =>
        zb (M_X12_frees e1 7 S28) fun r29 S30 =>
        some (r29, S30)) (fun S31 =>
        if S31 51 19 = 1 then (
          zb (M_X12_frees 1 8 S31) fun r41 S42 =>
          some (r41, S42))
        else (
          zg ((0 : Int) ≤ S31 51 27 ∧ S31 51 27 < 24) <|
          zs (up S31 69 (S31 51 27) (S31 51 19)) fun S34 =>
          zg ((0 : Int) ≤ S34 51 27 ∧ S34 51 27 < 24) <|
          zs (up S34 71 (S34 51 27) (-1)) fun S36 =>
          zg ((0 : Int) ≤ S36 51 27 ∧ S36 51 27 < 24) <|
          zs (up S36 72 (S36 51 27) (-1)) fun S38 =>
          zl ((S38 51 27) + 1) fun x39 =>
          zs (up S38 51 27 x39) fun S40 =>
          some (0, S40))) zBig 0 S)
set_option maxHeartbeats 4000000 in
set_option maxRecDepth 20000 in
theorem T_X12_rowing {S S' : HS} {r : Int} (hW : WR shF S) (h : M_X12_rowing S = some (r, S')) : zR shF yX12_rowing cX12_rowing 4  .int 3 [aR 51] S r S' := by
  refine zR_of (by decide +kernel) (Nat.le_of_ble_eq_true rfl) (fun z hz hN hF => ?_)
  have hz : zO z cX12_rowing RX12 3 shF := hz
  show zA z 0 [(0, aR 51)] [] S
  unfold M_X12_rowing at h
  refine s_aload_n 0 hz dX12_rowing_0 rfl ?_
  refine s_getI (kz := 27) 27 hz fl_X12_256 sf51 rfl rfl dX12_rowing_1 ?_
  refine s_bipush hz dX12_rowing_4 bp_24 ?_
  refine s_icmp_ne 12 hz (hW 51 _ sf51 27) rl_24 dX12_rowing_6 rfl (fun c1 => ?_) (fun c1 => ?_)
  · have h := zif_f c1 h
    refine s_iconst hz dX12_rowing_12 ?_
    refine s_istore_n (l' := [(1, aI 0), (0, aR 51)]) hz hN dX12_rowing_13 (by decide) rfl ?_
    refine s_pick (l' := [(0, aR 51), (1, aI 0)]) [1, 0] rfl ?_
    refine TL_X12_rowing_14 hz hN hF ?_ ?_ ?_ ?_ zBig rl_0 hW h
    · clear h 
      intro e1 S22 re1 hW22 h
      refine s_aload_n 0 hz dX12_rowing_45 rfl ?_
      refine s_iload_n 1 hz dX12_rowing_46 rfl ?_
      refine s_iconst hz dX12_rowing_47 ?_
      obtain ⟨r23, S24, hc24, h⟩ := zb_of h
      refine s_callV [aI e1, aI 5] [] hz ml_X12_317 sv_yX12_frees (T_X12_frees re1 rl_5 hW22 hc24) (by decide) rfl sf51 rfl rfl (Nat.le_of_ble_eq_true rfl) dX12_rowing_48 (fun rr23 hW24 => ?_)
      exact s_iret h hz hF rr23 hW24 dX12_rowing_51
    · clear h 
      intro e1 S25 re1 hW25 h
      refine s_aload_n 0 hz dX12_rowing_81 rfl ?_
      refine s_iload_n 1 hz dX12_rowing_82 rfl ?_
      refine s_bipush hz dX12_rowing_83 bp_6 ?_
      obtain ⟨r26, S27, hc27, h⟩ := zb_of h
      refine s_callV [aI e1, aI 6] [] hz ml_X12_317 sv_yX12_frees (T_X12_frees re1 rl_6 hW25 hc27) (by decide) rfl sf51 rfl rfl (Nat.le_of_ble_eq_true rfl) dX12_rowing_85 (fun rr26 hW27 => ?_)
      exact s_iret h hz hF rr26 hW27 dX12_rowing_88
    · clear h 
      intro e1 S28 re1 hW28 h
      refine s_aload_n 0 hz dX12_rowing_103 rfl ?_
      refine s_iload_n 1 hz dX12_rowing_104 rfl ?_
      refine s_bipush hz dX12_rowing_105 bp_7 ?_
      obtain ⟨r29, S30, hc30, h⟩ := zb_of h
      refine s_callV [aI e1, aI 7] [] hz ml_X12_317 sv_yX12_frees (T_X12_frees re1 rl_7 hW28 hc30) (by decide) rfl sf51 rfl rfl (Nat.le_of_ble_eq_true rfl) dX12_rowing_107 (fun rr29 hW30 => ?_)
      exact s_iret h hz hF rr29 hW30 dX12_rowing_110
    · clear h 
      intro S31 hW31 h
      refine s_aload_n 0 hz dX12_rowing_153 rfl ?_
      refine s_getI (kz := 19) 19 hz fl_X12_286 sf51 rfl rfl dX12_rowing_154 ?_
      refine s_iconst hz dX12_rowing_157 ?_
      refine s_icmp_ne 169 hz (hW31 51 _ sf51 19) rl_1 dX12_rowing_158 rfl (fun c32 => ?_) (fun c32 => ?_)
      · have h := zif_f c32 h
        refine s_aload_n 0 hz dX12_rowing_169 rfl ?_
        refine s_getR 30 hz fl_X12_90 sf51 rfl (by decide) dX12_rowing_170 ?_
        refine s_aload_n 0 hz dX12_rowing_173 rfl ?_
        refine s_getI (kz := 27) 27 hz fl_X12_256 sf51 rfl rfl dX12_rowing_174 ?_
        refine s_aload_n 0 hz dX12_rowing_177 rfl ?_
        refine s_getI (kz := 19) 19 hz fl_X12_286 sf51 rfl rfl dX12_rowing_178 ?_
        obtain ⟨g33, h⟩ := zg_of h
        obtain ⟨S34, eS34, h⟩ := zs_ex h
        have hW34 : WR shF S34 := by rw [eS34]; exact hW31.up (i := (S31 51 27)) sf69 (v := (S31 51 19)) (hW31 51 _ sf51 19)
        refine s_iast hz sf69 rfl (by decide) g33 dX12_rowing_181 ?_
        rw [← eS34]
        refine s_aload_n 0 hz dX12_rowing_182 rfl ?_
        refine s_getR 32 hz fl_X12_96 sf51 rfl (by decide) dX12_rowing_183 ?_
        refine s_aload_n 0 hz dX12_rowing_186 rfl ?_
        refine s_getI (kz := 27) 27 hz fl_X12_256 sf51 rfl rfl dX12_rowing_187 ?_
        refine s_iconst hz dX12_rowing_190 ?_
        obtain ⟨g35, h⟩ := zg_of h
        obtain ⟨S36, eS36, h⟩ := zs_ex h
        have hW36 : WR shF S36 := by rw [eS36]; exact hW34.up (i := (S34 51 27)) sf71 (v := (-1)) rl_m1
        refine s_iast hz sf71 rfl (by decide) g35 dX12_rowing_191 ?_
        rw [← eS36]
        refine s_aload_n 0 hz dX12_rowing_192 rfl ?_
        refine s_getR 33 hz fl_X12_99 sf51 rfl (by decide) dX12_rowing_193 ?_
        refine s_aload_n 0 hz dX12_rowing_196 rfl ?_
        refine s_getI (kz := 27) 27 hz fl_X12_256 sf51 rfl rfl dX12_rowing_197 ?_
        refine s_iconst hz dX12_rowing_200 ?_
        obtain ⟨g37, h⟩ := zg_of h
        obtain ⟨S38, eS38, h⟩ := zs_ex h
        have hW38 : WR shF S38 := by rw [eS38]; exact hW36.up (i := (S36 51 27)) sf72 (v := (-1)) rl_m1
        refine s_iast hz sf72 rfl (by decide) g37 dX12_rowing_201 ?_
        rw [← eS38]
        refine s_aload_n 0 hz dX12_rowing_202 rfl ?_
        refine s_dup hz rfl dX12_rowing_203 ?_
        refine s_getI (kz := 27) 27 hz fl_X12_256 sf51 rfl rfl dX12_rowing_204 ?_
        refine s_iconst hz dX12_rowing_207 ?_
        refine s_iadd hz dX12_rowing_208 ?_
        obtain ⟨x39, ex39, rx39, h⟩ := zl_ex h
        rw [← ex39]
        obtain ⟨S40, eS40, h⟩ := zs_ex h
        have hW40 : WR shF S40 := by rw [eS40]; exact hW38.up (i := 27) sf51 (v := x39) rx39
        refine s_putI (kz := 27) 27 hz fp_X12_256 sf51 rfl rfl dX12_rowing_209 ?_
        rw [← eS40]
        refine s_iconst hz dX12_rowing_212 ?_
        exact s_iret h hz hF rl_0 hW40 dX12_rowing_213
      · have h := zif_t c32 h
        refine s_aload_n 0 hz dX12_rowing_161 rfl ?_
        refine s_iconst hz dX12_rowing_162 ?_
        refine s_bipush hz dX12_rowing_163 bp_8 ?_
        obtain ⟨r41, S42, hc42, h⟩ := zb_of h
        refine s_callV [aI 1, aI 8] [] hz ml_X12_317 sv_yX12_frees (T_X12_frees rl_1 rl_8 hW31 hc42) (by decide) rfl sf51 rfl rfl (Nat.le_of_ble_eq_true rfl) dX12_rowing_165 (fun rr41 hW42 => ?_)
        exact s_iret h hz hF rr41 hW42 dX12_rowing_168
  · have h := zif_t c1 h
    refine s_bipush hz dX12_rowing_9 bp_9 ?_
    exact s_iret h hz hF rl_9 hW dX12_rowing_11
def M_X12_least (a1 : Int) (a2 : Int) (S : HS) : zO2 :=
  if a2 ≤ a1 then (
    some (a2, S))
  else (
    some (a1, S))
set_option maxHeartbeats 4000000 in
set_option maxRecDepth 20000 in
theorem T_X12_least {a1 : Int} {a2 : Int} {S S' : HS} {r : Int} (ra1 : rng a1) (ra2 : rng a2) (hW : WR shF S) (h : M_X12_least a1 a2 S = some (r, S')) : zR shF yX12_least cX12_least 2  .int 1 [aI a1, aI a2] S r S' := by
  refine zR_of (by decide +kernel) (Nat.le_of_ble_eq_true rfl) (fun z hz hN hF => ?_)
  have hz : zO z cX12_least RX12 1 shF := hz
  show zA z 0 [(0, aI a1), (1, aI a2)] [] S
  unfold M_X12_least at h
  refine s_iload_n 0 hz dX12_least_0 rfl ?_
  refine s_iload_n 1 hz dX12_least_1 rfl ?_
  refine s_icmp_ge 9 hz ra1 ra2 dX12_least_2 rfl (fun c1 => ?_) (fun c1 => ?_)
  · have h := zif_t c1 h
    refine s_iload_n 1 hz dX12_least_9 rfl ?_
    exact s_iret h hz hF ra2 hW dX12_least_10
  · have h := zif_f c1 h
    refine s_iload_n 0 hz dX12_least_5 rfl ?_
    refine s_goto 10 hz dX12_least_6 rfl ?_
    exact s_iret h hz hF ra1 hW dX12_least_10
def M_X12_isFlat (a1 : Int) (S : HS) : zO2 :=
  zg ((0 : Int) ≤ a1 ∧ a1 < 4100) <|
  zg ((0 : Int) ≤ a1 + 1 ∧ a1 + 1 < 4100) <|
  if S 62 a1 = S 62 (a1 + 1) then (
    some (1, S))
  else (
    some (0, S))
set_option maxHeartbeats 4000000 in
set_option maxRecDepth 20000 in
theorem T_X12_isFlat {a1 : Int} {S S' : HS} {r : Int} (ra1 : rng a1) (hW : WR shF S) (h : M_X12_isFlat a1 S = some (r, S')) : zR shF yX12_isFlat cX12_isFlat 2  .boolean 1 [aR 51, aI a1] S r S' := by
  refine zR_of (by decide +kernel) (Nat.le_of_ble_eq_true rfl) (fun z hz hN hF => ?_)
  have hz : zO z cX12_isFlat RX12 1 shF := hz
  show zA z 0 [(0, aR 51), (1, aI a1)] [] S
  unfold M_X12_isFlat at h
  refine s_aload_n 0 hz dX12_isFlat_0 rfl ?_
  refine s_getR 21 hz fl_X12_68 sf51 rfl (by decide) dX12_isFlat_1 ?_
  refine s_iload_n 1 hz dX12_isFlat_4 rfl ?_
  obtain ⟨g1, h⟩ := zg_of h
  refine s_iald hz sf62 rfl (by decide) g1 dX12_isFlat_5 ?_
  refine s_aload_n 0 hz dX12_isFlat_6 rfl ?_
  refine s_getR 21 hz fl_X12_68 sf51 rfl (by decide) dX12_isFlat_7 ?_
  refine s_iload_n 1 hz dX12_isFlat_10 rfl ?_
  refine s_iconst hz dX12_isFlat_11 ?_
  refine s_iadd hz dX12_isFlat_12 ?_
  obtain ⟨g2, h⟩ := zg_of h
  refine s_iald hz sf62 rfl (by decide) g2 dX12_isFlat_13 ?_
  refine s_icmp_ne 21 hz (hW 62 _ sf62 a1) (hW 62 _ sf62 (a1 + 1)) dX12_isFlat_14 rfl (fun c3 => ?_) (fun c3 => ?_)
  · have h := zif_f c3 h
    refine s_iconst hz dX12_isFlat_21 ?_
    exact s_zret h hz hF (by decide) hW dX12_isFlat_22
  · have h := zif_t c3 h
    refine s_iconst hz dX12_isFlat_17 ?_
    refine s_goto 22 hz dX12_isFlat_18 rfl ?_
    exact s_zret h hz hF (by decide) hW dX12_isFlat_22
def M_X12_sideAt (a1 : Int) (S : HS) : zO2 :=
  zg ((0 : Int) ≤ a1 ∧ a1 < 4100) <|
  zg ((0 : Int) ≤ a1 + 1 ∧ a1 + 1 < 4100) <|
  zb (M_X12_least (S 61 a1) (S 61 (a1 + 1)) S) fun r3 S4 =>
  zg ((0 : Int) ≤ a1 ∧ a1 < 4100) <|
  zg ((0 : Int) ≤ a1 + 1 ∧ a1 + 1 < 4100) <|
  zb (M_X12_least (S4 62 a1) (S4 62 (a1 + 1)) S4) fun r7 S8 =>
  zb (M_X12_isFlat a1 S8) fun r9 S10 =>
  if r9 = 0 then (
    zl ((208 + (17 * r7)) + r3) fun x12 =>
    some (x12, S10))
  else (
    zl ((16 * r7) + r3) fun x13 =>
    some (x13, S10))
set_option maxHeartbeats 4000000 in
set_option maxRecDepth 20000 in
theorem T_X12_sideAt {a1 : Int} {S S' : HS} {r : Int} (ra1 : rng a1) (hW : WR shF S) (h : M_X12_sideAt a1 S = some (r, S')) : zR shF yX12_sideAt cX12_sideAt 4  .int 2 [aR 51, aI a1] S r S' := by
  refine zR_of (by decide +kernel) (Nat.le_of_ble_eq_true rfl) (fun z hz hN hF => ?_)
  have hz : zO z cX12_sideAt RX12 2 shF := hz
  show zA z 0 [(0, aR 51), (1, aI a1)] [] S
  unfold M_X12_sideAt at h
  refine s_aload_n 0 hz dX12_sideAt_0 rfl ?_
  refine s_getR 20 hz fl_X12_65 sf51 rfl (by decide) dX12_sideAt_1 ?_
  refine s_iload_n 1 hz dX12_sideAt_4 rfl ?_
  obtain ⟨g1, h⟩ := zg_of h
  refine s_iald hz sf61 rfl (by decide) g1 dX12_sideAt_5 ?_
  refine s_aload_n 0 hz dX12_sideAt_6 rfl ?_
  refine s_getR 20 hz fl_X12_65 sf51 rfl (by decide) dX12_sideAt_7 ?_
  refine s_iload_n 1 hz dX12_sideAt_10 rfl ?_
  refine s_iconst hz dX12_sideAt_11 ?_
  refine s_iadd hz dX12_sideAt_12 ?_
  obtain ⟨g2, h⟩ := zg_of h
  refine s_iald hz sf61 rfl (by decide) g2 dX12_sideAt_13 ?_
  obtain ⟨r3, S4, hc4, h⟩ := zb_of h
  refine s_callS [aI (S 61 a1), aI (S 61 (a1 + 1))] [] hz ml_X12_289 ss_yX12_least (T_X12_least (hW 61 _ sf61 a1) (hW 61 _ sf61 (a1 + 1)) hW hc4) (by decide) rfl rfl (Nat.le_of_ble_eq_true rfl) dX12_sideAt_14 (fun rr3 hW4 => ?_)
  refine s_istore_n (l' := [(2, aI r3), (0, aR 51), (1, aI a1)]) hz hN dX12_sideAt_17 (by decide) rfl ?_
  refine s_aload_n 1 hz dX12_sideAt_18 rfl ?_
  refine s_getR 21 hz fl_X12_68 sf51 rfl (by decide) dX12_sideAt_19 ?_
  refine s_iload_n 2 hz dX12_sideAt_22 rfl ?_
  obtain ⟨g5, h⟩ := zg_of h
  refine s_iald hz sf62 rfl (by decide) g5 dX12_sideAt_23 ?_
  refine s_aload_n 1 hz dX12_sideAt_24 rfl ?_
  refine s_getR 21 hz fl_X12_68 sf51 rfl (by decide) dX12_sideAt_25 ?_
  refine s_iload_n 2 hz dX12_sideAt_28 rfl ?_
  refine s_iconst hz dX12_sideAt_29 ?_
  refine s_iadd hz dX12_sideAt_30 ?_
  obtain ⟨g6, h⟩ := zg_of h
  refine s_iald hz sf62 rfl (by decide) g6 dX12_sideAt_31 ?_
  obtain ⟨r7, S8, hc8, h⟩ := zb_of h
  refine s_callS [aI (S4 62 a1), aI (S4 62 (a1 + 1))] [] hz ml_X12_289 ss_yX12_least (T_X12_least (hW4 62 _ sf62 a1) (hW4 62 _ sf62 (a1 + 1)) hW4 hc8) (by decide) rfl rfl (Nat.le_of_ble_eq_true rfl) dX12_sideAt_32 (fun rr7 hW8 => ?_)
  refine s_istore_n (l' := [(3, aI r7), (2, aI r3), (0, aR 51), (1, aI a1)]) hz hN dX12_sideAt_35 (by decide) rfl ?_
  refine s_aload_n 2 hz dX12_sideAt_36 rfl ?_
  refine s_iload_n 3 hz dX12_sideAt_37 rfl ?_
  obtain ⟨r9, S10, hc10, h⟩ := zb_of h
  refine s_callV [aI a1] [] hz ml_X12_292 sv_yX12_isFlat (T_X12_isFlat ra1 hW8 hc10) (by decide) rfl sf51 rfl rfl (Nat.le_of_ble_eq_true rfl) dX12_sideAt_38 (fun rr9 hW10 => ?_)
  refine s_if_eq 53 hz rr9 dX12_sideAt_41 rfl (fun c11 => ?_) (fun c11 => ?_)
  · have h := zif_t c11 h
    refine s_sipush hz dX12_sideAt_53 sp_208 ?_
    refine s_bipush hz dX12_sideAt_56 bp_17 ?_
    refine s_iload_n 0 hz dX12_sideAt_58 rfl ?_
    refine s_imul hz dX12_sideAt_59 ?_
    refine s_iadd hz dX12_sideAt_60 ?_
    refine s_iload_n 1 hz dX12_sideAt_61 rfl ?_
    refine s_iadd hz dX12_sideAt_62 ?_
    obtain ⟨x12, ex12, rx12, h⟩ := zl_ex h
    rw [← ex12]
    exact s_iret h hz hF rx12 hW10 dX12_sideAt_63
  · have h := zif_f c11 h
    refine s_bipush hz dX12_sideAt_44 bp_16 ?_
    refine s_iload_n 0 hz dX12_sideAt_46 rfl ?_
    refine s_imul hz dX12_sideAt_47 ?_
    refine s_iload_n 1 hz dX12_sideAt_48 rfl ?_
    refine s_iadd hz dX12_sideAt_49 ?_
    refine s_goto 63 hz dX12_sideAt_50 rfl ?_
    obtain ⟨x13, ex13, rx13, h⟩ := zl_ex h
    rw [← ex13]
    exact s_iret h hz hF rx13 hW10 dX12_sideAt_63
def M_X12_sideOf (a1 : Int) (S : HS) : zO2 :=
  if 208 ≤ a1 then (
    zg ((0 : Int) ≤ a1 - 208 ∧ a1 - 208 < 204) <|
    some (S 64 (a1 - 208), S))
  else (
    zg ((0 : Int) ≤ a1 ∧ a1 < 208) <|
    some (S 63 a1, S))
set_option maxHeartbeats 4000000 in
set_option maxRecDepth 20000 in
theorem T_X12_sideOf {a1 : Int} {S S' : HS} {r : Int} (ra1 : rng a1) (hW : WR shF S) (h : M_X12_sideOf a1 S = some (r, S')) : zR shF yX12_sideOf cX12_sideOf 2  .int 1 [aR 51, aI a1] S r S' := by
  refine zR_of (by decide +kernel) (Nat.le_of_ble_eq_true rfl) (fun z hz hN hF => ?_)
  have hz : zO z cX12_sideOf RX12 1 shF := hz
  show zA z 0 [(0, aR 51), (1, aI a1)] [] S
  unfold M_X12_sideOf at h
  refine s_iload_n 1 hz dX12_sideOf_0 rfl ?_
  refine s_sipush hz dX12_sideOf_1 sp_208 ?_
  refine s_icmp_ge 16 hz ra1 rl_208 dX12_sideOf_4 rfl (fun c1 => ?_) (fun c1 => ?_)
  · have h := zif_t c1 h
    refine s_aload_n 0 hz dX12_sideOf_16 rfl ?_
    refine s_getR 24 hz fl_X12_74 sf51 rfl (by decide) dX12_sideOf_17 ?_
    refine s_iload_n 1 hz dX12_sideOf_20 rfl ?_
    refine s_sipush hz dX12_sideOf_21 sp_208 ?_
    refine s_isub hz dX12_sideOf_24 ?_
    obtain ⟨g2, h⟩ := zg_of h
    refine s_iald hz sf64 rfl (by decide) g2 dX12_sideOf_25 ?_
    exact s_iret h hz hF (hW 64 _ sf64 (a1 - 208)) hW dX12_sideOf_26
  · have h := zif_f c1 h
    refine s_aload_n 0 hz dX12_sideOf_7 rfl ?_
    refine s_getR 23 hz fl_X12_71 sf51 rfl (by decide) dX12_sideOf_8 ?_
    refine s_iload_n 1 hz dX12_sideOf_11 rfl ?_
    obtain ⟨g3, h⟩ := zg_of h
    refine s_iald hz sf63 rfl (by decide) g3 dX12_sideOf_12 ?_
    refine s_goto 26 hz dX12_sideOf_13 rfl ?_
    exact s_iret h hz hF (hW 63 _ sf63 a1) hW dX12_sideOf_26
def J_X12_isOnParting_90 (S : HS) : zO2 :=
  some (1, S)
set_option maxHeartbeats 4000000 in
set_option maxRecDepth 20000 in
theorem TJ_X12_isOnParting_90 {S : HS} {r : Int} {S' : HS} {z : Zt} (hz : zO z cX12_isOnParting RX12 1 shF) (hN : zN z 4) (hF : zFi z shF .boolean r S') (hW : WR shF S) (h : J_X12_isOnParting_90 S = some (r, S')) : zA z 90 [] [] S := by
  unfold J_X12_isOnParting_90 at h
  refine s_iconst hz dX12_isOnParting_90 ?_
  refine s_goto 95 hz dX12_isOnParting_91 rfl ?_
  exact s_zret h hz hF (by decide) hW dX12_isOnParting_95
def J_X12_isOnParting_70 (v1 : Int) (v2 : Int) (S : HS) : zO2 :=
  if 12 ≤ v2 then (
    some (0, S))
  else (
    zg ((0 : Int) ≤ (17 * v2) + v1 ∧ (17 * v2) + v1 < 204) <|
    if S 64 ((17 * v2) + v1) ≤ 0 then (
      some (0, S))
    else (
      J_X12_isOnParting_90 S))
set_option maxHeartbeats 4000000 in
set_option maxRecDepth 20000 in
theorem TJ_X12_isOnParting_70 {v1 : Int} {v2 : Int} {S : HS} {r : Int} {S' : HS} {z : Zt} (hz : zO z cX12_isOnParting RX12 1 shF) (hN : zN z 4) (hF : zFi z shF .boolean r S') (rv1 : rng v1) (rv2 : rng v2) (hW : WR shF S) (h : J_X12_isOnParting_70 v1 v2 S = some (r, S')) : zA z 70 [(0, aR 51), (1, aI v1), (2, aI v2)] [] S := by
  unfold J_X12_isOnParting_70 at h
  refine s_iload_n 2 hz dX12_isOnParting_70 rfl ?_
  refine s_bipush hz dX12_isOnParting_71 bp_12 ?_
  refine s_icmp_ge 94 hz rv2 rl_12 dX12_isOnParting_73 rfl (fun c5 => ?_) (fun c5 => ?_)
  · have h := zif_t c5 h
    refine s_iconst hz dX12_isOnParting_94 ?_
    exact s_zret h hz hF (by decide) hW dX12_isOnParting_95
  · have h := zif_f c5 h
    refine s_aload_n 0 hz dX12_isOnParting_76 rfl ?_
    refine s_getR 24 hz fl_X12_74 sf51 rfl (by decide) dX12_isOnParting_77 ?_
    refine s_bipush hz dX12_isOnParting_80 bp_17 ?_
    refine s_iload_n 2 hz dX12_isOnParting_82 rfl ?_
    refine s_imul hz dX12_isOnParting_83 ?_
    refine s_iload_n 1 hz dX12_isOnParting_84 rfl ?_
    refine s_iadd hz dX12_isOnParting_85 ?_
    obtain ⟨g6, h⟩ := zg_of h
    refine s_iald hz sf64 rfl (by decide) g6 dX12_isOnParting_86 ?_
    refine s_if_le 94 hz (hW 64 _ sf64 ((17 * v2) + v1)) dX12_isOnParting_87 rfl (fun c7 => ?_) (fun c7 => ?_)
    · have h := zif_t c7 h
      refine s_iconst hz dX12_isOnParting_94 ?_
      exact s_zret h hz hF (by decide) hW dX12_isOnParting_95
    · have h := zif_f c7 h
      refine s_pick (l' := []) [] rfl ?_
      exact TJ_X12_isOnParting_90 hz hN hF hW h
def J_X12_isOnParting_45 (v1 : Int) (v2 : Int) (t0 : Int) (S : HS) : zO2 :=
  if t0 = 0 then (
    if v2 ≤ 0 then (
      J_X12_isOnParting_70 v1 v2 S)
    else (
      zg ((0 : Int) ≤ (17 * (v2 - 1)) + v1 ∧ (17 * (v2 - 1)) + v1 < 204) <|
      if 0 < S 64 ((17 * (v2 - 1)) + v1) then (
        J_X12_isOnParting_90 S)
      else (
        J_X12_isOnParting_70 v1 v2 S)))
  else (
    J_X12_isOnParting_90 S)
set_option maxHeartbeats 4000000 in
set_option maxRecDepth 20000 in
theorem TJ_X12_isOnParting_45 {v1 : Int} {v2 : Int} {t0 : Int} {S : HS} {r : Int} {S' : HS} {z : Zt} (hz : zO z cX12_isOnParting RX12 1 shF) (hN : zN z 4) (hF : zFi z shF .boolean r S') (rv1 : rng v1) (rv2 : rng v2) (rt0 : rng t0) (hW : WR shF S) (h : J_X12_isOnParting_45 v1 v2 t0 S = some (r, S')) : zA z 45 [(0, aR 51), (1, aI v1), (2, aI v2)] [aI t0] S := by
  unfold J_X12_isOnParting_45 at h
  refine s_istore_n (l' := [(3, aI t0), (0, aR 51), (1, aI v1), (2, aI v2)]) hz hN dX12_isOnParting_45 (by decide) rfl ?_
  refine s_iload_n 0 hz dX12_isOnParting_46 rfl ?_
  refine s_if_ne 90 hz rt0 dX12_isOnParting_47 rfl (fun c3 => ?_) (fun c3 => ?_)
  · have h := zif_f c3 h
    refine s_pick (l' := []) [] rfl ?_
    exact TJ_X12_isOnParting_90 hz hN hF hW h
  · have h := zif_t c3 h
    refine s_iload_n 3 hz dX12_isOnParting_50 rfl ?_
    refine s_if_le 70 hz rv2 dX12_isOnParting_51 rfl (fun c4 => ?_) (fun c4 => ?_)
    · have h := zif_t c4 h
      refine s_pick (l' := [(0, aR 51), (1, aI v1), (2, aI v2)]) [1, 2, 3] rfl ?_
      exact TJ_X12_isOnParting_70 hz hN hF rv1 rv2 hW h
    · have h := zif_f c4 h
      refine s_aload_n 1 hz dX12_isOnParting_54 rfl ?_
      refine s_getR 24 hz fl_X12_74 sf51 rfl (by decide) dX12_isOnParting_55 ?_
      refine s_bipush hz dX12_isOnParting_58 bp_17 ?_
      refine s_iload_n 3 hz dX12_isOnParting_60 rfl ?_
      refine s_iconst hz dX12_isOnParting_61 ?_
      refine s_isub hz dX12_isOnParting_62 ?_
      refine s_imul hz dX12_isOnParting_63 ?_
      refine s_iload_n 2 hz dX12_isOnParting_64 rfl ?_
      refine s_iadd hz dX12_isOnParting_65 ?_
      obtain ⟨g8, h⟩ := zg_of h
      refine s_iald hz sf64 rfl (by decide) g8 dX12_isOnParting_66 ?_
      refine s_if_gt 90 hz (hW 64 _ sf64 ((17 * (v2 - 1)) + v1)) dX12_isOnParting_67 rfl (fun c9 => ?_) (fun c9 => ?_)
      · have h := zif_t c9 h
        refine s_pick (l' := []) [] rfl ?_
        exact TJ_X12_isOnParting_90 hz hN hF hW h
      · have h := zif_f c9 h
        refine s_pick (l' := [(0, aR 51), (1, aI v1), (2, aI v2)]) [1, 2, 3] rfl ?_
        exact TJ_X12_isOnParting_70 hz hN hF rv1 rv2 hW h
def J_X12_isOnParting_44 (v1 : Int) (v2 : Int) (S : HS) : zO2 :=
  J_X12_isOnParting_45 v1 v2 0 S
set_option maxHeartbeats 4000000 in
set_option maxRecDepth 20000 in
theorem TJ_X12_isOnParting_44 {v1 : Int} {v2 : Int} {S : HS} {r : Int} {S' : HS} {z : Zt} (hz : zO z cX12_isOnParting RX12 1 shF) (hN : zN z 4) (hF : zFi z shF .boolean r S') (rv1 : rng v1) (rv2 : rng v2) (hW : WR shF S) (h : J_X12_isOnParting_44 v1 v2 S = some (r, S')) : zA z 44 [(0, aR 51), (1, aI v1), (2, aI v2)] [] S := by
  unfold J_X12_isOnParting_44 at h
  refine s_iconst hz dX12_isOnParting_44 ?_
  exact TJ_X12_isOnParting_45 hz hN hF rv1 rv2 rl_0 hW h
def J_X12_isOnParting_40 (v1 : Int) (v2 : Int) (S : HS) : zO2 :=
  J_X12_isOnParting_45 v1 v2 1 S
set_option maxHeartbeats 4000000 in
set_option maxRecDepth 20000 in
theorem TJ_X12_isOnParting_40 {v1 : Int} {v2 : Int} {S : HS} {r : Int} {S' : HS} {z : Zt} (hz : zO z cX12_isOnParting RX12 1 shF) (hN : zN z 4) (hF : zFi z shF .boolean r S') (rv1 : rng v1) (rv2 : rng v2) (hW : WR shF S) (h : J_X12_isOnParting_40 v1 v2 S = some (r, S')) : zA z 40 [(0, aR 51), (1, aI v1), (2, aI v2)] [] S := by
  unfold J_X12_isOnParting_40 at h
  refine s_iconst hz dX12_isOnParting_40 ?_
  refine s_goto 45 hz dX12_isOnParting_41 rfl ?_
  exact TJ_X12_isOnParting_45 hz hN hF rv1 rv2 rl_1 hW h
def J_X12_isOnParting_20 (v1 : Int) (v2 : Int) (S : HS) : zO2 :=
  if 16 ≤ v1 then (
    J_X12_isOnParting_44 v1 v2 S)
  else (
    zg ((0 : Int) ≤ (16 * v2) + v1 ∧ (16 * v2) + v1 < 208) <|
    if S 63 ((16 * v2) + v1) ≤ 0 then (
      J_X12_isOnParting_44 v1 v2 S)
    else (
      J_X12_isOnParting_40 v1 v2 S))
set_option maxHeartbeats 4000000 in
set_option maxRecDepth 20000 in
theorem TJ_X12_isOnParting_20 {v1 : Int} {v2 : Int} {S : HS} {r : Int} {S' : HS} {z : Zt} (hz : zO z cX12_isOnParting RX12 1 shF) (hN : zN z 4) (hF : zFi z shF .boolean r S') (rv1 : rng v1) (rv2 : rng v2) (hW : WR shF S) (h : J_X12_isOnParting_20 v1 v2 S = some (r, S')) : zA z 20 [(0, aR 51), (1, aI v1), (2, aI v2)] [] S := by
  unfold J_X12_isOnParting_20 at h
  refine s_iload_n 1 hz dX12_isOnParting_20 rfl ?_
  refine s_bipush hz dX12_isOnParting_21 bp_16 ?_
  refine s_icmp_ge 44 hz rv1 rl_16 dX12_isOnParting_23 rfl (fun c2 => ?_) (fun c2 => ?_)
  · have h := zif_t c2 h
    exact TJ_X12_isOnParting_44 hz hN hF rv1 rv2 hW h
  · have h := zif_f c2 h
    refine s_aload_n 0 hz dX12_isOnParting_26 rfl ?_
    refine s_getR 23 hz fl_X12_71 sf51 rfl (by decide) dX12_isOnParting_27 ?_
    refine s_bipush hz dX12_isOnParting_30 bp_16 ?_
    refine s_iload_n 2 hz dX12_isOnParting_32 rfl ?_
    refine s_imul hz dX12_isOnParting_33 ?_
    refine s_iload_n 1 hz dX12_isOnParting_34 rfl ?_
    refine s_iadd hz dX12_isOnParting_35 ?_
    obtain ⟨g10, h⟩ := zg_of h
    refine s_iald hz sf63 rfl (by decide) g10 dX12_isOnParting_36 ?_
    refine s_if_le 44 hz (hW 63 _ sf63 ((16 * v2) + v1)) dX12_isOnParting_37 rfl (fun c11 => ?_) (fun c11 => ?_)
    · have h := zif_t c11 h
      exact TJ_X12_isOnParting_44 hz hN hF rv1 rv2 hW h
    · have h := zif_f c11 h
      exact TJ_X12_isOnParting_40 hz hN hF rv1 rv2 hW h
def M_X12_isOnParting (a1 : Int) (a2 : Int) (S : HS) : zO2 :=
  if a1 ≤ 0 then (
    J_X12_isOnParting_20 a1 a2 S)
  else (
    zg ((0 : Int) ≤ ((16 * a2) + a1) - 1 ∧ ((16 * a2) + a1) - 1 < 208) <|
    if 0 < S 63 (((16 * a2) + a1) - 1) then (
      J_X12_isOnParting_40 a1 a2 S)
    else (
      J_X12_isOnParting_20 a1 a2 S))
set_option maxHeartbeats 4000000 in
set_option maxRecDepth 20000 in
theorem T_X12_isOnParting {a1 : Int} {a2 : Int} {S S' : HS} {r : Int} (ra1 : rng a1) (ra2 : rng a2) (hW : WR shF S) (h : M_X12_isOnParting a1 a2 S = some (r, S')) : zR shF yX12_isOnParting cX12_isOnParting 4  .boolean 1 [aR 51, aI a1, aI a2] S r S' := by
  refine zR_of (by decide +kernel) (Nat.le_of_ble_eq_true rfl) (fun z hz hN hF => ?_)
  have hz : zO z cX12_isOnParting RX12 1 shF := hz
  show zA z 0 [(0, aR 51), (1, aI a1), (2, aI a2)] [] S
  unfold M_X12_isOnParting at h
  refine s_iload_n 1 hz dX12_isOnParting_0 rfl ?_
  refine s_if_le 20 hz ra1 dX12_isOnParting_1 rfl (fun c1 => ?_) (fun c1 => ?_)
  · have h := zif_t c1 h
    exact TJ_X12_isOnParting_20 hz hN hF ra1 ra2 hW h
  · have h := zif_f c1 h
    refine s_aload_n 0 hz dX12_isOnParting_4 rfl ?_
    refine s_getR 23 hz fl_X12_71 sf51 rfl (by decide) dX12_isOnParting_5 ?_
    refine s_bipush hz dX12_isOnParting_8 bp_16 ?_
    refine s_iload_n 2 hz dX12_isOnParting_10 rfl ?_
    refine s_imul hz dX12_isOnParting_11 ?_
    refine s_iload_n 1 hz dX12_isOnParting_12 rfl ?_
    refine s_iadd hz dX12_isOnParting_13 ?_
    refine s_iconst hz dX12_isOnParting_14 ?_
    refine s_isub hz dX12_isOnParting_15 ?_
    obtain ⟨g12, h⟩ := zg_of h
    refine s_iald hz sf63 rfl (by decide) g12 dX12_isOnParting_16 ?_
    refine s_if_gt 40 hz (hW 63 _ sf63 (((16 * a2) + a1) - 1)) dX12_isOnParting_17 rfl (fun c13 => ?_) (fun c13 => ?_)
    · have h := zif_t c13 h
      exact TJ_X12_isOnParting_40 hz hN hF ra1 ra2 hW h
    · have h := zif_f c13 h
      exact TJ_X12_isOnParting_20 hz hN hF ra1 ra2 hW h
def L_X12_whyNot_14 (k70 : HS → zO2) : Nat → Int → HS → zO2
  | 0, _, _ => none
  | n + 1, v1, S => 
    if S 51 19 ≤ v1 then (
      k70 S)
    else (
      zg ((0 : Int) ≤ v1 ∧ v1 < 4100) <|
      if S 61 v1 < 0 then (
        some (1, S))
      else (
        zg ((0 : Int) ≤ v1 ∧ v1 < 4100) <|
        if 16 < S 61 v1 then (
          some (1, S))
        else (
          zg ((0 : Int) ≤ v1 ∧ v1 < 4100) <|
          if S 62 v1 < 0 then (
            some (1, S))
          else (
            zg ((0 : Int) ≤ v1 ∧ v1 < 4100) <|
            if S 62 v1 ≤ 12 then (
              zl (v1 + 1) fun x11 =>
              L_X12_whyNot_14 k70 n x11 S)
            else (
              some (1, S))))))
set_option maxHeartbeats 4000000 in
set_option maxRecDepth 20000 in
theorem TL_X12_whyNot_14 {k70 : HS → zO2} {r : Int} {S' : HS} {z : Zt} (hz : zO z cX12_whyNot RX12 3 shF) (hN : zN z 2) (hF : zFi z shF .int r S') (hk70 : ∀ (S : HS), WR shF S → k70 S = some (r, S') → zA z 70 [(0, aR 51)] [] S) : ∀ (n : Nat) {v1 : Int} {S : HS}, rng v1 → WR shF S → L_X12_whyNot_14 k70 n v1 S = some (r, S') → zA z 14 [(0, aR 51), (1, aI v1)] [] S := by
  intro n
  induction n with
  | zero =>
    intro _ _ _ _ h
    cases h
  | succ n ih =>
    intro v1 S rv1 hW h
    rw [L_X12_whyNot_14.eq_2] at h
    refine s_iload_n 1 hz dX12_whyNot_14 rfl ?_
    refine s_aload_n 0 hz dX12_whyNot_15 rfl ?_
    refine s_getI (kz := 19) 19 hz fl_X12_286 sf51 rfl rfl dX12_whyNot_16 ?_
    refine s_icmp_ge 70 hz rv1 (hW 51 _ sf51 19) dX12_whyNot_19 rfl (fun c2 => ?_) (fun c2 => ?_)
    · have h := zif_t c2 h
      refine s_pick (l' := [(0, aR 51)]) [0] rfl ?_
      exact hk70 _ hW h
    · have h := zif_f c2 h
      refine s_aload_n 0 hz dX12_whyNot_22 rfl ?_
      refine s_getR 20 hz fl_X12_65 sf51 rfl (by decide) dX12_whyNot_23 ?_
      refine s_iload_n 1 hz dX12_whyNot_26 rfl ?_
      obtain ⟨g3, h⟩ := zg_of h
      refine s_iald hz sf61 rfl (by decide) g3 dX12_whyNot_27 ?_
      refine s_if_lt 62 hz (hW 61 _ sf61 v1) dX12_whyNot_28 rfl (fun c4 => ?_) (fun c4 => ?_)
      · have h := zif_t c4 h
        refine s_iconst hz dX12_whyNot_62 ?_
        exact s_iret h hz hF rl_1 hW dX12_whyNot_63
      · have h := zif_f c4 h
        refine s_aload_n 0 hz dX12_whyNot_31 rfl ?_
        refine s_getR 20 hz fl_X12_65 sf51 rfl (by decide) dX12_whyNot_32 ?_
        refine s_iload_n 1 hz dX12_whyNot_35 rfl ?_
        obtain ⟨g5, h⟩ := zg_of h
        refine s_iald hz sf61 rfl (by decide) g5 dX12_whyNot_36 ?_
        refine s_bipush hz dX12_whyNot_37 bp_16 ?_
        refine s_icmp_gt 62 hz (hW 61 _ sf61 v1) rl_16 dX12_whyNot_39 rfl (fun c6 => ?_) (fun c6 => ?_)
        · have h := zif_t c6 h
          refine s_iconst hz dX12_whyNot_62 ?_
          exact s_iret h hz hF rl_1 hW dX12_whyNot_63
        · have h := zif_f c6 h
          refine s_aload_n 0 hz dX12_whyNot_42 rfl ?_
          refine s_getR 21 hz fl_X12_68 sf51 rfl (by decide) dX12_whyNot_43 ?_
          refine s_iload_n 1 hz dX12_whyNot_46 rfl ?_
          obtain ⟨g7, h⟩ := zg_of h
          refine s_iald hz sf62 rfl (by decide) g7 dX12_whyNot_47 ?_
          refine s_if_lt 62 hz (hW 62 _ sf62 v1) dX12_whyNot_48 rfl (fun c8 => ?_) (fun c8 => ?_)
          · have h := zif_t c8 h
            refine s_iconst hz dX12_whyNot_62 ?_
            exact s_iret h hz hF rl_1 hW dX12_whyNot_63
          · have h := zif_f c8 h
            refine s_aload_n 0 hz dX12_whyNot_51 rfl ?_
            refine s_getR 21 hz fl_X12_68 sf51 rfl (by decide) dX12_whyNot_52 ?_
            refine s_iload_n 1 hz dX12_whyNot_55 rfl ?_
            obtain ⟨g9, h⟩ := zg_of h
            refine s_iald hz sf62 rfl (by decide) g9 dX12_whyNot_56 ?_
            refine s_bipush hz dX12_whyNot_57 bp_12 ?_
            refine s_icmp_le 64 hz (hW 62 _ sf62 v1) rl_12 dX12_whyNot_59 rfl (fun c10 => ?_) (fun c10 => ?_)
            · have h := zif_t c10 h
              obtain ⟨x11, ex11, rx11, h⟩ := zl_ex h
              refine s_iinc (k0 := 1) (y := x11) (l' := [(1, aI x11), (0, aR 51)]) hz hN dX12_whyNot_64 rfl ex11.symm (by decide) rfl ?_
              refine s_goto 14 hz dX12_whyNot_67 rfl ?_
              refine s_pick (l' := [(0, aR 51), (1, aI x11)]) [1, 0] rfl ?_
              exact ih rx11 hW h
            · have h := zif_f c10 h
              refine s_iconst hz dX12_whyNot_62 ?_
              exact s_iret h hz hF rl_1 hW dX12_whyNot_63
def L_X12_whyNot_82 (k102 : HS → zO2) : Nat → Int → HS → zO2
  | 0, _, _ => none
  | n + 1, v1, S => 
    if 412 ≤ v1 then (
      k102 S)
    else (
      zg ((0 : Int) ≤ v1 ∧ v1 < 412) <|
      zs (up S 66 v1 0) fun S16 =>
      zl (v1 + 1) fun x17 =>
      L_X12_whyNot_82 k102 n x17 S16)
set_option maxHeartbeats 4000000 in
set_option maxRecDepth 20000 in
theorem TL_X12_whyNot_82 {k102 : HS → zO2} {r : Int} {S' : HS} {z : Zt} (hz : zO z cX12_whyNot RX12 3 shF) (hN : zN z 2) (hF : zFi z shF .int r S') (hk102 : ∀ (S : HS), WR shF S → k102 S = some (r, S') → zA z 102 [(0, aR 51)] [] S) : ∀ (n : Nat) {v1 : Int} {S : HS}, rng v1 → WR shF S → L_X12_whyNot_82 k102 n v1 S = some (r, S') → zA z 82 [(0, aR 51), (1, aI v1)] [] S := by
  intro n
  induction n with
  | zero =>
    intro _ _ _ _ h
    cases h
  | succ n ih =>
    intro v1 S rv1 hW h
    rw [L_X12_whyNot_82.eq_2] at h
    refine s_iload_n 1 hz dX12_whyNot_82 rfl ?_
    refine s_sipush hz dX12_whyNot_83 sp_412 ?_
    refine s_icmp_ge 102 hz rv1 rl_412 dX12_whyNot_86 rfl (fun c14 => ?_) (fun c14 => ?_)
    · have h := zif_t c14 h
      refine s_pick (l' := [(0, aR 51)]) [0] rfl ?_
      exact hk102 _ hW h
    · have h := zif_f c14 h
      refine s_aload_n 0 hz dX12_whyNot_89 rfl ?_
      refine s_getR 26 hz fl_X12_80 sf51 rfl (by decide) dX12_whyNot_90 ?_
      refine s_iload_n 1 hz dX12_whyNot_93 rfl ?_
      refine s_iconst hz dX12_whyNot_94 ?_
      obtain ⟨g15, h⟩ := zg_of h
      obtain ⟨S16, eS16, h⟩ := zs_ex h
      have hW16 : WR shF S16 := by rw [eS16]; exact hW.up (i := v1) sf66 (v := 0) rl_0
      refine s_zast hz sf66 rfl (by decide) g15 (by decide) dX12_whyNot_95 ?_
      rw [← eS16]
      obtain ⟨x17, ex17, rx17, h⟩ := zl_ex h
      refine s_iinc (k0 := 1) (y := x17) (l' := [(1, aI x17), (0, aR 51)]) hz hN dX12_whyNot_96 rfl ex17.symm (by decide) rfl ?_
      refine s_goto 82 hz dX12_whyNot_99 rfl ?_
      refine s_pick (l' := [(0, aR 51), (1, aI x17)]) [1, 0] rfl ?_
      exact ih rx17 hW16 h
def L_X12_whyNot_104 (k158 : HS → zO2) : Nat → Int → HS → zO2
  | 0, _, _ => none
  | n + 1, v1, S => 
    zl (v1 + 1) fun x19 =>
    if S 51 19 ≤ x19 then (
      k158 S)
    else (
      zb (M_X12_sideAt v1 S) fun r21 S22 =>
      zg ((0 : Int) ≤ r21 ∧ r21 < 412) <|
      if S22 66 r21 = 0 then (
        zb (M_X12_sideAt v1 S22) fun r25 S26 =>
        zb (M_X12_sideOf r25 S26) fun r27 S28 =>
        if r27 ≤ 0 then (
          zb (M_X12_sideAt v1 S28) fun r30 S31 =>
          zg ((0 : Int) ≤ r30 ∧ r30 < 412) <|
          zs (up S31 66 r30 1) fun S33 =>
          zl (v1 + 1) fun x34 =>
          L_X12_whyNot_104 k158 n x34 S33)
        else (
          some (3, S28)))
      else (
        some (3, S22)))
set_option maxHeartbeats 4000000 in
set_option maxRecDepth 20000 in
theorem TL_X12_whyNot_104 {k158 : HS → zO2} {r : Int} {S' : HS} {z : Zt} (hz : zO z cX12_whyNot RX12 3 shF) (hN : zN z 2) (hF : zFi z shF .int r S') (hk158 : ∀ (S : HS), WR shF S → k158 S = some (r, S') → zA z 158 [(0, aR 51)] [] S) : ∀ (n : Nat) {v1 : Int} {S : HS}, rng v1 → WR shF S → L_X12_whyNot_104 k158 n v1 S = some (r, S') → zA z 104 [(0, aR 51), (1, aI v1)] [] S := by
  intro n
  induction n with
  | zero =>
    intro _ _ _ _ h
    cases h
  | succ n ih =>
    intro v1 S rv1 hW h
    rw [L_X12_whyNot_104.eq_2] at h
    refine s_iload_n 1 hz dX12_whyNot_104 rfl ?_
    refine s_iconst hz dX12_whyNot_105 ?_
    refine s_iadd hz dX12_whyNot_106 ?_
    refine s_aload_n 0 hz dX12_whyNot_107 rfl ?_
    refine s_getI (kz := 19) 19 hz fl_X12_286 sf51 rfl rfl dX12_whyNot_108 ?_
    obtain ⟨x19, ex19, rx19, h⟩ := zl_ex h
    rw [← ex19]
    refine s_icmp_ge 158 hz rx19 (hW 51 _ sf51 19) dX12_whyNot_111 rfl (fun c20 => ?_) (fun c20 => ?_)
    · have h := zif_t c20 h
      refine s_pick (l' := [(0, aR 51)]) [0] rfl ?_
      exact hk158 _ hW h
    · have h := zif_f c20 h
      refine s_aload_n 0 hz dX12_whyNot_114 rfl ?_
      refine s_getR 26 hz fl_X12_80 sf51 rfl (by decide) dX12_whyNot_115 ?_
      refine s_aload_n 0 hz dX12_whyNot_118 rfl ?_
      refine s_iload_n 1 hz dX12_whyNot_119 rfl ?_
      obtain ⟨r21, S22, hc22, h⟩ := zb_of h
      refine s_callV [aI v1] [aR 66] hz ml_X12_295 sv_yX12_sideAt (T_X12_sideAt rv1 hW hc22) (by decide) rfl sf51 rfl rfl (Nat.le_of_ble_eq_true rfl) dX12_whyNot_120 (fun rr21 hW22 => ?_)
      obtain ⟨g23, h⟩ := zg_of h
      refine s_zald hz sf66 rfl (by decide) g23 dX12_whyNot_123 ?_
      refine s_if_ne 139 hz (hW22 66 _ sf66 r21) dX12_whyNot_124 rfl (fun c24 => ?_) (fun c24 => ?_)
      · have h := zif_f c24 h
        refine s_iconst hz dX12_whyNot_139 ?_
        exact s_iret h hz hF rl_3 hW22 dX12_whyNot_140
      · have h := zif_t c24 h
        refine s_aload_n 0 hz dX12_whyNot_127 rfl ?_
        refine s_aload_n 0 hz dX12_whyNot_128 rfl ?_
        refine s_iload_n 1 hz dX12_whyNot_129 rfl ?_
        obtain ⟨r25, S26, hc26, h⟩ := zb_of h
        refine s_callV [aI v1] [aR 51] hz ml_X12_295 sv_yX12_sideAt (T_X12_sideAt rv1 hW22 hc26) (by decide) rfl sf51 rfl rfl (Nat.le_of_ble_eq_true rfl) dX12_whyNot_130 (fun rr25 hW26 => ?_)
        obtain ⟨r27, S28, hc28, h⟩ := zb_of h
        refine s_callV [aI r25] [] hz ml_X12_298 sv_yX12_sideOf (T_X12_sideOf rr25 hW26 hc28) (by decide) rfl sf51 rfl rfl (Nat.le_of_ble_eq_true rfl) dX12_whyNot_133 (fun rr27 hW28 => ?_)
        refine s_if_le 141 hz rr27 dX12_whyNot_136 rfl (fun c29 => ?_) (fun c29 => ?_)
        · have h := zif_t c29 h
          refine s_aload_n 0 hz dX12_whyNot_141 rfl ?_
          refine s_getR 26 hz fl_X12_80 sf51 rfl (by decide) dX12_whyNot_142 ?_
          refine s_aload_n 0 hz dX12_whyNot_145 rfl ?_
          refine s_iload_n 1 hz dX12_whyNot_146 rfl ?_
          obtain ⟨r30, S31, hc31, h⟩ := zb_of h
          refine s_callV [aI v1] [aR 66] hz ml_X12_295 sv_yX12_sideAt (T_X12_sideAt rv1 hW28 hc31) (by decide) rfl sf51 rfl rfl (Nat.le_of_ble_eq_true rfl) dX12_whyNot_147 (fun rr30 hW31 => ?_)
          refine s_iconst hz dX12_whyNot_150 ?_
          obtain ⟨g32, h⟩ := zg_of h
          obtain ⟨S33, eS33, h⟩ := zs_ex h
          have hW33 : WR shF S33 := by rw [eS33]; exact hW31.up (i := r30) sf66 (v := 1) rl_1
          refine s_zast hz sf66 rfl (by decide) g32 (by decide) dX12_whyNot_151 ?_
          rw [← eS33]
          obtain ⟨x34, ex34, rx34, h⟩ := zl_ex h
          refine s_iinc (k0 := 1) (y := x34) (l' := [(1, aI x34), (0, aR 51)]) hz hN dX12_whyNot_152 rfl ex34.symm (by decide) rfl ?_
          refine s_goto 104 hz dX12_whyNot_155 rfl ?_
          refine s_pick (l' := [(0, aR 51), (1, aI x34)]) [1, 0] rfl ?_
          exact ih rx34 hW33 h
        · have h := zif_f c29 h
          refine s_iconst hz dX12_whyNot_139 ?_
          exact s_iret h hz hF rl_3 hW28 dX12_whyNot_140
def L_X12_whyNot_160 (k180 : HS → zO2) : Nat → Int → HS → zO2
  | 0, _, _ => none
  | n + 1, v1, S => 
    if 221 ≤ v1 then (
      k180 S)
    else (
      zg ((0 : Int) ≤ v1 ∧ v1 < 221) <|
      zs (up S 65 v1 0) fun S38 =>
      zl (v1 + 1) fun x39 =>
      L_X12_whyNot_160 k180 n x39 S38)
set_option maxHeartbeats 4000000 in
set_option maxRecDepth 20000 in
theorem TL_X12_whyNot_160 {k180 : HS → zO2} {r : Int} {S' : HS} {z : Zt} (hz : zO z cX12_whyNot RX12 3 shF) (hN : zN z 2) (hF : zFi z shF .int r S') (hk180 : ∀ (S : HS), WR shF S → k180 S = some (r, S') → zA z 180 [(0, aR 51)] [] S) : ∀ (n : Nat) {v1 : Int} {S : HS}, rng v1 → WR shF S → L_X12_whyNot_160 k180 n v1 S = some (r, S') → zA z 160 [(0, aR 51), (1, aI v1)] [] S := by
  intro n
  induction n with
  | zero =>
    intro _ _ _ _ h
    cases h
  | succ n ih =>
    intro v1 S rv1 hW h
    rw [L_X12_whyNot_160.eq_2] at h
    refine s_iload_n 1 hz dX12_whyNot_160 rfl ?_
    refine s_sipush hz dX12_whyNot_161 sp_221 ?_
    refine s_icmp_ge 180 hz rv1 rl_221 dX12_whyNot_164 rfl (fun c36 => ?_) (fun c36 => ?_)
    · have h := zif_t c36 h
      refine s_pick (l' := [(0, aR 51)]) [0] rfl ?_
      exact hk180 _ hW h
    · have h := zif_f c36 h
      refine s_aload_n 0 hz dX12_whyNot_167 rfl ?_
      refine s_getR 25 hz fl_X12_77 sf51 rfl (by decide) dX12_whyNot_168 ?_
      refine s_iload_n 1 hz dX12_whyNot_171 rfl ?_
      refine s_iconst hz dX12_whyNot_172 ?_
      obtain ⟨g37, h⟩ := zg_of h
      obtain ⟨S38, eS38, h⟩ := zs_ex h
      have hW38 : WR shF S38 := by rw [eS38]; exact hW.up (i := v1) sf65 (v := 0) rl_0
      refine s_iast hz sf65 rfl (by decide) g37 dX12_whyNot_173 ?_
      rw [← eS38]
      obtain ⟨x39, ex39, rx39, h⟩ := zl_ex h
      refine s_iinc (k0 := 1) (y := x39) (l' := [(1, aI x39), (0, aR 51)]) hz hN dX12_whyNot_174 rfl ex39.symm (by decide) rfl ?_
      refine s_goto 160 hz dX12_whyNot_177 rfl ?_
      refine s_pick (l' := [(0, aR 51), (1, aI x39)]) [1, 0] rfl ?_
      exact ih rx39 hW38 h
def L_X12_whyNot_182 (k221 : HS → zO2) : Nat → Int → HS → zO2
  | 0, _, _ => none
  | n + 1, v1, S => 
    if S 51 19 ≤ v1 then (
      k221 S)
    else (
      zg ((0 : Int) ≤ v1 ∧ v1 < 4100) <|
      zg ((0 : Int) ≤ v1 ∧ v1 < 4100) <|
      zg ((0 : Int) ≤ (17 * (S 62 v1)) + (S 61 v1) ∧ (17 * (S 62 v1)) + (S 61 v1) < 221) <|
      zl ((S 65 ((17 * (S 62 v1)) + (S 61 v1))) + 1) fun x45 =>
      zg ((0 : Int) ≤ (17 * (S 62 v1)) + (S 61 v1) ∧ (17 * (S 62 v1)) + (S 61 v1) < 221) <|
      zs (up S 65 ((17 * (S 62 v1)) + (S 61 v1)) x45) fun S47 =>
      zl (v1 + 1) fun x48 =>
      L_X12_whyNot_182 k221 n x48 S47)
set_option maxHeartbeats 4000000 in
set_option maxRecDepth 20000 in
theorem TL_X12_whyNot_182 {k221 : HS → zO2} {r : Int} {S' : HS} {z : Zt} (hz : zO z cX12_whyNot RX12 3 shF) (hN : zN z 2) (hF : zFi z shF .int r S') (hk221 : ∀ (S : HS), WR shF S → k221 S = some (r, S') → zA z 221 [(0, aR 51)] [] S) : ∀ (n : Nat) {v1 : Int} {S : HS}, rng v1 → WR shF S → L_X12_whyNot_182 k221 n v1 S = some (r, S') → zA z 182 [(0, aR 51), (1, aI v1)] [] S := by
  intro n
  induction n with
  | zero =>
    intro _ _ _ _ h
    cases h
  | succ n ih =>
    intro v1 S rv1 hW h
    rw [L_X12_whyNot_182.eq_2] at h
    refine s_iload_n 1 hz dX12_whyNot_182 rfl ?_
    refine s_aload_n 0 hz dX12_whyNot_183 rfl ?_
    refine s_getI (kz := 19) 19 hz fl_X12_286 sf51 rfl rfl dX12_whyNot_184 ?_
    refine s_icmp_ge 221 hz rv1 (hW 51 _ sf51 19) dX12_whyNot_187 rfl (fun c41 => ?_) (fun c41 => ?_)
    · have h := zif_t c41 h
      refine s_pick (l' := [(0, aR 51)]) [0] rfl ?_
      exact hk221 _ hW h
    · have h := zif_f c41 h
      refine s_aload_n 0 hz dX12_whyNot_190 rfl ?_
      refine s_getR 25 hz fl_X12_77 sf51 rfl (by decide) dX12_whyNot_191 ?_
      refine s_bipush hz dX12_whyNot_194 bp_17 ?_
      refine s_aload_n 0 hz dX12_whyNot_196 rfl ?_
      refine s_getR 21 hz fl_X12_68 sf51 rfl (by decide) dX12_whyNot_197 ?_
      refine s_iload_n 1 hz dX12_whyNot_200 rfl ?_
      obtain ⟨g42, h⟩ := zg_of h
      refine s_iald hz sf62 rfl (by decide) g42 dX12_whyNot_201 ?_
      refine s_imul hz dX12_whyNot_202 ?_
      refine s_aload_n 0 hz dX12_whyNot_203 rfl ?_
      refine s_getR 20 hz fl_X12_65 sf51 rfl (by decide) dX12_whyNot_204 ?_
      refine s_iload_n 1 hz dX12_whyNot_207 rfl ?_
      obtain ⟨g43, h⟩ := zg_of h
      refine s_iald hz sf61 rfl (by decide) g43 dX12_whyNot_208 ?_
      refine s_iadd hz dX12_whyNot_209 ?_
      refine s_dup2 hz rfl rfl dX12_whyNot_210 ?_
      obtain ⟨g44, h⟩ := zg_of h
      refine s_iald hz sf65 rfl (by decide) g44 dX12_whyNot_211 ?_
      refine s_iconst hz dX12_whyNot_212 ?_
      refine s_iadd hz dX12_whyNot_213 ?_
      obtain ⟨x45, ex45, rx45, h⟩ := zl_ex h
      rw [← ex45]
      obtain ⟨g46, h⟩ := zg_of h
      obtain ⟨S47, eS47, h⟩ := zs_ex h
      have hW47 : WR shF S47 := by rw [eS47]; exact hW.up (i := ((17 * (S 62 v1)) + (S 61 v1))) sf65 (v := x45) rx45
      refine s_iast hz sf65 rfl (by decide) g46 dX12_whyNot_214 ?_
      rw [← eS47]
      obtain ⟨x48, ex48, rx48, h⟩ := zl_ex h
      refine s_iinc (k0 := 1) (y := x48) (l' := [(1, aI x48), (0, aR 51)]) hz hN dX12_whyNot_215 rfl ex48.symm (by decide) rfl ?_
      refine s_goto 182 hz dX12_whyNot_218 rfl ?_
      refine s_pick (l' := [(0, aR 51), (1, aI x48)]) [1, 0] rfl ?_
      exact ih rx48 hW47 h
def L_X12_whyNot_223 : Nat → Int → HS → zO2
  | 0, _, _ => none
  | n + 1, v1, S => 
    zl (v1 + 1) fun x50 =>
    if S 51 19 ≤ x50 then (
      some (0, S))
    else (
      zg ((0 : Int) ≤ v1 ∧ v1 < 4100) <|
      zg ((0 : Int) ≤ v1 ∧ v1 < 4100) <|
      zb (M_X12_isOnParting (S 61 v1) (S 62 v1) S) fun r54 S55 =>
      if r54 = 0 then (
        zg ((0 : Int) ≤ v1 ∧ v1 < 4100) <|
        zg ((0 : Int) ≤ v1 ∧ v1 < 4100) <|
        zg ((0 : Int) ≤ (17 * (S55 62 v1)) + (S55 61 v1) ∧ (17 * (S55 62 v1)) + (S55 61 v1) < 221) <|
        if S55 65 ((17 * (S55 62 v1)) + (S55 61 v1)) ≤ 1 then (
          zl (v1 + 1) fun x61 =>
          L_X12_whyNot_223 n x61 S55)
        else (
          some (4, S55)))
      else (
        some (4, S55)))
set_option maxHeartbeats 4000000 in
set_option maxRecDepth 20000 in
theorem TL_X12_whyNot_223 {r : Int} {S' : HS} {z : Zt} (hz : zO z cX12_whyNot RX12 3 shF) (hN : zN z 2) (hF : zFi z shF .int r S') : ∀ (n : Nat) {v1 : Int} {S : HS}, rng v1 → WR shF S → L_X12_whyNot_223 n v1 S = some (r, S') → zA z 223 [(0, aR 51), (1, aI v1)] [] S := by
  intro n
  induction n with
  | zero =>
    intro _ _ _ _ h
    cases h
  | succ n ih =>
    intro v1 S rv1 hW h
    rw [L_X12_whyNot_223.eq_2] at h
    refine s_iload_n 1 hz dX12_whyNot_223 rfl ?_
    refine s_iconst hz dX12_whyNot_224 ?_
    refine s_iadd hz dX12_whyNot_225 ?_
    refine s_aload_n 0 hz dX12_whyNot_226 rfl ?_
    refine s_getI (kz := 19) 19 hz fl_X12_286 sf51 rfl rfl dX12_whyNot_227 ?_
    obtain ⟨x50, ex50, rx50, h⟩ := zl_ex h
    rw [← ex50]
    refine s_icmp_ge 285 hz rx50 (hW 51 _ sf51 19) dX12_whyNot_230 rfl (fun c51 => ?_) (fun c51 => ?_)
    · have h := zif_t c51 h
      refine s_iconst hz dX12_whyNot_285 ?_
      exact s_iret h hz hF rl_0 hW dX12_whyNot_286
    · have h := zif_f c51 h
      refine s_aload_n 0 hz dX12_whyNot_233 rfl ?_
      refine s_aload_n 0 hz dX12_whyNot_234 rfl ?_
      refine s_getR 20 hz fl_X12_65 sf51 rfl (by decide) dX12_whyNot_235 ?_
      refine s_iload_n 1 hz dX12_whyNot_238 rfl ?_
      obtain ⟨g52, h⟩ := zg_of h
      refine s_iald hz sf61 rfl (by decide) g52 dX12_whyNot_239 ?_
      refine s_aload_n 0 hz dX12_whyNot_240 rfl ?_
      refine s_getR 21 hz fl_X12_68 sf51 rfl (by decide) dX12_whyNot_241 ?_
      refine s_iload_n 1 hz dX12_whyNot_244 rfl ?_
      obtain ⟨g53, h⟩ := zg_of h
      refine s_iald hz sf62 rfl (by decide) g53 dX12_whyNot_245 ?_
      obtain ⟨r54, S55, hc55, h⟩ := zb_of h
      refine s_callV [aI (S 61 v1), aI (S 62 v1)] [] hz ml_X12_301 sv_yX12_isOnParting (T_X12_isOnParting (hW 61 _ sf61 v1) (hW 62 _ sf62 v1) hW hc55) (by decide) rfl sf51 rfl rfl (Nat.le_of_ble_eq_true rfl) dX12_whyNot_246 (fun rr54 hW55 => ?_)
      refine s_if_ne 277 hz rr54 dX12_whyNot_249 rfl (fun c56 => ?_) (fun c56 => ?_)
      · have h := zif_f c56 h
        refine s_iconst hz dX12_whyNot_277 ?_
        exact s_iret h hz hF rl_4 hW55 dX12_whyNot_278
      · have h := zif_t c56 h
        refine s_aload_n 0 hz dX12_whyNot_252 rfl ?_
        refine s_getR 25 hz fl_X12_77 sf51 rfl (by decide) dX12_whyNot_253 ?_
        refine s_bipush hz dX12_whyNot_256 bp_17 ?_
        refine s_aload_n 0 hz dX12_whyNot_258 rfl ?_
        refine s_getR 21 hz fl_X12_68 sf51 rfl (by decide) dX12_whyNot_259 ?_
        refine s_iload_n 1 hz dX12_whyNot_262 rfl ?_
        obtain ⟨g57, h⟩ := zg_of h
        refine s_iald hz sf62 rfl (by decide) g57 dX12_whyNot_263 ?_
        refine s_imul hz dX12_whyNot_264 ?_
        refine s_aload_n 0 hz dX12_whyNot_265 rfl ?_
        refine s_getR 20 hz fl_X12_65 sf51 rfl (by decide) dX12_whyNot_266 ?_
        refine s_iload_n 1 hz dX12_whyNot_269 rfl ?_
        obtain ⟨g58, h⟩ := zg_of h
        refine s_iald hz sf61 rfl (by decide) g58 dX12_whyNot_270 ?_
        refine s_iadd hz dX12_whyNot_271 ?_
        obtain ⟨g59, h⟩ := zg_of h
        refine s_iald hz sf65 rfl (by decide) g59 dX12_whyNot_272 ?_
        refine s_iconst hz dX12_whyNot_273 ?_
        refine s_icmp_le 279 hz (hW55 65 _ sf65 ((17 * (S55 62 v1)) + (S55 61 v1))) rl_1 dX12_whyNot_274 rfl (fun c60 => ?_) (fun c60 => ?_)
        · have h := zif_t c60 h
          obtain ⟨x61, ex61, rx61, h⟩ := zl_ex h
          refine s_iinc (k0 := 1) (y := x61) (l' := [(1, aI x61), (0, aR 51)]) hz hN dX12_whyNot_279 rfl ex61.symm (by decide) rfl ?_
          refine s_goto 223 hz dX12_whyNot_282 rfl ?_
          refine s_pick (l' := [(0, aR 51), (1, aI x61)]) [1, 0] rfl ?_
          exact ih rx61 hW55 h
        · have h := zif_f c60 h
          refine s_iconst hz dX12_whyNot_277 ?_
          exact s_iret h hz hF rl_4 hW55 dX12_whyNot_278
def M_X12_whyNot (S : HS) : zO2 :=
  if S 51 22 = 60 then (
    some (9, S))
  else (
    L_X12_whyNot_14 (fun S12 =>
        if S12 51 19 = 1 then (
          some (2, S12))
        else (
          L_X12_whyNot_82 (fun S18 =>
              L_X12_whyNot_104 (fun S35 =>
                  L_X12_whyNot_160 (fun S40 =>
                      L_X12_whyNot_182 (fun S49 =>
                          L_X12_whyNot_223 zBig 1 S49) zBig 0 S40) zBig 0 S35) zBig 0 S18) zBig 0 S12)) zBig 0 S)
set_option maxHeartbeats 4000000 in
set_option maxRecDepth 20000 in
theorem T_X12_whyNot {S S' : HS} {r : Int} (hW : WR shF S) (h : M_X12_whyNot S = some (r, S')) : zR shF yX12_whyNot cX12_whyNot 2  .int 3 [aR 51] S r S' := by
  refine zR_of (by decide +kernel) (Nat.le_of_ble_eq_true rfl) (fun z hz hN hF => ?_)
  have hz : zO z cX12_whyNot RX12 3 shF := hz
  show zA z 0 [(0, aR 51)] [] S
  unfold M_X12_whyNot at h
  refine s_aload_n 0 hz dX12_whyNot_0 rfl ?_
  refine s_getI (kz := 22) 22 hz fl_X12_253 sf51 rfl rfl dX12_whyNot_1 ?_
  refine s_bipush hz dX12_whyNot_4 bp_60 ?_
  refine s_icmp_ne 12 hz (hW 51 _ sf51 22) rl_60 dX12_whyNot_6 rfl (fun c1 => ?_) (fun c1 => ?_)
  · have h := zif_f c1 h
    refine s_iconst hz dX12_whyNot_12 ?_
    refine s_istore_n (l' := [(1, aI 0), (0, aR 51)]) hz hN dX12_whyNot_13 (by decide) rfl ?_
    refine s_pick (l' := [(0, aR 51), (1, aI 0)]) [1, 0] rfl ?_
    refine TL_X12_whyNot_14 hz hN hF ?_ zBig rl_0 hW h
    · clear h 
      intro S12 hW12 h
      refine s_aload_n 0 hz dX12_whyNot_70 rfl ?_
      refine s_getI (kz := 19) 19 hz fl_X12_286 sf51 rfl rfl dX12_whyNot_71 ?_
      refine s_iconst hz dX12_whyNot_74 ?_
      refine s_icmp_ne 80 hz (hW12 51 _ sf51 19) rl_1 dX12_whyNot_75 rfl (fun c13 => ?_) (fun c13 => ?_)
      · have h := zif_f c13 h
        refine s_iconst hz dX12_whyNot_80 ?_
        refine s_istore_n (l' := [(1, aI 0), (0, aR 51)]) hz hN dX12_whyNot_81 (by decide) rfl ?_
        refine s_pick (l' := [(0, aR 51), (1, aI 0)]) [1, 0] rfl ?_
        refine TL_X12_whyNot_82 hz hN hF ?_ zBig rl_0 hW12 h
        · clear h 
          intro S18 hW18 h
          refine s_iconst hz dX12_whyNot_102 ?_
          refine s_istore_n (l' := [(1, aI 0), (0, aR 51)]) hz hN dX12_whyNot_103 (by decide) rfl ?_
          refine s_pick (l' := [(0, aR 51), (1, aI 0)]) [1, 0] rfl ?_
          refine TL_X12_whyNot_104 hz hN hF ?_ zBig rl_0 hW18 h
          · clear h 
            intro S35 hW35 h
            refine s_iconst hz dX12_whyNot_158 ?_
            refine s_istore_n (l' := [(1, aI 0), (0, aR 51)]) hz hN dX12_whyNot_159 (by decide) rfl ?_
            refine s_pick (l' := [(0, aR 51), (1, aI 0)]) [1, 0] rfl ?_
            refine TL_X12_whyNot_160 hz hN hF ?_ zBig rl_0 hW35 h
            · clear h 
              intro S40 hW40 h
              refine s_iconst hz dX12_whyNot_180 ?_
              refine s_istore_n (l' := [(1, aI 0), (0, aR 51)]) hz hN dX12_whyNot_181 (by decide) rfl ?_
              refine s_pick (l' := [(0, aR 51), (1, aI 0)]) [1, 0] rfl ?_
              refine TL_X12_whyNot_182 hz hN hF ?_ zBig rl_0 hW40 h
              · clear h 
                intro S49 hW49 h
                refine s_iconst hz dX12_whyNot_221 ?_
                refine s_istore_n (l' := [(1, aI 1), (0, aR 51)]) hz hN dX12_whyNot_222 (by decide) rfl ?_
                refine s_pick (l' := [(0, aR 51), (1, aI 1)]) [1, 0] rfl ?_
                exact TL_X12_whyNot_223 hz hN hF zBig rl_1 hW49 h
      · have h := zif_t c13 h
        refine s_iconst hz dX12_whyNot_78 ?_
        exact s_iret h hz hF rl_2 hW12 dX12_whyNot_79
  · have h := zif_t c1 h
    refine s_bipush hz dX12_whyNot_9 bp_9 ?_
    exact s_iret h hz hF rl_9 hW dX12_whyNot_11
def M_X12_setSide (a1 : Int) (a2 : Int) (S : HS) : zO2 :=
  if 208 ≤ a1 then (
    zg ((0 : Int) ≤ a1 - 208 ∧ a1 - 208 < 204) <|
    zs (up S 64 (a1 - 208) a2) fun S3 =>
    some (0, S3))
  else (
    zg ((0 : Int) ≤ a1 ∧ a1 < 208) <|
    zs (up S 63 a1 a2) fun S5 =>
    some (0, S5))
set_option maxHeartbeats 4000000 in
set_option maxRecDepth 20000 in
theorem T_X12_setSide {a1 : Int} {a2 : Int} {S S' : HS} {r : Int} (ra1 : rng a1) (ra2 : rng a2) (hW : WR shF S) (h : M_X12_setSide a1 a2 S = some (r, S')) : zV shF yX12_setSide cX12_setSide 3 1 [aR 51, aI a1, aI a2] S S' := by
  refine zV_of (by decide +kernel) (Nat.le_of_ble_eq_true rfl) (fun z hz hN hF => ?_)
  have hz : zO z cX12_setSide RX12 1 shF := hz
  show zA z 0 [(0, aR 51), (1, aI a1), (2, aI a2)] [] S
  unfold M_X12_setSide at h
  refine s_iload_n 1 hz dX12_setSide_0 rfl ?_
  refine s_sipush hz dX12_setSide_1 sp_208 ?_
  refine s_icmp_ge 17 hz ra1 rl_208 dX12_setSide_4 rfl (fun c1 => ?_) (fun c1 => ?_)
  · have h := zif_t c1 h
    refine s_aload_n 0 hz dX12_setSide_17 rfl ?_
    refine s_getR 24 hz fl_X12_74 sf51 rfl (by decide) dX12_setSide_18 ?_
    refine s_iload_n 1 hz dX12_setSide_21 rfl ?_
    refine s_sipush hz dX12_setSide_22 sp_208 ?_
    refine s_isub hz dX12_setSide_25 ?_
    refine s_iload_n 2 hz dX12_setSide_26 rfl ?_
    obtain ⟨g2, h⟩ := zg_of h
    obtain ⟨S3, eS3, h⟩ := zs_ex h
    have hW3 : WR shF S3 := by rw [eS3]; exact hW.up (i := (a1 - 208)) sf64 (v := a2) ra2
    refine s_iast hz sf64 rfl (by decide) g2 dX12_setSide_27 ?_
    rw [← eS3]
    exact s_vret h hz hF hW3 dX12_setSide_28
  · have h := zif_f c1 h
    refine s_aload_n 0 hz dX12_setSide_7 rfl ?_
    refine s_getR 23 hz fl_X12_71 sf51 rfl (by decide) dX12_setSide_8 ?_
    refine s_iload_n 1 hz dX12_setSide_11 rfl ?_
    refine s_iload_n 2 hz dX12_setSide_12 rfl ?_
    obtain ⟨g4, h⟩ := zg_of h
    obtain ⟨S5, eS5, h⟩ := zs_ex h
    have hW5 : WR shF S5 := by rw [eS5]; exact hW.up (i := a1) sf63 (v := a2) ra2
    refine s_iast hz sf63 rfl (by decide) g4 dX12_setSide_13 ?_
    rw [← eS5]
    refine s_goto 28 hz dX12_setSide_14 rfl ?_
    exact s_vret h hz hF hW5 dX12_setSide_28
def L_X12_parting_21 (p1 : Int) : Nat → Int → HS → zO2
  | 0, _, _ => none
  | n + 1, v2, S => 
    zl (v2 + 1) fun x6 =>
    if S 51 19 ≤ x6 then (
      some (p1, S))
    else (
      zb (M_X12_sideAt v2 S) fun r8 S9 =>
      zb (M_X12_setSide r8 (S9 51 22) S9) fun _ S11 =>
      zl (v2 + 1) fun x12 =>
      L_X12_parting_21 p1 n x12 S11)
set_option maxHeartbeats 4000000 in
set_option maxRecDepth 20000 in
theorem TL_X12_parting_21 {p1 : Int} {r : Int} {S' : HS} {z : Zt} (hz : zO z cX12_parting RX12 4 shF) (hN : zN z 3) (hF : zFi z shF .int r S') (rp1 : rng p1) : ∀ (n : Nat) {v2 : Int} {S : HS}, rng v2 → WR shF S → L_X12_parting_21 p1 n v2 S = some (r, S') → zA z 21 [(0, aR 51), (1, aI p1), (2, aI v2)] [] S := by
  intro n
  induction n with
  | zero =>
    intro _ _ _ _ h
    cases h
  | succ n ih =>
    intro v2 S rv2 hW h
    rw [L_X12_parting_21.eq_2] at h
    refine s_iload_n 2 hz dX12_parting_21 rfl ?_
    refine s_iconst hz dX12_parting_22 ?_
    refine s_iadd hz dX12_parting_23 ?_
    refine s_aload_n 0 hz dX12_parting_24 rfl ?_
    refine s_getI (kz := 19) 19 hz fl_X12_286 sf51 rfl rfl dX12_parting_25 ?_
    obtain ⟨x6, ex6, rx6, h⟩ := zl_ex h
    rw [← ex6]
    refine s_icmp_ge 50 hz rx6 (hW 51 _ sf51 19) dX12_parting_28 rfl (fun c7 => ?_) (fun c7 => ?_)
    · have h := zif_t c7 h
      refine s_iload_n 1 hz dX12_parting_50 rfl ?_
      exact s_iret h hz hF rp1 hW dX12_parting_51
    · have h := zif_f c7 h
      refine s_aload_n 0 hz dX12_parting_31 rfl ?_
      refine s_aload_n 0 hz dX12_parting_32 rfl ?_
      refine s_iload_n 2 hz dX12_parting_33 rfl ?_
      obtain ⟨r8, S9, hc9, h⟩ := zb_of h
      refine s_callV [aI v2] [aR 51] hz ml_X12_295 sv_yX12_sideAt (T_X12_sideAt rv2 hW hc9) (by decide) rfl sf51 rfl rfl (Nat.le_of_ble_eq_true rfl) dX12_parting_34 (fun rr8 hW9 => ?_)
      refine s_aload_n 0 hz dX12_parting_37 rfl ?_
      refine s_getI (kz := 22) 22 hz fl_X12_253 sf51 rfl rfl dX12_parting_38 ?_
      obtain ⟨r10, S11, hc11, h⟩ := zb_of h
      refine s_callVv [aI r8, aI (S9 51 22)] [] hz ml_X12_308 sv_yX12_setSide (T_X12_setSide rr8 (hW9 51 _ sf51 22) hW9 hc11) (by decide) rfl sf51 rfl rfl (Nat.le_of_ble_eq_true rfl) dX12_parting_41 (fun hW11 => ?_)
      obtain ⟨x12, ex12, rx12, h⟩ := zl_ex h
      refine s_iinc (k0 := 2) (y := x12) (l' := [(2, aI x12), (0, aR 51), (1, aI p1)]) hz hN dX12_parting_44 rfl ex12.symm (by decide) rfl ?_
      refine s_goto 21 hz dX12_parting_47 rfl ?_
      refine s_pick (l' := [(0, aR 51), (1, aI p1), (2, aI x12)]) [1, 2, 0] rfl ?_
      exact ih rx12 hW11 h
def M_X12_parting (S : HS) : zO2 :=
  zb (M_X12_whyNot S) fun r1 S2 =>
  if r1 = 0 then (
    zl ((S2 51 22) + 1) fun x4 =>
    zs (up S2 51 22 x4) fun S5 =>
    L_X12_parting_21 r1 zBig 0 S5)
  else (
    some (r1, S2))
set_option maxHeartbeats 4000000 in
set_option maxRecDepth 20000 in
theorem T_X12_parting {S S' : HS} {r : Int} (hW : WR shF S) (h : M_X12_parting S = some (r, S')) : zR shF yX12_parting cX12_parting 3  .int 4 [aR 51] S r S' := by
  refine zR_of (by decide +kernel) (Nat.le_of_ble_eq_true rfl) (fun z hz hN hF => ?_)
  have hz : zO z cX12_parting RX12 4 shF := hz
  show zA z 0 [(0, aR 51)] [] S
  unfold M_X12_parting at h
  refine s_aload_n 0 hz dX12_parting_0 rfl ?_
  obtain ⟨r1, S2, hc2, h⟩ := zb_of h
  refine s_callV [] [] hz ml_X12_305 sv_yX12_whyNot (T_X12_whyNot hW hc2) (by decide) rfl sf51 rfl rfl (Nat.le_of_ble_eq_true rfl) dX12_parting_1 (fun rr1 hW2 => ?_)
  refine s_istore_n (l' := [(1, aI r1), (0, aR 51)]) hz hN dX12_parting_4 (by decide) rfl ?_
  refine s_iload_n 0 hz dX12_parting_5 rfl ?_
  refine s_if_ne 50 hz rr1 dX12_parting_6 rfl (fun c3 => ?_) (fun c3 => ?_)
  · have h := zif_f c3 h
    refine s_iload_n 0 hz dX12_parting_50 rfl ?_
    exact s_iret h hz hF rr1 hW2 dX12_parting_51
  · have h := zif_t c3 h
    refine s_aload_n 1 hz dX12_parting_9 rfl ?_
    refine s_dup hz rfl dX12_parting_10 ?_
    refine s_getI (kz := 22) 22 hz fl_X12_253 sf51 rfl rfl dX12_parting_11 ?_
    refine s_iconst hz dX12_parting_14 ?_
    refine s_iadd hz dX12_parting_15 ?_
    obtain ⟨x4, ex4, rx4, h⟩ := zl_ex h
    rw [← ex4]
    obtain ⟨S5, eS5, h⟩ := zs_ex h
    have hW5 : WR shF S5 := by rw [eS5]; exact hW2.up (i := 22) sf51 (v := x4) rx4
    refine s_putI (kz := 22) 22 hz fp_X12_253 sf51 rfl rfl dX12_parting_16 ?_
    rw [← eS5]
    refine s_iconst hz dX12_parting_19 ?_
    refine s_istore_n (l' := [(2, aI 0), (1, aI r1), (0, aR 51)]) hz hN dX12_parting_20 (by decide) rfl ?_
    refine s_pick (l' := [(0, aR 51), (1, aI r1), (2, aI 0)]) [2, 1, 0] rfl ?_
    exact TL_X12_parting_21 hz hN hF rr1 zBig rl_0 hW5 h
def J_X12_draws_244 (rec : Int → Int → Int → Int → Int → HS → zO2) (k3 : Int → HS → zO2) (v2 : Int) (v3 : Int) (v4 : Int) (v5 : Int) (v6 : Int) (S : HS) : zO2 :=
  zg ((0 : Int) ≤ v6 ∧ v6 < 1100) <|
  k3 (S 60 v6) S
set_option maxHeartbeats 4000000 in
set_option maxRecDepth 20000 in
theorem TJ_X12_draws_244 {e : Nat} {rec : Int → Int → Int → Int → Int → HS → zO2} {k3 : Int → HS → zO2} {v2 : Int} {v3 : Int} {v4 : Int} {v5 : Int} {v6 : Int} {S : HS} {r : Int} {S' : HS} {z : Zt} (hz : zO z cX12_draws RX12 (e + 1) shF) (hN : zN z 9) (hF : zFv z shF S') (hrec : ∀ (b1 b2 b3 b4 b5 : Int) (S S' : HS) (r : Int), rng b1 → rng b2 → rng b3 → rng b4 → rng b5 → WR shF S → rec b1 b2 b3 b4 b5 S = some (r, S') → zV shF yX12_draws cX12_draws 9 e [aR 51, aI b1, aI b2, aI b3, aI b4, aI b5] S S') (he : 4 ≤ e) (hk3 : ∀ (w6 : Int) (S : HS), rng w6 → WR shF S → k3 w6 S = some (r, S') → zA z 3 [(0, aR 51), (2, aI v2), (3, aI v3), (4, aI v4), (5, aI v5), (6, aI w6)] [] S) (rv2 : rng v2) (rv3 : rng v3) (rv4 : rng v4) (rv5 : rng v5) (rv6 : rng v6) (hW : WR shF S) (h : J_X12_draws_244 rec k3 v2 v3 v4 v5 v6 S = some (r, S')) : zA z 244 [(0, aR 51), (2, aI v2), (3, aI v3), (4, aI v4), (5, aI v5), (6, aI v6)] [] S := by
  unfold J_X12_draws_244 at h
  refine s_aload_n 0 hz dX12_draws_244 rfl ?_
  refine s_getR 14 hz fl_X12_62 sf51 rfl (by decide) dX12_draws_245 ?_
  refine s_iload 5 hz dX12_draws_248 rfl ?_
  obtain ⟨g17, h⟩ := zg_of h
  refine s_iald hz sf60 rfl (by decide) g17 dX12_draws_250 ?_
  refine s_istore (l' := [(6, aI (S 60 v6)), (0, aR 51), (2, aI v2), (3, aI v3), (4, aI v4), (5, aI v5)]) hz hN dX12_draws_251 (by decide) rfl ?_
  refine s_goto 3 hz dX12_draws_253 rfl ?_
  refine s_pick (l' := [(0, aR 51), (2, aI v2), (3, aI v3), (4, aI v4), (5, aI v5), (6, aI (S 60 v6))]) [1, 2, 3, 4, 5, 0] rfl ?_
  exact hk3 _ _ (hW 60 _ sf60 v6) hW h
def J_X12_draws_240 (rec : Int → Int → Int → Int → Int → HS → zO2) (k3 : Int → HS → zO2) (v2 : Int) (v3 : Int) (v4 : Int) (v5 : Int) (v6 : Int) (t0 : Int) (t1 : Int) (S : HS) : zO2 :=
  zl (t1 + t0) fun x15 =>
  zs (up S 51 18 x15) fun S16 =>
  J_X12_draws_244 rec k3 v2 v3 v4 v5 v6 S16
set_option maxHeartbeats 4000000 in
set_option maxRecDepth 20000 in
theorem TJ_X12_draws_240 {e : Nat} {rec : Int → Int → Int → Int → Int → HS → zO2} {k3 : Int → HS → zO2} {v2 : Int} {v3 : Int} {v4 : Int} {v5 : Int} {v6 : Int} {t0 : Int} {t1 : Int} {S : HS} {r : Int} {S' : HS} {z : Zt} (hz : zO z cX12_draws RX12 (e + 1) shF) (hN : zN z 9) (hF : zFv z shF S') (hrec : ∀ (b1 b2 b3 b4 b5 : Int) (S S' : HS) (r : Int), rng b1 → rng b2 → rng b3 → rng b4 → rng b5 → WR shF S → rec b1 b2 b3 b4 b5 S = some (r, S') → zV shF yX12_draws cX12_draws 9 e [aR 51, aI b1, aI b2, aI b3, aI b4, aI b5] S S') (he : 4 ≤ e) (hk3 : ∀ (w6 : Int) (S : HS), rng w6 → WR shF S → k3 w6 S = some (r, S') → zA z 3 [(0, aR 51), (2, aI v2), (3, aI v3), (4, aI v4), (5, aI v5), (6, aI w6)] [] S) (rv2 : rng v2) (rv3 : rng v3) (rv4 : rng v4) (rv5 : rng v5) (rv6 : rng v6) (rt0 : rng t0) (rt1 : rng t1) (hW : WR shF S) (h : J_X12_draws_240 rec k3 v2 v3 v4 v5 v6 t0 t1 S = some (r, S')) : zA z 240 [(0, aR 51), (2, aI v2), (3, aI v3), (4, aI v4), (5, aI v5), (6, aI v6)] [aI t0, aI t1, aR 51] S := by
  unfold J_X12_draws_240 at h
  refine s_iadd hz dX12_draws_240 ?_
  obtain ⟨x15, ex15, rx15, h⟩ := zl_ex h
  rw [← ex15]
  obtain ⟨S16, eS16, h⟩ := zs_ex h
  have hW16 : WR shF S16 := by rw [eS16]; exact hW.up (i := 18) sf51 (v := x15) rx15
  refine s_putI (kz := 18) 18 hz fp_X12_262 sf51 rfl rfl dX12_draws_241 ?_
  rw [← eS16]
  exact TJ_X12_draws_244 hz hN hF hrec he hk3 rv2 rv3 rv4 rv5 rv6 hW16 h
def J_X12_draws_220 (rec : Int → Int → Int → Int → Int → HS → zO2) (k3 : Int → HS → zO2) (v2 : Int) (v3 : Int) (v4 : Int) (v5 : Int) (v6 : Int) (t0 : Int) (S : HS) : zO2 :=
  zs (up S 51 17 t0) fun S13 =>
  if S13 51 17 = 0 then (
    J_X12_draws_240 rec k3 v2 v3 v4 v5 v6 1 (S13 51 18) S13)
  else (
    J_X12_draws_240 rec k3 v2 v3 v4 v5 v6 0 (S13 51 18) S13)
set_option maxHeartbeats 4000000 in
set_option maxRecDepth 20000 in
theorem TJ_X12_draws_220 {e : Nat} {rec : Int → Int → Int → Int → Int → HS → zO2} {k3 : Int → HS → zO2} {v2 : Int} {v3 : Int} {v4 : Int} {v5 : Int} {v6 : Int} {t0 : Int} {S : HS} {r : Int} {S' : HS} {z : Zt} (hz : zO z cX12_draws RX12 (e + 1) shF) (hN : zN z 9) (hF : zFv z shF S') (hrec : ∀ (b1 b2 b3 b4 b5 : Int) (S S' : HS) (r : Int), rng b1 → rng b2 → rng b3 → rng b4 → rng b5 → WR shF S → rec b1 b2 b3 b4 b5 S = some (r, S') → zV shF yX12_draws cX12_draws 9 e [aR 51, aI b1, aI b2, aI b3, aI b4, aI b5] S S') (he : 4 ≤ e) (hk3 : ∀ (w6 : Int) (S : HS), rng w6 → WR shF S → k3 w6 S = some (r, S') → zA z 3 [(0, aR 51), (2, aI v2), (3, aI v3), (4, aI v4), (5, aI v5), (6, aI w6)] [] S) (rv2 : rng v2) (rv3 : rng v3) (rv4 : rng v4) (rv5 : rng v5) (rv6 : rng v6) (rt0 : rng t0) (hW : WR shF S) (h : J_X12_draws_220 rec k3 v2 v3 v4 v5 v6 t0 S = some (r, S')) : zA z 220 [(0, aR 51), (2, aI v2), (3, aI v3), (4, aI v4), (5, aI v5), (6, aI v6)] [aI t0, aR 51] S := by
  unfold J_X12_draws_220 at h
  obtain ⟨S13, eS13, h⟩ := zs_ex h
  have hW13 : WR shF S13 := by rw [eS13]; exact hW.up (i := 17) sf51 (v := t0) rt0
  refine s_putI (kz := 17) 17 hz fp_X12_259 sf51 rfl rfl dX12_draws_220 ?_
  rw [← eS13]
  refine s_aload_n 0 hz dX12_draws_223 rfl ?_
  refine s_dup hz rfl dX12_draws_224 ?_
  refine s_getI (kz := 18) 18 hz fl_X12_262 sf51 rfl rfl dX12_draws_225 ?_
  refine s_aload_n 0 hz dX12_draws_228 rfl ?_
  refine s_getI (kz := 17) 17 hz fl_X12_259 sf51 rfl rfl dX12_draws_229 ?_
  refine s_if_ne 239 hz (hW13 51 _ sf51 17) dX12_draws_232 rfl (fun c14 => ?_) (fun c14 => ?_)
  · have h := zif_f c14 h
    refine s_iconst hz dX12_draws_239 ?_
    exact TJ_X12_draws_240 hz hN hF hrec he hk3 rv2 rv3 rv4 rv5 rv6 rl_0 (hW13 51 _ sf51 18) hW13 h
  · have h := zif_t c14 h
    refine s_iconst hz dX12_draws_235 ?_
    refine s_goto 240 hz dX12_draws_236 rfl ?_
    exact TJ_X12_draws_240 hz hN hF hrec he hk3 rv2 rv3 rv4 rv5 rv6 rl_1 (hW13 51 _ sf51 18) hW13 h
def J_X12_draws_177 (rec : Int → Int → Int → Int → Int → HS → zO2) (k3 : Int → HS → zO2) (v2 : Int) (v3 : Int) (v4 : Int) (v5 : Int) (v6 : Int) (t0 : Int) (t1 : Int) (t2 : Int) (S : HS) : zO2 :=
  zb (rec t2 t1 t0 v4 v5 S) fun _ S28 =>
  J_X12_draws_244 rec k3 v2 v3 v4 v5 v6 S28
set_option maxHeartbeats 4000000 in
set_option maxRecDepth 20000 in
theorem TJ_X12_draws_177 {e : Nat} {rec : Int → Int → Int → Int → Int → HS → zO2} {k3 : Int → HS → zO2} {v2 : Int} {v3 : Int} {v4 : Int} {v5 : Int} {v6 : Int} {t0 : Int} {t1 : Int} {t2 : Int} {S : HS} {r : Int} {S' : HS} {z : Zt} (hz : zO z cX12_draws RX12 (e + 1) shF) (hN : zN z 9) (hF : zFv z shF S') (hrec : ∀ (b1 b2 b3 b4 b5 : Int) (S S' : HS) (r : Int), rng b1 → rng b2 → rng b3 → rng b4 → rng b5 → WR shF S → rec b1 b2 b3 b4 b5 S = some (r, S') → zV shF yX12_draws cX12_draws 9 e [aR 51, aI b1, aI b2, aI b3, aI b4, aI b5] S S') (he : 4 ≤ e) (hk3 : ∀ (w6 : Int) (S : HS), rng w6 → WR shF S → k3 w6 S = some (r, S') → zA z 3 [(0, aR 51), (2, aI v2), (3, aI v3), (4, aI v4), (5, aI v5), (6, aI w6)] [] S) (rv2 : rng v2) (rv3 : rng v3) (rv4 : rng v4) (rv5 : rng v5) (rv6 : rng v6) (rt0 : rng t0) (rt1 : rng t1) (rt2 : rng t2) (hW : WR shF S) (h : J_X12_draws_177 rec k3 v2 v3 v4 v5 v6 t0 t1 t2 S = some (r, S')) : zA z 177 [(0, aR 51), (2, aI v2), (3, aI v3), (4, aI v4), (5, aI v5), (6, aI v6)] [aI t0, aI t1, aI t2, aR 51] S := by
  unfold J_X12_draws_177 at h
  refine s_iload 3 hz dX12_draws_177 rfl ?_
  refine s_iload 4 hz dX12_draws_179 rfl ?_
  obtain ⟨r27, S28, hc28, h⟩ := zb_of h
  refine s_callVv [aI t2, aI t1, aI t0, aI v4, aI v5] [] hz ml_X12_265 sv_yX12_draws (hrec _ _ _ _ _ _ _ _ rt2 rt1 rt0 rv4 rv5 hW hc28) (by omega) rfl sf51 rfl rfl (Nat.le_of_ble_eq_true rfl) dX12_draws_181 (fun hW28 => ?_)
  refine s_goto 244 hz dX12_draws_184 rfl ?_
  exact TJ_X12_draws_244 hz hN hF hrec he hk3 rv2 rv3 rv4 rv5 rv6 hW28 h
def L_X12_draws_58 (rec : Int → Int → Int → Int → Int → HS → zO2) (k122 : HS → zO2) (p2 : Int) (p3 : Int) (p4 : Int) (p5 : Int) (p6 : Int) (p7 : Int) : Nat → Int → HS → zO2
  | 0, _, _ => none
  | n + 1, v8, S => 
    zg ((0 : Int) ≤ p6 ∧ p6 < 1100) <|
    if S 58 p6 ≤ v8 then (
      k122 S)
    else (
      if S 51 17 = 0 then (
        zg ((0 : Int) ≤ p6 ∧ p6 < 1100) <|
        zg ((0 : Int) ≤ p6 + 1 ∧ p6 + 1 < 1100) <|
        zl (p5 + (v8 * (S 59 (p6 + 1)))) fun x37 =>
        zl (p4 + (v8 * p7)) fun x38 =>
        zl (p6 + 2) fun x39 =>
        zb (rec x39 (S 60 p6) p3 x38 x37 S) fun _ S41 =>
        zl (v8 + 1) fun x42 =>
        L_X12_draws_58 rec k122 p2 p3 p4 p5 p6 p7 n x42 S41)
      else (
        k122 S))
set_option maxHeartbeats 4000000 in
set_option maxRecDepth 20000 in
theorem TL_X12_draws_58 {e : Nat} {rec : Int → Int → Int → Int → Int → HS → zO2} {k122 : HS → zO2} {p2 : Int} {p3 : Int} {p4 : Int} {p5 : Int} {p6 : Int} {p7 : Int} {r : Int} {S' : HS} {z : Zt} (hz : zO z cX12_draws RX12 (e + 1) shF) (hN : zN z 9) (hF : zFv z shF S') (hrec : ∀ (b1 b2 b3 b4 b5 : Int) (S S' : HS) (r : Int), rng b1 → rng b2 → rng b3 → rng b4 → rng b5 → WR shF S → rec b1 b2 b3 b4 b5 S = some (r, S') → zV shF yX12_draws cX12_draws 9 e [aR 51, aI b1, aI b2, aI b3, aI b4, aI b5] S S') (he : 4 ≤ e) (hk122 : ∀ (S : HS), WR shF S → k122 S = some (r, S') → zA z 122 [(0, aR 51), (2, aI p2), (3, aI p3), (4, aI p4), (5, aI p5), (6, aI p6)] [] S) (rp2 : rng p2) (rp3 : rng p3) (rp4 : rng p4) (rp5 : rng p5) (rp6 : rng p6) (rp7 : rng p7) : ∀ (n : Nat) {v8 : Int} {S : HS}, rng v8 → WR shF S → L_X12_draws_58 rec k122 p2 p3 p4 p5 p6 p7 n v8 S = some (r, S') → zA z 58 [(0, aR 51), (2, aI p2), (3, aI p3), (4, aI p4), (5, aI p5), (6, aI p6), (7, aI p7), (8, aI v8)] [] S := by
  intro n
  induction n with
  | zero =>
    intro _ _ _ _ h
    cases h
  | succ n ih =>
    intro v8 S rv8 hW h
    rw [L_X12_draws_58.eq_2] at h
    refine s_iload 7 hz dX12_draws_58 rfl ?_
    refine s_aload_n 0 hz dX12_draws_60 rfl ?_
    refine s_getR 12 hz fl_X12_56 sf51 rfl (by decide) dX12_draws_61 ?_
    refine s_iload 5 hz dX12_draws_64 rfl ?_
    obtain ⟨g32, h⟩ := zg_of h
    refine s_iald hz sf58 rfl (by decide) g32 dX12_draws_66 ?_
    refine s_icmp_ge 122 hz rv8 (hW 58 _ sf58 p6) dX12_draws_67 rfl (fun c33 => ?_) (fun c33 => ?_)
    · have h := zif_t c33 h
      refine s_pick (l' := [(0, aR 51), (2, aI p2), (3, aI p3), (4, aI p4), (5, aI p5), (6, aI p6)]) [0, 1, 2, 3, 4, 5] rfl ?_
      exact hk122 _ hW h
    · have h := zif_f c33 h
      refine s_aload_n 0 hz dX12_draws_70 rfl ?_
      refine s_getI (kz := 17) 17 hz fl_X12_259 sf51 rfl rfl dX12_draws_71 ?_
      refine s_if_ne 122 hz (hW 51 _ sf51 17) dX12_draws_74 rfl (fun c34 => ?_) (fun c34 => ?_)
      · have h := zif_f c34 h
        refine s_pick (l' := [(0, aR 51), (2, aI p2), (3, aI p3), (4, aI p4), (5, aI p5), (6, aI p6)]) [0, 1, 2, 3, 4, 5] rfl ?_
        exact hk122 _ hW h
      · have h := zif_t c34 h
        refine s_aload_n 0 hz dX12_draws_77 rfl ?_
        refine s_iload 5 hz dX12_draws_78 rfl ?_
        refine s_iconst hz dX12_draws_80 ?_
        refine s_iadd hz dX12_draws_81 ?_
        refine s_aload_n 0 hz dX12_draws_82 rfl ?_
        refine s_getR 14 hz fl_X12_62 sf51 rfl (by decide) dX12_draws_83 ?_
        refine s_iload 5 hz dX12_draws_86 rfl ?_
        obtain ⟨g35, h⟩ := zg_of h
        refine s_iald hz sf60 rfl (by decide) g35 dX12_draws_88 ?_
        refine s_iload_n 2 hz dX12_draws_89 rfl ?_
        refine s_iload 3 hz dX12_draws_90 rfl ?_
        refine s_iload 7 hz dX12_draws_92 rfl ?_
        refine s_iload 6 hz dX12_draws_94 rfl ?_
        refine s_imul hz dX12_draws_96 ?_
        refine s_iadd hz dX12_draws_97 ?_
        refine s_iload 4 hz dX12_draws_98 rfl ?_
        refine s_iload 7 hz dX12_draws_100 rfl ?_
        refine s_aload_n 0 hz dX12_draws_102 rfl ?_
        refine s_getR 13 hz fl_X12_59 sf51 rfl (by decide) dX12_draws_103 ?_
        refine s_iload 5 hz dX12_draws_106 rfl ?_
        refine s_iconst hz dX12_draws_108 ?_
        refine s_iadd hz dX12_draws_109 ?_
        obtain ⟨g36, h⟩ := zg_of h
        refine s_iald hz sf59 rfl (by decide) g36 dX12_draws_110 ?_
        refine s_imul hz dX12_draws_111 ?_
        refine s_iadd hz dX12_draws_112 ?_
        obtain ⟨x37, ex37, rx37, h⟩ := zl_ex h
        rw [← ex37]
        obtain ⟨x38, ex38, rx38, h⟩ := zl_ex h
        rw [← ex38]
        obtain ⟨x39, ex39, rx39, h⟩ := zl_ex h
        rw [← ex39]
        obtain ⟨r40, S41, hc41, h⟩ := zb_of h
        refine s_callVv [aI x39, aI (S 60 p6), aI p3, aI x38, aI x37] [] hz ml_X12_265 sv_yX12_draws (hrec _ _ _ _ _ _ _ _ rx39 (hW 60 _ sf60 p6) rp3 rx38 rx37 hW hc41) (by omega) rfl sf51 rfl rfl (Nat.le_of_ble_eq_true rfl) dX12_draws_113 (fun hW41 => ?_)
        obtain ⟨x42, ex42, rx42, h⟩ := zl_ex h
        refine s_iinc (k0 := 7) (y := x42) (l' := [(8, aI x42), (0, aR 51), (2, aI p2), (3, aI p3), (4, aI p4), (5, aI p5), (6, aI p6), (7, aI p7)]) hz hN dX12_draws_116 rfl ex42.symm (by decide) rfl ?_
        refine s_goto 58 hz dX12_draws_119 rfl ?_
        refine s_pick (l' := [(0, aR 51), (2, aI p2), (3, aI p3), (4, aI p4), (5, aI p5), (6, aI p6), (7, aI p7), (8, aI x42)]) [1, 2, 3, 4, 5, 6, 7, 0] rfl ?_
        exact ih rx42 hW41 h
def J_X12_draws_122 (rec : Int → Int → Int → Int → Int → HS → zO2) (k3 : Int → HS → zO2) (v2 : Int) (v3 : Int) (v4 : Int) (v5 : Int) (v6 : Int) (S : HS) : zO2 :=
  J_X12_draws_244 rec k3 v2 v3 v4 v5 v6 S
set_option maxHeartbeats 4000000 in
set_option maxRecDepth 20000 in
theorem TJ_X12_draws_122 {e : Nat} {rec : Int → Int → Int → Int → Int → HS → zO2} {k3 : Int → HS → zO2} {v2 : Int} {v3 : Int} {v4 : Int} {v5 : Int} {v6 : Int} {S : HS} {r : Int} {S' : HS} {z : Zt} (hz : zO z cX12_draws RX12 (e + 1) shF) (hN : zN z 9) (hF : zFv z shF S') (hrec : ∀ (b1 b2 b3 b4 b5 : Int) (S S' : HS) (r : Int), rng b1 → rng b2 → rng b3 → rng b4 → rng b5 → WR shF S → rec b1 b2 b3 b4 b5 S = some (r, S') → zV shF yX12_draws cX12_draws 9 e [aR 51, aI b1, aI b2, aI b3, aI b4, aI b5] S S') (he : 4 ≤ e) (hk3 : ∀ (w6 : Int) (S : HS), rng w6 → WR shF S → k3 w6 S = some (r, S') → zA z 3 [(0, aR 51), (2, aI v2), (3, aI v3), (4, aI v4), (5, aI v5), (6, aI w6)] [] S) (rv2 : rng v2) (rv3 : rng v3) (rv4 : rng v4) (rv5 : rng v5) (rv6 : rng v6) (hW : WR shF S) (h : J_X12_draws_122 rec k3 v2 v3 v4 v5 v6 S = some (r, S')) : zA z 122 [(0, aR 51), (2, aI v2), (3, aI v3), (4, aI v4), (5, aI v5), (6, aI v6)] [] S := by
  unfold J_X12_draws_122 at h
  refine s_goto 244 hz dX12_draws_122 rfl ?_
  exact TJ_X12_draws_244 hz hN hF hrec he hk3 rv2 rv3 rv4 rv5 rv6 hW h
def J_X12_draws_53 (rec : Int → Int → Int → Int → Int → HS → zO2) (k3 : Int → HS → zO2) (v2 : Int) (v3 : Int) (v4 : Int) (v5 : Int) (v6 : Int) (t0 : Int) (S : HS) : zO2 :=
  L_X12_draws_58 rec (fun S43 =>
      J_X12_draws_122 rec k3 v2 v3 v4 v5 v6 S43) v2 v3 v4 v5 v6 t0 zBig 0 S
set_option maxHeartbeats 4000000 in
set_option maxRecDepth 20000 in
theorem TJ_X12_draws_53 {e : Nat} {rec : Int → Int → Int → Int → Int → HS → zO2} {k3 : Int → HS → zO2} {v2 : Int} {v3 : Int} {v4 : Int} {v5 : Int} {v6 : Int} {t0 : Int} {S : HS} {r : Int} {S' : HS} {z : Zt} (hz : zO z cX12_draws RX12 (e + 1) shF) (hN : zN z 9) (hF : zFv z shF S') (hrec : ∀ (b1 b2 b3 b4 b5 : Int) (S S' : HS) (r : Int), rng b1 → rng b2 → rng b3 → rng b4 → rng b5 → WR shF S → rec b1 b2 b3 b4 b5 S = some (r, S') → zV shF yX12_draws cX12_draws 9 e [aR 51, aI b1, aI b2, aI b3, aI b4, aI b5] S S') (he : 4 ≤ e) (hk3 : ∀ (w6 : Int) (S : HS), rng w6 → WR shF S → k3 w6 S = some (r, S') → zA z 3 [(0, aR 51), (2, aI v2), (3, aI v3), (4, aI v4), (5, aI v5), (6, aI w6)] [] S) (rv2 : rng v2) (rv3 : rng v3) (rv4 : rng v4) (rv5 : rng v5) (rv6 : rng v6) (rt0 : rng t0) (hW : WR shF S) (h : J_X12_draws_53 rec k3 v2 v3 v4 v5 v6 t0 S = some (r, S')) : zA z 53 [(0, aR 51), (2, aI v2), (3, aI v3), (4, aI v4), (5, aI v5), (6, aI v6)] [aI t0] S := by
  unfold J_X12_draws_53 at h
  refine s_istore (l' := [(7, aI t0), (0, aR 51), (2, aI v2), (3, aI v3), (4, aI v4), (5, aI v5), (6, aI v6)]) hz hN dX12_draws_53 (by decide) rfl ?_
  refine s_iconst hz dX12_draws_55 ?_
  refine s_istore (l' := [(8, aI 0), (7, aI t0), (0, aR 51), (2, aI v2), (3, aI v3), (4, aI v4), (5, aI v5), (6, aI v6)]) hz hN dX12_draws_56 (by decide) rfl ?_
  refine s_pick (l' := [(0, aR 51), (2, aI v2), (3, aI v3), (4, aI v4), (5, aI v5), (6, aI v6), (7, aI t0), (8, aI 0)]) [2, 3, 4, 5, 6, 7, 1, 0] rfl ?_
  refine TL_X12_draws_58 hz hN hF hrec he ?_ rv2 rv3 rv4 rv5 rv6 rt0 zBig rl_0 hW h
  · clear h 
    intro S43 hW43 h
    exact TJ_X12_draws_122 hz hN hF hrec he hk3 rv2 rv3 rv4 rv5 rv6 hW43 h
def L_X12_draws_3 (rec : Int → Int → Int → Int → Int → HS → zO2) (p2 : Int) (p3 : Int) (p4 : Int) (p5 : Int) : Nat → Int → HS → zO2
  | 0, _, _ => none
  | n + 1, v6, S => 
    if p2 ≤ v6 then (
      some (0, S))
    else (
      if S 51 17 = 0 then (
        zg ((0 : Int) ≤ v6 ∧ v6 < 1100) <|
        if S 57 v6 = 2 then (
          if p3 = 0 then (
            zg ((0 : Int) ≤ v6 + 1 ∧ v6 + 1 < 1100) <|
            J_X12_draws_53 rec (L_X12_draws_3 rec p2 p3 p4 p5 n) p2 p3 p4 p5 v6 (S 58 (v6 + 1)) S)
          else (
            zg ((0 : Int) ≤ v6 + 1 ∧ v6 + 1 < 1100) <|
            zl (-(S 58 (v6 + 1))) fun x45 =>
            J_X12_draws_53 rec (L_X12_draws_3 rec p2 p3 p4 p5 n) p2 p3 p4 p5 v6 x45 S))
        else (
          zg ((0 : Int) ≤ v6 ∧ v6 < 1100) <|
          if S 57 v6 = 3 then (
            zg ((0 : Int) ≤ v6 ∧ v6 < 1100) <|
            zl (v6 + 1) fun x21 =>
            zb (rec x21 (S 60 v6) p3 p4 p5 S) fun _ S23 =>
            zg ((0 : Int) ≤ v6 ∧ v6 < 1100) <|
            if p3 = 0 then (
              zl (v6 + 1) fun x29 =>
              J_X12_draws_177 rec (L_X12_draws_3 rec p2 p3 p4 p5 n) p2 p3 p4 p5 v6 1 (S23 60 v6) x29 S23)
            else (
              zl (v6 + 1) fun x26 =>
              J_X12_draws_177 rec (L_X12_draws_3 rec p2 p3 p4 p5 n) p2 p3 p4 p5 v6 0 (S23 60 v6) x26 S23))
          else (
            zb (M_X12_goes v6 p3 p4 p5 S) fun _ S8 =>
            zg ((0 : Int) ≤ v6 ∧ v6 < 1100) <|
            if S8 57 v6 = 0 then (
              zb (M_X12_parting S8) fun r18 S19 =>
              J_X12_draws_220 rec (L_X12_draws_3 rec p2 p3 p4 p5 n) p2 p3 p4 p5 v6 r18 S19)
            else (
              zb (M_X12_rowing S8) fun r11 S12 =>
              J_X12_draws_220 rec (L_X12_draws_3 rec p2 p3 p4 p5 n) p2 p3 p4 p5 v6 r11 S12))))
      else (
        some (0, S)))
set_option maxHeartbeats 4000000 in
set_option maxRecDepth 20000 in
theorem TL_X12_draws_3 {e : Nat} {rec : Int → Int → Int → Int → Int → HS → zO2} {p2 : Int} {p3 : Int} {p4 : Int} {p5 : Int} {r : Int} {S' : HS} {z : Zt} (hz : zO z cX12_draws RX12 (e + 1) shF) (hN : zN z 9) (hF : zFv z shF S') (hrec : ∀ (b1 b2 b3 b4 b5 : Int) (S S' : HS) (r : Int), rng b1 → rng b2 → rng b3 → rng b4 → rng b5 → WR shF S → rec b1 b2 b3 b4 b5 S = some (r, S') → zV shF yX12_draws cX12_draws 9 e [aR 51, aI b1, aI b2, aI b3, aI b4, aI b5] S S') (he : 4 ≤ e) (rp2 : rng p2) (rp3 : rng p3) (rp4 : rng p4) (rp5 : rng p5) : ∀ (n : Nat) {v6 : Int} {S : HS}, rng v6 → WR shF S → L_X12_draws_3 rec p2 p3 p4 p5 n v6 S = some (r, S') → zA z 3 [(0, aR 51), (2, aI p2), (3, aI p3), (4, aI p4), (5, aI p5), (6, aI v6)] [] S := by
  intro n
  induction n with
  | zero =>
    intro _ _ _ _ h
    cases h
  | succ n ih =>
    intro v6 S rv6 hW h
    rw [L_X12_draws_3.eq_2] at h
    refine s_iload 5 hz dX12_draws_3 rfl ?_
    refine s_iload_n 1 hz dX12_draws_5 rfl ?_
    refine s_icmp_ge 256 hz rv6 rp2 dX12_draws_6 rfl (fun c1 => ?_) (fun c1 => ?_)
    · have h := zif_t c1 h
      exact s_vret h hz hF hW dX12_draws_256
    · have h := zif_f c1 h
      refine s_aload_n 0 hz dX12_draws_9 rfl ?_
      refine s_getI (kz := 17) 17 hz fl_X12_259 sf51 rfl rfl dX12_draws_10 ?_
      refine s_if_ne 256 hz (hW 51 _ sf51 17) dX12_draws_13 rfl (fun c2 => ?_) (fun c2 => ?_)
      · have h := zif_f c2 h
        exact s_vret h hz hF hW dX12_draws_256
      · have h := zif_t c2 h
        refine s_aload_n 0 hz dX12_draws_16 rfl ?_
        refine s_getR 11 hz fl_X12_53 sf51 rfl (by decide) dX12_draws_17 ?_
        refine s_iload 5 hz dX12_draws_20 rfl ?_
        obtain ⟨g3, h⟩ := zg_of h
        refine s_iald hz sf57 rfl (by decide) g3 dX12_draws_22 ?_
        refine s_iconst hz dX12_draws_23 ?_
        refine s_icmp_ne 125 hz (hW 57 _ sf57 v6) rl_2 dX12_draws_24 rfl (fun c4 => ?_) (fun c4 => ?_)
        · have h := zif_f c4 h
          refine s_aload_n 0 hz dX12_draws_125 rfl ?_
          refine s_getR 11 hz fl_X12_53 sf51 rfl (by decide) dX12_draws_126 ?_
          refine s_iload 5 hz dX12_draws_129 rfl ?_
          obtain ⟨g5, h⟩ := zg_of h
          refine s_iald hz sf57 rfl (by decide) g5 dX12_draws_131 ?_
          refine s_iconst hz dX12_draws_132 ?_
          refine s_icmp_ne 187 hz (hW 57 _ sf57 v6) rl_3 dX12_draws_133 rfl (fun c6 => ?_) (fun c6 => ?_)
          · have h := zif_f c6 h
            refine s_aload_n 0 hz dX12_draws_187 rfl ?_
            refine s_iload 5 hz dX12_draws_188 rfl ?_
            refine s_iload_n 2 hz dX12_draws_190 rfl ?_
            refine s_iload 3 hz dX12_draws_191 rfl ?_
            refine s_iload 4 hz dX12_draws_193 rfl ?_
            obtain ⟨r7, S8, hc8, h⟩ := zb_of h
            refine s_callVv [aI v6, aI p3, aI p4, aI p5] [] hz ml_X12_276 sv_yX12_goes (T_X12_goes rv6 rp3 rp4 rp5 hW hc8) (by omega) rfl sf51 rfl rfl (Nat.le_of_ble_eq_true rfl) dX12_draws_195 (fun hW8 => ?_)
            refine s_aload_n 0 hz dX12_draws_198 rfl ?_
            refine s_aload_n 0 hz dX12_draws_199 rfl ?_
            refine s_getR 11 hz fl_X12_53 sf51 rfl (by decide) dX12_draws_200 ?_
            refine s_iload 5 hz dX12_draws_203 rfl ?_
            obtain ⟨g9, h⟩ := zg_of h
            refine s_iald hz sf57 rfl (by decide) g9 dX12_draws_205 ?_
            refine s_if_ne 216 hz (hW8 57 _ sf57 v6) dX12_draws_206 rfl (fun c10 => ?_) (fun c10 => ?_)
            · have h := zif_f c10 h
              refine s_aload_n 0 hz dX12_draws_216 rfl ?_
              obtain ⟨r11, S12, hc12, h⟩ := zb_of h
              refine s_callV [] [aR 51] hz ml_X12_283 sv_yX12_rowing (T_X12_rowing hW8 hc12) (by omega) rfl sf51 rfl rfl (Nat.le_of_ble_eq_true rfl) dX12_draws_217 (fun rr11 hW12 => ?_)
              exact TJ_X12_draws_220 hz hN hF hrec he (fun _ _ => ih) rp2 rp3 rp4 rp5 rv6 rr11 hW12 h
            · have h := zif_t c10 h
              refine s_aload_n 0 hz dX12_draws_209 rfl ?_
              obtain ⟨r18, S19, hc19, h⟩ := zb_of h
              refine s_callV [] [aR 51] hz ml_X12_280 sv_yX12_parting (T_X12_parting hW8 hc19) (by omega) rfl sf51 rfl rfl (Nat.le_of_ble_eq_true rfl) dX12_draws_210 (fun rr18 hW19 => ?_)
              refine s_goto 220 hz dX12_draws_213 rfl ?_
              exact TJ_X12_draws_220 hz hN hF hrec he (fun _ _ => ih) rp2 rp3 rp4 rp5 rv6 rr18 hW19 h
          · have h := zif_t c6 h
            refine s_aload_n 0 hz dX12_draws_136 rfl ?_
            refine s_iload 5 hz dX12_draws_137 rfl ?_
            refine s_iconst hz dX12_draws_139 ?_
            refine s_iadd hz dX12_draws_140 ?_
            refine s_aload_n 0 hz dX12_draws_141 rfl ?_
            refine s_getR 14 hz fl_X12_62 sf51 rfl (by decide) dX12_draws_142 ?_
            refine s_iload 5 hz dX12_draws_145 rfl ?_
            obtain ⟨g20, h⟩ := zg_of h
            refine s_iald hz sf60 rfl (by decide) g20 dX12_draws_147 ?_
            refine s_iload_n 2 hz dX12_draws_148 rfl ?_
            refine s_iload 3 hz dX12_draws_149 rfl ?_
            refine s_iload 4 hz dX12_draws_151 rfl ?_
            obtain ⟨x21, ex21, rx21, h⟩ := zl_ex h
            rw [← ex21]
            obtain ⟨r22, S23, hc23, h⟩ := zb_of h
            refine s_callVv [aI x21, aI (S 60 v6), aI p3, aI p4, aI p5] [] hz ml_X12_265 sv_yX12_draws (hrec _ _ _ _ _ _ _ _ rx21 (hW 60 _ sf60 v6) rp3 rp4 rp5 hW hc23) (by omega) rfl sf51 rfl rfl (Nat.le_of_ble_eq_true rfl) dX12_draws_153 (fun hW23 => ?_)
            refine s_aload_n 0 hz dX12_draws_156 rfl ?_
            refine s_iload 5 hz dX12_draws_157 rfl ?_
            refine s_iconst hz dX12_draws_159 ?_
            refine s_iadd hz dX12_draws_160 ?_
            refine s_aload_n 0 hz dX12_draws_161 rfl ?_
            refine s_getR 14 hz fl_X12_62 sf51 rfl (by decide) dX12_draws_162 ?_
            refine s_iload 5 hz dX12_draws_165 rfl ?_
            obtain ⟨g24, h⟩ := zg_of h
            refine s_iald hz sf60 rfl (by decide) g24 dX12_draws_167 ?_
            refine s_iload_n 2 hz dX12_draws_168 rfl ?_
            refine s_if_ne 176 hz rp3 dX12_draws_169 rfl (fun c25 => ?_) (fun c25 => ?_)
            · have h := zif_f c25 h
              refine s_iconst hz dX12_draws_176 ?_
              obtain ⟨x26, ex26, rx26, h⟩ := zl_ex h
              rw [← ex26]
              exact TJ_X12_draws_177 hz hN hF hrec he (fun _ _ => ih) rp2 rp3 rp4 rp5 rv6 rl_0 (hW23 60 _ sf60 v6) rx26 hW23 h
            · have h := zif_t c25 h
              refine s_iconst hz dX12_draws_172 ?_
              refine s_goto 177 hz dX12_draws_173 rfl ?_
              obtain ⟨x29, ex29, rx29, h⟩ := zl_ex h
              rw [← ex29]
              exact TJ_X12_draws_177 hz hN hF hrec he (fun _ _ => ih) rp2 rp3 rp4 rp5 rv6 rl_1 (hW23 60 _ sf60 v6) rx29 hW23 h
        · have h := zif_t c4 h
          refine s_iload_n 2 hz dX12_draws_27 rfl ?_
          refine s_if_eq 44 hz rp3 dX12_draws_28 rfl (fun c30 => ?_) (fun c30 => ?_)
          · have h := zif_t c30 h
            refine s_aload_n 0 hz dX12_draws_44 rfl ?_
            refine s_getR 12 hz fl_X12_56 sf51 rfl (by decide) dX12_draws_45 ?_
            refine s_iload 5 hz dX12_draws_48 rfl ?_
            refine s_iconst hz dX12_draws_50 ?_
            refine s_iadd hz dX12_draws_51 ?_
            obtain ⟨g31, h⟩ := zg_of h
            refine s_iald hz sf58 rfl (by decide) g31 dX12_draws_52 ?_
            exact TJ_X12_draws_53 hz hN hF hrec he (fun _ _ => ih) rp2 rp3 rp4 rp5 rv6 (hW 58 _ sf58 (v6 + 1)) hW h
          · have h := zif_f c30 h
            refine s_aload_n 0 hz dX12_draws_31 rfl ?_
            refine s_getR 12 hz fl_X12_56 sf51 rfl (by decide) dX12_draws_32 ?_
            refine s_iload 5 hz dX12_draws_35 rfl ?_
            refine s_iconst hz dX12_draws_37 ?_
            refine s_iadd hz dX12_draws_38 ?_
            obtain ⟨g44, h⟩ := zg_of h
            refine s_iald hz sf58 rfl (by decide) g44 dX12_draws_39 ?_
            refine s_ineg hz dX12_draws_40 ?_
            refine s_goto 53 hz dX12_draws_41 rfl ?_
            obtain ⟨x45, ex45, rx45, h⟩ := zl_ex h
            rw [← ex45]
            exact TJ_X12_draws_53 hz hN hF hrec he (fun _ _ => ih) rp2 rp3 rp4 rp5 rv6 rx45 hW h
def F_X12_draws (rec : Int → Int → Int → Int → Int → HS → zO2) (a1 : Int) (a2 : Int) (a3 : Int) (a4 : Int) (a5 : Int) (S : HS) : zO2 :=
  L_X12_draws_3 rec a2 a3 a4 a5 zBig a1 S
set_option maxHeartbeats 4000000 in
set_option maxRecDepth 20000 in
theorem TF_X12_draws {e : Nat} {rec : Int → Int → Int → Int → Int → HS → zO2} (hrec : ∀ (b1 b2 b3 b4 b5 : Int) (S S' : HS) (r : Int), rng b1 → rng b2 → rng b3 → rng b4 → rng b5 → WR shF S → rec b1 b2 b3 b4 b5 S = some (r, S') → zV shF yX12_draws cX12_draws 9 e [aR 51, aI b1, aI b2, aI b3, aI b4, aI b5] S S') (he : 4 ≤ e) {a1 : Int} {a2 : Int} {a3 : Int} {a4 : Int} {a5 : Int} {S S' : HS} {r : Int} (ra1 : rng a1) (ra2 : rng a2) (ra3 : rng a3) (ra4 : rng a4) (ra5 : rng a5) (hW : WR shF S) (h : F_X12_draws rec a1 a2 a3 a4 a5 S = some (r, S')) : zV shF yX12_draws cX12_draws 9 (e + 1) [aR 51, aI a1, aI a2, aI a3, aI a4, aI a5] S S' := by
  refine zV_of (by decide +kernel) (Nat.le_of_ble_eq_true rfl) (fun z hz hN hF => ?_)
  have hz : zO z cX12_draws RX12 (e + 1) shF := hz
  show zA z 0 [(0, aR 51), (1, aI a1), (2, aI a2), (3, aI a3), (4, aI a4), (5, aI a5)] [] S
  unfold F_X12_draws at h
  refine s_iload_n 1 hz dX12_draws_0 rfl ?_
  refine s_istore (l' := [(6, aI a1), (0, aR 51), (1, aI a1), (2, aI a2), (3, aI a3), (4, aI a4), (5, aI a5)]) hz hN dX12_draws_1 (by decide) rfl ?_
  refine s_pick (l' := [(0, aR 51), (2, aI a2), (3, aI a3), (4, aI a4), (5, aI a5), (6, aI a1)]) [1, 3, 4, 5, 6, 0] rfl ?_
  exact TL_X12_draws_3 hz hN hF hrec he ra2 ra3 ra4 ra5 zBig ra1 hW h
def M_X12_draws : Nat → Int → Int → Int → Int → Int → HS → zO2
  | 0, _, _, _, _, _, _ => none
  | n + 1, a1, a2, a3, a4, a5, S => F_X12_draws (M_X12_draws n) a1 a2 a3 a4 a5 S
set_option maxHeartbeats 4000000 in
set_option maxRecDepth 20000 in
theorem T_X12_draws : ∀ (n : Nat) {a1 : Int} {a2 : Int} {a3 : Int} {a4 : Int} {a5 : Int} {S S' : HS} {r : Int}, rng a1 → rng a2 → rng a3 → rng a4 → rng a5 → WR shF S → M_X12_draws n a1 a2 a3 a4 a5 S = some (r, S') → zV shF yX12_draws cX12_draws 9 (4 + 1 * n) [aR 51, aI a1, aI a2, aI a3, aI a4, aI a5] S S' := by
  intro n
  induction n with
  | zero =>
    intro _ _ _ _ _ _ _ _ _ _ _ _ _ _ h
    cases h
  | succ n ih =>
    intro a1 a2 a3 a4 a5 S S' r ra1 ra2 ra3 ra4 ra5 hW h
    rw [M_X12_draws.eq_2] at h
    rw [show 4 + 1 * (n + 1) = (4 + 1 * n) + 1 by omega]
    exact TF_X12_draws (fun _ _ _ _ _ _ _ _ q0 q1 q2 q3 q4 h1 h2 => ih q0 q1 q2 q3 q4 h1 h2) (by omega) ra1 ra2 ra3 ra4 ra5 hW h
def M_X12_thrown (S : HS) : zO2 :=
  some (S 51 0, S)
set_option maxHeartbeats 4000000 in
set_option maxRecDepth 20000 in
theorem T_X12_thrown {S S' : HS} {r : Int} (hW : WR shF S) (h : M_X12_thrown S = some (r, S')) : zR shF yX12_thrown cX12_thrown 1  .int 1 [aR 51] S r S' := by
  refine zR_of (by decide +kernel) (Nat.le_of_ble_eq_true rfl) (fun z hz hN hF => ?_)
  have hz : zO z cX12_thrown RX12 1 shF := hz
  show zA z 0 [(0, aR 51)] [] S
  unfold M_X12_thrown at h
  refine s_aload_n 0 hz dX12_thrown_0 rfl ?_
  refine s_getI (kz := 0) 0 hz fl_X12_1 sf51 rfl rfl dX12_thrown_1 ?_
  exact s_iret h hz hF (hW 51 _ sf51 0) hW dX12_thrown_4
def J_X12_lay_69 (k3 : Int → HS → zO2) (v1 : Int) (v3 : Int) (S : HS) : zO2 :=
  zl (v3 + (-8)) fun x4 =>
  k3 x4 S
set_option maxHeartbeats 4000000 in
set_option maxRecDepth 20000 in
theorem TJ_X12_lay_69 {k3 : Int → HS → zO2} {v1 : Int} {v3 : Int} {S : HS} {r : Int} {S' : HS} {z : Zt} (hz : zO z cX12_lay RX12 1 shF) (hN : zN z 5) (hF : zFv z shF S') (hk3 : ∀ (w3 : Int) (S : HS), rng w3 → WR shF S → k3 w3 S = some (r, S') → zA z 3 [(0, aR 51), (1, aL v1), (3, aI w3)] [] S) (rv1 : rng6 v1) (rv3 : rng v3) (hW : WR shF S) (h : J_X12_lay_69 k3 v1 v3 S = some (r, S')) : zA z 69 [(0, aR 51), (1, aL v1), (3, aI v3)] [] S := by
  unfold J_X12_lay_69 at h
  obtain ⟨x4, ex4, rx4, h⟩ := zl_ex h
  refine s_iinc (k0 := 2) (y := x4) (l' := [(3, aI x4), (0, aR 51), (1, aL v1)]) hz hN dX12_lay_69 rfl ex4.symm (by decide) rfl ?_
  refine s_goto 3 hz dX12_lay_72 rfl ?_
  refine s_pick (l' := [(0, aR 51), (1, aL v1), (3, aI x4)]) [1, 2, 0] rfl ?_
  exact hk3 _ _ rx4 hW h
def J_X12_lay_38 (k3 : Int → HS → zO2) (v1 : Int) (v3 : Int) (v4 : Int) (S : HS) : zO2 :=
  if 1000 ≤ S 51 2 then (
    J_X12_lay_69 k3 v1 v3 S)
  else (
    zg ((0 : Int) ≤ S 51 2 ∧ S 51 2 < 1000) <|
    zs (up S 52 (S 51 2) v4) fun S6 =>
    zl ((S6 51 2) + 1) fun x7 =>
    zs (up S6 51 2 x7) fun S8 =>
    J_X12_lay_69 k3 v1 v3 S8)
set_option maxHeartbeats 4000000 in
set_option maxRecDepth 20000 in
theorem TJ_X12_lay_38 {k3 : Int → HS → zO2} {v1 : Int} {v3 : Int} {v4 : Int} {S : HS} {r : Int} {S' : HS} {z : Zt} (hz : zO z cX12_lay RX12 1 shF) (hN : zN z 5) (hF : zFv z shF S') (hk3 : ∀ (w3 : Int) (S : HS), rng w3 → WR shF S → k3 w3 S = some (r, S') → zA z 3 [(0, aR 51), (1, aL v1), (3, aI w3)] [] S) (rv1 : rng6 v1) (rv3 : rng v3) (rv4 : rng v4) (hW : WR shF S) (h : J_X12_lay_38 k3 v1 v3 v4 S = some (r, S')) : zA z 38 [(0, aR 51), (1, aL v1), (3, aI v3), (4, aI v4)] [] S := by
  unfold J_X12_lay_38 at h
  refine s_aload_n 0 hz dX12_lay_38 rfl ?_
  refine s_getI (kz := 2) 2 hz fl_X12_11 sf51 rfl rfl dX12_lay_39 ?_
  refine s_sipush hz dX12_lay_42 sp_1000 ?_
  refine s_icmp_ge 69 hz (hW 51 _ sf51 2) rl_1000 dX12_lay_45 rfl (fun c3 => ?_) (fun c3 => ?_)
  · have h := zif_t c3 h
    refine s_pick (l' := [(0, aR 51), (1, aL v1), (3, aI v3)]) [0, 1, 2] rfl ?_
    exact TJ_X12_lay_69 hz hN hF hk3 rv1 rv3 hW h
  · have h := zif_f c3 h
    refine s_aload_n 0 hz dX12_lay_48 rfl ?_
    refine s_getR 1 hz fl_X12_14 sf51 rfl (by decide) dX12_lay_49 ?_
    refine s_aload_n 0 hz dX12_lay_52 rfl ?_
    refine s_getI (kz := 2) 2 hz fl_X12_11 sf51 rfl rfl dX12_lay_53 ?_
    refine s_iload 3 hz dX12_lay_56 rfl ?_
    obtain ⟨g5, h⟩ := zg_of h
    obtain ⟨S6, eS6, h⟩ := zs_ex h
    have hW6 : WR shF S6 := by rw [eS6]; exact hW.up (i := (S 51 2)) sf52 (v := v4) rv4
    refine s_iast hz sf52 rfl (by decide) g5 dX12_lay_58 ?_
    rw [← eS6]
    refine s_aload_n 0 hz dX12_lay_59 rfl ?_
    refine s_dup hz rfl dX12_lay_60 ?_
    refine s_getI (kz := 2) 2 hz fl_X12_11 sf51 rfl rfl dX12_lay_61 ?_
    refine s_iconst hz dX12_lay_64 ?_
    refine s_iadd hz dX12_lay_65 ?_
    obtain ⟨x7, ex7, rx7, h⟩ := zl_ex h
    rw [← ex7]
    obtain ⟨S8, eS8, h⟩ := zs_ex h
    have hW8 : WR shF S8 := by rw [eS8]; exact hW6.up (i := 2) sf51 (v := x7) rx7
    refine s_putI (kz := 2) 2 hz fp_X12_11 sf51 rfl rfl dX12_lay_66 ?_
    rw [← eS8]
    refine s_pick (l' := [(0, aR 51), (1, aL v1), (3, aI v3)]) [0, 1, 2] rfl ?_
    exact TJ_X12_lay_69 hz hN hF hk3 rv1 rv3 hW8 h
def L_X12_lay_3 (p1 : Int) : Nat → Int → HS → zO2
  | 0, _, _ => none
  | n + 1, v3, S => 
    if v3 < 0 then (
      some (0, S))
    else (
      if zand (zl2i (zlshr p1 v3)) 255 = 10 then (
        J_X12_lay_38 (L_X12_lay_3 p1 n) p1 v3 (zand (zl2i (zlshr p1 v3)) 255) S)
      else (
        if zand (zl2i (zlshr p1 v3)) 255 < 32 then (
          J_X12_lay_69 (L_X12_lay_3 p1 n) p1 v3 S)
        else (
          if 126 < zand (zl2i (zlshr p1 v3)) 255 then (
            J_X12_lay_69 (L_X12_lay_3 p1 n) p1 v3 S)
          else (
            J_X12_lay_38 (L_X12_lay_3 p1 n) p1 v3 (zand (zl2i (zlshr p1 v3)) 255) S))))
set_option maxHeartbeats 4000000 in
set_option maxRecDepth 20000 in
theorem TL_X12_lay_3 {p1 : Int} {r : Int} {S' : HS} {z : Zt} (hz : zO z cX12_lay RX12 1 shF) (hN : zN z 5) (hF : zFv z shF S') (rp1 : rng6 p1) : ∀ (n : Nat) {v3 : Int} {S : HS}, rng v3 → WR shF S → L_X12_lay_3 p1 n v3 S = some (r, S') → zA z 3 [(0, aR 51), (1, aL p1), (3, aI v3)] [] S := by
  intro n
  induction n with
  | zero =>
    intro _ _ _ _ h
    cases h
  | succ n ih =>
    intro v3 S rv3 hW h
    rw [L_X12_lay_3.eq_2] at h
    refine s_iload_n 2 hz dX12_lay_3 rfl ?_
    refine s_if_lt 75 hz rv3 dX12_lay_4 rfl (fun c1 => ?_) (fun c1 => ?_)
    · have h := zif_t c1 h
      exact s_vret h hz hF hW dX12_lay_75
    · have h := zif_f c1 h
      refine s_lload_n 1 hz dX12_lay_7 rfl ?_
      refine s_iload_n 2 hz dX12_lay_8 rfl ?_
      refine s_lshr hz dX12_lay_9 ?_
      refine s_l2i hz dX12_lay_10 ?_
      refine s_sipush hz dX12_lay_11 sp_255 ?_
      refine s_iand hz dX12_lay_14 ?_
      refine s_istore (l' := [(4, aI (zand (zl2i (zlshr p1 v3)) 255)), (0, aR 51), (1, aL p1), (3, aI v3)]) hz hN dX12_lay_15 (by decide) rfl ?_
      refine s_iload 0 hz dX12_lay_17 rfl ?_
      refine s_bipush hz dX12_lay_19 bp_10 ?_
      refine s_icmp_eq 38 hz zand_r rl_10 dX12_lay_21 rfl (fun c2 => ?_) (fun c2 => ?_)
      · have h := zif_t c2 h
        refine s_pick (l' := [(0, aR 51), (1, aL p1), (3, aI v3), (4, aI (zand (zl2i (zlshr p1 v3)) 255))]) [1, 2, 3, 0] rfl ?_
        exact TJ_X12_lay_38 hz hN hF (fun _ _ => ih) rp1 rv3 zand_r hW h
      · have h := zif_f c2 h
        refine s_iload 0 hz dX12_lay_24 rfl ?_
        refine s_bipush hz dX12_lay_26 bp_32 ?_
        refine s_icmp_lt 69 hz zand_r rl_32 dX12_lay_28 rfl (fun c9 => ?_) (fun c9 => ?_)
        · have h := zif_t c9 h
          refine s_pick (l' := [(0, aR 51), (1, aL p1), (3, aI v3)]) [1, 2, 3] rfl ?_
          exact TJ_X12_lay_69 hz hN hF (fun _ _ => ih) rp1 rv3 hW h
        · have h := zif_f c9 h
          refine s_iload 0 hz dX12_lay_31 rfl ?_
          refine s_bipush hz dX12_lay_33 bp_126 ?_
          refine s_icmp_gt 69 hz zand_r rl_126 dX12_lay_35 rfl (fun c10 => ?_) (fun c10 => ?_)
          · have h := zif_t c10 h
            refine s_pick (l' := [(0, aR 51), (1, aL p1), (3, aI v3)]) [1, 2, 3] rfl ?_
            exact TJ_X12_lay_69 hz hN hF (fun _ _ => ih) rp1 rv3 hW h
          · have h := zif_f c10 h
            refine s_pick (l' := [(0, aR 51), (1, aL p1), (3, aI v3), (4, aI (zand (zl2i (zlshr p1 v3)) 255))]) [1, 2, 3, 0] rfl ?_
            exact TJ_X12_lay_38 hz hN hF (fun _ _ => ih) rp1 rv3 zand_r hW h
def M_X12_lay (a1 : Int) (S : HS) : zO2 :=
  L_X12_lay_3 a1 zBig 56 S
set_option maxHeartbeats 4000000 in
set_option maxRecDepth 20000 in
theorem T_X12_lay {a1 : Int} {S S' : HS} {r : Int} (ra1 : rng6 a1) (hW : WR shF S) (h : M_X12_lay a1 S = some (r, S')) : zV shF yX12_lay cX12_lay 5 1 [aR 51, aL a1] S S' := by
  refine zV_of (by decide +kernel) (Nat.le_of_ble_eq_true rfl) (fun z hz hN hF => ?_)
  have hz : zO z cX12_lay RX12 1 shF := hz
  show zA z 0 [(0, aR 51), (1, aL a1)] [] S
  unfold M_X12_lay at h
  refine s_bipush hz dX12_lay_0 bp_56 ?_
  refine s_istore_n (l' := [(3, aI 56), (0, aR 51), (1, aL a1)]) hz hN dX12_lay_2 (by decide) rfl ?_
  refine s_pick (l' := [(0, aR 51), (1, aL a1), (3, aI 56)]) [1, 2, 0] rfl ?_
  exact TL_X12_lay_3 hz hN hF ra1 zBig rl_56 hW h
def M_X12_feed (a1 : Int) (a2 : Int) (a3 : Int) (S : HS) : zO2 :=
  zs (up S 51 0 0) fun S1 =>
  zb (M_X12_lay a1 S1) fun _ S3 =>
  zb (M_X12_lay a2 S3) fun _ S5 =>
  zb (M_X12_lay a3 S5) fun _ S7 =>
  some (S7 51 2, S7)
set_option maxHeartbeats 4000000 in
set_option maxRecDepth 20000 in
theorem T_X12_feed {a1 : Int} {a2 : Int} {a3 : Int} {S S' : HS} {r : Int} (ra1 : rng6 a1) (ra2 : rng6 a2) (ra3 : rng6 a3) (hW : WR shF S) (h : M_X12_feed a1 a2 a3 S = some (r, S')) : zR shF yX12_feed cX12_feed 7  .int 2 [aR 51, aL a1, aL a2, aL a3] S r S' := by
  refine zR_of (by decide +kernel) (Nat.le_of_ble_eq_true rfl) (fun z hz hN hF => ?_)
  have hz : zO z cX12_feed RX12 2 shF := hz
  show zA z 0 [(0, aR 51), (1, aL a1), (3, aL a2), (5, aL a3)] [] S
  unfold M_X12_feed at h
  refine s_aload_n 0 hz dX12_feed_0 rfl ?_
  refine s_iconst hz dX12_feed_1 ?_
  obtain ⟨S1, eS1, h⟩ := zs_ex h
  have hW1 : WR shF S1 := by rw [eS1]; exact hW.up (i := 0) sf51 (v := 0) rl_0
  refine s_putI (kz := 0) 0 hz fp_X12_1 sf51 rfl rfl dX12_feed_2 ?_
  rw [← eS1]
  refine s_aload_n 0 hz dX12_feed_5 rfl ?_
  refine s_lload_n 1 hz dX12_feed_6 rfl ?_
  obtain ⟨r2, S3, hc3, h⟩ := zb_of h
  refine s_callVv [aL a1] [] hz ml_X12_7 sv_yX12_lay (T_X12_lay ra1 hW1 hc3) (by decide) rfl sf51 rfl rfl (Nat.le_of_ble_eq_true rfl) dX12_feed_7 (fun hW3 => ?_)
  refine s_aload_n 0 hz dX12_feed_10 rfl ?_
  refine s_lload_n 2 hz dX12_feed_11 rfl ?_
  obtain ⟨r4, S5, hc5, h⟩ := zb_of h
  refine s_callVv [aL a2] [] hz ml_X12_7 sv_yX12_lay (T_X12_lay ra2 hW3 hc5) (by decide) rfl sf51 rfl rfl (Nat.le_of_ble_eq_true rfl) dX12_feed_12 (fun hW5 => ?_)
  refine s_aload_n 0 hz dX12_feed_15 rfl ?_
  refine s_lload 3 hz dX12_feed_16 rfl ?_
  obtain ⟨r6, S7, hc7, h⟩ := zb_of h
  refine s_callVv [aL a3] [] hz ml_X12_7 sv_yX12_lay (T_X12_lay ra3 hW5 hc7) (by decide) rfl sf51 rfl rfl (Nat.le_of_ble_eq_true rfl) dX12_feed_18 (fun hW7 => ?_)
  refine s_aload_n 0 hz dX12_feed_21 rfl ?_
  refine s_getI (kz := 2) 2 hz fl_X12_11 sf51 rfl rfl dX12_feed_22 ?_
  exact s_iret h hz hF (hW7 51 _ sf51 2) hW7 dX12_feed_25
def M_X12_isLetter (a1 : Int) (S : HS) : zO2 :=
  if a1 < 97 then (
    some (0, S))
  else (
    if 122 < a1 then (
      some (0, S))
    else (
      some (1, S)))
set_option maxHeartbeats 4000000 in
set_option maxRecDepth 20000 in
theorem T_X12_isLetter {a1 : Int} {S S' : HS} {r : Int} (ra1 : rng a1) (hW : WR shF S) (h : M_X12_isLetter a1 S = some (r, S')) : zR shF yX12_isLetter cX12_isLetter 1  .boolean 1 [aI a1] S r S' := by
  refine zR_of (by decide +kernel) (Nat.le_of_ble_eq_true rfl) (fun z hz hN hF => ?_)
  have hz : zO z cX12_isLetter RX12 1 shF := hz
  show zA z 0 [(0, aI a1)] [] S
  unfold M_X12_isLetter at h
  refine s_iload_n 0 hz dX12_isLetter_0 rfl ?_
  refine s_bipush hz dX12_isLetter_1 bp_97 ?_
  refine s_icmp_lt 16 hz ra1 rl_97 dX12_isLetter_3 rfl (fun c1 => ?_) (fun c1 => ?_)
  · have h := zif_t c1 h
    refine s_iconst hz dX12_isLetter_16 ?_
    exact s_zret h hz hF (by decide) hW dX12_isLetter_17
  · have h := zif_f c1 h
    refine s_iload_n 0 hz dX12_isLetter_6 rfl ?_
    refine s_bipush hz dX12_isLetter_7 bp_122 ?_
    refine s_icmp_gt 16 hz ra1 rl_122 dX12_isLetter_9 rfl (fun c2 => ?_) (fun c2 => ?_)
    · have h := zif_t c2 h
      refine s_iconst hz dX12_isLetter_16 ?_
      exact s_zret h hz hF (by decide) hW dX12_isLetter_17
    · have h := zif_f c2 h
      refine s_iconst hz dX12_isLetter_12 ?_
      refine s_goto 17 hz dX12_isLetter_13 rfl ?_
      exact s_zret h hz hF (by decide) hW dX12_isLetter_17
def M_X12_isDigit (a1 : Int) (S : HS) : zO2 :=
  if a1 < 48 then (
    some (0, S))
  else (
    if 57 < a1 then (
      some (0, S))
    else (
      some (1, S)))
set_option maxHeartbeats 4000000 in
set_option maxRecDepth 20000 in
theorem T_X12_isDigit {a1 : Int} {S S' : HS} {r : Int} (ra1 : rng a1) (hW : WR shF S) (h : M_X12_isDigit a1 S = some (r, S')) : zR shF yX12_isDigit cX12_isDigit 1  .boolean 1 [aI a1] S r S' := by
  refine zR_of (by decide +kernel) (Nat.le_of_ble_eq_true rfl) (fun z hz hN hF => ?_)
  have hz : zO z cX12_isDigit RX12 1 shF := hz
  show zA z 0 [(0, aI a1)] [] S
  unfold M_X12_isDigit at h
  refine s_iload_n 0 hz dX12_isDigit_0 rfl ?_
  refine s_bipush hz dX12_isDigit_1 bp_48 ?_
  refine s_icmp_lt 16 hz ra1 rl_48 dX12_isDigit_3 rfl (fun c1 => ?_) (fun c1 => ?_)
  · have h := zif_t c1 h
    refine s_iconst hz dX12_isDigit_16 ?_
    exact s_zret h hz hF (by decide) hW dX12_isDigit_17
  · have h := zif_f c1 h
    refine s_iload_n 0 hz dX12_isDigit_6 rfl ?_
    refine s_bipush hz dX12_isDigit_7 bp_57 ?_
    refine s_icmp_gt 16 hz ra1 rl_57 dX12_isDigit_9 rfl (fun c2 => ?_) (fun c2 => ?_)
    · have h := zif_t c2 h
      refine s_iconst hz dX12_isDigit_16 ?_
      exact s_zret h hz hF (by decide) hW dX12_isDigit_17
    · have h := zif_f c2 h
      refine s_iconst hz dX12_isDigit_12 ?_
      refine s_goto 17 hz dX12_isDigit_13 rfl ?_
      exact s_zret h hz hF (by decide) hW dX12_isDigit_17
def M_X12_rank (a1 : Int) (S : HS) : zO2 :=
  zb (M_X12_isLetter a1 S) fun r1 S2 =>
  if r1 = 0 then (
    zl (a1 - 21) fun x4 =>
    some (x4, S2))
  else (
    zl (a1 - 96) fun x5 =>
    some (x5, S2))
set_option maxHeartbeats 4000000 in
set_option maxRecDepth 20000 in
theorem T_X12_rank {a1 : Int} {S S' : HS} {r : Int} (ra1 : rng a1) (hW : WR shF S) (h : M_X12_rank a1 S = some (r, S')) : zR shF yX12_rank cX12_rank 1  .int 2 [aI a1] S r S' := by
  refine zR_of (by decide +kernel) (Nat.le_of_ble_eq_true rfl) (fun z hz hN hF => ?_)
  have hz : zO z cX12_rank RX12 2 shF := hz
  show zA z 0 [(0, aI a1)] [] S
  unfold M_X12_rank at h
  refine s_iload_n 0 hz dX12_rank_0 rfl ?_
  obtain ⟨r1, S2, hc2, h⟩ := zb_of h
  refine s_callS [aI a1] [] hz ml_X12_168 ss_yX12_isLetter (T_X12_isLetter ra1 hW hc2) (by decide) rfl rfl (Nat.le_of_ble_eq_true rfl) dX12_rank_1 (fun rr1 hW2 => ?_)
  refine s_if_eq 14 hz rr1 dX12_rank_4 rfl (fun c3 => ?_) (fun c3 => ?_)
  · have h := zif_t c3 h
    refine s_iload_n 0 hz dX12_rank_14 rfl ?_
    refine s_bipush hz dX12_rank_15 bp_21 ?_
    refine s_isub hz dX12_rank_17 ?_
    obtain ⟨x4, ex4, rx4, h⟩ := zl_ex h
    rw [← ex4]
    exact s_iret h hz hF rx4 hW2 dX12_rank_18
  · have h := zif_f c3 h
    refine s_iload_n 0 hz dX12_rank_7 rfl ?_
    refine s_bipush hz dX12_rank_8 bp_96 ?_
    refine s_isub hz dX12_rank_10 ?_
    refine s_goto 18 hz dX12_rank_11 rfl ?_
    obtain ⟨x5, ex5, rx5, h⟩ := zl_ex h
    rw [← ex5]
    exact s_iret h hz hF rx5 hW2 dX12_rank_18
