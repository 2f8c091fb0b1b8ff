def M_X12_redo (a1 : Int) (S : HS) : zO2 :=
  zs (up S 51 0 0) fun S1 =>
  zb (M_X12_isRow a1 S1) fun r2 S3 =>
  if r2 = 0 then (
    some (0, S3))
  else (
    zg ((0 : Int) ≤ a1 ∧ a1 < 24) <|
    if 0 ≤ S3 72 a1 then (
      some (0, S3))
    else (
      zb (M_X12_isOutNow a1 S3) fun r7 S8 =>
      if r7 = 0 then (
        some (0, S8))
      else (
        zg ((0 : Int) ≤ a1 ∧ a1 < 24) <|
        zs (up S8 71 a1 (S8 51 38)) fun S11 =>
        some (1, S11))))
set_option maxHeartbeats 4000000 in
set_option maxRecDepth 20000 in
theorem T_X12_redo {a1 : Int} {S S' : HS} {r : Int} (ra1 : rng a1) (hW : WR shF S) (h : M_X12_redo a1 S = some (r, S')) : zR shF yX12_redo cX12_redo 2  .boolean 10 [aR 51, aI a1] S r S' := by
  refine zR_of (by decide +kernel) (Nat.le_of_ble_eq_true rfl) (fun z hz hN hF => ?_)
  have hz : zO z cX12_redo RX12 10 shF := hz
  show zA z 0 [(0, aR 51), (1, aI a1)] [] S
  unfold M_X12_redo at h
  refine s_aload_n 0 hz dX12_redo_0 rfl ?_
  refine s_iconst hz dX12_redo_1 ?_
  obtain ⟨S1, eS1, h⟩ := zs_ex h
  have hW1 : WR shF S1 := by rw [eS1]; exact hW.up (i := 0) sf51 (v := 0) rl_0
  refine s_putI (kz := 0) 0 hz fp_X12_1 sf51 rfl rfl dX12_redo_2 ?_
  rw [← eS1]
  refine s_aload_n 0 hz dX12_redo_5 rfl ?_
  refine s_iload_n 1 hz dX12_redo_6 rfl ?_
  obtain ⟨r2, S3, hc3, h⟩ := zb_of h
  refine s_callV [aI a1] [] hz ml_X12_389 sv_yX12_isRow (T_X12_isRow ra1 hW1 hc3) (by decide) rfl sf51 rfl rfl (Nat.le_of_ble_eq_true rfl) dX12_redo_7 (fun rr2 hW3 => ?_)
  refine s_if_eq 30 hz rr2 dX12_redo_10 rfl (fun c4 => ?_) (fun c4 => ?_)
  · have h := zif_t c4 h
    refine s_iconst hz dX12_redo_30 ?_
    exact s_zret h hz hF (by decide) hW3 dX12_redo_31
  · have h := zif_f c4 h
    refine s_aload_n 0 hz dX12_redo_13 rfl ?_
    refine s_getR 33 hz fl_X12_99 sf51 rfl (by decide) dX12_redo_14 ?_
    refine s_iload_n 1 hz dX12_redo_17 rfl ?_
    obtain ⟨g5, h⟩ := zg_of h
    refine s_iald hz sf72 rfl (by decide) g5 dX12_redo_18 ?_
    refine s_if_ge 30 hz (hW3 72 _ sf72 a1) dX12_redo_19 rfl (fun c6 => ?_) (fun c6 => ?_)
    · have h := zif_t c6 h
      refine s_iconst hz dX12_redo_30 ?_
      exact s_zret h hz hF (by decide) hW3 dX12_redo_31
    · have h := zif_f c6 h
      refine s_aload_n 0 hz dX12_redo_22 rfl ?_
      refine s_iload_n 1 hz dX12_redo_23 rfl ?_
      obtain ⟨r7, S8, hc8, h⟩ := zb_of h
      refine s_callV [aI a1] [] hz ml_X12_425 sv_yX12_isOutNow (T_X12_isOutNow ra1 hW3 hc8) (by decide) rfl sf51 rfl rfl (Nat.le_of_ble_eq_true rfl) dX12_redo_24 (fun rr7 hW8 => ?_)
      refine s_if_ne 32 hz rr7 dX12_redo_27 rfl (fun c9 => ?_) (fun c9 => ?_)
      · have h := zif_f c9 h
        refine s_aload_n 0 hz dX12_redo_32 rfl ?_
        refine s_getR 32 hz fl_X12_96 sf51 rfl (by decide) dX12_redo_33 ?_
        refine s_iload_n 1 hz dX12_redo_36 rfl ?_
        refine s_aload_n 0 hz dX12_redo_37 rfl ?_
        refine s_getI (kz := 38) 38 hz fl_X12_327 sf51 rfl rfl dX12_redo_38 ?_
        obtain ⟨g10, h⟩ := zg_of h
        obtain ⟨S11, eS11, h⟩ := zs_ex h
        have hW11 : WR shF S11 := by rw [eS11]; exact hW8.up (i := a1) sf71 (v := (S8 51 38)) (hW8 51 _ sf51 38)
        refine s_iast hz sf71 rfl (by decide) g10 dX12_redo_41 ?_
        rw [← eS11]
        refine s_iconst hz dX12_redo_42 ?_
        exact s_zret h hz hF (by decide) hW11 dX12_redo_43
      · have h := zif_t c9 h
        refine s_iconst hz dX12_redo_30 ?_
        exact s_zret h hz hF (by decide) hW8 dX12_redo_31
def J_X12_cellsThat_106 (k8 : Int → Int → HS → zO2) (v1 : Int) (v2 : Int) (v3 : Int) (S : HS) : zO2 :=
  zl (v3 + 1) fun x9 =>
  k8 v2 x9 S
set_option maxHeartbeats 4000000 in
set_option maxRecDepth 20000 in
theorem TJ_X12_cellsThat_106 {k8 : Int → Int → HS → zO2} {v1 : Int} {v2 : Int} {v3 : Int} {S : HS} {r : Int} {S' : HS} {z : Zt} (hz : zO z cX12_cellsThat RX12 6 shF) (hN : zN z 4) (hF : zFi z shF .int r S') (hk8 : ∀ (w2 w3 : Int) (S : HS), rng w2 → rng w3 → WR shF S → k8 w2 w3 S = some (r, S') → zA z 8 [(0, aR 51), (1, aI v1), (2, aI w2), (3, aI w3)] [] S) (rv1 : rng v1) (rv2 : rng v2) (rv3 : rng v3) (hW : WR shF S) (h : J_X12_cellsThat_106 k8 v1 v2 v3 S = some (r, S')) : zA z 106 [(0, aR 51), (1, aI v1), (2, aI v2), (3, aI v3)] [] S := by
  unfold J_X12_cellsThat_106 at h
  obtain ⟨x9, ex9, rx9, h⟩ := zl_ex h
  refine s_iinc (k0 := 3) (y := x9) (l' := [(3, aI x9), (0, aR 51), (1, aI v1), (2, aI v2)]) hz hN dX12_cellsThat_106 rfl ex9.symm (by decide) rfl ?_
  refine s_goto 8 hz dX12_cellsThat_109 rfl ?_
  refine s_pick (l' := [(0, aR 51), (1, aI v1), (2, aI v2), (3, aI x9)]) [1, 2, 3, 0] rfl ?_
  exact hk8 _ _ _ rv2 rx9 hW h
def J_X12_cellsThat_104 (k8 : Int → Int → HS → zO2) (v1 : Int) (v3 : Int) (t0 : Int) (t1 : Int) (S : HS) : zO2 :=
  zl (t1 + t0) fun x8 =>
  J_X12_cellsThat_106 k8 v1 x8 v3 S
set_option maxHeartbeats 4000000 in
set_option maxRecDepth 20000 in
theorem TJ_X12_cellsThat_104 {k8 : Int → Int → HS → zO2} {v1 : Int} {v3 : Int} {t0 : Int} {t1 : Int} {S : HS} {r : Int} {S' : HS} {z : Zt} (hz : zO z cX12_cellsThat RX12 6 shF) (hN : zN z 4) (hF : zFi z shF .int r S') (hk8 : ∀ (w2 w3 : Int) (S : HS), rng w2 → rng w3 → WR shF S → k8 w2 w3 S = some (r, S') → zA z 8 [(0, aR 51), (1, aI v1), (2, aI w2), (3, aI w3)] [] S) (rv1 : rng v1) (rv3 : rng v3) (rt0 : rng t0) (rt1 : rng t1) (hW : WR shF S) (h : J_X12_cellsThat_104 k8 v1 v3 t0 t1 S = some (r, S')) : zA z 104 [(0, aR 51), (1, aI v1), (3, aI v3)] [aI t0, aI t1] S := by
  unfold J_X12_cellsThat_104 at h
  refine s_iadd hz dX12_cellsThat_104 ?_
  obtain ⟨x8, ex8, rx8, h⟩ := zl_ex h
  rw [← ex8]
  refine s_istore_n (l' := [(2, aI x8), (0, aR 51), (1, aI v1), (3, aI v3)]) hz hN dX12_cellsThat_105 (by decide) rfl ?_
  refine s_pick (l' := [(0, aR 51), (1, aI v1), (2, aI x8), (3, aI v3)]) [1, 2, 0, 3] rfl ?_
  exact TJ_X12_cellsThat_106 hz hN hF hk8 rv1 rx8 rv3 hW h
def J_X12_cellsThat_79 (k8 : Int → Int → HS → zO2) (v1 : Int) (v3 : Int) (t0 : Int) (t1 : Int) (S : HS) : zO2 :=
  zl (t1 + t0) fun x14 =>
  J_X12_cellsThat_106 k8 v1 x14 v3 S
set_option maxHeartbeats 4000000 in
set_option maxRecDepth 20000 in
theorem TJ_X12_cellsThat_79 {k8 : Int → Int → HS → zO2} {v1 : Int} {v3 : Int} {t0 : Int} {t1 : Int} {S : HS} {r : Int} {S' : HS} {z : Zt} (hz : zO z cX12_cellsThat RX12 6 shF) (hN : zN z 4) (hF : zFi z shF .int r S') (hk8 : ∀ (w2 w3 : Int) (S : HS), rng w2 → rng w3 → WR shF S → k8 w2 w3 S = some (r, S') → zA z 8 [(0, aR 51), (1, aI v1), (2, aI w2), (3, aI w3)] [] S) (rv1 : rng v1) (rv3 : rng v3) (rt0 : rng t0) (rt1 : rng t1) (hW : WR shF S) (h : J_X12_cellsThat_79 k8 v1 v3 t0 t1 S = some (r, S')) : zA z 79 [(0, aR 51), (1, aI v1), (3, aI v3)] [aI t0, aI t1] S := by
  unfold J_X12_cellsThat_79 at h
  refine s_iadd hz dX12_cellsThat_79 ?_
  obtain ⟨x14, ex14, rx14, h⟩ := zl_ex h
  rw [← ex14]
  refine s_istore_n (l' := [(2, aI x14), (0, aR 51), (1, aI v1), (3, aI v3)]) hz hN dX12_cellsThat_80 (by decide) rfl ?_
  refine s_goto 106 hz dX12_cellsThat_81 rfl ?_
  refine s_pick (l' := [(0, aR 51), (1, aI v1), (2, aI x14), (3, aI v3)]) [1, 2, 0, 3] rfl ?_
  exact TJ_X12_cellsThat_106 hz hN hF hk8 rv1 rx14 rv3 hW h
def J_X12_cellsThat_78 (k8 : Int → Int → HS → zO2) (v1 : Int) (v3 : Int) (t0 : Int) (S : HS) : zO2 :=
  J_X12_cellsThat_79 k8 v1 v3 0 t0 S
set_option maxHeartbeats 4000000 in
set_option maxRecDepth 20000 in
theorem TJ_X12_cellsThat_78 {k8 : Int → Int → HS → zO2} {v1 : Int} {v3 : Int} {t0 : Int} {S : HS} {r : Int} {S' : HS} {z : Zt} (hz : zO z cX12_cellsThat RX12 6 shF) (hN : zN z 4) (hF : zFi z shF .int r S') (hk8 : ∀ (w2 w3 : Int) (S : HS), rng w2 → rng w3 → WR shF S → k8 w2 w3 S = some (r, S') → zA z 8 [(0, aR 51), (1, aI v1), (2, aI w2), (3, aI w3)] [] S) (rv1 : rng v1) (rv3 : rng v3) (rt0 : rng t0) (hW : WR shF S) (h : J_X12_cellsThat_78 k8 v1 v3 t0 S = some (r, S')) : zA z 78 [(0, aR 51), (1, aI v1), (3, aI v3)] [aI t0] S := by
  unfold J_X12_cellsThat_78 at h
  refine s_iconst hz dX12_cellsThat_78 ?_
  exact TJ_X12_cellsThat_79 hz hN hF hk8 rv1 rv3 rl_0 rt0 hW h
def J_X12_cellsThat_46 (k8 : Int → Int → HS → zO2) (v1 : Int) (v3 : Int) (t0 : Int) (t1 : Int) (S : HS) : zO2 :=
  zl (t1 + t0) fun x20 =>
  J_X12_cellsThat_106 k8 v1 x20 v3 S
set_option maxHeartbeats 4000000 in
set_option maxRecDepth 20000 in
theorem TJ_X12_cellsThat_46 {k8 : Int → Int → HS → zO2} {v1 : Int} {v3 : Int} {t0 : Int} {t1 : Int} {S : HS} {r : Int} {S' : HS} {z : Zt} (hz : zO z cX12_cellsThat RX12 6 shF) (hN : zN z 4) (hF : zFi z shF .int r S') (hk8 : ∀ (w2 w3 : Int) (S : HS), rng w2 → rng w3 → WR shF S → k8 w2 w3 S = some (r, S') → zA z 8 [(0, aR 51), (1, aI v1), (2, aI w2), (3, aI w3)] [] S) (rv1 : rng v1) (rv3 : rng v3) (rt0 : rng t0) (rt1 : rng t1) (hW : WR shF S) (h : J_X12_cellsThat_46 k8 v1 v3 t0 t1 S = some (r, S')) : zA z 46 [(0, aR 51), (1, aI v1), (3, aI v3)] [aI t0, aI t1] S := by
  unfold J_X12_cellsThat_46 at h
  refine s_iadd hz dX12_cellsThat_46 ?_
  obtain ⟨x20, ex20, rx20, h⟩ := zl_ex h
  rw [← ex20]
  refine s_istore_n (l' := [(2, aI x20), (0, aR 51), (1, aI v1), (3, aI v3)]) hz hN dX12_cellsThat_47 (by decide) rfl ?_
  refine s_goto 106 hz dX12_cellsThat_48 rfl ?_
  refine s_pick (l' := [(0, aR 51), (1, aI v1), (2, aI x20), (3, aI v3)]) [1, 2, 0, 3] rfl ?_
  exact TJ_X12_cellsThat_106 hz hN hF hk8 rv1 rx20 rv3 hW h
def J_X12_cellsThat_45 (k8 : Int → Int → HS → zO2) (v1 : Int) (v3 : Int) (t0 : Int) (S : HS) : zO2 :=
  J_X12_cellsThat_46 k8 v1 v3 0 t0 S
set_option maxHeartbeats 4000000 in
set_option maxRecDepth 20000 in
theorem TJ_X12_cellsThat_45 {k8 : Int → Int → HS → zO2} {v1 : Int} {v3 : Int} {t0 : Int} {S : HS} {r : Int} {S' : HS} {z : Zt} (hz : zO z cX12_cellsThat RX12 6 shF) (hN : zN z 4) (hF : zFi z shF .int r S') (hk8 : ∀ (w2 w3 : Int) (S : HS), rng w2 → rng w3 → WR shF S → k8 w2 w3 S = some (r, S') → zA z 8 [(0, aR 51), (1, aI v1), (2, aI w2), (3, aI w3)] [] S) (rv1 : rng v1) (rv3 : rng v3) (rt0 : rng t0) (hW : WR shF S) (h : J_X12_cellsThat_45 k8 v1 v3 t0 S = some (r, S')) : zA z 45 [(0, aR 51), (1, aI v1), (3, aI v3)] [aI t0] S := by
  unfold J_X12_cellsThat_45 at h
  refine s_iconst hz dX12_cellsThat_45 ?_
  exact TJ_X12_cellsThat_46 hz hN hF hk8 rv1 rv3 rl_0 rt0 hW h
def L_X12_cellsThat_8 (p1 : Int) : Nat → Int → Int → HS → zO2
  | 0, _, _, _ => none
  | n + 1, v2, v3, S => 
    if 192 ≤ v3 then (
      some (v2, S))
    else (
      if p1 = 3 then (
        zg ((0 : Int) ≤ v3 ∧ v3 < 192) <|
        if S 67 v3 < 0 then (
          J_X12_cellsThat_45 (L_X12_cellsThat_8 p1 n) p1 v3 v2 S)
        else (
          zg ((0 : Int) ≤ v3 ∧ v3 < 192) <|
          if S 77 v3 = (-2) then (
            J_X12_cellsThat_46 (L_X12_cellsThat_8 p1 n) p1 v3 1 v2 S)
          else (
            J_X12_cellsThat_45 (L_X12_cellsThat_8 p1 n) p1 v3 v2 S)))
      else (
        if p1 = 4 then (
          zg ((0 : Int) ≤ v3 ∧ (0 : Int) < 16) <|
          zl (v3 % 16) fun x12 =>
          if 8 ≤ x12 then (
            J_X12_cellsThat_78 (L_X12_cellsThat_8 p1 n) p1 v3 v2 S)
          else (
            zb (M_X12_isUnlike v3 S) fun r15 S16 =>
            if r15 = 0 then (
              J_X12_cellsThat_78 (L_X12_cellsThat_8 p1 n) p1 v3 v2 S16)
            else (
              J_X12_cellsThat_79 (L_X12_cellsThat_8 p1 n) p1 v3 1 v2 S16)))
        else (
          zg ((0 : Int) ≤ v3 ∧ v3 < 192) <|
          if S 67 v3 ≤ 0 then (
            J_X12_cellsThat_104 (L_X12_cellsThat_8 p1 n) p1 v3 0 v2 S)
          else (
            zg ((0 : Int) ≤ v3 ∧ v3 < 192) <|
            J_X12_cellsThat_104 (L_X12_cellsThat_8 p1 n) p1 v3 (S 67 v3) v2 S))))
set_option maxHeartbeats 4000000 in
set_option maxRecDepth 20000 in
theorem TL_X12_cellsThat_8 {p1 : Int} {r : Int} {S' : HS} {z : Zt} (hz : zO z cX12_cellsThat RX12 6 shF) (hN : zN z 4) (hF : zFi z shF .int r S') (rp1 : rng p1) : ∀ (n : Nat) {v2 : Int} {v3 : Int} {S : HS}, rng v2 → rng v3 → WR shF S → L_X12_cellsThat_8 p1 n v2 v3 S = some (r, S') → zA z 8 [(0, aR 51), (1, aI p1), (2, aI v2), (3, aI v3)] [] S := by
  intro n
  induction n with
  | zero =>
    intro _ _ _ _ _ _ h
    cases h
  | succ n ih =>
    intro v2 v3 S rv2 rv3 hW h
    rw [L_X12_cellsThat_8.eq_2] at h
    refine s_iload_n 3 hz dX12_cellsThat_8 rfl ?_
    refine s_sipush hz dX12_cellsThat_9 sp_192 ?_
    refine s_icmp_ge 112 hz rv3 rl_192 dX12_cellsThat_12 rfl (fun c3 => ?_) (fun c3 => ?_)
    · have h := zif_t c3 h
      refine s_iload_n 2 hz dX12_cellsThat_112 rfl ?_
      exact s_iret h hz hF rv2 hW dX12_cellsThat_113
    · have h := zif_f c3 h
      refine s_iload_n 1 hz dX12_cellsThat_15 rfl ?_
      refine s_iconst hz dX12_cellsThat_16 ?_
      refine s_icmp_ne 51 hz rp1 rl_3 dX12_cellsThat_17 rfl (fun c4 => ?_) (fun c4 => ?_)
      · have h := zif_f c4 h
        refine s_iload_n 1 hz dX12_cellsThat_51 rfl ?_
        refine s_iconst hz dX12_cellsThat_52 ?_
        refine s_icmp_ne 84 hz rp1 rl_4 dX12_cellsThat_53 rfl (fun c5 => ?_) (fun c5 => ?_)
        · have h := zif_f c5 h
          refine s_iload_n 2 hz dX12_cellsThat_84 rfl ?_
          refine s_aload_n 0 hz dX12_cellsThat_85 rfl ?_
          refine s_getR 28 hz fl_X12_84 sf51 rfl (by decide) dX12_cellsThat_86 ?_
          refine s_iload_n 3 hz dX12_cellsThat_89 rfl ?_
          obtain ⟨g6, h⟩ := zg_of h
          refine s_iald hz sf67 rfl (by decide) g6 dX12_cellsThat_90 ?_
          refine s_if_le 103 hz (hW 67 _ sf67 v3) dX12_cellsThat_91 rfl (fun c7 => ?_) (fun c7 => ?_)
          · have h := zif_t c7 h
            refine s_iconst hz dX12_cellsThat_103 ?_
            refine s_pick (l' := [(0, aR 51), (1, aI p1), (3, aI v3)]) [0, 1, 3] rfl ?_
            exact TJ_X12_cellsThat_104 hz hN hF (fun _ _ _ => ih) rp1 rv3 rl_0 rv2 hW h
          · have h := zif_f c7 h
            refine s_aload_n 0 hz dX12_cellsThat_94 rfl ?_
            refine s_getR 28 hz fl_X12_84 sf51 rfl (by decide) dX12_cellsThat_95 ?_
            refine s_iload_n 3 hz dX12_cellsThat_98 rfl ?_
            obtain ⟨g10, h⟩ := zg_of h
            refine s_iald hz sf67 rfl (by decide) g10 dX12_cellsThat_99 ?_
            refine s_goto 104 hz dX12_cellsThat_100 rfl ?_
            refine s_pick (l' := [(0, aR 51), (1, aI p1), (3, aI v3)]) [0, 1, 3] rfl ?_
            exact TJ_X12_cellsThat_104 hz hN hF (fun _ _ _ => ih) rp1 rv3 (hW 67 _ sf67 v3) rv2 hW h
        · have h := zif_t c5 h
          refine s_iload_n 2 hz dX12_cellsThat_56 rfl ?_
          refine s_iload_n 3 hz dX12_cellsThat_57 rfl ?_
          refine s_bipush hz dX12_cellsThat_58 bp_16 ?_
          obtain ⟨g11, h⟩ := zg_of h
          refine s_irem hz g11.1 g11.2 rv3 rl_16 dX12_cellsThat_60 ?_
          refine s_bipush hz dX12_cellsThat_61 bp_8 ?_
          obtain ⟨x12, ex12, rx12, h⟩ := zl_ex h
          rw [← ex12]
          refine s_icmp_ge 78 hz rx12 rl_8 dX12_cellsThat_63 rfl (fun c13 => ?_) (fun c13 => ?_)
          · have h := zif_t c13 h
            refine s_pick (l' := [(0, aR 51), (1, aI p1), (3, aI v3)]) [0, 1, 3] rfl ?_
            exact TJ_X12_cellsThat_78 hz hN hF (fun _ _ _ => ih) rp1 rv3 rv2 hW h
          · have h := zif_f c13 h
            refine s_aload_n 0 hz dX12_cellsThat_66 rfl ?_
            refine s_iload_n 3 hz dX12_cellsThat_67 rfl ?_
            obtain ⟨r15, S16, hc16, h⟩ := zb_of h
            refine s_callV [aI v3] [aI v2] hz ml_X12_413 sv_yX12_isUnlike (T_X12_isUnlike rv3 hW hc16) (by decide) rfl sf51 rfl rfl (Nat.le_of_ble_eq_true rfl) dX12_cellsThat_68 (fun rr15 hW16 => ?_)
            refine s_if_eq 78 hz rr15 dX12_cellsThat_71 rfl (fun c17 => ?_) (fun c17 => ?_)
            · have h := zif_t c17 h
              refine s_pick (l' := [(0, aR 51), (1, aI p1), (3, aI v3)]) [0, 1, 3] rfl ?_
              exact TJ_X12_cellsThat_78 hz hN hF (fun _ _ _ => ih) rp1 rv3 rv2 hW16 h
            · have h := zif_f c17 h
              refine s_iconst hz dX12_cellsThat_74 ?_
              refine s_goto 79 hz dX12_cellsThat_75 rfl ?_
              refine s_pick (l' := [(0, aR 51), (1, aI p1), (3, aI v3)]) [0, 1, 3] rfl ?_
              exact TJ_X12_cellsThat_79 hz hN hF (fun _ _ _ => ih) rp1 rv3 rl_1 rv2 hW16 h
      · have h := zif_t c4 h
        refine s_iload_n 2 hz dX12_cellsThat_20 rfl ?_
        refine s_aload_n 0 hz dX12_cellsThat_21 rfl ?_
        refine s_getR 28 hz fl_X12_84 sf51 rfl (by decide) dX12_cellsThat_22 ?_
        refine s_iload_n 3 hz dX12_cellsThat_25 rfl ?_
        obtain ⟨g18, h⟩ := zg_of h
        refine s_iald hz sf67 rfl (by decide) g18 dX12_cellsThat_26 ?_
        refine s_if_lt 45 hz (hW 67 _ sf67 v3) dX12_cellsThat_27 rfl (fun c19 => ?_) (fun c19 => ?_)
        · have h := zif_t c19 h
          refine s_pick (l' := [(0, aR 51), (1, aI p1), (3, aI v3)]) [0, 1, 3] rfl ?_
          exact TJ_X12_cellsThat_45 hz hN hF (fun _ _ _ => ih) rp1 rv3 rv2 hW h
        · have h := zif_f c19 h
          refine s_aload_n 0 hz dX12_cellsThat_30 rfl ?_
          refine s_getR 41 hz fl_X12_114 sf51 rfl (by decide) dX12_cellsThat_31 ?_
          refine s_iload_n 3 hz dX12_cellsThat_34 rfl ?_
          obtain ⟨g21, h⟩ := zg_of h
          refine s_iald hz sf77 rfl (by decide) g21 dX12_cellsThat_35 ?_
          refine s_bipush hz dX12_cellsThat_36 bp_m2 ?_
          refine s_icmp_ne 45 hz (hW 77 _ sf77 v3) rl_m2 dX12_cellsThat_38 rfl (fun c22 => ?_) (fun c22 => ?_)
          · have h := zif_f c22 h
            refine s_pick (l' := [(0, aR 51), (1, aI p1), (3, aI v3)]) [0, 1, 3] rfl ?_
            exact TJ_X12_cellsThat_45 hz hN hF (fun _ _ _ => ih) rp1 rv3 rv2 hW h
          · have h := zif_t c22 h
            refine s_iconst hz dX12_cellsThat_41 ?_
            refine s_goto 46 hz dX12_cellsThat_42 rfl ?_
            refine s_pick (l' := [(0, aR 51), (1, aI p1), (3, aI v3)]) [0, 1, 3] rfl ?_
            exact TJ_X12_cellsThat_46 hz hN hF (fun _ _ _ => ih) rp1 rv3 rl_1 rv2 hW h
def M_X12_cellsThat (a1 : Int) (S : HS) : zO2 :=
  zb (M_X12_findTaken S) fun _ S2 =>
  L_X12_cellsThat_8 a1 zBig 0 0 S2
set_option maxHeartbeats 4000000 in
set_option maxRecDepth 20000 in
theorem T_X12_cellsThat {a1 : Int} {S S' : HS} {r : Int} (ra1 : rng a1) (hW : WR shF S) (h : M_X12_cellsThat a1 S = some (r, S')) : zR shF yX12_cellsThat cX12_cellsThat 4  .int 6 [aR 51, aI a1] S r S' := by
  refine zR_of (by decide +kernel) (Nat.le_of_ble_eq_true rfl) (fun z hz hN hF => ?_)
  have hz : zO z cX12_cellsThat RX12 6 shF := hz
  show zA z 0 [(0, aR 51), (1, aI a1)] [] S
  unfold M_X12_cellsThat at h
  refine s_aload_n 0 hz dX12_cellsThat_0 rfl ?_
  obtain ⟨r1, S2, hc2, h⟩ := zb_of h
  refine s_callVv [] [] hz ml_X12_351 sv_yX12_findTaken (T_X12_findTaken hW hc2) (by decide) rfl sf51 rfl rfl (Nat.le_of_ble_eq_true rfl) dX12_cellsThat_1 (fun hW2 => ?_)
  refine s_iconst hz dX12_cellsThat_4 ?_
  refine s_istore_n (l' := [(2, aI 0), (0, aR 51), (1, aI a1)]) hz hN dX12_cellsThat_5 (by decide) rfl ?_
  refine s_iconst hz dX12_cellsThat_6 ?_
  refine s_istore_n (l' := [(3, aI 0), (2, aI 0), (0, aR 51), (1, aI a1)]) hz hN dX12_cellsThat_7 (by decide) rfl ?_
  refine s_pick (l' := [(0, aR 51), (1, aI a1), (2, aI 0), (3, aI 0)]) [2, 3, 1, 0] rfl ?_
  exact TL_X12_cellsThat_8 hz hN hF ra1 zBig rl_0 rl_0 hW2 h
def L_X12_allWeights_4 : Nat → Int → Int → HS → zO2
  | 0, _, _, _ => none
  | n + 1, v1, v2, S => 
    if S 51 27 ≤ v2 then (
      some (v1, S))
    else (
      zb (M_X12_lastWeights v2 S) fun r2 S3 =>
      zl (v1 + r2) fun x4 =>
      zl (v2 + 1) fun x5 =>
      L_X12_allWeights_4 n x4 x5 S3)
set_option maxHeartbeats 4000000 in
set_option maxRecDepth 20000 in
theorem TL_X12_allWeights_4 {r : Int} {S' : HS} {z : Zt} (hz : zO z cX12_allWeights RX12 9 shF) (hN : zN z 3) (hF : zFi z shF .int r S') : ∀ (n : Nat) {v1 : Int} {v2 : Int} {S : HS}, rng v1 → rng v2 → WR shF S → L_X12_allWeights_4 n v1 v2 S = some (r, S') → zA z 4 [(0, aR 51), (1, aI v1), (2, aI v2)] [] S := by
  intro n
  induction n with
  | zero =>
    intro _ _ _ _ _ _ h
    cases h
  | succ n ih =>
    intro v1 v2 S rv1 rv2 hW h
    rw [L_X12_allWeights_4.eq_2] at h
    refine s_iload_n 2 hz dX12_allWeights_4 rfl ?_
    refine s_aload_n 0 hz dX12_allWeights_5 rfl ?_
    refine s_getI (kz := 27) 27 hz fl_X12_256 sf51 rfl rfl dX12_allWeights_6 ?_
    refine s_icmp_ge 26 hz rv2 (hW 51 _ sf51 27) dX12_allWeights_9 rfl (fun c1 => ?_) (fun c1 => ?_)
    · have h := zif_t c1 h
      refine s_iload_n 1 hz dX12_allWeights_26 rfl ?_
      exact s_iret h hz hF rv1 hW dX12_allWeights_27
    · have h := zif_f c1 h
      refine s_iload_n 1 hz dX12_allWeights_12 rfl ?_
      refine s_aload_n 0 hz dX12_allWeights_13 rfl ?_
      refine s_iload_n 2 hz dX12_allWeights_14 rfl ?_
      obtain ⟨r2, S3, hc3, h⟩ := zb_of h
      refine s_callV [aI v2] [aI v1] hz ml_X12_416 sv_yX12_lastWeights (T_X12_lastWeights rv2 hW hc3) (by decide) rfl sf51 rfl rfl (Nat.le_of_ble_eq_true rfl) dX12_allWeights_15 (fun rr2 hW3 => ?_)
      refine s_iadd hz dX12_allWeights_18 ?_
      obtain ⟨x4, ex4, rx4, h⟩ := zl_ex h
      rw [← ex4]
      refine s_istore_n (l' := [(1, aI x4), (0, aR 51), (2, aI v2)]) hz hN dX12_allWeights_19 (by decide) rfl ?_
      obtain ⟨x5, ex5, rx5, h⟩ := zl_ex h
      refine s_iinc (k0 := 2) (y := x5) (l' := [(2, aI x5), (1, aI x4), (0, aR 51)]) hz hN dX12_allWeights_20 rfl ex5.symm (by decide) rfl ?_
      refine s_goto 4 hz dX12_allWeights_23 rfl ?_
      refine s_pick (l' := [(0, aR 51), (1, aI x4), (2, aI x5)]) [2, 1, 0] rfl ?_
      exact ih rx4 rx5 hW3 h
def M_X12_allWeights (S : HS) : zO2 :=
  L_X12_allWeights_4 zBig 0 0 S
set_option maxHeartbeats 4000000 in
set_option maxRecDepth 20000 in
theorem T_X12_allWeights {S S' : HS} {r : Int} (hW : WR shF S) (h : M_X12_allWeights S = some (r, S')) : zR shF yX12_allWeights cX12_allWeights 3  .int 9 [aR 51] S r S' := by
  refine zR_of (by decide +kernel) (Nat.le_of_ble_eq_true rfl) (fun z hz hN hF => ?_)
  have hz : zO z cX12_allWeights RX12 9 shF := hz
  show zA z 0 [(0, aR 51)] [] S
  unfold M_X12_allWeights at h
  refine s_iconst hz dX12_allWeights_0 ?_
  refine s_istore_n (l' := [(1, aI 0), (0, aR 51)]) hz hN dX12_allWeights_1 (by decide) rfl ?_
  refine s_iconst hz dX12_allWeights_2 ?_
  refine s_istore_n (l' := [(2, aI 0), (1, aI 0), (0, aR 51)]) hz hN dX12_allWeights_3 (by decide) rfl ?_
  refine s_pick (l' := [(0, aR 51), (1, aI 0), (2, aI 0)]) [2, 1, 0] rfl ?_
  exact TL_X12_allWeights_4 hz hN hF zBig rl_0 rl_0 hW h
def M_X12_count (a1 : Int) (S : HS) : zO2 :=
  zs (up S 51 0 0) fun S1 =>
  if a1 = 0 then (
    some (S1 51 22, S1)) else (
  if a1 = 1 then (
    some (S1 51 27, S1)) else (
  if a1 = 2 then (
    zb (M_X12_findRegions S1) fun r5 S6 =>
    some (r5, S6)) else (
  if a1 = 3 then (
    zb (M_X12_cellsThat a1 S1) fun r8 S9 =>
    some (r8, S9)) else (
  if a1 = 4 then (
    zb (M_X12_cellsThat a1 S1) fun r11 S12 =>
    some (r11, S12)) else (
  if a1 = 5 then (
    zb (M_X12_cellsThat a1 S1) fun r14 S15 =>
    some (r14, S15)) else (
  if a1 = 6 then (
    zb (M_X12_allWeights S1) fun r17 S18 =>
    some (r17, S18)) else (
  if a1 = 7 then (
    some (S1 51 54, S1)) else (
  if a1 = 8 then (
    some (S1 51 34, S1)) else (
  if a1 = 9 then (
    some (S1 51 38, S1)) else (
  if a1 = 10 then (
    some (S1 51 37, S1)) else (
  if a1 = 11 then (
    some (S1 51 2, S1)) else (
  if a1 = 12 then (
    some (S1 51 43, S1)) else (
  some ((-1), S1))))))))))))))
set_option maxHeartbeats 4000000 in
set_option maxRecDepth 20000 in
theorem T_X12_count {a1 : Int} {S S' : HS} {r : Int} (ra1 : rng a1) (hW : WR shF S) (h : M_X12_count a1 S = some (r, S')) : zR shF yX12_count cX12_count 2  .int 10 [aR 51, aI a1] S r S' := by
  refine zR_of (by decide +kernel) (Nat.le_of_ble_eq_true rfl) (fun z hz hN hF => ?_)
  have hz : zO z cX12_count RX12 10 shF := hz
  show zA z 0 [(0, aR 51), (1, aI a1)] [] S
  unfold M_X12_count at h
  refine s_aload_n 0 hz dX12_count_0 rfl ?_
  refine s_iconst hz dX12_count_1 ?_
  obtain ⟨S1, eS1, h⟩ := zs_ex h
  have hW1 : WR shF S1 := by rw [eS1]; exact hW.up (i := 0) sf51 (v := 0) rl_0
  refine s_putI (kz := 0) 0 hz fp_X12_1 sf51 rfl rfl dX12_count_2 ?_
  rw [← eS1]
  refine s_iload_n 1 hz dX12_count_5 rfl ?_
  by_cases c2 : a1 = 0
  · have h := zif_t c2 h
    refine s_tab 0 hz c2 rl_0 dX12_count_6 (by decide) rfl rfl ?_
    refine s_aload_n 0 hz dX12_count_72 rfl ?_
    refine s_getI (kz := 22) 22 hz fl_X12_253 sf51 rfl rfl dX12_count_73 ?_
    exact s_iret h hz hF (hW1 51 _ sf51 22) hW1 dX12_count_76
  have h := zif_f c2 h
  by_cases c3 : a1 = 1
  · have h := zif_t c3 h
    refine s_tab 1 hz c3 rl_1 dX12_count_6 (by decide) rfl rfl ?_
    refine s_aload_n 0 hz dX12_count_77 rfl ?_
    refine s_getI (kz := 27) 27 hz fl_X12_256 sf51 rfl rfl dX12_count_78 ?_
    exact s_iret h hz hF (hW1 51 _ sf51 27) hW1 dX12_count_81
  have h := zif_f c3 h
  by_cases c4 : a1 = 2
  · have h := zif_t c4 h
    refine s_tab 2 hz c4 rl_2 dX12_count_6 (by decide) rfl rfl ?_
    refine s_aload_n 0 hz dX12_count_82 rfl ?_
    obtain ⟨r5, S6, hc6, h⟩ := zb_of h
    refine s_callV [] [] hz ml_X12_345 sv_yX12_findRegions (T_X12_findRegions hW1 hc6) (by decide) rfl sf51 rfl rfl (Nat.le_of_ble_eq_true rfl) dX12_count_83 (fun rr5 hW6 => ?_)
    exact s_iret h hz hF rr5 hW6 dX12_count_86
  have h := zif_f c4 h
  by_cases c7 : a1 = 3
  · have h := zif_t c7 h
    refine s_tab 3 hz c7 rl_3 dX12_count_6 (by decide) rfl rfl ?_
    refine s_aload_n 0 hz dX12_count_87 rfl ?_
    refine s_iload_n 1 hz dX12_count_88 rfl ?_
    obtain ⟨r8, S9, hc9, h⟩ := zb_of h
    refine s_callV [aI a1] [] hz ml_X12_440 sv_yX12_cellsThat (T_X12_cellsThat ra1 hW1 hc9) (by decide) rfl sf51 rfl rfl (Nat.le_of_ble_eq_true rfl) dX12_count_89 (fun rr8 hW9 => ?_)
    exact s_iret h hz hF rr8 hW9 dX12_count_92
  have h := zif_f c7 h
  by_cases c10 : a1 = 4
  · have h := zif_t c10 h
    refine s_tab 4 hz c10 rl_4 dX12_count_6 (by decide) rfl rfl ?_
    refine s_aload_n 0 hz dX12_count_87 rfl ?_
    refine s_iload_n 1 hz dX12_count_88 rfl ?_
    obtain ⟨r11, S12, hc12, h⟩ := zb_of h
    refine s_callV [aI a1] [] hz ml_X12_440 sv_yX12_cellsThat (T_X12_cellsThat ra1 hW1 hc12) (by decide) rfl sf51 rfl rfl (Nat.le_of_ble_eq_true rfl) dX12_count_89 (fun rr11 hW12 => ?_)
    exact s_iret h hz hF rr11 hW12 dX12_count_92
  have h := zif_f c10 h
  by_cases c13 : a1 = 5
  · have h := zif_t c13 h
    refine s_tab 5 hz c13 rl_5 dX12_count_6 (by decide) rfl rfl ?_
    refine s_aload_n 0 hz dX12_count_87 rfl ?_
    refine s_iload_n 1 hz dX12_count_88 rfl ?_
    obtain ⟨r14, S15, hc15, h⟩ := zb_of h
    refine s_callV [aI a1] [] hz ml_X12_440 sv_yX12_cellsThat (T_X12_cellsThat ra1 hW1 hc15) (by decide) rfl sf51 rfl rfl (Nat.le_of_ble_eq_true rfl) dX12_count_89 (fun rr14 hW15 => ?_)
    exact s_iret h hz hF rr14 hW15 dX12_count_92
  have h := zif_f c13 h
  by_cases c16 : a1 = 6
  · have h := zif_t c16 h
    refine s_tab 6 hz c16 rl_6 dX12_count_6 (by decide) rfl rfl ?_
    refine s_aload_n 0 hz dX12_count_93 rfl ?_
    obtain ⟨r17, S18, hc18, h⟩ := zb_of h
    refine s_callV [] [] hz ml_X12_443 sv_yX12_allWeights (T_X12_allWeights hW1 hc18) (by decide) rfl sf51 rfl rfl (Nat.le_of_ble_eq_true rfl) dX12_count_94 (fun rr17 hW18 => ?_)
    exact s_iret h hz hF rr17 hW18 dX12_count_97
  have h := zif_f c16 h
  by_cases c19 : a1 = 7
  · have h := zif_t c19 h
    refine s_tab 7 hz c19 rl_7 dX12_count_6 (by decide) rfl rfl ?_
    refine s_aload_n 0 hz dX12_count_98 rfl ?_
    refine s_getI (kz := 54) 54 hz fl_X12_407 sf51 rfl rfl dX12_count_99 ?_
    exact s_iret h hz hF (hW1 51 _ sf51 54) hW1 dX12_count_102
  have h := zif_f c19 h
  by_cases c20 : a1 = 8
  · have h := zif_t c20 h
    refine s_tab 8 hz c20 rl_8 dX12_count_6 (by decide) rfl rfl ?_
    refine s_aload_n 0 hz dX12_count_103 rfl ?_
    refine s_getI (kz := 34) 34 hz fl_X12_273 sf51 rfl rfl dX12_count_104 ?_
    exact s_iret h hz hF (hW1 51 _ sf51 34) hW1 dX12_count_107
  have h := zif_f c20 h
  by_cases c21 : a1 = 9
  · have h := zif_t c21 h
    refine s_tab 9 hz c21 rl_9 dX12_count_6 (by decide) rfl rfl ?_
    refine s_aload_n 0 hz dX12_count_108 rfl ?_
    refine s_getI (kz := 38) 38 hz fl_X12_327 sf51 rfl rfl dX12_count_109 ?_
    exact s_iret h hz hF (hW1 51 _ sf51 38) hW1 dX12_count_112
  have h := zif_f c21 h
  by_cases c22 : a1 = 10
  · have h := zif_t c22 h
    refine s_tab 10 hz c22 rl_10 dX12_count_6 (by decide) rfl rfl ?_
    refine s_aload_n 0 hz dX12_count_113 rfl ?_
    refine s_getI (kz := 37) 37 hz fl_X12_165 sf51 rfl rfl dX12_count_114 ?_
    exact s_iret h hz hF (hW1 51 _ sf51 37) hW1 dX12_count_117
  have h := zif_f c22 h
  by_cases c23 : a1 = 11
  · have h := zif_t c23 h
    refine s_tab 11 hz c23 rl_11 dX12_count_6 (by decide) rfl rfl ?_
    refine s_aload_n 0 hz dX12_count_118 rfl ?_
    refine s_getI (kz := 2) 2 hz fl_X12_11 sf51 rfl rfl dX12_count_119 ?_
    exact s_iret h hz hF (hW1 51 _ sf51 2) hW1 dX12_count_122
  have h := zif_f c23 h
  by_cases c24 : a1 = 12
  · have h := zif_t c24 h
    refine s_tab 12 hz c24 rl_12 dX12_count_6 (by decide) rfl rfl ?_
    refine s_aload_n 0 hz dX12_count_123 rfl ?_
    refine s_getI (kz := 43) 43 hz fl_X12_357 sf51 rfl rfl dX12_count_124 ?_
    exact s_iret h hz hF (hW1 51 _ sf51 43) hW1 dX12_count_127
  have h := zif_f c24 h
  refine s_tabO 128 hz ra1 dX12_count_6 (by omega) rfl ?_
  refine s_iconst hz dX12_count_128 ?_
  exact s_iret h hz hF rl_m1 hW1 dX12_count_129
