def J_X1_giveTo_76 (rec : Int → Int → HS → zO2) (v1 : Int) (v5 : Int) (S : HS) : zO2 :=
  zg ((0 : Int) ≤ v1 ∧ v1 < 3) <|
  zl ((S 35 v1) - v5) fun x13 =>
  zg ((0 : Int) ≤ v1 ∧ v1 < 3) <|
  zs (up S 35 v1 x13) fun S15 =>
  some (0, S15)
set_option maxHeartbeats 4000000 in
set_option maxRecDepth 20000 in
theorem TJ_X1_giveTo_76 {e : Nat} {rec : Int → Int → HS → zO2} {v1 : Int} {v5 : Int} {S : HS} {r : Int} {S' : HS} {z : Zt} (hz : zO z cX1_giveTo RX1 (e + 1) shX) (hN : zN z 7) (hF : zFv z shX S') (hrec : ∀ (b1 b2 : Int) (S S' : HS) (r : Int), rng b1 → rng b2 → WR shX S → rec b1 b2 S = some (r, S') → zV shX yX1_share cX1_share 4 e [aR 33, aI b1, aI b2] S S') (he : 1 ≤ e) (rv1 : rng v1) (rv5 : rng v5) (hW : WR shX S) (h : J_X1_giveTo_76 rec v1 v5 S = some (r, S')) : zA z 76 [(0, aR 33), (1, aI v1), (5, aI v5)] [] S := by
  unfold J_X1_giveTo_76 at h
  refine s_aload_n 0 hz dX1_giveTo_76 rfl ?_
  refine s_getR 1 hz fl_X1_15 sx33 rfl (by decide) dX1_giveTo_77 ?_
  refine s_iload_n 1 hz dX1_giveTo_80 rfl ?_
  refine s_dup2 hz rfl rfl dX1_giveTo_81 ?_
  obtain ⟨g12, h⟩ := zg_of h
  refine s_iald hz sx35 rfl (by decide) g12 dX1_giveTo_82 ?_
  refine s_iload 2 hz dX1_giveTo_83 rfl ?_
  refine s_isub hz dX1_giveTo_85 ?_
  obtain ⟨x13, ex13, rx13, h⟩ := zl_ex h
  rw [← ex13]
  obtain ⟨g14, h⟩ := zg_of h
  obtain ⟨S15, eS15, h⟩ := zs_ex h
  have hW15 : WR shX S15 := by rw [eS15]; exact hW.up (i := v1) sx35 (v := x13) rx13
  refine s_iast hz sx35 rfl (by decide) g14 dX1_giveTo_86 ?_
  rw [← eS15]
  exact s_vret h hz hF hW15 dX1_giveTo_87
def M_X1_giveTo (rec : Int → Int → HS → zO2) (a1 : Int) (a2 : Int) (a3 : Int) (S : HS) : zO2 :=
  zg ((0 : Int) ≤ a1 ∧ a1 < 3) <|
  zg ((0 : Int) ≤ a2 ∧ a2 < 8) <|
  zl (((S 37 a2) + (max 1 (S 34 a1))) - 1) fun x3 =>
  zg ((0 : Int) ≤ x3 ∧ (0 : Int) < max 1 (S 34 a1)) <|
  zl (x3 / (max 1 (S 34 a1))) fun x5 =>
  zg ((0 : Int) ≤ a1 ∧ a1 < 3) <|
  zl ((S 35 a1) + x5) fun x7 =>
  zg ((0 : Int) ≤ a1 ∧ a1 < 3) <|
  zs (up S 35 a1 x7) fun S9 =>
  zg ((0 : Int) ≤ a1 ∧ a1 < 3) <|
  if S9 33 7 ≤ max a3 (S9 35 a1) then (
    J_X1_giveTo_76 rec a1 x5 S9)
  else (
    zg ((0 : Int) ≤ a2 ∧ a2 < 8) <|
    zs (up S9 38 a2 a1) fun S17 =>
    zl (a2 + 1) fun x18 =>
    zb (rec x18 (max a3 (S9 35 a1)) S17) fun _ S20 =>
    J_X1_giveTo_76 rec a1 x5 S20)
set_option maxHeartbeats 4000000 in
set_option maxRecDepth 20000 in
theorem T_X1_giveTo {e : Nat} {rec : Int → Int → HS → zO2} (hrec : ∀ (b1 b2 : Int) (S S' : HS) (r : Int), rng b1 → rng b2 → WR shX S → rec b1 b2 S = some (r, S') → zV shX yX1_share cX1_share 4 e [aR 33, aI b1, aI b2] S S') (he : 1 ≤ e) {a1 : Int} {a2 : Int} {a3 : Int} {S S' : HS} {r : Int} (ra1 : rng a1) (ra2 : rng a2) (ra3 : rng a3) (hW : WR shX S) (h : M_X1_giveTo rec a1 a2 a3 S = some (r, S')) : zV shX yX1_giveTo cX1_giveTo 7 (e + 1) [aR 33, aI a1, aI a2, aI a3] S S' := by
  refine zV_of (by decide +kernel) (Nat.le_of_ble_eq_true rfl) (fun z hz hN hF => ?_)
  have hz : zO z cX1_giveTo RX1 (e + 1) shX := hz
  show zA z 0 [(0, aR 33), (1, aI a1), (2, aI a2), (3, aI a3)] [] S
  unfold M_X1_giveTo at h
  refine s_iconst hz dX1_giveTo_0 ?_
  refine s_aload_n 0 hz dX1_giveTo_1 rfl ?_
  refine s_getR 0 hz fl_X1_9 sx33 rfl (by decide) dX1_giveTo_2 ?_
  refine s_iload_n 1 hz dX1_giveTo_5 rfl ?_
  obtain ⟨g1, h⟩ := zg_of h
  refine s_iald hz sx34 rfl (by decide) g1 dX1_giveTo_6 ?_
  refine s_max hz mj_X1_58 (by omega) rl_1 (hW 34 _ sx34 a1) (Nat.le_of_ble_eq_true rfl) dX1_giveTo_7 ?_
  refine s_istore (l' := [(4, aI (max 1 (S 34 a1))), (0, aR 33), (1, aI a1), (2, aI a2), (3, aI a3)]) hz hN dX1_giveTo_10 (by decide) rfl ?_
  refine s_aload_n 1 hz dX1_giveTo_12 rfl ?_
  refine s_getR 3 hz fl_X1_21 sx33 rfl (by decide) dX1_giveTo_13 ?_
  refine s_iload_n 3 hz dX1_giveTo_16 rfl ?_
  obtain ⟨g2, h⟩ := zg_of h
  refine s_iald hz sx37 rfl (by decide) g2 dX1_giveTo_17 ?_
  refine s_iload 0 hz dX1_giveTo_18 rfl ?_
  refine s_iadd hz dX1_giveTo_20 ?_
  refine s_iconst hz dX1_giveTo_21 ?_
  refine s_isub hz dX1_giveTo_22 ?_
  refine s_iload 0 hz dX1_giveTo_23 rfl ?_
  obtain ⟨x3, ex3, rx3, h⟩ := zl_ex h
  rw [← ex3]
  obtain ⟨g4, h⟩ := zg_of h
  refine s_idiv hz g4.1 g4.2 rx3 (zmax_r rl_1 (hW 34 _ sx34 a1)) dX1_giveTo_25 ?_
  obtain ⟨x5, ex5, rx5, h⟩ := zl_ex h
  rw [← ex5]
  refine s_istore (l' := [(5, aI x5), (4, aI (max 1 (S 34 a1))), (0, aR 33), (1, aI a1), (2, aI a2), (3, aI a3)]) hz hN dX1_giveTo_26 (by decide) rfl ?_
  refine s_aload_n 2 hz dX1_giveTo_28 rfl ?_
  refine s_getR 1 hz fl_X1_15 sx33 rfl (by decide) dX1_giveTo_29 ?_
  refine s_iload_n 3 hz dX1_giveTo_32 rfl ?_
  refine s_dup2 hz rfl rfl dX1_giveTo_33 ?_
  obtain ⟨g6, h⟩ := zg_of h
  refine s_iald hz sx35 rfl (by decide) g6 dX1_giveTo_34 ?_
  refine s_iload 0 hz dX1_giveTo_35 rfl ?_
  refine s_iadd hz dX1_giveTo_37 ?_
  obtain ⟨x7, ex7, rx7, h⟩ := zl_ex h
  rw [← ex7]
  obtain ⟨g8, h⟩ := zg_of h
  obtain ⟨S9, eS9, h⟩ := zs_ex h
  have hW9 : WR shX S9 := by rw [eS9]; exact hW.up (i := a1) sx35 (v := x7) rx7
  refine s_iast hz sx35 rfl (by decide) g8 dX1_giveTo_38 ?_
  rw [← eS9]
  refine s_iload_n 5 hz dX1_giveTo_39 rfl ?_
  refine s_aload_n 2 hz dX1_giveTo_40 rfl ?_
  refine s_getR 1 hz fl_X1_15 sx33 rfl (by decide) dX1_giveTo_41 ?_
  refine s_iload_n 3 hz dX1_giveTo_44 rfl ?_
  obtain ⟨g10, h⟩ := zg_of h
  refine s_iald hz sx35 rfl (by decide) g10 dX1_giveTo_45 ?_
  refine s_max hz mj_X1_58 (by omega) ra3 (hW9 35 _ sx35 a1) (Nat.le_of_ble_eq_true rfl) dX1_giveTo_46 ?_
  refine s_istore (l' := [(6, aI (max a3 (S9 35 a1))), (5, aI x5), (4, aI (max 1 (S 34 a1))), (0, aR 33), (1, aI a1), (2, aI a2), (3, aI a3)]) hz hN dX1_giveTo_49 (by decide) rfl ?_
  refine s_iload 0 hz dX1_giveTo_51 rfl ?_
  refine s_aload_n 3 hz dX1_giveTo_53 rfl ?_
  refine s_getI (kz := 7) 7 hz fl_X1_34 sx33 rfl rfl dX1_giveTo_54 ?_
  refine s_icmp_ge 76 hz (zmax_r ra3 (hW9 35 _ sx35 a1)) (hW9 33 _ sx33 7) dX1_giveTo_57 rfl (fun c11 => ?_) (fun c11 => ?_)
  · have h := zif_t c11 h
    refine s_pick (l' := [(0, aR 33), (1, aI a1), (5, aI x5)]) [3, 4, 1] rfl ?_
    exact TJ_X1_giveTo_76 hz hN hF hrec he ra1 rx5 hW9 h
  · have h := zif_f c11 h
    refine s_aload_n 3 hz dX1_giveTo_60 rfl ?_
    refine s_getR 4 hz fl_X1_24 sx33 rfl (by decide) dX1_giveTo_61 ?_
    refine s_iload_n 5 hz dX1_giveTo_64 rfl ?_
    refine s_iload_n 4 hz dX1_giveTo_65 rfl ?_
    obtain ⟨g16, h⟩ := zg_of h
    obtain ⟨S17, eS17, h⟩ := zs_ex h
    have hW17 : WR shX S17 := by rw [eS17]; exact hW9.up (i := a2) sx38 (v := a1) ra1
    refine s_iast hz sx38 rfl (by decide) g16 dX1_giveTo_66 ?_
    rw [← eS17]
    refine s_aload_n 3 hz dX1_giveTo_67 rfl ?_
    refine s_iload_n 5 hz dX1_giveTo_68 rfl ?_
    refine s_iconst hz dX1_giveTo_69 ?_
    refine s_iadd hz dX1_giveTo_70 ?_
    refine s_iload 0 hz dX1_giveTo_71 rfl ?_
    obtain ⟨x18, ex18, rx18, h⟩ := zl_ex h
    rw [← ex18]
    obtain ⟨r19, S20, hc20, h⟩ := zb_of h
    refine s_callVv [aI x18, aI (max a3 (S9 35 a1))] [] hz ml_X1_44 sv_yX1_share (hrec _ _ _ _ _ rx18 (zmax_r ra3 (hW9 35 _ sx35 a1)) hW17 hc20) (by omega) rfl sx33 rfl rfl (Nat.le_of_ble_eq_true rfl) dX1_giveTo_73 (fun hW20 => ?_)
    refine s_pick (l' := [(0, aR 33), (1, aI a1), (5, aI x5)]) [3, 4, 1] rfl ?_
    exact TJ_X1_giveTo_76 hz hN hF hrec he ra1 rx5 hW20 h
def J_X1_share_18 (rec : Int → Int → HS → zO2) (v2 : Int) (S : HS) : zO2 :=
  zs (up S 33 7 v2) fun S2 =>
  zs (zcpy S2 38 39 8) fun S3 =>
  some (0, S3)
set_option maxHeartbeats 4000000 in
set_option maxRecDepth 20000 in
theorem TJ_X1_share_18 {e : Nat} {rec : Int → Int → HS → zO2} {v2 : Int} {S : HS} {r : Int} {S' : HS} {z : Zt} (hz : zO z cX1_share RX1 (e + 2) shX) (hN : zN z 4) (hF : zFv z shX S') (hrec : ∀ (b1 b2 : Int) (S S' : HS) (r : Int), rng b1 → rng b2 → WR shX S → rec b1 b2 S = some (r, S') → zV shX yX1_share cX1_share 4 e [aR 33, aI b1, aI b2] S S') (he : 1 ≤ e) (rv2 : rng v2) (hW : WR shX S) (h : J_X1_share_18 rec v2 S = some (r, S')) : zA z 18 [(0, aR 33), (2, aI v2)] [] S := by
  unfold J_X1_share_18 at h
  refine s_aload_n 0 hz dX1_share_18 rfl ?_
  refine s_iload_n 1 hz dX1_share_19 rfl ?_
  obtain ⟨S2, eS2, h⟩ := zs_ex h
  have hW2 : WR shX S2 := by rw [eS2]; exact hW.up (i := 7) sx33 (v := v2) rv2
  refine s_putI (kz := 7) 7 hz fp_X1_34 sx33 rfl rfl dX1_share_20 ?_
  rw [← eS2]
  refine s_aload_n 0 hz dX1_share_23 rfl ?_
  refine s_getR 4 hz fl_X1_24 sx33 rfl (by decide) dX1_share_24 ?_
  refine s_iconst hz dX1_share_27 ?_
  refine s_aload_n 0 hz dX1_share_28 rfl ?_
  refine s_getR 5 hz fl_X1_27 sx33 rfl (by decide) dX1_share_29 ?_
  refine s_iconst hz dX1_share_32 ?_
  refine s_bipush hz dX1_share_33 bp_8 ?_
  obtain ⟨S3, eS3, h⟩ := zs_ex h
  have hW3 : WR shX S3 := by rw [eS3]; exact zcpy_W (n := 8) hW2 sx38 sx39
  refine s_cpy (nz := 8) hz mc_X1_48 (by omega) sx38 sx39 rfl (by decide) (Nat.le_of_ble_eq_true rfl) dX1_share_35 ?_
  rw [← eS3]
  exact s_vret h hz hF hW3 dX1_share_38
def J_X1_share_62 (rec : Int → Int → HS → zO2) (k41 : Int → HS → zO2) (v1 : Int) (v2 : Int) (v3 : Int) (S : HS) : zO2 :=
  zl (v3 + 1) fun x9 =>
  k41 x9 S
set_option maxHeartbeats 4000000 in
set_option maxRecDepth 20000 in
theorem TJ_X1_share_62 {e : Nat} {rec : Int → Int → HS → zO2} {k41 : Int → HS → zO2} {v1 : Int} {v2 : Int} {v3 : Int} {S : HS} {r : Int} {S' : HS} {z : Zt} (hz : zO z cX1_share RX1 (e + 2) shX) (hN : zN z 4) (hF : zFv z shX S') (hrec : ∀ (b1 b2 : Int) (S S' : HS) (r : Int), rng b1 → rng b2 → WR shX S → rec b1 b2 S = some (r, S') → zV shX yX1_share cX1_share 4 e [aR 33, aI b1, aI b2] S S') (he : 1 ≤ e) (hk41 : ∀ (w3 : Int) (S : HS), rng w3 → WR shX S → k41 w3 S = some (r, S') → zA z 41 [(0, aR 33), (1, aI v1), (2, aI v2), (3, aI w3)] [] S) (rv1 : rng v1) (rv2 : rng v2) (rv3 : rng v3) (hW : WR shX S) (h : J_X1_share_62 rec k41 v1 v2 v3 S = some (r, S')) : zA z 62 [(0, aR 33), (1, aI v1), (2, aI v2), (3, aI v3)] [] S := by
  unfold J_X1_share_62 at h
  obtain ⟨x9, ex9, rx9, h⟩ := zl_ex h
  refine s_iinc (k0 := 3) (y := x9) (l' := [(3, aI x9), (0, aR 33), (1, aI v1), (2, aI v2)]) hz hN dX1_share_62 rfl ex9.symm (by decide) rfl ?_
  refine s_goto 41 hz dX1_share_65 rfl ?_
  refine s_pick (l' := [(0, aR 33), (1, aI v1), (2, aI v2), (3, aI x9)]) [1, 2, 3, 0] rfl ?_
  exact hk41 _ _ rx9 hW h
def L_X1_share_41 (rec : Int → Int → HS → zO2) (p1 : Int) (p2 : Int) : Nat → Int → HS → zO2
  | 0, _, _ => none
  | n + 1, v3, S => 
    if 3 ≤ v3 then (
      some (0, S))
    else (
      zg ((0 : Int) ≤ v3 ∧ v3 < 3) <|
      if S 34 v3 ≤ 0 then (
        J_X1_share_62 rec (L_X1_share_41 rec p1 p2 n) p1 p2 v3 S)
      else (
        zb (M_X1_giveTo rec v3 p1 p2 S) fun _ S11 =>
        J_X1_share_62 rec (L_X1_share_41 rec p1 p2 n) p1 p2 v3 S11))
set_option maxHeartbeats 4000000 in
set_option maxRecDepth 20000 in
theorem TL_X1_share_41 {e : Nat} {rec : Int → Int → HS → zO2} {p1 : Int} {p2 : Int} {r : Int} {S' : HS} {z : Zt} (hz : zO z cX1_share RX1 (e + 2) shX) (hN : zN z 4) (hF : zFv z shX S') (hrec : ∀ (b1 b2 : Int) (S S' : HS) (r : Int), rng b1 → rng b2 → WR shX S → rec b1 b2 S = some (r, S') → zV shX yX1_share cX1_share 4 e [aR 33, aI b1, aI b2] S S') (he : 1 ≤ e) (rp1 : rng p1) (rp2 : rng p2) : ∀ (n : Nat) {v3 : Int} {S : HS}, rng v3 → WR shX S → L_X1_share_41 rec p1 p2 n v3 S = some (r, S') → zA z 41 [(0, aR 33), (1, aI p1), (2, aI p2), (3, aI v3)] [] S := by
  intro n
  induction n with
  | zero =>
    intro _ _ _ _ h
    cases h
  | succ n ih =>
    intro v3 S rv3 hW h
    rw [L_X1_share_41.eq_2] at h
    refine s_iload_n 3 hz dX1_share_41 rfl ?_
    refine s_iconst hz dX1_share_42 ?_
    refine s_icmp_ge 68 hz rv3 rl_3 dX1_share_43 rfl (fun c6 => ?_) (fun c6 => ?_)
    · have h := zif_t c6 h
      exact s_vret h hz hF hW dX1_share_68
    · have h := zif_f c6 h
      refine s_aload_n 0 hz dX1_share_46 rfl ?_
      refine s_getR 0 hz fl_X1_9 sx33 rfl (by decide) dX1_share_47 ?_
      refine s_iload_n 3 hz dX1_share_50 rfl ?_
      obtain ⟨g7, h⟩ := zg_of h
      refine s_iald hz sx34 rfl (by decide) g7 dX1_share_51 ?_
      refine s_if_le 62 hz (hW 34 _ sx34 v3) dX1_share_52 rfl (fun c8 => ?_) (fun c8 => ?_)
      · have h := zif_t c8 h
        exact TJ_X1_share_62 hz hN hF hrec he (fun _ _ => ih) rp1 rp2 rv3 hW h
      · have h := zif_f c8 h
        refine s_aload_n 0 hz dX1_share_55 rfl ?_
        refine s_iload_n 3 hz dX1_share_56 rfl ?_
        refine s_iload_n 1 hz dX1_share_57 rfl ?_
        refine s_iload_n 2 hz dX1_share_58 rfl ?_
        obtain ⟨r10, S11, hc11, h⟩ := zb_of h
        refine s_callVv [aI v3, aI p1, aI p2] [] hz ml_X1_54 sv_yX1_giveTo (T_X1_giveTo hrec (by omega) rv3 rp1 rp2 hW hc11) (by omega) rfl sx33 rfl rfl (Nat.le_of_ble_eq_true rfl) dX1_share_59 (fun hW11 => ?_)
        exact TJ_X1_share_62 hz hN hF hrec he (fun _ _ => ih) rp1 rp2 rv3 hW11 h
def F_X1_share (rec : Int → Int → HS → zO2) (a1 : Int) (a2 : Int) (S : HS) : zO2 :=
  if S 33 6 ≤ a1 then (
    J_X1_share_18 rec a2 S)
  else (
    if a1 < 0 then (
      J_X1_share_18 rec a2 S)
    else (
      if a1 < 8 then (
        L_X1_share_41 rec a1 a2 zBig 0 S)
      else (
        J_X1_share_18 rec a2 S)))
set_option maxHeartbeats 4000000 in
set_option maxRecDepth 20000 in
theorem TF_X1_share {e : Nat} {rec : Int → Int → HS → zO2} (hrec : ∀ (b1 b2 : Int) (S S' : HS) (r : Int), rng b1 → rng b2 → WR shX S → rec b1 b2 S = some (r, S') → zV shX yX1_share cX1_share 4 e [aR 33, aI b1, aI b2] S S') (he : 1 ≤ e) {a1 : Int} {a2 : Int} {S S' : HS} {r : Int} (ra1 : rng a1) (ra2 : rng a2) (hW : WR shX S) (h : F_X1_share rec a1 a2 S = some (r, S')) : zV shX yX1_share cX1_share 4 (e + 2) [aR 33, aI a1, aI a2] S S' := by
  refine zV_of (by decide +kernel) (Nat.le_of_ble_eq_true rfl) (fun z hz hN hF => ?_)
  have hz : zO z cX1_share RX1 (e + 2) shX := hz
  show zA z 0 [(0, aR 33), (1, aI a1), (2, aI a2)] [] S
  unfold F_X1_share at h
  refine s_iload_n 1 hz dX1_share_0 rfl ?_
  refine s_aload_n 0 hz dX1_share_1 rfl ?_
  refine s_getI (kz := 6) 6 hz fl_X1_30 sx33 rfl rfl dX1_share_2 ?_
  refine s_icmp_ge 18 hz ra1 (hW 33 _ sx33 6) dX1_share_5 rfl (fun c1 => ?_) (fun c1 => ?_)
  · have h := zif_t c1 h
    refine s_pick (l' := [(0, aR 33), (2, aI a2)]) [0, 2] rfl ?_
    exact TJ_X1_share_18 hz hN hF hrec he ra2 hW h
  · have h := zif_f c1 h
    refine s_iload_n 1 hz dX1_share_8 rfl ?_
    refine s_if_lt 18 hz ra1 dX1_share_9 rfl (fun c4 => ?_) (fun c4 => ?_)
    · have h := zif_t c4 h
      refine s_pick (l' := [(0, aR 33), (2, aI a2)]) [0, 2] rfl ?_
      exact TJ_X1_share_18 hz hN hF hrec he ra2 hW h
    · have h := zif_f c4 h
      refine s_iload_n 1 hz dX1_share_12 rfl ?_
      refine s_bipush hz dX1_share_13 bp_8 ?_
      refine s_icmp_lt 39 hz ra1 rl_8 dX1_share_15 rfl (fun c5 => ?_) (fun c5 => ?_)
      · have h := zif_t c5 h
        refine s_iconst hz dX1_share_39 ?_
        refine s_istore_n (l' := [(3, aI 0), (0, aR 33), (1, aI a1), (2, aI a2)]) hz hN dX1_share_40 (by decide) rfl ?_
        refine s_pick (l' := [(0, aR 33), (1, aI a1), (2, aI a2), (3, aI 0)]) [1, 2, 3, 0] rfl ?_
        exact TL_X1_share_41 hz hN hF hrec he ra1 ra2 zBig rl_0 hW h
      · have h := zif_f c5 h
        refine s_pick (l' := [(0, aR 33), (2, aI a2)]) [0, 2] rfl ?_
        exact TJ_X1_share_18 hz hN hF hrec he ra2 hW h
def M_X1_share : Nat → Int → Int → HS → zO2
  | 0, _, _, _ => none
  | n + 1, a1, a2, S => F_X1_share (M_X1_share n) a1 a2 S
set_option maxHeartbeats 4000000 in
set_option maxRecDepth 20000 in
theorem T_X1_share : ∀ (n : Nat) {a1 : Int} {a2 : Int} {S S' : HS} {r : Int}, rng a1 → rng a2 → WR shX S → M_X1_share n a1 a2 S = some (r, S') → zV shX yX1_share cX1_share 4 (1 + 2 * n) [aR 33, aI a1, aI a2] S S' := by
  intro n
  induction n with
  | zero =>
    intro _ _ _ _ _ _ _ _ h
    cases h
  | succ n ih =>
    intro a1 a2 S S' r ra1 ra2 hW h
    rw [M_X1_share.eq_2] at h
    rw [show 1 + 2 * (n + 1) = (1 + 2 * n) + 2 by omega]
    exact TF_X1_share (fun _ _ _ _ _ q0 q1 h1 h2 => ih q0 q1 h1 h2) (by omega) ra1 ra2 hW h
def M_X7_codeAt (a1 : Int) (S : HS) : zO2 :=
  if a1 < 0 then (
    some (0, S))
  else (
    if S 42 3 ≤ a1 then (
      some (0, S))
    else (
      if 1000 ≤ a1 then (
        some (0, S))
      else (
        zg ((0 : Int) ≤ a1 ∧ a1 < 1000) <|
        some (S 43 a1, S))))
set_option maxHeartbeats 4000000 in
set_option maxRecDepth 20000 in
theorem T_X7_codeAt {a1 : Int} {S S' : HS} {r : Int} (ra1 : rng a1) (hW : WR shX S) (h : M_X7_codeAt a1 S = some (r, S')) : zR shX yX7_codeAt cX7_codeAt 2  .int 1 [aR 42, aI a1] S r S' := by
  refine zR_of (by decide +kernel) (Nat.le_of_ble_eq_true rfl) (fun z hz hN hF => ?_)
  have hz : zO z cX7_codeAt RX7 1 shX := hz
  show zA z 0 [(0, aR 42), (1, aI a1)] [] S
  unfold M_X7_codeAt at h
  refine s_iload_n 1 hz dX7_codeAt_0 rfl ?_
  refine s_if_lt 28 hz ra1 dX7_codeAt_1 rfl (fun c1 => ?_) (fun c1 => ?_)
  · have h := zif_t c1 h
    refine s_iconst hz dX7_codeAt_28 ?_
    exact s_iret h hz hF rl_0 hW dX7_codeAt_29
  · have h := zif_f c1 h
    refine s_iload_n 1 hz dX7_codeAt_4 rfl ?_
    refine s_aload_n 0 hz dX7_codeAt_5 rfl ?_
    refine s_getI (kz := 3) 3 hz fl_X7_22 sx42 rfl rfl dX7_codeAt_6 ?_
    refine s_icmp_ge 28 hz ra1 (hW 42 _ sx42 3) dX7_codeAt_9 rfl (fun c2 => ?_) (fun c2 => ?_)
    · have h := zif_t c2 h
      refine s_iconst hz dX7_codeAt_28 ?_
      exact s_iret h hz hF rl_0 hW dX7_codeAt_29
    · have h := zif_f c2 h
      refine s_iload_n 1 hz dX7_codeAt_12 rfl ?_
      refine s_sipush hz dX7_codeAt_13 sp_1000 ?_
      refine s_icmp_ge 28 hz ra1 rl_1000 dX7_codeAt_16 rfl (fun c3 => ?_) (fun c3 => ?_)
      · have h := zif_t c3 h
        refine s_iconst hz dX7_codeAt_28 ?_
        exact s_iret h hz hF rl_0 hW dX7_codeAt_29
      · have h := zif_f c3 h
        refine s_aload_n 0 hz dX7_codeAt_19 rfl ?_
        refine s_getR 1 hz fl_X7_9 sx42 rfl (by decide) dX7_codeAt_20 ?_
        refine s_iload_n 1 hz dX7_codeAt_23 rfl ?_
        obtain ⟨g4, h⟩ := zg_of h
        refine s_iald hz sx43 rfl (by decide) g4 dX7_codeAt_24 ?_
        refine s_goto 29 hz dX7_codeAt_25 rfl ?_
        exact s_iret h hz hF (hW 43 _ sx43 a1) hW dX7_codeAt_29
def M_X11_acrossBy (a1 : Int) (S : HS) : zO2 :=
  if a1 = 2 then (
    some ((-1), S))
  else (
    if a1 = 3 then (
      some (1, S))
    else (
      some (0, S)))
set_option maxHeartbeats 4000000 in
set_option maxRecDepth 20000 in
theorem T_X11_acrossBy {a1 : Int} {S S' : HS} {r : Int} (ra1 : rng a1) (hW : WR shX S) (h : M_X11_acrossBy a1 S = some (r, S')) : zR shX yX11_acrossBy cX11_acrossBy 1  .int 1 [aI a1] S r S' := by
  refine zR_of (by decide +kernel) (Nat.le_of_ble_eq_true rfl) (fun z hz hN hF => ?_)
  have hz : zO z cX11_acrossBy RX11 1 shX := hz
  show zA z 0 [(0, aI a1)] [] S
  unfold M_X11_acrossBy at h
  refine s_iload_n 0 hz dX11_acrossBy_0 rfl ?_
  refine s_iconst hz dX11_acrossBy_1 ?_
  refine s_icmp_ne 9 hz ra1 rl_2 dX11_acrossBy_2 rfl (fun c1 => ?_) (fun c1 => ?_)
  · have h := zif_f c1 h
    refine s_iload_n 0 hz dX11_acrossBy_9 rfl ?_
    refine s_iconst hz dX11_acrossBy_10 ?_
    refine s_icmp_ne 18 hz ra1 rl_3 dX11_acrossBy_11 rfl (fun c2 => ?_) (fun c2 => ?_)
    · have h := zif_f c2 h
      refine s_iconst hz dX11_acrossBy_18 ?_
      exact s_iret h hz hF rl_0 hW dX11_acrossBy_19
    · have h := zif_t c2 h
      refine s_iconst hz dX11_acrossBy_14 ?_
      refine s_goto 19 hz dX11_acrossBy_15 rfl ?_
      exact s_iret h hz hF rl_1 hW dX11_acrossBy_19
  · have h := zif_t c1 h
    refine s_iconst hz dX11_acrossBy_5 ?_
    refine s_goto 19 hz dX11_acrossBy_6 rfl ?_
    exact s_iret h hz hF rl_m1 hW dX11_acrossBy_19
def M_X11_downBy (a1 : Int) (S : HS) : zO2 :=
  if a1 = 0 then (
    some ((-1), S))
  else (
    if a1 = 1 then (
      some (1, S))
    else (
      some (0, S)))
set_option maxHeartbeats 4000000 in
set_option maxRecDepth 20000 in
theorem T_X11_downBy {a1 : Int} {S S' : HS} {r : Int} (ra1 : rng a1) (hW : WR shX S) (h : M_X11_downBy a1 S = some (r, S')) : zR shX yX11_downBy cX11_downBy 1  .int 1 [aI a1] S r S' := by
  refine zR_of (by decide +kernel) (Nat.le_of_ble_eq_true rfl) (fun z hz hN hF => ?_)
  have hz : zO z cX11_downBy RX11 1 shX := hz
  show zA z 0 [(0, aI a1)] [] S
  unfold M_X11_downBy at h
  refine s_iload_n 0 hz dX11_downBy_0 rfl ?_
  refine s_if_ne 8 hz ra1 dX11_downBy_1 rfl (fun c1 => ?_) (fun c1 => ?_)
  · have h := zif_f c1 h
    refine s_iload_n 0 hz dX11_downBy_8 rfl ?_
    refine s_iconst hz dX11_downBy_9 ?_
    refine s_icmp_ne 17 hz ra1 rl_1 dX11_downBy_10 rfl (fun c2 => ?_) (fun c2 => ?_)
    · have h := zif_f c2 h
      refine s_iconst hz dX11_downBy_17 ?_
      exact s_iret h hz hF rl_0 hW dX11_downBy_18
    · have h := zif_t c2 h
      refine s_iconst hz dX11_downBy_13 ?_
      refine s_goto 18 hz dX11_downBy_14 rfl ?_
      exact s_iret h hz hF rl_1 hW dX11_downBy_18
  · have h := zif_t c1 h
    refine s_iconst hz dX11_downBy_4 ?_
    refine s_goto 18 hz dX11_downBy_5 rfl ?_
    exact s_iret h hz hF rl_m1 hW dX11_downBy_18
def J_X10_arrive_42 (v1 : Int) (t0 : Int) (S : HS) : zO2 :=
  zg (t0 = 0 ∨ t0 = 1) <|
  zs (up S 46 8 t0) fun S2 =>
  if S2 46 8 = 0 then (
    zl ((S2 46 6) + 1) fun x5 =>
    zs (up S2 46 6 x5) fun S6 =>
    if 413 ≤ S6 46 7 then (
      some (0, S6))
    else (
      zl (((S6 46 2) * (S6 46 5)) + (S6 46 4)) fun x8 =>
      zg ((0 : Int) ≤ S6 46 7 ∧ S6 46 7 < 413) <|
      zs (up S6 47 (S6 46 7) x8) fun S10 =>
      zg ((0 : Int) ≤ S10 46 7 ∧ S10 46 7 < 413) <|
      zs (up S10 48 (S10 46 7) v1) fun S12 =>
      zl ((S12 46 7) + 1) fun x13 =>
      zs (up S12 46 7 x13) fun S14 =>
      some (0, S14)))
  else (
    some (0, S2))
set_option maxHeartbeats 4000000 in
set_option maxRecDepth 20000 in
theorem TJ_X10_arrive_42 {v1 : Int} {t0 : Int} {S : HS} {r : Int} {S' : HS} {z : Zt} (hz : zO z cX10_arrive RX10 1 shX) (hN : zN z 2) (hF : zFv z shX S') (rv1 : rng v1) (rt0 : rng t0) (hW : WR shX S) (h : J_X10_arrive_42 v1 t0 S = some (r, S')) : zA z 42 [(0, aR 46), (1, aI v1)] [aI t0, aR 46] S := by
  unfold J_X10_arrive_42 at h
  obtain ⟨g3, h⟩ := zg_of h
  obtain ⟨S2, eS2, h⟩ := zs_ex h
  have hW2 : WR shX S2 := by rw [eS2]; exact hW.up (i := 8) sx46 (v := t0) rt0
  refine s_putZ (kz := 8) 8 hz fp_X10_37 g3 sx46 rfl rfl dX10_arrive_42 ?_
  rw [← eS2]
  refine s_aload_n 0 hz dX10_arrive_45 rfl ?_
  refine s_getI (kz := 8) 8 hz fl_X10_37 sx46 rfl rfl dX10_arrive_46 ?_
  refine s_if_eq 53 hz (hW2 46 _ sx46 8) dX10_arrive_49 rfl (fun c4 => ?_) (fun c4 => ?_)
  · have h := zif_t c4 h
    refine s_aload_n 0 hz dX10_arrive_53 rfl ?_
    refine s_dup hz rfl dX10_arrive_54 ?_
    refine s_getI (kz := 6) 6 hz fl_X10_31 sx46 rfl rfl dX10_arrive_55 ?_
    refine s_iconst hz dX10_arrive_58 ?_
    refine s_iadd hz dX10_arrive_59 ?_
    obtain ⟨x5, ex5, rx5, h⟩ := zl_ex h
    rw [← ex5]
    obtain ⟨S6, eS6, h⟩ := zs_ex h
    have hW6 : WR shX S6 := by rw [eS6]; exact hW2.up (i := 6) sx46 (v := x5) rx5
    refine s_putI (kz := 6) 6 hz fp_X10_31 sx46 rfl rfl dX10_arrive_60 ?_
    rw [← eS6]
    refine s_aload_n 0 hz dX10_arrive_63 rfl ?_
    refine s_getI (kz := 7) 7 hz fl_X10_34 sx46 rfl rfl dX10_arrive_64 ?_
    refine s_aload_n 0 hz dX10_arrive_67 rfl ?_
    refine s_getR 0 hz fl_X10_9 sx46 rfl (by decide) dX10_arrive_68 ?_
    refine s_alen hz sx47 (by decide) rfl dX10_arrive_71 ?_
    refine s_icmp_ge 118 hz (hW6 46 _ sx46 7) rl_413 dX10_arrive_72 rfl (fun c7 => ?_) (fun c7 => ?_)
    · have h := zif_t c7 h
      exact s_vret h hz hF hW6 dX10_arrive_118
    · have h := zif_f c7 h
      refine s_aload_n 0 hz dX10_arrive_75 rfl ?_
      refine s_getR 0 hz fl_X10_9 sx46 rfl (by decide) dX10_arrive_76 ?_
      refine s_aload_n 0 hz dX10_arrive_79 rfl ?_
      refine s_getI (kz := 7) 7 hz fl_X10_34 sx46 rfl rfl dX10_arrive_80 ?_
      refine s_aload_n 0 hz dX10_arrive_83 rfl ?_
      refine s_getI (kz := 2) 2 hz fl_X10_18 sx46 rfl rfl dX10_arrive_84 ?_
      refine s_aload_n 0 hz dX10_arrive_87 rfl ?_
      refine s_getI (kz := 5) 5 hz fl_X10_28 sx46 rfl rfl dX10_arrive_88 ?_
      refine s_imul hz dX10_arrive_91 ?_
      refine s_aload_n 0 hz dX10_arrive_92 rfl ?_
      refine s_getI (kz := 4) 4 hz fl_X10_25 sx46 rfl rfl dX10_arrive_93 ?_
      refine s_iadd hz dX10_arrive_96 ?_
      obtain ⟨x8, ex8, rx8, h⟩ := zl_ex h
      rw [← ex8]
      obtain ⟨g9, h⟩ := zg_of h
      obtain ⟨S10, eS10, h⟩ := zs_ex h
      have hW10 : WR shX S10 := by rw [eS10]; exact hW6.up (i := (S6 46 7)) sx47 (v := x8) rx8
      refine s_iast hz sx47 rfl (by decide) g9 dX10_arrive_97 ?_
      rw [← eS10]
      refine s_aload_n 0 hz dX10_arrive_98 rfl ?_
      refine s_getR 1 hz fl_X10_15 sx46 rfl (by decide) dX10_arrive_99 ?_
      refine s_aload_n 0 hz dX10_arrive_102 rfl ?_
      refine s_getI (kz := 7) 7 hz fl_X10_34 sx46 rfl rfl dX10_arrive_103 ?_
      refine s_iload_n 1 hz dX10_arrive_106 rfl ?_
      obtain ⟨g11, h⟩ := zg_of h
      obtain ⟨S12, eS12, h⟩ := zs_ex h
      have hW12 : WR shX S12 := by rw [eS12]; exact hW10.up (i := (S10 46 7)) sx48 (v := v1) rv1
      refine s_iast hz sx48 rfl (by decide) g11 dX10_arrive_107 ?_
      rw [← eS12]
      refine s_aload_n 0 hz dX10_arrive_108 rfl ?_
      refine s_dup hz rfl dX10_arrive_109 ?_
      refine s_getI (kz := 7) 7 hz fl_X10_34 sx46 rfl rfl dX10_arrive_110 ?_
      refine s_iconst hz dX10_arrive_113 ?_
      refine s_iadd hz dX10_arrive_114 ?_
      obtain ⟨x13, ex13, rx13, h⟩ := zl_ex h
      rw [← ex13]
      obtain ⟨S14, eS14, h⟩ := zs_ex h
      have hW14 : WR shX S14 := by rw [eS14]; exact hW12.up (i := 7) sx46 (v := x13) rx13
      refine s_putI (kz := 7) 7 hz fp_X10_34 sx46 rfl rfl dX10_arrive_115 ?_
      rw [← eS14]
      exact s_vret h hz hF hW14 dX10_arrive_118
  · have h := zif_f c4 h
    exact s_vret h hz hF hW2 dX10_arrive_52
def J_X10_arrive_37 (v1 : Int) (S : HS) : zO2 :=
  J_X10_arrive_42 v1 1 S
set_option maxHeartbeats 4000000 in
set_option maxRecDepth 20000 in
theorem TJ_X10_arrive_37 {v1 : Int} {S : HS} {r : Int} {S' : HS} {z : Zt} (hz : zO z cX10_arrive RX10 1 shX) (hN : zN z 2) (hF : zFv z shX S') (rv1 : rng v1) (hW : WR shX S) (h : J_X10_arrive_37 v1 S = some (r, S')) : zA z 37 [(0, aR 46), (1, aI v1)] [aR 46] S := by
  unfold J_X10_arrive_37 at h
  refine s_iconst hz dX10_arrive_37 ?_
  refine s_goto 42 hz dX10_arrive_38 rfl ?_
  exact TJ_X10_arrive_42 hz hN hF rv1 rl_1 hW h
def M_X10_arrive (a1 : Int) (S : HS) : zO2 :=
  if S 46 4 < 0 then (
    J_X10_arrive_37 a1 S)
  else (
    if S 46 2 ≤ S 46 4 then (
      J_X10_arrive_37 a1 S)
    else (
      if S 46 5 < 0 then (
        J_X10_arrive_37 a1 S)
      else (
        if S 46 5 < S 46 3 then (
          J_X10_arrive_42 a1 0 S)
        else (
          J_X10_arrive_37 a1 S))))
set_option maxHeartbeats 4000000 in
set_option maxRecDepth 20000 in
theorem T_X10_arrive {a1 : Int} {S S' : HS} {r : Int} (ra1 : rng a1) (hW : WR shX S) (h : M_X10_arrive a1 S = some (r, S')) : zV shX yX10_arrive cX10_arrive 2 1 [aR 46, aI a1] S S' := by
  refine zV_of (by decide +kernel) (Nat.le_of_ble_eq_true rfl) (fun z hz hN hF => ?_)
  have hz : zO z cX10_arrive RX10 1 shX := hz
  show zA z 0 [(0, aR 46), (1, aI a1)] [] S
  unfold M_X10_arrive at h
  refine s_aload_n 0 hz dX10_arrive_0 rfl ?_
  refine s_aload_n 0 hz dX10_arrive_1 rfl ?_
  refine s_getI (kz := 4) 4 hz fl_X10_25 sx46 rfl rfl dX10_arrive_2 ?_
  refine s_if_lt 37 hz (hW 46 _ sx46 4) dX10_arrive_5 rfl (fun c1 => ?_) (fun c1 => ?_)
  · have h := zif_t c1 h
    exact TJ_X10_arrive_37 hz hN hF ra1 hW h
  · have h := zif_f c1 h
    refine s_aload_n 0 hz dX10_arrive_8 rfl ?_
    refine s_getI (kz := 4) 4 hz fl_X10_25 sx46 rfl rfl dX10_arrive_9 ?_
    refine s_aload_n 0 hz dX10_arrive_12 rfl ?_
    refine s_getI (kz := 2) 2 hz fl_X10_18 sx46 rfl rfl dX10_arrive_13 ?_
    refine s_icmp_ge 37 hz (hW 46 _ sx46 4) (hW 46 _ sx46 2) dX10_arrive_16 rfl (fun c15 => ?_) (fun c15 => ?_)
    · have h := zif_t c15 h
      exact TJ_X10_arrive_37 hz hN hF ra1 hW h
    · have h := zif_f c15 h
      refine s_aload_n 0 hz dX10_arrive_19 rfl ?_
      refine s_getI (kz := 5) 5 hz fl_X10_28 sx46 rfl rfl dX10_arrive_20 ?_
      refine s_if_lt 37 hz (hW 46 _ sx46 5) dX10_arrive_23 rfl (fun c16 => ?_) (fun c16 => ?_)
      · have h := zif_t c16 h
        exact TJ_X10_arrive_37 hz hN hF ra1 hW h
      · have h := zif_f c16 h
        refine s_aload_n 0 hz dX10_arrive_26 rfl ?_
        refine s_getI (kz := 5) 5 hz fl_X10_28 sx46 rfl rfl dX10_arrive_27 ?_
        refine s_aload_n 0 hz dX10_arrive_30 rfl ?_
        refine s_getI (kz := 3) 3 hz fl_X10_22 sx46 rfl rfl dX10_arrive_31 ?_
        refine s_icmp_lt 41 hz (hW 46 _ sx46 5) (hW 46 _ sx46 3) dX10_arrive_34 rfl (fun c17 => ?_) (fun c17 => ?_)
        · have h := zif_t c17 h
          refine s_iconst hz dX10_arrive_41 ?_
          exact TJ_X10_arrive_42 hz hN hF ra1 rl_0 hW h
        · have h := zif_f c17 h
          exact TJ_X10_arrive_37 hz hN hF ra1 hW h
def J_X10_begin_27 (v2 : Int) (v3 : Int) (t0 : Int) (S : HS) : zO2 :=
  zs (up S 46 3 t0) fun S4 =>
  zs (up S4 46 4 v2) fun S5 =>
  zs (up S5 46 5 v3) fun S6 =>
  zs (up S6 46 6 0) fun S7 =>
  zs (up S7 46 7 0) fun S8 =>
  zs (up S8 46 8 0) fun S9 =>
  zb (M_X10_arrive (-1) S9) fun _ S11 =>
  some (0, S11)
set_option maxHeartbeats 4000000 in
set_option maxRecDepth 20000 in
theorem TJ_X10_begin_27 {v2 : Int} {v3 : Int} {t0 : Int} {S : HS} {r : Int} {S' : HS} {z : Zt} (hz : zO z cX10_begin RX10 2 shX) (hN : zN z 4) (hF : zFv z shX S') (rv2 : rng v2) (rv3 : rng v3) (rt0 : rng t0) (hW : WR shX S) (h : J_X10_begin_27 v2 v3 t0 S = some (r, S')) : zA z 27 [(0, aR 46), (2, aI v2), (3, aI v3)] [aI t0, aR 46] S := by
  unfold J_X10_begin_27 at h
  obtain ⟨S4, eS4, h⟩ := zs_ex h
  have hW4 : WR shX S4 := by rw [eS4]; exact hW.up (i := 3) sx46 (v := t0) rt0
  refine s_putI (kz := 3) 3 hz fp_X10_22 sx46 rfl rfl dX10_begin_27 ?_
  rw [← eS4]
  refine s_aload_n 0 hz dX10_begin_30 rfl ?_
  refine s_iload_n 1 hz dX10_begin_31 rfl ?_
  obtain ⟨S5, eS5, h⟩ := zs_ex h
  have hW5 : WR shX S5 := by rw [eS5]; exact hW4.up (i := 4) sx46 (v := v2) rv2
  refine s_putI (kz := 4) 4 hz fp_X10_25 sx46 rfl rfl dX10_begin_32 ?_
  rw [← eS5]
  refine s_aload_n 0 hz dX10_begin_35 rfl ?_
  refine s_iload_n 2 hz dX10_begin_36 rfl ?_
  obtain ⟨S6, eS6, h⟩ := zs_ex h
  have hW6 : WR shX S6 := by rw [eS6]; exact hW5.up (i := 5) sx46 (v := v3) rv3
  refine s_putI (kz := 5) 5 hz fp_X10_28 sx46 rfl rfl dX10_begin_37 ?_
  rw [← eS6]
  refine s_aload_n 0 hz dX10_begin_40 rfl ?_
  refine s_iconst hz dX10_begin_41 ?_
  obtain ⟨S7, eS7, h⟩ := zs_ex h
  have hW7 : WR shX S7 := by rw [eS7]; exact hW6.up (i := 6) sx46 (v := 0) rl_0
  refine s_putI (kz := 6) 6 hz fp_X10_31 sx46 rfl rfl dX10_begin_42 ?_
  rw [← eS7]
  refine s_aload_n 0 hz dX10_begin_45 rfl ?_
  refine s_iconst hz dX10_begin_46 ?_
  obtain ⟨S8, eS8, h⟩ := zs_ex h
  have hW8 : WR shX S8 := by rw [eS8]; exact hW7.up (i := 7) sx46 (v := 0) rl_0
  refine s_putI (kz := 7) 7 hz fp_X10_34 sx46 rfl rfl dX10_begin_47 ?_
  rw [← eS8]
  refine s_aload_n 0 hz dX10_begin_50 rfl ?_
  refine s_iconst hz dX10_begin_51 ?_
  obtain ⟨S9, eS9, h⟩ := zs_ex h
  have hW9 : WR shX S9 := by rw [eS9]; exact hW8.up (i := 8) sx46 (v := 0) rl_0
  refine s_putZ (kz := 8) 8 hz fp_X10_37 (by decide) sx46 rfl rfl dX10_begin_52 ?_
  rw [← eS9]
  refine s_aload_n 0 hz dX10_begin_55 rfl ?_
  refine s_iconst hz dX10_begin_56 ?_
  obtain ⟨r10, S11, hc11, h⟩ := zb_of h
  refine s_callVv [aI (-1)] [] hz ml_X10_41 sv_yX10_arrive (T_X10_arrive rl_m1 hW9 hc11) (by decide) rfl sx46 rfl rfl (Nat.le_of_ble_eq_true rfl) dX10_begin_57 (fun hW11 => ?_)
  exact s_vret h hz hF hW11 dX10_begin_60
def J_X10_begin_12 (v1 : Int) (v2 : Int) (v3 : Int) (t0 : Int) (S : HS) : zO2 :=
  zs (up S 46 2 t0) fun S2 =>
  if v1 = 0 then (
    J_X10_begin_27 v2 v3 13 S2)
  else (
    J_X10_begin_27 v2 v3 12 S2)
set_option maxHeartbeats 4000000 in
set_option maxRecDepth 20000 in
theorem TJ_X10_begin_12 {v1 : Int} {v2 : Int} {v3 : Int} {t0 : Int} {S : HS} {r : Int} {S' : HS} {z : Zt} (hz : zO z cX10_begin RX10 2 shX) (hN : zN z 4) (hF : zFv z shX S') (rv1 : rng v1) (rv2 : rng v2) (rv3 : rng v3) (rt0 : rng t0) (hW : WR shX S) (h : J_X10_begin_12 v1 v2 v3 t0 S = some (r, S')) : zA z 12 [(0, aR 46), (1, aI v1), (2, aI v2), (3, aI v3)] [aI t0, aR 46] S := by
  unfold J_X10_begin_12 at h
  obtain ⟨S2, eS2, h⟩ := zs_ex h
  have hW2 : WR shX S2 := by rw [eS2]; exact hW.up (i := 2) sx46 (v := t0) rt0
  refine s_putI (kz := 2) 2 hz fp_X10_18 sx46 rfl rfl dX10_begin_12 ?_
  rw [← eS2]
  refine s_aload_n 0 hz dX10_begin_15 rfl ?_
  refine s_iload_n 1 hz dX10_begin_16 rfl ?_
  refine s_if_eq 25 hz rv1 dX10_begin_17 rfl (fun c3 => ?_) (fun c3 => ?_)
  · have h := zif_t c3 h
    refine s_bipush hz dX10_begin_25 bp_13 ?_
    refine s_pick (l' := [(0, aR 46), (2, aI v2), (3, aI v3)]) [0, 2, 3] rfl ?_
    exact TJ_X10_begin_27 hz hN hF rv2 rv3 rl_13 hW2 h
  · have h := zif_f c3 h
    refine s_bipush hz dX10_begin_20 bp_12 ?_
    refine s_goto 27 hz dX10_begin_22 rfl ?_
    refine s_pick (l' := [(0, aR 46), (2, aI v2), (3, aI v3)]) [0, 2, 3] rfl ?_
    exact TJ_X10_begin_27 hz hN hF rv2 rv3 rl_12 hW2 h
def M_X10_begin (a1 : Int) (a2 : Int) (a3 : Int) (S : HS) : zO2 :=
  if a1 = 0 then (
    J_X10_begin_12 a1 a2 a3 17 S)
  else (
    J_X10_begin_12 a1 a2 a3 16 S)
set_option maxHeartbeats 4000000 in
set_option maxRecDepth 20000 in
theorem T_X10_begin {a1 : Int} {a2 : Int} {a3 : Int} {S S' : HS} {r : Int} (ra1 : rng a1) (ra2 : rng a2) (ra3 : rng a3) (hW : WR shX S) (h : M_X10_begin a1 a2 a3 S = some (r, S')) : zV shX yX10_begin cX10_begin 4 2 [aR 46, aI a1, aI a2, aI a3] S S' := by
  refine zV_of (by decide +kernel) (Nat.le_of_ble_eq_true rfl) (fun z hz hN hF => ?_)
  have hz : zO z cX10_begin RX10 2 shX := hz
  show zA z 0 [(0, aR 46), (1, aI a1), (2, aI a2), (3, aI a3)] [] S
  unfold M_X10_begin at h
  refine s_aload_n 0 hz dX10_begin_0 rfl ?_
  refine s_iload_n 1 hz dX10_begin_1 rfl ?_
  refine s_if_eq 10 hz ra1 dX10_begin_2 rfl (fun c1 => ?_) (fun c1 => ?_)
  · have h := zif_t c1 h
    refine s_bipush hz dX10_begin_10 bp_17 ?_
    exact TJ_X10_begin_12 hz hN hF ra1 ra2 ra3 rl_17 hW h
  · have h := zif_f c1 h
    refine s_bipush hz dX10_begin_5 bp_16 ?_
    refine s_goto 12 hz dX10_begin_7 rfl ?_
    exact TJ_X10_begin_12 hz hN hF ra1 ra2 ra3 rl_16 hW h
def L_X10_go_2 (p1 : Int) (p2 : Int) : Nat → Int → HS → zO2
  | 0, _, _ => none
  | n + 1, v3, S => 
    if p2 ≤ v3 then (
      some (0, S))
    else (
      if S 46 8 = 0 then (
        zb (M_X11_acrossBy p1 S) fun r3 S4 =>
        zl ((S 46 4) + r3) fun x5 =>
        zs (up S4 46 4 x5) fun S6 =>
        zb (M_X11_downBy p1 S6) fun r7 S8 =>
        zl ((S6 46 5) + r7) fun x9 =>
        zs (up S8 46 5 x9) fun S10 =>
        zb (M_X10_arrive p1 S10) fun _ S12 =>
        zl (v3 + 1) fun x13 =>
        L_X10_go_2 p1 p2 n x13 S12)
      else (
        some (0, S)))
set_option maxHeartbeats 4000000 in
set_option maxRecDepth 20000 in
theorem TL_X10_go_2 {p1 : Int} {p2 : Int} {r : Int} {S' : HS} {z : Zt} (hz : zO z cX10_go RX10 2 shX) (hN : zN z 4) (hF : zFv z shX S') (rp1 : rng p1) (rp2 : rng p2) : ∀ (n : Nat) {v3 : Int} {S : HS}, rng v3 → WR shX S → L_X10_go_2 p1 p2 n v3 S = some (r, S') → zA z 2 [(0, aR 46), (1, aI p1), (2, aI p2), (3, aI v3)] [] S := by
  intro n
  induction n with
  | zero =>
    intro _ _ _ _ h
    cases h
  | succ n ih =>
    intro v3 S rv3 hW h
    rw [L_X10_go_2.eq_2] at h
    refine s_iload_n 3 hz dX10_go_2 rfl ?_
    refine s_iload_n 2 hz dX10_go_3 rfl ?_
    refine s_icmp_ge 51 hz rv3 rp2 dX10_go_4 rfl (fun c1 => ?_) (fun c1 => ?_)
    · have h := zif_t c1 h
      exact s_vret h hz hF hW dX10_go_51
    · have h := zif_f c1 h
      refine s_aload_n 0 hz dX10_go_7 rfl ?_
      refine s_getI (kz := 8) 8 hz fl_X10_37 sx46 rfl rfl dX10_go_8 ?_
      refine s_if_ne 51 hz (hW 46 _ sx46 8) dX10_go_11 rfl (fun c2 => ?_) (fun c2 => ?_)
      · have h := zif_f c2 h
        exact s_vret h hz hF hW dX10_go_51
      · have h := zif_t c2 h
        refine s_aload_n 0 hz dX10_go_14 rfl ?_
        refine s_dup hz rfl dX10_go_15 ?_
        refine s_getI (kz := 4) 4 hz fl_X10_25 sx46 rfl rfl dX10_go_16 ?_
        refine s_iload_n 1 hz dX10_go_19 rfl ?_
        obtain ⟨r3, S4, hc4, h⟩ := zb_of h
        refine s_callS [aI p1] [aI (S 46 4), aR 46] hz ml_X10_45 ss_yX11_acrossBy (T_X11_acrossBy rp1 hW hc4) (by decide) rfl rfl (Nat.le_of_ble_eq_true rfl) dX10_go_20 (fun rr3 hW4 => ?_)
        refine s_iadd hz dX10_go_23 ?_
        obtain ⟨x5, ex5, rx5, h⟩ := zl_ex h
        rw [← ex5]
        obtain ⟨S6, eS6, h⟩ := zs_ex h
        have hW6 : WR shX S6 := by rw [eS6]; exact hW4.up (i := 4) sx46 (v := x5) rx5
        refine s_putI (kz := 4) 4 hz fp_X10_25 sx46 rfl rfl dX10_go_24 ?_
        rw [← eS6]
        refine s_aload_n 0 hz dX10_go_27 rfl ?_
        refine s_dup hz rfl dX10_go_28 ?_
        refine s_getI (kz := 5) 5 hz fl_X10_28 sx46 rfl rfl dX10_go_29 ?_
        refine s_iload_n 1 hz dX10_go_32 rfl ?_
        obtain ⟨r7, S8, hc8, h⟩ := zb_of h
        refine s_callS [aI p1] [aI (S6 46 5), aR 46] hz ml_X10_49 ss_yX11_downBy (T_X11_downBy rp1 hW6 hc8) (by decide) rfl rfl (Nat.le_of_ble_eq_true rfl) dX10_go_33 (fun rr7 hW8 => ?_)
        refine s_iadd hz dX10_go_36 ?_
        obtain ⟨x9, ex9, rx9, h⟩ := zl_ex h
        rw [← ex9]
        obtain ⟨S10, eS10, h⟩ := zs_ex h
        have hW10 : WR shX S10 := by rw [eS10]; exact hW8.up (i := 5) sx46 (v := x9) rx9
        refine s_putI (kz := 5) 5 hz fp_X10_28 sx46 rfl rfl dX10_go_37 ?_
        rw [← eS10]
        refine s_aload_n 0 hz dX10_go_40 rfl ?_
        refine s_iload_n 1 hz dX10_go_41 rfl ?_
        obtain ⟨r11, S12, hc12, h⟩ := zb_of h
        refine s_callVv [aI p1] [] hz ml_X10_41 sv_yX10_arrive (T_X10_arrive rp1 hW10 hc12) (by decide) rfl sx46 rfl rfl (Nat.le_of_ble_eq_true rfl) dX10_go_42 (fun hW12 => ?_)
        obtain ⟨x13, ex13, rx13, h⟩ := zl_ex h
        refine s_iinc (k0 := 3) (y := x13) (l' := [(3, aI x13), (0, aR 46), (1, aI p1), (2, aI p2)]) hz hN dX10_go_45 rfl ex13.symm (by decide) rfl ?_
        refine s_goto 2 hz dX10_go_48 rfl ?_
        refine s_pick (l' := [(0, aR 46), (1, aI p1), (2, aI p2), (3, aI x13)]) [1, 2, 3, 0] rfl ?_
        exact ih rx13 hW12 h
def M_X10_go (a1 : Int) (a2 : Int) (S : HS) : zO2 :=
  L_X10_go_2 a1 a2 zBig 0 S
set_option maxHeartbeats 4000000 in
set_option maxRecDepth 20000 in
theorem T_X10_go {a1 : Int} {a2 : Int} {S S' : HS} {r : Int} (ra1 : rng a1) (ra2 : rng a2) (hW : WR shX S) (h : M_X10_go a1 a2 S = some (r, S')) : zV shX yX10_go cX10_go 4 2 [aR 46, aI a1, aI a2] S S' := by
  refine zV_of (by decide +kernel) (Nat.le_of_ble_eq_true rfl) (fun z hz hN hF => ?_)
  have hz : zO z cX10_go RX10 2 shX := hz
  show zA z 0 [(0, aR 46), (1, aI a1), (2, aI a2)] [] S
  unfold M_X10_go at h
  refine s_iconst hz dX10_go_0 ?_
  refine s_istore_n (l' := [(3, aI 0), (0, aR 46), (1, aI a1), (2, aI a2)]) hz hN dX10_go_1 (by decide) rfl ?_
  refine s_pick (l' := [(0, aR 46), (1, aI a1), (2, aI a2), (3, aI 0)]) [1, 2, 3, 0] rfl ?_
  exact TL_X10_go_2 hz hN hF ra1 ra2 zBig rl_0 hW h
def J_X4_walk_158 (k93 : Int → HS → zO2) (v1 : Int) (v2 : Int) (v8 : Int) (v9 : Int) (t0 : Int) (S : HS) : zO2 :=
  zl ((v1 + 5) + (2 * v9)) fun x25 =>
  zb (M_X7_codeAt x25 S) fun r26 S27 =>
  zb (M_X10_go t0 r26 S27) fun _ S29 =>
  zl (v9 + 1) fun x30 =>
  k93 x30 S29
set_option maxHeartbeats 4000000 in
set_option maxRecDepth 20000 in
theorem TJ_X4_walk_158 {k93 : Int → HS → zO2} {v1 : Int} {v2 : Int} {v8 : Int} {v9 : Int} {t0 : Int} {S : HS} {r : Int} {S' : HS} {z : Zt} (hz : zO z cX4_walk RX4 3 shX) (hN : zN z 12) (hF : zFv z shX S') (hk93 : ∀ (w9 : Int) (S : HS), rng w9 → WR shX S → k93 w9 S = some (r, S') → zA z 93 [(0, aR 45), (1, aI v1), (2, aI v2), (8, aI v8), (9, aI w9)] [] S) (rv1 : rng v1) (rv2 : rng v2) (rv8 : rng v8) (rv9 : rng v9) (rt0 : rng t0) (hW : WR shX S) (h : J_X4_walk_158 k93 v1 v2 v8 v9 t0 S = some (r, S')) : zA z 158 [(0, aR 45), (1, aI v1), (2, aI v2), (8, aI v8), (9, aI v9)] [aI t0, aR 46] S := by
  unfold J_X4_walk_158 at h
  refine s_aload_n 0 hz dX4_walk_158 rfl ?_
  refine s_getR 0 hz fl_X4_29 sx45 rfl (by decide) dX4_walk_159 ?_
  refine s_iload_n 1 hz dX4_walk_162 rfl ?_
  refine s_iconst hz dX4_walk_163 ?_
  refine s_iadd hz dX4_walk_164 ?_
  refine s_iconst hz dX4_walk_165 ?_
  refine s_iload 4 hz dX4_walk_166 rfl ?_
  refine s_imul hz dX4_walk_168 ?_
  refine s_iadd hz dX4_walk_169 ?_
  obtain ⟨x25, ex25, rx25, h⟩ := zl_ex h
  rw [← ex25]
  obtain ⟨r26, S27, hc27, h⟩ := zb_of h
  refine s_callV [aI x25] [aI t0, aR 46] hz ml_X4_75 sv_yX7_codeAt (T_X7_codeAt rx25 hW hc27) (by decide) rfl sx42 rfl rfl (Nat.le_of_ble_eq_true rfl) dX4_walk_170 (fun rr26 hW27 => ?_)
  obtain ⟨r28, S29, hc29, h⟩ := zb_of h
  refine s_callVv [aI t0, aI r26] [] hz ml_X4_112 sv_yX10_go (T_X10_go rt0 rr26 hW27 hc29) (by decide) rfl sx46 rfl rfl (Nat.le_of_ble_eq_true rfl) dX4_walk_173 (fun hW29 => ?_)
  obtain ⟨x30, ex30, rx30, h⟩ := zl_ex h
  refine s_iinc (k0 := 4) (y := x30) (l' := [(9, aI x30), (0, aR 45), (1, aI v1), (2, aI v2), (8, aI v8)]) hz hN dX4_walk_176 rfl ex30.symm (by decide) rfl ?_
  refine s_goto 93 hz dX4_walk_179 rfl ?_
  refine s_pick (l' := [(0, aR 45), (1, aI v1), (2, aI v2), (8, aI v8), (9, aI x30)]) [1, 2, 3, 4, 0] rfl ?_
  exact hk93 _ _ rx30 hW29 h
def J_X4_walk_138 (k93 : Int → HS → zO2) (v1 : Int) (v2 : Int) (v8 : Int) (v9 : Int) (v10 : Int) (t0 : Int) (S : HS) : zO2 :=
  if t0 = 0 then (
    J_X4_walk_158 k93 v1 v2 v8 v9 v10 S)
  else (
    zl (5 - v10) fun x31 =>
    J_X4_walk_158 k93 v1 v2 v8 v9 x31 S)
set_option maxHeartbeats 4000000 in
set_option maxRecDepth 20000 in
theorem TJ_X4_walk_138 {k93 : Int → HS → zO2} {v1 : Int} {v2 : Int} {v8 : Int} {v9 : Int} {v10 : Int} {t0 : Int} {S : HS} {r : Int} {S' : HS} {z : Zt} (hz : zO z cX4_walk RX4 3 shX) (hN : zN z 12) (hF : zFv z shX S') (hk93 : ∀ (w9 : Int) (S : HS), rng w9 → WR shX S → k93 w9 S = some (r, S') → zA z 93 [(0, aR 45), (1, aI v1), (2, aI v2), (8, aI v8), (9, aI w9)] [] S) (rv1 : rng v1) (rv2 : rng v2) (rv8 : rng v8) (rv9 : rng v9) (rv10 : rng v10) (rt0 : rng t0) (hW : WR shX S) (h : J_X4_walk_138 k93 v1 v2 v8 v9 v10 t0 S = some (r, S')) : zA z 138 [(0, aR 45), (1, aI v1), (2, aI v2), (8, aI v8), (9, aI v9), (10, aI v10)] [aI t0] S := by
  unfold J_X4_walk_138 at h
  refine s_istore (l' := [(11, aI t0), (0, aR 45), (1, aI v1), (2, aI v2), (8, aI v8), (9, aI v9), (10, aI v10)]) hz hN dX4_walk_138 (by decide) rfl ?_
  refine s_aload_n 1 hz dX4_walk_140 rfl ?_
  refine s_getR 3 hz fl_X4_12 sx45 rfl (by decide) dX4_walk_141 ?_
  refine s_iload 0 hz dX4_walk_144 rfl ?_
  refine s_if_eq 156 hz rt0 dX4_walk_146 rfl (fun c24 => ?_) (fun c24 => ?_)
  · have h := zif_t c24 h
    refine s_iload 6 hz dX4_walk_156 rfl ?_
    refine s_pick (l' := [(0, aR 45), (1, aI v1), (2, aI v2), (8, aI v8), (9, aI v9)]) [1, 2, 3, 4, 5] rfl ?_
    exact TJ_X4_walk_158 hz hN hF hk93 rv1 rv2 rv8 rv9 rv10 hW h
  · have h := zif_f c24 h
    refine s_iconst hz dX4_walk_149 ?_
    refine s_iload 6 hz dX4_walk_150 rfl ?_
    refine s_isub hz dX4_walk_152 ?_
    refine s_goto 158 hz dX4_walk_153 rfl ?_
    obtain ⟨x31, ex31, rx31, h⟩ := zl_ex h
    rw [← ex31]
    refine s_pick (l' := [(0, aR 45), (1, aI v1), (2, aI v2), (8, aI v8), (9, aI v9)]) [1, 2, 3, 4, 5] rfl ?_
    exact TJ_X4_walk_158 hz hN hF hk93 rv1 rv2 rv8 rv9 rx31 hW h
def J_X4_walk_137 (k93 : Int → HS → zO2) (v1 : Int) (v2 : Int) (v8 : Int) (v9 : Int) (v10 : Int) (S : HS) : zO2 :=
  J_X4_walk_138 k93 v1 v2 v8 v9 v10 0 S
set_option maxHeartbeats 4000000 in
set_option maxRecDepth 20000 in
theorem TJ_X4_walk_137 {k93 : Int → HS → zO2} {v1 : Int} {v2 : Int} {v8 : Int} {v9 : Int} {v10 : Int} {S : HS} {r : Int} {S' : HS} {z : Zt} (hz : zO z cX4_walk RX4 3 shX) (hN : zN z 12) (hF : zFv z shX S') (hk93 : ∀ (w9 : Int) (S : HS), rng w9 → WR shX S → k93 w9 S = some (r, S') → zA z 93 [(0, aR 45), (1, aI v1), (2, aI v2), (8, aI v8), (9, aI w9)] [] S) (rv1 : rng v1) (rv2 : rng v2) (rv8 : rng v8) (rv9 : rng v9) (rv10 : rng v10) (hW : WR shX S) (h : J_X4_walk_137 k93 v1 v2 v8 v9 v10 S = some (r, S')) : zA z 137 [(0, aR 45), (1, aI v1), (2, aI v2), (8, aI v8), (9, aI v9), (10, aI v10)] [] S := by
  unfold J_X4_walk_137 at h
  refine s_iconst hz dX4_walk_137 ?_
  exact TJ_X4_walk_138 hz hN hF hk93 rv1 rv2 rv8 rv9 rv10 rl_0 hW h
def J_X4_walk_133 (k93 : Int → HS → zO2) (v1 : Int) (v2 : Int) (v8 : Int) (v9 : Int) (v10 : Int) (S : HS) : zO2 :=
  J_X4_walk_138 k93 v1 v2 v8 v9 v10 1 S
set_option maxHeartbeats 4000000 in
set_option maxRecDepth 20000 in
theorem TJ_X4_walk_133 {k93 : Int → HS → zO2} {v1 : Int} {v2 : Int} {v8 : Int} {v9 : Int} {v10 : Int} {S : HS} {r : Int} {S' : HS} {z : Zt} (hz : zO z cX4_walk RX4 3 shX) (hN : zN z 12) (hF : zFv z shX S') (hk93 : ∀ (w9 : Int) (S : HS), rng w9 → WR shX S → k93 w9 S = some (r, S') → zA z 93 [(0, aR 45), (1, aI v1), (2, aI v2), (8, aI v8), (9, aI w9)] [] S) (rv1 : rng v1) (rv2 : rng v2) (rv8 : rng v8) (rv9 : rng v9) (rv10 : rng v10) (hW : WR shX S) (h : J_X4_walk_133 k93 v1 v2 v8 v9 v10 S = some (r, S')) : zA z 133 [(0, aR 45), (1, aI v1), (2, aI v2), (8, aI v8), (9, aI v9), (10, aI v10)] [] S := by
  unfold J_X4_walk_133 at h
  refine s_iconst hz dX4_walk_133 ?_
  refine s_goto 138 hz dX4_walk_134 rfl ?_
  exact TJ_X4_walk_138 hz hN hF hk93 rv1 rv2 rv8 rv9 rv10 rl_1 hW h
def L_X4_walk_93 (p1 : Int) (p2 : Int) (p8 : Int) : Nat → Int → HS → zO2
  | 0, _, _ => none
  | n + 1, v9, S => 
    if p8 ≤ v9 then (
      some (0, S))
    else (
      zl ((p1 + 4) + (2 * v9)) fun x20 =>
      zb (M_X7_codeAt x20 S) fun r21 S22 =>
      if 0 ≤ p2 then (
        J_X4_walk_137 (L_X4_walk_93 p1 p2 p8 n) p1 p2 p8 v9 r21 S22)
      else (
        if r21 = 2 then (
          J_X4_walk_133 (L_X4_walk_93 p1 p2 p8 n) p1 p2 p8 v9 r21 S22)
        else (
          if r21 = 3 then (
            J_X4_walk_133 (L_X4_walk_93 p1 p2 p8 n) p1 p2 p8 v9 r21 S22)
          else (
            J_X4_walk_137 (L_X4_walk_93 p1 p2 p8 n) p1 p2 p8 v9 r21 S22))))
set_option maxHeartbeats 4000000 in
set_option maxRecDepth 20000 in
theorem TL_X4_walk_93 {p1 : Int} {p2 : Int} {p8 : Int} {r : Int} {S' : HS} {z : Zt} (hz : zO z cX4_walk RX4 3 shX) (hN : zN z 12) (hF : zFv z shX S') (rp1 : rng p1) (rp2 : rng p2) (rp8 : rng p8) : ∀ (n : Nat) {v9 : Int} {S : HS}, rng v9 → WR shX S → L_X4_walk_93 p1 p2 p8 n v9 S = some (r, S') → zA z 93 [(0, aR 45), (1, aI p1), (2, aI p2), (8, aI p8), (9, aI v9)] [] S := by
  intro n
  induction n with
  | zero =>
    intro _ _ _ _ h
    cases h
  | succ n ih =>
    intro v9 S rv9 hW h
    rw [L_X4_walk_93.eq_2] at h
    refine s_iload 4 hz dX4_walk_93 rfl ?_
    refine s_iload 3 hz dX4_walk_95 rfl ?_
    refine s_icmp_ge 182 hz rv9 rp8 dX4_walk_97 rfl (fun c19 => ?_) (fun c19 => ?_)
    · have h := zif_t c19 h
      exact s_vret h hz hF hW dX4_walk_182
    · have h := zif_f c19 h
      refine s_aload_n 0 hz dX4_walk_100 rfl ?_
      refine s_getR 0 hz fl_X4_29 sx45 rfl (by decide) dX4_walk_101 ?_
      refine s_iload_n 1 hz dX4_walk_104 rfl ?_
      refine s_iconst hz dX4_walk_105 ?_
      refine s_iadd hz dX4_walk_106 ?_
      refine s_iconst hz dX4_walk_107 ?_
      refine s_iload 4 hz dX4_walk_108 rfl ?_
      refine s_imul hz dX4_walk_110 ?_
      refine s_iadd hz dX4_walk_111 ?_
      obtain ⟨x20, ex20, rx20, h⟩ := zl_ex h
      rw [← ex20]
      obtain ⟨r21, S22, hc22, h⟩ := zb_of h
      refine s_callV [aI x20] [] hz ml_X4_75 sv_yX7_codeAt (T_X7_codeAt rx20 hW hc22) (by decide) rfl sx42 rfl rfl (Nat.le_of_ble_eq_true rfl) dX4_walk_112 (fun rr21 hW22 => ?_)
      refine s_istore (l' := [(10, aI r21), (0, aR 45), (1, aI p1), (2, aI p2), (8, aI p8), (9, aI v9)]) hz hN dX4_walk_115 (by decide) rfl ?_
      refine s_iload_n 3 hz dX4_walk_117 rfl ?_
      refine s_if_ge 137 hz rp2 dX4_walk_118 rfl (fun c23 => ?_) (fun c23 => ?_)
      · have h := zif_t c23 h
        refine s_pick (l' := [(0, aR 45), (1, aI p1), (2, aI p2), (8, aI p8), (9, aI v9), (10, aI r21)]) [1, 2, 3, 4, 5, 0] rfl ?_
        exact TJ_X4_walk_137 hz hN hF (fun _ _ => ih) rp1 rp2 rp8 rv9 rr21 hW22 h
      · have h := zif_f c23 h
        refine s_iload 0 hz dX4_walk_121 rfl ?_
        refine s_iconst hz dX4_walk_123 ?_
        refine s_icmp_eq 133 hz rr21 rl_2 dX4_walk_124 rfl (fun c32 => ?_) (fun c32 => ?_)
        · have h := zif_t c32 h
          refine s_pick (l' := [(0, aR 45), (1, aI p1), (2, aI p2), (8, aI p8), (9, aI v9), (10, aI r21)]) [1, 2, 3, 4, 5, 0] rfl ?_
          exact TJ_X4_walk_133 hz hN hF (fun _ _ => ih) rp1 rp2 rp8 rv9 rr21 hW22 h
        · have h := zif_f c32 h
          refine s_iload 0 hz dX4_walk_127 rfl ?_
          refine s_iconst hz dX4_walk_129 ?_
          refine s_icmp_ne 137 hz rr21 rl_3 dX4_walk_130 rfl (fun c33 => ?_) (fun c33 => ?_)
          · have h := zif_f c33 h
            refine s_pick (l' := [(0, aR 45), (1, aI p1), (2, aI p2), (8, aI p8), (9, aI v9), (10, aI r21)]) [1, 2, 3, 4, 5, 0] rfl ?_
            exact TJ_X4_walk_137 hz hN hF (fun _ _ => ih) rp1 rp2 rp8 rv9 rr21 hW22 h
          · have h := zif_t c33 h
            refine s_pick (l' := [(0, aR 45), (1, aI p1), (2, aI p2), (8, aI p8), (9, aI v9), (10, aI r21)]) [1, 2, 3, 4, 5, 0] rfl ?_
            exact TJ_X4_walk_133 hz hN hF (fun _ _ => ih) rp1 rp2 rp8 rv9 rr21 hW22 h
def J_X4_walk_49 (v1 : Int) (v2 : Int) (v4 : Int) (v5 : Int) (v6 : Int) (t0 : Int) (S : HS) : zO2 :=
  zl (v1 + 2) fun x9 =>
  zb (M_X7_codeAt x9 S) fun r10 S11 =>
  zl (v4 + r10) fun x12 =>
  zl (v6 - t0) fun x13 =>
  zb (M_X10_begin v5 x13 x12 S11) fun _ S15 =>
  zl (v1 + 3) fun x16 =>
  zb (M_X7_codeAt x16 S15) fun r17 S18 =>
  L_X4_walk_93 v1 v2 r17 zBig 0 S18
set_option maxHeartbeats 4000000 in
set_option maxRecDepth 20000 in
theorem TJ_X4_walk_49 {v1 : Int} {v2 : Int} {v4 : Int} {v5 : Int} {v6 : Int} {t0 : Int} {S : HS} {r : Int} {S' : HS} {z : Zt} (hz : zO z cX4_walk RX4 3 shX) (hN : zN z 12) (hF : zFv z shX S') (rv1 : rng v1) (rv2 : rng v2) (rv4 : rng v4) (rv5 : rng v5) (rv6 : rng v6) (rt0 : rng t0) (hW : WR shX S) (h : J_X4_walk_49 v1 v2 v4 v5 v6 t0 S = some (r, S')) : zA z 49 [(0, aR 45), (1, aI v1), (2, aI v2), (4, aI v4), (5, aI v5), (6, aI v6)] [aI t0] S := by
  unfold J_X4_walk_49 at h
  refine s_istore (l' := [(7, aI t0), (0, aR 45), (1, aI v1), (2, aI v2), (4, aI v4), (5, aI v5), (6, aI v6)]) hz hN dX4_walk_49 (by decide) rfl ?_
  refine s_aload_n 1 hz dX4_walk_51 rfl ?_
  refine s_getR 3 hz fl_X4_12 sx45 rfl (by decide) dX4_walk_52 ?_
  refine s_iload 5 hz dX4_walk_55 rfl ?_
  refine s_iload 6 hz dX4_walk_57 rfl ?_
  refine s_iload 0 hz dX4_walk_59 rfl ?_
  refine s_isub hz dX4_walk_61 ?_
  refine s_iload 4 hz dX4_walk_62 rfl ?_
  refine s_aload_n 1 hz dX4_walk_64 rfl ?_
  refine s_getR 0 hz fl_X4_29 sx45 rfl (by decide) dX4_walk_65 ?_
  refine s_iload_n 2 hz dX4_walk_68 rfl ?_
  refine s_iconst hz dX4_walk_69 ?_
  refine s_iadd hz dX4_walk_70 ?_
  obtain ⟨x9, ex9, rx9, h⟩ := zl_ex h
  rw [← ex9]
  obtain ⟨r10, S11, hc11, h⟩ := zb_of h
  refine s_callV [aI x9] [aI v4, aI (v6 - t0), aI v5, aR 46] hz ml_X4_75 sv_yX7_codeAt (T_X7_codeAt rx9 hW hc11) (by decide) rfl sx42 rfl rfl (Nat.le_of_ble_eq_true rfl) dX4_walk_71 (fun rr10 hW11 => ?_)
  refine s_iadd hz dX4_walk_74 ?_
  obtain ⟨x12, ex12, rx12, h⟩ := zl_ex h
  rw [← ex12]
  obtain ⟨x13, ex13, rx13, h⟩ := zl_ex h
  rw [← ex13]
  obtain ⟨r14, S15, hc15, h⟩ := zb_of h
  refine s_callVv [aI v5, aI x13, aI x12] [] hz ml_X4_108 sv_yX10_begin (T_X10_begin rv5 rx13 rx12 hW11 hc15) (by decide) rfl sx46 rfl rfl (Nat.le_of_ble_eq_true rfl) dX4_walk_75 (fun hW15 => ?_)
  refine s_aload_n 1 hz dX4_walk_78 rfl ?_
  refine s_getR 0 hz fl_X4_29 sx45 rfl (by decide) dX4_walk_79 ?_
  refine s_iload_n 2 hz dX4_walk_82 rfl ?_
  refine s_iconst hz dX4_walk_83 ?_
  refine s_iadd hz dX4_walk_84 ?_
  obtain ⟨x16, ex16, rx16, h⟩ := zl_ex h
  rw [← ex16]
  obtain ⟨r17, S18, hc18, h⟩ := zb_of h
  refine s_callV [aI x16] [] hz ml_X4_75 sv_yX7_codeAt (T_X7_codeAt rx16 hW15 hc18) (by decide) rfl sx42 rfl rfl (Nat.le_of_ble_eq_true rfl) dX4_walk_85 (fun rr17 hW18 => ?_)
  refine s_istore (l' := [(8, aI r17), (7, aI t0), (0, aR 45), (1, aI v1), (2, aI v2), (4, aI v4), (5, aI v5), (6, aI v6)]) hz hN dX4_walk_88 (by decide) rfl ?_
  refine s_iconst hz dX4_walk_90 ?_
  refine s_istore (l' := [(9, aI 0), (8, aI r17), (7, aI t0), (0, aR 45), (1, aI v1), (2, aI v2), (4, aI v4), (5, aI v5), (6, aI v6)]) hz hN dX4_walk_91 (by decide) rfl ?_
  refine s_pick (l' := [(0, aR 45), (1, aI v1), (2, aI v2), (8, aI r17), (9, aI 0)]) [3, 4, 5, 1, 0] rfl ?_
  exact TL_X4_walk_93 hz hN hF rv1 rv2 rr17 zBig rl_0 hW18 h
def J_X4_walk_48 (v1 : Int) (v2 : Int) (v4 : Int) (v5 : Int) (v6 : Int) (S : HS) : zO2 :=
  J_X4_walk_49 v1 v2 v4 v5 v6 0 S
set_option maxHeartbeats 4000000 in
set_option maxRecDepth 20000 in
theorem TJ_X4_walk_48 {v1 : Int} {v2 : Int} {v4 : Int} {v5 : Int} {v6 : Int} {S : HS} {r : Int} {S' : HS} {z : Zt} (hz : zO z cX4_walk RX4 3 shX) (hN : zN z 12) (hF : zFv z shX S') (rv1 : rng v1) (rv2 : rng v2) (rv4 : rng v4) (rv5 : rng v5) (rv6 : rng v6) (hW : WR shX S) (h : J_X4_walk_48 v1 v2 v4 v5 v6 S = some (r, S')) : zA z 48 [(0, aR 45), (1, aI v1), (2, aI v2), (4, aI v4), (5, aI v5), (6, aI v6)] [] S := by
  unfold J_X4_walk_48 at h
  refine s_iconst hz dX4_walk_48 ?_
  exact TJ_X4_walk_49 hz hN hF rv1 rv2 rv4 rv5 rv6 rl_0 hW h
def J_X4_walk_17 (v1 : Int) (v2 : Int) (v3 : Int) (v4 : Int) (t0 : Int) (S : HS) : zO2 :=
  zl (v1 + 1) fun x4 =>
  zb (M_X7_codeAt x4 S) fun r5 S6 =>
  zl (v3 + (v2 * r5)) fun x7 =>
  if t0 = 0 then (
    J_X4_walk_48 v1 v2 v4 t0 x7 S6)
  else (
    if 0 ≤ v2 then (
      J_X4_walk_48 v1 v2 v4 t0 x7 S6)
    else (
      J_X4_walk_49 v1 v2 v4 t0 x7 1 S6))
set_option maxHeartbeats 4000000 in
set_option maxRecDepth 20000 in
theorem TJ_X4_walk_17 {v1 : Int} {v2 : Int} {v3 : Int} {v4 : Int} {t0 : Int} {S : HS} {r : Int} {S' : HS} {z : Zt} (hz : zO z cX4_walk RX4 3 shX) (hN : zN z 12) (hF : zFv z shX S') (rv1 : rng v1) (rv2 : rng v2) (rv3 : rng v3) (rv4 : rng v4) (rt0 : rng t0) (hW : WR shX S) (h : J_X4_walk_17 v1 v2 v3 v4 t0 S = some (r, S')) : zA z 17 [(0, aR 45), (1, aI v1), (2, aI v2), (3, aI v3), (4, aI v4)] [aI t0] S := by
  unfold J_X4_walk_17 at h
  refine s_istore (l' := [(5, aI t0), (0, aR 45), (1, aI v1), (2, aI v2), (3, aI v3), (4, aI v4)]) hz hN dX4_walk_17 (by decide) rfl ?_
  refine s_iload_n 4 hz dX4_walk_19 rfl ?_
  refine s_iload_n 3 hz dX4_walk_20 rfl ?_
  refine s_aload_n 1 hz dX4_walk_21 rfl ?_
  refine s_getR 0 hz fl_X4_29 sx45 rfl (by decide) dX4_walk_22 ?_
  refine s_iload_n 2 hz dX4_walk_25 rfl ?_
  refine s_iconst hz dX4_walk_26 ?_
  refine s_iadd hz dX4_walk_27 ?_
  obtain ⟨x4, ex4, rx4, h⟩ := zl_ex h
  rw [← ex4]
  obtain ⟨r5, S6, hc6, h⟩ := zb_of h
  refine s_callV [aI x4] [aI v2, aI v3] hz ml_X4_75 sv_yX7_codeAt (T_X7_codeAt rx4 hW hc6) (by decide) rfl sx42 rfl rfl (Nat.le_of_ble_eq_true rfl) dX4_walk_28 (fun rr5 hW6 => ?_)
  refine s_imul hz dX4_walk_31 ?_
  refine s_iadd hz dX4_walk_32 ?_
  obtain ⟨x7, ex7, rx7, h⟩ := zl_ex h
  rw [← ex7]
  refine s_istore (l' := [(6, aI x7), (5, aI t0), (0, aR 45), (1, aI v1), (2, aI v2), (3, aI v3), (4, aI v4)]) hz hN dX4_walk_33 (by decide) rfl ?_
  refine s_iload 1 hz dX4_walk_35 rfl ?_
  refine s_if_eq 48 hz rt0 dX4_walk_37 rfl (fun c8 => ?_) (fun c8 => ?_)
  · have h := zif_t c8 h
    refine s_pick (l' := [(0, aR 45), (1, aI v1), (2, aI v2), (4, aI v4), (5, aI t0), (6, aI x7)]) [2, 3, 4, 6, 1, 0] rfl ?_
    exact TJ_X4_walk_48 hz hN hF rv1 rv2 rv4 rt0 rx7 hW6 h
  · have h := zif_f c8 h
    refine s_iload_n 4 hz dX4_walk_40 rfl ?_
    refine s_if_ge 48 hz rv2 dX4_walk_41 rfl (fun c34 => ?_) (fun c34 => ?_)
    · have h := zif_t c34 h
      refine s_pick (l' := [(0, aR 45), (1, aI v1), (2, aI v2), (4, aI v4), (5, aI t0), (6, aI x7)]) [2, 3, 4, 6, 1, 0] rfl ?_
      exact TJ_X4_walk_48 hz hN hF rv1 rv2 rv4 rt0 rx7 hW6 h
    · have h := zif_f c34 h
      refine s_iconst hz dX4_walk_44 ?_
      refine s_goto 49 hz dX4_walk_45 rfl ?_
      refine s_pick (l' := [(0, aR 45), (1, aI v1), (2, aI v2), (4, aI v4), (5, aI t0), (6, aI x7)]) [2, 3, 4, 6, 1, 0] rfl ?_
      exact TJ_X4_walk_49 hz hN hF rv1 rv2 rv4 rt0 rx7 rl_1 hW6 h
def M_X4_walk (a1 : Int) (a2 : Int) (a3 : Int) (a4 : Int) (S : HS) : zO2 :=
  zb (M_X7_codeAt a1 S) fun r1 S2 =>
  if r1 = 5 then (
    J_X4_walk_17 a1 a2 a3 a4 1 S2)
  else (
    J_X4_walk_17 a1 a2 a3 a4 0 S2)
set_option maxHeartbeats 4000000 in
set_option maxRecDepth 20000 in
theorem T_X4_walk {a1 : Int} {a2 : Int} {a3 : Int} {a4 : Int} {S S' : HS} {r : Int} (ra1 : rng a1) (ra2 : rng a2) (ra3 : rng a3) (ra4 : rng a4) (hW : WR shX S) (h : M_X4_walk a1 a2 a3 a4 S = some (r, S')) : zV shX yX4_walk cX4_walk 12 3 [aR 45, aI a1, aI a2, aI a3, aI a4] S S' := by
  refine zV_of (by decide +kernel) (Nat.le_of_ble_eq_true rfl) (fun z hz hN hF => ?_)
  have hz : zO z cX4_walk RX4 3 shX := hz
  show zA z 0 [(0, aR 45), (1, aI a1), (2, aI a2), (3, aI a3), (4, aI a4)] [] S
  unfold M_X4_walk at h
  refine s_aload_n 0 hz dX4_walk_0 rfl ?_
  refine s_getR 0 hz fl_X4_29 sx45 rfl (by decide) dX4_walk_1 ?_
  refine s_iload_n 1 hz dX4_walk_4 rfl ?_
  obtain ⟨r1, S2, hc2, h⟩ := zb_of h
  refine s_callV [aI a1] [] hz ml_X4_75 sv_yX7_codeAt (T_X7_codeAt ra1 hW hc2) (by decide) rfl sx42 rfl rfl (Nat.le_of_ble_eq_true rfl) dX4_walk_5 (fun rr1 hW2 => ?_)
  refine s_iconst hz dX4_walk_8 ?_
  refine s_icmp_ne 16 hz rr1 rl_5 dX4_walk_9 rfl (fun c3 => ?_) (fun c3 => ?_)
  · have h := zif_f c3 h
    refine s_iconst hz dX4_walk_16 ?_
    exact TJ_X4_walk_17 hz hN hF ra1 ra2 ra3 ra4 rl_0 hW2 h
  · have h := zif_t c3 h
    refine s_iconst hz dX4_walk_12 ?_
    refine s_goto 17 hz dX4_walk_13 rfl ?_
    exact TJ_X4_walk_17 hz hN hF ra1 ra2 ra3 ra4 rl_1 hW2 h
def M_X10_pointAt (a1 : Int) (S : HS) : zO2 :=
  if a1 < 0 then (
    some ((-1), S))
  else (
    if S 46 7 ≤ a1 then (
      some ((-1), S))
    else (
      if 413 ≤ a1 then (
        some ((-1), S))
      else (
        zg ((0 : Int) ≤ a1 ∧ a1 < 413) <|
        some (S 47 a1, S))))
set_option maxHeartbeats 4000000 in
set_option maxRecDepth 20000 in
theorem T_X10_pointAt {a1 : Int} {S S' : HS} {r : Int} (ra1 : rng a1) (hW : WR shX S) (h : M_X10_pointAt a1 S = some (r, S')) : zR shX yX10_pointAt cX10_pointAt 2  .int 1 [aR 46, aI a1] S r S' := by
  refine zR_of (by decide +kernel) (Nat.le_of_ble_eq_true rfl) (fun z hz hN hF => ?_)
  have hz : zO z cX10_pointAt RX10 1 shX := hz
  show zA z 0 [(0, aR 46), (1, aI a1)] [] S
  unfold M_X10_pointAt at h
  refine s_iload_n 1 hz dX10_pointAt_0 rfl ?_
  refine s_if_lt 30 hz ra1 dX10_pointAt_1 rfl (fun c1 => ?_) (fun c1 => ?_)
  · have h := zif_t c1 h
    refine s_iconst hz dX10_pointAt_30 ?_
    exact s_iret h hz hF rl_m1 hW dX10_pointAt_31
  · have h := zif_f c1 h
    refine s_iload_n 1 hz dX10_pointAt_4 rfl ?_
    refine s_aload_n 0 hz dX10_pointAt_5 rfl ?_
    refine s_getI (kz := 7) 7 hz fl_X10_34 sx46 rfl rfl dX10_pointAt_6 ?_
    refine s_icmp_ge 30 hz ra1 (hW 46 _ sx46 7) dX10_pointAt_9 rfl (fun c2 => ?_) (fun c2 => ?_)
    · have h := zif_t c2 h
      refine s_iconst hz dX10_pointAt_30 ?_
      exact s_iret h hz hF rl_m1 hW dX10_pointAt_31
    · have h := zif_f c2 h
      refine s_iload_n 1 hz dX10_pointAt_12 rfl ?_
      refine s_aload_n 0 hz dX10_pointAt_13 rfl ?_
      refine s_getR 0 hz fl_X10_9 sx46 rfl (by decide) dX10_pointAt_14 ?_
      refine s_alen hz sx47 (by decide) rfl dX10_pointAt_17 ?_
      refine s_icmp_ge 30 hz ra1 rl_413 dX10_pointAt_18 rfl (fun c3 => ?_) (fun c3 => ?_)
      · have h := zif_t c3 h
        refine s_iconst hz dX10_pointAt_30 ?_
        exact s_iret h hz hF rl_m1 hW dX10_pointAt_31
      · have h := zif_f c3 h
        refine s_aload_n 0 hz dX10_pointAt_21 rfl ?_
        refine s_getR 0 hz fl_X10_9 sx46 rfl (by decide) dX10_pointAt_22 ?_
        refine s_iload_n 1 hz dX10_pointAt_25 rfl ?_
        obtain ⟨g4, h⟩ := zg_of h
        refine s_iald hz sx47 rfl (by decide) g4 dX10_pointAt_26 ?_
        refine s_goto 31 hz dX10_pointAt_27 rfl ?_
        exact s_iret h hz hF (hW 47 _ sx47 a1) hW dX10_pointAt_31
def M_X10_wayAt (a1 : Int) (S : HS) : zO2 :=
  if a1 < 0 then (
    some ((-1), S))
  else (
    if S 46 7 ≤ a1 then (
      some ((-1), S))
    else (
      if 413 ≤ a1 then (
        some ((-1), S))
      else (
        zg ((0 : Int) ≤ a1 ∧ a1 < 413) <|
        some (S 48 a1, S))))
set_option maxHeartbeats 4000000 in
set_option maxRecDepth 20000 in
theorem T_X10_wayAt {a1 : Int} {S S' : HS} {r : Int} (ra1 : rng a1) (hW : WR shX S) (h : M_X10_wayAt a1 S = some (r, S')) : zR shX yX10_wayAt cX10_wayAt 2  .int 1 [aR 46, aI a1] S r S' := by
  refine zR_of (by decide +kernel) (Nat.le_of_ble_eq_true rfl) (fun z hz hN hF => ?_)
  have hz : zO z cX10_wayAt RX10 1 shX := hz
  show zA z 0 [(0, aR 46), (1, aI a1)] [] S
  unfold M_X10_wayAt at h
  refine s_iload_n 1 hz dX10_wayAt_0 rfl ?_
  refine s_if_lt 30 hz ra1 dX10_wayAt_1 rfl (fun c1 => ?_) (fun c1 => ?_)
  · have h := zif_t c1 h
    refine s_iconst hz dX10_wayAt_30 ?_
    exact s_iret h hz hF rl_m1 hW dX10_wayAt_31
  · have h := zif_f c1 h
    refine s_iload_n 1 hz dX10_wayAt_4 rfl ?_
    refine s_aload_n 0 hz dX10_wayAt_5 rfl ?_
    refine s_getI (kz := 7) 7 hz fl_X10_34 sx46 rfl rfl dX10_wayAt_6 ?_
    refine s_icmp_ge 30 hz ra1 (hW 46 _ sx46 7) dX10_wayAt_9 rfl (fun c2 => ?_) (fun c2 => ?_)
    · have h := zif_t c2 h
      refine s_iconst hz dX10_wayAt_30 ?_
      exact s_iret h hz hF rl_m1 hW dX10_wayAt_31
    · have h := zif_f c2 h
      refine s_iload_n 1 hz dX10_wayAt_12 rfl ?_
      refine s_aload_n 0 hz dX10_wayAt_13 rfl ?_
      refine s_getR 1 hz fl_X10_15 sx46 rfl (by decide) dX10_wayAt_14 ?_
      refine s_alen hz sx48 (by decide) rfl dX10_wayAt_17 ?_
      refine s_icmp_ge 30 hz ra1 rl_413 dX10_wayAt_18 rfl (fun c3 => ?_) (fun c3 => ?_)
      · have h := zif_t c3 h
        refine s_iconst hz dX10_wayAt_30 ?_
        exact s_iret h hz hF rl_m1 hW dX10_wayAt_31
      · have h := zif_f c3 h
        refine s_aload_n 0 hz dX10_wayAt_21 rfl ?_
        refine s_getR 1 hz fl_X10_15 sx46 rfl (by decide) dX10_wayAt_22 ?_
        refine s_iload_n 1 hz dX10_wayAt_25 rfl ?_
        obtain ⟨g4, h⟩ := zg_of h
        refine s_iald hz sx48 rfl (by decide) g4 dX10_wayAt_26 ?_
        refine s_goto 31 hz dX10_wayAt_27 rfl ?_
        exact s_iret h hz hF (hW 48 _ sx48 a1) hW dX10_wayAt_31
def J_X5_sideFromCorner_62 (v1 : Int) (v2 : Int) (v3 : Int) (S : HS) : zO2 :=
  if v1 = 3 then (
    if 16 ≤ v2 then (
      some ((-1), S))
    else (
      zl ((16 * v3) + v2) fun x10 =>
      some (x10, S)))
  else (
    some ((-1), S))
set_option maxHeartbeats 4000000 in
set_option maxRecDepth 20000 in
theorem TJ_X5_sideFromCorner_62 {v1 : Int} {v2 : Int} {v3 : Int} {S : HS} {r : Int} {S' : HS} {z : Zt} (hz : zO z cX5_sideFromCorner RX5 1 shX) (hN : zN z 4) (hF : zFi z shX .int r S') (rv1 : rng v1) (rv2 : rng v2) (rv3 : rng v3) (hW : WR shX S) (h : J_X5_sideFromCorner_62 v1 v2 v3 S = some (r, S')) : zA z 62 [(1, aI v1), (2, aI v2), (3, aI v3)] [] S := by
  unfold J_X5_sideFromCorner_62 at h
  refine s_iload_n 0 hz dX5_sideFromCorner_62 rfl ?_
  refine s_iconst hz dX5_sideFromCorner_63 ?_
  refine s_icmp_ne 82 hz rv1 rl_3 dX5_sideFromCorner_64 rfl (fun c8 => ?_) (fun c8 => ?_)
  · have h := zif_f c8 h
    refine s_iconst hz dX5_sideFromCorner_82 ?_
    exact s_iret h hz hF rl_m1 hW dX5_sideFromCorner_83
  · have h := zif_t c8 h
    refine s_iload_n 1 hz dX5_sideFromCorner_67 rfl ?_
    refine s_bipush hz dX5_sideFromCorner_68 bp_16 ?_
    refine s_icmp_ge 82 hz rv2 rl_16 dX5_sideFromCorner_70 rfl (fun c9 => ?_) (fun c9 => ?_)
    · have h := zif_t c9 h
      refine s_iconst hz dX5_sideFromCorner_82 ?_
      exact s_iret h hz hF rl_m1 hW dX5_sideFromCorner_83
    · have h := zif_f c9 h
      refine s_bipush hz dX5_sideFromCorner_73 bp_16 ?_
      refine s_iload_n 2 hz dX5_sideFromCorner_75 rfl ?_
      refine s_imul hz dX5_sideFromCorner_76 ?_
      refine s_iload_n 1 hz dX5_sideFromCorner_77 rfl ?_
      refine s_iadd hz dX5_sideFromCorner_78 ?_
      refine s_goto 83 hz dX5_sideFromCorner_79 rfl ?_
      obtain ⟨x10, ex10, rx10, h⟩ := zl_ex h
      rw [← ex10]
      exact s_iret h hz hF rx10 hW dX5_sideFromCorner_83
def J_X5_sideFromCorner_44 (v1 : Int) (v2 : Int) (v3 : Int) (S : HS) : zO2 :=
  if v1 = 2 then (
    if v2 ≤ 0 then (
      J_X5_sideFromCorner_62 v1 v2 v3 S)
    else (
      zl (((16 * v3) + v2) - 1) fun x12 =>
      some (x12, S)))
  else (
    J_X5_sideFromCorner_62 v1 v2 v3 S)
set_option maxHeartbeats 4000000 in
set_option maxRecDepth 20000 in
theorem TJ_X5_sideFromCorner_44 {v1 : Int} {v2 : Int} {v3 : Int} {S : HS} {r : Int} {S' : HS} {z : Zt} (hz : zO z cX5_sideFromCorner RX5 1 shX) (hN : zN z 4) (hF : zFi z shX .int r S') (rv1 : rng v1) (rv2 : rng v2) (rv3 : rng v3) (hW : WR shX S) (h : J_X5_sideFromCorner_44 v1 v2 v3 S = some (r, S')) : zA z 44 [(1, aI v1), (2, aI v2), (3, aI v3)] [] S := by
  unfold J_X5_sideFromCorner_44 at h
  refine s_iload_n 0 hz dX5_sideFromCorner_44 rfl ?_
  refine s_iconst hz dX5_sideFromCorner_45 ?_
  refine s_icmp_ne 62 hz rv1 rl_2 dX5_sideFromCorner_46 rfl (fun c7 => ?_) (fun c7 => ?_)
  · have h := zif_f c7 h
    exact TJ_X5_sideFromCorner_62 hz hN hF rv1 rv2 rv3 hW h
  · have h := zif_t c7 h
    refine s_iload_n 1 hz dX5_sideFromCorner_49 rfl ?_
    refine s_if_le 62 hz rv2 dX5_sideFromCorner_50 rfl (fun c11 => ?_) (fun c11 => ?_)
    · have h := zif_t c11 h
      exact TJ_X5_sideFromCorner_62 hz hN hF rv1 rv2 rv3 hW h
    · have h := zif_f c11 h
      refine s_bipush hz dX5_sideFromCorner_53 bp_16 ?_
      refine s_iload_n 2 hz dX5_sideFromCorner_55 rfl ?_
      refine s_imul hz dX5_sideFromCorner_56 ?_
      refine s_iload_n 1 hz dX5_sideFromCorner_57 rfl ?_
      refine s_iadd hz dX5_sideFromCorner_58 ?_
      refine s_iconst hz dX5_sideFromCorner_59 ?_
      refine s_isub hz dX5_sideFromCorner_60 ?_
      obtain ⟨x12, ex12, rx12, h⟩ := zl_ex h
      rw [← ex12]
      exact s_iret h hz hF rx12 hW dX5_sideFromCorner_61
def J_X5_sideFromCorner_27 (v0 : Int) (v1 : Int) (v2 : Int) (v3 : Int) (S : HS) : zO2 :=
  if v1 = 1 then (
    if 12 ≤ v3 then (
      J_X5_sideFromCorner_44 v1 v2 v3 S)
    else (
      zl (208 + v0) fun x14 =>
      some (x14, S)))
  else (
    J_X5_sideFromCorner_44 v1 v2 v3 S)
set_option maxHeartbeats 4000000 in
set_option maxRecDepth 20000 in
theorem TJ_X5_sideFromCorner_27 {v0 : Int} {v1 : Int} {v2 : Int} {v3 : Int} {S : HS} {r : Int} {S' : HS} {z : Zt} (hz : zO z cX5_sideFromCorner RX5 1 shX) (hN : zN z 4) (hF : zFi z shX .int r S') (rv0 : rng v0) (rv1 : rng v1) (rv2 : rng v2) (rv3 : rng v3) (hW : WR shX S) (h : J_X5_sideFromCorner_27 v0 v1 v2 v3 S = some (r, S')) : zA z 27 [(0, aI v0), (1, aI v1), (2, aI v2), (3, aI v3)] [] S := by
  unfold J_X5_sideFromCorner_27 at h
  refine s_iload_n 1 hz dX5_sideFromCorner_27 rfl ?_
  refine s_iconst hz dX5_sideFromCorner_28 ?_
  refine s_icmp_ne 44 hz rv1 rl_1 dX5_sideFromCorner_29 rfl (fun c6 => ?_) (fun c6 => ?_)
  · have h := zif_f c6 h
    refine s_pick (l' := [(1, aI v1), (2, aI v2), (3, aI v3)]) [1, 2, 3] rfl ?_
    exact TJ_X5_sideFromCorner_44 hz hN hF rv1 rv2 rv3 hW h
  · have h := zif_t c6 h
    refine s_iload_n 3 hz dX5_sideFromCorner_32 rfl ?_
    refine s_bipush hz dX5_sideFromCorner_33 bp_12 ?_
    refine s_icmp_ge 44 hz rv3 rl_12 dX5_sideFromCorner_35 rfl (fun c13 => ?_) (fun c13 => ?_)
    · have h := zif_t c13 h
      refine s_pick (l' := [(1, aI v1), (2, aI v2), (3, aI v3)]) [1, 2, 3] rfl ?_
      exact TJ_X5_sideFromCorner_44 hz hN hF rv1 rv2 rv3 hW h
    · have h := zif_f c13 h
      refine s_sipush hz dX5_sideFromCorner_38 sp_208 ?_
      refine s_iload_n 0 hz dX5_sideFromCorner_41 rfl ?_
      refine s_iadd hz dX5_sideFromCorner_42 ?_
      obtain ⟨x14, ex14, rx14, h⟩ := zl_ex h
      rw [← ex14]
      exact s_iret h hz hF rx14 hW dX5_sideFromCorner_43
def M_X5_sideFromCorner (a1 : Int) (a2 : Int) (S : HS) : zO2 :=
  zg ((0 : Int) ≤ a1 ∧ (0 : Int) < 17) <|
  zl (a1 % 17) fun x2 =>
  zg ((0 : Int) ≤ a1 ∧ (0 : Int) < 17) <|
  zl (a1 / 17) fun x4 =>
  if a2 = 0 then (
    if x4 ≤ 0 then (
      J_X5_sideFromCorner_27 a1 a2 x2 x4 S)
    else (
      zl ((208 + a1) - 17) fun x16 =>
      some (x16, S)))
  else (
    J_X5_sideFromCorner_27 a1 a2 x2 x4 S)
set_option maxHeartbeats 4000000 in
set_option maxRecDepth 20000 in
theorem T_X5_sideFromCorner {a1 : Int} {a2 : Int} {S S' : HS} {r : Int} (ra1 : rng a1) (ra2 : rng a2) (hW : WR shX S) (h : M_X5_sideFromCorner a1 a2 S = some (r, S')) : zR shX yX5_sideFromCorner cX5_sideFromCorner 4  .int 1 [aI a1, aI a2] S r S' := by
  refine zR_of (by decide +kernel) (Nat.le_of_ble_eq_true rfl) (fun z hz hN hF => ?_)
  have hz : zO z cX5_sideFromCorner RX5 1 shX := hz
  show zA z 0 [(0, aI a1), (1, aI a2)] [] S
  unfold M_X5_sideFromCorner at h
  refine s_iload_n 0 hz dX5_sideFromCorner_0 rfl ?_
  refine s_bipush hz dX5_sideFromCorner_1 bp_17 ?_
  obtain ⟨g1, h⟩ := zg_of h
  refine s_irem hz g1.1 g1.2 ra1 rl_17 dX5_sideFromCorner_3 ?_
  obtain ⟨x2, ex2, rx2, h⟩ := zl_ex h
  rw [← ex2]
  refine s_istore_n (l' := [(2, aI x2), (0, aI a1), (1, aI a2)]) hz hN dX5_sideFromCorner_4 (by decide) rfl ?_
  refine s_iload_n 1 hz dX5_sideFromCorner_5 rfl ?_
  refine s_bipush hz dX5_sideFromCorner_6 bp_17 ?_
  obtain ⟨g3, h⟩ := zg_of h
  refine s_idiv hz g3.1 g3.2 ra1 rl_17 dX5_sideFromCorner_8 ?_
  obtain ⟨x4, ex4, rx4, h⟩ := zl_ex h
  rw [← ex4]
  refine s_istore_n (l' := [(3, aI x4), (2, aI x2), (0, aI a1), (1, aI a2)]) hz hN dX5_sideFromCorner_9 (by decide) rfl ?_
  refine s_iload_n 3 hz dX5_sideFromCorner_10 rfl ?_
  refine s_if_ne 27 hz ra2 dX5_sideFromCorner_11 rfl (fun c5 => ?_) (fun c5 => ?_)
  · have h := zif_f c5 h
    refine s_pick (l' := [(0, aI a1), (1, aI a2), (2, aI x2), (3, aI x4)]) [2, 3, 1, 0] rfl ?_
    exact TJ_X5_sideFromCorner_27 hz hN hF ra1 ra2 rx2 rx4 hW h
  · have h := zif_t c5 h
    refine s_iload_n 0 hz dX5_sideFromCorner_14 rfl ?_
    refine s_if_le 27 hz rx4 dX5_sideFromCorner_15 rfl (fun c15 => ?_) (fun c15 => ?_)
    · have h := zif_t c15 h
      refine s_pick (l' := [(0, aI a1), (1, aI a2), (2, aI x2), (3, aI x4)]) [2, 3, 1, 0] rfl ?_
      exact TJ_X5_sideFromCorner_27 hz hN hF ra1 ra2 rx2 rx4 hW h
    · have h := zif_f c15 h
      refine s_sipush hz dX5_sideFromCorner_18 sp_208 ?_
      refine s_iload_n 2 hz dX5_sideFromCorner_21 rfl ?_
      refine s_iadd hz dX5_sideFromCorner_22 ?_
      refine s_bipush hz dX5_sideFromCorner_23 bp_17 ?_
      refine s_isub hz dX5_sideFromCorner_25 ?_
      obtain ⟨x16, ex16, rx16, h⟩ := zl_ex h
      rw [← ex16]
      exact s_iret h hz hF rx16 hW dX5_sideFromCorner_26
def M_X5_sideTo (a2 : Int) (S : HS) : zO2 :=
  zl (a2 - 1) fun x1 =>
  zb (M_X10_pointAt x1 S) fun r2 S3 =>
  zb (M_X10_wayAt a2 S3) fun r4 S5 =>
  zb (M_X5_sideFromCorner r2 r4 S5) fun r6 S7 =>
  some (r6, S7)
set_option maxHeartbeats 4000000 in
set_option maxRecDepth 20000 in
theorem T_X5_sideTo {a2 : Int} {S S' : HS} {r : Int} (ra2 : rng a2) (hW : WR shX S) (h : M_X5_sideTo a2 S = some (r, S')) : zR shX yX5_sideTo cX5_sideTo 2  .int 2 [aR 46, aI a2] S r S' := by
  refine zR_of (by decide +kernel) (Nat.le_of_ble_eq_true rfl) (fun z hz hN hF => ?_)
  have hz : zO z cX5_sideTo RX5 2 shX := hz
  show zA z 0 [(0, aR 46), (1, aI a2)] [] S
  unfold M_X5_sideTo at h
  refine s_aload_n 0 hz dX5_sideTo_0 rfl ?_
  refine s_iload_n 1 hz dX5_sideTo_1 rfl ?_
  refine s_iconst hz dX5_sideTo_2 ?_
  refine s_isub hz dX5_sideTo_3 ?_
  obtain ⟨x1, ex1, rx1, h⟩ := zl_ex h
  rw [← ex1]
  obtain ⟨r2, S3, hc3, h⟩ := zb_of h
  refine s_callV [aI x1] [] hz ml_X5_66 sv_yX10_pointAt (T_X10_pointAt rx1 hW hc3) (by decide) rfl sx46 rfl rfl (Nat.le_of_ble_eq_true rfl) dX5_sideTo_4 (fun rr2 hW3 => ?_)
  refine s_aload_n 0 hz dX5_sideTo_7 rfl ?_
  refine s_iload_n 1 hz dX5_sideTo_8 rfl ?_
  obtain ⟨r4, S5, hc5, h⟩ := zb_of h
  refine s_callV [aI a2] [aI r2] hz ml_X5_79 sv_yX10_wayAt (T_X10_wayAt ra2 hW3 hc5) (by decide) rfl sx46 rfl rfl (Nat.le_of_ble_eq_true rfl) dX5_sideTo_9 (fun rr4 hW5 => ?_)
  obtain ⟨r6, S7, hc7, h⟩ := zb_of h
  refine s_callS [aI r2, aI r4] [] hz ml_X5_76 ss_yX5_sideFromCorner (T_X5_sideFromCorner rr2 rr4 hW5 hc7) (by decide) rfl rfl (Nat.le_of_ble_eq_true rfl) dX5_sideTo_12 (fun rr6 hW7 => ?_)
  exact s_iret h hz hF rr6 hW7 dX5_sideTo_15
def M_X5_isSide (a1 : Int) (S : HS) : zO2 :=
  if a1 < 0 then (
    some (0, S))
  else (
    if 412 ≤ a1 then (
      some (0, S))
    else (
      some (1, S)))
set_option maxHeartbeats 4000000 in
set_option maxRecDepth 20000 in
theorem T_X5_isSide {a1 : Int} {S S' : HS} {r : Int} (ra1 : rng a1) (hW : WR shX S) (h : M_X5_isSide a1 S = some (r, S')) : zR shX yX5_isSide cX5_isSide 1  .boolean 1 [aI a1] S r S' := by
  refine zR_of (by decide +kernel) (Nat.le_of_ble_eq_true rfl) (fun z hz hN hF => ?_)
  have hz : zO z cX5_isSide RX5 1 shX := hz
  show zA z 0 [(0, aI a1)] [] S
  unfold M_X5_isSide at h
  refine s_iload_n 0 hz dX5_isSide_0 rfl ?_
  refine s_if_lt 15 hz ra1 dX5_isSide_1 rfl (fun c1 => ?_) (fun c1 => ?_)
  · have h := zif_t c1 h
    refine s_iconst hz dX5_isSide_15 ?_
    exact s_zret h hz hF (by decide) hW dX5_isSide_16
  · have h := zif_f c1 h
    refine s_iload_n 0 hz dX5_isSide_4 rfl ?_
    refine s_sipush hz dX5_isSide_5 sp_412 ?_
    refine s_icmp_ge 15 hz ra1 rl_412 dX5_isSide_8 rfl (fun c2 => ?_) (fun c2 => ?_)
    · have h := zif_t c2 h
      refine s_iconst hz dX5_isSide_15 ?_
      exact s_zret h hz hF (by decide) hW dX5_isSide_16
    · have h := zif_f c2 h
      refine s_iconst hz dX5_isSide_11 ?_
      refine s_goto 16 hz dX5_isSide_12 rfl ?_
      exact s_zret h hz hF (by decide) hW dX5_isSide_16
def M_X5_hasParting (a1 : Int) (S : HS) : zO2 :=
  if a1 < 0 then (
    some (0, S))
  else (
    if 412 ≤ a1 then (
      some (0, S))
    else (
      zg ((0 : Int) ≤ a1 ∧ a1 < 412) <|
      if S 4 a1 = (-1) then (
        some (0, S))
      else (
        some (1, S))))
set_option maxHeartbeats 4000000 in
set_option maxRecDepth 20000 in
theorem T_X5_hasParting {a1 : Int} {S S' : HS} {r : Int} (ra1 : rng a1) (hW : WR shX S) (h : M_X5_hasParting a1 S = some (r, S')) : zR shX yX5_hasParting cX5_hasParting 2  .boolean 1 [aR 3, aI a1] S r S' := by
  refine zR_of (by decide +kernel) (Nat.le_of_ble_eq_true rfl) (fun z hz hN hF => ?_)
  have hz : zO z cX5_hasParting RX5 1 shX := hz
  show zA z 0 [(0, aR 3), (1, aI a1)] [] S
  unfold M_X5_hasParting at h
  refine s_iload_n 1 hz dX5_hasParting_0 rfl ?_
  refine s_if_lt 25 hz ra1 dX5_hasParting_1 rfl (fun c1 => ?_) (fun c1 => ?_)
  · have h := zif_t c1 h
    refine s_iconst hz dX5_hasParting_25 ?_
    exact s_zret h hz hF (by decide) hW dX5_hasParting_26
  · have h := zif_f c1 h
    refine s_iload_n 1 hz dX5_hasParting_4 rfl ?_
    refine s_sipush hz dX5_hasParting_5 sp_412 ?_
    refine s_icmp_ge 25 hz ra1 rl_412 dX5_hasParting_8 rfl (fun c2 => ?_) (fun c2 => ?_)
    · have h := zif_t c2 h
      refine s_iconst hz dX5_hasParting_25 ?_
      exact s_zret h hz hF (by decide) hW dX5_hasParting_26
    · have h := zif_f c2 h
      refine s_aload_n 0 hz dX5_hasParting_11 rfl ?_
      refine s_getR 0 hz fl_X5_9 sx3 rfl (by decide) dX5_hasParting_12 ?_
      refine s_iload_n 1 hz dX5_hasParting_15 rfl ?_
      obtain ⟨g3, h⟩ := zg_of h
      refine s_iald hz sx4 rfl (by decide) g3 dX5_hasParting_16 ?_
      refine s_iconst hz dX5_hasParting_17 ?_
      refine s_icmp_eq 25 hz (hW 4 _ sx4 a1) rl_m1 dX5_hasParting_18 rfl (fun c4 => ?_) (fun c4 => ?_)
      · have h := zif_t c4 h
        refine s_iconst hz dX5_hasParting_25 ?_
        exact s_zret h hz hF (by decide) hW dX5_hasParting_26
      · have h := zif_f c4 h
        refine s_iconst hz dX5_hasParting_21 ?_
        refine s_goto 26 hz dX5_hasParting_22 rfl ?_
        exact s_zret h hz hF (by decide) hW dX5_hasParting_26
def L_X5_hasUsedSide_22 : Nat → Int → HS → zO2
  | 0, _, _ => none
  | n + 1, v2, S => 
    if S 46 7 ≤ v2 then (
      some (0, S))
    else (
      zb (M_X5_sideTo v2 S) fun r4 S5 =>
      zb (M_X5_isSide r4 S5) fun r6 S7 =>
      if r6 = 0 then (
        some (1, S7))
      else (
        zb (M_X5_hasParting r4 S7) fun r9 S10 =>
        if r9 = 0 then (
          zg ((0 : Int) ≤ r4 ∧ r4 < 412) <|
          if S10 5 r4 ≤ 0 then (
            zg ((0 : Int) ≤ r4 ∧ r4 < 412) <|
            zl ((S10 5 r4) + 1) fun x15 =>
            zg ((0 : Int) ≤ r4 ∧ r4 < 412) <|
            zs (up S10 5 r4 x15) fun S17 =>
            zl (v2 + 1) fun x18 =>
            L_X5_hasUsedSide_22 n x18 S17)
          else (
            some (1, S10)))
        else (
          some (1, S10))))
set_option maxHeartbeats 4000000 in
set_option maxRecDepth 20000 in
theorem TL_X5_hasUsedSide_22 {r : Int} {S' : HS} {z : Zt} (hz : zO z cX5_hasUsedSide RX5 3 shX) (hN : zN z 4) (hF : zFi z shX .boolean r S') : ∀ (n : Nat) {v2 : Int} {S : HS}, rng v2 → WR shX S → L_X5_hasUsedSide_22 n v2 S = some (r, S') → zA z 22 [(0, aR 3), (1, aR 46), (2, aI v2)] [] S := by
  intro n
  induction n with
  | zero =>
    intro _ _ _ _ h
    cases h
  | succ n ih =>
    intro v2 S rv2 hW h
    rw [L_X5_hasUsedSide_22.eq_2] at h
    refine s_iload_n 2 hz dX5_hasUsedSide_22 rfl ?_
    refine s_aload_n 1 hz dX5_hasUsedSide_23 rfl ?_
    refine s_getI (kz := 7) 7 hz fl_X5_56 sx46 rfl rfl dX5_hasUsedSide_24 ?_
    refine s_icmp_ge 78 hz rv2 (hW 46 _ sx46 7) dX5_hasUsedSide_27 rfl (fun c3 => ?_) (fun c3 => ?_)
    · have h := zif_t c3 h
      refine s_iconst hz dX5_hasUsedSide_78 ?_
      exact s_zret h hz hF (by decide) hW dX5_hasUsedSide_79
    · have h := zif_f c3 h
      refine s_aload_n 1 hz dX5_hasUsedSide_30 rfl ?_
      refine s_iload_n 2 hz dX5_hasUsedSide_31 rfl ?_
      obtain ⟨r4, S5, hc5, h⟩ := zb_of h
      refine s_callS [aR 46, aI v2] [] hz ml_X5_59 ss_yX5_sideTo (T_X5_sideTo rv2 hW hc5) (by decide) rfl rfl (Nat.le_of_ble_eq_true rfl) dX5_hasUsedSide_32 (fun rr4 hW5 => ?_)
      refine s_istore_n (l' := [(3, aI r4), (0, aR 3), (1, aR 46), (2, aI v2)]) hz hN dX5_hasUsedSide_35 (by decide) rfl ?_
      refine s_iload_n 0 hz dX5_hasUsedSide_36 rfl ?_
      obtain ⟨r6, S7, hc7, h⟩ := zb_of h
      refine s_callS [aI r4] [] hz ml_X5_63 ss_yX5_isSide (T_X5_isSide rr4 hW5 hc7) (by decide) rfl rfl (Nat.le_of_ble_eq_true rfl) dX5_hasUsedSide_37 (fun rr6 hW7 => ?_)
      refine s_if_eq 60 hz rr6 dX5_hasUsedSide_40 rfl (fun c8 => ?_) (fun c8 => ?_)
      · have h := zif_t c8 h
        refine s_iconst hz dX5_hasUsedSide_60 ?_
        exact s_zret h hz hF (by decide) hW7 dX5_hasUsedSide_61
      · have h := zif_f c8 h
        refine s_aload_n 1 hz dX5_hasUsedSide_43 rfl ?_
        refine s_iload_n 0 hz dX5_hasUsedSide_44 rfl ?_
        obtain ⟨r9, S10, hc10, h⟩ := zb_of h
        refine s_callV [aI r4] [] hz ml_X5_39 sv_yX5_hasParting (T_X5_hasParting rr4 hW7 hc10) (by decide) rfl sx3 rfl rfl (Nat.le_of_ble_eq_true rfl) dX5_hasUsedSide_45 (fun rr9 hW10 => ?_)
        refine s_if_ne 60 hz rr9 dX5_hasUsedSide_48 rfl (fun c11 => ?_) (fun c11 => ?_)
        · have h := zif_f c11 h
          refine s_iconst hz dX5_hasUsedSide_60 ?_
          exact s_zret h hz hF (by decide) hW10 dX5_hasUsedSide_61
        · have h := zif_t c11 h
          refine s_aload_n 1 hz dX5_hasUsedSide_51 rfl ?_
          refine s_getR 1 hz fl_X5_15 sx3 rfl (by decide) dX5_hasUsedSide_52 ?_
          refine s_iload_n 0 hz dX5_hasUsedSide_55 rfl ?_
          obtain ⟨g12, h⟩ := zg_of h
          refine s_iald hz sx5 rfl (by decide) g12 dX5_hasUsedSide_56 ?_
          refine s_if_le 62 hz (hW10 5 _ sx5 r4) dX5_hasUsedSide_57 rfl (fun c13 => ?_) (fun c13 => ?_)
          · have h := zif_t c13 h
            refine s_aload_n 1 hz dX5_hasUsedSide_62 rfl ?_
            refine s_getR 1 hz fl_X5_15 sx3 rfl (by decide) dX5_hasUsedSide_63 ?_
            refine s_iload_n 0 hz dX5_hasUsedSide_66 rfl ?_
            refine s_dup2 hz rfl rfl dX5_hasUsedSide_67 ?_
            obtain ⟨g14, h⟩ := zg_of h
            refine s_iald hz sx5 rfl (by decide) g14 dX5_hasUsedSide_68 ?_
            refine s_iconst hz dX5_hasUsedSide_69 ?_
            refine s_iadd hz dX5_hasUsedSide_70 ?_
            obtain ⟨x15, ex15, rx15, h⟩ := zl_ex h
            rw [← ex15]
            obtain ⟨g16, h⟩ := zg_of h
            obtain ⟨S17, eS17, h⟩ := zs_ex h
            have hW17 : WR shX S17 := by rw [eS17]; exact hW10.up (i := r4) sx5 (v := x15) rx15
            refine s_iast hz sx5 rfl (by decide) g16 dX5_hasUsedSide_71 ?_
            rw [← eS17]
            obtain ⟨x18, ex18, rx18, h⟩ := zl_ex h
            refine s_iinc (k0 := 3) (y := x18) (l' := [(2, aI x18), (3, aI r4), (0, aR 3), (1, aR 46)]) hz hN dX5_hasUsedSide_72 rfl ex18.symm (by decide) rfl ?_
            refine s_goto 22 hz dX5_hasUsedSide_75 rfl ?_
            refine s_pick (l' := [(0, aR 3), (1, aR 46), (2, aI x18)]) [2, 3, 0] rfl ?_
            exact ih rx18 hW17 h
          · have h := zif_f c13 h
            refine s_iconst hz dX5_hasUsedSide_60 ?_
            exact s_zret h hz hF (by decide) hW10 dX5_hasUsedSide_61
def M_X5_hasUsedSide (S : HS) : zO2 :=
  if S 46 6 ≤ 413 then (
    zs (zfill S 5 412 0) fun S2 =>
    L_X5_hasUsedSide_22 zBig 1 S2)
  else (
    some (1, S))
set_option maxHeartbeats 4000000 in
set_option maxRecDepth 20000 in
theorem T_X5_hasUsedSide {S S' : HS} {r : Int} (hW : WR shX S) (h : M_X5_hasUsedSide S = some (r, S')) : zR shX yX5_hasUsedSide cX5_hasUsedSide 4  .boolean 3 [aR 3, aR 46] S r S' := by
  refine zR_of (by decide +kernel) (Nat.le_of_ble_eq_true rfl) (fun z hz hN hF => ?_)
  have hz : zO z cX5_hasUsedSide RX5 3 shX := hz
  show zA z 0 [(0, aR 3), (1, aR 46)] [] S
  unfold M_X5_hasUsedSide at h
  refine s_aload_n 1 hz dX5_hasUsedSide_0 rfl ?_
  refine s_getI (kz := 6) 6 hz fl_X5_48 sx46 rfl rfl dX5_hasUsedSide_1 ?_
  refine s_sipush hz dX5_hasUsedSide_4 sp_413 ?_
  refine s_icmp_le 12 hz (hW 46 _ sx46 6) rl_413 dX5_hasUsedSide_7 rfl (fun c1 => ?_) (fun c1 => ?_)
  · have h := zif_t c1 h
    refine s_aload_n 0 hz dX5_hasUsedSide_12 rfl ?_
    refine s_getR 1 hz fl_X5_15 sx3 rfl (by decide) dX5_hasUsedSide_13 ?_
    refine s_iconst hz dX5_hasUsedSide_16 ?_
    obtain ⟨S2, eS2, h⟩ := zs_ex h
    have hW2 : WR shX S2 := by rw [eS2]; exact zfill_W (n := 412) (v := 0) hW sx5 rl_0
    refine s_callSv [aR 5, aI 0] [] hz ml_X5_25 ss_yJ7_fill_53178 (T_fill (nz := 412) hW sx5 (by decide) rfl rl_0) (by decide) rfl rfl (Nat.le_of_ble_eq_true rfl) dX5_hasUsedSide_17 (fun _ => ?_)
    rw [← eS2]
    refine s_iconst hz dX5_hasUsedSide_20 ?_
    refine s_istore_n (l' := [(2, aI 1), (0, aR 3), (1, aR 46)]) hz hN dX5_hasUsedSide_21 (by decide) rfl ?_
    refine s_pick (l' := [(0, aR 3), (1, aR 46), (2, aI 1)]) [1, 2, 0] rfl ?_
    exact TL_X5_hasUsedSide_22 hz hN hF zBig rl_1 hW2 h
  · have h := zif_f c1 h
    refine s_iconst hz dX5_hasUsedSide_10 ?_
    exact s_zret h hz hF (by decide) hW dX5_hasUsedSide_11
def M_X5_isCorner (a1 : Int) (S : HS) : zO2 :=
  if a1 < 0 then (
    some (0, S))
  else (
    if 221 ≤ a1 then (
      some (0, S))
    else (
      some (1, S)))
set_option maxHeartbeats 4000000 in
set_option maxRecDepth 20000 in
theorem T_X5_isCorner {a1 : Int} {S S' : HS} {r : Int} (ra1 : rng a1) (hW : WR shX S) (h : M_X5_isCorner a1 S = some (r, S')) : zR shX yX5_isCorner cX5_isCorner 1  .boolean 1 [aI a1] S r S' := by
  refine zR_of (by decide +kernel) (Nat.le_of_ble_eq_true rfl) (fun z hz hN hF => ?_)
  have hz : zO z cX5_isCorner RX5 1 shX := hz
  show zA z 0 [(0, aI a1)] [] S
  unfold M_X5_isCorner at h
  refine s_iload_n 0 hz dX5_isCorner_0 rfl ?_
  refine s_if_lt 15 hz ra1 dX5_isCorner_1 rfl (fun c1 => ?_) (fun c1 => ?_)
  · have h := zif_t c1 h
    refine s_iconst hz dX5_isCorner_15 ?_
    exact s_zret h hz hF (by decide) hW dX5_isCorner_16
  · have h := zif_f c1 h
    refine s_iload_n 0 hz dX5_isCorner_4 rfl ?_
    refine s_sipush hz dX5_isCorner_5 sp_221 ?_
    refine s_icmp_ge 15 hz ra1 rl_221 dX5_isCorner_8 rfl (fun c2 => ?_) (fun c2 => ?_)
    · have h := zif_t c2 h
      refine s_iconst hz dX5_isCorner_15 ?_
      exact s_zret h hz hF (by decide) hW dX5_isCorner_16
    · have h := zif_f c2 h
      refine s_iconst hz dX5_isCorner_11 ?_
      refine s_goto 16 hz dX5_isCorner_12 rfl ?_
      exact s_zret h hz hF (by decide) hW dX5_isCorner_16
def L_X5_isOnParting_2 (p1 : Int) : Nat → Int → HS → zO2
  | 0, _, _ => none
  | n + 1, v2, S => 
    if 4 ≤ v2 then (
      some (0, S))
    else (
      zb (M_X5_sideFromCorner p1 v2 S) fun r2 S3 =>
      zb (M_X5_hasParting r2 S3) fun r4 S5 =>
      if r4 = 0 then (
        zl (v2 + 1) fun x7 =>
        L_X5_isOnParting_2 p1 n x7 S5)
      else (
        some (1, S5)))
set_option maxHeartbeats 4000000 in
set_option maxRecDepth 20000 in
theorem TL_X5_isOnParting_2 {p1 : Int} {r : Int} {S' : HS} {z : Zt} (hz : zO z cX5_isOnParting RX5 2 shX) (hN : zN z 3) (hF : zFi z shX .boolean r S') (rp1 : rng p1) : ∀ (n : Nat) {v2 : Int} {S : HS}, rng v2 → WR shX S → L_X5_isOnParting_2 p1 n v2 S = some (r, S') → zA z 2 [(0, aR 3), (1, aI p1), (2, aI v2)] [] S := by
  intro n
  induction n with
  | zero =>
    intro _ _ _ _ h
    cases h
  | succ n ih =>
    intro v2 S rv2 hW h
    rw [L_X5_isOnParting_2.eq_2] at h
    refine s_iload_n 2 hz dX5_isOnParting_2 rfl ?_
    refine s_iconst hz dX5_isOnParting_3 ?_
    refine s_icmp_ge 27 hz rv2 rl_4 dX5_isOnParting_4 rfl (fun c1 => ?_) (fun c1 => ?_)
    · have h := zif_t c1 h
      refine s_iconst hz dX5_isOnParting_27 ?_
      exact s_zret h hz hF (by decide) hW dX5_isOnParting_28
    · have h := zif_f c1 h
      refine s_aload_n 0 hz dX5_isOnParting_7 rfl ?_
      refine s_iload_n 1 hz dX5_isOnParting_8 rfl ?_
      refine s_iload_n 2 hz dX5_isOnParting_9 rfl ?_
      obtain ⟨r2, S3, hc3, h⟩ := zb_of h
      refine s_callS [aI p1, aI v2] [aR 3] hz ml_X5_76 ss_yX5_sideFromCorner (T_X5_sideFromCorner rp1 rv2 hW hc3) (by decide) rfl rfl (Nat.le_of_ble_eq_true rfl) dX5_isOnParting_10 (fun rr2 hW3 => ?_)
      obtain ⟨r4, S5, hc5, h⟩ := zb_of h
      refine s_callV [aI r2] [] hz ml_X5_39 sv_yX5_hasParting (T_X5_hasParting rr2 hW3 hc5) (by decide) rfl sx3 rfl rfl (Nat.le_of_ble_eq_true rfl) dX5_isOnParting_13 (fun rr4 hW5 => ?_)
      refine s_if_eq 21 hz rr4 dX5_isOnParting_16 rfl (fun c6 => ?_) (fun c6 => ?_)
      · have h := zif_t c6 h
        obtain ⟨x7, ex7, rx7, h⟩ := zl_ex h
        refine s_iinc (k0 := 2) (y := x7) (l' := [(2, aI x7), (0, aR 3), (1, aI p1)]) hz hN dX5_isOnParting_21 rfl ex7.symm (by decide) rfl ?_
        refine s_goto 2 hz dX5_isOnParting_24 rfl ?_
        refine s_pick (l' := [(0, aR 3), (1, aI p1), (2, aI x7)]) [1, 2, 0] rfl ?_
        exact ih rx7 hW5 h
      · have h := zif_f c6 h
        refine s_iconst hz dX5_isOnParting_19 ?_
        exact s_zret h hz hF (by decide) hW5 dX5_isOnParting_20
def M_X5_isOnParting (a1 : Int) (S : HS) : zO2 :=
  L_X5_isOnParting_2 a1 zBig 0 S
set_option maxHeartbeats 4000000 in
set_option maxRecDepth 20000 in
theorem T_X5_isOnParting {a1 : Int} {S S' : HS} {r : Int} (ra1 : rng a1) (hW : WR shX S) (h : M_X5_isOnParting a1 S = some (r, S')) : zR shX yX5_isOnParting cX5_isOnParting 3  .boolean 2 [aR 3, aI a1] S r S' := by
  refine zR_of (by decide +kernel) (Nat.le_of_ble_eq_true rfl) (fun z hz hN hF => ?_)
  have hz : zO z cX5_isOnParting RX5 2 shX := hz
  show zA z 0 [(0, aR 3), (1, aI a1)] [] S
  unfold M_X5_isOnParting at h
  refine s_iconst hz dX5_isOnParting_0 ?_
  refine s_istore_n (l' := [(2, aI 0), (0, aR 3), (1, aI a1)]) hz hN dX5_isOnParting_1 (by decide) rfl ?_
  refine s_pick (l' := [(0, aR 3), (1, aI a1), (2, aI 0)]) [1, 2, 0] rfl ?_
  exact TL_X5_isOnParting_2 hz hN hF ra1 zBig rl_0 hW h
def J_X5_hasUsedCorner_41 (k10 : Int → HS → zO2) (v2 : Int) (S : HS) : zO2 :=
  zl (v2 + 1) fun x8 =>
  k10 x8 S
set_option maxHeartbeats 4000000 in
set_option maxRecDepth 20000 in
theorem TJ_X5_hasUsedCorner_41 {k10 : Int → HS → zO2} {v2 : Int} {S : HS} {r : Int} {S' : HS} {z : Zt} (hz : zO z cX5_hasUsedCorner RX5 3 shX) (hN : zN z 4) (hF : zFi z shX .boolean r S') (hk10 : ∀ (w2 : Int) (S : HS), rng w2 → WR shX S → k10 w2 S = some (r, S') → zA z 10 [(0, aR 3), (1, aR 46), (2, aI w2)] [] S) (rv2 : rng v2) (hW : WR shX S) (h : J_X5_hasUsedCorner_41 k10 v2 S = some (r, S')) : zA z 41 [(0, aR 3), (1, aR 46), (2, aI v2)] [] S := by
  unfold J_X5_hasUsedCorner_41 at h
  obtain ⟨x8, ex8, rx8, h⟩ := zl_ex h
  refine s_iinc (k0 := 2) (y := x8) (l' := [(2, aI x8), (0, aR 3), (1, aR 46)]) hz hN dX5_hasUsedCorner_41 rfl ex8.symm (by decide) rfl ?_
  refine s_goto 10 hz dX5_hasUsedCorner_44 rfl ?_
  refine s_pick (l' := [(0, aR 3), (1, aR 46), (2, aI x8)]) [1, 2, 0] rfl ?_
  exact hk10 _ _ rx8 hW h
def L_X5_hasUsedCorner_10 (k47 : HS → zO2) : Nat → Int → HS → zO2
  | 0, _, _ => none
  | n + 1, v2, S => 
    if S 46 7 ≤ v2 then (
      k47 S)
    else (
      zb (M_X10_pointAt v2 S) fun r3 S4 =>
      zb (M_X5_isCorner r3 S4) fun r5 S6 =>
      if r5 = 0 then (
        J_X5_hasUsedCorner_41 (L_X5_hasUsedCorner_10 k47 n) v2 S6)
      else (
        zg ((0 : Int) ≤ r3 ∧ r3 < 221) <|
        zl ((S6 6 r3) + 1) fun x10 =>
        zg ((0 : Int) ≤ r3 ∧ r3 < 221) <|
        zs (up S6 6 r3 x10) fun S12 =>
        J_X5_hasUsedCorner_41 (L_X5_hasUsedCorner_10 k47 n) v2 S12))
set_option maxHeartbeats 4000000 in
set_option maxRecDepth 20000 in
theorem TL_X5_hasUsedCorner_10 {k47 : HS → zO2} {r : Int} {S' : HS} {z : Zt} (hz : zO z cX5_hasUsedCorner RX5 3 shX) (hN : zN z 4) (hF : zFi z shX .boolean r S') (hk47 : ∀ (S : HS), WR shX S → k47 S = some (r, S') → zA z 47 [(0, aR 3), (1, aR 46)] [] S) : ∀ (n : Nat) {v2 : Int} {S : HS}, rng v2 → WR shX S → L_X5_hasUsedCorner_10 k47 n v2 S = some (r, S') → zA z 10 [(0, aR 3), (1, aR 46), (2, aI v2)] [] S := by
  intro n
  induction n with
  | zero =>
    intro _ _ _ _ h
    cases h
  | succ n ih =>
    intro v2 S rv2 hW h
    rw [L_X5_hasUsedCorner_10.eq_2] at h
    refine s_iload_n 2 hz dX5_hasUsedCorner_10 rfl ?_
    refine s_aload_n 1 hz dX5_hasUsedCorner_11 rfl ?_
    refine s_getI (kz := 7) 7 hz fl_X5_56 sx46 rfl rfl dX5_hasUsedCorner_12 ?_
    refine s_icmp_ge 47 hz rv2 (hW 46 _ sx46 7) dX5_hasUsedCorner_15 rfl (fun c2 => ?_) (fun c2 => ?_)
    · have h := zif_t c2 h
      refine s_pick (l' := [(0, aR 3), (1, aR 46)]) [0, 1] rfl ?_
      exact hk47 _ hW h
    · have h := zif_f c2 h
      refine s_aload_n 1 hz dX5_hasUsedCorner_18 rfl ?_
      refine s_iload_n 2 hz dX5_hasUsedCorner_19 rfl ?_
      obtain ⟨r3, S4, hc4, h⟩ := zb_of h
      refine s_callV [aI v2] [] hz ml_X5_66 sv_yX10_pointAt (T_X10_pointAt rv2 hW hc4) (by decide) rfl sx46 rfl rfl (Nat.le_of_ble_eq_true rfl) dX5_hasUsedCorner_20 (fun rr3 hW4 => ?_)
      refine s_istore_n (l' := [(3, aI r3), (0, aR 3), (1, aR 46), (2, aI v2)]) hz hN dX5_hasUsedCorner_23 (by decide) rfl ?_
      refine s_iload_n 0 hz dX5_hasUsedCorner_24 rfl ?_
      obtain ⟨r5, S6, hc6, h⟩ := zb_of h
      refine s_callS [aI r3] [] hz ml_X5_70 ss_yX5_isCorner (T_X5_isCorner rr3 hW4 hc6) (by decide) rfl rfl (Nat.le_of_ble_eq_true rfl) dX5_hasUsedCorner_25 (fun rr5 hW6 => ?_)
      refine s_if_eq 41 hz rr5 dX5_hasUsedCorner_28 rfl (fun c7 => ?_) (fun c7 => ?_)
      · have h := zif_t c7 h
        refine s_pick (l' := [(0, aR 3), (1, aR 46), (2, aI v2)]) [1, 2, 3] rfl ?_
        exact TJ_X5_hasUsedCorner_41 hz hN hF (fun _ _ => ih) rv2 hW6 h
      · have h := zif_f c7 h
        refine s_aload_n 1 hz dX5_hasUsedCorner_31 rfl ?_
        refine s_getR 2 hz fl_X5_18 sx3 rfl (by decide) dX5_hasUsedCorner_32 ?_
        refine s_iload_n 0 hz dX5_hasUsedCorner_35 rfl ?_
        refine s_dup2 hz rfl rfl dX5_hasUsedCorner_36 ?_
        obtain ⟨g9, h⟩ := zg_of h
        refine s_iald hz sx6 rfl (by decide) g9 dX5_hasUsedCorner_37 ?_
        refine s_iconst hz dX5_hasUsedCorner_38 ?_
        refine s_iadd hz dX5_hasUsedCorner_39 ?_
        obtain ⟨x10, ex10, rx10, h⟩ := zl_ex h
        rw [← ex10]
        obtain ⟨g11, h⟩ := zg_of h
        obtain ⟨S12, eS12, h⟩ := zs_ex h
        have hW12 : WR shX S12 := by rw [eS12]; exact hW6.up (i := r3) sx6 (v := x10) rx10
        refine s_iast hz sx6 rfl (by decide) g11 dX5_hasUsedCorner_40 ?_
        rw [← eS12]
        refine s_pick (l' := [(0, aR 3), (1, aR 46), (2, aI v2)]) [1, 2, 3] rfl ?_
        exact TJ_X5_hasUsedCorner_41 hz hN hF (fun _ _ => ih) rv2 hW12 h
def J_X5_hasUsedCorner_92 (k49 : Int → HS → zO2) (v2 : Int) (S : HS) : zO2 :=
  zl (v2 + 1) fun x21 =>
  k49 x21 S
set_option maxHeartbeats 4000000 in
set_option maxRecDepth 20000 in
theorem TJ_X5_hasUsedCorner_92 {k49 : Int → HS → zO2} {v2 : Int} {S : HS} {r : Int} {S' : HS} {z : Zt} (hz : zO z cX5_hasUsedCorner RX5 3 shX) (hN : zN z 4) (hF : zFi z shX .boolean r S') (hk49 : ∀ (w2 : Int) (S : HS), rng w2 → WR shX S → k49 w2 S = some (r, S') → zA z 49 [(0, aR 3), (1, aR 46), (2, aI w2)] [] S) (rv2 : rng v2) (hW : WR shX S) (h : J_X5_hasUsedCorner_92 k49 v2 S = some (r, S')) : zA z 92 [(0, aR 3), (1, aR 46), (2, aI v2)] [] S := by
  unfold J_X5_hasUsedCorner_92 at h
  obtain ⟨x21, ex21, rx21, h⟩ := zl_ex h
  refine s_iinc (k0 := 2) (y := x21) (l' := [(2, aI x21), (0, aR 3), (1, aR 46)]) hz hN dX5_hasUsedCorner_92 rfl ex21.symm (by decide) rfl ?_
  refine s_goto 49 hz dX5_hasUsedCorner_95 rfl ?_
  refine s_pick (l' := [(0, aR 3), (1, aR 46), (2, aI x21)]) [1, 2, 0] rfl ?_
  exact hk49 _ _ rx21 hW h
def L_X5_hasUsedCorner_49 : Nat → Int → HS → zO2
  | 0, _, _ => none
  | n + 1, v2, S => 
    zl ((S 46 7) - 1) fun x14 =>
    if x14 ≤ v2 then (
      some (0, S))
    else (
      zb (M_X10_pointAt v2 S) fun r16 S17 =>
      zb (M_X5_isCorner r16 S17) fun r18 S19 =>
      if r18 = 0 then (
        J_X5_hasUsedCorner_92 (L_X5_hasUsedCorner_49 n) v2 S19)
      else (
        zg ((0 : Int) ≤ r16 ∧ r16 < 221) <|
        if 1 < S19 6 r16 then (
          some (1, S19))
        else (
          zb (M_X5_isOnParting r16 S19) fun r24 S25 =>
          if r24 = 0 then (
            J_X5_hasUsedCorner_92 (L_X5_hasUsedCorner_49 n) v2 S25)
          else (
            some (1, S25)))))
set_option maxHeartbeats 4000000 in
set_option maxRecDepth 20000 in
theorem TL_X5_hasUsedCorner_49 {r : Int} {S' : HS} {z : Zt} (hz : zO z cX5_hasUsedCorner RX5 3 shX) (hN : zN z 4) (hF : zFi z shX .boolean r S') : ∀ (n : Nat) {v2 : Int} {S : HS}, rng v2 → WR shX S → L_X5_hasUsedCorner_49 n v2 S = some (r, S') → zA z 49 [(0, aR 3), (1, aR 46), (2, aI v2)] [] S := by
  intro n
  induction n with
  | zero =>
    intro _ _ _ _ h
    cases h
  | succ n ih =>
    intro v2 S rv2 hW h
    rw [L_X5_hasUsedCorner_49.eq_2] at h
    refine s_iload_n 2 hz dX5_hasUsedCorner_49 rfl ?_
    refine s_aload_n 1 hz dX5_hasUsedCorner_50 rfl ?_
    refine s_getI (kz := 7) 7 hz fl_X5_56 sx46 rfl rfl dX5_hasUsedCorner_51 ?_
    refine s_iconst hz dX5_hasUsedCorner_54 ?_
    refine s_isub hz dX5_hasUsedCorner_55 ?_
    obtain ⟨x14, ex14, rx14, h⟩ := zl_ex h
    rw [← ex14]
    refine s_icmp_ge 98 hz rv2 rx14 dX5_hasUsedCorner_56 rfl (fun c15 => ?_) (fun c15 => ?_)
    · have h := zif_t c15 h
      refine s_iconst hz dX5_hasUsedCorner_98 ?_
      exact s_zret h hz hF (by decide) hW dX5_hasUsedCorner_99
    · have h := zif_f c15 h
      refine s_aload_n 1 hz dX5_hasUsedCorner_59 rfl ?_
      refine s_iload_n 2 hz dX5_hasUsedCorner_60 rfl ?_
      obtain ⟨r16, S17, hc17, h⟩ := zb_of h
      refine s_callV [aI v2] [] hz ml_X5_66 sv_yX10_pointAt (T_X10_pointAt rv2 hW hc17) (by decide) rfl sx46 rfl rfl (Nat.le_of_ble_eq_true rfl) dX5_hasUsedCorner_61 (fun rr16 hW17 => ?_)
      refine s_istore_n (l' := [(3, aI r16), (0, aR 3), (1, aR 46), (2, aI v2)]) hz hN dX5_hasUsedCorner_64 (by decide) rfl ?_
      refine s_iload_n 0 hz dX5_hasUsedCorner_65 rfl ?_
      obtain ⟨r18, S19, hc19, h⟩ := zb_of h
      refine s_callS [aI r16] [] hz ml_X5_70 ss_yX5_isCorner (T_X5_isCorner rr16 hW17 hc19) (by decide) rfl rfl (Nat.le_of_ble_eq_true rfl) dX5_hasUsedCorner_66 (fun rr18 hW19 => ?_)
      refine s_if_eq 92 hz rr18 dX5_hasUsedCorner_69 rfl (fun c20 => ?_) (fun c20 => ?_)
      · have h := zif_t c20 h
        refine s_pick (l' := [(0, aR 3), (1, aR 46), (2, aI v2)]) [1, 2, 3] rfl ?_
        exact TJ_X5_hasUsedCorner_92 hz hN hF (fun _ _ => ih) rv2 hW19 h
      · have h := zif_f c20 h
        refine s_aload_n 1 hz dX5_hasUsedCorner_72 rfl ?_
        refine s_getR 2 hz fl_X5_18 sx3 rfl (by decide) dX5_hasUsedCorner_73 ?_
        refine s_iload_n 0 hz dX5_hasUsedCorner_76 rfl ?_
        obtain ⟨g22, h⟩ := zg_of h
        refine s_iald hz sx6 rfl (by decide) g22 dX5_hasUsedCorner_77 ?_
        refine s_iconst hz dX5_hasUsedCorner_78 ?_
        refine s_icmp_gt 90 hz (hW19 6 _ sx6 r16) rl_1 dX5_hasUsedCorner_79 rfl (fun c23 => ?_) (fun c23 => ?_)
        · have h := zif_t c23 h
          refine s_iconst hz dX5_hasUsedCorner_90 ?_
          exact s_zret h hz hF (by decide) hW19 dX5_hasUsedCorner_91
        · have h := zif_f c23 h
          refine s_aload_n 1 hz dX5_hasUsedCorner_82 rfl ?_
          refine s_iload_n 0 hz dX5_hasUsedCorner_83 rfl ?_
          obtain ⟨r24, S25, hc25, h⟩ := zb_of h
          refine s_callV [aI r16] [] hz ml_X5_73 sv_yX5_isOnParting (T_X5_isOnParting rr16 hW19 hc25) (by decide) rfl sx3 rfl rfl (Nat.le_of_ble_eq_true rfl) dX5_hasUsedCorner_84 (fun rr24 hW25 => ?_)
          refine s_if_eq 92 hz rr24 dX5_hasUsedCorner_87 rfl (fun c26 => ?_) (fun c26 => ?_)
          · have h := zif_t c26 h
            refine s_pick (l' := [(0, aR 3), (1, aR 46), (2, aI v2)]) [1, 2, 3] rfl ?_
            exact TJ_X5_hasUsedCorner_92 hz hN hF (fun _ _ => ih) rv2 hW25 h
          · have h := zif_f c26 h
            refine s_iconst hz dX5_hasUsedCorner_90 ?_
            exact s_zret h hz hF (by decide) hW25 dX5_hasUsedCorner_91
def M_X5_hasUsedCorner (S : HS) : zO2 :=
  zs (zfill S 6 221 0) fun S1 =>
  L_X5_hasUsedCorner_10 (fun S13 =>
      L_X5_hasUsedCorner_49 zBig 1 S13) zBig 0 S1
set_option maxHeartbeats 4000000 in
set_option maxRecDepth 20000 in
theorem T_X5_hasUsedCorner {S S' : HS} {r : Int} (hW : WR shX S) (h : M_X5_hasUsedCorner S = some (r, S')) : zR shX yX5_hasUsedCorner cX5_hasUsedCorner 4  .boolean 3 [aR 3, aR 46] S r S' := by
  refine zR_of (by decide +kernel) (Nat.le_of_ble_eq_true rfl) (fun z hz hN hF => ?_)
  have hz : zO z cX5_hasUsedCorner RX5 3 shX := hz
  show zA z 0 [(0, aR 3), (1, aR 46)] [] S
  unfold M_X5_hasUsedCorner at h
  refine s_aload_n 0 hz dX5_hasUsedCorner_0 rfl ?_
  refine s_getR 2 hz fl_X5_18 sx3 rfl (by decide) dX5_hasUsedCorner_1 ?_
  refine s_iconst hz dX5_hasUsedCorner_4 ?_
  obtain ⟨S1, eS1, h⟩ := zs_ex h
  have hW1 : WR shX S1 := by rw [eS1]; exact zfill_W (n := 221) (v := 0) hW sx6 rl_0
  refine s_callSv [aR 6, aI 0] [] hz ml_X5_25 ss_yJ7_fill_53178 (T_fill (nz := 221) hW sx6 (by decide) rfl rl_0) (by decide) rfl rfl (Nat.le_of_ble_eq_true rfl) dX5_hasUsedCorner_5 (fun _ => ?_)
  rw [← eS1]
  refine s_iconst hz dX5_hasUsedCorner_8 ?_
  refine s_istore_n (l' := [(2, aI 0), (0, aR 3), (1, aR 46)]) hz hN dX5_hasUsedCorner_9 (by decide) rfl ?_
  refine s_pick (l' := [(0, aR 3), (1, aR 46), (2, aI 0)]) [1, 2, 0] rfl ?_
  refine TL_X5_hasUsedCorner_10 hz hN hF ?_ zBig rl_0 hW1 h
  · clear h 
    intro S13 hW13 h
    refine s_iconst hz dX5_hasUsedCorner_47 ?_
    refine s_istore_n (l' := [(2, aI 1), (0, aR 3), (1, aR 46)]) hz hN dX5_hasUsedCorner_48 (by decide) rfl ?_
    refine s_pick (l' := [(0, aR 3), (1, aR 46), (2, aI 1)]) [1, 2, 0] rfl ?_
    exact TL_X5_hasUsedCorner_49 hz hN hF zBig rl_1 hW13 h
def M_X5_whyNot (S : HS) : zO2 :=
  if S 3 3 < 60 then (
    if S 46 8 = 0 then (
      if 2 ≤ S 46 6 then (
        zb (M_X5_hasUsedSide S) fun r4 S5 =>
        if r4 = 0 then (
          zb (M_X5_hasUsedCorner S5) fun r7 S8 =>
          if r7 = 0 then (
            some ((-1), S8))
          else (
            some (4, S8)))
        else (
          some (3, S5)))
      else (
        some (2, S)))
    else (
      some (1, S)))
  else (
    some (9, S))
set_option maxHeartbeats 4000000 in
set_option maxRecDepth 20000 in
theorem T_X5_whyNot {S S' : HS} {r : Int} (hW : WR shX S) (h : M_X5_whyNot S = some (r, S')) : zR shX yX5_whyNot cX5_whyNot 2  .int 4 [aR 3, aR 46] S r S' := by
  refine zR_of (by decide +kernel) (Nat.le_of_ble_eq_true rfl) (fun z hz hN hF => ?_)
  have hz : zO z cX5_whyNot RX5 4 shX := hz
  show zA z 0 [(0, aR 3), (1, aR 46)] [] S
  unfold M_X5_whyNot at h
  refine s_aload_n 0 hz dX5_whyNot_0 rfl ?_
  refine s_getI (kz := 3) 3 hz fl_X5_21 sx3 rfl rfl dX5_whyNot_1 ?_
  refine s_bipush hz dX5_whyNot_4 bp_60 ?_
  refine s_icmp_lt 12 hz (hW 3 _ sx3 3) rl_60 dX5_whyNot_6 rfl (fun c1 => ?_) (fun c1 => ?_)
  · have h := zif_t c1 h
    refine s_aload_n 1 hz dX5_whyNot_12 rfl ?_
    refine s_getI (kz := 8) 8 hz fl_X5_42 sx46 rfl rfl dX5_whyNot_13 ?_
    refine s_if_eq 21 hz (hW 46 _ sx46 8) dX5_whyNot_16 rfl (fun c2 => ?_) (fun c2 => ?_)
    · have h := zif_t c2 h
      refine s_aload_n 1 hz dX5_whyNot_21 rfl ?_
      refine s_getI (kz := 6) 6 hz fl_X5_48 sx46 rfl rfl dX5_whyNot_22 ?_
      refine s_iconst hz dX5_whyNot_25 ?_
      refine s_icmp_ge 31 hz (hW 46 _ sx46 6) rl_2 dX5_whyNot_26 rfl (fun c3 => ?_) (fun c3 => ?_)
      · have h := zif_t c3 h
        refine s_aload_n 0 hz dX5_whyNot_31 rfl ?_
        refine s_aload_n 1 hz dX5_whyNot_32 rfl ?_
        obtain ⟨r4, S5, hc5, h⟩ := zb_of h
        refine s_callV [aR 46] [] hz ml_X5_49 sv_yX5_hasUsedSide (T_X5_hasUsedSide hW hc5) (by decide) rfl sx3 rfl rfl (Nat.le_of_ble_eq_true rfl) dX5_whyNot_33 (fun rr4 hW5 => ?_)
        refine s_if_eq 41 hz rr4 dX5_whyNot_36 rfl (fun c6 => ?_) (fun c6 => ?_)
        · have h := zif_t c6 h
          refine s_aload_n 0 hz dX5_whyNot_41 rfl ?_
          refine s_aload_n 1 hz dX5_whyNot_42 rfl ?_
          obtain ⟨r7, S8, hc8, h⟩ := zb_of h
          refine s_callV [aR 46] [] hz ml_X5_53 sv_yX5_hasUsedCorner (T_X5_hasUsedCorner hW5 hc8) (by decide) rfl sx3 rfl rfl (Nat.le_of_ble_eq_true rfl) dX5_whyNot_43 (fun rr7 hW8 => ?_)
          refine s_if_eq 53 hz rr7 dX5_whyNot_46 rfl (fun c9 => ?_) (fun c9 => ?_)
          · have h := zif_t c9 h
            refine s_iconst hz dX5_whyNot_53 ?_
            exact s_iret h hz hF rl_m1 hW8 dX5_whyNot_54
          · have h := zif_f c9 h
            refine s_iconst hz dX5_whyNot_49 ?_
            refine s_goto 54 hz dX5_whyNot_50 rfl ?_
            exact s_iret h hz hF rl_4 hW8 dX5_whyNot_54
        · have h := zif_f c6 h
          refine s_iconst hz dX5_whyNot_39 ?_
          exact s_iret h hz hF rl_3 hW5 dX5_whyNot_40
      · have h := zif_f c3 h
        refine s_iconst hz dX5_whyNot_29 ?_
        exact s_iret h hz hF rl_2 hW dX5_whyNot_30
    · have h := zif_f c2 h
      refine s_iconst hz dX5_whyNot_19 ?_
      exact s_iret h hz hF rl_1 hW dX5_whyNot_20
  · have h := zif_f c1 h
    refine s_bipush hz dX5_whyNot_9 bp_9 ?_
    exact s_iret h hz hF rl_9 hW dX5_whyNot_11
def J_X5_put_33 (k2 : Int → HS → zO2) (v2 : Int) (S : HS) : zO2 :=
  zl (v2 + 1) fun x7 =>
  k2 x7 S
set_option maxHeartbeats 4000000 in
set_option maxRecDepth 20000 in
theorem TJ_X5_put_33 {k2 : Int → HS → zO2} {v2 : Int} {S : HS} {r : Int} {S' : HS} {z : Zt} (hz : zO z cX5_put RX5 3 shX) (hN : zN z 4) (hF : zFv z shX S') (hk2 : ∀ (w2 : Int) (S : HS), rng w2 → WR shX S → k2 w2 S = some (r, S') → zA z 2 [(0, aR 3), (1, aR 46), (2, aI w2)] [] S) (rv2 : rng v2) (hW : WR shX S) (h : J_X5_put_33 k2 v2 S = some (r, S')) : zA z 33 [(0, aR 3), (1, aR 46), (2, aI v2)] [] S := by
  unfold J_X5_put_33 at h
  obtain ⟨x7, ex7, rx7, h⟩ := zl_ex h
  refine s_iinc (k0 := 2) (y := x7) (l' := [(2, aI x7), (0, aR 3), (1, aR 46)]) hz hN dX5_put_33 rfl ex7.symm (by decide) rfl ?_
  refine s_goto 2 hz dX5_put_36 rfl ?_
  refine s_pick (l' := [(0, aR 3), (1, aR 46), (2, aI x7)]) [1, 2, 0] rfl ?_
  exact hk2 _ _ rx7 hW h
def L_X5_put_2 (k39 : HS → zO2) : Nat → Int → HS → zO2
  | 0, _, _ => none
  | n + 1, v2, S => 
    if S 46 7 ≤ v2 then (
      k39 S)
    else (
      zb (M_X5_sideTo v2 S) fun r2 S3 =>
      zb (M_X5_isSide r2 S3) fun r4 S5 =>
      if r4 = 0 then (
        J_X5_put_33 (L_X5_put_2 k39 n) v2 S5)
      else (
        zg ((0 : Int) ≤ r2 ∧ r2 < 412) <|
        zs (up S5 4 r2 (S5 3 3)) fun S9 =>
        J_X5_put_33 (L_X5_put_2 k39 n) v2 S9))
set_option maxHeartbeats 4000000 in
set_option maxRecDepth 20000 in
theorem TL_X5_put_2 {k39 : HS → zO2} {r : Int} {S' : HS} {z : Zt} (hz : zO z cX5_put RX5 3 shX) (hN : zN z 4) (hF : zFv z shX S') (hk39 : ∀ (S : HS), WR shX S → k39 S = some (r, S') → zA z 39 [(0, aR 3)] [] S) : ∀ (n : Nat) {v2 : Int} {S : HS}, rng v2 → WR shX S → L_X5_put_2 k39 n v2 S = some (r, S') → zA z 2 [(0, aR 3), (1, aR 46), (2, aI v2)] [] S := by
  intro n
  induction n with
  | zero =>
    intro _ _ _ _ h
    cases h
  | succ n ih =>
    intro v2 S rv2 hW h
    rw [L_X5_put_2.eq_2] at h
    refine s_iload_n 2 hz dX5_put_2 rfl ?_
    refine s_aload_n 1 hz dX5_put_3 rfl ?_
    refine s_getI (kz := 7) 7 hz fl_X5_56 sx46 rfl rfl dX5_put_4 ?_
    refine s_icmp_ge 39 hz rv2 (hW 46 _ sx46 7) dX5_put_7 rfl (fun c1 => ?_) (fun c1 => ?_)
    · have h := zif_t c1 h
      refine s_pick (l' := [(0, aR 3)]) [0] rfl ?_
      exact hk39 _ hW h
    · have h := zif_f c1 h
      refine s_aload_n 1 hz dX5_put_10 rfl ?_
      refine s_iload_n 2 hz dX5_put_11 rfl ?_
      obtain ⟨r2, S3, hc3, h⟩ := zb_of h
      refine s_callS [aR 46, aI v2] [] hz ml_X5_59 ss_yX5_sideTo (T_X5_sideTo rv2 hW hc3) (by decide) rfl rfl (Nat.le_of_ble_eq_true rfl) dX5_put_12 (fun rr2 hW3 => ?_)
      refine s_istore_n (l' := [(3, aI r2), (0, aR 3), (1, aR 46), (2, aI v2)]) hz hN dX5_put_15 (by decide) rfl ?_
      refine s_iload_n 0 hz dX5_put_16 rfl ?_
      obtain ⟨r4, S5, hc5, h⟩ := zb_of h
      refine s_callS [aI r2] [] hz ml_X5_63 ss_yX5_isSide (T_X5_isSide rr2 hW3 hc5) (by decide) rfl rfl (Nat.le_of_ble_eq_true rfl) dX5_put_17 (fun rr4 hW5 => ?_)
      refine s_if_eq 33 hz rr4 dX5_put_20 rfl (fun c6 => ?_) (fun c6 => ?_)
      · have h := zif_t c6 h
        refine s_pick (l' := [(0, aR 3), (1, aR 46), (2, aI v2)]) [1, 2, 3] rfl ?_
        exact TJ_X5_put_33 hz hN hF (fun _ _ => ih) rv2 hW5 h
      · have h := zif_f c6 h
        refine s_aload_n 1 hz dX5_put_23 rfl ?_
        refine s_getR 0 hz fl_X5_9 sx3 rfl (by decide) dX5_put_24 ?_
        refine s_iload_n 0 hz dX5_put_27 rfl ?_
        refine s_aload_n 1 hz dX5_put_28 rfl ?_
        refine s_getI (kz := 3) 3 hz fl_X5_21 sx3 rfl rfl dX5_put_29 ?_
        obtain ⟨g8, h⟩ := zg_of h
        obtain ⟨S9, eS9, h⟩ := zs_ex h
        have hW9 : WR shX S9 := by rw [eS9]; exact hW5.up (i := r2) sx4 (v := (S5 3 3)) (hW5 3 _ sx3 3)
        refine s_iast hz sx4 rfl (by decide) g8 dX5_put_32 ?_
        rw [← eS9]
        refine s_pick (l' := [(0, aR 3), (1, aR 46), (2, aI v2)]) [1, 2, 3] rfl ?_
        exact TJ_X5_put_33 hz hN hF (fun _ _ => ih) rv2 hW9 h
def M_X5_put (S : HS) : zO2 :=
  L_X5_put_2 (fun S10 =>
      zl ((S10 3 3) + 1) fun x11 =>
      zs (up S10 3 3 x11) fun S12 =>
      some (0, S12)) zBig 1 S
set_option maxHeartbeats 4000000 in
set_option maxRecDepth 20000 in
theorem T_X5_put {S S' : HS} {r : Int} (hW : WR shX S) (h : M_X5_put S = some (r, S')) : zV shX yX5_put cX5_put 4 3 [aR 3, aR 46] S S' := by
  refine zV_of (by decide +kernel) (Nat.le_of_ble_eq_true rfl) (fun z hz hN hF => ?_)
  have hz : zO z cX5_put RX5 3 shX := hz
  show zA z 0 [(0, aR 3), (1, aR 46)] [] S
  unfold M_X5_put at h
  refine s_iconst hz dX5_put_0 ?_
  refine s_istore_n (l' := [(2, aI 1), (0, aR 3), (1, aR 46)]) hz hN dX5_put_1 (by decide) rfl ?_
  refine s_pick (l' := [(0, aR 3), (1, aR 46), (2, aI 1)]) [1, 2, 0] rfl ?_
  refine TL_X5_put_2 hz hN hF ?_ zBig rl_1 hW h
  · clear h 
    intro S10 hW10 h
    refine s_aload_n 0 hz dX5_put_39 rfl ?_
    refine s_dup hz rfl dX5_put_40 ?_
    refine s_getI (kz := 3) 3 hz fl_X5_21 sx3 rfl rfl dX5_put_41 ?_
    refine s_iconst hz dX5_put_44 ?_
    refine s_iadd hz dX5_put_45 ?_
    obtain ⟨x11, ex11, rx11, h⟩ := zl_ex h
    rw [← ex11]
    obtain ⟨S12, eS12, h⟩ := zs_ex h
    have hW12 : WR shX S12 := by rw [eS12]; exact hW10.up (i := 3) sx3 (v := x11) rx11
    refine s_putI (kz := 3) 3 hz fp_X5_21 sx3 rfl rfl dX5_put_46 ?_
    rw [← eS12]
    exact s_vret h hz hF hW12 dX5_put_49
def M_X11_isCell (a1 : Int) (S : HS) : zO2 :=
  if a1 < 0 then (
    some (0, S))
  else (
    if 192 ≤ a1 then (
      some (0, S))
    else (
      some (1, S)))
set_option maxHeartbeats 4000000 in
set_option maxRecDepth 20000 in
theorem T_X11_isCell {a1 : Int} {S S' : HS} {r : Int} (ra1 : rng a1) (hW : WR shX S) (h : M_X11_isCell a1 S = some (r, S')) : zR shX yX11_isCell cX11_isCell 1  .boolean 1 [aI a1] S r S' := by
  refine zR_of (by decide +kernel) (Nat.le_of_ble_eq_true rfl) (fun z hz hN hF => ?_)
  have hz : zO z cX11_isCell RX11 1 shX := hz
  show zA z 0 [(0, aI a1)] [] S
  unfold M_X11_isCell at h
  refine s_iload_n 0 hz dX11_isCell_0 rfl ?_
  refine s_if_lt 15 hz ra1 dX11_isCell_1 rfl (fun c1 => ?_) (fun c1 => ?_)
  · have h := zif_t c1 h
    refine s_iconst hz dX11_isCell_15 ?_
    exact s_zret h hz hF (by decide) hW dX11_isCell_16
  · have h := zif_f c1 h
    refine s_iload_n 0 hz dX11_isCell_4 rfl ?_
    refine s_sipush hz dX11_isCell_5 sp_192 ?_
    refine s_icmp_ge 15 hz ra1 rl_192 dX11_isCell_8 rfl (fun c2 => ?_) (fun c2 => ?_)
    · have h := zif_t c2 h
      refine s_iconst hz dX11_isCell_15 ?_
      exact s_zret h hz hF (by decide) hW dX11_isCell_16
    · have h := zif_f c2 h
      refine s_iconst hz dX11_isCell_11 ?_
      refine s_goto 16 hz dX11_isCell_12 rfl ?_
      exact s_zret h hz hF (by decide) hW dX11_isCell_16
def J_X6_put_159 (k100 : Int → HS → zO2) (v2 : Int) (v3 : Int) (S : HS) : zO2 :=
  zl (v3 + 1) fun x22 =>
  k100 x22 S
set_option maxHeartbeats 4000000 in
set_option maxRecDepth 20000 in
theorem TJ_X6_put_159 {k100 : Int → HS → zO2} {v2 : Int} {v3 : Int} {S : HS} {r : Int} {S' : HS} {z : Zt} (hz : zO z cX6_put RX6 2 shX) (hN : zN z 5) (hF : zFv z shX S') (hk100 : ∀ (w3 : Int) (S : HS), rng w3 → WR shX S → k100 w3 S = some (r, S') → zA z 100 [(0, aR 7), (1, aR 46), (2, aI v2), (3, aI w3)] [] S) (rv2 : rng v2) (rv3 : rng v3) (hW : WR shX S) (h : J_X6_put_159 k100 v2 v3 S = some (r, S')) : zA z 159 [(0, aR 7), (1, aR 46), (2, aI v2), (3, aI v3)] [] S := by
  unfold J_X6_put_159 at h
  obtain ⟨x22, ex22, rx22, h⟩ := zl_ex h
  refine s_iinc (k0 := 3) (y := x22) (l' := [(3, aI x22), (0, aR 7), (1, aR 46), (2, aI v2)]) hz hN dX6_put_159 rfl ex22.symm (by decide) rfl ?_
  refine s_goto 100 hz dX6_put_162 rfl ?_
  refine s_pick (l' := [(0, aR 7), (1, aR 46), (2, aI v2), (3, aI x22)]) [1, 2, 3, 0] rfl ?_
  exact hk100 _ _ rx22 hW h
def L_X6_put_100 (k165 : HS → zO2) (p2 : Int) : Nat → Int → HS → zO2
  | 0, _, _ => none
  | n + 1, v3, S => 
    if S 46 7 ≤ v3 then (
      k165 S)
    else (
      zb (M_X10_pointAt v3 S) fun r17 S18 =>
      zb (M_X11_isCell r17 S18) fun r19 S20 =>
      if r19 = 0 then (
        J_X6_put_159 (L_X6_put_100 k165 p2 n) p2 v3 S20)
      else (
        zl (p2 + v3) fun x23 =>
        zb (M_X11_isCell x23 S20) fun r24 S25 =>
        if r24 = 0 then (
          J_X6_put_159 (L_X6_put_100 k165 p2 n) p2 v3 S25)
        else (
          zg ((0 : Int) ≤ p2 + v3 ∧ p2 + v3 < 192) <|
          zs (up S25 8 (p2 + v3) r17) fun S28 =>
          zl ((200 * (S28 7 11)) + v3) fun x29 =>
          zg ((0 : Int) ≤ r17 ∧ r17 < 192) <|
          zs (up S28 11 r17 x29) fun S31 =>
          J_X6_put_159 (L_X6_put_100 k165 p2 n) p2 v3 S31)))
set_option maxHeartbeats 4000000 in
set_option maxRecDepth 20000 in
theorem TL_X6_put_100 {k165 : HS → zO2} {p2 : Int} {r : Int} {S' : HS} {z : Zt} (hz : zO z cX6_put RX6 2 shX) (hN : zN z 5) (hF : zFv z shX S') (hk165 : ∀ (S : HS), WR shX S → k165 S = some (r, S') → zA z 165 [(0, aR 7)] [] S) (rp2 : rng p2) : ∀ (n : Nat) {v3 : Int} {S : HS}, rng v3 → WR shX S → L_X6_put_100 k165 p2 n v3 S = some (r, S') → zA z 100 [(0, aR 7), (1, aR 46), (2, aI p2), (3, aI v3)] [] S := by
  intro n
  induction n with
  | zero =>
    intro _ _ _ _ h
    cases h
  | succ n ih =>
    intro v3 S rv3 hW h
    rw [L_X6_put_100.eq_2] at h
    refine s_iload_n 3 hz dX6_put_100 rfl ?_
    refine s_aload_n 1 hz dX6_put_101 rfl ?_
    refine s_getI (kz := 7) 7 hz fl_X6_75 sx46 rfl rfl dX6_put_102 ?_
    refine s_icmp_ge 165 hz rv3 (hW 46 _ sx46 7) dX6_put_105 rfl (fun c16 => ?_) (fun c16 => ?_)
    · have h := zif_t c16 h
      refine s_pick (l' := [(0, aR 7)]) [0] rfl ?_
      exact hk165 _ hW h
    · have h := zif_f c16 h
      refine s_aload_n 1 hz dX6_put_108 rfl ?_
      refine s_iload_n 3 hz dX6_put_109 rfl ?_
      obtain ⟨r17, S18, hc18, h⟩ := zb_of h
      refine s_callV [aI v3] [] hz ml_X6_89 sv_yX10_pointAt (T_X10_pointAt rv3 hW hc18) (by decide) rfl sx46 rfl rfl (Nat.le_of_ble_eq_true rfl) dX6_put_110 (fun rr17 hW18 => ?_)
      refine s_istore (l' := [(4, aI r17), (0, aR 7), (1, aR 46), (2, aI p2), (3, aI v3)]) hz hN dX6_put_113 (by decide) rfl ?_
      refine s_iload 0 hz dX6_put_115 rfl ?_
      obtain ⟨r19, S20, hc20, h⟩ := zb_of h
      refine s_callS [aI r17] [] hz ml_X6_72 ss_yX11_isCell (T_X11_isCell rr17 hW18 hc20) (by decide) rfl rfl (Nat.le_of_ble_eq_true rfl) dX6_put_117 (fun rr19 hW20 => ?_)
      refine s_if_eq 159 hz rr19 dX6_put_120 rfl (fun c21 => ?_) (fun c21 => ?_)
      · have h := zif_t c21 h
        refine s_pick (l' := [(0, aR 7), (1, aR 46), (2, aI p2), (3, aI v3)]) [1, 2, 3, 4] rfl ?_
        exact TJ_X6_put_159 hz hN hF (fun _ _ => ih) rp2 rv3 hW20 h
      · have h := zif_f c21 h
        refine s_iload_n 3 hz dX6_put_123 rfl ?_
        refine s_iload_n 4 hz dX6_put_124 rfl ?_
        refine s_iadd hz dX6_put_125 ?_
        obtain ⟨x23, ex23, rx23, h⟩ := zl_ex h
        rw [← ex23]
        obtain ⟨r24, S25, hc25, h⟩ := zb_of h
        refine s_callS [aI x23] [] hz ml_X6_72 ss_yX11_isCell (T_X11_isCell rx23 hW20 hc25) (by decide) rfl rfl (Nat.le_of_ble_eq_true rfl) dX6_put_126 (fun rr24 hW25 => ?_)
        refine s_if_eq 159 hz rr24 dX6_put_129 rfl (fun c26 => ?_) (fun c26 => ?_)
        · have h := zif_t c26 h
          refine s_pick (l' := [(0, aR 7), (1, aR 46), (2, aI p2), (3, aI v3)]) [1, 2, 3, 4] rfl ?_
          exact TJ_X6_put_159 hz hN hF (fun _ _ => ih) rp2 rv3 hW25 h
        · have h := zif_f c26 h
          refine s_aload_n 1 hz dX6_put_132 rfl ?_
          refine s_getR 2 hz fl_X6_9 sx7 rfl (by decide) dX6_put_133 ?_
          refine s_iload_n 3 hz dX6_put_136 rfl ?_
          refine s_iload_n 4 hz dX6_put_137 rfl ?_
          refine s_iadd hz dX6_put_138 ?_
          refine s_iload 0 hz dX6_put_139 rfl ?_
          obtain ⟨g27, h⟩ := zg_of h
          obtain ⟨S28, eS28, h⟩ := zs_ex h
          have hW28 : WR shX S28 := by rw [eS28]; exact hW25.up (i := (p2 + v3)) sx8 (v := r17) rr17
          refine s_iast hz sx8 rfl (by decide) g27 dX6_put_141 ?_
          rw [← eS28]
          refine s_aload_n 1 hz dX6_put_142 rfl ?_
          refine s_getR 5 hz fl_X6_21 sx7 rfl (by decide) dX6_put_143 ?_
          refine s_iload 0 hz dX6_put_146 rfl ?_
          refine s_sipush hz dX6_put_148 sp_200 ?_
          refine s_aload_n 1 hz dX6_put_151 rfl ?_
          refine s_getI (kz := 11) 11 hz fl_X6_39 sx7 rfl rfl dX6_put_152 ?_
          refine s_imul hz dX6_put_155 ?_
          refine s_iload_n 4 hz dX6_put_156 rfl ?_
          refine s_iadd hz dX6_put_157 ?_
          obtain ⟨x29, ex29, rx29, h⟩ := zl_ex h
          rw [← ex29]
          obtain ⟨g30, h⟩ := zg_of h
          obtain ⟨S31, eS31, h⟩ := zs_ex h
          have hW31 : WR shX S31 := by rw [eS31]; exact hW28.up (i := r17) sx11 (v := x29) rx29
          refine s_iast hz sx11 rfl (by decide) g30 dX6_put_158 ?_
          rw [← eS31]
          refine s_pick (l' := [(0, aR 7), (1, aR 46), (2, aI p2), (3, aI v3)]) [1, 2, 3, 4] rfl ?_
          exact TJ_X6_put_159 hz hN hF (fun _ _ => ih) rp2 rv3 hW31 h
def J_X6_put_44 (t0 : Int) (S : HS) : zO2 :=
  zg ((0 : Int) ≤ S 7 11 ∧ S 7 11 < 24) <|
  zs (up S 9 (S 7 11) t0) fun S7 =>
  zg ((0 : Int) ≤ S7 7 11 ∧ S7 7 11 < 24) <|
  zs (up S7 10 (S7 7 11) (S7 46 7)) fun S9 =>
  zg ((0 : Int) ≤ S9 7 11 ∧ S9 7 11 < 24) <|
  zs (up S9 13 (S9 7 11) 0) fun S11 =>
  zg ((0 : Int) ≤ S11 7 11 ∧ S11 7 11 < 24) <|
  zs (up S11 14 (S11 7 11) (-1)) fun S13 =>
  zg ((0 : Int) ≤ S13 7 11 ∧ S13 7 11 < 24) <|
  zs (up S13 15 (S13 7 11) (-1)) fun S15 =>
  L_X6_put_100 (fun S32 =>
      zl ((S32 7 11) + 1) fun x33 =>
      zs (up S32 7 11 x33) fun S34 =>
      some (0, S34)) t0 zBig 0 S15
set_option maxHeartbeats 4000000 in
set_option maxRecDepth 20000 in
theorem TJ_X6_put_44 {t0 : Int} {S : HS} {r : Int} {S' : HS} {z : Zt} (hz : zO z cX6_put RX6 2 shX) (hN : zN z 5) (hF : zFv z shX S') (rt0 : rng t0) (hW : WR shX S) (h : J_X6_put_44 t0 S = some (r, S')) : zA z 44 [(0, aR 7), (1, aR 46)] [aI t0] S := by
  unfold J_X6_put_44 at h
  refine s_istore_n (l' := [(2, aI t0), (0, aR 7), (1, aR 46)]) hz hN dX6_put_44 (by decide) rfl ?_
  refine s_aload_n 1 hz dX6_put_45 rfl ?_
  refine s_getR 3 hz fl_X6_15 sx7 rfl (by decide) dX6_put_46 ?_
  refine s_aload_n 1 hz dX6_put_49 rfl ?_
  refine s_getI (kz := 11) 11 hz fl_X6_39 sx7 rfl rfl dX6_put_50 ?_
  refine s_iload_n 0 hz dX6_put_53 rfl ?_
  obtain ⟨g6, h⟩ := zg_of h
  obtain ⟨S7, eS7, h⟩ := zs_ex h
  have hW7 : WR shX S7 := by rw [eS7]; exact hW.up (i := (S 7 11)) sx9 (v := t0) rt0
  refine s_iast hz sx9 rfl (by decide) g6 dX6_put_54 ?_
  rw [← eS7]
  refine s_aload_n 1 hz dX6_put_55 rfl ?_
  refine s_getR 4 hz fl_X6_18 sx7 rfl (by decide) dX6_put_56 ?_
  refine s_aload_n 1 hz dX6_put_59 rfl ?_
  refine s_getI (kz := 11) 11 hz fl_X6_39 sx7 rfl rfl dX6_put_60 ?_
  refine s_aload_n 2 hz dX6_put_63 rfl ?_
  refine s_getI (kz := 7) 7 hz fl_X6_75 sx46 rfl rfl dX6_put_64 ?_
  obtain ⟨g8, h⟩ := zg_of h
  obtain ⟨S9, eS9, h⟩ := zs_ex h
  have hW9 : WR shX S9 := by rw [eS9]; exact hW7.up (i := (S7 7 11)) sx10 (v := (S7 46 7)) (hW7 46 _ sx46 7)
  refine s_iast hz sx10 rfl (by decide) g8 dX6_put_67 ?_
  rw [← eS9]
  refine s_aload_n 1 hz dX6_put_68 rfl ?_
  refine s_getR 7 hz fl_X6_27 sx7 rfl (by decide) dX6_put_69 ?_
  refine s_aload_n 1 hz dX6_put_72 rfl ?_
  refine s_getI (kz := 11) 11 hz fl_X6_39 sx7 rfl rfl dX6_put_73 ?_
  refine s_iconst hz dX6_put_76 ?_
  obtain ⟨g10, h⟩ := zg_of h
  obtain ⟨S11, eS11, h⟩ := zs_ex h
  have hW11 : WR shX S11 := by rw [eS11]; exact hW9.up (i := (S9 7 11)) sx13 (v := 0) rl_0
  refine s_iast hz sx13 rfl (by decide) g10 dX6_put_77 ?_
  rw [← eS11]
  refine s_aload_n 1 hz dX6_put_78 rfl ?_
  refine s_getR 8 hz fl_X6_30 sx7 rfl (by decide) dX6_put_79 ?_
  refine s_aload_n 1 hz dX6_put_82 rfl ?_
  refine s_getI (kz := 11) 11 hz fl_X6_39 sx7 rfl rfl dX6_put_83 ?_
  refine s_iconst hz dX6_put_86 ?_
  obtain ⟨g12, h⟩ := zg_of h
  obtain ⟨S13, eS13, h⟩ := zs_ex h
  have hW13 : WR shX S13 := by rw [eS13]; exact hW11.up (i := (S11 7 11)) sx14 (v := (-1)) rl_m1
  refine s_iast hz sx14 rfl (by decide) g12 dX6_put_87 ?_
  rw [← eS13]
  refine s_aload_n 1 hz dX6_put_88 rfl ?_
  refine s_getR 9 hz fl_X6_33 sx7 rfl (by decide) dX6_put_89 ?_
  refine s_aload_n 1 hz dX6_put_92 rfl ?_
  refine s_getI (kz := 11) 11 hz fl_X6_39 sx7 rfl rfl dX6_put_93 ?_
  refine s_iconst hz dX6_put_96 ?_
  obtain ⟨g14, h⟩ := zg_of h
  obtain ⟨S15, eS15, h⟩ := zs_ex h
  have hW15 : WR shX S15 := by rw [eS15]; exact hW13.up (i := (S13 7 11)) sx15 (v := (-1)) rl_m1
  refine s_iast hz sx15 rfl (by decide) g14 dX6_put_97 ?_
  rw [← eS15]
  refine s_iconst hz dX6_put_98 ?_
  refine s_istore_n (l' := [(3, aI 0), (2, aI t0), (0, aR 7), (1, aR 46)]) hz hN dX6_put_99 (by decide) rfl ?_
  refine s_pick (l' := [(0, aR 7), (1, aR 46), (2, aI t0), (3, aI 0)]) [2, 3, 1, 0] rfl ?_
  refine TL_X6_put_100 hz hN hF ?_ rt0 zBig rl_0 hW15 h
  · clear h 
    intro S32 hW32 h
    refine s_aload_n 0 hz dX6_put_165 rfl ?_
    refine s_dup hz rfl dX6_put_166 ?_
    refine s_getI (kz := 11) 11 hz fl_X6_39 sx7 rfl rfl dX6_put_167 ?_
    refine s_iconst hz dX6_put_170 ?_
    refine s_iadd hz dX6_put_171 ?_
    obtain ⟨x33, ex33, rx33, h⟩ := zl_ex h
    rw [← ex33]
    obtain ⟨S34, eS34, h⟩ := zs_ex h
    have hW34 : WR shX S34 := by rw [eS34]; exact hW32.up (i := 11) sx7 (v := x33) rx33
    refine s_putI (kz := 11) 11 hz fp_X6_39 sx7 rfl rfl dX6_put_172 ?_
    rw [← eS34]
    exact s_vret h hz hF hW34 dX6_put_175
def M_X6_put (S : HS) : zO2 :=
  if S 7 11 < 24 then (
    if S 7 11 = 0 then (
      J_X6_put_44 0 S)
    else (
      zg ((0 : Int) ≤ (S 7 11) - 1 ∧ (S 7 11) - 1 < 24) <|
      zg ((0 : Int) ≤ (S 7 11) - 1 ∧ (S 7 11) - 1 < 24) <|
      zl ((S 9 ((S 7 11) - 1)) + (S 10 ((S 7 11) - 1))) fun x5 =>
      J_X6_put_44 x5 S))
  else (
    some (0, S))
set_option maxHeartbeats 4000000 in
set_option maxRecDepth 20000 in
theorem T_X6_put {S S' : HS} {r : Int} (hW : WR shX S) (h : M_X6_put S = some (r, S')) : zV shX yX6_put cX6_put 5 2 [aR 7, aR 46] S S' := by
  refine zV_of (by decide +kernel) (Nat.le_of_ble_eq_true rfl) (fun z hz hN hF => ?_)
  have hz : zO z cX6_put RX6 2 shX := hz
  show zA z 0 [(0, aR 7), (1, aR 46)] [] S
  unfold M_X6_put at h
  refine s_aload_n 0 hz dX6_put_0 rfl ?_
  refine s_getI (kz := 11) 11 hz fl_X6_39 sx7 rfl rfl dX6_put_1 ?_
  refine s_bipush hz dX6_put_4 bp_24 ?_
  refine s_icmp_lt 10 hz (hW 7 _ sx7 11) rl_24 dX6_put_6 rfl (fun c1 => ?_) (fun c1 => ?_)
  · have h := zif_t c1 h
    refine s_aload_n 0 hz dX6_put_10 rfl ?_
    refine s_getI (kz := 11) 11 hz fl_X6_39 sx7 rfl rfl dX6_put_11 ?_
    refine s_if_ne 21 hz (hW 7 _ sx7 11) dX6_put_14 rfl (fun c2 => ?_) (fun c2 => ?_)
    · have h := zif_f c2 h
      refine s_aload_n 0 hz dX6_put_21 rfl ?_
      refine s_getR 3 hz fl_X6_15 sx7 rfl (by decide) dX6_put_22 ?_
      refine s_aload_n 0 hz dX6_put_25 rfl ?_
      refine s_getI (kz := 11) 11 hz fl_X6_39 sx7 rfl rfl dX6_put_26 ?_
      refine s_iconst hz dX6_put_29 ?_
      refine s_isub hz dX6_put_30 ?_
      obtain ⟨g3, h⟩ := zg_of h
      refine s_iald hz sx9 rfl (by decide) g3 dX6_put_31 ?_
      refine s_aload_n 0 hz dX6_put_32 rfl ?_
      refine s_getR 4 hz fl_X6_18 sx7 rfl (by decide) dX6_put_33 ?_
      refine s_aload_n 0 hz dX6_put_36 rfl ?_
      refine s_getI (kz := 11) 11 hz fl_X6_39 sx7 rfl rfl dX6_put_37 ?_
      refine s_iconst hz dX6_put_40 ?_
      refine s_isub hz dX6_put_41 ?_
      obtain ⟨g4, h⟩ := zg_of h
      refine s_iald hz sx10 rfl (by decide) g4 dX6_put_42 ?_
      refine s_iadd hz dX6_put_43 ?_
      obtain ⟨x5, ex5, rx5, h⟩ := zl_ex h
      rw [← ex5]
      exact TJ_X6_put_44 hz hN hF rx5 hW h
    · have h := zif_t c2 h
      refine s_iconst hz dX6_put_17 ?_
      refine s_goto 44 hz dX6_put_18 rfl ?_
      exact TJ_X6_put_44 hz hN hF rl_0 hW h
  · have h := zif_f c1 h
    exact s_vret h hz hF hW dX6_put_9
def M_X2_isScalp (a1 : Int) (S : HS) : zO2 :=
  zb (M_X11_isCell a1 S) fun r1 S2 =>
  if r1 = 0 then (
    some (0, S2))
  else (
    zg ((0 : Int) ≤ a1 ∧ a1 < 192) <|
    if S2 2 a1 = (-1) then (
      some (0, S2))
    else (
      some (1, S2)))
set_option maxHeartbeats 4000000 in
set_option maxRecDepth 20000 in
theorem T_X2_isScalp {a1 : Int} {S S' : HS} {r : Int} (ra1 : rng a1) (hW : WR shX S) (h : M_X2_isScalp a1 S = some (r, S')) : zR shX yX2_isScalp cX2_isScalp 2  .boolean 2 [aR 1, aI a1] S r S' := by
  refine zR_of (by decide +kernel) (Nat.le_of_ble_eq_true rfl) (fun z hz hN hF => ?_)
  have hz : zO z cX2_isScalp RX2 2 shX := hz
  show zA z 0 [(0, aR 1), (1, aI a1)] [] S
  unfold M_X2_isScalp at h
  refine s_iload_n 1 hz dX2_isScalp_0 rfl ?_
  obtain ⟨r1, S2, hc2, h⟩ := zb_of h
  refine s_callS [aI a1] [] hz ml_X2_28 ss_yX11_isCell (T_X11_isCell ra1 hW hc2) (by decide) rfl rfl (Nat.le_of_ble_eq_true rfl) dX2_isScalp_1 (fun rr1 hW2 => ?_)
  refine s_if_eq 21 hz rr1 dX2_isScalp_4 rfl (fun c3 => ?_) (fun c3 => ?_)
  · have h := zif_t c3 h
    refine s_iconst hz dX2_isScalp_21 ?_
    exact s_zret h hz hF (by decide) hW2 dX2_isScalp_22
  · have h := zif_f c3 h
    refine s_aload_n 0 hz dX2_isScalp_7 rfl ?_
    refine s_getR 0 hz fl_X2_9 sx1 rfl (by decide) dX2_isScalp_8 ?_
    refine s_iload_n 1 hz dX2_isScalp_11 rfl ?_
    obtain ⟨g4, h⟩ := zg_of h
    refine s_iald hz sx2 rfl (by decide) g4 dX2_isScalp_12 ?_
    refine s_iconst hz dX2_isScalp_13 ?_
    refine s_icmp_eq 21 hz (hW2 2 _ sx2 a1) rl_m1 dX2_isScalp_14 rfl (fun c5 => ?_) (fun c5 => ?_)
    · have h := zif_t c5 h
      refine s_iconst hz dX2_isScalp_21 ?_
      exact s_zret h hz hF (by decide) hW2 dX2_isScalp_22
    · have h := zif_f c5 h
      refine s_iconst hz dX2_isScalp_17 ?_
      refine s_goto 22 hz dX2_isScalp_18 rfl ?_
      exact s_zret h hz hF (by decide) hW2 dX2_isScalp_22
def J_X5_sideOfCell_9 (v0 : Int) (v1 : Int) (S : HS) : zO2 :=
  if v1 = 0 then (
    some (v0, S))
  else (
    zl (v0 + 16) fun x3 =>
    some (x3, S))
set_option maxHeartbeats 4000000 in
set_option maxRecDepth 20000 in
theorem TJ_X5_sideOfCell_9 {v0 : Int} {v1 : Int} {S : HS} {r : Int} {S' : HS} {z : Zt} (hz : zO z cX5_sideOfCell RX5 1 shX) (hN : zN z 3) (hF : zFi z shX .int r S') (rv0 : rng v0) (rv1 : rng v1) (hW : WR shX S) (h : J_X5_sideOfCell_9 v0 v1 S = some (r, S')) : zA z 9 [(0, aI v0), (1, aI v1)] [] S := by
  unfold J_X5_sideOfCell_9 at h
  refine s_iload_n 1 hz dX5_sideOfCell_9 rfl ?_
  refine s_if_ne 17 hz rv1 dX5_sideOfCell_10 rfl (fun c2 => ?_) (fun c2 => ?_)
  · have h := zif_f c2 h
    refine s_iload_n 0 hz dX5_sideOfCell_17 rfl ?_
    refine s_bipush hz dX5_sideOfCell_18 bp_16 ?_
    refine s_iadd hz dX5_sideOfCell_20 ?_
    obtain ⟨x3, ex3, rx3, h⟩ := zl_ex h
    rw [← ex3]
    exact s_iret h hz hF rx3 hW dX5_sideOfCell_21
  · have h := zif_t c2 h
    refine s_iload_n 0 hz dX5_sideOfCell_13 rfl ?_
    refine s_goto 21 hz dX5_sideOfCell_14 rfl ?_
    exact s_iret h hz hF rv0 hW dX5_sideOfCell_21
def M_X5_sideOfCell (a1 : Int) (a2 : Int) (S : HS) : zO2 :=
  if a2 = 0 then (
    J_X5_sideOfCell_9 a1 a2 S)
  else (
    if a2 = 1 then (
      J_X5_sideOfCell_9 a1 a2 S)
    else (
      zg ((0 : Int) ≤ a1 ∧ (0 : Int) < 16) <|
      zg ((0 : Int) ≤ a1 ∧ (0 : Int) < 16) <|
      zl ((208 + (17 * (a1 / 16))) + (a1 % 16)) fun x7 =>
      if a2 = 2 then (
        some (x7, S))
      else (
        zl (x7 + 1) fun x9 =>
        some (x9, S))))
set_option maxHeartbeats 4000000 in
set_option maxRecDepth 20000 in
theorem T_X5_sideOfCell {a1 : Int} {a2 : Int} {S S' : HS} {r : Int} (ra1 : rng a1) (ra2 : rng a2) (hW : WR shX S) (h : M_X5_sideOfCell a1 a2 S = some (r, S')) : zR shX yX5_sideOfCell cX5_sideOfCell 3  .int 1 [aI a1, aI a2] S r S' := by
  refine zR_of (by decide +kernel) (Nat.le_of_ble_eq_true rfl) (fun z hz hN hF => ?_)
  have hz : zO z cX5_sideOfCell RX5 1 shX := hz
  show zA z 0 [(0, aI a1), (1, aI a2)] [] S
  unfold M_X5_sideOfCell at h
  refine s_iload_n 1 hz dX5_sideOfCell_0 rfl ?_
  refine s_if_eq 9 hz ra2 dX5_sideOfCell_1 rfl (fun c1 => ?_) (fun c1 => ?_)
  · have h := zif_t c1 h
    exact TJ_X5_sideOfCell_9 hz hN hF ra1 ra2 hW h
  · have h := zif_f c1 h
    refine s_iload_n 1 hz dX5_sideOfCell_4 rfl ?_
    refine s_iconst hz dX5_sideOfCell_5 ?_
    refine s_icmp_ne 22 hz ra2 rl_1 dX5_sideOfCell_6 rfl (fun c4 => ?_) (fun c4 => ?_)
    · have h := zif_f c4 h
      refine s_sipush hz dX5_sideOfCell_22 sp_208 ?_
      refine s_bipush hz dX5_sideOfCell_25 bp_17 ?_
      refine s_iload_n 0 hz dX5_sideOfCell_27 rfl ?_
      refine s_bipush hz dX5_sideOfCell_28 bp_16 ?_
      obtain ⟨g5, h⟩ := zg_of h
      refine s_idiv hz g5.1 g5.2 ra1 rl_16 dX5_sideOfCell_30 ?_
      refine s_imul hz dX5_sideOfCell_31 ?_
      refine s_iadd hz dX5_sideOfCell_32 ?_
      refine s_iload_n 0 hz dX5_sideOfCell_33 rfl ?_
      refine s_bipush hz dX5_sideOfCell_34 bp_16 ?_
      obtain ⟨g6, h⟩ := zg_of h
      refine s_irem hz g6.1 g6.2 ra1 rl_16 dX5_sideOfCell_36 ?_
      refine s_iadd hz dX5_sideOfCell_37 ?_
      obtain ⟨x7, ex7, rx7, h⟩ := zl_ex h
      rw [← ex7]
      refine s_istore_n (l' := [(2, aI x7), (0, aI a1), (1, aI a2)]) hz hN dX5_sideOfCell_38 (by decide) rfl ?_
      refine s_iload_n 2 hz dX5_sideOfCell_39 rfl ?_
      refine s_iconst hz dX5_sideOfCell_40 ?_
      refine s_icmp_ne 48 hz ra2 rl_2 dX5_sideOfCell_41 rfl (fun c8 => ?_) (fun c8 => ?_)
      · have h := zif_f c8 h
        refine s_iload_n 0 hz dX5_sideOfCell_48 rfl ?_
        refine s_iconst hz dX5_sideOfCell_49 ?_
        refine s_iadd hz dX5_sideOfCell_50 ?_
        obtain ⟨x9, ex9, rx9, h⟩ := zl_ex h
        rw [← ex9]
        exact s_iret h hz hF rx9 hW dX5_sideOfCell_51
      · have h := zif_t c8 h
        refine s_iload_n 0 hz dX5_sideOfCell_44 rfl ?_
        refine s_goto 51 hz dX5_sideOfCell_45 rfl ?_
        exact s_iret h hz hF rx7 hW dX5_sideOfCell_51
    · have h := zif_t c4 h
      exact TJ_X5_sideOfCell_9 hz hN hF ra1 ra2 hW h
def M_X5_isParted (a1 : Int) (a2 : Int) (S : HS) : zO2 :=
  zb (M_X11_isCell a1 S) fun r1 S2 =>
  if r1 = 0 then (
    some (0, S2))
  else (
    zb (M_X5_sideOfCell a1 a2 S2) fun r4 S5 =>
    zb (M_X5_hasParting r4 S5) fun r6 S7 =>
    if r6 = 0 then (
      some (0, S7))
    else (
      some (1, S7)))
set_option maxHeartbeats 4000000 in
set_option maxRecDepth 20000 in
theorem T_X5_isParted {a1 : Int} {a2 : Int} {S S' : HS} {r : Int} (ra1 : rng a1) (ra2 : rng a2) (hW : WR shX S) (h : M_X5_isParted a1 a2 S = some (r, S')) : zR shX yX5_isParted cX5_isParted 3  .boolean 2 [aR 3, aI a1, aI a2] S r S' := by
  refine zR_of (by decide +kernel) (Nat.le_of_ble_eq_true rfl) (fun z hz hN hF => ?_)
  have hz : zO z cX5_isParted RX5 2 shX := hz
  show zA z 0 [(0, aR 3), (1, aI a1), (2, aI a2)] [] S
  unfold M_X5_isParted at h
  refine s_iload_n 1 hz dX5_isParted_0 rfl ?_
  obtain ⟨r1, S2, hc2, h⟩ := zb_of h
  refine s_callS [aI a1] [] hz ml_X5_31 ss_yX11_isCell (T_X11_isCell ra1 hW hc2) (by decide) rfl rfl (Nat.le_of_ble_eq_true rfl) dX5_isParted_1 (fun rr1 hW2 => ?_)
  refine s_if_eq 23 hz rr1 dX5_isParted_4 rfl (fun c3 => ?_) (fun c3 => ?_)
  · have h := zif_t c3 h
    refine s_iconst hz dX5_isParted_23 ?_
    exact s_zret h hz hF (by decide) hW2 dX5_isParted_24
  · have h := zif_f c3 h
    refine s_aload_n 0 hz dX5_isParted_7 rfl ?_
    refine s_iload_n 1 hz dX5_isParted_8 rfl ?_
    refine s_iload_n 2 hz dX5_isParted_9 rfl ?_
    obtain ⟨r4, S5, hc5, h⟩ := zb_of h
    refine s_callS [aI a1, aI a2] [aR 3] hz ml_X5_35 ss_yX5_sideOfCell (T_X5_sideOfCell ra1 ra2 hW2 hc5) (by decide) rfl rfl (Nat.le_of_ble_eq_true rfl) dX5_isParted_10 (fun rr4 hW5 => ?_)
    obtain ⟨r6, S7, hc7, h⟩ := zb_of h
    refine s_callV [aI r4] [] hz ml_X5_39 sv_yX5_hasParting (T_X5_hasParting rr4 hW5 hc7) (by decide) rfl sx3 rfl rfl (Nat.le_of_ble_eq_true rfl) dX5_isParted_13 (fun rr6 hW7 => ?_)
    refine s_if_eq 23 hz rr6 dX5_isParted_16 rfl (fun c8 => ?_) (fun c8 => ?_)
    · have h := zif_t c8 h
      refine s_iconst hz dX5_isParted_23 ?_
      exact s_zret h hz hF (by decide) hW7 dX5_isParted_24
    · have h := zif_f c8 h
      refine s_iconst hz dX5_isParted_19 ?_
      refine s_goto 24 hz dX5_isParted_20 rfl ?_
      exact s_zret h hz hF (by decide) hW7 dX5_isParted_24
def J_X6_whyNotCell_55 (v3 : Int) (S : HS) : zO2 :=
  zg ((0 : Int) ≤ v3 ∧ v3 < 192) <|
  if S 11 v3 = (-1) then (
    zg ((0 : Int) ≤ v3 ∧ v3 < 192) <|
    if S 16 v3 ≤ 0 then (
      zg ((0 : Int) ≤ v3 ∧ v3 < 192) <|
      zl ((S 16 v3) + 1) fun x15 =>
      zg ((0 : Int) ≤ v3 ∧ v3 < 192) <|
      zs (up S 16 v3 x15) fun S17 =>
      some ((-1), S17))
    else (
      some (7, S)))
  else (
    some (7, S))
set_option maxHeartbeats 4000000 in
set_option maxRecDepth 20000 in
theorem TJ_X6_whyNotCell_55 {v3 : Int} {S : HS} {r : Int} {S' : HS} {z : Zt} (hz : zO z cX6_whyNotCell RX6 3 shX) (hN : zN z 4) (hF : zFi z shX .int r S') (rv3 : rng v3) (hW : WR shX S) (h : J_X6_whyNotCell_55 v3 S = some (r, S')) : zA z 55 [(0, aR 7), (3, aI v3)] [] S := by
  unfold J_X6_whyNotCell_55 at h
  refine s_aload_n 0 hz dX6_whyNotCell_55 rfl ?_
  refine s_getR 5 hz fl_X6_21 sx7 rfl (by decide) dX6_whyNotCell_56 ?_
  refine s_iload_n 1 hz dX6_whyNotCell_59 rfl ?_
  obtain ⟨g10, h⟩ := zg_of h
  refine s_iald hz sx11 rfl (by decide) g10 dX6_whyNotCell_60 ?_
  refine s_iconst hz dX6_whyNotCell_61 ?_
  refine s_icmp_ne 74 hz (hW 11 _ sx11 v3) rl_m1 dX6_whyNotCell_62 rfl (fun c11 => ?_) (fun c11 => ?_)
  · have h := zif_f c11 h
    refine s_bipush hz dX6_whyNotCell_74 bp_7 ?_
    exact s_iret h hz hF rl_7 hW dX6_whyNotCell_76
  · have h := zif_t c11 h
    refine s_aload_n 0 hz dX6_whyNotCell_65 rfl ?_
    refine s_getR 10 hz fl_X6_36 sx7 rfl (by decide) dX6_whyNotCell_66 ?_
    refine s_iload_n 1 hz dX6_whyNotCell_69 rfl ?_
    obtain ⟨g12, h⟩ := zg_of h
    refine s_iald hz sx16 rfl (by decide) g12 dX6_whyNotCell_70 ?_
    refine s_if_le 77 hz (hW 16 _ sx16 v3) dX6_whyNotCell_71 rfl (fun c13 => ?_) (fun c13 => ?_)
    · have h := zif_t c13 h
      refine s_aload_n 0 hz dX6_whyNotCell_77 rfl ?_
      refine s_getR 10 hz fl_X6_36 sx7 rfl (by decide) dX6_whyNotCell_78 ?_
      refine s_iload_n 1 hz dX6_whyNotCell_81 rfl ?_
      refine s_dup2 hz rfl rfl dX6_whyNotCell_82 ?_
      obtain ⟨g14, h⟩ := zg_of h
      refine s_iald hz sx16 rfl (by decide) g14 dX6_whyNotCell_83 ?_
      refine s_iconst hz dX6_whyNotCell_84 ?_
      refine s_iadd hz dX6_whyNotCell_85 ?_
      obtain ⟨x15, ex15, rx15, h⟩ := zl_ex h
      rw [← ex15]
      obtain ⟨g16, h⟩ := zg_of h
      obtain ⟨S17, eS17, h⟩ := zs_ex h
      have hW17 : WR shX S17 := by rw [eS17]; exact hW.up (i := v3) sx16 (v := x15) rx15
      refine s_iast hz sx16 rfl (by decide) g16 dX6_whyNotCell_86 ?_
      rw [← eS17]
      refine s_iconst hz dX6_whyNotCell_87 ?_
      exact s_iret h hz hF rl_m1 hW17 dX6_whyNotCell_88
    · have h := zif_f c13 h
      refine s_bipush hz dX6_whyNotCell_74 bp_7 ?_
      exact s_iret h hz hF rl_7 hW dX6_whyNotCell_76
def M_X6_whyNotCell (a2 : Int) (S : HS) : zO2 :=
  zb (M_X10_pointAt a2 S) fun r1 S2 =>
  zb (M_X11_isCell r1 S2) fun r3 S4 =>
  if r3 = 0 then (
    some (5, S4))
  else (
    zb (M_X2_isScalp r1 S4) fun r6 S7 =>
    if r6 = 0 then (
      some (5, S7))
    else (
      if a2 ≤ 0 then (
        J_X6_whyNotCell_55 r1 S7)
      else (
        zl (a2 - 1) fun x18 =>
        zb (M_X10_pointAt x18 S7) fun r19 S20 =>
        zb (M_X10_wayAt a2 S20) fun r21 S22 =>
        zb (M_X5_isParted r19 r21 S22) fun r23 S24 =>
        if r23 = 0 then (
          J_X6_whyNotCell_55 r1 S24)
        else (
          some (6, S24)))))
set_option maxHeartbeats 4000000 in
set_option maxRecDepth 20000 in
theorem T_X6_whyNotCell {a2 : Int} {S S' : HS} {r : Int} (ra2 : rng a2) (hW : WR shX S) (h : M_X6_whyNotCell a2 S = some (r, S')) : zR shX yX6_whyNotCell cX6_whyNotCell 4  .int 3 [aR 7, aR 46, aI a2] S r S' := by
  refine zR_of (by decide +kernel) (Nat.le_of_ble_eq_true rfl) (fun z hz hN hF => ?_)
  have hz : zO z cX6_whyNotCell RX6 3 shX := hz
  show zA z 0 [(0, aR 7), (1, aR 46), (2, aI a2)] [] S
  unfold M_X6_whyNotCell at h
  refine s_aload_n 1 hz dX6_whyNotCell_0 rfl ?_
  refine s_iload_n 2 hz dX6_whyNotCell_1 rfl ?_
  obtain ⟨r1, S2, hc2, h⟩ := zb_of h
  refine s_callV [aI a2] [] hz ml_X6_89 sv_yX10_pointAt (T_X10_pointAt ra2 hW hc2) (by decide) rfl sx46 rfl rfl (Nat.le_of_ble_eq_true rfl) dX6_whyNotCell_2 (fun rr1 hW2 => ?_)
  refine s_istore_n (l' := [(3, aI r1), (0, aR 7), (1, aR 46), (2, aI a2)]) hz hN dX6_whyNotCell_5 (by decide) rfl ?_
  refine s_iload_n 0 hz dX6_whyNotCell_6 rfl ?_
  obtain ⟨r3, S4, hc4, h⟩ := zb_of h
  refine s_callS [aI r1] [] hz ml_X6_72 ss_yX11_isCell (T_X11_isCell rr1 hW2 hc4) (by decide) rfl rfl (Nat.le_of_ble_eq_true rfl) dX6_whyNotCell_7 (fun rr3 hW4 => ?_)
  refine s_if_eq 24 hz rr3 dX6_whyNotCell_10 rfl (fun c5 => ?_) (fun c5 => ?_)
  · have h := zif_t c5 h
    refine s_iconst hz dX6_whyNotCell_24 ?_
    exact s_iret h hz hF rl_5 hW4 dX6_whyNotCell_25
  · have h := zif_f c5 h
    refine s_aload_n 1 hz dX6_whyNotCell_13 rfl ?_
    refine s_getR 0 hz fl_X6_46 sx7 rfl (by decide) dX6_whyNotCell_14 ?_
    refine s_iload_n 0 hz dX6_whyNotCell_17 rfl ?_
    obtain ⟨r6, S7, hc7, h⟩ := zb_of h
    refine s_callV [aI r1] [] hz ml_X6_92 sv_yX2_isScalp (T_X2_isScalp rr1 hW4 hc7) (by decide) rfl sx1 rfl rfl (Nat.le_of_ble_eq_true rfl) dX6_whyNotCell_18 (fun rr6 hW7 => ?_)
    refine s_if_ne 26 hz rr6 dX6_whyNotCell_21 rfl (fun c8 => ?_) (fun c8 => ?_)
    · have h := zif_f c8 h
      refine s_iload_n 3 hz dX6_whyNotCell_26 rfl ?_
      refine s_if_le 55 hz ra2 dX6_whyNotCell_27 rfl (fun c9 => ?_) (fun c9 => ?_)
      · have h := zif_t c9 h
        refine s_pick (l' := [(0, aR 7), (3, aI r1)]) [1, 0] rfl ?_
        exact TJ_X6_whyNotCell_55 hz hN hF rr1 hW7 h
      · have h := zif_f c9 h
        refine s_aload_n 1 hz dX6_whyNotCell_30 rfl ?_
        refine s_getR 1 hz fl_X6_50 sx7 rfl (by decide) dX6_whyNotCell_31 ?_
        refine s_aload_n 2 hz dX6_whyNotCell_34 rfl ?_
        refine s_iload_n 3 hz dX6_whyNotCell_35 rfl ?_
        refine s_iconst hz dX6_whyNotCell_36 ?_
        refine s_isub hz dX6_whyNotCell_37 ?_
        obtain ⟨x18, ex18, rx18, h⟩ := zl_ex h
        rw [← ex18]
        obtain ⟨r19, S20, hc20, h⟩ := zb_of h
        refine s_callV [aI x18] [aR 3] hz ml_X6_89 sv_yX10_pointAt (T_X10_pointAt rx18 hW7 hc20) (by decide) rfl sx46 rfl rfl (Nat.le_of_ble_eq_true rfl) dX6_whyNotCell_38 (fun rr19 hW20 => ?_)
        refine s_aload_n 2 hz dX6_whyNotCell_41 rfl ?_
        refine s_iload_n 3 hz dX6_whyNotCell_42 rfl ?_
        obtain ⟨r21, S22, hc22, h⟩ := zb_of h
        refine s_callV [aI a2] [aI r19, aR 3] hz ml_X6_97 sv_yX10_wayAt (T_X10_wayAt ra2 hW20 hc22) (by decide) rfl sx46 rfl rfl (Nat.le_of_ble_eq_true rfl) dX6_whyNotCell_43 (fun rr21 hW22 => ?_)
        obtain ⟨r23, S24, hc24, h⟩ := zb_of h
        refine s_callV [aI r19, aI r21] [] hz ml_X6_100 sv_yX5_isParted (T_X5_isParted rr19 rr21 hW22 hc24) (by decide) rfl sx3 rfl rfl (Nat.le_of_ble_eq_true rfl) dX6_whyNotCell_46 (fun rr23 hW24 => ?_)
        refine s_if_eq 55 hz rr23 dX6_whyNotCell_49 rfl (fun c25 => ?_) (fun c25 => ?_)
        · have h := zif_t c25 h
          refine s_pick (l' := [(0, aR 7), (3, aI r1)]) [1, 0] rfl ?_
          exact TJ_X6_whyNotCell_55 hz hN hF rr1 hW24 h
        · have h := zif_f c25 h
          refine s_bipush hz dX6_whyNotCell_52 bp_6 ?_
          exact s_iret h hz hF rl_6 hW24 dX6_whyNotCell_54
    · have h := zif_t c8 h
      refine s_iconst hz dX6_whyNotCell_24 ?_
      exact s_iret h hz hF rl_5 hW7 dX6_whyNotCell_25
def L_X6_whyNot_22 (k50 : HS → zO2) : Nat → Int → HS → zO2
  | 0, _, _ => none
  | n + 1, v2, S => 
    if S 46 7 ≤ v2 then (
      k50 S)
    else (
      zb (M_X6_whyNotCell v2 S) fun r4 S5 =>
      if r4 = (-1) then (
        zl (v2 + 1) fun x7 =>
        L_X6_whyNot_22 k50 n x7 S5)
      else (
        some (r4, S5)))
set_option maxHeartbeats 4000000 in
set_option maxRecDepth 20000 in
theorem TL_X6_whyNot_22 {k50 : HS → zO2} {r : Int} {S' : HS} {z : Zt} (hz : zO z cX6_whyNot RX6 4 shX) (hN : zN z 4) (hF : zFi z shX .int r S') (hk50 : ∀ (S : HS), WR shX S → k50 S = some (r, S') → zA z 50 [(1, aR 46)] [] S) : ∀ (n : Nat) {v2 : Int} {S : HS}, rng v2 → WR shX S → L_X6_whyNot_22 k50 n v2 S = some (r, S') → zA z 22 [(0, aR 7), (1, aR 46), (2, aI v2)] [] S := by
  intro n
  induction n with
  | zero =>
    intro _ _ _ _ h
    cases h
  | succ n ih =>
    intro v2 S rv2 hW h
    rw [L_X6_whyNot_22.eq_2] at h
    refine s_iload_n 2 hz dX6_whyNot_22 rfl ?_
    refine s_aload_n 1 hz dX6_whyNot_23 rfl ?_
    refine s_getI (kz := 7) 7 hz fl_X6_75 sx46 rfl rfl dX6_whyNot_24 ?_
    refine s_icmp_ge 50 hz rv2 (hW 46 _ sx46 7) dX6_whyNot_27 rfl (fun c3 => ?_) (fun c3 => ?_)
    · have h := zif_t c3 h
      refine s_pick (l' := [(1, aR 46)]) [1] rfl ?_
      exact hk50 _ hW h
    · have h := zif_f c3 h
      refine s_aload_n 0 hz dX6_whyNot_30 rfl ?_
      refine s_aload_n 1 hz dX6_whyNot_31 rfl ?_
      refine s_iload_n 2 hz dX6_whyNot_32 rfl ?_
      obtain ⟨r4, S5, hc5, h⟩ := zb_of h
      refine s_callV [aR 46, aI v2] [] hz ml_X6_80 sv_yX6_whyNotCell (T_X6_whyNotCell rv2 hW hc5) (by decide) rfl sx7 rfl rfl (Nat.le_of_ble_eq_true rfl) dX6_whyNot_33 (fun rr4 hW5 => ?_)
      refine s_istore_n (l' := [(3, aI r4), (0, aR 7), (1, aR 46), (2, aI v2)]) hz hN dX6_whyNot_36 (by decide) rfl ?_
      refine s_iload_n 0 hz dX6_whyNot_37 rfl ?_
      refine s_iconst hz dX6_whyNot_38 ?_
      refine s_icmp_eq 44 hz rr4 rl_m1 dX6_whyNot_39 rfl (fun c6 => ?_) (fun c6 => ?_)
      · have h := zif_t c6 h
        obtain ⟨x7, ex7, rx7, h⟩ := zl_ex h
        refine s_iinc (k0 := 3) (y := x7) (l' := [(2, aI x7), (3, aI r4), (0, aR 7), (1, aR 46)]) hz hN dX6_whyNot_44 rfl ex7.symm (by decide) rfl ?_
        refine s_goto 22 hz dX6_whyNot_47 rfl ?_
        refine s_pick (l' := [(0, aR 7), (1, aR 46), (2, aI x7)]) [2, 3, 0] rfl ?_
        exact ih rx7 hW5 h
      · have h := zif_f c6 h
        refine s_iload_n 0 hz dX6_whyNot_42 rfl ?_
        exact s_iret h hz hF rr4 hW5 dX6_whyNot_43
def M_X6_whyNot (S : HS) : zO2 :=
  if S 7 11 < 24 then (
    zs (zfill S 16 192 0) fun S2 =>
    L_X6_whyNot_22 (fun S8 =>
        if S8 46 8 = 0 then (
          if S8 46 6 = 1 then (
            some (8, S8))
          else (
            some ((-1), S8)))
        else (
          some (5, S8))) zBig 0 S2)
  else (
    some (9, S))
set_option maxHeartbeats 4000000 in
set_option maxRecDepth 20000 in
theorem T_X6_whyNot {S S' : HS} {r : Int} (hW : WR shX S) (h : M_X6_whyNot S = some (r, S')) : zR shX yX6_whyNot cX6_whyNot 4  .int 4 [aR 7, aR 46] S r S' := by
  refine zR_of (by decide +kernel) (Nat.le_of_ble_eq_true rfl) (fun z hz hN hF => ?_)
  have hz : zO z cX6_whyNot RX6 4 shX := hz
  show zA z 0 [(0, aR 7), (1, aR 46)] [] S
  unfold M_X6_whyNot at h
  refine s_aload_n 0 hz dX6_whyNot_0 rfl ?_
  refine s_getI (kz := 11) 11 hz fl_X6_39 sx7 rfl rfl dX6_whyNot_1 ?_
  refine s_bipush hz dX6_whyNot_4 bp_24 ?_
  refine s_icmp_lt 12 hz (hW 7 _ sx7 11) rl_24 dX6_whyNot_6 rfl (fun c1 => ?_) (fun c1 => ?_)
  · have h := zif_t c1 h
    refine s_aload_n 0 hz dX6_whyNot_12 rfl ?_
    refine s_getR 10 hz fl_X6_36 sx7 rfl (by decide) dX6_whyNot_13 ?_
    refine s_iconst hz dX6_whyNot_16 ?_
    obtain ⟨S2, eS2, h⟩ := zs_ex h
    have hW2 : WR shX S2 := by rw [eS2]; exact zfill_W (n := 192) (v := 0) hW sx16 rl_0
    refine s_callSv [aR 16, aI 0] [] hz ml_X6_54 ss_yJ7_fill_53178 (T_fill (nz := 192) hW sx16 (by decide) rfl rl_0) (by decide) rfl rfl (Nat.le_of_ble_eq_true rfl) dX6_whyNot_17 (fun _ => ?_)
    rw [← eS2]
    refine s_iconst hz dX6_whyNot_20 ?_
    refine s_istore_n (l' := [(2, aI 0), (0, aR 7), (1, aR 46)]) hz hN dX6_whyNot_21 (by decide) rfl ?_
    refine s_pick (l' := [(0, aR 7), (1, aR 46), (2, aI 0)]) [1, 2, 0] rfl ?_
    refine TL_X6_whyNot_22 hz hN hF ?_ zBig rl_0 hW2 h
    · clear h 
      intro S8 hW8 h
      refine s_aload_n 0 hz dX6_whyNot_50 rfl ?_
      refine s_getI (kz := 8) 8 hz fl_X6_84 sx46 rfl rfl dX6_whyNot_51 ?_
      refine s_if_eq 59 hz (hW8 46 _ sx46 8) dX6_whyNot_54 rfl (fun c9 => ?_) (fun c9 => ?_)
      · have h := zif_t c9 h
        refine s_aload_n 0 hz dX6_whyNot_59 rfl ?_
        refine s_getI (kz := 6) 6 hz fl_X6_88 sx46 rfl rfl dX6_whyNot_60 ?_
        refine s_iconst hz dX6_whyNot_63 ?_
        refine s_icmp_ne 72 hz (hW8 46 _ sx46 6) rl_1 dX6_whyNot_64 rfl (fun c10 => ?_) (fun c10 => ?_)
        · have h := zif_f c10 h
          refine s_iconst hz dX6_whyNot_72 ?_
          exact s_iret h hz hF rl_m1 hW8 dX6_whyNot_73
        · have h := zif_t c10 h
          refine s_bipush hz dX6_whyNot_67 bp_8 ?_
          refine s_goto 73 hz dX6_whyNot_69 rfl ?_
          exact s_iret h hz hF rl_8 hW8 dX6_whyNot_73
      · have h := zif_f c9 h
        refine s_iconst hz dX6_whyNot_57 ?_
        exact s_iret h hz hF rl_5 hW8 dX6_whyNot_58
  · have h := zif_f c1 h
    refine s_bipush hz dX6_whyNot_9 bp_9 ?_
    exact s_iret h hz hF rl_9 hW dX6_whyNot_11
def J_X4_drawLine_111 (S : HS) : zO2 :=
  zl ((S 45 7) + 1) fun x13 =>
  zs (up S 45 7 x13) fun S14 =>
  some (0, S14)
set_option maxHeartbeats 4000000 in
set_option maxRecDepth 20000 in
theorem TJ_X4_drawLine_111 {S : HS} {r : Int} {S' : HS} {z : Zt} (hz : zO z cX4_drawLine RX4 5 shX) (hN : zN z 7) (hF : zFv z shX S') (hW : WR shX S) (h : J_X4_drawLine_111 S = some (r, S')) : zA z 111 [(0, aR 45)] [] S := by
  unfold J_X4_drawLine_111 at h
  refine s_aload_n 0 hz dX4_drawLine_111 rfl ?_
  refine s_dup hz rfl dX4_drawLine_112 ?_
  refine s_getI (kz := 7) 7 hz fl_X4_49 sx45 rfl rfl dX4_drawLine_113 ?_
  refine s_iconst hz dX4_drawLine_116 ?_
  refine s_iadd hz dX4_drawLine_117 ?_
  obtain ⟨x13, ex13, rx13, h⟩ := zl_ex h
  rw [← ex13]
  obtain ⟨S14, eS14, h⟩ := zs_ex h
  have hW14 : WR shX S14 := by rw [eS14]; exact hW.up (i := 7) sx45 (v := x13) rx13
  refine s_putI (kz := 7) 7 hz fp_X4_49 sx45 rfl rfl dX4_drawLine_118 ?_
  rw [← eS14]
  exact s_vret h hz hF hW14 dX4_drawLine_121
def J_X4_drawLine_58 (v5 : Int) (t0 : Int) (S : HS) : zO2 :=
  if t0 = (-1) then (
    if v5 = 0 then (
      zb (M_X5_put S) fun _ S12 =>
      J_X4_drawLine_111 S12)
    else (
      zb (M_X6_put S) fun _ S16 =>
      J_X4_drawLine_111 S16))
  else (
    zl (t0 + (16 * (S 45 7))) fun x17 =>
    zs (up S 45 8 x17) fun S18 =>
    some (0, S18))
set_option maxHeartbeats 4000000 in
set_option maxRecDepth 20000 in
theorem TJ_X4_drawLine_58 {v5 : Int} {t0 : Int} {S : HS} {r : Int} {S' : HS} {z : Zt} (hz : zO z cX4_drawLine RX4 5 shX) (hN : zN z 7) (hF : zFv z shX S') (rv5 : rng v5) (rt0 : rng t0) (hW : WR shX S) (h : J_X4_drawLine_58 v5 t0 S = some (r, S')) : zA z 58 [(0, aR 45), (5, aI v5)] [aI t0] S := by
  unfold J_X4_drawLine_58 at h
  refine s_istore (l' := [(6, aI t0), (0, aR 45), (5, aI v5)]) hz hN dX4_drawLine_58 (by decide) rfl ?_
  refine s_iload 0 hz dX4_drawLine_60 rfl ?_
  refine s_iconst hz dX4_drawLine_62 ?_
  refine s_icmp_eq 81 hz rt0 rl_m1 dX4_drawLine_63 rfl (fun c9 => ?_) (fun c9 => ?_)
  · have h := zif_t c9 h
    refine s_iload 2 hz dX4_drawLine_81 rfl ?_
    refine s_if_eq 100 hz rv5 dX4_drawLine_83 rfl (fun c10 => ?_) (fun c10 => ?_)
    · have h := zif_t c10 h
      refine s_aload_n 1 hz dX4_drawLine_100 rfl ?_
      refine s_getR 1 hz fl_X4_33 sx45 rfl (by decide) dX4_drawLine_101 ?_
      refine s_aload_n 1 hz dX4_drawLine_104 rfl ?_
      refine s_getR 3 hz fl_X4_12 sx45 rfl (by decide) dX4_drawLine_105 ?_
      obtain ⟨r11, S12, hc12, h⟩ := zb_of h
      refine s_callVv [aR 46] [] hz ml_X4_107 sv_yX5_put (T_X5_put hW hc12) (by decide) rfl sx3 rfl rfl (Nat.le_of_ble_eq_true rfl) dX4_drawLine_108 (fun hW12 => ?_)
      refine s_pick (l' := [(0, aR 45)]) [1] rfl ?_
      exact TJ_X4_drawLine_111 hz hN hF hW12 h
    · have h := zif_f c10 h
      refine s_aload_n 1 hz dX4_drawLine_86 rfl ?_
      refine s_getR 2 hz fl_X4_37 sx45 rfl (by decide) dX4_drawLine_87 ?_
      refine s_aload_n 1 hz dX4_drawLine_90 rfl ?_
      refine s_getR 3 hz fl_X4_12 sx45 rfl (by decide) dX4_drawLine_91 ?_
      obtain ⟨r15, S16, hc16, h⟩ := zb_of h
      refine s_callVv [aR 46] [] hz ml_X4_103 sv_yX6_put (T_X6_put hW hc16) (by decide) rfl sx7 rfl rfl (Nat.le_of_ble_eq_true rfl) dX4_drawLine_94 (fun hW16 => ?_)
      refine s_goto 111 hz dX4_drawLine_97 rfl ?_
      refine s_pick (l' := [(0, aR 45)]) [1] rfl ?_
      exact TJ_X4_drawLine_111 hz hN hF hW16 h
  · have h := zif_f c9 h
    refine s_aload_n 1 hz dX4_drawLine_66 rfl ?_
    refine s_iload 0 hz dX4_drawLine_67 rfl ?_
    refine s_bipush hz dX4_drawLine_69 bp_16 ?_
    refine s_aload_n 1 hz dX4_drawLine_71 rfl ?_
    refine s_getI (kz := 7) 7 hz fl_X4_49 sx45 rfl rfl dX4_drawLine_72 ?_
    refine s_imul hz dX4_drawLine_75 ?_
    refine s_iadd hz dX4_drawLine_76 ?_
    obtain ⟨x17, ex17, rx17, h⟩ := zl_ex h
    rw [← ex17]
    obtain ⟨S18, eS18, h⟩ := zs_ex h
    have hW18 : WR shX S18 := by rw [eS18]; exact hW.up (i := 8) sx45 (v := x17) rx17
    refine s_putI (kz := 8) 8 hz fp_X4_52 sx45 rfl rfl dX4_drawLine_77 ?_
    rw [← eS18]
    exact s_vret h hz hF hW18 dX4_drawLine_80
def J_X4_drawLine_17 (v1 : Int) (v2 : Int) (v3 : Int) (v4 : Int) (t0 : Int) (S : HS) : zO2 :=
  zb (M_X4_walk v1 v2 v3 v4 S) fun _ S5 =>
  if t0 = 0 then (
    zb (M_X5_whyNot S5) fun r7 S8 =>
    J_X4_drawLine_58 t0 r7 S8)
  else (
    zb (M_X6_whyNot S5) fun r19 S20 =>
    J_X4_drawLine_58 t0 r19 S20)
set_option maxHeartbeats 4000000 in
set_option maxRecDepth 20000 in
theorem TJ_X4_drawLine_17 {v1 : Int} {v2 : Int} {v3 : Int} {v4 : Int} {t0 : Int} {S : HS} {r : Int} {S' : HS} {z : Zt} (hz : zO z cX4_drawLine RX4 5 shX) (hN : zN z 7) (hF : zFv z shX S') (rv1 : rng v1) (rv2 : rng v2) (rv3 : rng v3) (rv4 : rng v4) (rt0 : rng t0) (hW : WR shX S) (h : J_X4_drawLine_17 v1 v2 v3 v4 t0 S = some (r, S')) : zA z 17 [(0, aR 45), (1, aI v1), (2, aI v2), (3, aI v3), (4, aI v4)] [aI t0] S := by
  unfold J_X4_drawLine_17 at h
  refine s_istore (l' := [(5, aI t0), (0, aR 45), (1, aI v1), (2, aI v2), (3, aI v3), (4, aI v4)]) hz hN dX4_drawLine_17 (by decide) rfl ?_
  refine s_aload_n 1 hz dX4_drawLine_19 rfl ?_
  refine s_iload_n 2 hz dX4_drawLine_20 rfl ?_
  refine s_iload_n 3 hz dX4_drawLine_21 rfl ?_
  refine s_iload_n 4 hz dX4_drawLine_22 rfl ?_
  refine s_iload 5 hz dX4_drawLine_23 rfl ?_
  obtain ⟨r4, S5, hc5, h⟩ := zb_of h
  refine s_callVv [aI v1, aI v2, aI v3, aI v4] [] hz ml_X4_95 sv_yX4_walk (T_X4_walk rv1 rv2 rv3 rv4 hW hc5) (by decide) rfl sx45 rfl rfl (Nat.le_of_ble_eq_true rfl) dX4_drawLine_25 (fun hW5 => ?_)
  refine s_iload 0 hz dX4_drawLine_28 rfl ?_
  refine s_if_eq 47 hz rt0 dX4_drawLine_30 rfl (fun c6 => ?_) (fun c6 => ?_)
  · have h := zif_t c6 h
    refine s_aload_n 1 hz dX4_drawLine_47 rfl ?_
    refine s_getR 1 hz fl_X4_33 sx45 rfl (by decide) dX4_drawLine_48 ?_
    refine s_aload_n 1 hz dX4_drawLine_51 rfl ?_
    refine s_getR 3 hz fl_X4_12 sx45 rfl (by decide) dX4_drawLine_52 ?_
    obtain ⟨r7, S8, hc8, h⟩ := zb_of h
    refine s_callV [aR 46] [] hz ml_X4_102 sv_yX5_whyNot (T_X5_whyNot hW5 hc8) (by decide) rfl sx3 rfl rfl (Nat.le_of_ble_eq_true rfl) dX4_drawLine_55 (fun rr7 hW8 => ?_)
    refine s_pick (l' := [(0, aR 45), (5, aI t0)]) [1, 0] rfl ?_
    exact TJ_X4_drawLine_58 hz hN hF rt0 rr7 hW8 h
  · have h := zif_f c6 h
    refine s_aload_n 1 hz dX4_drawLine_33 rfl ?_
    refine s_getR 2 hz fl_X4_37 sx45 rfl (by decide) dX4_drawLine_34 ?_
    refine s_aload_n 1 hz dX4_drawLine_37 rfl ?_
    refine s_getR 3 hz fl_X4_12 sx45 rfl (by decide) dX4_drawLine_38 ?_
    obtain ⟨r19, S20, hc20, h⟩ := zb_of h
    refine s_callV [aR 46] [] hz ml_X4_98 sv_yX6_whyNot (T_X6_whyNot hW5 hc20) (by decide) rfl sx7 rfl rfl (Nat.le_of_ble_eq_true rfl) dX4_drawLine_41 (fun rr19 hW20 => ?_)
    refine s_goto 58 hz dX4_drawLine_44 rfl ?_
    refine s_pick (l' := [(0, aR 45), (5, aI t0)]) [1, 0] rfl ?_
    exact TJ_X4_drawLine_58 hz hN hF rt0 rr19 hW20 h
def M_X4_drawLine (a1 : Int) (a2 : Int) (a3 : Int) (a4 : Int) (S : HS) : zO2 :=
  zb (M_X7_codeAt a1 S) fun r1 S2 =>
  if r1 = 5 then (
    J_X4_drawLine_17 a1 a2 a3 a4 1 S2)
  else (
    J_X4_drawLine_17 a1 a2 a3 a4 0 S2)
set_option maxHeartbeats 4000000 in
set_option maxRecDepth 20000 in
theorem T_X4_drawLine {a1 : Int} {a2 : Int} {a3 : Int} {a4 : Int} {S S' : HS} {r : Int} (ra1 : rng a1) (ra2 : rng a2) (ra3 : rng a3) (ra4 : rng a4) (hW : WR shX S) (h : M_X4_drawLine a1 a2 a3 a4 S = some (r, S')) : zV shX yX4_drawLine cX4_drawLine 7 5 [aR 45, aI a1, aI a2, aI a3, aI a4] S S' := by
  refine zV_of (by decide +kernel) (Nat.le_of_ble_eq_true rfl) (fun z hz hN hF => ?_)
  have hz : zO z cX4_drawLine RX4 5 shX := hz
  show zA z 0 [(0, aR 45), (1, aI a1), (2, aI a2), (3, aI a3), (4, aI a4)] [] S
  unfold M_X4_drawLine at h
  refine s_aload_n 0 hz dX4_drawLine_0 rfl ?_
  refine s_getR 0 hz fl_X4_29 sx45 rfl (by decide) dX4_drawLine_1 ?_
  refine s_iload_n 1 hz dX4_drawLine_4 rfl ?_
  obtain ⟨r1, S2, hc2, h⟩ := zb_of h
  refine s_callV [aI a1] [] hz ml_X4_75 sv_yX7_codeAt (T_X7_codeAt ra1 hW hc2) (by decide) rfl sx42 rfl rfl (Nat.le_of_ble_eq_true rfl) dX4_drawLine_5 (fun rr1 hW2 => ?_)
  refine s_iconst hz dX4_drawLine_8 ?_
  refine s_icmp_ne 16 hz rr1 rl_5 dX4_drawLine_9 rfl (fun c3 => ?_) (fun c3 => ?_)
  · have h := zif_f c3 h
    refine s_iconst hz dX4_drawLine_16 ?_
    exact TJ_X4_drawLine_17 hz hN hF ra1 ra2 ra3 ra4 rl_0 hW2 h
  · have h := zif_t c3 h
    refine s_iconst hz dX4_drawLine_12 ?_
    refine s_goto 17 hz dX4_drawLine_13 rfl ?_
    exact TJ_X4_drawLine_17 hz hN hF ra1 ra2 ra3 ra4 rl_1 hW2 h
def L_X4_drawAgain_51 (rec : Int → Int → Int → Int → Int → Int → HS → zO2) (p1 : Int) (p2 : Int) (p3 : Int) (p4 : Int) (p5 : Int) (p6 : Int) (p7 : Int) (p8 : Int) (p9 : Int) : Nat → Int → HS → zO2
  | 0, _, _ => none
  | n + 1, v10, S => 
    if p6 ≤ v10 then (
      some (0, S))
    else (
      if S 45 8 = (-1) then (
        zb (M_X11_acrossBy p7 S) fun r15 S16 =>
        zl (p3 + (((p2 * v10) * p8) * r15)) fun x17 =>
        zb (M_X11_downBy p7 S16) fun r18 S19 =>
        zl (p5 + 1) fun x20 =>
        zl (p4 + ((v10 * p8) * r18)) fun x21 =>
        zl (p1 + 5) fun x22 =>
        zb (rec x22 p9 p2 x17 x21 x20 S19) fun _ S24 =>
        zl (v10 + 1) fun x25 =>
        L_X4_drawAgain_51 rec p1 p2 p3 p4 p5 p6 p7 p8 p9 n x25 S24)
      else (
        some (0, S)))
set_option maxHeartbeats 4000000 in
set_option maxRecDepth 20000 in
theorem TL_X4_drawAgain_51 {e : Nat} {rec : Int → Int → Int → Int → Int → Int → HS → zO2} {p1 : Int} {p2 : Int} {p3 : Int} {p4 : Int} {p5 : Int} {p6 : Int} {p7 : Int} {p8 : Int} {p9 : Int} {r : Int} {S' : HS} {z : Zt} (hz : zO z cX4_drawAgain RX4 (e + 1) shX) (hN : zN z 12) (hF : zFv z shX S') (hrec : ∀ (b1 b2 b3 b4 b5 b6 : Int) (S S' : HS) (r : Int), rng b1 → rng b2 → rng b3 → rng b4 → rng b5 → rng b6 → WR shX S → rec b1 b2 b3 b4 b5 b6 S = some (r, S') → zV shX yX4_drawSteps cX4_drawSteps 10 e [aR 45, aI b1, aI b2, aI b3, aI b4, aI b5, aI b6] S S') (he : 5 ≤ e) (rp1 : rng p1) (rp2 : rng p2) (rp3 : rng p3) (rp4 : rng p4) (rp5 : rng p5) (rp6 : rng p6) (rp7 : rng p7) (rp8 : rng p8) (rp9 : rng p9) : ∀ (n : Nat) {v10 : Int} {S : HS}, rng v10 → WR shX S → L_X4_drawAgain_51 rec p1 p2 p3 p4 p5 p6 p7 p8 p9 n v10 S = some (r, S') → zA z 51 [(0, aR 45), (1, aI p1), (2, aI p2), (3, aI p3), (4, aI p4), (5, aI p5), (6, aI p6), (7, aI p7), (8, aI p8), (9, aI p9), (10, aI v10)] [] S := by
  intro n
  induction n with
  | zero =>
    intro _ _ _ _ h
    cases h
  | succ n ih =>
    intro v10 S rv10 hW h
    rw [L_X4_drawAgain_51.eq_2] at h
    refine s_iload 10 hz dX4_drawAgain_51 rfl ?_
    refine s_iload 6 hz dX4_drawAgain_53 rfl ?_
    refine s_icmp_ge 119 hz rv10 rp6 dX4_drawAgain_55 rfl (fun c13 => ?_) (fun c13 => ?_)
    · have h := zif_t c13 h
      exact s_vret h hz hF hW dX4_drawAgain_119
    · have h := zif_f c13 h
      refine s_aload_n 0 hz dX4_drawAgain_58 rfl ?_
      refine s_getI (kz := 8) 8 hz fl_X4_52 sx45 rfl rfl dX4_drawAgain_59 ?_
      refine s_iconst hz dX4_drawAgain_62 ?_
      refine s_icmp_ne 119 hz (hW 45 _ sx45 8) rl_m1 dX4_drawAgain_63 rfl (fun c14 => ?_) (fun c14 => ?_)
      · have h := zif_f c14 h
        exact s_vret h hz hF hW dX4_drawAgain_119
      · have h := zif_t c14 h
        refine s_iload_n 3 hz dX4_drawAgain_66 rfl ?_
        refine s_iload_n 2 hz dX4_drawAgain_67 rfl ?_
        refine s_iload 10 hz dX4_drawAgain_68 rfl ?_
        refine s_imul hz dX4_drawAgain_70 ?_
        refine s_iload 8 hz dX4_drawAgain_71 rfl ?_
        refine s_imul hz dX4_drawAgain_73 ?_
        refine s_iload 7 hz dX4_drawAgain_74 rfl ?_
        obtain ⟨r15, S16, hc16, h⟩ := zb_of h
        refine s_callS [aI p7] [aI ((p2 * v10) * p8), aI p3] hz ml_X4_89 ss_yX11_acrossBy (T_X11_acrossBy rp7 hW hc16) (by omega) rfl rfl (Nat.le_of_ble_eq_true rfl) dX4_drawAgain_76 (fun rr15 hW16 => ?_)
        refine s_imul hz dX4_drawAgain_79 ?_
        refine s_iadd hz dX4_drawAgain_80 ?_
        obtain ⟨x17, ex17, rx17, h⟩ := zl_ex h
        rw [← ex17]
        refine s_istore (l' := [(11, aI x17), (0, aR 45), (1, aI p1), (2, aI p2), (3, aI p3), (4, aI p4), (5, aI p5), (6, aI p6), (7, aI p7), (8, aI p8), (9, aI p9), (10, aI v10)]) hz hN dX4_drawAgain_81 (by decide) rfl ?_
        refine s_aload_n 1 hz dX4_drawAgain_83 rfl ?_
        refine s_iload_n 2 hz dX4_drawAgain_84 rfl ?_
        refine s_iconst hz dX4_drawAgain_85 ?_
        refine s_iadd hz dX4_drawAgain_86 ?_
        refine s_iload 10 hz dX4_drawAgain_87 rfl ?_
        refine s_iload_n 3 hz dX4_drawAgain_89 rfl ?_
        refine s_iload 0 hz dX4_drawAgain_90 rfl ?_
        refine s_iload 5 hz dX4_drawAgain_92 rfl ?_
        refine s_iload 11 hz dX4_drawAgain_94 rfl ?_
        refine s_iload 9 hz dX4_drawAgain_96 rfl ?_
        refine s_imul hz dX4_drawAgain_98 ?_
        refine s_iload 8 hz dX4_drawAgain_99 rfl ?_
        obtain ⟨r18, S19, hc19, h⟩ := zb_of h
        refine s_callS [aI p7] [aI (v10 * p8), aI p4, aI x17, aI p2, aI p9, aI (p1 + 5), aR 45] hz ml_X4_92 ss_yX11_downBy (T_X11_downBy rp7 hW16 hc19) (by omega) rfl rfl (Nat.le_of_ble_eq_true rfl) dX4_drawAgain_101 (fun rr18 hW19 => ?_)
        refine s_imul hz dX4_drawAgain_104 ?_
        refine s_iadd hz dX4_drawAgain_105 ?_
        refine s_iload 6 hz dX4_drawAgain_106 rfl ?_
        refine s_iconst hz dX4_drawAgain_108 ?_
        refine s_iadd hz dX4_drawAgain_109 ?_
        obtain ⟨x20, ex20, rx20, h⟩ := zl_ex h
        rw [← ex20]
        obtain ⟨x21, ex21, rx21, h⟩ := zl_ex h
        rw [← ex21]
        obtain ⟨x22, ex22, rx22, h⟩ := zl_ex h
        rw [← ex22]
        obtain ⟨r23, S24, hc24, h⟩ := zb_of h
        refine s_callVv [aI x22, aI p9, aI p2, aI x17, aI x21, aI x20] [] hz ml_X4_58 sv_yX4_drawSteps (hrec _ _ _ _ _ _ _ _ _ rx22 rp9 rp2 rx17 rx21 rx20 hW19 hc24) (by omega) rfl sx45 rfl rfl (Nat.le_of_ble_eq_true rfl) dX4_drawAgain_110 (fun hW24 => ?_)
        obtain ⟨x25, ex25, rx25, h⟩ := zl_ex h
        refine s_iinc (k0 := 11) (y := x25) (l' := [(10, aI x25), (11, aI x17), (0, aR 45), (1, aI p1), (2, aI p2), (3, aI p3), (4, aI p4), (5, aI p5), (6, aI p6), (7, aI p7), (8, aI p8), (9, aI p9)]) hz hN dX4_drawAgain_113 rfl ex25.symm (by decide) rfl ?_
        refine s_goto 51 hz dX4_drawAgain_116 rfl ?_
        refine s_pick (l' := [(0, aR 45), (1, aI p1), (2, aI p2), (3, aI p3), (4, aI p4), (5, aI p5), (6, aI p6), (7, aI p7), (8, aI p8), (9, aI p9), (10, aI x25)]) [2, 3, 4, 5, 6, 7, 8, 9, 10, 11, 0] rfl ?_
        exact ih rx25 hW24 h
def M_X4_drawAgain (rec : Int → Int → Int → Int → Int → Int → HS → zO2) (a1 : Int) (a2 : Int) (a3 : Int) (a4 : Int) (a5 : Int) (S : HS) : zO2 :=
  zl (a1 + 1) fun x1 =>
  zb (M_X7_codeAt x1 S) fun r2 S3 =>
  zl (a1 + 2) fun x4 =>
  zb (M_X7_codeAt x4 S3) fun r5 S6 =>
  zl (a1 + 3) fun x7 =>
  zb (M_X7_codeAt x7 S6) fun r8 S9 =>
  zl (a1 + 4) fun x10 =>
  zb (M_X7_codeAt x10 S9) fun r11 S12 =>
  L_X4_drawAgain_51 rec a1 a2 a3 a4 a5 r2 r5 r8 r11 zBig 0 S12
set_option maxHeartbeats 4000000 in
set_option maxRecDepth 20000 in
theorem T_X4_drawAgain {e : Nat} {rec : Int → Int → Int → Int → Int → Int → HS → zO2} (hrec : ∀ (b1 b2 b3 b4 b5 b6 : Int) (S S' : HS) (r : Int), rng b1 → rng b2 → rng b3 → rng b4 → rng b5 → rng b6 → WR shX S → rec b1 b2 b3 b4 b5 b6 S = some (r, S') → zV shX yX4_drawSteps cX4_drawSteps 10 e [aR 45, aI b1, aI b2, aI b3, aI b4, aI b5, aI b6] S S') (he : 5 ≤ e) {a1 : Int} {a2 : Int} {a3 : Int} {a4 : Int} {a5 : Int} {S S' : HS} {r : Int} (ra1 : rng a1) (ra2 : rng a2) (ra3 : rng a3) (ra4 : rng a4) (ra5 : rng a5) (hW : WR shX S) (h : M_X4_drawAgain rec a1 a2 a3 a4 a5 S = some (r, S')) : zV shX yX4_drawAgain cX4_drawAgain 12 (e + 1) [aR 45, aI a1, aI a2, aI a3, aI a4, aI a5] S S' := by
  refine zV_of (by decide +kernel) (Nat.le_of_ble_eq_true rfl) (fun z hz hN hF => ?_)
  have hz : zO z cX4_drawAgain RX4 (e + 1) shX := hz
  show zA z 0 [(0, aR 45), (1, aI a1), (2, aI a2), (3, aI a3), (4, aI a4), (5, aI a5)] [] S
  unfold M_X4_drawAgain at h
  refine s_aload_n 0 hz dX4_drawAgain_0 rfl ?_
  refine s_getR 0 hz fl_X4_29 sx45 rfl (by decide) dX4_drawAgain_1 ?_
  refine s_iload_n 1 hz dX4_drawAgain_4 rfl ?_
  refine s_iconst hz dX4_drawAgain_5 ?_
  refine s_iadd hz dX4_drawAgain_6 ?_
  obtain ⟨x1, ex1, rx1, h⟩ := zl_ex h
  rw [← ex1]
  obtain ⟨r2, S3, hc3, h⟩ := zb_of h
  refine s_callV [aI x1] [] hz ml_X4_75 sv_yX7_codeAt (T_X7_codeAt rx1 hW hc3) (by omega) rfl sx42 rfl rfl (Nat.le_of_ble_eq_true rfl) dX4_drawAgain_7 (fun rr2 hW3 => ?_)
  refine s_istore (l' := [(6, aI r2), (0, aR 45), (1, aI a1), (2, aI a2), (3, aI a3), (4, aI a4), (5, aI a5)]) hz hN dX4_drawAgain_10 (by decide) rfl ?_
  refine s_aload_n 1 hz dX4_drawAgain_12 rfl ?_
  refine s_getR 0 hz fl_X4_29 sx45 rfl (by decide) dX4_drawAgain_13 ?_
  refine s_iload_n 2 hz dX4_drawAgain_16 rfl ?_
  refine s_iconst hz dX4_drawAgain_17 ?_
  refine s_iadd hz dX4_drawAgain_18 ?_
  obtain ⟨x4, ex4, rx4, h⟩ := zl_ex h
  rw [← ex4]
  obtain ⟨r5, S6, hc6, h⟩ := zb_of h
  refine s_callV [aI x4] [] hz ml_X4_75 sv_yX7_codeAt (T_X7_codeAt rx4 hW3 hc6) (by omega) rfl sx42 rfl rfl (Nat.le_of_ble_eq_true rfl) dX4_drawAgain_19 (fun rr5 hW6 => ?_)
  refine s_istore (l' := [(7, aI r5), (6, aI r2), (0, aR 45), (1, aI a1), (2, aI a2), (3, aI a3), (4, aI a4), (5, aI a5)]) hz hN dX4_drawAgain_22 (by decide) rfl ?_
  refine s_aload_n 2 hz dX4_drawAgain_24 rfl ?_
  refine s_getR 0 hz fl_X4_29 sx45 rfl (by decide) dX4_drawAgain_25 ?_
  refine s_iload_n 3 hz dX4_drawAgain_28 rfl ?_
  refine s_iconst hz dX4_drawAgain_29 ?_
  refine s_iadd hz dX4_drawAgain_30 ?_
  obtain ⟨x7, ex7, rx7, h⟩ := zl_ex h
  rw [← ex7]
  obtain ⟨r8, S9, hc9, h⟩ := zb_of h
  refine s_callV [aI x7] [] hz ml_X4_75 sv_yX7_codeAt (T_X7_codeAt rx7 hW6 hc9) (by omega) rfl sx42 rfl rfl (Nat.le_of_ble_eq_true rfl) dX4_drawAgain_31 (fun rr8 hW9 => ?_)
  refine s_istore (l' := [(8, aI r8), (7, aI r5), (6, aI r2), (0, aR 45), (1, aI a1), (2, aI a2), (3, aI a3), (4, aI a4), (5, aI a5)]) hz hN dX4_drawAgain_34 (by decide) rfl ?_
  refine s_aload_n 3 hz dX4_drawAgain_36 rfl ?_
  refine s_getR 0 hz fl_X4_29 sx45 rfl (by decide) dX4_drawAgain_37 ?_
  refine s_iload_n 4 hz dX4_drawAgain_40 rfl ?_
  refine s_iconst hz dX4_drawAgain_41 ?_
  refine s_iadd hz dX4_drawAgain_42 ?_
  obtain ⟨x10, ex10, rx10, h⟩ := zl_ex h
  rw [← ex10]
  obtain ⟨r11, S12, hc12, h⟩ := zb_of h
  refine s_callV [aI x10] [] hz ml_X4_75 sv_yX7_codeAt (T_X7_codeAt rx10 hW9 hc12) (by omega) rfl sx42 rfl rfl (Nat.le_of_ble_eq_true rfl) dX4_drawAgain_43 (fun rr11 hW12 => ?_)
  refine s_istore (l' := [(9, aI r11), (8, aI r8), (7, aI r5), (6, aI r2), (0, aR 45), (1, aI a1), (2, aI a2), (3, aI a3), (4, aI a4), (5, aI a5)]) hz hN dX4_drawAgain_46 (by decide) rfl ?_
  refine s_iconst hz dX4_drawAgain_48 ?_
  refine s_istore (l' := [(10, aI 0), (9, aI r11), (8, aI r8), (7, aI r5), (6, aI r2), (0, aR 45), (1, aI a1), (2, aI a2), (3, aI a3), (4, aI a4), (5, aI a5)]) hz hN dX4_drawAgain_49 (by decide) rfl ?_
  refine s_pick (l' := [(0, aR 45), (1, aI a1), (2, aI a2), (3, aI a3), (4, aI a4), (5, aI a5), (6, aI r2), (7, aI r5), (8, aI r8), (9, aI r11), (10, aI 0)]) [5, 6, 7, 8, 9, 10, 4, 3, 2, 1, 0] rfl ?_
  exact TL_X4_drawAgain_51 hz hN hF hrec he ra1 ra2 ra3 ra4 ra5 rr2 rr5 rr8 rr11 zBig rl_0 hW12 h
def M_X4_drawMirrored (rec : Int → Int → Int → Int → Int → Int → HS → zO2) (a1 : Int) (a2 : Int) (a3 : Int) (a4 : Int) (a5 : Int) (S : HS) : zO2 :=
  zl (a1 + 1) fun x1 =>
  zb (M_X7_codeAt x1 S) fun r2 S3 =>
  zl (a5 + 1) fun x4 =>
  zl (a1 + 2) fun x5 =>
  zb (rec x5 r2 a2 a3 a4 x4 S3) fun _ S7 =>
  if S7 45 8 = (-1) then (
    zl (a5 + 1) fun x9 =>
    zl (a3 + (a2 * 16)) fun x10 =>
    zl (-a2) fun x11 =>
    zl (a1 + 2) fun x12 =>
    zb (rec x12 r2 x11 x10 a4 x9 S7) fun _ S14 =>
    some (0, S14))
  else (
    some (0, S7))
set_option maxHeartbeats 4000000 in
set_option maxRecDepth 20000 in
theorem T_X4_drawMirrored {e : Nat} {rec : Int → Int → Int → Int → Int → Int → HS → zO2} (hrec : ∀ (b1 b2 b3 b4 b5 b6 : Int) (S S' : HS) (r : Int), rng b1 → rng b2 → rng b3 → rng b4 → rng b5 → rng b6 → WR shX S → rec b1 b2 b3 b4 b5 b6 S = some (r, S') → zV shX yX4_drawSteps cX4_drawSteps 10 e [aR 45, aI b1, aI b2, aI b3, aI b4, aI b5, aI b6] S S') (he : 5 ≤ e) {a1 : Int} {a2 : Int} {a3 : Int} {a4 : Int} {a5 : Int} {S S' : HS} {r : Int} (ra1 : rng a1) (ra2 : rng a2) (ra3 : rng a3) (ra4 : rng a4) (ra5 : rng a5) (hW : WR shX S) (h : M_X4_drawMirrored rec a1 a2 a3 a4 a5 S = some (r, S')) : zV shX yX4_drawMirrored cX4_drawMirrored 7 (e + 1) [aR 45, aI a1, aI a2, aI a3, aI a4, aI a5] S S' := by
  refine zV_of (by decide +kernel) (Nat.le_of_ble_eq_true rfl) (fun z hz hN hF => ?_)
  have hz : zO z cX4_drawMirrored RX4 (e + 1) shX := hz
  show zA z 0 [(0, aR 45), (1, aI a1), (2, aI a2), (3, aI a3), (4, aI a4), (5, aI a5)] [] S
  unfold M_X4_drawMirrored at h
  refine s_aload_n 0 hz dX4_drawMirrored_0 rfl ?_
  refine s_getR 0 hz fl_X4_29 sx45 rfl (by decide) dX4_drawMirrored_1 ?_
  refine s_iload_n 1 hz dX4_drawMirrored_4 rfl ?_
  refine s_iconst hz dX4_drawMirrored_5 ?_
  refine s_iadd hz dX4_drawMirrored_6 ?_
  obtain ⟨x1, ex1, rx1, h⟩ := zl_ex h
  rw [← ex1]
  obtain ⟨r2, S3, hc3, h⟩ := zb_of h
  refine s_callV [aI x1] [] hz ml_X4_75 sv_yX7_codeAt (T_X7_codeAt rx1 hW hc3) (by omega) rfl sx42 rfl rfl (Nat.le_of_ble_eq_true rfl) dX4_drawMirrored_7 (fun rr2 hW3 => ?_)
  refine s_istore (l' := [(6, aI r2), (0, aR 45), (1, aI a1), (2, aI a2), (3, aI a3), (4, aI a4), (5, aI a5)]) hz hN dX4_drawMirrored_10 (by decide) rfl ?_
  refine s_aload_n 1 hz dX4_drawMirrored_12 rfl ?_
  refine s_iload_n 2 hz dX4_drawMirrored_13 rfl ?_
  refine s_iconst hz dX4_drawMirrored_14 ?_
  refine s_iadd hz dX4_drawMirrored_15 ?_
  refine s_iload 0 hz dX4_drawMirrored_16 rfl ?_
  refine s_iload_n 3 hz dX4_drawMirrored_18 rfl ?_
  refine s_iload_n 4 hz dX4_drawMirrored_19 rfl ?_
  refine s_iload 5 hz dX4_drawMirrored_20 rfl ?_
  refine s_iload 6 hz dX4_drawMirrored_22 rfl ?_
  refine s_iconst hz dX4_drawMirrored_24 ?_
  refine s_iadd hz dX4_drawMirrored_25 ?_
  obtain ⟨x4, ex4, rx4, h⟩ := zl_ex h
  rw [← ex4]
  obtain ⟨x5, ex5, rx5, h⟩ := zl_ex h
  rw [← ex5]
  obtain ⟨r6, S7, hc7, h⟩ := zb_of h
  refine s_callVv [aI x5, aI r2, aI a2, aI a3, aI a4, aI x4] [] hz ml_X4_58 sv_yX4_drawSteps (hrec _ _ _ _ _ _ _ _ _ rx5 rr2 ra2 ra3 ra4 rx4 hW3 hc7) (by omega) rfl sx45 rfl rfl (Nat.le_of_ble_eq_true rfl) dX4_drawMirrored_26 (fun hW7 => ?_)
  refine s_aload_n 1 hz dX4_drawMirrored_29 rfl ?_
  refine s_getI (kz := 8) 8 hz fl_X4_52 sx45 rfl rfl dX4_drawMirrored_30 ?_
  refine s_iconst hz dX4_drawMirrored_33 ?_
  refine s_icmp_ne 60 hz (hW7 45 _ sx45 8) rl_m1 dX4_drawMirrored_34 rfl (fun c8 => ?_) (fun c8 => ?_)
  · have h := zif_f c8 h
    exact s_vret h hz hF hW7 dX4_drawMirrored_60
  · have h := zif_t c8 h
    refine s_aload_n 1 hz dX4_drawMirrored_37 rfl ?_
    refine s_iload_n 2 hz dX4_drawMirrored_38 rfl ?_
    refine s_iconst hz dX4_drawMirrored_39 ?_
    refine s_iadd hz dX4_drawMirrored_40 ?_
    refine s_iload 0 hz dX4_drawMirrored_41 rfl ?_
    refine s_iload_n 3 hz dX4_drawMirrored_43 rfl ?_
    refine s_ineg hz dX4_drawMirrored_44 ?_
    refine s_iload_n 4 hz dX4_drawMirrored_45 rfl ?_
    refine s_iload_n 3 hz dX4_drawMirrored_46 rfl ?_
    refine s_bipush hz dX4_drawMirrored_47 bp_16 ?_
    refine s_imul hz dX4_drawMirrored_49 ?_
    refine s_iadd hz dX4_drawMirrored_50 ?_
    refine s_iload 5 hz dX4_drawMirrored_51 rfl ?_
    refine s_iload 6 hz dX4_drawMirrored_53 rfl ?_
    refine s_iconst hz dX4_drawMirrored_55 ?_
    refine s_iadd hz dX4_drawMirrored_56 ?_
    obtain ⟨x9, ex9, rx9, h⟩ := zl_ex h
    rw [← ex9]
    obtain ⟨x10, ex10, rx10, h⟩ := zl_ex h
    rw [← ex10]
    obtain ⟨x11, ex11, rx11, h⟩ := zl_ex h
    rw [← ex11]
    obtain ⟨x12, ex12, rx12, h⟩ := zl_ex h
    rw [← ex12]
    obtain ⟨r13, S14, hc14, h⟩ := zb_of h
    refine s_callVv [aI x12, aI r2, aI x11, aI x10, aI a4, aI x9] [] hz ml_X4_58 sv_yX4_drawSteps (hrec _ _ _ _ _ _ _ _ _ rx12 rr2 rx11 rx10 ra4 rx9 hW7 hc14) (by omega) rfl sx45 rfl rfl (Nat.le_of_ble_eq_true rfl) dX4_drawMirrored_57 (fun hW14 => ?_)
    exact s_vret h hz hF hW14 dX4_drawMirrored_60
def J_X4_drawSteps_149 (rec : Int → Int → Int → Int → Int → Int → HS → zO2) (k13 : Int → Int → HS → zO2) (v2 : Int) (v3 : Int) (v4 : Int) (v5 : Int) (v6 : Int) (v7 : Int) (v8 : Int) (S : HS) : zO2 :=
  zl (v8 + 1) fun x15 =>
  k13 v7 x15 S
set_option maxHeartbeats 4000000 in
set_option maxRecDepth 20000 in
theorem TJ_X4_drawSteps_149 {e : Nat} {rec : Int → Int → Int → Int → Int → Int → HS → zO2} {k13 : Int → Int → HS → zO2} {v2 : Int} {v3 : Int} {v4 : Int} {v5 : Int} {v6 : Int} {v7 : Int} {v8 : Int} {S : HS} {r : Int} {S' : HS} {z : Zt} (hz : zO z cX4_drawSteps RX4 (e + 2) shX) (hN : zN z 10) (hF : zFv z shX S') (hrec : ∀ (b1 b2 b3 b4 b5 b6 : Int) (S S' : HS) (r : Int), rng b1 → rng b2 → rng b3 → rng b4 → rng b5 → rng b6 → WR shX S → rec b1 b2 b3 b4 b5 b6 S = some (r, S') → zV shX yX4_drawSteps cX4_drawSteps 10 e [aR 45, aI b1, aI b2, aI b3, aI b4, aI b5, aI b6] S S') (he : 5 ≤ e) (hk13 : ∀ (w7 w8 : Int) (S : HS), rng w7 → rng w8 → WR shX S → k13 w7 w8 S = some (r, S') → zA z 13 [(0, aR 45), (2, aI v2), (3, aI v3), (4, aI v4), (5, aI v5), (6, aI v6), (7, aI w7), (8, aI w8)] [] S) (rv2 : rng v2) (rv3 : rng v3) (rv4 : rng v4) (rv5 : rng v5) (rv6 : rng v6) (rv7 : rng v7) (rv8 : rng v8) (hW : WR shX S) (h : J_X4_drawSteps_149 rec k13 v2 v3 v4 v5 v6 v7 v8 S = some (r, S')) : zA z 149 [(0, aR 45), (2, aI v2), (3, aI v3), (4, aI v4), (5, aI v5), (6, aI v6), (7, aI v7), (8, aI v8)] [] S := by
  unfold J_X4_drawSteps_149 at h
  obtain ⟨x15, ex15, rx15, h⟩ := zl_ex h
  refine s_iinc (k0 := 7) (y := x15) (l' := [(8, aI x15), (0, aR 45), (2, aI v2), (3, aI v3), (4, aI v4), (5, aI v5), (6, aI v6), (7, aI v7)]) hz hN dX4_drawSteps_149 rfl ex15.symm (by decide) rfl ?_
  refine s_goto 13 hz dX4_drawSteps_152 rfl ?_
  refine s_pick (l' := [(0, aR 45), (2, aI v2), (3, aI v3), (4, aI v4), (5, aI v5), (6, aI v6), (7, aI v7), (8, aI x15)]) [1, 2, 3, 4, 5, 6, 7, 0] rfl ?_
  exact hk13 _ _ _ rv7 rx15 hW h
def L_X4_drawSteps_13 (rec : Int → Int → Int → Int → Int → Int → HS → zO2) (p2 : Int) (p3 : Int) (p4 : Int) (p5 : Int) (p6 : Int) : Nat → Int → Int → HS → zO2
  | 0, _, _, _ => none
  | n + 1, v7, v8, S => 
    if 1000 ≤ v8 then (
      some (0, S))
    else (
      if p2 ≤ v7 then (
        some (0, S))
      else (
        if S 45 8 = (-1) then (
          zb (M_X7_codeAt v7 S) fun r5 S6 =>
          if r5 = 6 then (
            zb (M_X4_drawAgain rec v7 p3 p4 p5 p6 S6) fun _ S22 =>
            zl (v7 + 4) fun x23 =>
            zb (M_X7_codeAt x23 S22) fun r24 S25 =>
            J_X4_drawSteps_149 rec (L_X4_drawSteps_13 rec p2 p3 p4 p5 p6 n) p2 p3 p4 p5 p6 r24 v8 S25)
          else (
            if r5 = 7 then (
              zb (M_X4_drawMirrored rec v7 p3 p4 p5 p6 S6) fun _ S17 =>
              zl (v7 + 1) fun x18 =>
              zb (M_X7_codeAt x18 S17) fun r19 S20 =>
              J_X4_drawSteps_149 rec (L_X4_drawSteps_13 rec p2 p3 p4 p5 p6 n) p2 p3 p4 p5 p6 r19 v8 S20)
            else (
              zb (M_X4_drawLine v7 p3 p4 p5 S6) fun _ S10 =>
              zl (v7 + 3) fun x11 =>
              zb (M_X7_codeAt x11 S10) fun r12 S13 =>
              zl (v7 + (4 + (2 * r12))) fun x14 =>
              J_X4_drawSteps_149 rec (L_X4_drawSteps_13 rec p2 p3 p4 p5 p6 n) p2 p3 p4 p5 p6 x14 v8 S13)))
        else (
          some (0, S))))
set_option maxHeartbeats 4000000 in
set_option maxRecDepth 20000 in
theorem TL_X4_drawSteps_13 {e : Nat} {rec : Int → Int → Int → Int → Int → Int → HS → zO2} {p2 : Int} {p3 : Int} {p4 : Int} {p5 : Int} {p6 : Int} {r : Int} {S' : HS} {z : Zt} (hz : zO z cX4_drawSteps RX4 (e + 2) shX) (hN : zN z 10) (hF : zFv z shX S') (hrec : ∀ (b1 b2 b3 b4 b5 b6 : Int) (S S' : HS) (r : Int), rng b1 → rng b2 → rng b3 → rng b4 → rng b5 → rng b6 → WR shX S → rec b1 b2 b3 b4 b5 b6 S = some (r, S') → zV shX yX4_drawSteps cX4_drawSteps 10 e [aR 45, aI b1, aI b2, aI b3, aI b4, aI b5, aI b6] S S') (he : 5 ≤ e) (rp2 : rng p2) (rp3 : rng p3) (rp4 : rng p4) (rp5 : rng p5) (rp6 : rng p6) : ∀ (n : Nat) {v7 : Int} {v8 : Int} {S : HS}, rng v7 → rng v8 → WR shX S → L_X4_drawSteps_13 rec p2 p3 p4 p5 p6 n v7 v8 S = some (r, S') → zA z 13 [(0, aR 45), (2, aI p2), (3, aI p3), (4, aI p4), (5, aI p5), (6, aI p6), (7, aI v7), (8, aI v8)] [] S := by
  intro n
  induction n with
  | zero =>
    intro _ _ _ _ _ _ h
    cases h
  | succ n ih =>
    intro v7 v8 S rv7 rv8 hW h
    rw [L_X4_drawSteps_13.eq_2] at h
    refine s_iload 7 hz dX4_drawSteps_13 rfl ?_
    refine s_sipush hz dX4_drawSteps_15 sp_1000 ?_
    refine s_icmp_ge 155 hz rv8 rl_1000 dX4_drawSteps_18 rfl (fun c2 => ?_) (fun c2 => ?_)
    · have h := zif_t c2 h
      exact s_vret h hz hF hW dX4_drawSteps_155
    · have h := zif_f c2 h
      refine s_iload 6 hz dX4_drawSteps_21 rfl ?_
      refine s_iload_n 1 hz dX4_drawSteps_23 rfl ?_
      refine s_icmp_ge 155 hz rv7 rp2 dX4_drawSteps_24 rfl (fun c3 => ?_) (fun c3 => ?_)
      · have h := zif_t c3 h
        exact s_vret h hz hF hW dX4_drawSteps_155
      · have h := zif_f c3 h
        refine s_aload_n 0 hz dX4_drawSteps_27 rfl ?_
        refine s_getI (kz := 8) 8 hz fl_X4_52 sx45 rfl rfl dX4_drawSteps_28 ?_
        refine s_iconst hz dX4_drawSteps_31 ?_
        refine s_icmp_ne 155 hz (hW 45 _ sx45 8) rl_m1 dX4_drawSteps_32 rfl (fun c4 => ?_) (fun c4 => ?_)
        · have h := zif_f c4 h
          exact s_vret h hz hF hW dX4_drawSteps_155
        · have h := zif_t c4 h
          refine s_aload_n 0 hz dX4_drawSteps_35 rfl ?_
          refine s_getR 0 hz fl_X4_29 sx45 rfl (by decide) dX4_drawSteps_36 ?_
          refine s_iload 6 hz dX4_drawSteps_39 rfl ?_
          obtain ⟨r5, S6, hc6, h⟩ := zb_of h
          refine s_callV [aI v7] [] hz ml_X4_75 sv_yX7_codeAt (T_X7_codeAt rv7 hW hc6) (by omega) rfl sx42 rfl rfl (Nat.le_of_ble_eq_true rfl) dX4_drawSteps_41 (fun rr5 hW6 => ?_)
          refine s_istore (l' := [(9, aI r5), (0, aR 45), (2, aI p2), (3, aI p3), (4, aI p4), (5, aI p5), (6, aI p6), (7, aI v7), (8, aI v8)]) hz hN dX4_drawSteps_44 (by decide) rfl ?_
          refine s_iload 0 hz dX4_drawSteps_46 rfl ?_
          refine s_bipush hz dX4_drawSteps_48 bp_6 ?_
          refine s_icmp_ne 82 hz rr5 rl_6 dX4_drawSteps_50 rfl (fun c7 => ?_) (fun c7 => ?_)
          · have h := zif_f c7 h
            refine s_iload 0 hz dX4_drawSteps_82 rfl ?_
            refine s_bipush hz dX4_drawSteps_84 bp_7 ?_
            refine s_icmp_ne 118 hz rr5 rl_7 dX4_drawSteps_86 rfl (fun c8 => ?_) (fun c8 => ?_)
            · have h := zif_f c8 h
              refine s_aload_n 1 hz dX4_drawSteps_118 rfl ?_
              refine s_iload 7 hz dX4_drawSteps_119 rfl ?_
              refine s_iload_n 3 hz dX4_drawSteps_121 rfl ?_
              refine s_iload 4 hz dX4_drawSteps_122 rfl ?_
              refine s_iload 5 hz dX4_drawSteps_124 rfl ?_
              obtain ⟨r9, S10, hc10, h⟩ := zb_of h
              refine s_callVv [aI v7, aI p3, aI p4, aI p5] [] hz ml_X4_85 sv_yX4_drawLine (T_X4_drawLine rv7 rp3 rp4 rp5 hW6 hc10) (by omega) rfl sx45 rfl rfl (Nat.le_of_ble_eq_true rfl) dX4_drawSteps_126 (fun hW10 => ?_)
              refine s_iload 7 hz dX4_drawSteps_129 rfl ?_
              refine s_iconst hz dX4_drawSteps_131 ?_
              refine s_iconst hz dX4_drawSteps_132 ?_
              refine s_aload_n 1 hz dX4_drawSteps_133 rfl ?_
              refine s_getR 0 hz fl_X4_29 sx45 rfl (by decide) dX4_drawSteps_134 ?_
              refine s_iload 7 hz dX4_drawSteps_137 rfl ?_
              refine s_iconst hz dX4_drawSteps_139 ?_
              refine s_iadd hz dX4_drawSteps_140 ?_
              obtain ⟨x11, ex11, rx11, h⟩ := zl_ex h
              rw [← ex11]
              obtain ⟨r12, S13, hc13, h⟩ := zb_of h
              refine s_callV [aI x11] [aI 2, aI 4, aI v7] hz ml_X4_75 sv_yX7_codeAt (T_X7_codeAt rx11 hW10 hc13) (by omega) rfl sx42 rfl rfl (Nat.le_of_ble_eq_true rfl) dX4_drawSteps_141 (fun rr12 hW13 => ?_)
              refine s_imul hz dX4_drawSteps_144 ?_
              refine s_iadd hz dX4_drawSteps_145 ?_
              refine s_iadd hz dX4_drawSteps_146 ?_
              obtain ⟨x14, ex14, rx14, h⟩ := zl_ex h
              rw [← ex14]
              refine s_istore (l' := [(7, aI x14), (9, aI r5), (0, aR 45), (2, aI p2), (3, aI p3), (4, aI p4), (5, aI p5), (6, aI p6), (8, aI v8)]) hz hN dX4_drawSteps_147 (by decide) rfl ?_
              refine s_pick (l' := [(0, aR 45), (2, aI p2), (3, aI p3), (4, aI p4), (5, aI p5), (6, aI p6), (7, aI x14), (8, aI v8)]) [2, 3, 4, 5, 6, 7, 0, 8] rfl ?_
              exact TJ_X4_drawSteps_149 hz hN hF hrec he (fun _ _ _ => ih) rp2 rp3 rp4 rp5 rp6 rx14 rv8 hW13 h
            · have h := zif_t c8 h
              refine s_aload_n 1 hz dX4_drawSteps_89 rfl ?_
              refine s_iload 7 hz dX4_drawSteps_90 rfl ?_
              refine s_iload_n 3 hz dX4_drawSteps_92 rfl ?_
              refine s_iload 4 hz dX4_drawSteps_93 rfl ?_
              refine s_iload 5 hz dX4_drawSteps_95 rfl ?_
              refine s_iload 6 hz dX4_drawSteps_97 rfl ?_
              obtain ⟨r16, S17, hc17, h⟩ := zb_of h
              refine s_callVv [aI v7, aI p3, aI p4, aI p5, aI p6] [] hz ml_X4_82 sv_yX4_drawMirrored (T_X4_drawMirrored hrec (by omega) rv7 rp3 rp4 rp5 rp6 hW6 hc17) (by omega) rfl sx45 rfl rfl (Nat.le_of_ble_eq_true rfl) dX4_drawSteps_99 (fun hW17 => ?_)
              refine s_aload_n 1 hz dX4_drawSteps_102 rfl ?_
              refine s_getR 0 hz fl_X4_29 sx45 rfl (by decide) dX4_drawSteps_103 ?_
              refine s_iload 7 hz dX4_drawSteps_106 rfl ?_
              refine s_iconst hz dX4_drawSteps_108 ?_
              refine s_iadd hz dX4_drawSteps_109 ?_
              obtain ⟨x18, ex18, rx18, h⟩ := zl_ex h
              rw [← ex18]
              obtain ⟨r19, S20, hc20, h⟩ := zb_of h
              refine s_callV [aI x18] [] hz ml_X4_75 sv_yX7_codeAt (T_X7_codeAt rx18 hW17 hc20) (by omega) rfl sx42 rfl rfl (Nat.le_of_ble_eq_true rfl) dX4_drawSteps_110 (fun rr19 hW20 => ?_)
              refine s_istore (l' := [(7, aI r19), (9, aI r5), (0, aR 45), (2, aI p2), (3, aI p3), (4, aI p4), (5, aI p5), (6, aI p6), (8, aI v8)]) hz hN dX4_drawSteps_113 (by decide) rfl ?_
              refine s_goto 149 hz dX4_drawSteps_115 rfl ?_
              refine s_pick (l' := [(0, aR 45), (2, aI p2), (3, aI p3), (4, aI p4), (5, aI p5), (6, aI p6), (7, aI r19), (8, aI v8)]) [2, 3, 4, 5, 6, 7, 0, 8] rfl ?_
              exact TJ_X4_drawSteps_149 hz hN hF hrec he (fun _ _ _ => ih) rp2 rp3 rp4 rp5 rp6 rr19 rv8 hW20 h
          · have h := zif_t c7 h
            refine s_aload_n 1 hz dX4_drawSteps_53 rfl ?_
            refine s_iload 7 hz dX4_drawSteps_54 rfl ?_
            refine s_iload_n 3 hz dX4_drawSteps_56 rfl ?_
            refine s_iload 4 hz dX4_drawSteps_57 rfl ?_
            refine s_iload 5 hz dX4_drawSteps_59 rfl ?_
            refine s_iload 6 hz dX4_drawSteps_61 rfl ?_
            obtain ⟨r21, S22, hc22, h⟩ := zb_of h
            refine s_callVv [aI v7, aI p3, aI p4, aI p5, aI p6] [] hz ml_X4_78 sv_yX4_drawAgain (T_X4_drawAgain hrec (by omega) rv7 rp3 rp4 rp5 rp6 hW6 hc22) (by omega) rfl sx45 rfl rfl (Nat.le_of_ble_eq_true rfl) dX4_drawSteps_63 (fun hW22 => ?_)
            refine s_aload_n 1 hz dX4_drawSteps_66 rfl ?_
            refine s_getR 0 hz fl_X4_29 sx45 rfl (by decide) dX4_drawSteps_67 ?_
            refine s_iload 7 hz dX4_drawSteps_70 rfl ?_
            refine s_iconst hz dX4_drawSteps_72 ?_
            refine s_iadd hz dX4_drawSteps_73 ?_
            obtain ⟨x23, ex23, rx23, h⟩ := zl_ex h
            rw [← ex23]
            obtain ⟨r24, S25, hc25, h⟩ := zb_of h
            refine s_callV [aI x23] [] hz ml_X4_75 sv_yX7_codeAt (T_X7_codeAt rx23 hW22 hc25) (by omega) rfl sx42 rfl rfl (Nat.le_of_ble_eq_true rfl) dX4_drawSteps_74 (fun rr24 hW25 => ?_)
            refine s_istore (l' := [(7, aI r24), (9, aI r5), (0, aR 45), (2, aI p2), (3, aI p3), (4, aI p4), (5, aI p5), (6, aI p6), (8, aI v8)]) hz hN dX4_drawSteps_77 (by decide) rfl ?_
            refine s_goto 149 hz dX4_drawSteps_79 rfl ?_
            refine s_pick (l' := [(0, aR 45), (2, aI p2), (3, aI p3), (4, aI p4), (5, aI p5), (6, aI p6), (7, aI r24), (8, aI v8)]) [2, 3, 4, 5, 6, 7, 0, 8] rfl ?_
            exact TJ_X4_drawSteps_149 hz hN hF hrec he (fun _ _ _ => ih) rp2 rp3 rp4 rp5 rp6 rr24 rv8 hW25 h
def F_X4_drawSteps (rec : Int → Int → Int → Int → Int → Int → HS → zO2) (a1 : Int) (a2 : Int) (a3 : Int) (a4 : Int) (a5 : Int) (a6 : Int) (S : HS) : zO2 :=
  if a6 ≤ 4 then (
    L_X4_drawSteps_13 rec a2 a3 a4 a5 a6 zBig a1 0 S)
  else (
    some (0, S))
set_option maxHeartbeats 4000000 in
set_option maxRecDepth 20000 in
theorem TF_X4_drawSteps {e : Nat} {rec : Int → Int → Int → Int → Int → Int → HS → zO2} (hrec : ∀ (b1 b2 b3 b4 b5 b6 : Int) (S S' : HS) (r : Int), rng b1 → rng b2 → rng b3 → rng b4 → rng b5 → rng b6 → WR shX S → rec b1 b2 b3 b4 b5 b6 S = some (r, S') → zV shX yX4_drawSteps cX4_drawSteps 10 e [aR 45, aI b1, aI b2, aI b3, aI b4, aI b5, aI b6] S S') (he : 5 ≤ e) {a1 : Int} {a2 : Int} {a3 : Int} {a4 : Int} {a5 : Int} {a6 : Int} {S S' : HS} {r : Int} (ra1 : rng a1) (ra2 : rng a2) (ra3 : rng a3) (ra4 : rng a4) (ra5 : rng a5) (ra6 : rng a6) (hW : WR shX S) (h : F_X4_drawSteps rec a1 a2 a3 a4 a5 a6 S = some (r, S')) : zV shX yX4_drawSteps cX4_drawSteps 10 (e + 2) [aR 45, aI a1, aI a2, aI a3, aI a4, aI a5, aI a6] S S' := by
  refine zV_of (by decide +kernel) (Nat.le_of_ble_eq_true rfl) (fun z hz hN hF => ?_)
  have hz : zO z cX4_drawSteps RX4 (e + 2) shX := hz
  show zA z 0 [(0, aR 45), (1, aI a1), (2, aI a2), (3, aI a3), (4, aI a4), (5, aI a5), (6, aI a6)] [] S
  unfold F_X4_drawSteps at h
  refine s_iload 6 hz dX4_drawSteps_0 rfl ?_
  refine s_iconst hz dX4_drawSteps_2 ?_
  refine s_icmp_le 7 hz ra6 rl_4 dX4_drawSteps_3 rfl (fun c1 => ?_) (fun c1 => ?_)
  · have h := zif_t c1 h
    refine s_iload_n 1 hz dX4_drawSteps_7 rfl ?_
    refine s_istore (l' := [(7, aI a1), (0, aR 45), (1, aI a1), (2, aI a2), (3, aI a3), (4, aI a4), (5, aI a5), (6, aI a6)]) hz hN dX4_drawSteps_8 (by decide) rfl ?_
    refine s_iconst hz dX4_drawSteps_10 ?_
    refine s_istore (l' := [(8, aI 0), (7, aI a1), (0, aR 45), (1, aI a1), (2, aI a2), (3, aI a3), (4, aI a4), (5, aI a5), (6, aI a6)]) hz hN dX4_drawSteps_11 (by decide) rfl ?_
    refine s_pick (l' := [(0, aR 45), (2, aI a2), (3, aI a3), (4, aI a4), (5, aI a5), (6, aI a6), (7, aI a1), (8, aI 0)]) [2, 4, 5, 6, 7, 8, 1, 0] rfl ?_
    exact TL_X4_drawSteps_13 hz hN hF hrec he ra2 ra3 ra4 ra5 ra6 zBig ra1 rl_0 hW h
  · have h := zif_f c1 h
    exact s_vret h hz hF hW dX4_drawSteps_6
def M_X4_drawSteps : Nat → Int → Int → Int → Int → Int → Int → HS → zO2
  | 0, _, _, _, _, _, _, _ => none
  | n + 1, a1, a2, a3, a4, a5, a6, S => F_X4_drawSteps (M_X4_drawSteps n) a1 a2 a3 a4 a5 a6 S
set_option maxHeartbeats 4000000 in
set_option maxRecDepth 20000 in
theorem T_X4_drawSteps : ∀ (n : Nat) {a1 : Int} {a2 : Int} {a3 : Int} {a4 : Int} {a5 : Int} {a6 : Int} {S S' : HS} {r : Int}, rng a1 → rng a2 → rng a3 → rng a4 → rng a5 → rng a6 → WR shX S → M_X4_drawSteps n a1 a2 a3 a4 a5 a6 S = some (r, S') → zV shX yX4_drawSteps cX4_drawSteps 10 (5 + 2 * n) [aR 45, aI a1, aI a2, aI a3, aI a4, aI a5, aI a6] S S' := by
  intro n
  induction n with
  | zero =>
    intro _ _ _ _ _ _ _ _ _ _ _ _ _ _ _ _ h
    cases h
  | succ n ih =>
    intro a1 a2 a3 a4 a5 a6 S S' r ra1 ra2 ra3 ra4 ra5 ra6 hW h
    rw [M_X4_drawSteps.eq_2] at h
    rw [show 5 + 2 * (n + 1) = (5 + 2 * n) + 2 by omega]
    exact TF_X4_drawSteps (fun _ _ _ _ _ _ _ _ _ q0 q1 q2 q3 q4 q5 h1 h2 => ih q0 q1 q2 q3 q4 q5 h1 h2) (by omega) ra1 ra2 ra3 ra4 ra5 ra6 hW h
def J_X11_cellAt_25 (v0 : Int) (v1 : Int) (t0 : Int) (S : HS) : zO2 :=
  if t0 = 0 then (
    some ((-1), S))
  else (
    zl ((16 * v1) + v0) fun x3 =>
    some (x3, S))
set_option maxHeartbeats 4000000 in
set_option maxRecDepth 20000 in
theorem TJ_X11_cellAt_25 {v0 : Int} {v1 : Int} {t0 : Int} {S : HS} {r : Int} {S' : HS} {z : Zt} (hz : zO z cX11_cellAt RX11 1 shX) (hN : zN z 3) (hF : zFi z shX .int r S') (rv0 : rng v0) (rv1 : rng v1) (rt0 : rng t0) (hW : WR shX S) (h : J_X11_cellAt_25 v0 v1 t0 S = some (r, S')) : zA z 25 [(0, aI v0), (1, aI v1)] [aI t0] S := by
  unfold J_X11_cellAt_25 at h
  refine s_istore_n (l' := [(2, aI t0), (0, aI v0), (1, aI v1)]) hz hN dX11_cellAt_25 (by decide) rfl ?_
  refine s_iload_n 0 hz dX11_cellAt_26 rfl ?_
  refine s_if_eq 39 hz rt0 dX11_cellAt_27 rfl (fun c2 => ?_) (fun c2 => ?_)
  · have h := zif_t c2 h
    refine s_iconst hz dX11_cellAt_39 ?_
    exact s_iret h hz hF rl_m1 hW dX11_cellAt_40
  · have h := zif_f c2 h
    refine s_bipush hz dX11_cellAt_30 bp_16 ?_
    refine s_iload_n 2 hz dX11_cellAt_32 rfl ?_
    refine s_imul hz dX11_cellAt_33 ?_
    refine s_iload_n 1 hz dX11_cellAt_34 rfl ?_
    refine s_iadd hz dX11_cellAt_35 ?_
    refine s_goto 40 hz dX11_cellAt_36 rfl ?_
    obtain ⟨x3, ex3, rx3, h⟩ := zl_ex h
    rw [← ex3]
    exact s_iret h hz hF rx3 hW dX11_cellAt_40
def J_X11_cellAt_24 (v0 : Int) (v1 : Int) (S : HS) : zO2 :=
  J_X11_cellAt_25 v0 v1 0 S
set_option maxHeartbeats 4000000 in
set_option maxRecDepth 20000 in
theorem TJ_X11_cellAt_24 {v0 : Int} {v1 : Int} {S : HS} {r : Int} {S' : HS} {z : Zt} (hz : zO z cX11_cellAt RX11 1 shX) (hN : zN z 3) (hF : zFi z shX .int r S') (rv0 : rng v0) (rv1 : rng v1) (hW : WR shX S) (h : J_X11_cellAt_24 v0 v1 S = some (r, S')) : zA z 24 [(0, aI v0), (1, aI v1)] [] S := by
  unfold J_X11_cellAt_24 at h
  refine s_iconst hz dX11_cellAt_24 ?_
  exact TJ_X11_cellAt_25 hz hN hF rv0 rv1 rl_0 hW h
def M_X11_cellAt (a1 : Int) (a2 : Int) (S : HS) : zO2 :=
  if a1 < 0 then (
    J_X11_cellAt_24 a1 a2 S)
  else (
    if 16 ≤ a1 then (
      J_X11_cellAt_24 a1 a2 S)
    else (
      if a2 < 0 then (
        J_X11_cellAt_24 a1 a2 S)
      else (
        if 12 ≤ a2 then (
          J_X11_cellAt_24 a1 a2 S)
        else (
          J_X11_cellAt_25 a1 a2 1 S))))
set_option maxHeartbeats 4000000 in
set_option maxRecDepth 20000 in
theorem T_X11_cellAt {a1 : Int} {a2 : Int} {S S' : HS} {r : Int} (ra1 : rng a1) (ra2 : rng a2) (hW : WR shX S) (h : M_X11_cellAt a1 a2 S = some (r, S')) : zR shX yX11_cellAt cX11_cellAt 3  .int 1 [aI a1, aI a2] S r S' := by
  refine zR_of (by decide +kernel) (Nat.le_of_ble_eq_true rfl) (fun z hz hN hF => ?_)
  have hz : zO z cX11_cellAt RX11 1 shX := hz
  show zA z 0 [(0, aI a1), (1, aI a2)] [] S
  unfold M_X11_cellAt at h
  refine s_iload_n 0 hz dX11_cellAt_0 rfl ?_
  refine s_if_lt 24 hz ra1 dX11_cellAt_1 rfl (fun c1 => ?_) (fun c1 => ?_)
  · have h := zif_t c1 h
    exact TJ_X11_cellAt_24 hz hN hF ra1 ra2 hW h
  · have h := zif_f c1 h
    refine s_iload_n 0 hz dX11_cellAt_4 rfl ?_
    refine s_bipush hz dX11_cellAt_5 bp_16 ?_
    refine s_icmp_ge 24 hz ra1 rl_16 dX11_cellAt_7 rfl (fun c4 => ?_) (fun c4 => ?_)
    · have h := zif_t c4 h
      exact TJ_X11_cellAt_24 hz hN hF ra1 ra2 hW h
    · have h := zif_f c4 h
      refine s_iload_n 1 hz dX11_cellAt_10 rfl ?_
      refine s_if_lt 24 hz ra2 dX11_cellAt_11 rfl (fun c5 => ?_) (fun c5 => ?_)
      · have h := zif_t c5 h
        exact TJ_X11_cellAt_24 hz hN hF ra1 ra2 hW h
      · have h := zif_f c5 h
        refine s_iload_n 1 hz dX11_cellAt_14 rfl ?_
        refine s_bipush hz dX11_cellAt_15 bp_12 ?_
        refine s_icmp_ge 24 hz ra2 rl_12 dX11_cellAt_17 rfl (fun c6 => ?_) (fun c6 => ?_)
        · have h := zif_t c6 h
          exact TJ_X11_cellAt_24 hz hN hF ra1 ra2 hW h
        · have h := zif_f c6 h
          refine s_iconst hz dX11_cellAt_20 ?_
          refine s_goto 25 hz dX11_cellAt_21 rfl ?_
          exact TJ_X11_cellAt_25 hz hN hF ra1 ra2 rl_1 hW h
def M_X11_isUntouched (S : HS) : zO2 :=
  if S 3 3 = 0 then (
    if S 7 11 = 0 then (
      if S 1 2 = 0 then (
        some (1, S))
      else (
        some (0, S)))
    else (
      some (0, S)))
  else (
    some (0, S))
set_option maxHeartbeats 4000000 in
set_option maxRecDepth 20000 in
theorem T_X11_isUntouched {S S' : HS} {r : Int} (hW : WR shX S) (h : M_X11_isUntouched S = some (r, S')) : zR shX yX11_isUntouched cX11_isUntouched 1  .boolean 1 [aR 0] S r S' := by
  refine zR_of (by decide +kernel) (Nat.le_of_ble_eq_true rfl) (fun z hz hN hF => ?_)
  have hz : zO z cX11_isUntouched RX11 1 shX := hz
  show zA z 0 [(0, aR 0)] [] S
  unfold M_X11_isUntouched at h
  refine s_aload_n 0 hz dX11_isUntouched_0 rfl ?_
  refine s_getR 1 hz fl_X11_19 sx0 rfl (by decide) dX11_isUntouched_1 ?_
  refine s_getI (kz := 3) 3 hz fl_X11_243 sx3 rfl rfl dX11_isUntouched_4 ?_
  refine s_if_ne 34 hz (hW 3 _ sx3 3) dX11_isUntouched_7 rfl (fun c1 => ?_) (fun c1 => ?_)
  · have h := zif_f c1 h
    refine s_iconst hz dX11_isUntouched_34 ?_
    exact s_zret h hz hF (by decide) hW dX11_isUntouched_35
  · have h := zif_t c1 h
    refine s_aload_n 0 hz dX11_isUntouched_10 rfl ?_
    refine s_getR 2 hz fl_X11_28 sx0 rfl (by decide) dX11_isUntouched_11 ?_
    refine s_getI (kz := 11) 11 hz fl_X11_223 sx7 rfl rfl dX11_isUntouched_14 ?_
    refine s_if_ne 34 hz (hW 7 _ sx7 11) dX11_isUntouched_17 rfl (fun c2 => ?_) (fun c2 => ?_)
    · have h := zif_f c2 h
      refine s_iconst hz dX11_isUntouched_34 ?_
      exact s_zret h hz hF (by decide) hW dX11_isUntouched_35
    · have h := zif_t c2 h
      refine s_aload_n 0 hz dX11_isUntouched_20 rfl ?_
      refine s_getR 0 hz fl_X11_12 sx0 rfl (by decide) dX11_isUntouched_21 ?_
      refine s_getI (kz := 2) 2 hz fl_X11_224 sx1 rfl rfl dX11_isUntouched_24 ?_
      refine s_if_ne 34 hz (hW 1 _ sx1 2) dX11_isUntouched_27 rfl (fun c3 => ?_) (fun c3 => ?_)
      · have h := zif_f c3 h
        refine s_iconst hz dX11_isUntouched_34 ?_
        exact s_zret h hz hF (by decide) hW dX11_isUntouched_35
      · have h := zif_t c3 h
        refine s_iconst hz dX11_isUntouched_30 ?_
        refine s_goto 35 hz dX11_isUntouched_31 rfl ?_
        exact s_zret h hz hF (by decide) hW dX11_isUntouched_35
def M_X2_putHairs (a1 : Int) (a2 : Int) (S : HS) : zO2 :=
  zb (M_X11_isCell a1 S) fun r1 S2 =>
  if r1 = 0 then (
    some (0, S2))
  else (
    zg ((0 : Int) ≤ a1 ∧ a1 < 192) <|
    zs (up S2 2 a1 a2) fun S5 =>
    some (0, S5))
set_option maxHeartbeats 4000000 in
set_option maxRecDepth 20000 in
theorem T_X2_putHairs {a1 : Int} {a2 : Int} {S S' : HS} {r : Int} (ra1 : rng a1) (ra2 : rng a2) (hW : WR shX S) (h : M_X2_putHairs a1 a2 S = some (r, S')) : zV shX yX2_putHairs cX2_putHairs 3 2 [aR 1, aI a1, aI a2] S S' := by
  refine zV_of (by decide +kernel) (Nat.le_of_ble_eq_true rfl) (fun z hz hN hF => ?_)
  have hz : zO z cX2_putHairs RX2 2 shX := hz
  show zA z 0 [(0, aR 1), (1, aI a1), (2, aI a2)] [] S
  unfold M_X2_putHairs at h
  refine s_iload_n 1 hz dX2_putHairs_0 rfl ?_
  obtain ⟨r1, S2, hc2, h⟩ := zb_of h
  refine s_callS [aI a1] [] hz ml_X2_28 ss_yX11_isCell (T_X11_isCell ra1 hW hc2) (by decide) rfl rfl (Nat.le_of_ble_eq_true rfl) dX2_putHairs_1 (fun rr1 hW2 => ?_)
  refine s_if_eq 14 hz rr1 dX2_putHairs_4 rfl (fun c3 => ?_) (fun c3 => ?_)
  · have h := zif_t c3 h
    exact s_vret h hz hF hW2 dX2_putHairs_14
  · have h := zif_f c3 h
    refine s_aload_n 0 hz dX2_putHairs_7 rfl ?_
    refine s_getR 0 hz fl_X2_9 sx1 rfl (by decide) dX2_putHairs_8 ?_
    refine s_iload_n 1 hz dX2_putHairs_11 rfl ?_
    refine s_iload_n 2 hz dX2_putHairs_12 rfl ?_
    obtain ⟨g4, h⟩ := zg_of h
    obtain ⟨S5, eS5, h⟩ := zs_ex h
    have hW5 : WR shX S5 := by rw [eS5]; exact hW2.up (i := a1) sx2 (v := a2) ra2
    refine s_iast hz sx2 rfl (by decide) g4 dX2_putHairs_13 ?_
    rw [← eS5]
    exact s_vret h hz hF hW5 dX2_putHairs_14
def M_X8_push (a1 : Int) (S : HS) : zO2 :=
  if 192 ≤ S 17 8 then (
    some (0, S))
  else (
    zg ((0 : Int) ≤ S 17 8 ∧ S 17 8 < 192) <|
    zs (up S 22 (S 17 8) a1) fun S3 =>
    zl ((S3 17 8) + 1) fun x4 =>
    zs (up S3 17 8 x4) fun S5 =>
    some (0, S5))
set_option maxHeartbeats 4000000 in
set_option maxRecDepth 20000 in
theorem T_X8_push {a1 : Int} {S S' : HS} {r : Int} (ra1 : rng a1) (hW : WR shX S) (h : M_X8_push a1 S = some (r, S')) : zV shX yX8_push cX8_push 2 1 [aR 17, aI a1] S S' := by
  refine zV_of (by decide +kernel) (Nat.le_of_ble_eq_true rfl) (fun z hz hN hF => ?_)
  have hz : zO z cX8_push RX8 1 shX := hz
  show zA z 0 [(0, aR 17), (1, aI a1)] [] S
  unfold M_X8_push at h
  refine s_aload_n 0 hz dX8_push_0 rfl ?_
  refine s_getI (kz := 8) 8 hz fl_X8_71 sx17 rfl rfl dX8_push_1 ?_
  refine s_sipush hz dX8_push_4 sp_192 ?_
  refine s_icmp_ge 30 hz (hW 17 _ sx17 8) rl_192 dX8_push_7 rfl (fun c1 => ?_) (fun c1 => ?_)
  · have h := zif_t c1 h
    exact s_vret h hz hF hW dX8_push_30
  · have h := zif_f c1 h
    refine s_aload_n 0 hz dX8_push_10 rfl ?_
    refine s_getR 7 hz fl_X8_24 sx17 rfl (by decide) dX8_push_11 ?_
    refine s_aload_n 0 hz dX8_push_14 rfl ?_
    refine s_getI (kz := 8) 8 hz fl_X8_71 sx17 rfl rfl dX8_push_15 ?_
    refine s_iload_n 1 hz dX8_push_18 rfl ?_
    obtain ⟨g2, h⟩ := zg_of h
    obtain ⟨S3, eS3, h⟩ := zs_ex h
    have hW3 : WR shX S3 := by rw [eS3]; exact hW.up (i := (S 17 8)) sx22 (v := a1) ra1
    refine s_iast hz sx22 rfl (by decide) g2 dX8_push_19 ?_
    rw [← eS3]
    refine s_aload_n 0 hz dX8_push_20 rfl ?_
    refine s_dup hz rfl dX8_push_21 ?_
    refine s_getI (kz := 8) 8 hz fl_X8_71 sx17 rfl rfl dX8_push_22 ?_
    refine s_iconst hz dX8_push_25 ?_
    refine s_iadd hz dX8_push_26 ?_
    obtain ⟨x4, ex4, rx4, h⟩ := zl_ex h
    rw [← ex4]
    obtain ⟨S5, eS5, h⟩ := zs_ex h
    have hW5 : WR shX S5 := by rw [eS5]; exact hW3.up (i := 8) sx17 (v := x4) rx4
    refine s_putI (kz := 8) 8 hz fp_X8_71 sx17 rfl rfl dX8_push_27 ?_
    rw [← eS5]
    exact s_vret h hz hF hW5 dX8_push_30
def M_X8_spreadName (a1 : Int) (a2 : Int) (S : HS) : zO2 :=
  zb (M_X11_isCell a1 S) fun r1 S2 =>
  if r1 = 0 then (
    some (0, S2))
  else (
    zg ((0 : Int) ≤ a1 ∧ a1 < 192) <|
    if S2 18 a1 = (-1) then (
      zg ((0 : Int) ≤ a1 ∧ a1 < 192) <|
      zs (up S2 18 a1 a2) fun S7 =>
      zb (M_X8_push a1 S7) fun _ S9 =>
      some (0, S9))
    else (
      some (0, S2)))
set_option maxHeartbeats 4000000 in
set_option maxRecDepth 20000 in
theorem T_X8_spreadName {a1 : Int} {a2 : Int} {S S' : HS} {r : Int} (ra1 : rng a1) (ra2 : rng a2) (hW : WR shX S) (h : M_X8_spreadName a1 a2 S = some (r, S')) : zV shX yX8_spreadName cX8_spreadName 3 2 [aR 17, aI a1, aI a2] S S' := by
  refine zV_of (by decide +kernel) (Nat.le_of_ble_eq_true rfl) (fun z hz hN hF => ?_)
  have hz : zO z cX8_spreadName RX8 2 shX := hz
  show zA z 0 [(0, aR 17), (1, aI a1), (2, aI a2)] [] S
  unfold M_X8_spreadName at h
  refine s_iload_n 1 hz dX8_spreadName_0 rfl ?_
  obtain ⟨r1, S2, hc2, h⟩ := zb_of h
  refine s_callS [aI a1] [] hz ml_X8_39 ss_yX11_isCell (T_X11_isCell ra1 hW hc2) (by decide) rfl rfl (Nat.le_of_ble_eq_true rfl) dX8_spreadName_1 (fun rr1 hW2 => ?_)
  refine s_if_eq 29 hz rr1 dX8_spreadName_4 rfl (fun c3 => ?_) (fun c3 => ?_)
  · have h := zif_t c3 h
    exact s_vret h hz hF hW2 dX8_spreadName_29
  · have h := zif_f c3 h
    refine s_aload_n 0 hz dX8_spreadName_7 rfl ?_
    refine s_getR 3 hz fl_X8_9 sx17 rfl (by decide) dX8_spreadName_8 ?_
    refine s_iload_n 1 hz dX8_spreadName_11 rfl ?_
    obtain ⟨g4, h⟩ := zg_of h
    refine s_iald hz sx18 rfl (by decide) g4 dX8_spreadName_12 ?_
    refine s_iconst hz dX8_spreadName_13 ?_
    refine s_icmp_ne 29 hz (hW2 18 _ sx18 a1) rl_m1 dX8_spreadName_14 rfl (fun c5 => ?_) (fun c5 => ?_)
    · have h := zif_f c5 h
      exact s_vret h hz hF hW2 dX8_spreadName_29
    · have h := zif_t c5 h
      refine s_aload_n 0 hz dX8_spreadName_17 rfl ?_
      refine s_getR 3 hz fl_X8_9 sx17 rfl (by decide) dX8_spreadName_18 ?_
      refine s_iload_n 1 hz dX8_spreadName_21 rfl ?_
      refine s_iload_n 2 hz dX8_spreadName_22 rfl ?_
      obtain ⟨g6, h⟩ := zg_of h
      obtain ⟨S7, eS7, h⟩ := zs_ex h
      have hW7 : WR shX S7 := by rw [eS7]; exact hW2.up (i := a1) sx18 (v := a2) ra2
      refine s_iast hz sx18 rfl (by decide) g6 dX8_spreadName_23 ?_
      rw [← eS7]
      refine s_aload_n 0 hz dX8_spreadName_24 rfl ?_
      refine s_iload_n 1 hz dX8_spreadName_25 rfl ?_
      obtain ⟨r8, S9, hc9, h⟩ := zb_of h
      refine s_callVv [aI a1] [] hz ml_X8_82 sv_yX8_push (T_X8_push ra1 hW7 hc9) (by decide) rfl sx17 rfl rfl (Nat.le_of_ble_eq_true rfl) dX8_spreadName_26 (fun hW9 => ?_)
      exact s_vret h hz hF hW9 dX8_spreadName_29
def M_X11_cellBeside (a1 : Int) (a2 : Int) (S : HS) : zO2 :=
  zg ((0 : Int) ≤ a1 ∧ (0 : Int) < 16) <|
  zb (M_X11_acrossBy a2 S) fun r2 S3 =>
  zg ((0 : Int) ≤ a1 ∧ (0 : Int) < 16) <|
  zb (M_X11_downBy a2 S3) fun r5 S6 =>
  zl ((a1 / 16) + r5) fun x7 =>
  zl ((a1 % 16) + r2) fun x8 =>
  zb (M_X11_cellAt x8 x7 S6) fun r9 S10 =>
  some (r9, S10)
set_option maxHeartbeats 4000000 in
set_option maxRecDepth 20000 in
theorem T_X11_cellBeside {a1 : Int} {a2 : Int} {S S' : HS} {r : Int} (ra1 : rng a1) (ra2 : rng a2) (hW : WR shX S) (h : M_X11_cellBeside a1 a2 S = some (r, S')) : zR shX yX11_cellBeside cX11_cellBeside 2  .int 2 [aI a1, aI a2] S r S' := by
  refine zR_of (by decide +kernel) (Nat.le_of_ble_eq_true rfl) (fun z hz hN hF => ?_)
  have hz : zO z cX11_cellBeside RX11 2 shX := hz
  show zA z 0 [(0, aI a1), (1, aI a2)] [] S
  unfold M_X11_cellBeside at h
  refine s_iload_n 0 hz dX11_cellBeside_0 rfl ?_
  refine s_bipush hz dX11_cellBeside_1 bp_16 ?_
  obtain ⟨g1, h⟩ := zg_of h
  refine s_irem hz g1.1 g1.2 ra1 rl_16 dX11_cellBeside_3 ?_
  refine s_iload_n 1 hz dX11_cellBeside_4 rfl ?_
  obtain ⟨r2, S3, hc3, h⟩ := zb_of h
  refine s_callS [aI a2] [aI (a1 % 16)] hz ml_X11_275 ss_yX11_acrossBy (T_X11_acrossBy ra2 hW hc3) (by decide) rfl rfl (Nat.le_of_ble_eq_true rfl) dX11_cellBeside_5 (fun rr2 hW3 => ?_)
  refine s_iadd hz dX11_cellBeside_8 ?_
  refine s_iload_n 0 hz dX11_cellBeside_9 rfl ?_
  refine s_bipush hz dX11_cellBeside_10 bp_16 ?_
  obtain ⟨g4, h⟩ := zg_of h
  refine s_idiv hz g4.1 g4.2 ra1 rl_16 dX11_cellBeside_12 ?_
  refine s_iload_n 1 hz dX11_cellBeside_13 rfl ?_
  obtain ⟨r5, S6, hc6, h⟩ := zb_of h
  refine s_callS [aI a2] [aI (a1 / 16), aI ((a1 % 16) + r2)] hz ml_X11_278 ss_yX11_downBy (T_X11_downBy ra2 hW3 hc6) (by decide) rfl rfl (Nat.le_of_ble_eq_true rfl) dX11_cellBeside_14 (fun rr5 hW6 => ?_)
  refine s_iadd hz dX11_cellBeside_17 ?_
  obtain ⟨x7, ex7, rx7, h⟩ := zl_ex h
  rw [← ex7]
  obtain ⟨x8, ex8, rx8, h⟩ := zl_ex h
  rw [← ex8]
  obtain ⟨r9, S10, hc10, h⟩ := zb_of h
  refine s_callS [aI x8, aI x7] [] hz ml_X11_92 ss_yX11_cellAt (T_X11_cellAt rx8 rx7 hW6 hc10) (by decide) rfl rfl (Nat.le_of_ble_eq_true rfl) dX11_cellBeside_18 (fun rr9 hW10 => ?_)
  exact s_iret h hz hF rr9 hW10 dX11_cellBeside_21
def M_X8_openBeside (a1 : Int) (a2 : Int) (S : HS) : zO2 :=
  zb (M_X11_cellBeside a1 a2 S) fun r1 S2 =>
  zb (M_X2_isScalp r1 S2) fun r3 S4 =>
  if r3 = 0 then (
    some ((-1), S4))
  else (
    zb (M_X5_isParted a1 a2 S4) fun r6 S7 =>
    if r6 = 0 then (
      some (r1, S7))
    else (
      some ((-1), S7)))
set_option maxHeartbeats 4000000 in
set_option maxRecDepth 20000 in
theorem T_X8_openBeside {a1 : Int} {a2 : Int} {S S' : HS} {r : Int} (ra1 : rng a1) (ra2 : rng a2) (hW : WR shX S) (h : M_X8_openBeside a1 a2 S = some (r, S')) : zR shX yX8_openBeside cX8_openBeside 4  .int 3 [aR 17, aI a1, aI a2] S r S' := by
  refine zR_of (by decide +kernel) (Nat.le_of_ble_eq_true rfl) (fun z hz hN hF => ?_)
  have hz : zO z cX8_openBeside RX8 3 shX := hz
  show zA z 0 [(0, aR 17), (1, aI a1), (2, aI a2)] [] S
  unfold M_X8_openBeside at h
  refine s_iload_n 1 hz dX8_openBeside_0 rfl ?_
  refine s_iload_n 2 hz dX8_openBeside_1 rfl ?_
  obtain ⟨r1, S2, hc2, h⟩ := zb_of h
  refine s_callS [aI a1, aI a2] [] hz ml_X8_106 ss_yX11_cellBeside (T_X11_cellBeside ra1 ra2 hW hc2) (by decide) rfl rfl (Nat.le_of_ble_eq_true rfl) dX8_openBeside_2 (fun rr1 hW2 => ?_)
  refine s_istore_n (l' := [(3, aI r1), (0, aR 17), (1, aI a1), (2, aI a2)]) hz hN dX8_openBeside_5 (by decide) rfl ?_
  refine s_aload_n 1 hz dX8_openBeside_6 rfl ?_
  refine s_getR 0 hz fl_X8_27 sx17 rfl (by decide) dX8_openBeside_7 ?_
  refine s_iload_n 0 hz dX8_openBeside_10 rfl ?_
  obtain ⟨r3, S4, hc4, h⟩ := zb_of h
  refine s_callV [aI r1] [] hz ml_X8_62 sv_yX2_isScalp (T_X2_isScalp rr1 hW2 hc4) (by decide) rfl sx1 rfl rfl (Nat.le_of_ble_eq_true rfl) dX8_openBeside_11 (fun rr3 hW4 => ?_)
  refine s_if_eq 33 hz rr3 dX8_openBeside_14 rfl (fun c5 => ?_) (fun c5 => ?_)
  · have h := zif_t c5 h
    refine s_iconst hz dX8_openBeside_33 ?_
    exact s_iret h hz hF rl_m1 hW4 dX8_openBeside_34
  · have h := zif_f c5 h
    refine s_aload_n 1 hz dX8_openBeside_17 rfl ?_
    refine s_getR 1 hz fl_X8_31 sx17 rfl (by decide) dX8_openBeside_18 ?_
    refine s_iload_n 2 hz dX8_openBeside_21 rfl ?_
    refine s_iload_n 3 hz dX8_openBeside_22 rfl ?_
    obtain ⟨r6, S7, hc7, h⟩ := zb_of h
    refine s_callV [aI a1, aI a2] [] hz ml_X8_109 sv_yX5_isParted (T_X5_isParted ra1 ra2 hW4 hc7) (by decide) rfl sx3 rfl rfl (Nat.le_of_ble_eq_true rfl) dX8_openBeside_23 (fun rr6 hW7 => ?_)
    refine s_if_ne 33 hz rr6 dX8_openBeside_26 rfl (fun c8 => ?_) (fun c8 => ?_)
    · have h := zif_f c8 h
      refine s_iconst hz dX8_openBeside_33 ?_
      exact s_iret h hz hF rl_m1 hW7 dX8_openBeside_34
    · have h := zif_t c8 h
      refine s_iload_n 0 hz dX8_openBeside_29 rfl ?_
      refine s_goto 34 hz dX8_openBeside_30 rfl ?_
      exact s_iret h hz hF rr1 hW7 dX8_openBeside_34
def L_X8_nameRegion_30 (k57 : HS → zO2) (p1 : Int) (p2 : Int) : Nat → Int → HS → zO2
  | 0, _, _ => none
  | n + 1, v3, S => 
    if 4 ≤ v3 then (
      k57 S)
    else (
      zg ((0 : Int) ≤ p2 ∧ p2 < 192) <|
      zb (M_X8_openBeside (S 22 p2) v3 S) fun r8 S9 =>
      zb (M_X8_spreadName r8 p1 S9) fun _ S11 =>
      zl (v3 + 1) fun x12 =>
      L_X8_nameRegion_30 k57 p1 p2 n x12 S11)
set_option maxHeartbeats 4000000 in
set_option maxRecDepth 20000 in
theorem TL_X8_nameRegion_30 {k57 : HS → zO2} {p1 : Int} {p2 : Int} {r : Int} {S' : HS} {z : Zt} (hz : zO z cX8_nameRegion RX8 4 shX) (hN : zN z 4) (hF : zFv z shX S') (hk57 : ∀ (S : HS), WR shX S → k57 S = some (r, S') → zA z 57 [(0, aR 17), (1, aI p1), (2, aI p2)] [] S) (rp1 : rng p1) (rp2 : rng p2) : ∀ (n : Nat) {v3 : Int} {S : HS}, rng v3 → WR shX S → L_X8_nameRegion_30 k57 p1 p2 n v3 S = some (r, S') → zA z 30 [(0, aR 17), (1, aI p1), (2, aI p2), (3, aI v3)] [] S := by
  intro n
  induction n with
  | zero =>
    intro _ _ _ _ h
    cases h
  | succ n ih =>
    intro v3 S rv3 hW h
    rw [L_X8_nameRegion_30.eq_2] at h
    refine s_iload_n 3 hz dX8_nameRegion_30 rfl ?_
    refine s_iconst hz dX8_nameRegion_31 ?_
    refine s_icmp_ge 57 hz rv3 rl_4 dX8_nameRegion_32 rfl (fun c6 => ?_) (fun c6 => ?_)
    · have h := zif_t c6 h
      refine s_pick (l' := [(0, aR 17), (1, aI p1), (2, aI p2)]) [0, 1, 2] rfl ?_
      exact hk57 _ hW h
    · have h := zif_f c6 h
      refine s_aload_n 0 hz dX8_nameRegion_35 rfl ?_
      refine s_aload_n 0 hz dX8_nameRegion_36 rfl ?_
      refine s_aload_n 0 hz dX8_nameRegion_37 rfl ?_
      refine s_getR 7 hz fl_X8_24 sx17 rfl (by decide) dX8_nameRegion_38 ?_
      refine s_iload_n 2 hz dX8_nameRegion_41 rfl ?_
      obtain ⟨g7, h⟩ := zg_of h
      refine s_iald hz sx22 rfl (by decide) g7 dX8_nameRegion_42 ?_
      refine s_iload_n 3 hz dX8_nameRegion_43 rfl ?_
      obtain ⟨r8, S9, hc9, h⟩ := zb_of h
      refine s_callV [aI (S 22 p2), aI v3] [aR 17] hz ml_X8_78 sv_yX8_openBeside (T_X8_openBeside (hW 22 _ sx22 p2) rv3 hW hc9) (by decide) rfl sx17 rfl rfl (Nat.le_of_ble_eq_true rfl) dX8_nameRegion_44 (fun rr8 hW9 => ?_)
      refine s_iload_n 1 hz dX8_nameRegion_47 rfl ?_
      obtain ⟨r10, S11, hc11, h⟩ := zb_of h
      refine s_callVv [aI r8, aI p1] [] hz ml_X8_74 sv_yX8_spreadName (T_X8_spreadName rr8 rp1 hW9 hc11) (by decide) rfl sx17 rfl rfl (Nat.le_of_ble_eq_true rfl) dX8_nameRegion_48 (fun hW11 => ?_)
      obtain ⟨x12, ex12, rx12, h⟩ := zl_ex h
      refine s_iinc (k0 := 3) (y := x12) (l' := [(3, aI x12), (0, aR 17), (1, aI p1), (2, aI p2)]) hz hN dX8_nameRegion_51 rfl ex12.symm (by decide) rfl ?_
      refine s_goto 30 hz dX8_nameRegion_54 rfl ?_
      refine s_pick (l' := [(0, aR 17), (1, aI p1), (2, aI p2), (3, aI x12)]) [1, 2, 3, 0] rfl ?_
      exact ih rx12 hW11 h
def L_X8_nameRegion_13 (p1 : Int) : Nat → Int → HS → zO2
  | 0, _, _ => none
  | n + 1, v2, S => 
    if S 17 8 ≤ v2 then (
      some (0, S))
    else (
      if 192 ≤ v2 then (
        some (0, S))
      else (
        L_X8_nameRegion_30 (fun S13 =>
            zl (v2 + 1) fun x14 =>
            L_X8_nameRegion_13 p1 n x14 S13) p1 v2 zBig 0 S))
set_option maxHeartbeats 4000000 in
set_option maxRecDepth 20000 in
theorem TL_X8_nameRegion_13 {p1 : Int} {r : Int} {S' : HS} {z : Zt} (hz : zO z cX8_nameRegion RX8 4 shX) (hN : zN z 4) (hF : zFv z shX S') (rp1 : rng p1) : ∀ (n : Nat) {v2 : Int} {S : HS}, rng v2 → WR shX S → L_X8_nameRegion_13 p1 n v2 S = some (r, S') → zA z 13 [(0, aR 17), (1, aI p1), (2, aI v2)] [] S := by
  intro n
  induction n with
  | zero =>
    intro _ _ _ _ h
    cases h
  | succ n ih =>
    intro v2 S rv2 hW h
    rw [L_X8_nameRegion_13.eq_2] at h
    refine s_iload_n 2 hz dX8_nameRegion_13 rfl ?_
    refine s_aload_n 0 hz dX8_nameRegion_14 rfl ?_
    refine s_getI (kz := 8) 8 hz fl_X8_71 sx17 rfl rfl dX8_nameRegion_15 ?_
    refine s_icmp_ge 63 hz rv2 (hW 17 _ sx17 8) dX8_nameRegion_18 rfl (fun c4 => ?_) (fun c4 => ?_)
    · have h := zif_t c4 h
      exact s_vret h hz hF hW dX8_nameRegion_63
    · have h := zif_f c4 h
      refine s_iload_n 2 hz dX8_nameRegion_21 rfl ?_
      refine s_sipush hz dX8_nameRegion_22 sp_192 ?_
      refine s_icmp_ge 63 hz rv2 rl_192 dX8_nameRegion_25 rfl (fun c5 => ?_) (fun c5 => ?_)
      · have h := zif_t c5 h
        exact s_vret h hz hF hW dX8_nameRegion_63
      · have h := zif_f c5 h
        refine s_iconst hz dX8_nameRegion_28 ?_
        refine s_istore_n (l' := [(3, aI 0), (0, aR 17), (1, aI p1), (2, aI v2)]) hz hN dX8_nameRegion_29 (by decide) rfl ?_
        refine s_pick (l' := [(0, aR 17), (1, aI p1), (2, aI v2), (3, aI 0)]) [1, 2, 3, 0] rfl ?_
        refine TL_X8_nameRegion_30 hz hN hF ?_ rp1 rv2 zBig rl_0 hW h
        · clear h 
          intro S13 hW13 h
          obtain ⟨x14, ex14, rx14, h⟩ := zl_ex h
          refine s_iinc (k0 := 2) (y := x14) (l' := [(2, aI x14), (0, aR 17), (1, aI p1)]) hz hN dX8_nameRegion_57 rfl ex14.symm (by decide) rfl ?_
          refine s_goto 13 hz dX8_nameRegion_60 rfl ?_
          refine s_pick (l' := [(0, aR 17), (1, aI p1), (2, aI x14)]) [1, 2, 0] rfl ?_
          exact ih rx14 hW13 h
def M_X8_nameRegion (a1 : Int) (S : HS) : zO2 :=
  zs (up S 17 8 0) fun S1 =>
  zb (M_X8_spreadName a1 a1 S1) fun _ S3 =>
  L_X8_nameRegion_13 a1 zBig 0 S3
set_option maxHeartbeats 4000000 in
set_option maxRecDepth 20000 in
theorem T_X8_nameRegion {a1 : Int} {S S' : HS} {r : Int} (ra1 : rng a1) (hW : WR shX S) (h : M_X8_nameRegion a1 S = some (r, S')) : zV shX yX8_nameRegion cX8_nameRegion 4 4 [aR 17, aI a1] S S' := by
  refine zV_of (by decide +kernel) (Nat.le_of_ble_eq_true rfl) (fun z hz hN hF => ?_)
  have hz : zO z cX8_nameRegion RX8 4 shX := hz
  show zA z 0 [(0, aR 17), (1, aI a1)] [] S
  unfold M_X8_nameRegion at h
  refine s_aload_n 0 hz dX8_nameRegion_0 rfl ?_
  refine s_iconst hz dX8_nameRegion_1 ?_
  obtain ⟨S1, eS1, h⟩ := zs_ex h
  have hW1 : WR shX S1 := by rw [eS1]; exact hW.up (i := 8) sx17 (v := 0) rl_0
  refine s_putI (kz := 8) 8 hz fp_X8_71 sx17 rfl rfl dX8_nameRegion_2 ?_
  rw [← eS1]
  refine s_aload_n 0 hz dX8_nameRegion_5 rfl ?_
  refine s_iload_n 1 hz dX8_nameRegion_6 rfl ?_
  refine s_iload_n 1 hz dX8_nameRegion_7 rfl ?_
  obtain ⟨r2, S3, hc3, h⟩ := zb_of h
  refine s_callVv [aI a1, aI a1] [] hz ml_X8_74 sv_yX8_spreadName (T_X8_spreadName ra1 ra1 hW1 hc3) (by decide) rfl sx17 rfl rfl (Nat.le_of_ble_eq_true rfl) dX8_nameRegion_8 (fun hW3 => ?_)
  refine s_iconst hz dX8_nameRegion_11 ?_
  refine s_istore_n (l' := [(2, aI 0), (0, aR 17), (1, aI a1)]) hz hN dX8_nameRegion_12 (by decide) rfl ?_
  refine s_pick (l' := [(0, aR 17), (1, aI a1), (2, aI 0)]) [1, 2, 0] rfl ?_
  exact TL_X8_nameRegion_13 hz hN hF ra1 zBig rl_0 hW3 h
