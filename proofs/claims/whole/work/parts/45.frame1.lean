abbrev mA_X1_share : List Nat := [35, 38, 39]
abbrev mO_X1_share : List (Nat × Int) := [(33, 7)]
set_option maxHeartbeats 4000000 in
set_option maxRecDepth 20000 in
theorem W_J_X1_giveTo_76 {rec : Int → Int → HS → zO2} {v1 : Int} {v5 : Int} {S : HS} (hrec : ∀ (b0 b1 : Int) (S : HS), rng b0 → rng b1 → WR shF S → zW mA_X1_share mO_X1_share rng S (rec b0 b1 S)) (r_v1 : rng v1) (r_v5 : rng v5) (w_S : WR shF S) : zW mA_X1_share mO_X1_share rng S (J_X1_giveTo_76 rec v1 v5 S) := by
  unfold J_X1_giveTo_76
  refine zW_zg ?_
  refine zW_zl (fun x13 r_x13 => ?_)
  refine zW_zg ?_
  refine zW_up w_S sw_35 (by decide) r_x13 (fun S15 w_S15 => ?_)
  exact zW_ret w_S15 (zrl rfl)
set_option maxHeartbeats 4000000 in
set_option maxRecDepth 20000 in
theorem W_M_X1_giveTo {rec : Int → Int → HS → zO2} {a1 : Int} {a2 : Int} {a3 : Int} {S : HS} (hrec : ∀ (b0 b1 : Int) (S : HS), rng b0 → rng b1 → WR shF S → zW mA_X1_share mO_X1_share rng S (rec b0 b1 S)) (r_a1 : rng a1) (r_a2 : rng a2) (r_a3 : rng a3) (w_S : WR shF S) : zW mA_X1_share mO_X1_share rng S (M_X1_giveTo rec a1 a2 a3 S) := by
  unfold M_X1_giveTo
  refine zW_zg ?_
  refine zW_zg ?_
  refine zW_zl (fun x3 r_x3 => ?_)
  refine zW_zg ?_
  refine zW_zl (fun x5 r_x5 => ?_)
  refine zW_zg ?_
  refine zW_zl (fun x7 r_x7 => ?_)
  refine zW_zg ?_
  refine zW_up w_S sw_35 (by decide) r_x7 (fun S9 w_S9 => ?_)
  refine zW_zg ?_
  refine zW_ite ?_ ?_
  · exact W_J_X1_giveTo_76 hrec r_a1 r_x5 w_S9
  · refine zW_zg ?_
    refine zW_up w_S9 sw_38 (by decide) r_a1 (fun S17 w_S17 => ?_)
    refine zW_zl (fun x18 r_x18 => ?_)
    refine zW_zb (hrec _ _ _ r_x18 (zmax_r r_a3 (w_S9 35 _ sw_35 a1)) w_S17) (by decide) (by decide) (fun _ S20 _ w_S20 => ?_)
    exact W_J_X1_giveTo_76 hrec r_a1 r_x5 w_S20
set_option maxHeartbeats 4000000 in
set_option maxRecDepth 20000 in
theorem W_J_X1_share_18 {rec : Int → Int → HS → zO2} {v2 : Int} {S : HS} (hrec : ∀ (b0 b1 : Int) (S : HS), rng b0 → rng b1 → WR shF S → zW mA_X1_share mO_X1_share rng S (rec b0 b1 S)) (r_v2 : rng v2) (w_S : WR shF S) : zW mA_X1_share mO_X1_share rng S (J_X1_share_18 rec v2 S) := by
  unfold J_X1_share_18
  refine zW_upO w_S sw_33 (by decide) r_v2 (fun S2 w_S2 => ?_)
  refine zW_cpy w_S2 sw_38 sw_39 (by decide) (fun S3 w_S3 => ?_)
  exact zW_ret w_S3 (zrl rfl)
set_option maxHeartbeats 4000000 in
set_option maxRecDepth 20000 in
theorem W_J_X1_share_62 {rec : Int → Int → HS → zO2} {k41 : Int → HS → zO2} {v1 : Int} {v2 : Int} {v3 : Int} {S : HS} (hrec : ∀ (b0 b1 : Int) (S : HS), rng b0 → rng b1 → WR shF S → zW mA_X1_share mO_X1_share rng S (rec b0 b1 S)) (hk41 : ∀ (w0 : Int) (S : HS), rng w0 → WR shF S → zW mA_X1_share mO_X1_share rng S (k41 w0 S)) (r_v1 : rng v1) (r_v2 : rng v2) (r_v3 : rng v3) (w_S : WR shF S) : zW mA_X1_share mO_X1_share rng S (J_X1_share_62 rec k41 v1 v2 v3 S) := by
  unfold J_X1_share_62
  refine zW_zl (fun x9 r_x9 => ?_)
  exact hk41 _ _ r_x9 w_S
set_option maxHeartbeats 4000000 in
set_option maxRecDepth 20000 in
theorem W_L_X1_share_41 {rec : Int → Int → HS → zO2} {p1 : Int} {p2 : Int} (hrec : ∀ (b0 b1 : Int) (S : HS), rng b0 → rng b1 → WR shF S → zW mA_X1_share mO_X1_share rng S (rec b0 b1 S)) (r_p1 : rng p1) (r_p2 : rng p2) : ∀ (n : Nat) {v3 : Int} {S : HS}, rng v3 → WR shF S → zW mA_X1_share mO_X1_share rng S (L_X1_share_41 rec p1 p2 n v3 S) := by
  intro n
  induction n with
  | zero =>
    intro _ _ _ _
    exact zW_none
  | succ n ih =>
    intro v3 S r_v3 w_S
    rw [L_X1_share_41.eq_2]
    refine zW_ite ?_ ?_
    · exact zW_ret w_S (zrl rfl)
    · refine zW_zg ?_
      refine zW_ite ?_ ?_
      · exact W_J_X1_share_62 hrec (fun q0_ T_ r_q0_ w_T_ => ih r_q0_ w_T_) r_p1 r_p2 r_v3 w_S
      · refine zW_zb (W_M_X1_giveTo hrec r_v3 r_p1 r_p2 w_S) (by decide) (by decide) (fun _ S11 _ w_S11 => ?_)
        exact W_J_X1_share_62 hrec (fun q0_ T_ r_q0_ w_T_ => ih r_q0_ w_T_) r_p1 r_p2 r_v3 w_S11
set_option maxHeartbeats 4000000 in
set_option maxRecDepth 20000 in
theorem W_F_X1_share {rec : Int → Int → HS → zO2} {a1 : Int} {a2 : Int} {S : HS} (hrec : ∀ (b0 b1 : Int) (S : HS), rng b0 → rng b1 → WR shF S → zW mA_X1_share mO_X1_share rng S (rec b0 b1 S)) (r_a1 : rng a1) (r_a2 : rng a2) (w_S : WR shF S) : zW mA_X1_share mO_X1_share rng S (F_X1_share rec a1 a2 S) := by
  unfold F_X1_share
  refine zW_ite ?_ ?_
  · exact W_J_X1_share_18 hrec r_a2 w_S
  · refine zW_ite ?_ ?_
    · exact W_J_X1_share_18 hrec r_a2 w_S
    · refine zW_ite ?_ ?_
      · exact W_L_X1_share_41 hrec r_a1 r_a2 _ (zrl rfl) w_S
      · exact W_J_X1_share_18 hrec r_a2 w_S
set_option maxHeartbeats 4000000 in
set_option maxRecDepth 20000 in
theorem W_M_X1_share : ∀ (n : Nat) {a1 : Int} {a2 : Int} {S : HS}, rng a1 → rng a2 → WR shF S → zW mA_X1_share mO_X1_share rng S (M_X1_share n a1 a2 S) := by
  intro n
  induction n with
  | zero =>
    intro _ _ _ _ _ _
    exact zW_none
  | succ n ih =>
    intro a1 a2 _ r_a1 r_a2 w_S
    rw [M_X1_share.eq_2]
    exact W_F_X1_share (fun _ _ _ ha1 ha2 h => ih ha1 ha2 h) r_a1 r_a2 w_S
abbrev mA_X7_codeAt : List Nat := []
abbrev mO_X7_codeAt : List (Nat × Int) := []
set_option maxHeartbeats 4000000 in
set_option maxRecDepth 20000 in
theorem W_M_X7_codeAt {a1 : Int} {S : HS} (r_a1 : rng a1) (w_S : WR shF S) : zW mA_X7_codeAt mO_X7_codeAt rng S (M_X7_codeAt a1 S) := by
  unfold M_X7_codeAt
  refine zW_ite ?_ ?_
  · exact zW_ret w_S (zrl rfl)
  · refine zW_ite ?_ ?_
    · exact zW_ret w_S (zrl rfl)
    · refine zW_ite ?_ ?_
      · exact zW_ret w_S (zrl rfl)
      · refine zW_zg ?_
        exact zW_ret w_S (w_S 43 _ sw_43 a1)
abbrev mA_X11_acrossBy : List Nat := []
abbrev mO_X11_acrossBy : List (Nat × Int) := []
set_option maxHeartbeats 4000000 in
set_option maxRecDepth 20000 in
theorem W_M_X11_acrossBy {a1 : Int} {S : HS} (r_a1 : rng a1) (w_S : WR shF S) : zW mA_X11_acrossBy mO_X11_acrossBy rng S (M_X11_acrossBy a1 S) := by
  unfold M_X11_acrossBy
  refine zW_ite ?_ ?_
  · exact zW_ret w_S (zrl rfl)
  · refine zW_ite ?_ ?_
    · exact zW_ret w_S (zrl rfl)
    · exact zW_ret w_S (zrl rfl)
abbrev mA_X11_downBy : List Nat := []
abbrev mO_X11_downBy : List (Nat × Int) := []
set_option maxHeartbeats 4000000 in
set_option maxRecDepth 20000 in
theorem W_M_X11_downBy {a1 : Int} {S : HS} (r_a1 : rng a1) (w_S : WR shF S) : zW mA_X11_downBy mO_X11_downBy rng S (M_X11_downBy a1 S) := by
  unfold M_X11_downBy
  refine zW_ite ?_ ?_
  · exact zW_ret w_S (zrl rfl)
  · refine zW_ite ?_ ?_
    · exact zW_ret w_S (zrl rfl)
    · exact zW_ret w_S (zrl rfl)
abbrev mA_X10_arrive : List Nat := [47, 48]
abbrev mO_X10_arrive : List (Nat × Int) := [(46, 6), (46, 7), (46, 8)]
set_option maxHeartbeats 4000000 in
set_option maxRecDepth 20000 in
theorem W_J_X10_arrive_42 {v1 : Int} {t0 : Int} {S : HS} (r_v1 : rng v1) (r_t0 : rng t0) (w_S : WR shF S) : zW mA_X10_arrive mO_X10_arrive rng S (J_X10_arrive_42 v1 t0 S) := by
  unfold J_X10_arrive_42
  refine zW_zg ?_
  refine zW_upO w_S sw_46 (by decide) r_t0 (fun S2 w_S2 => ?_)
  refine zW_ite ?_ ?_
  · refine zW_zl (fun x5 r_x5 => ?_)
    refine zW_upO w_S2 sw_46 (by decide) r_x5 (fun S6 w_S6 => ?_)
    refine zW_ite ?_ ?_
    · exact zW_ret w_S6 (zrl rfl)
    · refine zW_zl (fun x8 r_x8 => ?_)
      refine zW_zg ?_
      refine zW_up w_S6 sw_47 (by decide) r_x8 (fun S10 w_S10 => ?_)
      refine zW_zg ?_
      refine zW_up w_S10 sw_48 (by decide) r_v1 (fun S12 w_S12 => ?_)
      refine zW_zl (fun x13 r_x13 => ?_)
      refine zW_upO w_S12 sw_46 (by decide) r_x13 (fun S14 w_S14 => ?_)
      exact zW_ret w_S14 (zrl rfl)
  · exact zW_ret w_S2 (zrl rfl)
set_option maxHeartbeats 4000000 in
set_option maxRecDepth 20000 in
theorem W_J_X10_arrive_37 {v1 : Int} {S : HS} (r_v1 : rng v1) (w_S : WR shF S) : zW mA_X10_arrive mO_X10_arrive rng S (J_X10_arrive_37 v1 S) := by
  unfold J_X10_arrive_37
  exact W_J_X10_arrive_42 r_v1 (zrl rfl) w_S
set_option maxHeartbeats 4000000 in
set_option maxRecDepth 20000 in
theorem W_M_X10_arrive {a1 : Int} {S : HS} (r_a1 : rng a1) (w_S : WR shF S) : zW mA_X10_arrive mO_X10_arrive rng S (M_X10_arrive a1 S) := by
  unfold M_X10_arrive
  refine zW_ite ?_ ?_
  · exact W_J_X10_arrive_37 r_a1 w_S
  · refine zW_ite ?_ ?_
    · exact W_J_X10_arrive_37 r_a1 w_S
    · refine zW_ite ?_ ?_
      · exact W_J_X10_arrive_37 r_a1 w_S
      · refine zW_ite ?_ ?_
        · exact W_J_X10_arrive_42 r_a1 (zrl rfl) w_S
        · exact W_J_X10_arrive_37 r_a1 w_S
abbrev mA_X10_begin : List Nat := [47, 48]
abbrev mO_X10_begin : List (Nat × Int) := [(46, 2), (46, 3), (46, 4), (46, 5), (46, 6), (46, 7), (46, 8)]
set_option maxHeartbeats 4000000 in
set_option maxRecDepth 20000 in
theorem W_J_X10_begin_27 {v2 : Int} {v3 : Int} {t0 : Int} {S : HS} (r_v2 : rng v2) (r_v3 : rng v3) (r_t0 : rng t0) (w_S : WR shF S) : zW mA_X10_begin mO_X10_begin rng S (J_X10_begin_27 v2 v3 t0 S) := by
  unfold J_X10_begin_27
  refine zW_upO w_S sw_46 (by decide) r_t0 (fun S4 w_S4 => ?_)
  refine zW_upO w_S4 sw_46 (by decide) r_v2 (fun S5 w_S5 => ?_)
  refine zW_upO w_S5 sw_46 (by decide) r_v3 (fun S6 w_S6 => ?_)
  refine zW_upO w_S6 sw_46 (by decide) (zrl rfl) (fun S7 w_S7 => ?_)
  refine zW_upO w_S7 sw_46 (by decide) (zrl rfl) (fun S8 w_S8 => ?_)
  refine zW_upO w_S8 sw_46 (by decide) (zrl rfl) (fun S9 w_S9 => ?_)
  refine zW_zb (W_M_X10_arrive (zrl rfl) w_S9) (by decide) (by decide) (fun _ S11 _ w_S11 => ?_)
  exact zW_ret w_S11 (zrl rfl)
set_option maxHeartbeats 4000000 in
set_option maxRecDepth 20000 in
theorem W_J_X10_begin_12 {v1 : Int} {v2 : Int} {v3 : Int} {t0 : Int} {S : HS} (r_v1 : rng v1) (r_v2 : rng v2) (r_v3 : rng v3) (r_t0 : rng t0) (w_S : WR shF S) : zW mA_X10_begin mO_X10_begin rng S (J_X10_begin_12 v1 v2 v3 t0 S) := by
  unfold J_X10_begin_12
  refine zW_upO w_S sw_46 (by decide) r_t0 (fun S2 w_S2 => ?_)
  refine zW_ite ?_ ?_
  · exact W_J_X10_begin_27 r_v2 r_v3 (zrl rfl) w_S2
  · exact W_J_X10_begin_27 r_v2 r_v3 (zrl rfl) w_S2
set_option maxHeartbeats 4000000 in
set_option maxRecDepth 20000 in
theorem W_M_X10_begin {a1 : Int} {a2 : Int} {a3 : Int} {S : HS} (r_a1 : rng a1) (r_a2 : rng a2) (r_a3 : rng a3) (w_S : WR shF S) : zW mA_X10_begin mO_X10_begin rng S (M_X10_begin a1 a2 a3 S) := by
  unfold M_X10_begin
  refine zW_ite ?_ ?_
  · exact W_J_X10_begin_12 r_a1 r_a2 r_a3 (zrl rfl) w_S
  · exact W_J_X10_begin_12 r_a1 r_a2 r_a3 (zrl rfl) w_S
abbrev mA_X10_go : List Nat := [47, 48]
abbrev mO_X10_go : List (Nat × Int) := [(46, 4), (46, 5), (46, 6), (46, 7), (46, 8)]
set_option maxHeartbeats 4000000 in
set_option maxRecDepth 20000 in
theorem W_L_X10_go_2 {p1 : Int} {p2 : Int} (r_p1 : rng p1) (r_p2 : rng p2) : ∀ (n : Nat) {v3 : Int} {S : HS}, rng v3 → WR shF S → zW mA_X10_go mO_X10_go rng S (L_X10_go_2 p1 p2 n v3 S) := by
  intro n
  induction n with
  | zero =>
    intro _ _ _ _
    exact zW_none
  | succ n ih =>
    intro v3 S r_v3 w_S
    rw [L_X10_go_2.eq_2]
    refine zW_ite ?_ ?_
    · exact zW_ret w_S (zrl rfl)
    · refine zW_ite ?_ ?_
      · refine zW_zb (W_M_X11_acrossBy r_p1 w_S) (by decide) (by decide) (fun r3 S4 r_r3 w_S4 => ?_)
        refine zW_zl (fun x5 r_x5 => ?_)
        refine zW_upO w_S4 sw_46 (by decide) r_x5 (fun S6 w_S6 => ?_)
        refine zW_zb (W_M_X11_downBy r_p1 w_S6) (by decide) (by decide) (fun r7 S8 r_r7 w_S8 => ?_)
        refine zW_zl (fun x9 r_x9 => ?_)
        refine zW_upO w_S8 sw_46 (by decide) r_x9 (fun S10 w_S10 => ?_)
        refine zW_zb (W_M_X10_arrive r_p1 w_S10) (by decide) (by decide) (fun _ S12 _ w_S12 => ?_)
        refine zW_zl (fun x13 r_x13 => ?_)
        exact ih r_x13 w_S12
      · exact zW_ret w_S (zrl rfl)
set_option maxHeartbeats 4000000 in
set_option maxRecDepth 20000 in
theorem W_M_X10_go {a1 : Int} {a2 : Int} {S : HS} (r_a1 : rng a1) (r_a2 : rng a2) (w_S : WR shF S) : zW mA_X10_go mO_X10_go rng S (M_X10_go a1 a2 S) := by
  unfold M_X10_go
  exact W_L_X10_go_2 r_a1 r_a2 _ (zrl rfl) w_S
abbrev mA_X4_walk : List Nat := [47, 48]
abbrev mO_X4_walk : List (Nat × Int) := [(46, 2), (46, 3), (46, 4), (46, 5), (46, 6), (46, 7), (46, 8)]
set_option maxHeartbeats 4000000 in
set_option maxRecDepth 20000 in
theorem W_J_X4_walk_158 {k93 : Int → HS → zO2} {v1 : Int} {v2 : Int} {v8 : Int} {v9 : Int} {t0 : Int} {S : HS} (hk93 : ∀ (w0 : Int) (S : HS), rng w0 → WR shF S → zW mA_X4_walk mO_X4_walk rng S (k93 w0 S)) (r_v1 : rng v1) (r_v2 : rng v2) (r_v8 : rng v8) (r_v9 : rng v9) (r_t0 : rng t0) (w_S : WR shF S) : zW mA_X4_walk mO_X4_walk rng S (J_X4_walk_158 k93 v1 v2 v8 v9 t0 S) := by
  unfold J_X4_walk_158
  refine zW_zl (fun x25 r_x25 => ?_)
  refine zW_zb (W_M_X7_codeAt r_x25 w_S) (by decide) (by decide) (fun r26 S27 r_r26 w_S27 => ?_)
  refine zW_zb (W_M_X10_go r_t0 r_r26 w_S27) (by decide) (by decide) (fun _ S29 _ w_S29 => ?_)
  refine zW_zl (fun x30 r_x30 => ?_)
  exact hk93 _ _ r_x30 w_S29
set_option maxHeartbeats 4000000 in
set_option maxRecDepth 20000 in
theorem W_J_X4_walk_138 {k93 : Int → HS → zO2} {v1 : Int} {v2 : Int} {v8 : Int} {v9 : Int} {v10 : Int} {t0 : Int} {S : HS} (hk93 : ∀ (w0 : Int) (S : HS), rng w0 → WR shF S → zW mA_X4_walk mO_X4_walk rng S (k93 w0 S)) (r_v1 : rng v1) (r_v2 : rng v2) (r_v8 : rng v8) (r_v9 : rng v9) (r_v10 : rng v10) (r_t0 : rng t0) (w_S : WR shF S) : zW mA_X4_walk mO_X4_walk rng S (J_X4_walk_138 k93 v1 v2 v8 v9 v10 t0 S) := by
  unfold J_X4_walk_138
  refine zW_ite ?_ ?_
  · exact W_J_X4_walk_158 hk93 r_v1 r_v2 r_v8 r_v9 r_v10 w_S
  · refine zW_zl (fun x31 r_x31 => ?_)
    exact W_J_X4_walk_158 hk93 r_v1 r_v2 r_v8 r_v9 r_x31 w_S
set_option maxHeartbeats 4000000 in
set_option maxRecDepth 20000 in
theorem W_J_X4_walk_137 {k93 : Int → HS → zO2} {v1 : Int} {v2 : Int} {v8 : Int} {v9 : Int} {v10 : Int} {S : HS} (hk93 : ∀ (w0 : Int) (S : HS), rng w0 → WR shF S → zW mA_X4_walk mO_X4_walk rng S (k93 w0 S)) (r_v1 : rng v1) (r_v2 : rng v2) (r_v8 : rng v8) (r_v9 : rng v9) (r_v10 : rng v10) (w_S : WR shF S) : zW mA_X4_walk mO_X4_walk rng S (J_X4_walk_137 k93 v1 v2 v8 v9 v10 S) := by
  unfold J_X4_walk_137
  exact W_J_X4_walk_138 hk93 r_v1 r_v2 r_v8 r_v9 r_v10 (zrl rfl) w_S
set_option maxHeartbeats 4000000 in
set_option maxRecDepth 20000 in
theorem W_J_X4_walk_133 {k93 : Int → HS → zO2} {v1 : Int} {v2 : Int} {v8 : Int} {v9 : Int} {v10 : Int} {S : HS} (hk93 : ∀ (w0 : Int) (S : HS), rng w0 → WR shF S → zW mA_X4_walk mO_X4_walk rng S (k93 w0 S)) (r_v1 : rng v1) (r_v2 : rng v2) (r_v8 : rng v8) (r_v9 : rng v9) (r_v10 : rng v10) (w_S : WR shF S) : zW mA_X4_walk mO_X4_walk rng S (J_X4_walk_133 k93 v1 v2 v8 v9 v10 S) := by
  unfold J_X4_walk_133
  exact W_J_X4_walk_138 hk93 r_v1 r_v2 r_v8 r_v9 r_v10 (zrl rfl) w_S
set_option maxHeartbeats 4000000 in
set_option maxRecDepth 20000 in
theorem W_L_X4_walk_93 {p1 : Int} {p2 : Int} {p8 : Int} (r_p1 : rng p1) (r_p2 : rng p2) (r_p8 : rng p8) : ∀ (n : Nat) {v9 : Int} {S : HS}, rng v9 → WR shF S → zW mA_X4_walk mO_X4_walk rng S (L_X4_walk_93 p1 p2 p8 n v9 S) := by
  intro n
  induction n with
  | zero =>
    intro _ _ _ _
    exact zW_none
  | succ n ih =>
    intro v9 S r_v9 w_S
    rw [L_X4_walk_93.eq_2]
    refine zW_ite ?_ ?_
    · exact zW_ret w_S (zrl rfl)
    · refine zW_zl (fun x20 r_x20 => ?_)
      refine zW_zb (W_M_X7_codeAt r_x20 w_S) (by decide) (by decide) (fun r21 S22 r_r21 w_S22 => ?_)
      refine zW_ite ?_ ?_
      · exact W_J_X4_walk_137 (fun q0_ T_ r_q0_ w_T_ => ih r_q0_ w_T_) r_p1 r_p2 r_p8 r_v9 r_r21 w_S22
      · refine zW_ite ?_ ?_
        · exact W_J_X4_walk_133 (fun q0_ T_ r_q0_ w_T_ => ih r_q0_ w_T_) r_p1 r_p2 r_p8 r_v9 r_r21 w_S22
        · refine zW_ite ?_ ?_
          · exact W_J_X4_walk_133 (fun q0_ T_ r_q0_ w_T_ => ih r_q0_ w_T_) r_p1 r_p2 r_p8 r_v9 r_r21 w_S22
          · exact W_J_X4_walk_137 (fun q0_ T_ r_q0_ w_T_ => ih r_q0_ w_T_) r_p1 r_p2 r_p8 r_v9 r_r21 w_S22
set_option maxHeartbeats 4000000 in
set_option maxRecDepth 20000 in
theorem W_J_X4_walk_49 {v1 : Int} {v2 : Int} {v4 : Int} {v5 : Int} {v6 : Int} {t0 : Int} {S : HS} (r_v1 : rng v1) (r_v2 : rng v2) (r_v4 : rng v4) (r_v5 : rng v5) (r_v6 : rng v6) (r_t0 : rng t0) (w_S : WR shF S) : zW mA_X4_walk mO_X4_walk rng S (J_X4_walk_49 v1 v2 v4 v5 v6 t0 S) := by
  unfold J_X4_walk_49
  refine zW_zl (fun x9 r_x9 => ?_)
  refine zW_zb (W_M_X7_codeAt r_x9 w_S) (by decide) (by decide) (fun r10 S11 r_r10 w_S11 => ?_)
  refine zW_zl (fun x12 r_x12 => ?_)
  refine zW_zl (fun x13 r_x13 => ?_)
  refine zW_zb (W_M_X10_begin r_v5 r_x13 r_x12 w_S11) (by decide) (by decide) (fun _ S15 _ w_S15 => ?_)
  refine zW_zl (fun x16 r_x16 => ?_)
  refine zW_zb (W_M_X7_codeAt r_x16 w_S15) (by decide) (by decide) (fun r17 S18 r_r17 w_S18 => ?_)
  exact W_L_X4_walk_93 r_v1 r_v2 r_r17 _ (zrl rfl) w_S18
set_option maxHeartbeats 4000000 in
set_option maxRecDepth 20000 in
theorem W_J_X4_walk_48 {v1 : Int} {v2 : Int} {v4 : Int} {v5 : Int} {v6 : Int} {S : HS} (r_v1 : rng v1) (r_v2 : rng v2) (r_v4 : rng v4) (r_v5 : rng v5) (r_v6 : rng v6) (w_S : WR shF S) : zW mA_X4_walk mO_X4_walk rng S (J_X4_walk_48 v1 v2 v4 v5 v6 S) := by
  unfold J_X4_walk_48
  exact W_J_X4_walk_49 r_v1 r_v2 r_v4 r_v5 r_v6 (zrl rfl) w_S
set_option maxHeartbeats 4000000 in
set_option maxRecDepth 20000 in
theorem W_J_X4_walk_17 {v1 : Int} {v2 : Int} {v3 : Int} {v4 : Int} {t0 : Int} {S : HS} (r_v1 : rng v1) (r_v2 : rng v2) (r_v3 : rng v3) (r_v4 : rng v4) (r_t0 : rng t0) (w_S : WR shF S) : zW mA_X4_walk mO_X4_walk rng S (J_X4_walk_17 v1 v2 v3 v4 t0 S) := by
  unfold J_X4_walk_17
  refine zW_zl (fun x4 r_x4 => ?_)
  refine zW_zb (W_M_X7_codeAt r_x4 w_S) (by decide) (by decide) (fun r5 S6 r_r5 w_S6 => ?_)
  refine zW_zl (fun x7 r_x7 => ?_)
  refine zW_ite ?_ ?_
  · exact W_J_X4_walk_48 r_v1 r_v2 r_v4 r_t0 r_x7 w_S6
  · refine zW_ite ?_ ?_
    · exact W_J_X4_walk_48 r_v1 r_v2 r_v4 r_t0 r_x7 w_S6
    · exact W_J_X4_walk_49 r_v1 r_v2 r_v4 r_t0 r_x7 (zrl rfl) w_S6
set_option maxHeartbeats 4000000 in
set_option maxRecDepth 20000 in
theorem W_M_X4_walk {a1 : Int} {a2 : Int} {a3 : Int} {a4 : Int} {S : HS} (r_a1 : rng a1) (r_a2 : rng a2) (r_a3 : rng a3) (r_a4 : rng a4) (w_S : WR shF S) : zW mA_X4_walk mO_X4_walk rng S (M_X4_walk a1 a2 a3 a4 S) := by
  unfold M_X4_walk
  refine zW_zb (W_M_X7_codeAt r_a1 w_S) (by decide) (by decide) (fun r1 S2 r_r1 w_S2 => ?_)
  refine zW_ite ?_ ?_
  · exact W_J_X4_walk_17 r_a1 r_a2 r_a3 r_a4 (zrl rfl) w_S2
  · exact W_J_X4_walk_17 r_a1 r_a2 r_a3 r_a4 (zrl rfl) w_S2
abbrev mA_X10_pointAt : List Nat := []
abbrev mO_X10_pointAt : List (Nat × Int) := []
set_option maxHeartbeats 4000000 in
set_option maxRecDepth 20000 in
theorem W_M_X10_pointAt {a1 : Int} {S : HS} (r_a1 : rng a1) (w_S : WR shF S) : zW mA_X10_pointAt mO_X10_pointAt rng S (M_X10_pointAt a1 S) := by
  unfold M_X10_pointAt
  refine zW_ite ?_ ?_
  · exact zW_ret w_S (zrl rfl)
  · refine zW_ite ?_ ?_
    · exact zW_ret w_S (zrl rfl)
    · refine zW_ite ?_ ?_
      · exact zW_ret w_S (zrl rfl)
      · refine zW_zg ?_
        exact zW_ret w_S (w_S 47 _ sw_47 a1)
abbrev mA_X10_wayAt : List Nat := []
abbrev mO_X10_wayAt : List (Nat × Int) := []
set_option maxHeartbeats 4000000 in
set_option maxRecDepth 20000 in
theorem W_M_X10_wayAt {a1 : Int} {S : HS} (r_a1 : rng a1) (w_S : WR shF S) : zW mA_X10_wayAt mO_X10_wayAt rng S (M_X10_wayAt a1 S) := by
  unfold M_X10_wayAt
  refine zW_ite ?_ ?_
  · exact zW_ret w_S (zrl rfl)
  · refine zW_ite ?_ ?_
    · exact zW_ret w_S (zrl rfl)
    · refine zW_ite ?_ ?_
      · exact zW_ret w_S (zrl rfl)
      · refine zW_zg ?_
        exact zW_ret w_S (w_S 48 _ sw_48 a1)
abbrev mA_X5_sideFromCorner : List Nat := []
abbrev mO_X5_sideFromCorner : List (Nat × Int) := []
set_option maxHeartbeats 4000000 in
set_option maxRecDepth 20000 in
theorem W_J_X5_sideFromCorner_62 {v1 : Int} {v2 : Int} {v3 : Int} {S : HS} (r_v1 : rng v1) (r_v2 : rng v2) (r_v3 : rng v3) (w_S : WR shF S) : zW mA_X5_sideFromCorner mO_X5_sideFromCorner rng S (J_X5_sideFromCorner_62 v1 v2 v3 S) := by
  unfold J_X5_sideFromCorner_62
  refine zW_ite ?_ ?_
  · refine zW_ite ?_ ?_
    · exact zW_ret w_S (zrl rfl)
    · refine zW_zl (fun x10 r_x10 => ?_)
      exact zW_ret w_S r_x10
  · exact zW_ret w_S (zrl rfl)
set_option maxHeartbeats 4000000 in
set_option maxRecDepth 20000 in
theorem W_J_X5_sideFromCorner_44 {v1 : Int} {v2 : Int} {v3 : Int} {S : HS} (r_v1 : rng v1) (r_v2 : rng v2) (r_v3 : rng v3) (w_S : WR shF S) : zW mA_X5_sideFromCorner mO_X5_sideFromCorner rng S (J_X5_sideFromCorner_44 v1 v2 v3 S) := by
  unfold J_X5_sideFromCorner_44
  refine zW_ite ?_ ?_
  · refine zW_ite ?_ ?_
    · exact W_J_X5_sideFromCorner_62 r_v1 r_v2 r_v3 w_S
    · refine zW_zl (fun x12 r_x12 => ?_)
      exact zW_ret w_S r_x12
  · exact W_J_X5_sideFromCorner_62 r_v1 r_v2 r_v3 w_S
set_option maxHeartbeats 4000000 in
set_option maxRecDepth 20000 in
theorem W_J_X5_sideFromCorner_27 {v0 : Int} {v1 : Int} {v2 : Int} {v3 : Int} {S : HS} (r_v0 : rng v0) (r_v1 : rng v1) (r_v2 : rng v2) (r_v3 : rng v3) (w_S : WR shF S) : zW mA_X5_sideFromCorner mO_X5_sideFromCorner rng S (J_X5_sideFromCorner_27 v0 v1 v2 v3 S) := by
  unfold J_X5_sideFromCorner_27
  refine zW_ite ?_ ?_
  · refine zW_ite ?_ ?_
    · exact W_J_X5_sideFromCorner_44 r_v1 r_v2 r_v3 w_S
    · refine zW_zl (fun x14 r_x14 => ?_)
      exact zW_ret w_S r_x14
  · exact W_J_X5_sideFromCorner_44 r_v1 r_v2 r_v3 w_S
set_option maxHeartbeats 4000000 in
set_option maxRecDepth 20000 in
theorem W_M_X5_sideFromCorner {a1 : Int} {a2 : Int} {S : HS} (r_a1 : rng a1) (r_a2 : rng a2) (w_S : WR shF S) : zW mA_X5_sideFromCorner mO_X5_sideFromCorner rng S (M_X5_sideFromCorner a1 a2 S) := by
  unfold M_X5_sideFromCorner
  refine zW_zg ?_
  refine zW_zl (fun x2 r_x2 => ?_)
  refine zW_zg ?_
  refine zW_zl (fun x4 r_x4 => ?_)
  refine zW_ite ?_ ?_
  · refine zW_ite ?_ ?_
    · exact W_J_X5_sideFromCorner_27 r_a1 r_a2 r_x2 r_x4 w_S
    · refine zW_zl (fun x16 r_x16 => ?_)
      exact zW_ret w_S r_x16
  · exact W_J_X5_sideFromCorner_27 r_a1 r_a2 r_x2 r_x4 w_S
abbrev mA_X5_sideTo : List Nat := []
abbrev mO_X5_sideTo : List (Nat × Int) := []
set_option maxHeartbeats 4000000 in
set_option maxRecDepth 20000 in
theorem W_M_X5_sideTo {a2 : Int} {S : HS} (r_a2 : rng a2) (w_S : WR shF S) : zW mA_X5_sideTo mO_X5_sideTo rng S (M_X5_sideTo a2 S) := by
  unfold M_X5_sideTo
  refine zW_zl (fun x1 r_x1 => ?_)
  refine zW_zb (W_M_X10_pointAt r_x1 w_S) (by decide) (by decide) (fun r2 S3 r_r2 w_S3 => ?_)
  refine zW_zb (W_M_X10_wayAt r_a2 w_S3) (by decide) (by decide) (fun r4 S5 r_r4 w_S5 => ?_)
  refine zW_zb (W_M_X5_sideFromCorner r_r2 r_r4 w_S5) (by decide) (by decide) (fun r6 S7 r_r6 w_S7 => ?_)
  exact zW_ret w_S7 r_r6
abbrev mA_X5_isSide : List Nat := []
abbrev mO_X5_isSide : List (Nat × Int) := []
set_option maxHeartbeats 4000000 in
set_option maxRecDepth 20000 in
theorem W_M_X5_isSide {a1 : Int} {S : HS} (r_a1 : rng a1) (w_S : WR shF S) : zW mA_X5_isSide mO_X5_isSide rng S (M_X5_isSide a1 S) := by
  unfold M_X5_isSide
  refine zW_ite ?_ ?_
  · exact zW_ret w_S (zrl rfl)
  · refine zW_ite ?_ ?_
    · exact zW_ret w_S (zrl rfl)
    · exact zW_ret w_S (zrl rfl)
abbrev mA_X5_hasParting : List Nat := []
abbrev mO_X5_hasParting : List (Nat × Int) := []
set_option maxHeartbeats 4000000 in
set_option maxRecDepth 20000 in
theorem W_M_X5_hasParting {a1 : Int} {S : HS} (r_a1 : rng a1) (w_S : WR shF S) : zW mA_X5_hasParting mO_X5_hasParting rng S (M_X5_hasParting a1 S) := by
  unfold M_X5_hasParting
  refine zW_ite ?_ ?_
  · exact zW_ret w_S (zrl rfl)
  · refine zW_ite ?_ ?_
    · exact zW_ret w_S (zrl rfl)
    · refine zW_zg ?_
      refine zW_ite ?_ ?_
      · exact zW_ret w_S (zrl rfl)
      · exact zW_ret w_S (zrl rfl)
abbrev mA_X5_hasUsedSide : List Nat := [5]
abbrev mO_X5_hasUsedSide : List (Nat × Int) := []
set_option maxHeartbeats 4000000 in
set_option maxRecDepth 20000 in
theorem W_L_X5_hasUsedSide_22   : ∀ (n : Nat) {v2 : Int} {S : HS}, rng v2 → WR shF S → zW mA_X5_hasUsedSide mO_X5_hasUsedSide rng S (L_X5_hasUsedSide_22  n v2 S) := by
  intro n
  induction n with
  | zero =>
    intro _ _ _ _
    exact zW_none
  | succ n ih =>
    intro v2 S r_v2 w_S
    rw [L_X5_hasUsedSide_22.eq_2]
    refine zW_ite ?_ ?_
    · exact zW_ret w_S (zrl rfl)
    · refine zW_zb (W_M_X5_sideTo r_v2 w_S) (by decide) (by decide) (fun r4 S5 r_r4 w_S5 => ?_)
      refine zW_zb (W_M_X5_isSide r_r4 w_S5) (by decide) (by decide) (fun r6 S7 r_r6 w_S7 => ?_)
      refine zW_ite ?_ ?_
      · exact zW_ret w_S7 (zrl rfl)
      · refine zW_zb (W_M_X5_hasParting r_r4 w_S7) (by decide) (by decide) (fun r9 S10 r_r9 w_S10 => ?_)
        refine zW_ite ?_ ?_
        · refine zW_zg ?_
          refine zW_ite ?_ ?_
          · refine zW_zg ?_
            refine zW_zl (fun x15 r_x15 => ?_)
            refine zW_zg ?_
            refine zW_up w_S10 sw_5 (by decide) r_x15 (fun S17 w_S17 => ?_)
            refine zW_zl (fun x18 r_x18 => ?_)
            exact ih r_x18 w_S17
          · exact zW_ret w_S10 (zrl rfl)
        · exact zW_ret w_S10 (zrl rfl)
set_option maxHeartbeats 4000000 in
set_option maxRecDepth 20000 in
theorem W_M_X5_hasUsedSide {S : HS} (w_S : WR shF S) : zW mA_X5_hasUsedSide mO_X5_hasUsedSide rng S (M_X5_hasUsedSide S) := by
  unfold M_X5_hasUsedSide
  refine zW_ite ?_ ?_
  · refine zW_fill w_S sw_5 (by decide) (zrl rfl) (fun S2 w_S2 => ?_)
    exact W_L_X5_hasUsedSide_22 _ (zrl rfl) w_S2
  · exact zW_ret w_S (zrl rfl)
abbrev mA_X5_isCorner : List Nat := []
abbrev mO_X5_isCorner : List (Nat × Int) := []
set_option maxHeartbeats 4000000 in
set_option maxRecDepth 20000 in
theorem W_M_X5_isCorner {a1 : Int} {S : HS} (r_a1 : rng a1) (w_S : WR shF S) : zW mA_X5_isCorner mO_X5_isCorner rng S (M_X5_isCorner a1 S) := by
  unfold M_X5_isCorner
  refine zW_ite ?_ ?_
  · exact zW_ret w_S (zrl rfl)
  · refine zW_ite ?_ ?_
    · exact zW_ret w_S (zrl rfl)
    · exact zW_ret w_S (zrl rfl)
abbrev mA_X5_isOnParting : List Nat := []
abbrev mO_X5_isOnParting : List (Nat × Int) := []
set_option maxHeartbeats 4000000 in
set_option maxRecDepth 20000 in
theorem W_L_X5_isOnParting_2 {p1 : Int} (r_p1 : rng p1) : ∀ (n : Nat) {v2 : Int} {S : HS}, rng v2 → WR shF S → zW mA_X5_isOnParting mO_X5_isOnParting rng S (L_X5_isOnParting_2 p1 n v2 S) := by
  intro n
  induction n with
  | zero =>
    intro _ _ _ _
    exact zW_none
  | succ n ih =>
    intro v2 S r_v2 w_S
    rw [L_X5_isOnParting_2.eq_2]
    refine zW_ite ?_ ?_
    · exact zW_ret w_S (zrl rfl)
    · refine zW_zb (W_M_X5_sideFromCorner r_p1 r_v2 w_S) (by decide) (by decide) (fun r2 S3 r_r2 w_S3 => ?_)
      refine zW_zb (W_M_X5_hasParting r_r2 w_S3) (by decide) (by decide) (fun r4 S5 r_r4 w_S5 => ?_)
      refine zW_ite ?_ ?_
      · refine zW_zl (fun x7 r_x7 => ?_)
        exact ih r_x7 w_S5
      · exact zW_ret w_S5 (zrl rfl)
set_option maxHeartbeats 4000000 in
set_option maxRecDepth 20000 in
theorem W_M_X5_isOnParting {a1 : Int} {S : HS} (r_a1 : rng a1) (w_S : WR shF S) : zW mA_X5_isOnParting mO_X5_isOnParting rng S (M_X5_isOnParting a1 S) := by
  unfold M_X5_isOnParting
  exact W_L_X5_isOnParting_2 r_a1 _ (zrl rfl) w_S
abbrev mA_X5_hasUsedCorner : List Nat := [6]
abbrev mO_X5_hasUsedCorner : List (Nat × Int) := []
set_option maxHeartbeats 4000000 in
set_option maxRecDepth 20000 in
theorem W_J_X5_hasUsedCorner_41 {k10 : Int → HS → zO2} {v2 : Int} {S : HS} (hk10 : ∀ (w0 : Int) (S : HS), rng w0 → WR shF S → zW mA_X5_hasUsedCorner mO_X5_hasUsedCorner rng S (k10 w0 S)) (r_v2 : rng v2) (w_S : WR shF S) : zW mA_X5_hasUsedCorner mO_X5_hasUsedCorner rng S (J_X5_hasUsedCorner_41 k10 v2 S) := by
  unfold J_X5_hasUsedCorner_41
  refine zW_zl (fun x8 r_x8 => ?_)
  exact hk10 _ _ r_x8 w_S
set_option maxHeartbeats 4000000 in
set_option maxRecDepth 20000 in
theorem W_L_X5_hasUsedCorner_10 {k47 : HS → zO2} (hk47 : ∀ (S : HS), WR shF S → zW mA_X5_hasUsedCorner mO_X5_hasUsedCorner rng S (k47 S)) : ∀ (n : Nat) {v2 : Int} {S : HS}, rng v2 → WR shF S → zW mA_X5_hasUsedCorner mO_X5_hasUsedCorner rng S (L_X5_hasUsedCorner_10 k47 n v2 S) := by
  intro n
  induction n with
  | zero =>
    intro _ _ _ _
    exact zW_none
  | succ n ih =>
    intro v2 S r_v2 w_S
    rw [L_X5_hasUsedCorner_10.eq_2]
    refine zW_ite ?_ ?_
    · exact hk47 _ w_S
    · refine zW_zb (W_M_X10_pointAt r_v2 w_S) (by decide) (by decide) (fun r3 S4 r_r3 w_S4 => ?_)
      refine zW_zb (W_M_X5_isCorner r_r3 w_S4) (by decide) (by decide) (fun r5 S6 r_r5 w_S6 => ?_)
      refine zW_ite ?_ ?_
      · exact W_J_X5_hasUsedCorner_41 (fun q0_ T_ r_q0_ w_T_ => ih r_q0_ w_T_) r_v2 w_S6
      · refine zW_zg ?_
        refine zW_zl (fun x10 r_x10 => ?_)
        refine zW_zg ?_
        refine zW_up w_S6 sw_6 (by decide) r_x10 (fun S12 w_S12 => ?_)
        exact W_J_X5_hasUsedCorner_41 (fun q0_ T_ r_q0_ w_T_ => ih r_q0_ w_T_) r_v2 w_S12
set_option maxHeartbeats 4000000 in
set_option maxRecDepth 20000 in
theorem W_J_X5_hasUsedCorner_92 {k49 : Int → HS → zO2} {v2 : Int} {S : HS} (hk49 : ∀ (w0 : Int) (S : HS), rng w0 → WR shF S → zW mA_X5_hasUsedCorner mO_X5_hasUsedCorner rng S (k49 w0 S)) (r_v2 : rng v2) (w_S : WR shF S) : zW mA_X5_hasUsedCorner mO_X5_hasUsedCorner rng S (J_X5_hasUsedCorner_92 k49 v2 S) := by
  unfold J_X5_hasUsedCorner_92
  refine zW_zl (fun x21 r_x21 => ?_)
  exact hk49 _ _ r_x21 w_S
set_option maxHeartbeats 4000000 in
set_option maxRecDepth 20000 in
theorem W_L_X5_hasUsedCorner_49   : ∀ (n : Nat) {v2 : Int} {S : HS}, rng v2 → WR shF S → zW mA_X5_hasUsedCorner mO_X5_hasUsedCorner rng S (L_X5_hasUsedCorner_49  n v2 S) := by
  intro n
  induction n with
  | zero =>
    intro _ _ _ _
    exact zW_none
  | succ n ih =>
    intro v2 S r_v2 w_S
    rw [L_X5_hasUsedCorner_49.eq_2]
    refine zW_zl (fun x14 r_x14 => ?_)
    refine zW_ite ?_ ?_
    · exact zW_ret w_S (zrl rfl)
    · refine zW_zb (W_M_X10_pointAt r_v2 w_S) (by decide) (by decide) (fun r16 S17 r_r16 w_S17 => ?_)
      refine zW_zb (W_M_X5_isCorner r_r16 w_S17) (by decide) (by decide) (fun r18 S19 r_r18 w_S19 => ?_)
      refine zW_ite ?_ ?_
      · exact W_J_X5_hasUsedCorner_92 (fun q0_ T_ r_q0_ w_T_ => ih r_q0_ w_T_) r_v2 w_S19
      · refine zW_zg ?_
        refine zW_ite ?_ ?_
        · exact zW_ret w_S19 (zrl rfl)
        · refine zW_zb (W_M_X5_isOnParting r_r16 w_S19) (by decide) (by decide) (fun r24 S25 r_r24 w_S25 => ?_)
          refine zW_ite ?_ ?_
          · exact W_J_X5_hasUsedCorner_92 (fun q0_ T_ r_q0_ w_T_ => ih r_q0_ w_T_) r_v2 w_S25
          · exact zW_ret w_S25 (zrl rfl)
set_option maxHeartbeats 4000000 in
set_option maxRecDepth 20000 in
theorem W_M_X5_hasUsedCorner {S : HS} (w_S : WR shF S) : zW mA_X5_hasUsedCorner mO_X5_hasUsedCorner rng S (M_X5_hasUsedCorner S) := by
  unfold M_X5_hasUsedCorner
  refine zW_fill w_S sw_6 (by decide) (zrl rfl) (fun S1 w_S1 => ?_)
  exact W_L_X5_hasUsedCorner_10 (fun S13  w_S13 => by
          exact W_L_X5_hasUsedCorner_49 _ (zrl rfl) w_S13) _ (zrl rfl) w_S1
abbrev mA_X5_whyNot : List Nat := [5, 6]
abbrev mO_X5_whyNot : List (Nat × Int) := []
set_option maxHeartbeats 4000000 in
set_option maxRecDepth 20000 in
theorem W_M_X5_whyNot {S : HS} (w_S : WR shF S) : zW mA_X5_whyNot mO_X5_whyNot rng S (M_X5_whyNot S) := by
  unfold M_X5_whyNot
  refine zW_ite ?_ ?_
  · refine zW_ite ?_ ?_
    · refine zW_ite ?_ ?_
      · refine zW_zb (W_M_X5_hasUsedSide w_S) (by decide) (by decide) (fun r4 S5 r_r4 w_S5 => ?_)
        refine zW_ite ?_ ?_
        · refine zW_zb (W_M_X5_hasUsedCorner w_S5) (by decide) (by decide) (fun r7 S8 r_r7 w_S8 => ?_)
          refine zW_ite ?_ ?_
          · exact zW_ret w_S8 (zrl rfl)
          · exact zW_ret w_S8 (zrl rfl)
        · exact zW_ret w_S5 (zrl rfl)
      · exact zW_ret w_S (zrl rfl)
    · exact zW_ret w_S (zrl rfl)
  · exact zW_ret w_S (zrl rfl)
abbrev mA_X5_put : List Nat := [4]
abbrev mO_X5_put : List (Nat × Int) := [(3, 3)]
set_option maxHeartbeats 4000000 in
set_option maxRecDepth 20000 in
theorem W_J_X5_put_33 {k2 : Int → HS → zO2} {v2 : Int} {S : HS} (hk2 : ∀ (w0 : Int) (S : HS), rng w0 → WR shF S → zW mA_X5_put mO_X5_put rng S (k2 w0 S)) (r_v2 : rng v2) (w_S : WR shF S) : zW mA_X5_put mO_X5_put rng S (J_X5_put_33 k2 v2 S) := by
  unfold J_X5_put_33
  refine zW_zl (fun x7 r_x7 => ?_)
  exact hk2 _ _ r_x7 w_S
set_option maxHeartbeats 4000000 in
set_option maxRecDepth 20000 in
theorem W_L_X5_put_2 {k39 : HS → zO2} (hk39 : ∀ (S : HS), WR shF S → zW mA_X5_put mO_X5_put rng S (k39 S)) : ∀ (n : Nat) {v2 : Int} {S : HS}, rng v2 → WR shF S → zW mA_X5_put mO_X5_put rng S (L_X5_put_2 k39 n v2 S) := by
  intro n
  induction n with
  | zero =>
    intro _ _ _ _
    exact zW_none
  | succ n ih =>
    intro v2 S r_v2 w_S
    rw [L_X5_put_2.eq_2]
    refine zW_ite ?_ ?_
    · exact hk39 _ w_S
    · refine zW_zb (W_M_X5_sideTo r_v2 w_S) (by decide) (by decide) (fun r2 S3 r_r2 w_S3 => ?_)
      refine zW_zb (W_M_X5_isSide r_r2 w_S3) (by decide) (by decide) (fun r4 S5 r_r4 w_S5 => ?_)
      refine zW_ite ?_ ?_
      · exact W_J_X5_put_33 (fun q0_ T_ r_q0_ w_T_ => ih r_q0_ w_T_) r_v2 w_S5
      · refine zW_zg ?_
        refine zW_up w_S5 sw_4 (by decide) (w_S5 3 _ sw_3 3) (fun S9 w_S9 => ?_)
        exact W_J_X5_put_33 (fun q0_ T_ r_q0_ w_T_ => ih r_q0_ w_T_) r_v2 w_S9
set_option maxHeartbeats 4000000 in
set_option maxRecDepth 20000 in
theorem W_M_X5_put {S : HS} (w_S : WR shF S) : zW mA_X5_put mO_X5_put rng S (M_X5_put S) := by
  unfold M_X5_put
  exact W_L_X5_put_2 (fun S10  w_S10 => by
          refine zW_zl (fun x11 r_x11 => ?_)
          refine zW_upO w_S10 sw_3 (by decide) r_x11 (fun S12 w_S12 => ?_)
          exact zW_ret w_S12 (zrl rfl)) _ (zrl rfl) w_S
abbrev mA_X11_isCell : List Nat := []
abbrev mO_X11_isCell : List (Nat × Int) := []
set_option maxHeartbeats 4000000 in
set_option maxRecDepth 20000 in
theorem W_M_X11_isCell {a1 : Int} {S : HS} (r_a1 : rng a1) (w_S : WR shF S) : zW mA_X11_isCell mO_X11_isCell rng S (M_X11_isCell a1 S) := by
  unfold M_X11_isCell
  refine zW_ite ?_ ?_
  · exact zW_ret w_S (zrl rfl)
  · refine zW_ite ?_ ?_
    · exact zW_ret w_S (zrl rfl)
    · exact zW_ret w_S (zrl rfl)
abbrev mA_X6_put : List Nat := [8, 9, 10, 11, 13, 14, 15]
abbrev mO_X6_put : List (Nat × Int) := [(7, 11)]
set_option maxHeartbeats 4000000 in
set_option maxRecDepth 20000 in
theorem W_J_X6_put_159 {k100 : Int → HS → zO2} {v2 : Int} {v3 : Int} {S : HS} (hk100 : ∀ (w0 : Int) (S : HS), rng w0 → WR shF S → zW mA_X6_put mO_X6_put rng S (k100 w0 S)) (r_v2 : rng v2) (r_v3 : rng v3) (w_S : WR shF S) : zW mA_X6_put mO_X6_put rng S (J_X6_put_159 k100 v2 v3 S) := by
  unfold J_X6_put_159
  refine zW_zl (fun x22 r_x22 => ?_)
  exact hk100 _ _ r_x22 w_S
set_option maxHeartbeats 4000000 in
set_option maxRecDepth 20000 in
theorem W_L_X6_put_100 {k165 : HS → zO2} {p2 : Int} (hk165 : ∀ (S : HS), WR shF S → zW mA_X6_put mO_X6_put rng S (k165 S)) (r_p2 : rng p2) : ∀ (n : Nat) {v3 : Int} {S : HS}, rng v3 → WR shF S → zW mA_X6_put mO_X6_put rng S (L_X6_put_100 k165 p2 n v3 S) := by
  intro n
  induction n with
  | zero =>
    intro _ _ _ _
    exact zW_none
  | succ n ih =>
    intro v3 S r_v3 w_S
    rw [L_X6_put_100.eq_2]
    refine zW_ite ?_ ?_
    · exact hk165 _ w_S
    · refine zW_zb (W_M_X10_pointAt r_v3 w_S) (by decide) (by decide) (fun r17 S18 r_r17 w_S18 => ?_)
      refine zW_zb (W_M_X11_isCell r_r17 w_S18) (by decide) (by decide) (fun r19 S20 r_r19 w_S20 => ?_)
      refine zW_ite ?_ ?_
      · exact W_J_X6_put_159 (fun q0_ T_ r_q0_ w_T_ => ih r_q0_ w_T_) r_p2 r_v3 w_S20
      · refine zW_zl (fun x23 r_x23 => ?_)
        refine zW_zb (W_M_X11_isCell r_x23 w_S20) (by decide) (by decide) (fun r24 S25 r_r24 w_S25 => ?_)
        refine zW_ite ?_ ?_
        · exact W_J_X6_put_159 (fun q0_ T_ r_q0_ w_T_ => ih r_q0_ w_T_) r_p2 r_v3 w_S25
        · refine zW_zg ?_
          refine zW_up w_S25 sw_8 (by decide) r_r17 (fun S28 w_S28 => ?_)
          refine zW_zl (fun x29 r_x29 => ?_)
          refine zW_zg ?_
          refine zW_up w_S28 sw_11 (by decide) r_x29 (fun S31 w_S31 => ?_)
          exact W_J_X6_put_159 (fun q0_ T_ r_q0_ w_T_ => ih r_q0_ w_T_) r_p2 r_v3 w_S31
set_option maxHeartbeats 4000000 in
set_option maxRecDepth 20000 in
theorem W_J_X6_put_44 {t0 : Int} {S : HS} (r_t0 : rng t0) (w_S : WR shF S) : zW mA_X6_put mO_X6_put rng S (J_X6_put_44 t0 S) := by
  unfold J_X6_put_44
  refine zW_zg ?_
  refine zW_up w_S sw_9 (by decide) r_t0 (fun S7 w_S7 => ?_)
  refine zW_zg ?_
  refine zW_up w_S7 sw_10 (by decide) (w_S7 46 _ sw_46 7) (fun S9 w_S9 => ?_)
  refine zW_zg ?_
  refine zW_up w_S9 sw_13 (by decide) (zrl rfl) (fun S11 w_S11 => ?_)
  refine zW_zg ?_
  refine zW_up w_S11 sw_14 (by decide) (zrl rfl) (fun S13 w_S13 => ?_)
  refine zW_zg ?_
  refine zW_up w_S13 sw_15 (by decide) (zrl rfl) (fun S15 w_S15 => ?_)
  exact W_L_X6_put_100 (fun S32  w_S32 => by
          refine zW_zl (fun x33 r_x33 => ?_)
          refine zW_upO w_S32 sw_7 (by decide) r_x33 (fun S34 w_S34 => ?_)
          exact zW_ret w_S34 (zrl rfl)) r_t0 _ (zrl rfl) w_S15
set_option maxHeartbeats 4000000 in
set_option maxRecDepth 20000 in
theorem W_M_X6_put {S : HS} (w_S : WR shF S) : zW mA_X6_put mO_X6_put rng S (M_X6_put S) := by
  unfold M_X6_put
  refine zW_ite ?_ ?_
  · refine zW_ite ?_ ?_
    · exact W_J_X6_put_44 (zrl rfl) w_S
    · refine zW_zg ?_
      refine zW_zg ?_
      refine zW_zl (fun x5 r_x5 => ?_)
      exact W_J_X6_put_44 r_x5 w_S
  · exact zW_ret w_S (zrl rfl)
abbrev mA_X2_isScalp : List Nat := []
abbrev mO_X2_isScalp : List (Nat × Int) := []
set_option maxHeartbeats 4000000 in
set_option maxRecDepth 20000 in
theorem W_M_X2_isScalp {a1 : Int} {S : HS} (r_a1 : rng a1) (w_S : WR shF S) : zW mA_X2_isScalp mO_X2_isScalp rng S (M_X2_isScalp a1 S) := by
  unfold M_X2_isScalp
  refine zW_zb (W_M_X11_isCell r_a1 w_S) (by decide) (by decide) (fun r1 S2 r_r1 w_S2 => ?_)
  refine zW_ite ?_ ?_
  · exact zW_ret w_S2 (zrl rfl)
  · refine zW_zg ?_
    refine zW_ite ?_ ?_
    · exact zW_ret w_S2 (zrl rfl)
    · exact zW_ret w_S2 (zrl rfl)
abbrev mA_X5_sideOfCell : List Nat := []
abbrev mO_X5_sideOfCell : List (Nat × Int) := []
set_option maxHeartbeats 4000000 in
set_option maxRecDepth 20000 in
theorem W_J_X5_sideOfCell_9 {v0 : Int} {v1 : Int} {S : HS} (r_v0 : rng v0) (r_v1 : rng v1) (w_S : WR shF S) : zW mA_X5_sideOfCell mO_X5_sideOfCell rng S (J_X5_sideOfCell_9 v0 v1 S) := by
  unfold J_X5_sideOfCell_9
  refine zW_ite ?_ ?_
  · exact zW_ret w_S r_v0
  · refine zW_zl (fun x3 r_x3 => ?_)
    exact zW_ret w_S r_x3
set_option maxHeartbeats 4000000 in
set_option maxRecDepth 20000 in
theorem W_M_X5_sideOfCell {a1 : Int} {a2 : Int} {S : HS} (r_a1 : rng a1) (r_a2 : rng a2) (w_S : WR shF S) : zW mA_X5_sideOfCell mO_X5_sideOfCell rng S (M_X5_sideOfCell a1 a2 S) := by
  unfold M_X5_sideOfCell
  refine zW_ite ?_ ?_
  · exact W_J_X5_sideOfCell_9 r_a1 r_a2 w_S
  · refine zW_ite ?_ ?_
    · exact W_J_X5_sideOfCell_9 r_a1 r_a2 w_S
    · refine zW_zg ?_
      refine zW_zg ?_
      refine zW_zl (fun x7 r_x7 => ?_)
      refine zW_ite ?_ ?_
      · exact zW_ret w_S r_x7
      · refine zW_zl (fun x9 r_x9 => ?_)
        exact zW_ret w_S r_x9
abbrev mA_X5_isParted : List Nat := []
abbrev mO_X5_isParted : List (Nat × Int) := []
set_option maxHeartbeats 4000000 in
set_option maxRecDepth 20000 in
theorem W_M_X5_isParted {a1 : Int} {a2 : Int} {S : HS} (r_a1 : rng a1) (r_a2 : rng a2) (w_S : WR shF S) : zW mA_X5_isParted mO_X5_isParted rng S (M_X5_isParted a1 a2 S) := by
  unfold M_X5_isParted
  refine zW_zb (W_M_X11_isCell r_a1 w_S) (by decide) (by decide) (fun r1 S2 r_r1 w_S2 => ?_)
  refine zW_ite ?_ ?_
  · exact zW_ret w_S2 (zrl rfl)
  · refine zW_zb (W_M_X5_sideOfCell r_a1 r_a2 w_S2) (by decide) (by decide) (fun r4 S5 r_r4 w_S5 => ?_)
    refine zW_zb (W_M_X5_hasParting r_r4 w_S5) (by decide) (by decide) (fun r6 S7 r_r6 w_S7 => ?_)
    refine zW_ite ?_ ?_
    · exact zW_ret w_S7 (zrl rfl)
    · exact zW_ret w_S7 (zrl rfl)
abbrev mA_X6_whyNotCell : List Nat := [16]
abbrev mO_X6_whyNotCell : List (Nat × Int) := []
set_option maxHeartbeats 4000000 in
set_option maxRecDepth 20000 in
theorem W_J_X6_whyNotCell_55 {v3 : Int} {S : HS} (r_v3 : rng v3) (w_S : WR shF S) : zW mA_X6_whyNotCell mO_X6_whyNotCell rng S (J_X6_whyNotCell_55 v3 S) := by
  unfold J_X6_whyNotCell_55
  refine zW_zg ?_
  refine zW_ite ?_ ?_
  · refine zW_zg ?_
    refine zW_ite ?_ ?_
    · refine zW_zg ?_
      refine zW_zl (fun x15 r_x15 => ?_)
      refine zW_zg ?_
      refine zW_up w_S sw_16 (by decide) r_x15 (fun S17 w_S17 => ?_)
      exact zW_ret w_S17 (zrl rfl)
    · exact zW_ret w_S (zrl rfl)
  · exact zW_ret w_S (zrl rfl)
set_option maxHeartbeats 4000000 in
set_option maxRecDepth 20000 in
theorem W_M_X6_whyNotCell {a2 : Int} {S : HS} (r_a2 : rng a2) (w_S : WR shF S) : zW mA_X6_whyNotCell mO_X6_whyNotCell rng S (M_X6_whyNotCell a2 S) := by
  unfold M_X6_whyNotCell
  refine zW_zb (W_M_X10_pointAt r_a2 w_S) (by decide) (by decide) (fun r1 S2 r_r1 w_S2 => ?_)
  refine zW_zb (W_M_X11_isCell r_r1 w_S2) (by decide) (by decide) (fun r3 S4 r_r3 w_S4 => ?_)
  refine zW_ite ?_ ?_
  · exact zW_ret w_S4 (zrl rfl)
  · refine zW_zb (W_M_X2_isScalp r_r1 w_S4) (by decide) (by decide) (fun r6 S7 r_r6 w_S7 => ?_)
    refine zW_ite ?_ ?_
    · exact zW_ret w_S7 (zrl rfl)
    · refine zW_ite ?_ ?_
      · exact W_J_X6_whyNotCell_55 r_r1 w_S7
      · refine zW_zl (fun x18 r_x18 => ?_)
        refine zW_zb (W_M_X10_pointAt r_x18 w_S7) (by decide) (by decide) (fun r19 S20 r_r19 w_S20 => ?_)
        refine zW_zb (W_M_X10_wayAt r_a2 w_S20) (by decide) (by decide) (fun r21 S22 r_r21 w_S22 => ?_)
        refine zW_zb (W_M_X5_isParted r_r19 r_r21 w_S22) (by decide) (by decide) (fun r23 S24 r_r23 w_S24 => ?_)
        refine zW_ite ?_ ?_
        · exact W_J_X6_whyNotCell_55 r_r1 w_S24
        · exact zW_ret w_S24 (zrl rfl)
abbrev mA_X6_whyNot : List Nat := [16]
abbrev mO_X6_whyNot : List (Nat × Int) := []
set_option maxHeartbeats 4000000 in
set_option maxRecDepth 20000 in
theorem W_L_X6_whyNot_22 {k50 : HS → zO2} (hk50 : ∀ (S : HS), WR shF S → zW mA_X6_whyNot mO_X6_whyNot rng S (k50 S)) : ∀ (n : Nat) {v2 : Int} {S : HS}, rng v2 → WR shF S → zW mA_X6_whyNot mO_X6_whyNot rng S (L_X6_whyNot_22 k50 n v2 S) := by
  intro n
  induction n with
  | zero =>
    intro _ _ _ _
    exact zW_none
  | succ n ih =>
    intro v2 S r_v2 w_S
    rw [L_X6_whyNot_22.eq_2]
    refine zW_ite ?_ ?_
    · exact hk50 _ w_S
    · refine zW_zb (W_M_X6_whyNotCell r_v2 w_S) (by decide) (by decide) (fun r4 S5 r_r4 w_S5 => ?_)
      refine zW_ite ?_ ?_
      · refine zW_zl (fun x7 r_x7 => ?_)
        exact ih r_x7 w_S5
      · exact zW_ret w_S5 r_r4
set_option maxHeartbeats 4000000 in
set_option maxRecDepth 20000 in
theorem W_M_X6_whyNot {S : HS} (w_S : WR shF S) : zW mA_X6_whyNot mO_X6_whyNot rng S (M_X6_whyNot S) := by
  unfold M_X6_whyNot
  refine zW_ite ?_ ?_
  · refine zW_fill w_S sw_16 (by decide) (zrl rfl) (fun S2 w_S2 => ?_)
    exact W_L_X6_whyNot_22 (fun S8  w_S8 => by
            refine zW_ite ?_ ?_
            · refine zW_ite ?_ ?_
              · exact zW_ret w_S8 (zrl rfl)
              · exact zW_ret w_S8 (zrl rfl)
            · exact zW_ret w_S8 (zrl rfl)) _ (zrl rfl) w_S2
  · exact zW_ret w_S (zrl rfl)
abbrev mA_X4_drawLine : List Nat := [4, 5, 6, 8, 9, 10, 11, 13, 14, 15, 16, 47, 48]
abbrev mO_X4_drawLine : List (Nat × Int) := [(3, 3), (7, 11), (45, 7), (45, 8), (46, 2), (46, 3), (46, 4), (46, 5), (46, 6), (46, 7), (46, 8)]
set_option maxHeartbeats 4000000 in
set_option maxRecDepth 20000 in
theorem W_J_X4_drawLine_111 {S : HS} (w_S : WR shF S) : zW mA_X4_drawLine mO_X4_drawLine rng S (J_X4_drawLine_111 S) := by
  unfold J_X4_drawLine_111
  refine zW_zl (fun x13 r_x13 => ?_)
  refine zW_upO w_S sw_45 (by decide) r_x13 (fun S14 w_S14 => ?_)
  exact zW_ret w_S14 (zrl rfl)
set_option maxHeartbeats 4000000 in
set_option maxRecDepth 20000 in
theorem W_J_X4_drawLine_58 {v5 : Int} {t0 : Int} {S : HS} (r_v5 : rng v5) (r_t0 : rng t0) (w_S : WR shF S) : zW mA_X4_drawLine mO_X4_drawLine rng S (J_X4_drawLine_58 v5 t0 S) := by
  unfold J_X4_drawLine_58
  refine zW_ite ?_ ?_
  · refine zW_ite ?_ ?_
    · refine zW_zb (W_M_X5_put w_S) (by decide) (by decide) (fun _ S12 _ w_S12 => ?_)
      exact W_J_X4_drawLine_111 w_S12
    · refine zW_zb (W_M_X6_put w_S) (by decide) (by decide) (fun _ S16 _ w_S16 => ?_)
      exact W_J_X4_drawLine_111 w_S16
  · refine zW_zl (fun x17 r_x17 => ?_)
    refine zW_upO w_S sw_45 (by decide) r_x17 (fun S18 w_S18 => ?_)
    exact zW_ret w_S18 (zrl rfl)
set_option maxHeartbeats 4000000 in
set_option maxRecDepth 20000 in
theorem W_J_X4_drawLine_17 {v1 : Int} {v2 : Int} {v3 : Int} {v4 : Int} {t0 : Int} {S : HS} (r_v1 : rng v1) (r_v2 : rng v2) (r_v3 : rng v3) (r_v4 : rng v4) (r_t0 : rng t0) (w_S : WR shF S) : zW mA_X4_drawLine mO_X4_drawLine rng S (J_X4_drawLine_17 v1 v2 v3 v4 t0 S) := by
  unfold J_X4_drawLine_17
  refine zW_zb (W_M_X4_walk r_v1 r_v2 r_v3 r_v4 w_S) (by decide) (by decide) (fun _ S5 _ w_S5 => ?_)
  refine zW_ite ?_ ?_
  · refine zW_zb (W_M_X5_whyNot w_S5) (by decide) (by decide) (fun r7 S8 r_r7 w_S8 => ?_)
    exact W_J_X4_drawLine_58 r_t0 r_r7 w_S8
  · refine zW_zb (W_M_X6_whyNot w_S5) (by decide) (by decide) (fun r19 S20 r_r19 w_S20 => ?_)
    exact W_J_X4_drawLine_58 r_t0 r_r19 w_S20
set_option maxHeartbeats 4000000 in
set_option maxRecDepth 20000 in
theorem W_M_X4_drawLine {a1 : Int} {a2 : Int} {a3 : Int} {a4 : Int} {S : HS} (r_a1 : rng a1) (r_a2 : rng a2) (r_a3 : rng a3) (r_a4 : rng a4) (w_S : WR shF S) : zW mA_X4_drawLine mO_X4_drawLine rng S (M_X4_drawLine a1 a2 a3 a4 S) := by
  unfold M_X4_drawLine
  refine zW_zb (W_M_X7_codeAt r_a1 w_S) (by decide) (by decide) (fun r1 S2 r_r1 w_S2 => ?_)
  refine zW_ite ?_ ?_
  · exact W_J_X4_drawLine_17 r_a1 r_a2 r_a3 r_a4 (zrl rfl) w_S2
  · exact W_J_X4_drawLine_17 r_a1 r_a2 r_a3 r_a4 (zrl rfl) w_S2
abbrev mA_X4_drawSteps : List Nat := [4, 5, 6, 8, 9, 10, 11, 13, 14, 15, 16, 47, 48]
abbrev mO_X4_drawSteps : List (Nat × Int) := [(3, 3), (7, 11), (45, 7), (45, 8), (46, 2), (46, 3), (46, 4), (46, 5), (46, 6), (46, 7), (46, 8)]
set_option maxHeartbeats 4000000 in
set_option maxRecDepth 20000 in
theorem W_L_X4_drawAgain_51 {rec : Int → Int → Int → Int → Int → Int → HS → zO2} {p1 : Int} {p2 : Int} {p3 : Int} {p4 : Int} {p5 : Int} {p6 : Int} {p7 : Int} {p8 : Int} {p9 : Int} (hrec : ∀ (b0 b1 b2 b3 b4 b5 : Int) (S : HS), rng b0 → rng b1 → rng b2 → rng b3 → rng b4 → rng b5 → WR shF S → zW mA_X4_drawSteps mO_X4_drawSteps rng S (rec b0 b1 b2 b3 b4 b5 S)) (r_p1 : rng p1) (r_p2 : rng p2) (r_p3 : rng p3) (r_p4 : rng p4) (r_p5 : rng p5) (r_p6 : rng p6) (r_p7 : rng p7) (r_p8 : rng p8) (r_p9 : rng p9) : ∀ (n : Nat) {v10 : Int} {S : HS}, rng v10 → WR shF S → zW mA_X4_drawSteps mO_X4_drawSteps rng S (L_X4_drawAgain_51 rec p1 p2 p3 p4 p5 p6 p7 p8 p9 n v10 S) := by
  intro n
  induction n with
  | zero =>
    intro _ _ _ _
    exact zW_none
  | succ n ih =>
    intro v10 S r_v10 w_S
    rw [L_X4_drawAgain_51.eq_2]
    refine zW_ite ?_ ?_
    · exact zW_ret w_S (zrl rfl)
    · refine zW_ite ?_ ?_
      · refine zW_zb (W_M_X11_acrossBy r_p7 w_S) (by decide) (by decide) (fun r15 S16 r_r15 w_S16 => ?_)
        refine zW_zl (fun x17 r_x17 => ?_)
        refine zW_zb (W_M_X11_downBy r_p7 w_S16) (by decide) (by decide) (fun r18 S19 r_r18 w_S19 => ?_)
        refine zW_zl (fun x20 r_x20 => ?_)
        refine zW_zl (fun x21 r_x21 => ?_)
        refine zW_zl (fun x22 r_x22 => ?_)
        refine zW_zb (hrec _ _ _ _ _ _ _ r_x22 r_p9 r_p2 r_x17 r_x21 r_x20 w_S19) (by decide) (by decide) (fun _ S24 _ w_S24 => ?_)
        refine zW_zl (fun x25 r_x25 => ?_)
        exact ih r_x25 w_S24
      · exact zW_ret w_S (zrl rfl)
set_option maxHeartbeats 4000000 in
set_option maxRecDepth 20000 in
theorem W_M_X4_drawAgain {rec : Int → Int → Int → Int → Int → Int → HS → zO2} {a1 : Int} {a2 : Int} {a3 : Int} {a4 : Int} {a5 : Int} {S : HS} (hrec : ∀ (b0 b1 b2 b3 b4 b5 : Int) (S : HS), rng b0 → rng b1 → rng b2 → rng b3 → rng b4 → rng b5 → WR shF S → zW mA_X4_drawSteps mO_X4_drawSteps rng S (rec b0 b1 b2 b3 b4 b5 S)) (r_a1 : rng a1) (r_a2 : rng a2) (r_a3 : rng a3) (r_a4 : rng a4) (r_a5 : rng a5) (w_S : WR shF S) : zW mA_X4_drawSteps mO_X4_drawSteps rng S (M_X4_drawAgain rec a1 a2 a3 a4 a5 S) := by
  unfold M_X4_drawAgain
  refine zW_zl (fun x1 r_x1 => ?_)
  refine zW_zb (W_M_X7_codeAt r_x1 w_S) (by decide) (by decide) (fun r2 S3 r_r2 w_S3 => ?_)
  refine zW_zl (fun x4 r_x4 => ?_)
  refine zW_zb (W_M_X7_codeAt r_x4 w_S3) (by decide) (by decide) (fun r5 S6 r_r5 w_S6 => ?_)
  refine zW_zl (fun x7 r_x7 => ?_)
  refine zW_zb (W_M_X7_codeAt r_x7 w_S6) (by decide) (by decide) (fun r8 S9 r_r8 w_S9 => ?_)
  refine zW_zl (fun x10 r_x10 => ?_)
  refine zW_zb (W_M_X7_codeAt r_x10 w_S9) (by decide) (by decide) (fun r11 S12 r_r11 w_S12 => ?_)
  exact W_L_X4_drawAgain_51 hrec r_a1 r_a2 r_a3 r_a4 r_a5 r_r2 r_r5 r_r8 r_r11 _ (zrl rfl) w_S12
set_option maxHeartbeats 4000000 in
set_option maxRecDepth 20000 in
theorem W_M_X4_drawMirrored {rec : Int → Int → Int → Int → Int → Int → HS → zO2} {a1 : Int} {a2 : Int} {a3 : Int} {a4 : Int} {a5 : Int} {S : HS} (hrec : ∀ (b0 b1 b2 b3 b4 b5 : Int) (S : HS), rng b0 → rng b1 → rng b2 → rng b3 → rng b4 → rng b5 → WR shF S → zW mA_X4_drawSteps mO_X4_drawSteps rng S (rec b0 b1 b2 b3 b4 b5 S)) (r_a1 : rng a1) (r_a2 : rng a2) (r_a3 : rng a3) (r_a4 : rng a4) (r_a5 : rng a5) (w_S : WR shF S) : zW mA_X4_drawSteps mO_X4_drawSteps rng S (M_X4_drawMirrored rec a1 a2 a3 a4 a5 S) := by
  unfold M_X4_drawMirrored
  refine zW_zl (fun x1 r_x1 => ?_)
  refine zW_zb (W_M_X7_codeAt r_x1 w_S) (by decide) (by decide) (fun r2 S3 r_r2 w_S3 => ?_)
  refine zW_zl (fun x4 r_x4 => ?_)
  refine zW_zl (fun x5 r_x5 => ?_)
  refine zW_zb (hrec _ _ _ _ _ _ _ r_x5 r_r2 r_a2 r_a3 r_a4 r_x4 w_S3) (by decide) (by decide) (fun _ S7 _ w_S7 => ?_)
  refine zW_ite ?_ ?_
  · refine zW_zl (fun x9 r_x9 => ?_)
    refine zW_zl (fun x10 r_x10 => ?_)
    refine zW_zl (fun x11 r_x11 => ?_)
    refine zW_zl (fun x12 r_x12 => ?_)
    refine zW_zb (hrec _ _ _ _ _ _ _ r_x12 r_r2 r_x11 r_x10 r_a4 r_x9 w_S7) (by decide) (by decide) (fun _ S14 _ w_S14 => ?_)
    exact zW_ret w_S14 (zrl rfl)
  · exact zW_ret w_S7 (zrl rfl)
set_option maxHeartbeats 4000000 in
set_option maxRecDepth 20000 in
theorem W_J_X4_drawSteps_149 {rec : Int → Int → Int → Int → Int → Int → HS → zO2} {k13 : Int → Int → HS → zO2} {v2 : Int} {v3 : Int} {v4 : Int} {v5 : Int} {v6 : Int} {v7 : Int} {v8 : Int} {S : HS} (hrec : ∀ (b0 b1 b2 b3 b4 b5 : Int) (S : HS), rng b0 → rng b1 → rng b2 → rng b3 → rng b4 → rng b5 → WR shF S → zW mA_X4_drawSteps mO_X4_drawSteps rng S (rec b0 b1 b2 b3 b4 b5 S)) (hk13 : ∀ (w0 w1 : Int) (S : HS), rng w0 → rng w1 → WR shF S → zW mA_X4_drawSteps mO_X4_drawSteps rng S (k13 w0 w1 S)) (r_v2 : rng v2) (r_v3 : rng v3) (r_v4 : rng v4) (r_v5 : rng v5) (r_v6 : rng v6) (r_v7 : rng v7) (r_v8 : rng v8) (w_S : WR shF S) : zW mA_X4_drawSteps mO_X4_drawSteps rng S (J_X4_drawSteps_149 rec k13 v2 v3 v4 v5 v6 v7 v8 S) := by
  unfold J_X4_drawSteps_149
  refine zW_zl (fun x15 r_x15 => ?_)
  exact hk13 _ _ _ r_v7 r_x15 w_S
set_option maxHeartbeats 4000000 in
set_option maxRecDepth 20000 in
theorem W_L_X4_drawSteps_13 {rec : Int → Int → Int → Int → Int → Int → HS → zO2} {p2 : Int} {p3 : Int} {p4 : Int} {p5 : Int} {p6 : Int} (hrec : ∀ (b0 b1 b2 b3 b4 b5 : Int) (S : HS), rng b0 → rng b1 → rng b2 → rng b3 → rng b4 → rng b5 → WR shF S → zW mA_X4_drawSteps mO_X4_drawSteps rng S (rec b0 b1 b2 b3 b4 b5 S)) (r_p2 : rng p2) (r_p3 : rng p3) (r_p4 : rng p4) (r_p5 : rng p5) (r_p6 : rng p6) : ∀ (n : Nat) {v7 : Int} {v8 : Int} {S : HS}, rng v7 → rng v8 → WR shF S → zW mA_X4_drawSteps mO_X4_drawSteps rng S (L_X4_drawSteps_13 rec p2 p3 p4 p5 p6 n v7 v8 S) := by
  intro n
  induction n with
  | zero =>
    intro _ _ _ _ _ _
    exact zW_none
  | succ n ih =>
    intro v7 v8 S r_v7 r_v8 w_S
    rw [L_X4_drawSteps_13.eq_2]
    refine zW_ite ?_ ?_
    · exact zW_ret w_S (zrl rfl)
    · refine zW_ite ?_ ?_
      · exact zW_ret w_S (zrl rfl)
      · refine zW_ite ?_ ?_
        · refine zW_zb (W_M_X7_codeAt r_v7 w_S) (by decide) (by decide) (fun r5 S6 r_r5 w_S6 => ?_)
          refine zW_ite ?_ ?_
          · refine zW_zb (W_M_X4_drawAgain hrec r_v7 r_p3 r_p4 r_p5 r_p6 w_S6) (by decide) (by decide) (fun _ S22 _ w_S22 => ?_)
            refine zW_zl (fun x23 r_x23 => ?_)
            refine zW_zb (W_M_X7_codeAt r_x23 w_S22) (by decide) (by decide) (fun r24 S25 r_r24 w_S25 => ?_)
            exact W_J_X4_drawSteps_149 hrec (fun q0_ q1_ T_ r_q0_ r_q1_ w_T_ => ih r_q0_ r_q1_ w_T_) r_p2 r_p3 r_p4 r_p5 r_p6 r_r24 r_v8 w_S25
          · refine zW_ite ?_ ?_
            · refine zW_zb (W_M_X4_drawMirrored hrec r_v7 r_p3 r_p4 r_p5 r_p6 w_S6) (by decide) (by decide) (fun _ S17 _ w_S17 => ?_)
              refine zW_zl (fun x18 r_x18 => ?_)
              refine zW_zb (W_M_X7_codeAt r_x18 w_S17) (by decide) (by decide) (fun r19 S20 r_r19 w_S20 => ?_)
              exact W_J_X4_drawSteps_149 hrec (fun q0_ q1_ T_ r_q0_ r_q1_ w_T_ => ih r_q0_ r_q1_ w_T_) r_p2 r_p3 r_p4 r_p5 r_p6 r_r19 r_v8 w_S20
            · refine zW_zb (W_M_X4_drawLine r_v7 r_p3 r_p4 r_p5 w_S6) (by decide) (by decide) (fun _ S10 _ w_S10 => ?_)
              refine zW_zl (fun x11 r_x11 => ?_)
              refine zW_zb (W_M_X7_codeAt r_x11 w_S10) (by decide) (by decide) (fun r12 S13 r_r12 w_S13 => ?_)
              refine zW_zl (fun x14 r_x14 => ?_)
              exact W_J_X4_drawSteps_149 hrec (fun q0_ q1_ T_ r_q0_ r_q1_ w_T_ => ih r_q0_ r_q1_ w_T_) r_p2 r_p3 r_p4 r_p5 r_p6 r_x14 r_v8 w_S13
        · exact zW_ret w_S (zrl rfl)
set_option maxHeartbeats 4000000 in
set_option maxRecDepth 20000 in
theorem W_F_X4_drawSteps {rec : Int → Int → Int → Int → Int → Int → HS → zO2} {a1 : Int} {a2 : Int} {a3 : Int} {a4 : Int} {a5 : Int} {a6 : Int} {S : HS} (hrec : ∀ (b0 b1 b2 b3 b4 b5 : Int) (S : HS), rng b0 → rng b1 → rng b2 → rng b3 → rng b4 → rng b5 → WR shF S → zW mA_X4_drawSteps mO_X4_drawSteps rng S (rec b0 b1 b2 b3 b4 b5 S)) (r_a1 : rng a1) (r_a2 : rng a2) (r_a3 : rng a3) (r_a4 : rng a4) (r_a5 : rng a5) (r_a6 : rng a6) (w_S : WR shF S) : zW mA_X4_drawSteps mO_X4_drawSteps rng S (F_X4_drawSteps rec a1 a2 a3 a4 a5 a6 S) := by
  unfold F_X4_drawSteps
  refine zW_ite ?_ ?_
  · exact W_L_X4_drawSteps_13 hrec r_a2 r_a3 r_a4 r_a5 r_a6 _ r_a1 (zrl rfl) w_S
  · exact zW_ret w_S (zrl rfl)
set_option maxHeartbeats 4000000 in
set_option maxRecDepth 20000 in
theorem W_M_X4_drawSteps : ∀ (n : Nat) {a1 : Int} {a2 : Int} {a3 : Int} {a4 : Int} {a5 : Int} {a6 : Int} {S : HS}, rng a1 → rng a2 → rng a3 → rng a4 → rng a5 → rng a6 → WR shF S → zW mA_X4_drawSteps mO_X4_drawSteps rng S (M_X4_drawSteps n a1 a2 a3 a4 a5 a6 S) := by
  intro n
  induction n with
  | zero =>
    intro _ _ _ _ _ _ _ _ _ _ _ _ _ _
    exact zW_none
  | succ n ih =>
    intro a1 a2 a3 a4 a5 a6 _ r_a1 r_a2 r_a3 r_a4 r_a5 r_a6 w_S
    rw [M_X4_drawSteps.eq_2]
    exact W_F_X4_drawSteps (fun _ _ _ _ _ _ _ ha1 ha2 ha3 ha4 ha5 ha6 h => ih ha1 ha2 ha3 ha4 ha5 ha6 h) r_a1 r_a2 r_a3 r_a4 r_a5 r_a6 w_S
abbrev mA_X11_cellAt : List Nat := []
abbrev mO_X11_cellAt : List (Nat × Int) := []
set_option maxHeartbeats 4000000 in
set_option maxRecDepth 20000 in
theorem W_J_X11_cellAt_25 {v0 : Int} {v1 : Int} {t0 : Int} {S : HS} (r_v0 : rng v0) (r_v1 : rng v1) (r_t0 : rng t0) (w_S : WR shF S) : zW mA_X11_cellAt mO_X11_cellAt rng S (J_X11_cellAt_25 v0 v1 t0 S) := by
  unfold J_X11_cellAt_25
  refine zW_ite ?_ ?_
  · exact zW_ret w_S (zrl rfl)
  · refine zW_zl (fun x3 r_x3 => ?_)
    exact zW_ret w_S r_x3
set_option maxHeartbeats 4000000 in
set_option maxRecDepth 20000 in
theorem W_J_X11_cellAt_24 {v0 : Int} {v1 : Int} {S : HS} (r_v0 : rng v0) (r_v1 : rng v1) (w_S : WR shF S) : zW mA_X11_cellAt mO_X11_cellAt rng S (J_X11_cellAt_24 v0 v1 S) := by
  unfold J_X11_cellAt_24
  exact W_J_X11_cellAt_25 r_v0 r_v1 (zrl rfl) w_S
set_option maxHeartbeats 4000000 in
set_option maxRecDepth 20000 in
theorem W_M_X11_cellAt {a1 : Int} {a2 : Int} {S : HS} (r_a1 : rng a1) (r_a2 : rng a2) (w_S : WR shF S) : zW mA_X11_cellAt mO_X11_cellAt rng S (M_X11_cellAt a1 a2 S) := by
  unfold M_X11_cellAt
  refine zW_ite ?_ ?_
  · exact W_J_X11_cellAt_24 r_a1 r_a2 w_S
  · refine zW_ite ?_ ?_
    · exact W_J_X11_cellAt_24 r_a1 r_a2 w_S
    · refine zW_ite ?_ ?_
      · exact W_J_X11_cellAt_24 r_a1 r_a2 w_S
      · refine zW_ite ?_ ?_
        · exact W_J_X11_cellAt_24 r_a1 r_a2 w_S
        · exact W_J_X11_cellAt_25 r_a1 r_a2 (zrl rfl) w_S
abbrev mA_X11_isUntouched : List Nat := []
abbrev mO_X11_isUntouched : List (Nat × Int) := []
set_option maxHeartbeats 4000000 in
set_option maxRecDepth 20000 in
theorem W_M_X11_isUntouched {S : HS} (w_S : WR shF S) : zW mA_X11_isUntouched mO_X11_isUntouched rng S (M_X11_isUntouched S) := by
  unfold M_X11_isUntouched
  refine zW_ite ?_ ?_
  · refine zW_ite ?_ ?_
    · refine zW_ite ?_ ?_
      · exact zW_ret w_S (zrl rfl)
      · exact zW_ret w_S (zrl rfl)
    · exact zW_ret w_S (zrl rfl)
  · exact zW_ret w_S (zrl rfl)
abbrev mA_X2_putHairs : List Nat := [2]
abbrev mO_X2_putHairs : List (Nat × Int) := []
set_option maxHeartbeats 4000000 in
set_option maxRecDepth 20000 in
theorem W_M_X2_putHairs {a1 : Int} {a2 : Int} {S : HS} (r_a1 : rng a1) (r_a2 : rng a2) (w_S : WR shF S) : zW mA_X2_putHairs mO_X2_putHairs rng S (M_X2_putHairs a1 a2 S) := by
  unfold M_X2_putHairs
  refine zW_zb (W_M_X11_isCell r_a1 w_S) (by decide) (by decide) (fun r1 S2 r_r1 w_S2 => ?_)
  refine zW_ite ?_ ?_
  · exact zW_ret w_S2 (zrl rfl)
  · refine zW_zg ?_
    refine zW_up w_S2 sw_2 (by decide) r_a2 (fun S5 w_S5 => ?_)
    exact zW_ret w_S5 (zrl rfl)
abbrev mA_X8_push : List Nat := [22]
abbrev mO_X8_push : List (Nat × Int) := [(17, 8)]
set_option maxHeartbeats 4000000 in
set_option maxRecDepth 20000 in
theorem W_M_X8_push {a1 : Int} {S : HS} (r_a1 : rng a1) (w_S : WR shF S) : zW mA_X8_push mO_X8_push rng S (M_X8_push a1 S) := by
  unfold M_X8_push
  refine zW_ite ?_ ?_
  · exact zW_ret w_S (zrl rfl)
  · refine zW_zg ?_
    refine zW_up w_S sw_22 (by decide) r_a1 (fun S3 w_S3 => ?_)
    refine zW_zl (fun x4 r_x4 => ?_)
    refine zW_upO w_S3 sw_17 (by decide) r_x4 (fun S5 w_S5 => ?_)
    exact zW_ret w_S5 (zrl rfl)
abbrev mA_X8_spreadName : List Nat := [18, 22]
abbrev mO_X8_spreadName : List (Nat × Int) := [(17, 8)]
set_option maxHeartbeats 4000000 in
set_option maxRecDepth 20000 in
theorem W_M_X8_spreadName {a1 : Int} {a2 : Int} {S : HS} (r_a1 : rng a1) (r_a2 : rng a2) (w_S : WR shF S) : zW mA_X8_spreadName mO_X8_spreadName rng S (M_X8_spreadName a1 a2 S) := by
  unfold M_X8_spreadName
  refine zW_zb (W_M_X11_isCell r_a1 w_S) (by decide) (by decide) (fun r1 S2 r_r1 w_S2 => ?_)
  refine zW_ite ?_ ?_
  · exact zW_ret w_S2 (zrl rfl)
  · refine zW_zg ?_
    refine zW_ite ?_ ?_
    · refine zW_zg ?_
      refine zW_up w_S2 sw_18 (by decide) r_a2 (fun S7 w_S7 => ?_)
      refine zW_zb (W_M_X8_push r_a1 w_S7) (by decide) (by decide) (fun _ S9 _ w_S9 => ?_)
      exact zW_ret w_S9 (zrl rfl)
    · exact zW_ret w_S2 (zrl rfl)
abbrev mA_X11_cellBeside : List Nat := []
abbrev mO_X11_cellBeside : List (Nat × Int) := []
set_option maxHeartbeats 4000000 in
set_option maxRecDepth 20000 in
theorem W_M_X11_cellBeside {a1 : Int} {a2 : Int} {S : HS} (r_a1 : rng a1) (r_a2 : rng a2) (w_S : WR shF S) : zW mA_X11_cellBeside mO_X11_cellBeside rng S (M_X11_cellBeside a1 a2 S) := by
  unfold M_X11_cellBeside
  refine zW_zg ?_
  refine zW_zb (W_M_X11_acrossBy r_a2 w_S) (by decide) (by decide) (fun r2 S3 r_r2 w_S3 => ?_)
  refine zW_zg ?_
  refine zW_zb (W_M_X11_downBy r_a2 w_S3) (by decide) (by decide) (fun r5 S6 r_r5 w_S6 => ?_)
  refine zW_zl (fun x7 r_x7 => ?_)
  refine zW_zl (fun x8 r_x8 => ?_)
  refine zW_zb (W_M_X11_cellAt r_x8 r_x7 w_S6) (by decide) (by decide) (fun r9 S10 r_r9 w_S10 => ?_)
  exact zW_ret w_S10 r_r9
abbrev mA_X8_openBeside : List Nat := []
abbrev mO_X8_openBeside : List (Nat × Int) := []
set_option maxHeartbeats 4000000 in
set_option maxRecDepth 20000 in
theorem W_M_X8_openBeside {a1 : Int} {a2 : Int} {S : HS} (r_a1 : rng a1) (r_a2 : rng a2) (w_S : WR shF S) : zW mA_X8_openBeside mO_X8_openBeside rng S (M_X8_openBeside a1 a2 S) := by
  unfold M_X8_openBeside
  refine zW_zb (W_M_X11_cellBeside r_a1 r_a2 w_S) (by decide) (by decide) (fun r1 S2 r_r1 w_S2 => ?_)
  refine zW_zb (W_M_X2_isScalp r_r1 w_S2) (by decide) (by decide) (fun r3 S4 r_r3 w_S4 => ?_)
  refine zW_ite ?_ ?_
  · exact zW_ret w_S4 (zrl rfl)
  · refine zW_zb (W_M_X5_isParted r_a1 r_a2 w_S4) (by decide) (by decide) (fun r6 S7 r_r6 w_S7 => ?_)
    refine zW_ite ?_ ?_
    · exact zW_ret w_S7 r_r1
    · exact zW_ret w_S7 (zrl rfl)
abbrev mA_X8_nameRegion : List Nat := [18, 22]
abbrev mO_X8_nameRegion : List (Nat × Int) := [(17, 8)]
set_option maxHeartbeats 4000000 in
set_option maxRecDepth 20000 in
theorem W_L_X8_nameRegion_30 {k57 : HS → zO2} {p1 : Int} {p2 : Int} (hk57 : ∀ (S : HS), WR shF S → zW mA_X8_nameRegion mO_X8_nameRegion rng S (k57 S)) (r_p1 : rng p1) (r_p2 : rng p2) : ∀ (n : Nat) {v3 : Int} {S : HS}, rng v3 → WR shF S → zW mA_X8_nameRegion mO_X8_nameRegion rng S (L_X8_nameRegion_30 k57 p1 p2 n v3 S) := by
  intro n
  induction n with
  | zero =>
    intro _ _ _ _
    exact zW_none
  | succ n ih =>
    intro v3 S r_v3 w_S
    rw [L_X8_nameRegion_30.eq_2]
    refine zW_ite ?_ ?_
    · exact hk57 _ w_S
    · refine zW_zg ?_
      refine zW_zb (W_M_X8_openBeside (w_S 22 _ sw_22 p2) r_v3 w_S) (by decide) (by decide) (fun r8 S9 r_r8 w_S9 => ?_)
      refine zW_zb (W_M_X8_spreadName r_r8 r_p1 w_S9) (by decide) (by decide) (fun _ S11 _ w_S11 => ?_)
      refine zW_zl (fun x12 r_x12 => ?_)
      exact ih r_x12 w_S11
set_option maxHeartbeats 4000000 in
set_option maxRecDepth 20000 in
theorem W_L_X8_nameRegion_13 {p1 : Int} (r_p1 : rng p1) : ∀ (n : Nat) {v2 : Int} {S : HS}, rng v2 → WR shF S → zW mA_X8_nameRegion mO_X8_nameRegion rng S (L_X8_nameRegion_13 p1 n v2 S) := by
  intro n
  induction n with
  | zero =>
    intro _ _ _ _
    exact zW_none
  | succ n ih =>
    intro v2 S r_v2 w_S
    rw [L_X8_nameRegion_13.eq_2]
    refine zW_ite ?_ ?_
    · exact zW_ret w_S (zrl rfl)
    · refine zW_ite ?_ ?_
      · exact zW_ret w_S (zrl rfl)
      · exact W_L_X8_nameRegion_30 (fun S13  w_S13 => by
              refine zW_zl (fun x14 r_x14 => ?_)
              exact ih r_x14 w_S13) r_p1 r_v2 _ (zrl rfl) w_S
set_option maxHeartbeats 4000000 in
set_option maxRecDepth 20000 in
theorem W_M_X8_nameRegion {a1 : Int} {S : HS} (r_a1 : rng a1) (w_S : WR shF S) : zW mA_X8_nameRegion mO_X8_nameRegion rng S (M_X8_nameRegion a1 S) := by
  unfold M_X8_nameRegion
  refine zW_upO w_S sw_17 (by decide) (zrl rfl) (fun S1 w_S1 => ?_)
  refine zW_zb (W_M_X8_spreadName r_a1 r_a1 w_S1) (by decide) (by decide) (fun _ S3 _ w_S3 => ?_)
  exact W_L_X8_nameRegion_13 r_a1 _ (zrl rfl) w_S3
abbrev mA_X8_nameRegions : List Nat := [18, 22]
abbrev mO_X8_nameRegions : List (Nat × Int) := [(17, 8), (17, 9)]
set_option maxHeartbeats 4000000 in
set_option maxRecDepth 20000 in
theorem W_J_X8_nameRegions_58 {k15 : Int → HS → zO2} {v1 : Int} {S : HS} (hk15 : ∀ (w0 : Int) (S : HS), rng w0 → WR shF S → zW mA_X8_nameRegions mO_X8_nameRegions rng S (k15 w0 S)) (r_v1 : rng v1) (w_S : WR shF S) : zW mA_X8_nameRegions mO_X8_nameRegions rng S (J_X8_nameRegions_58 k15 v1 S) := by
  unfold J_X8_nameRegions_58
  refine zW_zl (fun x6 r_x6 => ?_)
  exact hk15 _ _ r_x6 w_S
set_option maxHeartbeats 4000000 in
set_option maxRecDepth 20000 in
theorem W_L_X8_nameRegions_15   : ∀ (n : Nat) {v1 : Int} {S : HS}, rng v1 → WR shF S → zW mA_X8_nameRegions mO_X8_nameRegions rng S (L_X8_nameRegions_15  n v1 S) := by
  intro n
  induction n with
  | zero =>
    intro _ _ _ _
    exact zW_none
  | succ n ih =>
    intro v1 S r_v1 w_S
    rw [L_X8_nameRegions_15.eq_2]
    refine zW_ite ?_ ?_
    · exact zW_ret w_S (zrl rfl)
    · refine zW_zg ?_
      refine zW_ite ?_ ?_
      · refine zW_zb (W_M_X2_isScalp r_v1 w_S) (by decide) (by decide) (fun r7 S8 r_r7 w_S8 => ?_)
        refine zW_ite ?_ ?_
        · exact W_J_X8_nameRegions_58 (fun q0_ T_ r_q0_ w_T_ => ih r_q0_ w_T_) r_v1 w_S8
        · refine zW_zb (W_M_X8_nameRegion r_v1 w_S8) (by decide) (by decide) (fun _ S11 _ w_S11 => ?_)
          refine zW_zl (fun x12 r_x12 => ?_)
          refine zW_upO w_S11 sw_17 (by decide) r_x12 (fun S13 w_S13 => ?_)
          exact W_J_X8_nameRegions_58 (fun q0_ T_ r_q0_ w_T_ => ih r_q0_ w_T_) r_v1 w_S13
      · exact W_J_X8_nameRegions_58 (fun q0_ T_ r_q0_ w_T_ => ih r_q0_ w_T_) r_v1 w_S
set_option maxHeartbeats 4000000 in
set_option maxRecDepth 20000 in
theorem W_M_X8_nameRegions {S : HS} (w_S : WR shF S) : zW mA_X8_nameRegions mO_X8_nameRegions rng S (M_X8_nameRegions S) := by
  unfold M_X8_nameRegions
  refine zW_fill w_S sw_18 (by decide) (zrl rfl) (fun S1 w_S1 => ?_)
  refine zW_upO w_S1 sw_17 (by decide) (zrl rfl) (fun S2 w_S2 => ?_)
  exact W_L_X8_nameRegions_15 _ (zrl rfl) w_S2
abbrev mA_X6_placeAt : List Nat := []
abbrev mO_X6_placeAt : List (Nat × Int) := []
set_option maxHeartbeats 4000000 in
set_option maxRecDepth 20000 in
theorem W_M_X6_placeAt {a1 : Int} {S : HS} (r_a1 : rng a1) (w_S : WR shF S) : zW mA_X6_placeAt mO_X6_placeAt rng S (M_X6_placeAt a1 S) := by
  unfold M_X6_placeAt
  refine zW_zb (W_M_X11_isCell r_a1 w_S) (by decide) (by decide) (fun r1 S2 r_r1 w_S2 => ?_)
  refine zW_ite ?_ ?_
  · exact zW_ret w_S2 (zrl rfl)
  · refine zW_zg ?_
    exact zW_ret w_S2 (w_S2 11 _ sw_11 a1)
abbrev mA_X8_spreadTaker : List Nat := [19, 20, 22]
abbrev mO_X8_spreadTaker : List (Nat × Int) := [(17, 8)]
set_option maxHeartbeats 4000000 in
set_option maxRecDepth 20000 in
theorem W_M_X8_spreadTaker {a1 : Int} {a2 : Int} {S : HS} (r_a1 : rng a1) (r_a2 : rng a2) (w_S : WR shF S) : zW mA_X8_spreadTaker mO_X8_spreadTaker rng S (M_X8_spreadTaker a1 a2 S) := by
  unfold M_X8_spreadTaker
  refine zW_zb (W_M_X11_isCell r_a1 w_S) (by decide) (by decide) (fun r1 S2 r_r1 w_S2 => ?_)
  refine zW_ite ?_ ?_
  · exact zW_ret w_S2 (zrl rfl)
  · refine zW_zb (W_M_X11_isCell r_a2 w_S2) (by decide) (by decide) (fun r4 S5 r_r4 w_S5 => ?_)
    refine zW_ite ?_ ?_
    · exact zW_ret w_S5 (zrl rfl)
    · refine zW_zg ?_
      refine zW_ite ?_ ?_
      · refine zW_zg ?_
        refine zW_zl (fun x20 r_x20 => ?_)
        refine zW_zg ?_
        refine zW_up w_S5 sw_20 (by decide) r_x20 (fun S22 w_S22 => ?_)
        refine zW_zg ?_
        refine zW_zg ?_
        refine zW_up w_S22 sw_19 (by decide) (w_S22 19 _ sw_19 a1) (fun S25 w_S25 => ?_)
        refine zW_zb (W_M_X8_push r_a2 w_S25) (by decide) (by decide) (fun _ S27 _ w_S27 => ?_)
        exact zW_ret w_S27 (zrl rfl)
      · refine zW_zg ?_
        refine zW_zg ?_
        refine zW_zl (fun x11 r_x11 => ?_)
        refine zW_ite ?_ ?_
        · refine zW_zg ?_
          refine zW_zg ?_
          refine zW_ite ?_ ?_
          · exact zW_ret w_S5 (zrl rfl)
          · refine zW_zg ?_
            refine zW_zg ?_
            refine zW_up w_S5 sw_19 (by decide) (w_S5 19 _ sw_19 a1) (fun S18 w_S18 => ?_)
            exact zW_ret w_S18 (zrl rfl)
        · exact zW_ret w_S5 (zrl rfl)
abbrev mA_X8_takeHair : List Nat := [19, 20, 22]
abbrev mO_X8_takeHair : List (Nat × Int) := [(17, 8)]
set_option maxHeartbeats 4000000 in
set_option maxRecDepth 20000 in
theorem W_J_X8_takeHair_80 {k15 : Int → HS → zO2} {v1 : Int} {S : HS} (hk15 : ∀ (w0 : Int) (S : HS), rng w0 → WR shF S → zW mA_X8_takeHair mO_X8_takeHair rng S (k15 w0 S)) (r_v1 : rng v1) (w_S : WR shF S) : zW mA_X8_takeHair mO_X8_takeHair rng S (J_X8_takeHair_80 k15 v1 S) := by
  unfold J_X8_takeHair_80
  refine zW_zl (fun x13 r_x13 => ?_)
  exact hk15 _ _ r_x13 w_S
set_option maxHeartbeats 4000000 in
set_option maxRecDepth 20000 in
theorem W_L_X8_takeHair_15 {k86 : HS → zO2} (hk86 : ∀ (S : HS), WR shF S → zW mA_X8_takeHair mO_X8_takeHair rng S (k86 S)) : ∀ (n : Nat) {v1 : Int} {S : HS}, rng v1 → WR shF S → zW mA_X8_takeHair mO_X8_takeHair rng S (L_X8_takeHair_15 k86 n v1 S) := by
  intro n
  induction n with
  | zero =>
    intro _ _ _ _
    exact zW_none
  | succ n ih =>
    intro v1 S r_v1 w_S
    rw [L_X8_takeHair_15.eq_2]
    refine zW_ite ?_ ?_
    · exact hk86 _ w_S
    · refine zW_zb (W_M_X6_placeAt r_v1 w_S) (by decide) (by decide) (fun r4 S5 r_r4 w_S5 => ?_)
      refine zW_zg ?_
      refine zW_up w_S5 sw_19 (by decide) r_r4 (fun S7 w_S7 => ?_)
      refine zW_zg ?_
      refine zW_ite ?_ ?_
      · refine zW_zb (W_M_X2_isScalp r_v1 w_S7) (by decide) (by decide) (fun r10 S11 r_r10 w_S11 => ?_)
        refine zW_ite ?_ ?_
        · exact W_J_X8_takeHair_80 (fun q0_ T_ r_q0_ w_T_ => ih r_q0_ w_T_) r_v1 w_S11
        · refine zW_zg ?_
          refine zW_up w_S11 sw_19 (by decide) (zrl rfl) (fun S15 w_S15 => ?_)
          exact W_J_X8_takeHair_80 (fun q0_ T_ r_q0_ w_T_ => ih r_q0_ w_T_) r_v1 w_S15
      · refine zW_zg ?_
        refine zW_up w_S7 sw_20 (by decide) (zrl rfl) (fun S17 w_S17 => ?_)
        refine zW_zb (W_M_X8_push r_v1 w_S17) (by decide) (by decide) (fun _ S19 _ w_S19 => ?_)
        exact W_J_X8_takeHair_80 (fun q0_ T_ r_q0_ w_T_ => ih r_q0_ w_T_) r_v1 w_S19
set_option maxHeartbeats 4000000 in
set_option maxRecDepth 20000 in
theorem W_L_X8_takeHair_105 {k137 : HS → zO2} {p1 : Int} (hk137 : ∀ (S : HS), WR shF S → zW mA_X8_takeHair mO_X8_takeHair rng S (k137 S)) (r_p1 : rng p1) : ∀ (n : Nat) {v2 : Int} {S : HS}, rng v2 → WR shF S → zW mA_X8_takeHair mO_X8_takeHair rng S (L_X8_takeHair_105 k137 p1 n v2 S) := by
  intro n
  induction n with
  | zero =>
    intro _ _ _ _
    exact zW_none
  | succ n ih =>
    intro v2 S r_v2 w_S
    rw [L_X8_takeHair_105.eq_2]
    refine zW_ite ?_ ?_
    · exact hk137 _ w_S
    · refine zW_zg ?_
      refine zW_zg ?_
      refine zW_zb (W_M_X8_openBeside (w_S 22 _ sw_22 p1) r_v2 w_S) (by decide) (by decide) (fun r26 S27 r_r26 w_S27 => ?_)
      refine zW_zb (W_M_X8_spreadTaker (w_S 22 _ sw_22 p1) r_r26 w_S27) (by decide) (by decide) (fun _ S29 _ w_S29 => ?_)
      refine zW_zl (fun x30 r_x30 => ?_)
      exact ih r_x30 w_S29
set_option maxHeartbeats 4000000 in
set_option maxRecDepth 20000 in
theorem W_L_X8_takeHair_88   : ∀ (n : Nat) {v1 : Int} {S : HS}, rng v1 → WR shF S → zW mA_X8_takeHair mO_X8_takeHair rng S (L_X8_takeHair_88  n v1 S) := by
  intro n
  induction n with
  | zero =>
    intro _ _ _ _
    exact zW_none
  | succ n ih =>
    intro v1 S r_v1 w_S
    rw [L_X8_takeHair_88.eq_2]
    refine zW_ite ?_ ?_
    · exact zW_ret w_S (zrl rfl)
    · refine zW_ite ?_ ?_
      · exact zW_ret w_S (zrl rfl)
      · exact W_L_X8_takeHair_105 (fun S31  w_S31 => by
              refine zW_zl (fun x32 r_x32 => ?_)
              exact ih r_x32 w_S31) r_v1 _ (zrl rfl) w_S
set_option maxHeartbeats 4000000 in
set_option maxRecDepth 20000 in
theorem W_M_X8_takeHair {S : HS} (w_S : WR shF S) : zW mA_X8_takeHair mO_X8_takeHair rng S (M_X8_takeHair S) := by
  unfold M_X8_takeHair
  refine zW_fill w_S sw_20 (by decide) (zrl rfl) (fun S1 w_S1 => ?_)
  refine zW_upO w_S1 sw_17 (by decide) (zrl rfl) (fun S2 w_S2 => ?_)
  exact W_L_X8_takeHair_15 (fun S20  w_S20 => by
          exact W_L_X8_takeHair_88 _ (zrl rfl) w_S20) _ (zrl rfl) w_S2
abbrev mA_X2_hairsAt : List Nat := []
abbrev mO_X2_hairsAt : List (Nat × Int) := []
set_option maxHeartbeats 4000000 in
set_option maxRecDepth 20000 in
theorem W_M_X2_hairsAt {a1 : Int} {S : HS} (r_a1 : rng a1) (w_S : WR shF S) : zW mA_X2_hairsAt mO_X2_hairsAt rng S (M_X2_hairsAt a1 S) := by
  unfold M_X2_hairsAt
  refine zW_zb (W_M_X11_isCell r_a1 w_S) (by decide) (by decide) (fun r1 S2 r_r1 w_S2 => ?_)
  refine zW_ite ?_ ?_
  · exact zW_ret w_S2 (zrl rfl)
  · refine zW_zg ?_
    exact zW_ret w_S2 (w_S2 2 _ sw_2 a1)
abbrev mA_X6_has : List Nat := []
abbrev mO_X6_has : List (Nat × Int) := []
set_option maxHeartbeats 4000000 in
set_option maxRecDepth 20000 in
theorem W_M_X6_has {a1 : Int} {S : HS} (r_a1 : rng a1) (w_S : WR shF S) : zW mA_X6_has mO_X6_has rng S (M_X6_has a1 S) := by
  unfold M_X6_has
  refine zW_ite ?_ ?_
  · exact zW_ret w_S (zrl rfl)
  · refine zW_ite ?_ ?_
    · exact zW_ret w_S (zrl rfl)
    · refine zW_ite ?_ ?_
      · exact zW_ret w_S (zrl rfl)
      · exact zW_ret w_S (zrl rfl)
abbrev mA_X6_cellIn : List Nat := []
abbrev mO_X6_cellIn : List (Nat × Int) := []
set_option maxHeartbeats 4000000 in
set_option maxRecDepth 20000 in
theorem W_M_X6_cellIn {a1 : Int} {a2 : Int} {S : HS} (r_a1 : rng a1) (r_a2 : rng a2) (w_S : WR shF S) : zW mA_X6_cellIn mO_X6_cellIn rng S (M_X6_cellIn a1 a2 S) := by
  unfold M_X6_cellIn
  refine zW_zb (W_M_X6_has r_a1 w_S) (by decide) (by decide) (fun r1 S2 r_r1 w_S2 => ?_)
  refine zW_ite ?_ ?_
  · exact zW_ret w_S2 (zrl rfl)
  · refine zW_ite ?_ ?_
    · exact zW_ret w_S2 (zrl rfl)
    · refine zW_zg ?_
      refine zW_ite ?_ ?_
      · refine zW_zg ?_
        refine zW_zl (fun x8 r_x8 => ?_)
        refine zW_ite ?_ ?_
        · exact zW_ret w_S2 (zrl rfl)
        · refine zW_ite ?_ ?_
          · exact zW_ret w_S2 (zrl rfl)
          · refine zW_zg ?_
            exact zW_ret w_S2 (w_S2 8 _ sw_8 x8)
      · exact zW_ret w_S2 (zrl rfl)
abbrev mA_X8_addHair : List Nat := [21]
abbrev mO_X8_addHair : List (Nat × Int) := []
set_option maxHeartbeats 4000000 in
set_option maxRecDepth 20000 in
theorem W_M_X8_addHair {a1 : Int} {a2 : Int} {S : HS} (r_a1 : rng a1) (r_a2 : rng a2) (w_S : WR shF S) : zW mA_X8_addHair mO_X8_addHair rng S (M_X8_addHair a1 a2 S) := by
  unfold M_X8_addHair
  refine zW_zg ?_
  refine zW_zg ?_
  refine zW_zl (fun x3 r_x3 => ?_)
  refine zW_zl (fun x4 r_x4 => ?_)
  refine zW_zb (W_M_X6_cellIn r_x4 r_x3 w_S) (by decide) (by decide) (fun r5 S6 r_r5 w_S6 => ?_)
  refine zW_zb (W_M_X11_isCell r_r5 w_S6) (by decide) (by decide) (fun r7 S8 r_r7 w_S8 => ?_)
  refine zW_ite ?_ ?_
  · exact zW_ret w_S8 (zrl rfl)
  · refine zW_zg ?_
    refine zW_zl (fun x11 r_x11 => ?_)
    refine zW_zg ?_
    refine zW_up w_S8 sw_21 (by decide) r_x11 (fun S13 w_S13 => ?_)
    exact zW_ret w_S13 (zrl rfl)
abbrev mA_X8_sumHair : List Nat := [21]
abbrev mO_X8_sumHair : List (Nat × Int) := [(17, 10)]
set_option maxHeartbeats 4000000 in
set_option maxRecDepth 20000 in
theorem W_J_X8_sumHair_74 {k15 : Int → HS → zO2} {v1 : Int} {S : HS} (hk15 : ∀ (w0 : Int) (S : HS), rng w0 → WR shF S → zW mA_X8_sumHair mO_X8_sumHair rng S (k15 w0 S)) (r_v1 : rng v1) (w_S : WR shF S) : zW mA_X8_sumHair mO_X8_sumHair rng S (J_X8_sumHair_74 k15 v1 S) := by
  unfold J_X8_sumHair_74
  refine zW_zl (fun x8 r_x8 => ?_)
  exact hk15 _ _ r_x8 w_S
set_option maxHeartbeats 4000000 in
set_option maxRecDepth 20000 in
theorem W_L_X8_sumHair_15   : ∀ (n : Nat) {v1 : Int} {S : HS}, rng v1 → WR shF S → zW mA_X8_sumHair mO_X8_sumHair rng S (L_X8_sumHair_15  n v1 S) := by
  intro n
  induction n with
  | zero =>
    intro _ _ _ _
    exact zW_none
  | succ n ih =>
    intro v1 S r_v1 w_S
    rw [L_X8_sumHair_15.eq_2]
    refine zW_ite ?_ ?_
    · exact zW_ret w_S (zrl rfl)
    · refine zW_zg ?_
      refine zW_ite ?_ ?_
      · refine zW_zl (fun x14 r_x14 => ?_)
        refine zW_upO w_S sw_17 (by decide) r_x14 (fun S15 w_S15 => ?_)
        exact W_J_X8_sumHair_74 (fun q0_ T_ r_q0_ w_T_ => ih r_q0_ w_T_) r_v1 w_S15
      · refine zW_zg ?_
        refine zW_ite ?_ ?_
        · exact W_J_X8_sumHair_74 (fun q0_ T_ r_q0_ w_T_ => ih r_q0_ w_T_) r_v1 w_S
        · refine zW_zg ?_
          refine zW_zb (W_M_X2_hairsAt r_v1 w_S) (by decide) (by decide) (fun r10 S11 r_r10 w_S11 => ?_)
          refine zW_zb (W_M_X8_addHair (w_S 19 _ sw_19 v1) r_r10 w_S11) (by decide) (by decide) (fun _ S13 _ w_S13 => ?_)
          exact W_J_X8_sumHair_74 (fun q0_ T_ r_q0_ w_T_ => ih r_q0_ w_T_) r_v1 w_S13
set_option maxHeartbeats 4000000 in
set_option maxRecDepth 20000 in
theorem W_M_X8_sumHair {S : HS} (w_S : WR shF S) : zW mA_X8_sumHair mO_X8_sumHair rng S (M_X8_sumHair S) := by
  unfold M_X8_sumHair
  refine zW_fill w_S sw_21 (by decide) (zrl rfl) (fun S1 w_S1 => ?_)
  refine zW_upO w_S1 sw_17 (by decide) (zrl rfl) (fun S2 w_S2 => ?_)
  exact W_L_X8_sumHair_15 _ (zrl rfl) w_S2
abbrev mA_X8_settle : List Nat := [18, 19, 20, 21, 22]
abbrev mO_X8_settle : List (Nat × Int) := [(17, 8), (17, 9), (17, 10)]
set_option maxHeartbeats 4000000 in
set_option maxRecDepth 20000 in
theorem W_M_X8_settle {S : HS} (w_S : WR shF S) : zW mA_X8_settle mO_X8_settle rng S (M_X8_settle S) := by
  unfold M_X8_settle
  refine zW_zb (W_M_X8_nameRegions w_S) (by decide) (by decide) (fun _ S2 _ w_S2 => ?_)
  refine zW_zb (W_M_X8_takeHair w_S2) (by decide) (by decide) (fun _ S4 _ w_S4 => ?_)
  refine zW_zb (W_M_X8_sumHair w_S4) (by decide) (by decide) (fun _ S6 _ w_S6 => ?_)
  exact zW_ret w_S6 (zrl rfl)
abbrev mA_X6_sizeIn : List Nat := []
abbrev mO_X6_sizeIn : List (Nat × Int) := []
set_option maxHeartbeats 4000000 in
set_option maxRecDepth 20000 in
theorem W_M_X6_sizeIn {a1 : Int} {S : HS} (r_a1 : rng a1) (w_S : WR shF S) : zW mA_X6_sizeIn mO_X6_sizeIn rng S (M_X6_sizeIn a1 S) := by
  unfold M_X6_sizeIn
  refine zW_zb (W_M_X6_has r_a1 w_S) (by decide) (by decide) (fun r1 S2 r_r1 w_S2 => ?_)
  refine zW_ite ?_ ?_
  · exact zW_ret w_S2 (zrl rfl)
  · refine zW_zg ?_
    exact zW_ret w_S2 (w_S2 10 _ sw_10 a1)
abbrev mA_X8_hairsBy : List Nat := []
abbrev mO_X8_hairsBy : List (Nat × Int) := []
set_option maxHeartbeats 4000000 in
set_option maxRecDepth 20000 in
theorem W_M_X8_hairsBy {a1 : Int} {S : HS} (r_a1 : rng a1) (w_S : WR shF S) : zW mA_X8_hairsBy mO_X8_hairsBy rng S (M_X8_hairsBy a1 S) := by
  unfold M_X8_hairsBy
  refine zW_zb (W_M_X11_isCell r_a1 w_S) (by decide) (by decide) (fun r1 S2 r_r1 w_S2 => ?_)
  refine zW_ite ?_ ?_
  · exact zW_ret w_S2 (zrl rfl)
  · refine zW_zg ?_
    exact zW_ret w_S2 (w_S2 21 _ sw_21 a1)
abbrev mA_X6_addedIn : List Nat := []
abbrev mO_X6_addedIn : List (Nat × Int) := []
set_option maxHeartbeats 4000000 in
set_option maxRecDepth 20000 in
theorem W_M_X6_addedIn {a1 : Int} {S : HS} (r_a1 : rng a1) (w_S : WR shF S) : zW mA_X6_addedIn mO_X6_addedIn rng S (M_X6_addedIn a1 S) := by
  unfold M_X6_addedIn
  refine zW_zb (W_M_X11_isCell r_a1 w_S) (by decide) (by decide) (fun r1 S2 r_r1 w_S2 => ?_)
  refine zW_ite ?_ ?_
  · exact zW_ret w_S2 (zrl rfl)
  · refine zW_zg ?_
    exact zW_ret w_S2 (w_S2 12 _ sw_12 a1)
abbrev mA_X0_keepWeights : List Nat := [29, 30, 31]
abbrev mO_X0_keepWeights : List (Nat × Int) := []
set_option maxHeartbeats 4000000 in
set_option maxRecDepth 20000 in
theorem W_M_X0_keepWeights {a1 : Int} {a2 : Int} {a3 : Int} {a4 : Int} {S : HS} (r_a1 : rng a1) (r_a2 : rng a2) (r_a3 : rng a3) (r_a4 : rng a4) (w_S : WR shF S) : zW mA_X0_keepWeights mO_X0_keepWeights rng S (M_X0_keepWeights a1 a2 a3 a4 S) := by
  unfold M_X0_keepWeights
  refine zW_zb (W_M_X11_isCell r_a1 w_S) (by decide) (by decide) (fun r1 S2 r_r1 w_S2 => ?_)
  refine zW_ite ?_ ?_
  · exact zW_ret w_S2 (zrl rfl)
  · refine zW_zg ?_
    refine zW_up w_S2 sw_29 (by decide) r_a2 (fun S5 w_S5 => ?_)
    refine zW_zg ?_
    refine zW_up w_S5 sw_30 (by decide) r_a3 (fun S7 w_S7 => ?_)
    refine zW_zg ?_
    refine zW_up w_S7 sw_31 (by decide) r_a4 (fun S9 w_S9 => ?_)
    exact zW_ret w_S9 (zrl rfl)
abbrev mA_X0_thirdOf : List Nat := []
abbrev mO_X0_thirdOf : List (Nat × Int) := []
set_option maxHeartbeats 4000000 in
set_option maxRecDepth 20000 in
theorem W_M_X0_thirdOf {a1 : Int} {a2 : Int} {S : HS} (r_a1 : rng a1) (r_a2 : rng a2) (w_S : WR shF S) : zW mA_X0_thirdOf mO_X0_thirdOf rng S (M_X0_thirdOf a1 a2 S) := by
  unfold M_X0_thirdOf
  refine zW_zl (fun x1 r_x1 => ?_)
  refine zW_zg ?_
  refine zW_zl (fun x3 r_x3 => ?_)
  exact zW_ret w_S r_x3
abbrev mA_X0_weigh : List Nat := [29, 30, 31]
abbrev mO_X0_weigh : List (Nat × Int) := []
set_option maxHeartbeats 4000000 in
set_option maxRecDepth 20000 in
theorem W_J_X0_weigh_131 {k10 : Int → Int → Int → Int → HS → zO2} {v1 : Int} {v2 : Int} {v3 : Int} {v4 : Int} {v5 : Int} {v6 : Int} {S : HS} (hk10 : ∀ (w0 w1 w2 w3 : Int) (S : HS), rng w0 → rng w1 → rng w2 → rng w3 → WR shF S → zW mA_X0_weigh mO_X0_weigh rng S (k10 w0 w1 w2 w3 S)) (r_v1 : rng v1) (r_v2 : rng v2) (r_v3 : rng v3) (r_v4 : rng v4) (r_v5 : rng v5) (r_v6 : rng v6) (w_S : WR shF S) : zW mA_X0_weigh mO_X0_weigh rng S (J_X0_weigh_131 k10 v1 v2 v3 v4 v5 v6 S) := by
  unfold J_X0_weigh_131
  refine zW_zb (W_M_X0_keepWeights r_v6 r_v2 r_v3 r_v4 w_S) (by decide) (by decide) (fun _ S16 _ w_S16 => ?_)
  refine zW_zl (fun x17 r_x17 => ?_)
  exact hk10 _ _ _ _ _ r_v2 r_v3 r_v4 r_x17 w_S16
set_option maxHeartbeats 4000000 in
set_option maxRecDepth 20000 in
theorem W_L_X0_weigh_10 {p1 : Int} (r_p1 : rng p1) : ∀ (n : Nat) {v2 : Int} {v3 : Int} {v4 : Int} {v5 : Int} {S : HS}, rng v2 → rng v3 → rng v4 → rng v5 → WR shF S → zW mA_X0_weigh mO_X0_weigh rng S (L_X0_weigh_10 p1 n v2 v3 v4 v5 S) := by
  intro n
  induction n with
  | zero =>
    intro _ _ _ _ _ _ _ _ _ _
    exact zW_none
  | succ n ih =>
    intro v2 v3 v4 v5 S r_v2 r_v3 r_v4 r_v5 w_S
    rw [L_X0_weigh_10.eq_2]
    refine zW_zb (W_M_X6_sizeIn r_p1 w_S) (by decide) (by decide) (fun r1 S2 r_r1 w_S2 => ?_)
    refine zW_ite ?_ ?_
    · exact zW_ret w_S2 (zrl rfl)
    · refine zW_zb (W_M_X6_cellIn r_p1 r_v5 w_S2) (by decide) (by decide) (fun r4 S5 r_r4 w_S5 => ?_)
      refine zW_zb (W_M_X8_hairsBy r_r4 w_S5) (by decide) (by decide) (fun r6 S7 r_r6 w_S7 => ?_)
      refine zW_zb (W_M_X6_addedIn r_r4 w_S7) (by decide) (by decide) (fun r8 S9 r_r8 w_S9 => ?_)
      refine zW_ite ?_ ?_
      · refine zW_zb (W_M_X0_thirdOf r_r6 (zrl rfl) w_S9) (by decide) (by decide) (fun r19 S20 r_r19 w_S20 => ?_)
        refine zW_zl (fun x21 r_x21 => ?_)
        refine zW_zb (W_M_X0_thirdOf r_r6 (zrl rfl) w_S20) (by decide) (by decide) (fun r22 S23 r_r22 w_S23 => ?_)
        refine zW_zb (W_M_X0_thirdOf r_r6 (zrl rfl) w_S23) (by decide) (by decide) (fun r24 S25 r_r24 w_S25 => ?_)
        exact W_J_X0_weigh_131 (fun q0_ q1_ q2_ q3_ T_ r_q0_ r_q1_ r_q2_ r_q3_ w_T_ => ih r_q0_ r_q1_ r_q2_ r_q3_ w_T_) r_p1 r_x21 r_r22 r_r24 r_v5 r_r4 w_S25
      · refine zW_zg ?_
        refine zW_zl (fun x12 r_x12 => ?_)
        refine zW_ite ?_ ?_
        · refine zW_zl (fun x18 r_x18 => ?_)
          exact W_J_X0_weigh_131 (fun q0_ q1_ q2_ q3_ T_ r_q0_ r_q1_ r_q2_ r_q3_ w_T_ => ih r_q0_ r_q1_ r_q2_ r_q3_ w_T_) r_p1 r_v3 r_x18 r_v4 r_v5 r_r4 w_S9
        · refine zW_zl (fun x14 r_x14 => ?_)
          exact W_J_X0_weigh_131 (fun q0_ q1_ q2_ q3_ T_ r_q0_ r_q1_ r_q2_ r_q3_ w_T_ => ih r_q0_ r_q1_ r_q2_ r_q3_ w_T_) r_p1 r_v2 r_x14 r_v3 r_v5 r_r4 w_S9
set_option maxHeartbeats 4000000 in
set_option maxRecDepth 20000 in
theorem W_M_X0_weigh {a1 : Int} {S : HS} (r_a1 : rng a1) (w_S : WR shF S) : zW mA_X0_weigh mO_X0_weigh rng S (M_X0_weigh a1 S) := by
  unfold M_X0_weigh
  exact W_L_X0_weigh_10 r_a1 _ (zrl rfl) (zrl rfl) (zrl rfl) (zrl rfl) w_S
abbrev mA_X0_settle : List Nat := [29, 30, 31]
abbrev mO_X0_settle : List (Nat × Int) := []
set_option maxHeartbeats 4000000 in
set_option maxRecDepth 20000 in
theorem W_L_X0_settle_2   : ∀ (n : Nat) {v1 : Int} {S : HS}, rng v1 → WR shF S → zW mA_X0_settle mO_X0_settle rng S (L_X0_settle_2  n v1 S) := by
  intro n
  induction n with
  | zero =>
    intro _ _ _ _
    exact zW_none
  | succ n ih =>
    intro v1 S r_v1 w_S
    rw [L_X0_settle_2.eq_2]
    refine zW_ite ?_ ?_
    · exact zW_ret w_S (zrl rfl)
    · refine zW_zb (W_M_X0_weigh r_v1 w_S) (by decide) (by decide) (fun _ S3 _ w_S3 => ?_)
      refine zW_zl (fun x4 r_x4 => ?_)
      exact ih r_x4 w_S3
set_option maxHeartbeats 4000000 in
set_option maxRecDepth 20000 in
theorem W_M_X0_settle {S : HS} (w_S : WR shF S) : zW mA_X0_settle mO_X0_settle rng S (M_X0_settle S) := by
  unfold M_X0_settle
  exact W_L_X0_settle_2 _ (zrl rfl) w_S
abbrev mA_X11_settle : List Nat := [18, 19, 20, 21, 22, 29, 30, 31]
abbrev mO_X11_settle : List (Nat × Int) := [(17, 8), (17, 9), (17, 10)]
set_option maxHeartbeats 4000000 in
set_option maxRecDepth 20000 in
theorem W_M_X11_settle {S : HS} (w_S : WR shF S) : zW mA_X11_settle mO_X11_settle rng S (M_X11_settle S) := by
  unfold M_X11_settle
  refine zW_zb (W_M_X8_settle w_S) (by decide) (by decide) (fun _ S2 _ w_S2 => ?_)
  refine zW_zb (W_M_X0_settle w_S2) (by decide) (by decide) (fun _ S4 _ w_S4 => ?_)
  exact zW_ret w_S4 (zrl rfl)
abbrev mA_X11_cell : List Nat := [2, 18, 19, 20, 21, 22, 29, 30, 31]
abbrev mO_X11_cell : List (Nat × Int) := [(17, 8), (17, 9), (17, 10)]
set_option maxHeartbeats 4000000 in
set_option maxRecDepth 20000 in
theorem W_M_X11_cell {a1 : Int} {a2 : Int} {a3 : Int} {S : HS} (r_a1 : rng a1) (r_a2 : rng a2) (r_a3 : rng a3) (w_S : WR shF S) : zW mA_X11_cell mO_X11_cell rng S (M_X11_cell a1 a2 a3 S) := by
  unfold M_X11_cell
  refine zW_zb (W_M_X11_cellAt r_a1 r_a2 w_S) (by decide) (by decide) (fun r1 S2 r_r1 w_S2 => ?_)
  refine zW_ite ?_ ?_
  · exact zW_ret w_S2 (zrl rfl)
  · refine zW_ite ?_ ?_
    · exact zW_ret w_S2 (zrl rfl)
    · refine zW_ite ?_ ?_
      · exact zW_ret w_S2 (zrl rfl)
      · refine zW_zb (W_M_X11_isUntouched w_S2) (by decide) (by decide) (fun r6 S7 r_r6 w_S7 => ?_)
        refine zW_ite ?_ ?_
        · exact zW_ret w_S7 (zrl rfl)
        · refine zW_zb (W_M_X2_putHairs r_r1 r_a3 w_S7) (by decide) (by decide) (fun _ S10 _ w_S10 => ?_)
          refine zW_zb (W_M_X11_settle w_S10) (by decide) (by decide) (fun _ S12 _ w_S12 => ?_)
          exact zW_ret w_S12 (zrl rfl)
abbrev mA_X11_isLength : List Nat := []
abbrev mO_X11_isLength : List (Nat × Int) := []
set_option maxHeartbeats 4000000 in
set_option maxRecDepth 20000 in
theorem W_M_X11_isLength {a1 : Int} {S : HS} (r_a1 : rng a1) (w_S : WR shF S) : zW mA_X11_isLength mO_X11_isLength rng S (M_X11_isLength a1 S) := by
  unfold M_X11_isLength
  refine zW_ite ?_ ?_
  · exact zW_ret w_S (zrl rfl)
  · refine zW_ite ?_ ?_
    · exact zW_ret w_S (zrl rfl)
    · exact zW_ret w_S (zrl rfl)
abbrev mA_X11_length : List Nat := []
abbrev mO_X11_length : List (Nat × Int) := [(1, 1)]
set_option maxHeartbeats 4000000 in
set_option maxRecDepth 20000 in
theorem W_M_X11_length {a1 : Int} {S : HS} (r_a1 : rng a1) (w_S : WR shF S) : zW mA_X11_length mO_X11_length rng S (M_X11_length a1 S) := by
  unfold M_X11_length
  refine zW_zb (W_M_X11_isLength r_a1 w_S) (by decide) (by decide) (fun r1 S2 r_r1 w_S2 => ?_)
  refine zW_ite ?_ ?_
  · exact zW_ret w_S2 (zrl rfl)
  · refine zW_zb (W_M_X11_isUntouched w_S2) (by decide) (by decide) (fun r4 S5 r_r4 w_S5 => ?_)
    refine zW_ite ?_ ?_
    · exact zW_ret w_S5 (zrl rfl)
    · refine zW_upO w_S5 sw_1 (by decide) r_a1 (fun S7 w_S7 => ?_)
      exact zW_ret w_S7 (zrl rfl)
abbrev mA_X9_putSigns : List Nat := [41]
abbrev mO_X9_putSigns : List (Nat × Int) := [(40, 1)]
set_option maxHeartbeats 4000000 in
set_option maxRecDepth 20000 in
theorem W_J_X9_putSigns_82 {k3 : Int → HS → zO2} {v1 : Int} {v3 : Int} {S : HS} (hk3 : ∀ (w0 : Int) (S : HS), rng w0 → WR shF S → zW mA_X9_putSigns mO_X9_putSigns rng S (k3 w0 S)) (r_v1 : rng6 v1) (r_v3 : rng v3) (w_S : WR shF S) : zW mA_X9_putSigns mO_X9_putSigns rng S (J_X9_putSigns_82 k3 v1 v3 S) := by
  unfold J_X9_putSigns_82
  refine zW_zl (fun x4 r_x4 => ?_)
  exact hk3 _ _ r_x4 w_S
set_option maxHeartbeats 4000000 in
set_option maxRecDepth 20000 in
theorem W_J_X9_putSigns_43 {k3 : Int → HS → zO2} {v1 : Int} {v3 : Int} {v4 : Int} {t0 : Int} {S : HS} (hk3 : ∀ (w0 : Int) (S : HS), rng w0 → WR shF S → zW mA_X9_putSigns mO_X9_putSigns rng S (k3 w0 S)) (r_v1 : rng6 v1) (r_v3 : rng v3) (r_v4 : rng v4) (r_t0 : rng t0) (w_S : WR shF S) : zW mA_X9_putSigns mO_X9_putSigns rng S (J_X9_putSigns_43 k3 v1 v3 v4 t0 S) := by
  unfold J_X9_putSigns_43
  refine zW_ite ?_ ?_
  · exact W_J_X9_putSigns_82 hk3 r_v1 r_v3 w_S
  · refine zW_ite ?_ ?_
    · exact W_J_X9_putSigns_82 hk3 r_v1 r_v3 w_S
    · refine zW_zg ?_
      refine zW_zg ?_
      refine zW_up w_S sw_41 (by decide) zi2c_r (fun S8 w_S8 => ?_)
      refine zW_zl (fun x9 r_x9 => ?_)
      refine zW_upO w_S8 sw_40 (by decide) r_x9 (fun S10 w_S10 => ?_)
      exact W_J_X9_putSigns_82 hk3 r_v1 r_v3 w_S10
set_option maxHeartbeats 4000000 in
set_option maxRecDepth 20000 in
theorem W_J_X9_putSigns_38 {k3 : Int → HS → zO2} {v1 : Int} {v3 : Int} {v4 : Int} {S : HS} (hk3 : ∀ (w0 : Int) (S : HS), rng w0 → WR shF S → zW mA_X9_putSigns mO_X9_putSigns rng S (k3 w0 S)) (r_v1 : rng6 v1) (r_v3 : rng v3) (r_v4 : rng v4) (w_S : WR shF S) : zW mA_X9_putSigns mO_X9_putSigns rng S (J_X9_putSigns_38 k3 v1 v3 v4 S) := by
  unfold J_X9_putSigns_38
  exact W_J_X9_putSigns_43 hk3 r_v1 r_v3 r_v4 (zrl rfl) w_S
set_option maxHeartbeats 4000000 in
set_option maxRecDepth 20000 in
theorem W_J_X9_putSigns_42 {k3 : Int → HS → zO2} {v1 : Int} {v3 : Int} {v4 : Int} {S : HS} (hk3 : ∀ (w0 : Int) (S : HS), rng w0 → WR shF S → zW mA_X9_putSigns mO_X9_putSigns rng S (k3 w0 S)) (r_v1 : rng6 v1) (r_v3 : rng v3) (r_v4 : rng v4) (w_S : WR shF S) : zW mA_X9_putSigns mO_X9_putSigns rng S (J_X9_putSigns_42 k3 v1 v3 v4 S) := by
  unfold J_X9_putSigns_42
  exact W_J_X9_putSigns_43 hk3 r_v1 r_v3 r_v4 (zrl rfl) w_S
set_option maxHeartbeats 4000000 in
set_option maxRecDepth 20000 in
theorem W_L_X9_putSigns_3 {p1 : Int} (r_p1 : rng6 p1) : ∀ (n : Nat) {v3 : Int} {S : HS}, rng v3 → WR shF S → zW mA_X9_putSigns mO_X9_putSigns rng S (L_X9_putSigns_3 p1 n v3 S) := by
  intro n
  induction n with
  | zero =>
    intro _ _ _ _
    exact zW_none
  | succ n ih =>
    intro v3 S r_v3 w_S
    rw [L_X9_putSigns_3.eq_2]
    refine zW_ite ?_ ?_
    · exact zW_ret w_S (zrl rfl)
    · refine zW_ite ?_ ?_
      · exact W_J_X9_putSigns_38 (fun q0_ T_ r_q0_ w_T_ => ih r_q0_ w_T_) r_p1 r_v3 zand_r w_S
      · refine zW_ite ?_ ?_
        · exact W_J_X9_putSigns_42 (fun q0_ T_ r_q0_ w_T_ => ih r_q0_ w_T_) r_p1 r_v3 zand_r w_S
        · refine zW_ite ?_ ?_
          · exact W_J_X9_putSigns_42 (fun q0_ T_ r_q0_ w_T_ => ih r_q0_ w_T_) r_p1 r_v3 zand_r w_S
          · exact W_J_X9_putSigns_38 (fun q0_ T_ r_q0_ w_T_ => ih r_q0_ w_T_) r_p1 r_v3 zand_r w_S
set_option maxHeartbeats 4000000 in
set_option maxRecDepth 20000 in
theorem W_M_X9_putSigns {a1 : Int} {S : HS} (r_a1 : rng6 a1) (w_S : WR shF S) : zW mA_X9_putSigns mO_X9_putSigns rng S (M_X9_putSigns a1 S) := by
  unfold M_X9_putSigns
  exact W_L_X9_putSigns_3 r_a1 _ (zrl rfl) w_S
abbrev mA_X11_feed : List Nat := [41]
abbrev mO_X11_feed : List (Nat × Int) := [(40, 1)]
set_option maxHeartbeats 4000000 in
set_option maxRecDepth 20000 in
theorem W_M_X11_feed {a1 : Int} {a2 : Int} {a3 : Int} {S : HS} (r_a1 : rng6 a1) (r_a2 : rng6 a2) (r_a3 : rng6 a3) (w_S : WR shF S) : zW mA_X11_feed mO_X11_feed rng S (M_X11_feed a1 a2 a3 S) := by
  unfold M_X11_feed
  refine zW_zb (W_M_X9_putSigns r_a1 w_S) (by decide) (by decide) (fun _ S2 _ w_S2 => ?_)
  refine zW_zb (W_M_X9_putSigns r_a2 w_S2) (by decide) (by decide) (fun _ S4 _ w_S4 => ?_)
  refine zW_zb (W_M_X9_putSigns r_a3 w_S4) (by decide) (by decide) (fun _ S6 _ w_S6 => ?_)
  exact zW_ret w_S6 (w_S6 40 _ sw_40 1)
abbrev mA_X9_signAt : List Nat := []
abbrev mO_X9_signAt : List (Nat × Int) := []
set_option maxHeartbeats 4000000 in
set_option maxRecDepth 20000 in
theorem W_M_X9_signAt {a1 : Int} {S : HS} (r_a1 : rng a1) (w_S : WR shF S) : zW mA_X9_signAt mO_X9_signAt rng S (M_X9_signAt a1 S) := by
  unfold M_X9_signAt
  refine zW_ite ?_ ?_
  · exact zW_ret w_S (zrl rfl)
  · refine zW_ite ?_ ?_
    · exact zW_ret w_S (zrl rfl)
    · refine zW_ite ?_ ?_
      · exact zW_ret w_S (zrl rfl)
      · refine zW_zg ?_
        refine zW_zg ?_
        exact zW_ret w_S (w_S 41 _ sw_41 a1)
abbrev mA_X9_isBlank : List Nat := []
abbrev mO_X9_isBlank : List (Nat × Int) := []
set_option maxHeartbeats 4000000 in
set_option maxRecDepth 20000 in
theorem W_J_X9_isBlank_12 {S : HS} (w_S : WR shF S) : zW mA_X9_isBlank mO_X9_isBlank rng S (J_X9_isBlank_12 S) := by
  unfold J_X9_isBlank_12
  exact zW_ret w_S (zrl rfl)
set_option maxHeartbeats 4000000 in
set_option maxRecDepth 20000 in
theorem W_M_X9_isBlank {a1 : Int} {S : HS} (r_a1 : rng a1) (w_S : WR shF S) : zW mA_X9_isBlank mO_X9_isBlank rng S (M_X9_isBlank a1 S) := by
  unfold M_X9_isBlank
  refine zW_ite ?_ ?_
  · exact W_J_X9_isBlank_12 w_S
  · refine zW_ite ?_ ?_
    · exact W_J_X9_isBlank_12 w_S
    · exact zW_ret w_S (zrl rfl)
abbrev mA_X9_isLetter : List Nat := []
abbrev mO_X9_isLetter : List (Nat × Int) := []
set_option maxHeartbeats 4000000 in
set_option maxRecDepth 20000 in
theorem W_M_X9_isLetter {a1 : Int} {S : HS} (r_a1 : rng a1) (w_S : WR shF S) : zW mA_X9_isLetter mO_X9_isLetter rng S (M_X9_isLetter a1 S) := by
  unfold M_X9_isLetter
  refine zW_ite ?_ ?_
  · exact zW_ret w_S (zrl rfl)
  · refine zW_ite ?_ ?_
    · exact zW_ret w_S (zrl rfl)
    · exact zW_ret w_S (zrl rfl)
abbrev mA_X9_isDigit : List Nat := []
abbrev mO_X9_isDigit : List (Nat × Int) := []
set_option maxHeartbeats 4000000 in
set_option maxRecDepth 20000 in
theorem W_M_X9_isDigit {a1 : Int} {S : HS} (r_a1 : rng a1) (w_S : WR shF S) : zW mA_X9_isDigit mO_X9_isDigit rng S (M_X9_isDigit a1 S) := by
  unfold M_X9_isDigit
  refine zW_ite ?_ ?_
  · exact zW_ret w_S (zrl rfl)
  · refine zW_ite ?_ ?_
    · exact zW_ret w_S (zrl rfl)
    · exact zW_ret w_S (zrl rfl)
theorem zW_zwr {A : List Nat} {O : List (Nat × Int)} {B : Int → Prop} {S : HS} {v : Int} {f : Int → zO2} (h : ∀ x, rng x → zW A O B S (f x)) : zW A O B S (zwr v f) := h _ (z_rngI _)
abbrev mA_X9_readNumber : List Nat := []
abbrev mO_X9_readNumber : List (Nat × Int) := [(40, 2), (40, 3), (40, 5)]
set_option maxHeartbeats 4000000 in
set_option maxRecDepth 20000 in
theorem W_L_X9_readNumber_5 {k66 : HS → zO2} (hk66 : ∀ (S : HS), WR shF S → zW mA_X9_readNumber mO_X9_readNumber rng S (k66 S)) : ∀ (n : Nat) {S : HS}, WR shF S → zW mA_X9_readNumber mO_X9_readNumber rng S (L_X9_readNumber_5 k66 n  S) := by
  intro n
  induction n with
  | zero =>
    intro  _ _
    exact zW_none
  | succ n ih =>
    intro  S  w_S
    rw [L_X9_readNumber_5.eq_2]
    refine zW_ite ?_ ?_
    · exact hk66 _ w_S
    · refine zW_zb (W_M_X9_signAt (w_S 40 _ sw_40 2) w_S) (by decide) (by decide) (fun r3 S4 r_r3 w_S4 => ?_)
      refine zW_zb (W_M_X9_isDigit r_r3 w_S4) (by decide) (by decide) (fun r5 S6 r_r5 w_S6 => ?_)
      refine zW_ite ?_ ?_
      · exact hk66 _ w_S6
      · refine zW_zb (W_M_X9_signAt (w_S6 40 _ sw_40 2) w_S6) (by decide) (by decide) (fun r8 S9 r_r8 w_S9 => ?_)
        refine zW_zwr (fun x10 r_x10 => ?_)
        refine zW_upO w_S9 sw_40 (by decide) r_x10 (fun S11 w_S11 => ?_)
        refine zW_zl (fun x12 r_x12 => ?_)
        refine zW_upO w_S11 sw_40 (by decide) r_x12 (fun S13 w_S13 => ?_)
        exact ih w_S13
set_option maxHeartbeats 4000000 in
set_option maxRecDepth 20000 in
theorem W_J_X9_readNumber_87 {t0 : Int} {S : HS} (r_t0 : rng t0) (w_S : WR shF S) : zW mA_X9_readNumber mO_X9_readNumber rng S (J_X9_readNumber_87 t0 S) := by
  unfold J_X9_readNumber_87
  refine zW_upO w_S sw_40 (by decide) r_t0 (fun S17 w_S17 => ?_)
  exact zW_ret w_S17 (zrl rfl)
set_option maxHeartbeats 4000000 in
set_option maxRecDepth 20000 in
theorem W_J_X9_readNumber_66 {S : HS} (w_S : WR shF S) : zW mA_X9_readNumber mO_X9_readNumber rng S (J_X9_readNumber_66 S) := by
  unfold J_X9_readNumber_66
  refine zW_zl (fun x15 r_x15 => ?_)
  refine zW_ite ?_ ?_
  · exact W_J_X9_readNumber_87 (zrl rfl) w_S
  · exact W_J_X9_readNumber_87 (zrl rfl) w_S
set_option maxHeartbeats 4000000 in
set_option maxRecDepth 20000 in
theorem W_M_X9_readNumber {S : HS} (w_S : WR shF S) : zW mA_X9_readNumber mO_X9_readNumber rng S (M_X9_readNumber S) := by
  unfold M_X9_readNumber
  refine zW_upO w_S sw_40 (by decide) (zrl rfl) (fun S1 w_S1 => ?_)
  exact W_L_X9_readNumber_5 (fun S14  w_S14 => by
          exact W_J_X9_readNumber_66 w_S14) _ w_S1
abbrev mA_X9_isWord : List Nat := []
abbrev mO_X9_isWord : List (Nat × Int) := []
set_option maxHeartbeats 4000000 in
set_option maxRecDepth 20000 in
theorem W_L_X9_isWord_32 {w : Nat} {p2 : Int} (r_p2 : rng p2) : ∀ (n : Nat) {v3 : Int} {S : HS}, rng v3 → WR shF S → zW mA_X9_isWord mO_X9_isWord rng S (L_X9_isWord_32 w p2 n v3 S) := by
  intro n
  induction n with
  | zero =>
    intro _ _ _ _
    exact zW_none
  | succ n ih =>
    intro v3 S r_v3 w_S
    rw [L_X9_isWord_32.eq_2]
    refine zW_ite ?_ ?_
    · exact zW_ret w_S (zrl rfl)
    · refine zW_zg ?_
      refine zW_zg ?_
      refine zW_ite ?_ ?_
      · refine zW_zl (fun x8 r_x8 => ?_)
        exact ih r_x8 w_S
      · exact zW_ret w_S (zrl rfl)
set_option maxHeartbeats 4000000 in
set_option maxRecDepth 20000 in
theorem W_M_X9_isWord {w : Nat} {S : HS} (w_S : WR shF S) : zW mA_X9_isWord mO_X9_isWord rng S (M_X9_isWord w S) := by
  unfold M_X9_isWord
  refine zW_zl (fun x1 r_x1 => ?_)
  refine zW_ite ?_ ?_
  · refine zW_ite ?_ ?_
    · exact W_L_X9_isWord_32 zlenI_r _ (zrl rfl) w_S
    · exact zW_ret w_S (zrl rfl)
  · exact zW_ret w_S (zrl rfl)
abbrev mA_X9_readWord : List Nat := []
abbrev mO_X9_readWord : List (Nat × Int) := [(40, 2), (40, 3)]
set_option maxHeartbeats 4000000 in
set_option maxRecDepth 20000 in
theorem W_L_X9_readWord_0 {k38 : HS → zO2} (hk38 : ∀ (S : HS), WR shF S → zW mA_X9_readWord mO_X9_readWord rng S (k38 S)) : ∀ (n : Nat) {S : HS}, WR shF S → zW mA_X9_readWord mO_X9_readWord rng S (L_X9_readWord_0 k38 n  S) := by
  intro n
  induction n with
  | zero =>
    intro  _ _
    exact zW_none
  | succ n ih =>
    intro  S  w_S
    rw [L_X9_readWord_0.eq_2]
    refine zW_ite ?_ ?_
    · exact hk38 _ w_S
    · refine zW_zb (W_M_X9_signAt (w_S 40 _ sw_40 2) w_S) (by decide) (by decide) (fun r2 S3 r_r2 w_S3 => ?_)
      refine zW_zb (W_M_X9_isLetter r_r2 w_S3) (by decide) (by decide) (fun r4 S5 r_r4 w_S5 => ?_)
      refine zW_ite ?_ ?_
      · exact hk38 _ w_S5
      · refine zW_zl (fun x7 r_x7 => ?_)
        refine zW_upO w_S5 sw_40 (by decide) r_x7 (fun S8 w_S8 => ?_)
        exact ih w_S8
set_option maxHeartbeats 4000000 in
set_option maxRecDepth 20000 in
theorem W_J_X9_readWord_175 {t0 : Int} {S : HS} (r_t0 : rng t0) (w_S : WR shF S) : zW mA_X9_readWord mO_X9_readWord rng S (J_X9_readWord_175 t0 S) := by
  unfold J_X9_readWord_175
  refine zW_upO w_S sw_40 (by decide) r_t0 (fun S34 w_S34 => ?_)
  exact zW_ret w_S34 (zrl rfl)
set_option maxHeartbeats 4000000 in
set_option maxRecDepth 20000 in
theorem W_J_X9_readWord_38 {S : HS} (w_S : WR shF S) : zW mA_X9_readWord mO_X9_readWord rng S (J_X9_readWord_38 S) := by
  unfold J_X9_readWord_38
  refine zW_zb (W_M_X9_isWord w_S) (by decide) (by decide) (fun r10 S11 r_r10 w_S11 => ?_)
  refine zW_ite ?_ ?_
  · refine zW_zb (W_M_X9_isWord w_S11) (by decide) (by decide) (fun r13 S14 r_r13 w_S14 => ?_)
    refine zW_ite ?_ ?_
    · refine zW_zb (W_M_X9_isWord w_S14) (by decide) (by decide) (fun r16 S17 r_r16 w_S17 => ?_)
      refine zW_ite ?_ ?_
      · refine zW_zb (W_M_X9_isWord w_S17) (by decide) (by decide) (fun r19 S20 r_r19 w_S20 => ?_)
        refine zW_ite ?_ ?_
        · refine zW_zb (W_M_X9_isWord w_S20) (by decide) (by decide) (fun r22 S23 r_r22 w_S23 => ?_)
          refine zW_ite ?_ ?_
          · refine zW_zb (W_M_X9_isWord w_S23) (by decide) (by decide) (fun r25 S26 r_r25 w_S26 => ?_)
            refine zW_ite ?_ ?_
            · refine zW_zb (W_M_X9_isWord w_S26) (by decide) (by decide) (fun r28 S29 r_r28 w_S29 => ?_)
              refine zW_ite ?_ ?_
              · refine zW_zb (W_M_X9_isWord w_S29) (by decide) (by decide) (fun r31 S32 r_r31 w_S32 => ?_)
                refine zW_ite ?_ ?_
                · exact W_J_X9_readWord_175 (zrl rfl) w_S32
                · exact W_J_X9_readWord_175 (zrl rfl) w_S32
              · refine zW_upO w_S29 sw_40 (by decide) (zrl rfl) (fun S35 w_S35 => ?_)
                exact zW_ret w_S35 (zrl rfl)
            · refine zW_upO w_S26 sw_40 (by decide) (zrl rfl) (fun S36 w_S36 => ?_)
              exact zW_ret w_S36 (zrl rfl)
          · refine zW_upO w_S23 sw_40 (by decide) (zrl rfl) (fun S37 w_S37 => ?_)
            exact zW_ret w_S37 (zrl rfl)
        · refine zW_upO w_S20 sw_40 (by decide) (zrl rfl) (fun S38 w_S38 => ?_)
          exact zW_ret w_S38 (zrl rfl)
      · refine zW_upO w_S17 sw_40 (by decide) (zrl rfl) (fun S39 w_S39 => ?_)
        exact zW_ret w_S39 (zrl rfl)
    · refine zW_upO w_S14 sw_40 (by decide) (zrl rfl) (fun S40 w_S40 => ?_)
      exact zW_ret w_S40 (zrl rfl)
  · refine zW_upO w_S11 sw_40 (by decide) (zrl rfl) (fun S41 w_S41 => ?_)
    exact zW_ret w_S41 (zrl rfl)
set_option maxHeartbeats 4000000 in
set_option maxRecDepth 20000 in
theorem W_M_X9_readWord {S : HS} (w_S : WR shF S) : zW mA_X9_readWord mO_X9_readWord rng S (M_X9_readWord S) := by
  unfold M_X9_readWord
  exact W_L_X9_readWord_0 (fun S9  w_S9 => by
          exact W_J_X9_readWord_38 w_S9) _ w_S
abbrev mA_X9_next : List Nat := []
abbrev mO_X9_next : List (Nat × Int) := [(40, 2), (40, 3), (40, 4), (40, 5)]
set_option maxHeartbeats 4000000 in
set_option maxRecDepth 20000 in
theorem W_L_X9_next_0 {k38 : HS → zO2} (hk38 : ∀ (S : HS), WR shF S → zW mA_X9_next mO_X9_next rng S (k38 S)) : ∀ (n : Nat) {S : HS}, WR shF S → zW mA_X9_next mO_X9_next rng S (L_X9_next_0 k38 n  S) := by
  intro n
  induction n with
  | zero =>
    intro  _ _
    exact zW_none
  | succ n ih =>
    intro  S  w_S
    rw [L_X9_next_0.eq_2]
    refine zW_ite ?_ ?_
    · exact hk38 _ w_S
    · refine zW_zb (W_M_X9_signAt (w_S 40 _ sw_40 2) w_S) (by decide) (by decide) (fun r2 S3 r_r2 w_S3 => ?_)
      refine zW_zb (W_M_X9_isBlank r_r2 w_S3) (by decide) (by decide) (fun r4 S5 r_r4 w_S5 => ?_)
      refine zW_ite ?_ ?_
      · exact hk38 _ w_S5
      · refine zW_zl (fun x7 r_x7 => ?_)
        refine zW_upO w_S5 sw_40 (by decide) r_x7 (fun S8 w_S8 => ?_)
        exact ih w_S8
set_option maxHeartbeats 4000000 in
set_option maxRecDepth 20000 in
theorem W_J_X9_next_149 {t0 : Int} {S : HS} (r_t0 : rng t0) (w_S : WR shF S) : zW mA_X9_next mO_X9_next rng S (J_X9_next_149 t0 S) := by
  unfold J_X9_next_149
  refine zW_upO w_S sw_40 (by decide) r_t0 (fun S25 w_S25 => ?_)
  exact zW_ret w_S25 (zrl rfl)
set_option maxHeartbeats 4000000 in
set_option maxRecDepth 20000 in
theorem W_J_X9_next_38 {S : HS} (w_S : WR shF S) : zW mA_X9_next mO_X9_next rng S (J_X9_next_38 S) := by
  unfold J_X9_next_38
  refine zW_upO w_S sw_40 (by decide) (w_S 40 _ sw_40 2) (fun S10 w_S10 => ?_)
  refine zW_zb (W_M_X9_signAt (w_S10 40 _ sw_40 2) w_S10) (by decide) (by decide) (fun r11 S12 r_r11 w_S12 => ?_)
  refine zW_ite ?_ ?_
  · refine zW_zb (W_M_X9_isLetter r_r11 w_S12) (by decide) (by decide) (fun r14 S15 r_r14 w_S15 => ?_)
    refine zW_ite ?_ ?_
    · refine zW_zb (W_M_X9_isDigit r_r11 w_S15) (by decide) (by decide) (fun r17 S18 r_r17 w_S18 => ?_)
      refine zW_ite ?_ ?_
      · refine zW_zl (fun x20 r_x20 => ?_)
        refine zW_upO w_S18 sw_40 (by decide) r_x20 (fun S21 w_S21 => ?_)
        refine zW_ite ?_ ?_
        · exact W_J_X9_next_149 (zrl rfl) w_S21
        · refine zW_ite ?_ ?_
          · exact W_J_X9_next_149 (zrl rfl) w_S21
          · refine zW_ite ?_ ?_
            · exact W_J_X9_next_149 (zrl rfl) w_S21
            · exact W_J_X9_next_149 (zrl rfl) w_S21
      · refine zW_zb (W_M_X9_readNumber w_S18) (by decide) (by decide) (fun _ S27 _ w_S27 => ?_)
        exact zW_ret w_S27 (zrl rfl)
    · refine zW_zb (W_M_X9_readWord w_S15) (by decide) (by decide) (fun _ S29 _ w_S29 => ?_)
      exact zW_ret w_S29 (zrl rfl)
  · refine zW_upO w_S12 sw_40 (by decide) (zrl rfl) (fun S30 w_S30 => ?_)
    exact zW_ret w_S30 (zrl rfl)
set_option maxHeartbeats 4000000 in
set_option maxRecDepth 20000 in
theorem W_M_X9_next {S : HS} (w_S : WR shF S) : zW mA_X9_next mO_X9_next rng S (M_X9_next S) := by
  unfold M_X9_next
  exact W_L_X9_next_0 (fun S9  w_S9 => by
          exact W_J_X9_next_38 w_S9) _ w_S
abbrev mA_X9_rewind : List Nat := []
abbrev mO_X9_rewind : List (Nat × Int) := [(40, 2), (40, 3), (40, 4), (40, 5)]
set_option maxHeartbeats 4000000 in
set_option maxRecDepth 20000 in
theorem W_M_X9_rewind {S : HS} (w_S : WR shF S) : zW mA_X9_rewind mO_X9_rewind rng S (M_X9_rewind S) := by
  unfold M_X9_rewind
  refine zW_upO w_S sw_40 (by decide) (zrl rfl) (fun S1 w_S1 => ?_)
  refine zW_zb (W_M_X9_next w_S1) (by decide) (by decide) (fun _ S3 _ w_S3 => ?_)
  exact zW_ret w_S3 (zrl rfl)
abbrev mA_X7_put : List Nat := [43]
abbrev mO_X7_put : List (Nat × Int) := [(42, 3)]
set_option maxHeartbeats 4000000 in
set_option maxRecDepth 20000 in
theorem W_M_X7_put {a1 : Int} {S : HS} (r_a1 : rng a1) (w_S : WR shF S) : zW mA_X7_put mO_X7_put rng S (M_X7_put a1 S) := by
  unfold M_X7_put
  refine zW_ite ?_ ?_
  · exact zW_ret w_S (zrl rfl)
  · refine zW_zg ?_
    refine zW_up w_S sw_43 (by decide) r_a1 (fun S3 w_S3 => ?_)
    refine zW_zl (fun x4 r_x4 => ?_)
    refine zW_upO w_S3 sw_42 (by decide) r_x4 (fun S5 w_S5 => ?_)
    exact zW_ret w_S5 (zrl rfl)
abbrev mA_X7_tellFault : List Nat := []
abbrev mO_X7_tellFault : List (Nat × Int) := [(42, 5)]
set_option maxHeartbeats 4000000 in
set_option maxRecDepth 20000 in
theorem W_M_X7_tellFault {a1 : Int} {S : HS} (r_a1 : rng a1) (w_S : WR shF S) : zW mA_X7_tellFault mO_X7_tellFault rng S (M_X7_tellFault a1 S) := by
  unfold M_X7_tellFault
  refine zW_ite ?_ ?_
  · refine zW_zl (fun x2 r_x2 => ?_)
    refine zW_upO w_S sw_42 (by decide) r_x2 (fun S3 w_S3 => ?_)
    exact zW_ret w_S3 (zrl rfl)
  · exact zW_ret w_S (zrl rfl)
abbrev mA_X7_readNumber : List Nat := [43]
abbrev mO_X7_readNumber : List (Nat × Int) := [(40, 2), (40, 3), (40, 4), (40, 5), (42, 3), (42, 5)]
set_option maxHeartbeats 4000000 in
set_option maxRecDepth 20000 in
theorem W_J_X7_readNumber_47 {S : HS} (w_S : WR shF S) : zW mA_X7_readNumber mO_X7_readNumber rng S (J_X7_readNumber_47 S) := by
  unfold J_X7_readNumber_47
  refine zW_ite ?_ ?_
  · refine zW_zb (W_M_X7_put (w_S 40 _ sw_40 5) w_S) (by decide) (by decide) (fun _ S7 _ w_S7 => ?_)
    refine zW_zb (W_M_X9_next w_S7) (by decide) (by decide) (fun _ S9 _ w_S9 => ?_)
    exact zW_ret w_S9 (zrl rfl)
  · exact zW_ret w_S (zrl rfl)
set_option maxHeartbeats 4000000 in
set_option maxRecDepth 20000 in
theorem W_J_X7_readNumber_42 {S : HS} (w_S : WR shF S) : zW mA_X7_readNumber mO_X7_readNumber rng S (J_X7_readNumber_42 S) := by
  unfold J_X7_readNumber_42
  refine zW_zb (W_M_X7_tellFault (zrl rfl) w_S) (by decide) (by decide) (fun _ S4 _ w_S4 => ?_)
  exact W_J_X7_readNumber_47 w_S4
set_option maxHeartbeats 4000000 in
set_option maxRecDepth 20000 in
theorem W_M_X7_readNumber {a1 : Int} {a2 : Int} {S : HS} (r_a1 : rng a1) (r_a2 : rng a2) (w_S : WR shF S) : zW mA_X7_readNumber mO_X7_readNumber rng S (M_X7_readNumber a1 a2 S) := by
  unfold M_X7_readNumber
  refine zW_ite ?_ ?_
  · refine zW_ite ?_ ?_
    · exact W_J_X7_readNumber_42 w_S
    · refine zW_ite ?_ ?_
      · exact W_J_X7_readNumber_47 w_S
      · exact W_J_X7_readNumber_42 w_S
  · refine zW_zb (W_M_X7_tellFault (zrl rfl) w_S) (by decide) (by decide) (fun _ S12 _ w_S12 => ?_)
    exact W_J_X7_readNumber_47 w_S12
abbrev mA_X7_readWay : List Nat := [43]
abbrev mO_X7_readWay : List (Nat × Int) := [(40, 2), (40, 3), (40, 4), (40, 5), (42, 3), (42, 5)]
set_option maxHeartbeats 4000000 in
set_option maxRecDepth 20000 in
theorem W_J_X7_readWay_16 {S : HS} (w_S : WR shF S) : zW mA_X7_readWay mO_X7_readWay rng S (J_X7_readWay_16 S) := by
  unfold J_X7_readWay_16
  refine zW_ite ?_ ?_
  · refine zW_zb (W_M_X7_put (w_S 40 _ sw_40 3) w_S) (by decide) (by decide) (fun _ S4 _ w_S4 => ?_)
    refine zW_zb (W_M_X9_next w_S4) (by decide) (by decide) (fun _ S6 _ w_S6 => ?_)
    refine zW_zb (W_M_X7_readNumber (zrl rfl) (zrl rfl) w_S6) (by decide) (by decide) (fun _ S8 _ w_S8 => ?_)
    exact zW_ret w_S8 (zrl rfl)
  · exact zW_ret w_S (zrl rfl)
set_option maxHeartbeats 4000000 in
set_option maxRecDepth 20000 in
theorem W_M_X7_readWay {S : HS} (w_S : WR shF S) : zW mA_X7_readWay mO_X7_readWay rng S (M_X7_readWay S) := by
  unfold M_X7_readWay
  refine zW_ite ?_ ?_
  · exact W_J_X7_readWay_16 w_S
  · refine zW_zb (W_M_X7_tellFault (zrl rfl) w_S) (by decide) (by decide) (fun _ S10 _ w_S10 => ?_)
    exact W_J_X7_readWay_16 w_S10
abbrev mA_X7_expect : List Nat := []
abbrev mO_X7_expect : List (Nat × Int) := [(40, 2), (40, 3), (40, 4), (40, 5), (42, 5)]
set_option maxHeartbeats 4000000 in
set_option maxRecDepth 20000 in
theorem W_J_X7_expect_16 {S : HS} (w_S : WR shF S) : zW mA_X7_expect mO_X7_expect rng S (J_X7_expect_16 S) := by
  unfold J_X7_expect_16
  refine zW_ite ?_ ?_
  · refine zW_zb (W_M_X9_next w_S) (by decide) (by decide) (fun _ S4 _ w_S4 => ?_)
    exact zW_ret w_S4 (zrl rfl)
  · exact zW_ret w_S (zrl rfl)
set_option maxHeartbeats 4000000 in
set_option maxRecDepth 20000 in
theorem W_M_X7_expect {a1 : Int} {S : HS} (r_a1 : rng a1) (w_S : WR shF S) : zW mA_X7_expect mO_X7_expect rng S (M_X7_expect a1 S) := by
  unfold M_X7_expect
  refine zW_ite ?_ ?_
  · exact W_J_X7_expect_16 w_S
  · refine zW_zb (W_M_X7_tellFault (zrl rfl) w_S) (by decide) (by decide) (fun _ S6 _ w_S6 => ?_)
    exact W_J_X7_expect_16 w_S6
abbrev mA_X7_readLine : List Nat := [43]
abbrev mO_X7_readLine : List (Nat × Int) := [(40, 2), (40, 3), (40, 4), (40, 5), (42, 3), (42, 5)]
set_option maxHeartbeats 4000000 in
set_option maxRecDepth 20000 in
theorem W_L_X7_readLine_47 {k84 : Int → HS → zO2} {p3 : Int} (hk84 : ∀ (w0 : Int) (S : HS), rng w0 → WR shF S → zW mA_X7_readLine mO_X7_readLine rng S (k84 w0 S)) (r_p3 : rng p3) : ∀ (n : Nat) {v4 : Int} {S : HS}, rng v4 → WR shF S → zW mA_X7_readLine mO_X7_readLine rng S (L_X7_readLine_47 k84 p3 n v4 S) := by
  intro n
  induction n with
  | zero =>
    intro _ _ _ _
    exact zW_none
  | succ n ih =>
    intro v4 S r_v4 w_S
    rw [L_X7_readLine_47.eq_2]
    refine zW_ite ?_ ?_
    · exact hk84 _ _ r_v4 w_S
    · refine zW_ite ?_ ?_
      · refine zW_ite ?_ ?_
        · exact hk84 _ _ r_v4 w_S
        · refine zW_zb (W_M_X7_readWay w_S) (by decide) (by decide) (fun _ S17 _ w_S17 => ?_)
          refine zW_zl (fun x18 r_x18 => ?_)
          exact ih r_x18 w_S17
      · exact hk84 _ _ r_v4 w_S
set_option maxHeartbeats 4000000 in
set_option maxRecDepth 20000 in
theorem W_J_X7_readLine_99 {S : HS} (w_S : WR shF S) : zW mA_X7_readLine mO_X7_readLine rng S (J_X7_readLine_99 S) := by
  unfold J_X7_readLine_99
  refine zW_zb (W_M_X7_expect (zrl rfl) w_S) (by decide) (by decide) (fun _ S22 _ w_S22 => ?_)
  exact zW_ret w_S22 (zrl rfl)
set_option maxHeartbeats 4000000 in
set_option maxRecDepth 20000 in
theorem W_J_X7_readLine_84 {v3 : Int} {v4 : Int} {S : HS} (r_v3 : rng v3) (r_v4 : rng v4) (w_S : WR shF S) : zW mA_X7_readLine mO_X7_readLine rng S (J_X7_readLine_84 v3 v4 S) := by
  unfold J_X7_readLine_84
  refine zW_ite ?_ ?_
  · exact W_J_X7_readLine_99 w_S
  · refine zW_zg ?_
    refine zW_up w_S sw_43 (by decide) r_v4 (fun S24 w_S24 => ?_)
    exact W_J_X7_readLine_99 w_S24
set_option maxHeartbeats 4000000 in
set_option maxRecDepth 20000 in
theorem W_M_X7_readLine {a1 : Int} {a2 : Int} {S : HS} (r_a1 : rng a1) (r_a2 : rng a2) (w_S : WR shF S) : zW mA_X7_readLine mO_X7_readLine rng S (M_X7_readLine a1 a2 S) := by
  unfold M_X7_readLine
  refine zW_zb (W_M_X7_put (w_S 40 _ sw_40 3) w_S) (by decide) (by decide) (fun _ S2 _ w_S2 => ?_)
  refine zW_zb (W_M_X9_next w_S2) (by decide) (by decide) (fun _ S4 _ w_S4 => ?_)
  refine zW_zb (W_M_X7_readNumber (zrl rfl) r_a1 w_S4) (by decide) (by decide) (fun _ S6 _ w_S6 => ?_)
  refine zW_zb (W_M_X7_readNumber (zrl rfl) r_a2 w_S6) (by decide) (by decide) (fun _ S8 _ w_S8 => ?_)
  refine zW_zb (W_M_X7_put (zrl rfl) w_S8) (by decide) (by decide) (fun _ S10 _ w_S10 => ?_)
  refine zW_zb (W_M_X7_readWay w_S10) (by decide) (by decide) (fun _ S12 _ w_S12 => ?_)
  exact W_L_X7_readLine_47 (fun e4 S19 r_e4 w_S19 => by
          exact W_J_X7_readLine_84 (w_S8 42 _ sw_42 3) r_e4 w_S19) (w_S8 42 _ sw_42 3) _ (zrl rfl) w_S12
abbrev mA_X7_readOpening : List Nat := [43, 44]
abbrev mO_X7_readOpening : List (Nat × Int) := [(40, 2), (40, 3), (40, 4), (40, 5), (42, 3), (42, 4), (42, 5)]
set_option maxHeartbeats 4000000 in
set_option maxRecDepth 20000 in
theorem W_J_X7_readOpening_88 {S : HS} (w_S : WR shF S) : zW mA_X7_readOpening mO_X7_readOpening rng S (J_X7_readOpening_88 S) := by
  unfold J_X7_readOpening_88
  refine zW_zb (W_M_X7_put (zrl rfl) w_S) (by decide) (by decide) (fun _ S13 _ w_S13 => ?_)
  refine zW_zb (W_M_X7_expect (zrl rfl) w_S13) (by decide) (by decide) (fun _ S15 _ w_S15 => ?_)
  exact zW_ret w_S15 (zrl rfl)
set_option maxHeartbeats 4000000 in
set_option maxRecDepth 20000 in
theorem W_J_X7_readOpening_54 {t0 : Int} {S : HS} (r_t0 : rng t0) (w_S : WR shF S) : zW mA_X7_readOpening mO_X7_readOpening rng S (J_X7_readOpening_54 t0 S) := by
  unfold J_X7_readOpening_54
  refine zW_zb (W_M_X7_put (w_S 40 _ sw_40 3) w_S) (by decide) (by decide) (fun _ S8 _ w_S8 => ?_)
  refine zW_zb (W_M_X9_next w_S8) (by decide) (by decide) (fun _ S10 _ w_S10 => ?_)
  refine zW_ite ?_ ?_
  · exact W_J_X7_readOpening_88 w_S10
  · refine zW_zb (W_M_X7_readNumber (zrl rfl) (zrl rfl) w_S10) (by decide) (by decide) (fun _ S17 _ w_S17 => ?_)
    refine zW_zb (W_M_X7_readWay w_S17) (by decide) (by decide) (fun _ S19 _ w_S19 => ?_)
    exact W_J_X7_readOpening_88 w_S19
set_option maxHeartbeats 4000000 in
set_option maxRecDepth 20000 in
theorem W_M_X7_readOpening {S : HS} (w_S : WR shF S) : zW mA_X7_readOpening mO_X7_readOpening rng S (M_X7_readOpening S) := by
  unfold M_X7_readOpening
  refine zW_ite ?_ ?_
  · refine zW_zg ?_
    refine zW_up w_S sw_44 (by decide) (w_S 42 _ sw_42 3) (fun S3 w_S3 => ?_)
    refine zW_zl (fun x4 r_x4 => ?_)
    refine zW_upO w_S3 sw_42 (by decide) r_x4 (fun S5 w_S5 => ?_)
    refine zW_ite ?_ ?_
    · exact W_J_X7_readOpening_54 (zrl rfl) w_S5
    · exact W_J_X7_readOpening_54 (zrl rfl) w_S5
  · refine zW_zb (W_M_X7_tellFault (zrl rfl) w_S) (by decide) (by decide) (fun _ S21 _ w_S21 => ?_)
    exact zW_ret w_S21 (zrl rfl)
abbrev mA_X7_readClosing : List Nat := [43]
abbrev mO_X7_readClosing : List (Nat × Int) := [(40, 2), (40, 3), (40, 4), (40, 5), (42, 3), (42, 4), (42, 5)]
set_option maxHeartbeats 4000000 in
set_option maxRecDepth 20000 in
theorem W_J_X7_readClosing_15 {S : HS} (w_S : WR shF S) : zW mA_X7_readClosing mO_X7_readClosing rng S (J_X7_readClosing_15 S) := by
  unfold J_X7_readClosing_15
  refine zW_zb (W_M_X7_tellFault (zrl rfl) w_S) (by decide) (by decide) (fun _ S3 _ w_S3 => ?_)
  exact zW_ret w_S3 (zrl rfl)
set_option maxHeartbeats 4000000 in
set_option maxRecDepth 20000 in
theorem W_J_X7_readClosing_70 {v1 : Int} {t0 : Int} {t1 : Int} {S : HS} (r_v1 : rng v1) (r_t0 : rng t0) (r_t1 : rng t1) (w_S : WR shF S) : zW mA_X7_readClosing mO_X7_readClosing rng S (J_X7_readClosing_70 v1 t0 t1 S) := by
  unfold J_X7_readClosing_70
  refine zW_zl (fun x15 r_x15 => ?_)
  refine zW_zl (fun x16 r_x16 => ?_)
  refine zW_ite ?_ ?_
  · refine zW_upO w_S sw_42 (by decide) r_v1 (fun S21 w_S21 => ?_)
    exact zW_ret w_S21 (zrl rfl)
  · refine zW_ite ?_ ?_
    · exact zW_ret w_S (zrl rfl)
    · refine zW_zg ?_
      refine zW_up w_S sw_43 (by decide) (w_S 42 _ sw_42 3) (fun S20 w_S20 => ?_)
      exact zW_ret w_S20 (zrl rfl)
set_option maxHeartbeats 4000000 in
set_option maxRecDepth 20000 in
theorem W_M_X7_readClosing {S : HS} (w_S : WR shF S) : zW mA_X7_readClosing mO_X7_readClosing rng S (M_X7_readClosing S) := by
  unfold M_X7_readClosing
  refine zW_ite ?_ ?_
  · exact W_J_X7_readClosing_15 w_S
  · refine zW_ite ?_ ?_
    · refine zW_zb (W_M_X9_next w_S) (by decide) (by decide) (fun _ S6 _ w_S6 => ?_)
      refine zW_zb (W_M_X7_expect (zrl rfl) w_S6) (by decide) (by decide) (fun _ S8 _ w_S8 => ?_)
      refine zW_zl (fun x9 r_x9 => ?_)
      refine zW_upO w_S8 sw_42 (by decide) r_x9 (fun S10 w_S10 => ?_)
      refine zW_zg ?_
      refine zW_zb (W_M_X7_codeAt (w_S10 44 _ sw_44 ( S10 42 4 )) w_S10) (by decide) (by decide) (fun r12 S13 r_r12 w_S13 => ?_)
      refine zW_ite ?_ ?_
      · exact W_J_X7_readClosing_70 (w_S10 44 _ sw_44 ( S10 42 4 )) (zrl rfl) (w_S10 44 _ sw_44 ( S10 42 4 )) w_S13
      · exact W_J_X7_readClosing_70 (w_S10 44 _ sw_44 ( S10 42 4 )) (zrl rfl) (w_S10 44 _ sw_44 ( S10 42 4 )) w_S13
    · exact W_J_X7_readClosing_15 w_S
abbrev mA_X7_read : List Nat := [43, 44]
abbrev mO_X7_read : List (Nat × Int) := [(40, 2), (40, 3), (40, 4), (40, 5), (42, 3), (42, 4), (42, 5)]
set_option maxHeartbeats 4000000 in
set_option maxRecDepth 20000 in
theorem W_J_X7_read_149 {k24 : Int → HS → zO2} {v1 : Int} {S : HS} (hk24 : ∀ (w0 : Int) (S : HS), rng w0 → WR shF S → zW mA_X7_read mO_X7_read rng S (k24 w0 S)) (r_v1 : rng v1) (w_S : WR shF S) : zW mA_X7_read mO_X7_read rng S (J_X7_read_149 k24 v1 S) := by
  unfold J_X7_read_149
  refine zW_zl (fun x12 r_x12 => ?_)
  exact hk24 _ _ r_x12 w_S
set_option maxHeartbeats 4000000 in
set_option maxRecDepth 20000 in
theorem W_J_X7_read_57 {k24 : Int → HS → zO2} {v1 : Int} {S : HS} (hk24 : ∀ (w0 : Int) (S : HS), rng w0 → WR shF S → zW mA_X7_read mO_X7_read rng S (k24 w0 S)) (r_v1 : rng v1) (w_S : WR shF S) : zW mA_X7_read mO_X7_read rng S (J_X7_read_57 k24 v1 S) := by
  unfold J_X7_read_57
  refine zW_ite ?_ ?_
  · refine zW_zb (W_M_X7_readLine (zrl rfl) (zrl rfl) w_S) (by decide) (by decide) (fun _ S11 _ w_S11 => ?_)
    exact W_J_X7_read_149 hk24 r_v1 w_S11
  · refine zW_ite ?_ ?_
    · refine zW_zb (W_M_X7_readLine (zrl rfl) (zrl rfl) w_S) (by decide) (by decide) (fun _ S15 _ w_S15 => ?_)
      exact W_J_X7_read_149 hk24 r_v1 w_S15
    · refine zW_ite ?_ ?_
      · refine zW_zb (W_M_X7_readOpening w_S) (by decide) (by decide) (fun _ S18 _ w_S18 => ?_)
        exact W_J_X7_read_149 hk24 r_v1 w_S18
      · refine zW_ite ?_ ?_
        · refine zW_zb (W_M_X7_readOpening w_S) (by decide) (by decide) (fun _ S21 _ w_S21 => ?_)
          exact W_J_X7_read_149 hk24 r_v1 w_S21
        · refine zW_ite ?_ ?_
          · refine zW_zb (W_M_X7_tellFault (zrl rfl) w_S) (by decide) (by decide) (fun _ S24 _ w_S24 => ?_)
            exact W_J_X7_read_149 hk24 r_v1 w_S24
          · refine zW_ite ?_ ?_
            · refine zW_zb (W_M_X7_tellFault (zrl rfl) w_S) (by decide) (by decide) (fun _ S27 _ w_S27 => ?_)
              exact W_J_X7_read_149 hk24 r_v1 w_S27
            · refine zW_ite ?_ ?_
              · refine zW_zb (W_M_X7_readClosing w_S) (by decide) (by decide) (fun _ S30 _ w_S30 => ?_)
                exact W_J_X7_read_149 hk24 r_v1 w_S30
              · refine zW_zb (W_M_X7_tellFault (zrl rfl) w_S) (by decide) (by decide) (fun _ S32 _ w_S32 => ?_)
                exact W_J_X7_read_149 hk24 r_v1 w_S32
set_option maxHeartbeats 4000000 in
set_option maxRecDepth 20000 in
theorem W_L_X7_read_24 {k155 : HS → zO2} (hk155 : ∀ (S : HS), WR shF S → zW mA_X7_read mO_X7_read rng S (k155 S)) : ∀ (n : Nat) {v1 : Int} {S : HS}, rng v1 → WR shF S → zW mA_X7_read mO_X7_read rng S (L_X7_read_24 k155 n v1 S) := by
  intro n
  induction n with
  | zero =>
    intro _ _ _ _
    exact zW_none
  | succ n ih =>
    intro v1 S r_v1 w_S
    rw [L_X7_read_24.eq_2]
    refine zW_ite ?_ ?_
    · exact hk155 _ w_S
    · refine zW_ite ?_ ?_
      · refine zW_ite ?_ ?_
        · exact W_J_X7_read_57 (fun q0_ T_ r_q0_ w_T_ => ih r_q0_ w_T_) r_v1 w_S
        · refine zW_ite ?_ ?_
          · exact hk155 _ w_S
          · exact W_J_X7_read_57 (fun q0_ T_ r_q0_ w_T_ => ih r_q0_ w_T_) r_v1 w_S
      · exact hk155 _ w_S
set_option maxHeartbeats 4000000 in
set_option maxRecDepth 20000 in
theorem W_J_X7_read_155 {S : HS} (w_S : WR shF S) : zW mA_X7_read mO_X7_read rng S (J_X7_read_155 S) := by
  unfold J_X7_read_155
  exact zW_ret w_S (w_S 42 _ sw_42 5)
set_option maxHeartbeats 4000000 in
set_option maxRecDepth 20000 in
theorem W_M_X7_read {S : HS} (w_S : WR shF S) : zW mA_X7_read mO_X7_read rng S (M_X7_read S) := by
  unfold M_X7_read
  refine zW_upO w_S sw_42 (by decide) (zrl rfl) (fun S1 w_S1 => ?_)
  refine zW_upO w_S1 sw_42 (by decide) (zrl rfl) (fun S2 w_S2 => ?_)
  refine zW_upO w_S2 sw_42 (by decide) (zrl rfl) (fun S3 w_S3 => ?_)
  refine zW_zb (W_M_X9_rewind w_S3) (by decide) (by decide) (fun _ S5 _ w_S5 => ?_)
  exact W_L_X7_read_24 (fun S34  w_S34 => by
          exact W_J_X7_read_155 w_S34) _ (zrl rfl) w_S5
abbrev mA_X9_clear : List Nat := []
abbrev mO_X9_clear : List (Nat × Int) := [(40, 1)]
set_option maxHeartbeats 4000000 in
set_option maxRecDepth 20000 in
theorem W_M_X9_clear {S : HS} (w_S : WR shF S) : zW mA_X9_clear mO_X9_clear rng S (M_X9_clear S) := by
  unfold M_X9_clear
  refine zW_upO w_S sw_40 (by decide) (zrl rfl) (fun S1 w_S1 => ?_)
  exact zW_ret w_S1 (zrl rfl)
abbrev mA_X5_cutTo : List Nat := [4]
abbrev mO_X5_cutTo : List (Nat × Int) := [(3, 3)]
set_option maxHeartbeats 4000000 in
set_option maxRecDepth 20000 in
theorem W_J_X5_cutTo_26 {k2 : Int → HS → zO2} {v1 : Int} {v2 : Int} {S : HS} (hk2 : ∀ (w0 : Int) (S : HS), rng w0 → WR shF S → zW mA_X5_cutTo mO_X5_cutTo rng S (k2 w0 S)) (r_v1 : rng v1) (r_v2 : rng v2) (w_S : WR shF S) : zW mA_X5_cutTo mO_X5_cutTo rng S (J_X5_cutTo_26 k2 v1 v2 S) := by
  unfold J_X5_cutTo_26
  refine zW_zl (fun x4 r_x4 => ?_)
  exact hk2 _ _ r_x4 w_S
set_option maxHeartbeats 4000000 in
set_option maxRecDepth 20000 in
theorem W_L_X5_cutTo_2 {k32 : HS → zO2} {p1 : Int} (hk32 : ∀ (S : HS), WR shF S → zW mA_X5_cutTo mO_X5_cutTo rng S (k32 S)) (r_p1 : rng p1) : ∀ (n : Nat) {v2 : Int} {S : HS}, rng v2 → WR shF S → zW mA_X5_cutTo mO_X5_cutTo rng S (L_X5_cutTo_2 k32 p1 n v2 S) := by
  intro n
  induction n with
  | zero =>
    intro _ _ _ _
    exact zW_none
  | succ n ih =>
    intro v2 S r_v2 w_S
    rw [L_X5_cutTo_2.eq_2]
    refine zW_ite ?_ ?_
    · exact hk32 _ w_S
    · refine zW_zg ?_
      refine zW_ite ?_ ?_
      · exact W_J_X5_cutTo_26 (fun q0_ T_ r_q0_ w_T_ => ih r_q0_ w_T_) r_p1 r_v2 w_S
      · refine zW_zg ?_
        refine zW_up w_S sw_4 (by decide) (zrl rfl) (fun S6 w_S6 => ?_)
        exact W_J_X5_cutTo_26 (fun q0_ T_ r_q0_ w_T_ => ih r_q0_ w_T_) r_p1 r_v2 w_S6
set_option maxHeartbeats 4000000 in
set_option maxRecDepth 20000 in
theorem W_M_X5_cutTo {a1 : Int} {S : HS} (r_a1 : rng a1) (w_S : WR shF S) : zW mA_X5_cutTo mO_X5_cutTo rng S (M_X5_cutTo a1 S) := by
  unfold M_X5_cutTo
  exact W_L_X5_cutTo_2 (fun S7  w_S7 => by
          refine zW_upO w_S7 sw_3 (by decide) r_a1 (fun S8 w_S8 => ?_)
          exact zW_ret w_S8 (zrl rfl)) r_a1 _ (zrl rfl) w_S
abbrev mA_X6_cutTo : List Nat := [11]
abbrev mO_X6_cutTo : List (Nat × Int) := [(7, 11)]
set_option maxHeartbeats 4000000 in
set_option maxRecDepth 20000 in
theorem W_J_X6_cutTo_30 {k2 : Int → HS → zO2} {v1 : Int} {v2 : Int} {S : HS} (hk2 : ∀ (w0 : Int) (S : HS), rng w0 → WR shF S → zW mA_X6_cutTo mO_X6_cutTo rng S (k2 w0 S)) (r_v1 : rng v1) (r_v2 : rng v2) (w_S : WR shF S) : zW mA_X6_cutTo mO_X6_cutTo rng S (J_X6_cutTo_30 k2 v1 v2 S) := by
  unfold J_X6_cutTo_30
  refine zW_zl (fun x5 r_x5 => ?_)
  exact hk2 _ _ r_x5 w_S
set_option maxHeartbeats 4000000 in
set_option maxRecDepth 20000 in
theorem W_L_X6_cutTo_2 {k36 : HS → zO2} {p1 : Int} (hk36 : ∀ (S : HS), WR shF S → zW mA_X6_cutTo mO_X6_cutTo rng S (k36 S)) (r_p1 : rng p1) : ∀ (n : Nat) {v2 : Int} {S : HS}, rng v2 → WR shF S → zW mA_X6_cutTo mO_X6_cutTo rng S (L_X6_cutTo_2 k36 p1 n v2 S) := by
  intro n
  induction n with
  | zero =>
    intro _ _ _ _
    exact zW_none
  | succ n ih =>
    intro v2 S r_v2 w_S
    rw [L_X6_cutTo_2.eq_2]
    refine zW_ite ?_ ?_
    · exact hk36 _ w_S
    · refine zW_zg ?_
      refine zW_zl (fun x3 r_x3 => ?_)
      refine zW_ite ?_ ?_
      · exact W_J_X6_cutTo_30 (fun q0_ T_ r_q0_ w_T_ => ih r_q0_ w_T_) r_p1 r_v2 w_S
      · refine zW_zg ?_
        refine zW_up w_S sw_11 (by decide) (zrl rfl) (fun S7 w_S7 => ?_)
        exact W_J_X6_cutTo_30 (fun q0_ T_ r_q0_ w_T_ => ih r_q0_ w_T_) r_p1 r_v2 w_S7
set_option maxHeartbeats 4000000 in
set_option maxRecDepth 20000 in
theorem W_M_X6_cutTo {a1 : Int} {S : HS} (r_a1 : rng a1) (w_S : WR shF S) : zW mA_X6_cutTo mO_X6_cutTo rng S (M_X6_cutTo a1 S) := by
  unfold M_X6_cutTo
  exact W_L_X6_cutTo_2 (fun S8  w_S8 => by
          refine zW_upO w_S8 sw_7 (by decide) r_a1 (fun S9 w_S9 => ?_)
          exact zW_ret w_S9 (zrl rfl)) r_a1 _ (zrl rfl) w_S
abbrev mA_X4_drawProgram : List Nat := [4, 5, 6, 8, 9, 10, 11, 13, 14, 15, 16, 47, 48, 49, 50]
abbrev mO_X4_drawProgram : List (Nat × Int) := [(3, 3), (7, 11), (45, 6), (45, 7), (45, 8), (46, 2), (46, 3), (46, 4), (46, 5), (46, 6), (46, 7), (46, 8)]
set_option maxHeartbeats 4000000 in
set_option maxRecDepth 20000 in
theorem W_J_X4_drawProgram_115 {S : HS} (w_S : WR shF S) : zW mA_X4_drawProgram mO_X4_drawProgram rng S (J_X4_drawProgram_115 S) := by
  unfold J_X4_drawProgram_115
  exact zW_ret w_S (w_S 45 _ sw_45 8)
set_option maxHeartbeats 4000000 in
set_option maxRecDepth 20000 in
theorem W_M_X4_drawProgram {S : HS} (w_S : WR shF S) : zW mA_X4_drawProgram mO_X4_drawProgram rng S (M_X4_drawProgram S) := by
  unfold M_X4_drawProgram
  refine zW_upO w_S sw_45 (by decide) (zrl rfl) (fun S1 w_S1 => ?_)
  refine zW_upO w_S1 sw_45 (by decide) (zrl rfl) (fun S2 w_S2 => ?_)
  refine zW_zb (W_M_X4_drawSteps _ (zrl rfl) (w_S2 42 _ sw_42 3) (zrl rfl) (zrl rfl) (zrl rfl) (zrl rfl) w_S2) (by decide) (by decide) (fun _ S4 _ w_S4 => ?_)
  refine zW_ite ?_ ?_
  · refine zW_ite ?_ ?_
    · exact W_J_X4_drawProgram_115 w_S4
    · refine zW_ite ?_ ?_
      · exact W_J_X4_drawProgram_115 w_S4
      · refine zW_zg ?_
        refine zW_up w_S4 sw_49 (by decide) (w_S 3 _ sw_3 3) (fun S9 w_S9 => ?_)
        refine zW_zg ?_
        refine zW_up w_S9 sw_50 (by decide) (w_S 7 _ sw_7 11) (fun S11 w_S11 => ?_)
        refine zW_zl (fun x12 r_x12 => ?_)
        refine zW_upO w_S11 sw_45 (by decide) r_x12 (fun S13 w_S13 => ?_)
        exact W_J_X4_drawProgram_115 w_S13
  · refine zW_zb (W_M_X5_cutTo (w_S 3 _ sw_3 3) w_S4) (by decide) (by decide) (fun _ S15 _ w_S15 => ?_)
    refine zW_zb (W_M_X6_cutTo (w_S 7 _ sw_7 11) w_S15) (by decide) (by decide) (fun _ S17 _ w_S17 => ?_)
    exact W_J_X4_drawProgram_115 w_S17
abbrev mA_X11_draw : List Nat := [4, 5, 6, 8, 9, 10, 11, 13, 14, 15, 16, 18, 19, 20, 21, 22, 29, 30, 31, 43, 44, 47, 48, 49, 50]
abbrev mO_X11_draw : List (Nat × Int) := [(3, 3), (7, 11), (17, 8), (17, 9), (17, 10), (40, 1), (40, 2), (40, 3), (40, 4), (40, 5), (42, 3), (42, 4), (42, 5), (45, 6), (45, 7), (45, 8), (46, 2), (46, 3), (46, 4), (46, 5), (46, 6), (46, 7), (46, 8)]
set_option maxHeartbeats 4000000 in
set_option maxRecDepth 20000 in
theorem W_M_X11_draw {S : HS} (w_S : WR shF S) : zW mA_X11_draw mO_X11_draw rng S (M_X11_draw S) := by
  unfold M_X11_draw
  refine zW_zb (W_M_X7_read w_S) (by decide) (by decide) (fun r1 S2 r_r1 w_S2 => ?_)
  refine zW_zb (W_M_X9_clear w_S2) (by decide) (by decide) (fun _ S4 _ w_S4 => ?_)
  refine zW_ite ?_ ?_
  · refine zW_zb (W_M_X4_drawProgram w_S4) (by decide) (by decide) (fun r6 S7 r_r6 w_S7 => ?_)
    refine zW_ite ?_ ?_
    · refine zW_zb (W_M_X11_settle w_S7) (by decide) (by decide) (fun _ S10 _ w_S10 => ?_)
      exact zW_ret w_S10 (zrl rfl)
    · refine zW_zl (fun x11 r_x11 => ?_)
      exact zW_ret w_S7 r_x11
  · exact zW_ret w_S4 r_r1
abbrev mA_X6_timesAddedTo : List Nat := []
abbrev mO_X6_timesAddedTo : List (Nat × Int) := []
set_option maxHeartbeats 4000000 in
set_option maxRecDepth 20000 in
theorem W_M_X6_timesAddedTo {a1 : Int} {S : HS} (r_a1 : rng a1) (w_S : WR shF S) : zW mA_X6_timesAddedTo mO_X6_timesAddedTo rng S (M_X6_timesAddedTo a1 S) := by
  unfold M_X6_timesAddedTo
  refine zW_zb (W_M_X6_has r_a1 w_S) (by decide) (by decide) (fun r1 S2 r_r1 w_S2 => ?_)
  refine zW_ite ?_ ?_
  · exact zW_ret w_S2 (zrl rfl)
  · refine zW_zg ?_
    exact zW_ret w_S2 (w_S2 13 _ sw_13 a1)
abbrev mA_X6_knotWith : List Nat := []
abbrev mO_X6_knotWith : List (Nat × Int) := []
set_option maxHeartbeats 4000000 in
set_option maxRecDepth 20000 in
theorem W_M_X6_knotWith {a1 : Int} {S : HS} (r_a1 : rng a1) (w_S : WR shF S) : zW mA_X6_knotWith mO_X6_knotWith rng S (M_X6_knotWith a1 S) := by
  unfold M_X6_knotWith
  refine zW_zb (W_M_X6_has r_a1 w_S) (by decide) (by decide) (fun r1 S2 r_r1 w_S2 => ?_)
  refine zW_ite ?_ ?_
  · exact zW_ret w_S2 (zrl rfl)
  · refine zW_zg ?_
    exact zW_ret w_S2 (w_S2 14 _ sw_14 a1)
abbrev mA_X6_isTied : List Nat := []
abbrev mO_X6_isTied : List (Nat × Int) := []
set_option maxHeartbeats 4000000 in
set_option maxRecDepth 20000 in
theorem W_M_X6_isTied {a1 : Int} {S : HS} (r_a1 : rng a1) (w_S : WR shF S) : zW mA_X6_isTied mO_X6_isTied rng S (M_X6_isTied a1 S) := by
  unfold M_X6_isTied
  refine zW_zb (W_M_X6_knotWith r_a1 w_S) (by decide) (by decide) (fun r1 S2 r_r1 w_S2 => ?_)
  refine zW_ite ?_ ?_
  · exact zW_ret w_S2 (zrl rfl)
  · exact zW_ret w_S2 (zrl rfl)
abbrev mA_X4_undoLatest : List Nat := [4, 11]
abbrev mO_X4_undoLatest : List (Nat × Int) := [(3, 3), (7, 11), (45, 6)]
set_option maxHeartbeats 4000000 in
set_option maxRecDepth 20000 in
theorem W_L_X4_undoLatest_44 {k85 : HS → zO2} {p1 : Int} {p2 : Int} (hk85 : ∀ (S : HS), WR shF S → zW mA_X4_undoLatest mO_X4_undoLatest rng S (k85 S)) (r_p1 : rng p1) (r_p2 : rng p2) : ∀ (n : Nat) {v3 : Int} {S : HS}, rng v3 → WR shF S → zW mA_X4_undoLatest mO_X4_undoLatest rng S (L_X4_undoLatest_44 k85 p1 p2 n v3 S) := by
  intro n
  induction n with
  | zero =>
    intro _ _ _ _
    exact zW_none
  | succ n ih =>
    intro v3 S r_v3 w_S
    rw [L_X4_undoLatest_44.eq_2]
    refine zW_ite ?_ ?_
    · exact hk85 _ w_S
    · refine zW_zb (W_M_X6_timesAddedTo r_v3 w_S) (by decide) (by decide) (fun r6 S7 r_r6 w_S7 => ?_)
      refine zW_ite ?_ ?_
      · exact zW_ret w_S7 (zrl rfl)
      · refine zW_zb (W_M_X6_isTied r_v3 w_S7) (by decide) (by decide) (fun r9 S10 r_r9 w_S10 => ?_)
        refine zW_ite ?_ ?_
        · refine zW_zl (fun x12 r_x12 => ?_)
          exact ih r_x12 w_S10
        · exact zW_ret w_S10 (zrl rfl)
set_option maxHeartbeats 4000000 in
set_option maxRecDepth 20000 in
theorem W_M_X4_undoLatest {S : HS} (w_S : WR shF S) : zW mA_X4_undoLatest mO_X4_undoLatest rng S (M_X4_undoLatest S) := by
  unfold M_X4_undoLatest
  refine zW_ite ?_ ?_
  · exact zW_ret w_S (zrl rfl)
  · refine zW_ite ?_ ?_
    · refine zW_zg ?_
      refine zW_zg ?_
      exact W_L_X4_undoLatest_44 (fun S13  w_S13 => by
              refine zW_zl (fun x14 r_x14 => ?_)
              refine zW_zb (W_M_X5_cutTo (w_S 49 _ sw_49 ( ( S 45 6 ) - 1 )) w_S13) (by decide) (by decide) (fun _ S16 _ w_S16 => ?_)
              refine zW_zb (W_M_X6_cutTo (w_S 50 _ sw_50 ( ( S 45 6 ) - 1 )) w_S16) (by decide) (by decide) (fun _ S18 _ w_S18 => ?_)
              refine zW_zl (fun x19 r_x19 => ?_)
              refine zW_upO w_S18 sw_45 (by decide) r_x19 (fun S20 w_S20 => ?_)
              exact zW_ret w_S20 r_x14) (w_S 49 _ sw_49 ( ( S 45 6 ) - 1 )) (w_S 50 _ sw_50 ( ( S 45 6 ) - 1 )) _ (w_S 50 _ sw_50 ( ( S 45 6 ) - 1 )) w_S
    · exact zW_ret w_S (zrl rfl)
abbrev mA_X11_takeBack : List Nat := [4, 11, 18, 19, 20, 21, 22, 29, 30, 31]
abbrev mO_X11_takeBack : List (Nat × Int) := [(3, 3), (7, 11), (17, 8), (17, 9), (17, 10), (45, 6)]
set_option maxHeartbeats 4000000 in
set_option maxRecDepth 20000 in
theorem W_M_X11_takeBack {S : HS} (w_S : WR shF S) : zW mA_X11_takeBack mO_X11_takeBack rng S (M_X11_takeBack S) := by
  unfold M_X11_takeBack
  refine zW_zb (W_M_X4_undoLatest w_S) (by decide) (by decide) (fun r1 S2 r_r1 w_S2 => ?_)
  refine zW_ite ?_ ?_
  · exact zW_ret w_S2 r_r1
  · refine zW_zb (W_M_X11_settle w_S2) (by decide) (by decide) (fun _ S5 _ w_S5 => ?_)
    exact zW_ret w_S5 r_r1
abbrev mA_X8_regionAt : List Nat := []
abbrev mO_X8_regionAt : List (Nat × Int) := []
set_option maxHeartbeats 4000000 in
set_option maxRecDepth 20000 in
theorem W_M_X8_regionAt {a1 : Int} {S : HS} (r_a1 : rng a1) (w_S : WR shF S) : zW mA_X8_regionAt mO_X8_regionAt rng S (M_X8_regionAt a1 S) := by
  unfold M_X8_regionAt
  refine zW_zb (W_M_X11_isCell r_a1 w_S) (by decide) (by decide) (fun r1 S2 r_r1 w_S2 => ?_)
  refine zW_ite ?_ ?_
  · exact zW_ret w_S2 (zrl rfl)
  · refine zW_zg ?_
    exact zW_ret w_S2 (w_S2 18 _ sw_18 a1)
abbrev mA_X11_region : List Nat := []
abbrev mO_X11_region : List (Nat × Int) := []
set_option maxHeartbeats 4000000 in
set_option maxRecDepth 20000 in
theorem W_M_X11_region {a1 : Int} {a2 : Int} {S : HS} (r_a1 : rng a1) (r_a2 : rng a2) (w_S : WR shF S) : zW mA_X11_region mO_X11_region rng S (M_X11_region a1 a2 S) := by
  unfold M_X11_region
  refine zW_zb (W_M_X11_cellAt r_a1 r_a2 w_S) (by decide) (by decide) (fun r1 S2 r_r1 w_S2 => ?_)
  refine zW_zb (W_M_X8_regionAt r_r1 w_S2) (by decide) (by decide) (fun r3 S4 r_r3 w_S4 => ?_)
  exact zW_ret w_S4 r_r3
abbrev mA_X8_takerAt : List Nat := []
abbrev mO_X8_takerAt : List (Nat × Int) := []
set_option maxHeartbeats 4000000 in
set_option maxRecDepth 20000 in
theorem W_M_X8_takerAt {a1 : Int} {S : HS} (r_a1 : rng a1) (w_S : WR shF S) : zW mA_X8_takerAt mO_X8_takerAt rng S (M_X8_takerAt a1 S) := by
  unfold M_X8_takerAt
  refine zW_zb (W_M_X11_isCell r_a1 w_S) (by decide) (by decide) (fun r1 S2 r_r1 w_S2 => ?_)
  refine zW_ite ?_ ?_
  · exact zW_ret w_S2 (zrl rfl)
  · refine zW_zg ?_
    exact zW_ret w_S2 (w_S2 19 _ sw_19 a1)
abbrev mA_X11_taken : List Nat := []
abbrev mO_X11_taken : List (Nat × Int) := []
set_option maxHeartbeats 4000000 in
set_option maxRecDepth 20000 in
theorem W_M_X11_taken {a1 : Int} {a2 : Int} {S : HS} (r_a1 : rng a1) (r_a2 : rng a2) (w_S : WR shF S) : zW mA_X11_taken mO_X11_taken rng S (M_X11_taken a1 a2 S) := by
  unfold M_X11_taken
  refine zW_zb (W_M_X11_cellAt r_a1 r_a2 w_S) (by decide) (by decide) (fun r1 S2 r_r1 w_S2 => ?_)
  refine zW_zb (W_M_X8_takerAt r_r1 w_S2) (by decide) (by decide) (fun r3 S4 r_r3 w_S4 => ?_)
  exact zW_ret w_S4 r_r3
abbrev mA_X11_side : List Nat := []
abbrev mO_X11_side : List (Nat × Int) := []
set_option maxHeartbeats 4000000 in
set_option maxRecDepth 20000 in
theorem W_M_X11_side {a1 : Int} {a2 : Int} {a3 : Int} {S : HS} (r_a1 : rng a1) (r_a2 : rng a2) (r_a3 : rng a3) (w_S : WR shF S) : zW mA_X11_side mO_X11_side rng S (M_X11_side a1 a2 a3 S) := by
  unfold M_X11_side
  refine zW_zb (W_M_X11_cellAt r_a1 r_a2 w_S) (by decide) (by decide) (fun r1 S2 r_r1 w_S2 => ?_)
  refine zW_ite ?_ ?_
  · exact zW_ret w_S2 (zrl rfl)
  · refine zW_ite ?_ ?_
    · exact zW_ret w_S2 (zrl rfl)
    · refine zW_ite ?_ ?_
      · refine zW_zb (W_M_X5_isParted r_r1 r_a3 w_S2) (by decide) (by decide) (fun r6 S7 r_r6 w_S7 => ?_)
        refine zW_ite ?_ ?_
        · exact zW_ret w_S7 (zrl rfl)
        · exact zW_ret w_S7 (zrl rfl)
      · exact zW_ret w_S2 (zrl rfl)
abbrev mA_X11_row : List Nat := []
abbrev mO_X11_row : List (Nat × Int) := []
set_option maxHeartbeats 4000000 in
set_option maxRecDepth 20000 in
theorem W_M_X11_row {a1 : Int} {a2 : Int} {S : HS} (r_a1 : rng a1) (r_a2 : rng a2) (w_S : WR shF S) : zW mA_X11_row mO_X11_row rng S (M_X11_row a1 a2 S) := by
  unfold M_X11_row
  refine zW_zb (W_M_X6_cellIn r_a1 r_a2 w_S) (by decide) (by decide) (fun r1 S2 r_r1 w_S2 => ?_)
  exact zW_ret w_S2 r_r1
abbrev mA_X3_put : List Nat := [24, 25, 26, 27]
abbrev mO_X3_put : List (Nat × Int) := [(23, 4)]
set_option maxHeartbeats 4000000 in
set_option maxRecDepth 20000 in
theorem W_M_X3_put {a1 : Int} {a2 : Int} {a3 : Int} {a4 : Int} {S : HS} (r_a1 : rng a1) (r_a2 : rng a2) (r_a3 : rng a3) (r_a4 : rng a4) (w_S : WR shF S) : zW mA_X3_put mO_X3_put rng S (M_X3_put a1 a2 a3 a4 S) := by
  unfold M_X3_put
  refine zW_ite ?_ ?_
  · exact zW_ret w_S (zrl rfl)
  · refine zW_zg ?_
    refine zW_up w_S sw_24 (by decide) r_a1 (fun S3 w_S3 => ?_)
    refine zW_zg ?_
    refine zW_up w_S3 sw_25 (by decide) r_a2 (fun S5 w_S5 => ?_)
    refine zW_zg ?_
    refine zW_up w_S5 sw_26 (by decide) r_a3 (fun S7 w_S7 => ?_)
    refine zW_zg ?_
    refine zW_up w_S7 sw_27 (by decide) r_a4 (fun S9 w_S9 => ?_)
    refine zW_zl (fun x10 r_x10 => ?_)
    refine zW_upO w_S9 sw_23 (by decide) r_x10 (fun S11 w_S11 => ?_)
    exact zW_ret w_S11 (zrl rfl)
abbrev mA_X6_noteAdded : List Nat := [12, 13]
abbrev mO_X6_noteAdded : List (Nat × Int) := []
set_option maxHeartbeats 4000000 in
set_option maxRecDepth 20000 in
theorem W_M_X6_noteAdded {a1 : Int} {a2 : Int} {a3 : Int} {S : HS} (r_a1 : rng a1) (r_a2 : rng a2) (r_a3 : rng a3) (w_S : WR shF S) : zW mA_X6_noteAdded mO_X6_noteAdded rng S (M_X6_noteAdded a1 a2 a3 S) := by
  unfold M_X6_noteAdded
  refine zW_zb (W_M_X6_has r_a1 w_S) (by decide) (by decide) (fun r1 S2 r_r1 w_S2 => ?_)
  refine zW_ite ?_ ?_
  · exact zW_ret w_S2 (zrl rfl)
  · refine zW_zb (W_M_X11_isCell r_a2 w_S2) (by decide) (by decide) (fun r4 S5 r_r4 w_S5 => ?_)
    refine zW_ite ?_ ?_
    · exact zW_ret w_S5 (zrl rfl)
    · refine zW_zg ?_
      refine zW_zl (fun x8 r_x8 => ?_)
      refine zW_zg ?_
      refine zW_up w_S5 sw_13 (by decide) r_x8 (fun S10 w_S10 => ?_)
      refine zW_zg ?_
      refine zW_zl (fun x12 r_x12 => ?_)
      refine zW_zg ?_
      refine zW_up w_S10 sw_12 (by decide) r_x12 (fun S14 w_S14 => ?_)
      exact zW_ret w_S14 (zrl rfl)
abbrev mA_X11_added : List Nat := [12, 13, 24, 25, 26, 27, 29, 30, 31]
abbrev mO_X11_added : List (Nat × Int) := [(23, 4)]
set_option maxHeartbeats 4000000 in
set_option maxRecDepth 20000 in
theorem W_J_X11_added_24 {v1 : Int} {v2 : Int} {v3 : Int} {v4 : Int} {t0 : Int} {S : HS} (r_v1 : rng v1) (r_v2 : rng v2) (r_v3 : rng v3) (r_v4 : rng v4) (r_t0 : rng t0) (w_S : WR shF S) : zW mA_X11_added mO_X11_added rng S (J_X11_added_24 v1 v2 v3 v4 t0 S) := by
  unfold J_X11_added_24
  refine zW_zb (W_M_X6_cellIn r_v1 r_v2 w_S) (by decide) (by decide) (fun r2 S3 r_r2 w_S3 => ?_)
  refine zW_ite ?_ ?_
  · exact zW_ret w_S3 (zrl rfl)
  · refine zW_ite ?_ ?_
    · exact zW_ret w_S3 (zrl rfl)
    · refine zW_ite ?_ ?_
      · refine zW_zb (W_M_X3_put r_v1 r_v2 r_v3 r_v4 w_S3) (by decide) (by decide) (fun _ S8 _ w_S8 => ?_)
        refine zW_zb (W_M_X6_noteAdded r_v1 r_r2 r_v3 w_S8) (by decide) (by decide) (fun _ S10 _ w_S10 => ?_)
        refine zW_zb (W_M_X0_settle w_S10) (by decide) (by decide) (fun _ S12 _ w_S12 => ?_)
        exact zW_ret w_S12 (w_S12 23 _ sw_23 4)
      · exact zW_ret w_S3 (zrl rfl)
set_option maxHeartbeats 4000000 in
set_option maxRecDepth 20000 in
theorem W_J_X11_added_23 {v1 : Int} {v2 : Int} {v3 : Int} {v4 : Int} {S : HS} (r_v1 : rng v1) (r_v2 : rng v2) (r_v3 : rng v3) (r_v4 : rng v4) (w_S : WR shF S) : zW mA_X11_added mO_X11_added rng S (J_X11_added_23 v1 v2 v3 v4 S) := by
  unfold J_X11_added_23
  exact W_J_X11_added_24 r_v1 r_v2 r_v3 r_v4 (zrl rfl) w_S
set_option maxHeartbeats 4000000 in
set_option maxRecDepth 20000 in
theorem W_M_X11_added {a1 : Int} {a2 : Int} {a3 : Int} {a4 : Int} {S : HS} (r_a1 : rng a1) (r_a2 : rng a2) (r_a3 : rng a3) (r_a4 : rng a4) (w_S : WR shF S) : zW mA_X11_added mO_X11_added rng S (M_X11_added a1 a2 a3 a4 S) := by
  unfold M_X11_added
  refine zW_ite ?_ ?_
  · exact W_J_X11_added_23 r_a1 r_a2 r_a3 r_a4 w_S
  · refine zW_ite ?_ ?_
    · exact W_J_X11_added_23 r_a1 r_a2 r_a3 r_a4 w_S
    · refine zW_zb (W_M_X11_isLength r_a4 w_S) (by decide) (by decide) (fun r14 S15 r_r14 w_S15 => ?_)
      refine zW_ite ?_ ?_
      · exact W_J_X11_added_23 r_a1 r_a2 r_a3 r_a4 w_S15
      · exact W_J_X11_added_24 r_a1 r_a2 r_a3 r_a4 (zrl rfl) w_S15
abbrev mA_X0_weightAt : List Nat := []
abbrev mO_X0_weightAt : List (Nat × Int) := []
set_option maxHeartbeats 4000000 in
set_option maxRecDepth 20000 in
theorem W_M_X0_weightAt {a1 : Int} {a2 : Int} {S : HS} (r_a1 : rng a1) (r_a2 : rng a2) (w_S : WR shF S) : zW mA_X0_weightAt mO_X0_weightAt rng S (M_X0_weightAt a1 a2 S) := by
  unfold M_X0_weightAt
  refine zW_zb (W_M_X11_isCell r_a1 w_S) (by decide) (by decide) (fun r1 S2 r_r1 w_S2 => ?_)
  refine zW_ite ?_ ?_
  · exact zW_ret w_S2 (zrl rfl)
  · refine zW_ite ?_ ?_
    · refine zW_zg ?_
      exact zW_ret w_S2 (w_S2 29 _ sw_29 a1)
    · refine zW_ite ?_ ?_
      · refine zW_zg ?_
        exact zW_ret w_S2 (w_S2 30 _ sw_30 a1)
      · refine zW_zg ?_
        exact zW_ret w_S2 (w_S2 31 _ sw_31 a1)
abbrev mA_X0_greatestAt : List Nat := []
abbrev mO_X0_greatestAt : List (Nat × Int) := []
set_option maxHeartbeats 4000000 in
set_option maxRecDepth 20000 in
theorem W_M_X0_greatestAt {a1 : Int} {S : HS} (r_a1 : rng a1) (w_S : WR shF S) : zW mA_X0_greatestAt mO_X0_greatestAt rng S (M_X0_greatestAt a1 S) := by
  unfold M_X0_greatestAt
  refine zW_zb (W_M_X0_weightAt r_a1 (zrl rfl) w_S) (by decide) (by decide) (fun r1 S2 r_r1 w_S2 => ?_)
  refine zW_zb (W_M_X0_weightAt r_a1 (zrl rfl) w_S2) (by decide) (by decide) (fun r3 S4 r_r3 w_S4 => ?_)
  refine zW_zb (W_M_X0_weightAt r_a1 (zrl rfl) w_S4) (by decide) (by decide) (fun r5 S6 r_r5 w_S6 => ?_)
  exact zW_ret w_S6 (zmax_r r_r1 (zmax_r r_r3 r_r5))
abbrev mA_X0_leastAt : List Nat := []
abbrev mO_X0_leastAt : List (Nat × Int) := []
set_option maxHeartbeats 4000000 in
set_option maxRecDepth 20000 in
theorem W_M_X0_leastAt {a1 : Int} {S : HS} (r_a1 : rng a1) (w_S : WR shF S) : zW mA_X0_leastAt mO_X0_leastAt rng S (M_X0_leastAt a1 S) := by
  unfold M_X0_leastAt
  refine zW_zb (W_M_X0_weightAt r_a1 (zrl rfl) w_S) (by decide) (by decide) (fun r1 S2 r_r1 w_S2 => ?_)
  refine zW_zb (W_M_X0_weightAt r_a1 (zrl rfl) w_S2) (by decide) (by decide) (fun r3 S4 r_r3 w_S4 => ?_)
  refine zW_zb (W_M_X0_weightAt r_a1 (zrl rfl) w_S4) (by decide) (by decide) (fun r5 S6 r_r5 w_S6 => ?_)
  exact zW_ret w_S6 (zmin_r r_r1 (zmin_r r_r3 r_r5))
abbrev mA_X2_isEdge : List Nat := []
abbrev mO_X2_isEdge : List (Nat × Int) := []
set_option maxHeartbeats 4000000 in
set_option maxRecDepth 20000 in
theorem W_L_X2_isEdge_2 {p1 : Int} (r_p1 : rng p1) : ∀ (n : Nat) {v2 : Int} {S : HS}, rng v2 → WR shF S → zW mA_X2_isEdge mO_X2_isEdge rng S (L_X2_isEdge_2 p1 n v2 S) := by
  intro n
  induction n with
  | zero =>
    intro _ _ _ _
    exact zW_none
  | succ n ih =>
    intro v2 S r_v2 w_S
    rw [L_X2_isEdge_2.eq_2]
    refine zW_ite ?_ ?_
    · exact zW_ret w_S (zrl rfl)
    · refine zW_zb (W_M_X11_cellBeside r_p1 r_v2 w_S) (by decide) (by decide) (fun r2 S3 r_r2 w_S3 => ?_)
      refine zW_zb (W_M_X2_isScalp r_r2 w_S3) (by decide) (by decide) (fun r4 S5 r_r4 w_S5 => ?_)
      refine zW_ite ?_ ?_
      · exact zW_ret w_S5 (zrl rfl)
      · refine zW_zl (fun x7 r_x7 => ?_)
        exact ih r_x7 w_S5
set_option maxHeartbeats 4000000 in
set_option maxRecDepth 20000 in
theorem W_M_X2_isEdge {a1 : Int} {S : HS} (r_a1 : rng a1) (w_S : WR shF S) : zW mA_X2_isEdge mO_X2_isEdge rng S (M_X2_isEdge a1 S) := by
  unfold M_X2_isEdge
  exact W_L_X2_isEdge_2 r_a1 _ (zrl rfl) w_S
abbrev mA_X0_pullAt : List Nat := []
abbrev mO_X0_pullAt : List (Nat × Int) := []
set_option maxHeartbeats 4000000 in
set_option maxRecDepth 20000 in
theorem W_M_X0_pullAt {a1 : Int} {S : HS} (r_a1 : rng a1) (w_S : WR shF S) : zW mA_X0_pullAt mO_X0_pullAt rng S (M_X0_pullAt a1 S) := by
  unfold M_X0_pullAt
  refine zW_zb (W_M_X0_greatestAt r_a1 w_S) (by decide) (by decide) (fun r1 S2 r_r1 w_S2 => ?_)
  refine zW_zb (W_M_X0_leastAt r_a1 w_S2) (by decide) (by decide) (fun r3 S4 r_r3 w_S4 => ?_)
  refine zW_zl (fun x5 r_x5 => ?_)
  refine zW_zb (W_M_X2_isEdge r_a1 w_S4) (by decide) (by decide) (fun r6 S7 r_r6 w_S7 => ?_)
  refine zW_ite ?_ ?_
  · exact zW_ret w_S7 r_x5
  · refine zW_zl (fun x9 r_x9 => ?_)
    exact zW_ret w_S7 r_x9
abbrev mA_X0_greatestPull : List Nat := []
abbrev mO_X0_greatestPull : List (Nat × Int) := []
set_option maxHeartbeats 4000000 in
set_option maxRecDepth 20000 in
theorem W_L_X0_greatestPull_4 {p1 : Int} (r_p1 : rng p1) : ∀ (n : Nat) {v2 : Int} {v3 : Int} {S : HS}, rng v2 → rng v3 → WR shF S → zW mA_X0_greatestPull mO_X0_greatestPull rng S (L_X0_greatestPull_4 p1 n v2 v3 S) := by
  intro n
  induction n with
  | zero =>
    intro _ _ _ _ _ _
    exact zW_none
  | succ n ih =>
    intro v2 v3 S r_v2 r_v3 w_S
    rw [L_X0_greatestPull_4.eq_2]
    refine zW_zb (W_M_X6_sizeIn r_p1 w_S) (by decide) (by decide) (fun r1 S2 r_r1 w_S2 => ?_)
    refine zW_ite ?_ ?_
    · exact zW_ret w_S2 r_v2
    · refine zW_zb (W_M_X6_cellIn r_p1 r_v3 w_S2) (by decide) (by decide) (fun r4 S5 r_r4 w_S5 => ?_)
      refine zW_zb (W_M_X0_pullAt r_r4 w_S5) (by decide) (by decide) (fun r6 S7 r_r6 w_S7 => ?_)
      refine zW_zl (fun x8 r_x8 => ?_)
      exact ih (zmax_r r_v2 r_r6) r_x8 w_S7
set_option maxHeartbeats 4000000 in
set_option maxRecDepth 20000 in
theorem W_M_X0_greatestPull {a1 : Int} {S : HS} (r_a1 : rng a1) (w_S : WR shF S) : zW mA_X0_greatestPull mO_X0_greatestPull rng S (M_X0_greatestPull a1 S) := by
  unfold M_X0_greatestPull
  exact W_L_X0_greatestPull_4 r_a1 _ (zrl rfl) (zrl rfl) w_S
abbrev mA_X11_pull : List Nat := []
abbrev mO_X11_pull : List (Nat × Int) := []
set_option maxHeartbeats 4000000 in
set_option maxRecDepth 20000 in
theorem W_M_X11_pull {a1 : Int} {S : HS} (r_a1 : rng a1) (w_S : WR shF S) : zW mA_X11_pull mO_X11_pull rng S (M_X11_pull a1 S) := by
  unfold M_X11_pull
  refine zW_zb (W_M_X6_has r_a1 w_S) (by decide) (by decide) (fun r1 S2 r_r1 w_S2 => ?_)
  refine zW_ite ?_ ?_
  · exact zW_ret w_S2 (zrl rfl)
  · refine zW_zb (W_M_X0_greatestPull r_a1 w_S2) (by decide) (by decide) (fun r4 S5 r_r4 w_S5 => ?_)
    exact zW_ret w_S5 r_r4
abbrev mA_X0_unevenness : List Nat := []
abbrev mO_X0_unevenness : List (Nat × Int) := []
set_option maxHeartbeats 4000000 in
set_option maxRecDepth 20000 in
theorem W_L_X0_unevenness_22 {k74 : Int → Int → HS → zO2} {p1 : Int} (hk74 : ∀ (w0 w1 : Int) (S : HS), rng w0 → rng w1 → WR shF S → zW mA_X0_unevenness mO_X0_unevenness rng S (k74 w0 w1 S)) (r_p1 : rng p1) : ∀ (n : Nat) {v2 : Int} {v3 : Int} {v4 : Int} {S : HS}, rng v2 → rng v3 → rng v4 → WR shF S → zW mA_X0_unevenness mO_X0_unevenness rng S (L_X0_unevenness_22 k74 p1 n v2 v3 v4 S) := by
  intro n
  induction n with
  | zero =>
    intro _ _ _ _ _ _ _ _
    exact zW_none
  | succ n ih =>
    intro v2 v3 v4 S r_v2 r_v3 r_v4 w_S
    rw [L_X0_unevenness_22.eq_2]
    refine zW_zb (W_M_X6_sizeIn r_p1 w_S) (by decide) (by decide) (fun r5 S6 r_r5 w_S6 => ?_)
    refine zW_ite ?_ ?_
    · exact hk74 _ _ _ r_v2 r_v3 w_S6
    · refine zW_zb (W_M_X6_cellIn r_p1 r_v4 w_S6) (by decide) (by decide) (fun r8 S9 r_r8 w_S9 => ?_)
      refine zW_zb (W_M_X8_hairsBy r_r8 w_S9) (by decide) (by decide) (fun r10 S11 r_r10 w_S11 => ?_)
      refine zW_zl (fun x12 r_x12 => ?_)
      exact ih (zmin_r r_v2 r_r10) (zmax_r r_v3 r_r10) r_x12 w_S11
set_option maxHeartbeats 4000000 in
set_option maxRecDepth 20000 in
theorem W_M_X0_unevenness {a1 : Int} {S : HS} (r_a1 : rng a1) (w_S : WR shF S) : zW mA_X0_unevenness mO_X0_unevenness rng S (M_X0_unevenness a1 S) := by
  unfold M_X0_unevenness
  refine zW_zb (W_M_X6_cellIn r_a1 (zrl rfl) w_S) (by decide) (by decide) (fun r1 S2 r_r1 w_S2 => ?_)
  refine zW_zb (W_M_X8_hairsBy r_r1 w_S2) (by decide) (by decide) (fun r3 S4 r_r3 w_S4 => ?_)
  exact W_L_X0_unevenness_22 (fun e2 e3 S13 r_e2 r_e3 w_S13 => by
          refine zW_zl (fun x14 r_x14 => ?_)
          exact zW_ret w_S13 r_x14) r_a1 _ r_r3 r_r3 (zrl rfl) w_S4
abbrev mA_X11_even : List Nat := []
abbrev mO_X11_even : List (Nat × Int) := []
set_option maxHeartbeats 4000000 in
set_option maxRecDepth 20000 in
theorem W_M_X11_even {a1 : Int} {S : HS} (r_a1 : rng a1) (w_S : WR shF S) : zW mA_X11_even mO_X11_even rng S (M_X11_even a1 S) := by
  unfold M_X11_even
  refine zW_zb (W_M_X6_has r_a1 w_S) (by decide) (by decide) (fun r1 S2 r_r1 w_S2 => ?_)
  refine zW_ite ?_ ?_
  · exact zW_ret w_S2 (zrl rfl)
  · refine zW_zb (W_M_X0_unevenness r_a1 w_S2) (by decide) (by decide) (fun r4 S5 r_r4 w_S5 => ?_)
    exact zW_ret w_S5 r_r4
abbrev mA_X0_takerAt : List Nat := []
abbrev mO_X0_takerAt : List (Nat × Int) := []
set_option maxHeartbeats 4000000 in
set_option maxRecDepth 20000 in
theorem W_M_X0_takerAt {a1 : Int} {S : HS} (r_a1 : rng a1) (w_S : WR shF S) : zW mA_X0_takerAt mO_X0_takerAt rng S (M_X0_takerAt a1 S) := by
  unfold M_X0_takerAt
  refine zW_ite ?_ ?_
  · exact zW_ret w_S (zrl rfl)
  · refine zW_zg ?_
    refine zW_zl (fun x3 r_x3 => ?_)
    refine zW_ite ?_ ?_
    · exact zW_ret w_S (zrl rfl)
    · refine zW_zg ?_
      refine zW_zl (fun x6 r_x6 => ?_)
      refine zW_ite ?_ ?_
      · exact zW_ret w_S (zrl rfl)
      · exact zW_ret w_S (zrl rfl)
abbrev mA_X0_shareAt : List Nat := []
abbrev mO_X0_shareAt : List (Nat × Int) := []
set_option maxHeartbeats 4000000 in
set_option maxRecDepth 20000 in
theorem W_M_X0_shareAt {a1 : Int} {a2 : Int} {a3 : Int} {S : HS} (r_a1 : rng a1) (r_a2 : rng a2) (r_a3 : rng a3) (w_S : WR shF S) : zW mA_X0_shareAt mO_X0_shareAt rng S (M_X0_shareAt a1 a2 a3 S) := by
  unfold M_X0_shareAt
  refine zW_zb (W_M_X6_cellIn r_a1 r_a2 w_S) (by decide) (by decide) (fun r1 S2 r_r1 w_S2 => ?_)
  refine zW_zb (W_M_X8_hairsBy r_r1 w_S2) (by decide) (by decide) (fun r3 S4 r_r3 w_S4 => ?_)
  refine zW_ite ?_ ?_
  · exact zW_ret w_S4 r_r3
  · refine zW_ite ?_ ?_
    · refine zW_zb (W_M_X0_thirdOf r_r3 r_a3 w_S4) (by decide) (by decide) (fun r10 S11 r_r10 w_S11 => ?_)
      exact zW_ret w_S11 r_r10
    · refine zW_zb (W_M_X0_takerAt r_a2 w_S4) (by decide) (by decide) (fun r7 S8 r_r7 w_S8 => ?_)
      refine zW_ite ?_ ?_
      · exact zW_ret w_S8 r_r3
      · exact zW_ret w_S8 (zrl rfl)
abbrev mA_X0_insert : List Nat := [32]
abbrev mO_X0_insert : List (Nat × Int) := [(28, 9)]
set_option maxHeartbeats 4000000 in
set_option maxRecDepth 20000 in
theorem W_L_X0_insert_57 {k102 : Int → HS → zO2} {p1 : Int} (hk102 : ∀ (w0 : Int) (S : HS), rng w0 → WR shF S → zW mA_X0_insert mO_X0_insert rng S (k102 w0 S)) (r_p1 : rng p1) : ∀ (n : Nat) {v2 : Int} {S : HS}, rng v2 → WR shF S → zW mA_X0_insert mO_X0_insert rng S (L_X0_insert_57 k102 p1 n v2 S) := by
  intro n
  induction n with
  | zero =>
    intro _ _ _ _
    exact zW_none
  | succ n ih =>
    intro v2 S r_v2 w_S
    rw [L_X0_insert_57.eq_2]
    refine zW_ite ?_ ?_
    · exact hk102 _ _ r_v2 w_S
    · refine zW_ite ?_ ?_
      · exact hk102 _ _ r_v2 w_S
      · refine zW_zg ?_
        refine zW_ite ?_ ?_
        · exact hk102 _ _ r_v2 w_S
        · refine zW_zg ?_
          refine zW_zg ?_
          refine zW_up w_S sw_32 (by decide) (w_S 32 _ sw_32 ( v2 - 1 )) (fun S10 w_S10 => ?_)
          refine zW_zl (fun x11 r_x11 => ?_)
          exact ih r_x11 w_S10
set_option maxHeartbeats 4000000 in
set_option maxRecDepth 20000 in
theorem W_J_X0_insert_102 {v1 : Int} {v2 : Int} {S : HS} (r_v1 : rng v1) (r_v2 : rng v2) (w_S : WR shF S) : zW mA_X0_insert mO_X0_insert rng S (J_X0_insert_102 v1 v2 S) := by
  unfold J_X0_insert_102
  refine zW_ite ?_ ?_
  · exact zW_ret w_S (zrl rfl)
  · refine zW_ite ?_ ?_
    · exact zW_ret w_S (zrl rfl)
    · refine zW_zg ?_
      refine zW_up w_S sw_32 (by decide) r_v1 (fun S16 w_S16 => ?_)
      exact zW_ret w_S16 (zrl rfl)
set_option maxHeartbeats 4000000 in
set_option maxRecDepth 20000 in
theorem W_J_X0_insert_57 {v1 : Int} {v2 : Int} {S : HS} (r_v1 : rng v1) (r_v2 : rng v2) (w_S : WR shF S) : zW mA_X0_insert mO_X0_insert rng S (J_X0_insert_57 v1 v2 S) := by
  unfold J_X0_insert_57
  exact W_L_X0_insert_57 (fun e2 S12 r_e2 w_S12 => by
          exact W_J_X0_insert_102 r_v1 r_e2 w_S12) r_v1 _ r_v2 w_S
set_option maxHeartbeats 4000000 in
set_option maxRecDepth 20000 in
theorem W_M_X0_insert {a1 : Int} {S : HS} (r_a1 : rng a1) (w_S : WR shF S) : zW mA_X0_insert mO_X0_insert rng S (M_X0_insert a1 S) := by
  unfold M_X0_insert
  refine zW_ite ?_ ?_
  · refine zW_zl (fun x2 r_x2 => ?_)
    refine zW_upO w_S sw_28 (by decide) r_x2 (fun S3 w_S3 => ?_)
    exact W_J_X0_insert_57 r_a1 (w_S 28 _ sw_28 9) w_S3
  · refine zW_zl (fun x17 r_x17 => ?_)
    refine zW_ite ?_ ?_
    · exact zW_ret w_S (zrl rfl)
    · refine zW_ite ?_ ?_
      · exact zW_ret w_S (zrl rfl)
      · refine zW_zg ?_
        refine zW_ite ?_ ?_
        · exact W_J_X0_insert_57 r_a1 r_x17 w_S
        · exact zW_ret w_S (zrl rfl)
abbrev mA_X0_keepLongest : List Nat := [32]
abbrev mO_X0_keepLongest : List (Nat × Int) := [(28, 9)]
set_option maxHeartbeats 4000000 in
set_option maxRecDepth 20000 in
theorem W_L_X0_keepLongest_12 {p2 : Int} {p3 : Int} (r_p2 : rng p2) (r_p3 : rng p3) : ∀ (n : Nat) {v4 : Int} {S : HS}, rng v4 → WR shF S → zW mA_X0_keepLongest mO_X0_keepLongest rng S (L_X0_keepLongest_12 p2 p3 n v4 S) := by
  intro n
  induction n with
  | zero =>
    intro _ _ _ _
    exact zW_none
  | succ n ih =>
    intro v4 S r_v4 w_S
    rw [L_X0_keepLongest_12.eq_2]
    refine zW_ite ?_ ?_
    · exact zW_ret w_S (zrl rfl)
    · refine zW_zb (W_M_X0_insert (zmax_r (zrl rfl) r_p2) w_S) (by decide) (by decide) (fun _ S3 _ w_S3 => ?_)
      refine zW_zl (fun x4 r_x4 => ?_)
      exact ih r_x4 w_S3
set_option maxHeartbeats 4000000 in
set_option maxRecDepth 20000 in
theorem W_M_X0_keepLongest {a1 : Int} {a2 : Int} {S : HS} (r_a1 : rng a1) (r_a2 : rng a2) (w_S : WR shF S) : zW mA_X0_keepLongest mO_X0_keepLongest rng S (M_X0_keepLongest a1 a2 S) := by
  unfold M_X0_keepLongest
  exact W_L_X0_keepLongest_12 r_a2 (zmin_r r_a1 (w_S 28 _ sw_28 8)) _ (zrl rfl) w_S
abbrev mA_X0_reach : List Nat := [32]
abbrev mO_X0_reach : List (Nat × Int) := [(28, 8), (28, 9)]
set_option maxHeartbeats 4000000 in
set_option maxRecDepth 20000 in
theorem W_L_X0_reach_25 {k66 : HS → zO2} {p1 : Int} {p2 : Int} {p4 : Int} (hk66 : ∀ (S : HS), WR shF S → zW mA_X0_reach mO_X0_reach rng S (k66 S)) (r_p1 : rng p1) (r_p2 : rng p2) (r_p4 : rng p4) : ∀ (n : Nat) {v5 : Int} {S : HS}, rng v5 → WR shF S → zW mA_X0_reach mO_X0_reach rng S (L_X0_reach_25 k66 p1 p2 p4 n v5 S) := by
  intro n
  induction n with
  | zero =>
    intro _ _ _ _
    exact zW_none
  | succ n ih =>
    intro v5 S r_v5 w_S
    rw [L_X0_reach_25.eq_2]
    refine zW_ite ?_ ?_
    · exact hk66 _ w_S
    · refine zW_zb (W_M_X0_shareAt r_p1 r_v5 r_p2 w_S) (by decide) (by decide) (fun r7 S8 r_r7 w_S8 => ?_)
      refine zW_zl (fun x9 r_x9 => ?_)
      refine zW_zb (W_M_X0_keepLongest r_r7 r_x9 w_S8) (by decide) (by decide) (fun _ S11 _ w_S11 => ?_)
      refine zW_zl (fun x12 r_x12 => ?_)
      exact ih r_x12 w_S11
set_option maxHeartbeats 4000000 in
set_option maxRecDepth 20000 in
theorem W_J_X0_reach_161 {k69 : Int → HS → zO2} {v1 : Int} {v2 : Int} {v4 : Int} {v5 : Int} {S : HS} (hk69 : ∀ (w0 : Int) (S : HS), rng w0 → WR shF S → zW mA_X0_reach mO_X0_reach rng S (k69 w0 S)) (r_v1 : rng v1) (r_v2 : rng v2) (r_v4 : rng v4) (r_v5 : rng v5) (w_S : WR shF S) : zW mA_X0_reach mO_X0_reach rng S (J_X0_reach_161 k69 v1 v2 v4 v5 S) := by
  unfold J_X0_reach_161
  refine zW_zl (fun x19 r_x19 => ?_)
  exact hk69 _ _ r_x19 w_S
set_option maxHeartbeats 4000000 in
set_option maxRecDepth 20000 in
theorem W_J_X0_reach_128 {k69 : Int → HS → zO2} {v1 : Int} {v2 : Int} {v4 : Int} {v5 : Int} {v6 : Int} {S : HS} (hk69 : ∀ (w0 : Int) (S : HS), rng w0 → WR shF S → zW mA_X0_reach mO_X0_reach rng S (k69 w0 S)) (r_v1 : rng v1) (r_v2 : rng v2) (r_v4 : rng v4) (r_v5 : rng v5) (r_v6 : rng v6) (w_S : WR shF S) : zW mA_X0_reach mO_X0_reach rng S (J_X0_reach_128 k69 v1 v2 v4 v5 v6 S) := by
  unfold J_X0_reach_128
  refine zW_zg ?_
  refine zW_zg ?_
  refine zW_zl (fun x23 r_x23 => ?_)
  refine zW_zb (W_M_X0_keepLongest (w_S 26 _ sw_26 v5) r_x23 w_S) (by decide) (by decide) (fun _ S25 _ w_S25 => ?_)
  exact W_J_X0_reach_161 hk69 r_v1 r_v2 r_v4 r_v5 w_S25
set_option maxHeartbeats 4000000 in
set_option maxRecDepth 20000 in
theorem W_L_X0_reach_69 {k167 : HS → zO2} {p1 : Int} {p2 : Int} {p4 : Int} (hk167 : ∀ (S : HS), WR shF S → zW mA_X0_reach mO_X0_reach rng S (k167 S)) (r_p1 : rng p1) (r_p2 : rng p2) (r_p4 : rng p4) : ∀ (n : Nat) {v5 : Int} {S : HS}, rng v5 → WR shF S → zW mA_X0_reach mO_X0_reach rng S (L_X0_reach_69 k167 p1 p2 p4 n v5 S) := by
  intro n
  induction n with
  | zero =>
    intro _ _ _ _
    exact zW_none
  | succ n ih =>
    intro v5 S r_v5 w_S
    rw [L_X0_reach_69.eq_2]
    refine zW_ite ?_ ?_
    · exact hk167 _ w_S
    · refine zW_ite ?_ ?_
      · exact hk167 _ w_S
      · refine zW_zg ?_
        refine zW_zg ?_
        refine zW_ite ?_ ?_
        · refine zW_ite ?_ ?_
          · exact W_J_X0_reach_128 (fun q0_ T_ r_q0_ w_T_ => ih r_q0_ w_T_) r_p1 r_p2 r_p4 r_v5 (w_S 25 _ sw_25 v5) w_S
          · refine zW_zb (W_M_X0_takerAt (w_S 25 _ sw_25 v5) w_S) (by decide) (by decide) (fun r26 S27 r_r26 w_S27 => ?_)
            refine zW_ite ?_ ?_
            · exact W_J_X0_reach_128 (fun q0_ T_ r_q0_ w_T_ => ih r_q0_ w_T_) r_p1 r_p2 r_p4 r_v5 (w_S 25 _ sw_25 v5) w_S27
            · exact W_J_X0_reach_161 (fun q0_ T_ r_q0_ w_T_ => ih r_q0_ w_T_) r_p1 r_p2 r_p4 r_v5 w_S27
        · exact W_J_X0_reach_161 (fun q0_ T_ r_q0_ w_T_ => ih r_q0_ w_T_) r_p1 r_p2 r_p4 r_v5 w_S
set_option maxHeartbeats 4000000 in
set_option maxRecDepth 20000 in
theorem W_J_X0_reach_167 {S : HS} (w_S : WR shF S) : zW mA_X0_reach mO_X0_reach rng S (J_X0_reach_167 S) := by
  unfold J_X0_reach_167
  refine zW_ite ?_ ?_
  · exact zW_ret w_S (zrl rfl)
  · refine zW_ite ?_ ?_
    · exact zW_ret w_S (zrl rfl)
    · refine zW_ite ?_ ?_
      · exact zW_ret w_S (zrl rfl)
      · refine zW_zg ?_
        exact zW_ret w_S (w_S 32 _ sw_32 ( ( S 28 9 ) - 1 ))
set_option maxHeartbeats 4000000 in
set_option maxRecDepth 20000 in
theorem W_M_X0_reach {a1 : Int} {a2 : Int} {a3 : Int} {S : HS} (r_a1 : rng a1) (r_a2 : rng a2) (r_a3 : rng a3) (w_S : WR shF S) : zW mA_X0_reach mO_X0_reach rng S (M_X0_reach a1 a2 a3 S) := by
  unfold M_X0_reach
  refine zW_upO w_S sw_28 (by decide) r_a3 (fun S1 w_S1 => ?_)
  refine zW_upO w_S1 sw_28 (by decide) (zrl rfl) (fun S2 w_S2 => ?_)
  refine zW_zb (W_M_X6_sizeIn r_a1 w_S2) (by decide) (by decide) (fun r3 S4 r_r3 w_S4 => ?_)
  refine zW_zl (fun x5 r_x5 => ?_)
  exact W_L_X0_reach_25 (fun S13  w_S13 => by
          exact W_L_X0_reach_69 (fun S29  w_S29 => by
          exact W_J_X0_reach_167 w_S29) r_a1 r_a2 r_x5 _ (zrl rfl) w_S13) r_a1 r_a2 r_x5 _ (zrl rfl) w_S4
abbrev mA_X0_hang : List Nat := [32]
abbrev mO_X0_hang : List (Nat × Int) := [(28, 8), (28, 9)]
set_option maxHeartbeats 4000000 in
set_option maxRecDepth 20000 in
theorem W_J_X0_hang_87 {k44 : Int → Int → HS → zO2} {v1 : Int} {v2 : Int} {v3 : Int} {S : HS} (hk44 : ∀ (w0 w1 : Int) (S : HS), rng w0 → rng w1 → WR shF S → zW mA_X0_hang mO_X0_hang rng S (k44 w0 w1 S)) (r_v1 : rng v1) (r_v2 : rng v2) (r_v3 : rng v3) (w_S : WR shF S) : zW mA_X0_hang mO_X0_hang rng S (J_X0_hang_87 k44 v1 v2 v3 S) := by
  unfold J_X0_hang_87
  refine zW_zl (fun x10 r_x10 => ?_)
  exact hk44 _ _ _ r_v2 r_x10 w_S
set_option maxHeartbeats 4000000 in
set_option maxRecDepth 20000 in
theorem W_L_X0_hang_44 {p1 : Int} (r_p1 : rng p1) : ∀ (n : Nat) {v2 : Int} {v3 : Int} {S : HS}, rng v2 → rng v3 → WR shF S → zW mA_X0_hang mO_X0_hang rng S (L_X0_hang_44 p1 n v2 v3 S) := by
  intro n
  induction n with
  | zero =>
    intro _ _ _ _ _ _
    exact zW_none
  | succ n ih =>
    intro v2 v3 S r_v2 r_v3 w_S
    rw [L_X0_hang_44.eq_2]
    refine zW_ite ?_ ?_
    · exact zW_ret w_S r_v2
    · refine zW_zb (W_M_X6_knotWith r_v3 w_S) (by decide) (by decide) (fun r5 S6 r_r5 w_S6 => ?_)
      refine zW_zb (W_M_X6_knotWith r_p1 w_S6) (by decide) (by decide) (fun r7 S8 r_r7 w_S8 => ?_)
      refine zW_ite ?_ ?_
      · refine zW_zb (W_M_X0_reach r_v3 (zrl rfl) (zrl rfl) w_S8) (by decide) (by decide) (fun r11 S12 r_r11 w_S12 => ?_)
        exact W_J_X0_hang_87 (fun q0_ q1_ T_ r_q0_ r_q1_ w_T_ => ih r_q0_ r_q1_ w_T_) r_p1 (zmin_r r_v2 r_r11) r_v3 w_S12
      · exact W_J_X0_hang_87 (fun q0_ q1_ T_ r_q0_ r_q1_ w_T_ => ih r_q0_ r_q1_ w_T_) r_p1 r_v2 r_v3 w_S8
set_option maxHeartbeats 4000000 in
set_option maxRecDepth 20000 in
theorem W_L_X0_hang_17 {p1 : Int} (r_p1 : rng p1) : ∀ (n : Nat) {v2 : Int} {v3 : Int} {S : HS}, rng v2 → rng v3 → WR shF S → zW mA_X0_hang mO_X0_hang rng S (L_X0_hang_17 p1 n v2 v3 S) := by
  intro n
  induction n with
  | zero =>
    intro _ _ _ _ _ _
    exact zW_none
  | succ n ih =>
    intro v2 v3 S r_v2 r_v3 w_S
    rw [L_X0_hang_17.eq_2]
    refine zW_ite ?_ ?_
    · exact zW_ret w_S r_v2
    · refine zW_zb (W_M_X0_reach r_p1 r_v3 (zrl rfl) w_S) (by decide) (by decide) (fun r14 S15 r_r14 w_S15 => ?_)
      refine zW_zl (fun x16 r_x16 => ?_)
      exact ih (zmin_r r_v2 r_r14) r_x16 w_S15
set_option maxHeartbeats 4000000 in
set_option maxRecDepth 20000 in
theorem W_M_X0_hang {a1 : Int} {S : HS} (r_a1 : rng a1) (w_S : WR shF S) : zW mA_X0_hang mO_X0_hang rng S (M_X0_hang a1 S) := by
  unfold M_X0_hang
  refine zW_zb (W_M_X6_isTied r_a1 w_S) (by decide) (by decide) (fun r1 S2 r_r1 w_S2 => ?_)
  refine zW_ite ?_ ?_
  · exact W_L_X0_hang_17 r_a1 _ (zrl rfl) (zrl rfl) w_S2
  · exact W_L_X0_hang_44 r_a1 _ (zrl rfl) (zrl rfl) w_S2
