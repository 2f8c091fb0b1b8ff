set_option maxHeartbeats 4000000 in
set_option maxRecDepth 20000 in
theorem W_M_X12_swaps {a1 : Int} {a2 : Int} {a3 : Int} {a4 : Int} {S : HS} (r_a1 : rng a1) (r_a2 : rng a2) (r_a3 : rng a3) (r_a4 : rng a4) (w_S : WR shF S) : zW mA_X12_swaps mO_X12_swaps rng S (M_X12_swaps a1 a2 a3 a4 S) := by
  unfold M_X12_swaps
  refine zW_zg ?_
  refine zW_zg ?_
  refine zW_zg ?_
  refine zW_up w_S sw_84 (by decide) (w_S 84 _ sw_84 ( ( 3 * a2 ) + a4 )) (fun S4 w_S4 => ?_)
  refine zW_zg ?_
  refine zW_up w_S4 sw_84 (by decide) (w_S 84 _ sw_84 ( ( 3 * a2 ) + a3 )) (fun S6 w_S6 => ?_)
  exact W_L_X12_swaps_49 (fun S16  w_S16 => by
          exact W_L_X12_swaps_110 (fun S26  w_S26 => by
          exact W_L_X12_swaps_171 r_a1 r_a2 r_a3 r_a4 _ (zrl rfl) w_S26) r_a1 r_a2 r_a3 r_a4 _ (zrl rfl) w_S16) r_a1 r_a2 r_a3 r_a4 _ (zrl rfl) w_S6
abbrev mA_X12_joinsIn : List Nat := [85, 88]
abbrev mO_X12_joinsIn : List (Nat × Int) := []
set_option maxHeartbeats 4000000 in
set_option maxRecDepth 20000 in
theorem W_J_X12_joinsIn_58 {k10 : Int → HS → zO2} {v1 : Int} {v2 : Int} {v3 : Int} {v4 : Int} {t0 : Int} {t1 : Int} {S : HS} (hk10 : ∀ (w0 : Int) (S : HS), rng w0 → WR shF S → zW mA_X12_joinsIn mO_X12_joinsIn rng S (k10 w0 S)) (r_v1 : rng v1) (r_v2 : rng v2) (r_v3 : rng v3) (r_v4 : rng v4) (r_t0 : rng t0) (r_t1 : rng t1) (w_S : WR shF S) : zW mA_X12_joinsIn mO_X12_joinsIn rng S (J_X12_joinsIn_58 k10 v1 v2 v3 v4 t0 t1 S) := by
  unfold J_X12_joinsIn_58
  refine zW_zg ?_
  refine zW_up w_S sw_88 (by decide) r_t0 (fun S8 w_S8 => ?_)
  refine zW_zl (fun x9 r_x9 => ?_)
  exact hk10 _ _ r_x9 w_S8
set_option maxHeartbeats 4000000 in
set_option maxRecDepth 20000 in
theorem W_J_X12_joinsIn_51 {k10 : Int → HS → zO2} {v1 : Int} {v2 : Int} {v3 : Int} {v4 : Int} {t0 : Int} {S : HS} (hk10 : ∀ (w0 : Int) (S : HS), rng w0 → WR shF S → zW mA_X12_joinsIn mO_X12_joinsIn rng S (k10 w0 S)) (r_v1 : rng v1) (r_v2 : rng v2) (r_v3 : rng v3) (r_v4 : rng v4) (r_t0 : rng t0) (w_S : WR shF S) : zW mA_X12_joinsIn mO_X12_joinsIn rng S (J_X12_joinsIn_51 k10 v1 v2 v3 v4 t0 S) := by
  unfold J_X12_joinsIn_51
  refine zW_zg ?_
  exact W_J_X12_joinsIn_58 hk10 r_v1 r_v2 r_v3 r_v4 (w_S 88 _ sw_88 v4) r_t0 w_S
set_option maxHeartbeats 4000000 in
set_option maxRecDepth 20000 in
theorem W_L_X12_joinsIn_10 {p1 : Int} {p2 : Int} {p3 : Int} (r_p1 : rng p1) (r_p2 : rng p2) (r_p3 : rng p3) : ∀ (n : Nat) {v4 : Int} {S : HS}, rng v4 → WR shF S → zW mA_X12_joinsIn mO_X12_joinsIn rng S (L_X12_joinsIn_10 p1 p2 p3 n v4 S) := by
  intro n
  induction n with
  | zero =>
    intro _ _ _ _
    exact zW_none
  | succ n ih =>
    intro v4 S r_v4 w_S
    rw [L_X12_joinsIn_10.eq_2]
    refine zW_ite ?_ ?_
    · exact zW_ret w_S (zrl rfl)
    · refine zW_zg ?_
      refine zW_ite ?_ ?_
      · refine zW_zg ?_
        refine zW_ite ?_ ?_
        · exact W_J_X12_joinsIn_58 (fun q0_ T_ r_q0_ w_T_ => ih r_q0_ w_T_) r_p1 r_p2 r_p3 r_v4 r_p3 r_v4 w_S
        · exact W_J_X12_joinsIn_51 (fun q0_ T_ r_q0_ w_T_ => ih r_q0_ w_T_) r_p1 r_p2 r_p3 r_v4 r_v4 w_S
      · exact W_J_X12_joinsIn_51 (fun q0_ T_ r_q0_ w_T_ => ih r_q0_ w_T_) r_p1 r_p2 r_p3 r_v4 r_v4 w_S
set_option maxHeartbeats 4000000 in
set_option maxRecDepth 20000 in
theorem W_M_X12_joinsIn {a1 : Int} {a2 : Int} {a3 : Int} {S : HS} (r_a1 : rng a1) (r_a2 : rng a2) (r_a3 : rng a3) (w_S : WR shF S) : zW mA_X12_joinsIn mO_X12_joinsIn rng S (M_X12_joinsIn a1 a2 a3 S) := by
  unfold M_X12_joinsIn
  refine zW_zg ?_
  refine zW_up w_S sw_85 (by decide) r_a3 (fun S2 w_S2 => ?_)
  exact W_L_X12_joinsIn_10 r_a1 r_a2 r_a3 _ (zrl rfl) w_S2
abbrev mA_X12_braids : List Nat := [77, 78, 83, 84, 85, 86, 87, 88]
abbrev mO_X12_braids : List (Nat × Int) := []
set_option maxHeartbeats 4000000 in
set_option maxRecDepth 20000 in
theorem W_J_X12_braids_42 {k7 : Int → HS → zO2} {v1 : Int} {v2 : Int} {t0 : Int} {t1 : Int} {t2 : Int} {S : HS} (hk7 : ∀ (w0 : Int) (S : HS), rng w0 → WR shF S → zW mA_X12_braids mO_X12_braids rng S (k7 w0 S)) (r_v1 : rng v1) (r_v2 : rng v2) (r_t0 : rng t0) (r_t1 : rng t1) (r_t2 : rng t2) (w_S : WR shF S) : zW mA_X12_braids mO_X12_braids rng S (J_X12_braids_42 k7 v1 v2 t0 t1 t2 S) := by
  unfold J_X12_braids_42
  refine zW_zl (fun x9 r_x9 => ?_)
  refine zW_zg ?_
  refine zW_up w_S sw_86 (by decide) r_x9 (fun S11 w_S11 => ?_)
  refine zW_zg ?_
  refine zW_up w_S11 sw_87 (by decide) r_v2 (fun S13 w_S13 => ?_)
  refine zW_zg ?_
  refine zW_zg ?_
  refine zW_up w_S13 sw_84 (by decide) (w_S13 86 _ sw_86 v2) (fun S16 w_S16 => ?_)
  refine zW_zl (fun x17 r_x17 => ?_)
  exact hk7 _ _ r_x17 w_S16
set_option maxHeartbeats 4000000 in
set_option maxRecDepth 20000 in
theorem W_L_X12_braids_7 {k69 : HS → zO2} {p1 : Int} (hk69 : ∀ (S : HS), WR shF S → zW mA_X12_braids mO_X12_braids rng S (k69 S)) (r_p1 : rng p1) : ∀ (n : Nat) {v2 : Int} {S : HS}, rng v2 → WR shF S → zW mA_X12_braids mO_X12_braids rng S (L_X12_braids_7 k69 p1 n v2 S) := by
  intro n
  induction n with
  | zero =>
    intro _ _ _ _
    exact zW_none
  | succ n ih =>
    intro v2 S r_v2 w_S
    rw [L_X12_braids_7.eq_2]
    refine zW_ite ?_ ?_
    · exact hk69 _ w_S
    · refine zW_zg ?_
      refine zW_zg ?_
      refine zW_zl (fun x6 r_x6 => ?_)
      refine zW_ite ?_ ?_
      · refine zW_zl (fun x8 r_x8 => ?_)
        exact W_J_X12_braids_42 (fun q0_ T_ r_q0_ w_T_ => ih r_q0_ w_T_) r_p1 r_v2 (zrl rfl) r_x8 r_v2 w_S
      · refine zW_zl (fun x18 r_x18 => ?_)
        exact W_J_X12_braids_42 (fun q0_ T_ r_q0_ w_T_ => ih r_q0_ w_T_) r_p1 r_v2 (zrl rfl) r_x18 r_v2 w_S
set_option maxHeartbeats 4000000 in
set_option maxRecDepth 20000 in
theorem W_L_X12_braids_119 {k155 : HS → zO2} {p1 : Int} {p2 : Int} {p3 : Int} (hk155 : ∀ (S : HS), WR shF S → zW mA_X12_braids mO_X12_braids rng S (k155 S)) (r_p1 : rng p1) (r_p2 : rng p2) (r_p3 : rng p3) : ∀ (n : Nat) {v4 : Int} {S : HS}, rng v4 → WR shF S → zW mA_X12_braids mO_X12_braids rng S (L_X12_braids_119 k155 p1 p2 p3 n v4 S) := by
  intro n
  induction n with
  | zero =>
    intro _ _ _ _
    exact zW_none
  | succ n ih =>
    intro v4 S r_v4 w_S
    rw [L_X12_braids_119.eq_2]
    refine zW_ite ?_ ?_
    · exact hk155 _ w_S
    · refine zW_zg ?_
      refine zW_zg ?_
      refine zW_up w_S sw_84 (by decide) (w_S 84 _ sw_84 ( ( 3 * ( p2 - 1 ) ) + v4 )) (fun S34 w_S34 => ?_)
      refine zW_zl (fun x35 r_x35 => ?_)
      exact ih r_x35 w_S34
set_option maxHeartbeats 4000000 in
set_option maxRecDepth 20000 in
theorem W_J_X12_braids_115 {k93 : Int → HS → zO2} {v1 : Int} {v2 : Int} {t0 : Int} {S : HS} (hk93 : ∀ (w0 : Int) (S : HS), rng w0 → WR shF S → zW mA_X12_braids mO_X12_braids rng S (k93 w0 S)) (r_v1 : rng v1) (r_v2 : rng v2) (r_t0 : rng t0) (w_S : WR shF S) : zW mA_X12_braids mO_X12_braids rng S (J_X12_braids_115 k93 v1 v2 t0 S) := by
  unfold J_X12_braids_115
  exact W_L_X12_braids_119 (fun S36  w_S36 => by
          refine zW_zg ?_
          refine zW_zg ?_
          refine zW_zb (W_M_X12_addedAt r_v1 r_v2 w_S36) (by decide) (by decide) (fun r39 S40 r_r39 w_S40 => ?_)
          refine zW_zl (fun x41 r_x41 => ?_)
          refine zW_zg ?_
          refine zW_up w_S40 sw_84 (by decide) r_x41 (fun S43 w_S43 => ?_)
          refine zW_zb (W_M_X12_joinsIn r_v1 r_v2 r_t0 w_S43) (by decide) (by decide) (fun _ S45 _ w_S45 => ?_)
          refine zW_zb (W_M_X12_swaps r_v1 r_v2 r_t0 (zrl rfl) w_S45) (by decide) (by decide) (fun _ S47 _ w_S47 => ?_)
          refine zW_zl (fun x48 r_x48 => ?_)
          exact hk93 _ _ r_x48 w_S47) r_v1 r_v2 r_t0 _ (zrl rfl) w_S
set_option maxHeartbeats 4000000 in
set_option maxRecDepth 20000 in
theorem W_L_X12_braids_93 {p1 : Int} (r_p1 : rng p1) : ∀ (n : Nat) {v2 : Int} {S : HS}, rng v2 → WR shF S → zW mA_X12_braids mO_X12_braids rng S (L_X12_braids_93 p1 n v2 S) := by
  intro n
  induction n with
  | zero =>
    intro _ _ _ _
    exact zW_none
  | succ n ih =>
    intro v2 S r_v2 w_S
    rw [L_X12_braids_93.eq_2]
    refine zW_zg ?_
    refine zW_ite ?_ ?_
    · exact zW_ret w_S (zrl rfl)
    · refine zW_zg ?_
      refine zW_zl (fun x29 r_x29 => ?_)
      refine zW_ite ?_ ?_
      · exact W_J_X12_braids_115 (fun q0_ T_ r_q0_ w_T_ => ih r_q0_ w_T_) r_p1 r_v2 (zrl rfl) w_S
      · exact W_J_X12_braids_115 (fun q0_ T_ r_q0_ w_T_ => ih r_q0_ w_T_) r_p1 r_v2 (zrl rfl) w_S
set_option maxHeartbeats 4000000 in
set_option maxRecDepth 20000 in
theorem W_M_X12_braids {a1 : Int} {S : HS} (r_a1 : rng a1) (w_S : WR shF S) : zW mA_X12_braids mO_X12_braids rng S (M_X12_braids a1 S) := by
  unfold M_X12_braids
  refine zW_zb (W_M_X12_findTotals r_a1 w_S) (by decide) (by decide) (fun _ S2 _ w_S2 => ?_)
  exact W_L_X12_braids_7 (fun S19  w_S19 => by
          refine zW_zb (W_M_X12_addedAt r_a1 (zrl rfl) w_S19) (by decide) (by decide) (fun r20 S21 r_r20 w_S21 => ?_)
          refine zW_zl (fun x22 r_x22 => ?_)
          refine zW_up w_S21 sw_84 (by decide) r_x22 (fun S23 w_S23 => ?_)
          refine zW_zb (W_M_X12_joinsIn r_a1 (zrl rfl) (zrl rfl) w_S23) (by decide) (by decide) (fun _ S25 _ w_S25 => ?_)
          exact W_L_X12_braids_93 r_a1 _ (zrl rfl) w_S25) r_a1 _ (zrl rfl) w_S2
abbrev mA_X12_isEdge : List Nat := []
abbrev mO_X12_isEdge : List (Nat × Int) := []
set_option maxHeartbeats 4000000 in
set_option maxRecDepth 20000 in
theorem W_J_X12_isEdge_43 {k4 : Int → Int → HS → zO2} {v1 : Int} {v3 : Int} {t0 : Int} {S : HS} (hk4 : ∀ (w0 w1 : Int) (S : HS), rng w0 → rng w1 → WR shF S → zW mA_X12_isEdge mO_X12_isEdge rng S (k4 w0 w1 S)) (r_v1 : rng v1) (r_v3 : rng v3) (r_t0 : rng t0) (w_S : WR shF S) : zW mA_X12_isEdge mO_X12_isEdge rng S (J_X12_isEdge_43 k4 v1 v3 t0 S) := by
  unfold J_X12_isEdge_43
  refine zW_zl (fun x4 r_x4 => ?_)
  exact hk4 _ _ _ r_t0 r_x4 w_S
set_option maxHeartbeats 4000000 in
set_option maxRecDepth 20000 in
theorem W_J_X12_isEdge_38 {k4 : Int → Int → HS → zO2} {v1 : Int} {v3 : Int} {S : HS} (hk4 : ∀ (w0 w1 : Int) (S : HS), rng w0 → rng w1 → WR shF S → zW mA_X12_isEdge mO_X12_isEdge rng S (k4 w0 w1 S)) (r_v1 : rng v1) (r_v3 : rng v3) (w_S : WR shF S) : zW mA_X12_isEdge mO_X12_isEdge rng S (J_X12_isEdge_38 k4 v1 v3 S) := by
  unfold J_X12_isEdge_38
  exact W_J_X12_isEdge_43 hk4 r_v1 r_v3 (zrl rfl) w_S
set_option maxHeartbeats 4000000 in
set_option maxRecDepth 20000 in
theorem W_L_X12_isEdge_4 {p1 : Int} (r_p1 : rng p1) : ∀ (n : Nat) {v2 : Int} {v3 : Int} {S : HS}, rng v2 → rng v3 → WR shF S → zW mA_X12_isEdge mO_X12_isEdge rng S (L_X12_isEdge_4 p1 n v2 v3 S) := by
  intro n
  induction n with
  | zero =>
    intro _ _ _ _ _ _
    exact zW_none
  | succ n ih =>
    intro v2 v3 S r_v2 r_v3 w_S
    rw [L_X12_isEdge_4.eq_2]
    refine zW_ite ?_ ?_
    · refine zW_zg ?_
      exact zW_ret w_S r_v2
    · refine zW_ite ?_ ?_
      · refine zW_zg ?_
        refine zW_zb (W_M_X12_stepX r_v3 w_S) (by decide) (by decide) (fun r6 S7 r_r6 w_S7 => ?_)
        refine zW_zg ?_
        refine zW_zb (W_M_X12_stepY r_v3 w_S7) (by decide) (by decide) (fun r9 S10 r_r9 w_S10 => ?_)
        refine zW_zl (fun x11 r_x11 => ?_)
        refine zW_zl (fun x12 r_x12 => ?_)
        refine zW_zb (W_M_X12_isScalp r_x12 r_x11 w_S10) (by decide) (by decide) (fun r13 S14 r_r13 w_S14 => ?_)
        refine zW_ite ?_ ?_
        · exact W_J_X12_isEdge_38 (fun q0_ q1_ T_ r_q0_ r_q1_ w_T_ => ih r_q0_ r_q1_ w_T_) r_p1 r_v3 w_S14
        · exact W_J_X12_isEdge_43 (fun q0_ q1_ T_ r_q0_ r_q1_ w_T_ => ih r_q0_ r_q1_ w_T_) r_p1 r_v3 (zrl rfl) w_S14
      · exact W_J_X12_isEdge_38 (fun q0_ q1_ T_ r_q0_ r_q1_ w_T_ => ih r_q0_ r_q1_ w_T_) r_p1 r_v3 w_S
set_option maxHeartbeats 4000000 in
set_option maxRecDepth 20000 in
theorem W_M_X12_isEdge {a1 : Int} {S : HS} (r_a1 : rng a1) (w_S : WR shF S) : zW mA_X12_isEdge mO_X12_isEdge rng S (M_X12_isEdge a1 S) := by
  unfold M_X12_isEdge
  exact W_L_X12_isEdge_4 r_a1 _ (zrl rfl) (zrl rfl) w_S
abbrev mA_X12_most : List Nat := []
abbrev mO_X12_most : List (Nat × Int) := []
set_option maxHeartbeats 4000000 in
set_option maxRecDepth 20000 in
theorem W_J_X12_most_44 {k11 : Int → Int → HS → zO2} {v1 : Int} {v3 : Int} {t0 : Int} {S : HS} (hk11 : ∀ (w0 w1 : Int) (S : HS), rng w0 → rng w1 → WR shF S → zW mA_X12_most mO_X12_most rng S (k11 w0 w1 S)) (r_v1 : rng v1) (r_v3 : rng v3) (r_t0 : rng t0) (w_S : WR shF S) : zW mA_X12_most mO_X12_most rng S (J_X12_most_44 k11 v1 v3 t0 S) := by
  unfold J_X12_most_44
  refine zW_zl (fun x5 r_x5 => ?_)
  exact hk11 _ _ _ r_t0 r_x5 w_S
set_option maxHeartbeats 4000000 in
set_option maxRecDepth 20000 in
theorem W_L_X12_most_11 {p1 : Int} (r_p1 : rng p1) : ∀ (n : Nat) {v2 : Int} {v3 : Int} {S : HS}, rng v2 → rng v3 → WR shF S → zW mA_X12_most mO_X12_most rng S (L_X12_most_11 p1 n v2 v3 S) := by
  intro n
  induction n with
  | zero =>
    intro _ _ _ _ _ _
    exact zW_none
  | succ n ih =>
    intro v2 v3 S r_v2 r_v3 w_S
    rw [L_X12_most_11.eq_2]
    refine zW_ite ?_ ?_
    · exact zW_ret w_S r_v2
    · refine zW_zg ?_
      refine zW_ite ?_ ?_
      · exact W_J_X12_most_44 (fun q0_ q1_ T_ r_q0_ r_q1_ w_T_ => ih r_q0_ r_q1_ w_T_) r_p1 r_v3 r_v2 w_S
      · refine zW_zg ?_
        exact W_J_X12_most_44 (fun q0_ q1_ T_ r_q0_ r_q1_ w_T_ => ih r_q0_ r_q1_ w_T_) r_p1 r_v3 (w_S 84 _ sw_84 ( ( 3 * p1 ) + v3 )) w_S
set_option maxHeartbeats 4000000 in
set_option maxRecDepth 20000 in
theorem W_M_X12_most {a1 : Int} {S : HS} (r_a1 : rng a1) (w_S : WR shF S) : zW mA_X12_most mO_X12_most rng S (M_X12_most a1 S) := by
  unfold M_X12_most
  refine zW_zg ?_
  exact W_L_X12_most_11 r_a1 _ (w_S 84 _ sw_84 ( 3 * a1 )) (zrl rfl) w_S
abbrev mA_X12_fewest : List Nat := []
abbrev mO_X12_fewest : List (Nat × Int) := []
set_option maxHeartbeats 4000000 in
set_option maxRecDepth 20000 in
theorem W_L_X12_fewest_11 {p1 : Int} (r_p1 : rng p1) : ∀ (n : Nat) {v2 : Int} {v3 : Int} {S : HS}, rng v2 → rng v3 → WR shF S → zW mA_X12_fewest mO_X12_fewest rng S (L_X12_fewest_11 p1 n v2 v3 S) := by
  intro n
  induction n with
  | zero =>
    intro _ _ _ _ _ _
    exact zW_none
  | succ n ih =>
    intro v2 v3 S r_v2 r_v3 w_S
    rw [L_X12_fewest_11.eq_2]
    refine zW_ite ?_ ?_
    · exact zW_ret w_S r_v2
    · refine zW_zg ?_
      refine zW_zb (W_M_X12_least r_v2 (w_S 84 _ sw_84 ( ( 3 * p1 ) + v3 )) w_S) (by decide) (by decide) (fun r4 S5 r_r4 w_S5 => ?_)
      refine zW_zl (fun x6 r_x6 => ?_)
      exact ih r_r4 r_x6 w_S5
set_option maxHeartbeats 4000000 in
set_option maxRecDepth 20000 in
theorem W_M_X12_fewest {a1 : Int} {S : HS} (r_a1 : rng a1) (w_S : WR shF S) : zW mA_X12_fewest mO_X12_fewest rng S (M_X12_fewest a1 S) := by
  unfold M_X12_fewest
  refine zW_zg ?_
  exact W_L_X12_fewest_11 r_a1 _ (w_S 84 _ sw_84 ( 3 * a1 )) (zrl rfl) w_S
abbrev mA_X12_pullAt : List Nat := []
abbrev mO_X12_pullAt : List (Nat × Int) := []
set_option maxHeartbeats 4000000 in
set_option maxRecDepth 20000 in
theorem W_J_X12_pullAt_35 {t0 : Int} {t1 : Int} {S : HS} (r_t0 : rng t0) (r_t1 : rng t1) (w_S : WR shF S) : zW mA_X12_pullAt mO_X12_pullAt rng S (J_X12_pullAt_35 t0 t1 S) := by
  unfold J_X12_pullAt_35
  refine zW_zl (fun x10 r_x10 => ?_)
  exact zW_ret w_S r_x10
set_option maxHeartbeats 4000000 in
set_option maxRecDepth 20000 in
theorem W_M_X12_pullAt {a1 : Int} {a2 : Int} {S : HS} (r_a1 : rng a1) (r_a2 : rng a2) (w_S : WR shF S) : zW mA_X12_pullAt mO_X12_pullAt rng S (M_X12_pullAt a1 a2 S) := by
  unfold M_X12_pullAt
  refine zW_zb (W_M_X12_most r_a2 w_S) (by decide) (by decide) (fun r1 S2 r_r1 w_S2 => ?_)
  refine zW_zb (W_M_X12_fewest r_a2 w_S2) (by decide) (by decide) (fun r3 S4 r_r3 w_S4 => ?_)
  refine zW_zg ?_
  refine zW_zb (W_M_X12_isEdge (w_S4 70 _ sw_70 ( ( 192 * a1 ) + a2 )) w_S4) (by decide) (by decide) (fun r6 S7 r_r6 w_S7 => ?_)
  refine zW_ite ?_ ?_
  · refine zW_zl (fun x9 r_x9 => ?_)
    exact W_J_X12_pullAt_35 (zrl rfl) r_x9 w_S7
  · refine zW_zl (fun x11 r_x11 => ?_)
    exact W_J_X12_pullAt_35 (zrl rfl) r_x11 w_S7
abbrev mA_X12_strand : List Nat := [77, 78, 83, 84, 85, 86, 87, 88]
abbrev mO_X12_strand : List (Nat × Int) := [(51, 0)]
set_option maxHeartbeats 4000000 in
set_option maxRecDepth 20000 in
theorem W_J_X12_strand_24 {v1 : Int} {v2 : Int} {v3 : Int} {t0 : Int} {S : HS} (r_v1 : rng v1) (r_v2 : rng v2) (r_v3 : rng v3) (r_t0 : rng t0) (w_S : WR shF S) : zW mA_X12_strand mO_X12_strand rng S (J_X12_strand_24 v1 v2 v3 t0 S) := by
  unfold J_X12_strand_24
  refine zW_upO w_S sw_51 (by decide) r_t0 (fun S4 w_S4 => ?_)
  refine zW_ite ?_ ?_
  · refine zW_zb (W_M_X12_braids r_v1 w_S4) (by decide) (by decide) (fun _ S7 _ w_S7 => ?_)
    refine zW_ite ?_ ?_
    · refine zW_ite ?_ ?_
      · refine zW_zg ?_
        exact zW_ret w_S7 (w_S7 83 _ sw_83 v2)
      · refine zW_ite ?_ ?_
        · refine zW_zb (W_M_X12_pullAt r_v1 r_v2 w_S7) (by decide) (by decide) (fun r15 S16 r_r15 w_S16 => ?_)
          exact zW_ret w_S16 r_r15
        · refine zW_zg ?_
          refine zW_zb (W_M_X12_isEdge (w_S7 70 _ sw_70 ( ( 192 * v1 ) + v2 )) w_S7) (by decide) (by decide) (fun r12 S13 r_r12 w_S13 => ?_)
          refine zW_ite ?_ ?_
          · exact zW_ret w_S13 (zrl rfl)
          · exact zW_ret w_S13 (zrl rfl)
    · refine zW_zg ?_
      exact zW_ret w_S7 (w_S7 84 _ sw_84 ( ( 3 * v2 ) + v3 ))
  · exact zW_ret w_S4 (zrl rfl)
set_option maxHeartbeats 4000000 in
set_option maxRecDepth 20000 in
theorem W_J_X12_strand_23 {v1 : Int} {v2 : Int} {v3 : Int} {S : HS} (r_v1 : rng v1) (r_v2 : rng v2) (r_v3 : rng v3) (w_S : WR shF S) : zW mA_X12_strand mO_X12_strand rng S (J_X12_strand_23 v1 v2 v3 S) := by
  unfold J_X12_strand_23
  exact W_J_X12_strand_24 r_v1 r_v2 r_v3 (zrl rfl) w_S
set_option maxHeartbeats 4000000 in
set_option maxRecDepth 20000 in
theorem W_M_X12_strand {a1 : Int} {a2 : Int} {a3 : Int} {S : HS} (r_a1 : rng a1) (r_a2 : rng a2) (r_a3 : rng a3) (w_S : WR shF S) : zW mA_X12_strand mO_X12_strand rng S (M_X12_strand a1 a2 a3 S) := by
  unfold M_X12_strand
  refine zW_zb (W_M_X12_isStepOf r_a1 r_a2 w_S) (by decide) (by decide) (fun r1 S2 r_r1 w_S2 => ?_)
  refine zW_ite ?_ ?_
  · exact W_J_X12_strand_23 r_a1 r_a2 r_a3 w_S2
  · refine zW_ite ?_ ?_
    · exact W_J_X12_strand_23 r_a1 r_a2 r_a3 w_S2
    · refine zW_ite ?_ ?_
      · exact W_J_X12_strand_23 r_a1 r_a2 r_a3 w_S2
      · exact W_J_X12_strand_24 r_a1 r_a2 r_a3 (zrl rfl) w_S2
abbrev mA_X12_isRow : List Nat := []
abbrev mO_X12_isRow : List (Nat × Int) := []
set_option maxHeartbeats 4000000 in
set_option maxRecDepth 20000 in
theorem W_M_X12_isRow {a1 : Int} {S : HS} (r_a1 : rng a1) (w_S : WR shF S) : zW mA_X12_isRow mO_X12_isRow rng S (M_X12_isRow a1 S) := by
  unfold M_X12_isRow
  refine zW_ite ?_ ?_
  · exact zW_ret w_S (zrl rfl)
  · refine zW_ite ?_ ?_
    · exact zW_ret w_S (zrl rfl)
    · exact zW_ret w_S (zrl rfl)
abbrev mA_X12_pull : List Nat := [77, 78, 83, 84, 85, 86, 87, 88]
abbrev mO_X12_pull : List (Nat × Int) := [(51, 0)]
set_option maxHeartbeats 4000000 in
set_option maxRecDepth 20000 in
theorem W_J_X12_pull_54 {k24 : Int → Int → HS → zO2} {v1 : Int} {v3 : Int} {t0 : Int} {S : HS} (hk24 : ∀ (w0 w1 : Int) (S : HS), rng w0 → rng w1 → WR shF S → zW mA_X12_pull mO_X12_pull rng S (k24 w0 w1 S)) (r_v1 : rng v1) (r_v3 : rng v3) (r_t0 : rng t0) (w_S : WR shF S) : zW mA_X12_pull mO_X12_pull rng S (J_X12_pull_54 k24 v1 v3 t0 S) := by
  unfold J_X12_pull_54
  refine zW_zl (fun x12 r_x12 => ?_)
  exact hk24 _ _ _ r_t0 r_x12 w_S
set_option maxHeartbeats 4000000 in
set_option maxRecDepth 20000 in
theorem W_L_X12_pull_24 {p1 : Int} (r_p1 : rng p1) : ∀ (n : Nat) {v2 : Int} {v3 : Int} {S : HS}, rng v2 → rng v3 → WR shF S → zW mA_X12_pull mO_X12_pull rng S (L_X12_pull_24 p1 n v2 v3 S) := by
  intro n
  induction n with
  | zero =>
    intro _ _ _ _ _ _
    exact zW_none
  | succ n ih =>
    intro v2 v3 S r_v2 r_v3 w_S
    rw [L_X12_pull_24.eq_2]
    refine zW_zg ?_
    refine zW_ite ?_ ?_
    · exact zW_ret w_S r_v2
    · refine zW_zb (W_M_X12_pullAt r_p1 r_v3 w_S) (by decide) (by decide) (fun r9 S10 r_r9 w_S10 => ?_)
      refine zW_ite ?_ ?_
      · exact W_J_X12_pull_54 (fun q0_ q1_ T_ r_q0_ r_q1_ w_T_ => ih r_q0_ r_q1_ w_T_) r_p1 r_v3 r_v2 w_S10
      · refine zW_zb (W_M_X12_pullAt r_p1 r_v3 w_S10) (by decide) (by decide) (fun r13 S14 r_r13 w_S14 => ?_)
        exact W_J_X12_pull_54 (fun q0_ q1_ T_ r_q0_ r_q1_ w_T_ => ih r_q0_ r_q1_ w_T_) r_p1 r_v3 r_r13 w_S14
set_option maxHeartbeats 4000000 in
set_option maxRecDepth 20000 in
theorem W_M_X12_pull {a1 : Int} {S : HS} (r_a1 : rng a1) (w_S : WR shF S) : zW mA_X12_pull mO_X12_pull rng S (M_X12_pull a1 S) := by
  unfold M_X12_pull
  refine zW_upO w_S sw_51 (by decide) (zrl rfl) (fun S1 w_S1 => ?_)
  refine zW_zb (W_M_X12_isRow r_a1 w_S1) (by decide) (by decide) (fun r2 S3 r_r2 w_S3 => ?_)
  refine zW_ite ?_ ?_
  · exact zW_ret w_S3 (zrl rfl)
  · refine zW_zb (W_M_X12_braids r_a1 w_S3) (by decide) (by decide) (fun _ S6 _ w_S6 => ?_)
    exact W_L_X12_pull_24 r_a1 _ (zrl rfl) (zrl rfl) w_S6
abbrev mA_X12_even : List Nat := [77, 78, 83]
abbrev mO_X12_even : List (Nat × Int) := [(51, 0)]
set_option maxHeartbeats 4000000 in
set_option maxRecDepth 20000 in
theorem W_J_X12_even_70 {k37 : Int → Int → Int → HS → zO2} {v1 : Int} {v3 : Int} {v4 : Int} {t0 : Int} {S : HS} (hk37 : ∀ (w0 w1 w2 : Int) (S : HS), rng w0 → rng w1 → rng w2 → WR shF S → zW mA_X12_even mO_X12_even rng S (k37 w0 w1 w2 S)) (r_v1 : rng v1) (r_v3 : rng v3) (r_v4 : rng v4) (r_t0 : rng t0) (w_S : WR shF S) : zW mA_X12_even mO_X12_even rng S (J_X12_even_70 k37 v1 v3 v4 t0 S) := by
  unfold J_X12_even_70
  refine zW_zg ?_
  refine zW_zb (W_M_X12_least r_v3 (w_S 83 _ sw_83 v4) w_S) (by decide) (by decide) (fun r12 S13 r_r12 w_S13 => ?_)
  refine zW_zl (fun x14 r_x14 => ?_)
  exact hk37 _ _ _ _ r_t0 r_r12 r_x14 w_S13
set_option maxHeartbeats 4000000 in
set_option maxRecDepth 20000 in
theorem W_L_X12_even_37 {k89 : Int → Int → HS → zO2} {p1 : Int} (hk89 : ∀ (w0 w1 : Int) (S : HS), rng w0 → rng w1 → WR shF S → zW mA_X12_even mO_X12_even rng S (k89 w0 w1 S)) (r_p1 : rng p1) : ∀ (n : Nat) {v2 : Int} {v3 : Int} {v4 : Int} {S : HS}, rng v2 → rng v3 → rng v4 → WR shF S → zW mA_X12_even mO_X12_even rng S (L_X12_even_37 k89 p1 n v2 v3 v4 S) := by
  intro n
  induction n with
  | zero =>
    intro _ _ _ _ _ _ _ _
    exact zW_none
  | succ n ih =>
    intro v2 v3 v4 S r_v2 r_v3 r_v4 w_S
    rw [L_X12_even_37.eq_2]
    refine zW_zg ?_
    refine zW_ite ?_ ?_
    · exact hk89 _ _ _ r_v2 r_v3 w_S
    · refine zW_zg ?_
      refine zW_ite ?_ ?_
      · exact W_J_X12_even_70 (fun q0_ q1_ q2_ T_ r_q0_ r_q1_ r_q2_ w_T_ => ih r_q0_ r_q1_ r_q2_ w_T_) r_p1 r_v3 r_v4 r_v2 w_S
      · refine zW_zg ?_
        exact W_J_X12_even_70 (fun q0_ q1_ q2_ T_ r_q0_ r_q1_ r_q2_ w_T_ => ih r_q0_ r_q1_ r_q2_ w_T_) r_p1 r_v3 r_v4 (w_S 83 _ sw_83 v4) w_S
set_option maxHeartbeats 4000000 in
set_option maxRecDepth 20000 in
theorem W_M_X12_even {a1 : Int} {S : HS} (r_a1 : rng a1) (w_S : WR shF S) : zW mA_X12_even mO_X12_even rng S (M_X12_even a1 S) := by
  unfold M_X12_even
  refine zW_upO w_S sw_51 (by decide) (zrl rfl) (fun S1 w_S1 => ?_)
  refine zW_zb (W_M_X12_isRow r_a1 w_S1) (by decide) (by decide) (fun r2 S3 r_r2 w_S3 => ?_)
  refine zW_ite ?_ ?_
  · exact zW_ret w_S3 (zrl rfl)
  · refine zW_zb (W_M_X12_findTotals r_a1 w_S3) (by decide) (by decide) (fun _ S6 _ w_S6 => ?_)
    exact W_L_X12_even_37 (fun e2 e3 S16 r_e2 r_e3 w_S16 => by
            refine zW_zl (fun x17 r_x17 => ?_)
            exact zW_ret w_S16 r_x17) r_a1 _ (w_S6 83 _ sw_83 0) (w_S6 83 _ sw_83 0) (zrl rfl) w_S6
abbrev mA_X12_reach : List Nat := []
abbrev mO_X12_reach : List (Nat × Int) := []
set_option maxHeartbeats 4000000 in
set_option maxRecDepth 20000 in
theorem W_M_X12_reach {a1 : Int} {a2 : Int} {a3 : Int} {S : HS} (r_a1 : rng a1) (r_a2 : rng a2) (r_a3 : rng a3) (w_S : WR shF S) : zW mA_X12_reach mO_X12_reach rng S (M_X12_reach a1 a2 a3 S) := by
  unfold M_X12_reach
  refine zW_zg ?_
  refine zW_zl (fun x2 r_x2 => ?_)
  refine zW_ite ?_ ?_
  · exact zW_ret w_S r_x2
  · exact zW_ret w_S (zrl rfl)
abbrev mA_X12_reaching : List Nat := []
abbrev mO_X12_reaching : List (Nat × Int) := []
set_option maxHeartbeats 4000000 in
set_option maxRecDepth 20000 in
theorem W_J_X12_reaching_54 {k6 : Int → Int → HS → zO2} {v1 : Int} {v2 : Int} {v3 : Int} {v5 : Int} {t0 : Int} {t1 : Int} {S : HS} (hk6 : ∀ (w0 w1 : Int) (S : HS), rng w0 → rng w1 → WR shF S → zW mA_X12_reaching mO_X12_reaching rng S (k6 w0 w1 S)) (r_v1 : rng v1) (r_v2 : rng v2) (r_v3 : rng v3) (r_v5 : rng v5) (r_t0 : rng t0) (r_t1 : rng t1) (w_S : WR shF S) : zW mA_X12_reaching mO_X12_reaching rng S (J_X12_reaching_54 k6 v1 v2 v3 v5 t0 t1 S) := by
  unfold J_X12_reaching_54
  refine zW_zl (fun x6 r_x6 => ?_)
  refine zW_zl (fun x7 r_x7 => ?_)
  exact hk6 _ _ _ r_x6 r_x7 w_S
set_option maxHeartbeats 4000000 in
set_option maxRecDepth 20000 in
theorem W_J_X12_reaching_53 {k6 : Int → Int → HS → zO2} {v1 : Int} {v2 : Int} {v3 : Int} {v5 : Int} {t0 : Int} {S : HS} (hk6 : ∀ (w0 w1 : Int) (S : HS), rng w0 → rng w1 → WR shF S → zW mA_X12_reaching mO_X12_reaching rng S (k6 w0 w1 S)) (r_v1 : rng v1) (r_v2 : rng v2) (r_v3 : rng v3) (r_v5 : rng v5) (r_t0 : rng t0) (w_S : WR shF S) : zW mA_X12_reaching mO_X12_reaching rng S (J_X12_reaching_53 k6 v1 v2 v3 v5 t0 S) := by
  unfold J_X12_reaching_53
  exact W_J_X12_reaching_54 hk6 r_v1 r_v2 r_v3 r_v5 (zrl rfl) r_t0 w_S
set_option maxHeartbeats 4000000 in
set_option maxRecDepth 20000 in
theorem W_J_X12_reaching_29 {k6 : Int → Int → HS → zO2} {v1 : Int} {v2 : Int} {v3 : Int} {v5 : Int} {t0 : Int} {S : HS} (hk6 : ∀ (w0 w1 : Int) (S : HS), rng w0 → rng w1 → WR shF S → zW mA_X12_reaching mO_X12_reaching rng S (k6 w0 w1 S)) (r_v1 : rng v1) (r_v2 : rng v2) (r_v3 : rng v3) (r_v5 : rng v5) (r_t0 : rng t0) (w_S : WR shF S) : zW mA_X12_reaching mO_X12_reaching rng S (J_X12_reaching_29 k6 v1 v2 v3 v5 t0 S) := by
  unfold J_X12_reaching_29
  refine zW_zb (W_M_X12_reach (w_S 51 _ sw_51 37) r_v1 (zrl rfl) w_S) (by decide) (by decide) (fun r3 S4 r_r3 w_S4 => ?_)
  refine zW_ite ?_ ?_
  · exact W_J_X12_reaching_53 hk6 r_v1 r_v2 r_v3 r_v5 r_t0 w_S4
  · refine zW_zg ?_
    exact W_J_X12_reaching_54 hk6 r_v1 r_v2 r_v3 r_v5 (w_S4 86 _ sw_86 v5) r_t0 w_S4
set_option maxHeartbeats 4000000 in
set_option maxRecDepth 20000 in
theorem W_L_X12_reaching_6 {k63 : Int → HS → zO2} {p1 : Int} {p2 : Int} {p3 : Int} (hk63 : ∀ (w0 : Int) (S : HS), rng w0 → WR shF S → zW mA_X12_reaching mO_X12_reaching rng S (k63 w0 S)) (r_p1 : rng p1) (r_p2 : rng p2) (r_p3 : rng p3) : ∀ (n : Nat) {v4 : Int} {v5 : Int} {S : HS}, rng v4 → rng v5 → WR shF S → zW mA_X12_reaching mO_X12_reaching rng S (L_X12_reaching_6 k63 p1 p2 p3 n v4 v5 S) := by
  intro n
  induction n with
  | zero =>
    intro _ _ _ _ _ _
    exact zW_none
  | succ n ih =>
    intro v4 v5 S r_v4 r_v5 w_S
    rw [L_X12_reaching_6.eq_2]
    refine zW_ite ?_ ?_
    · exact hk63 _ _ r_v4 w_S
    · refine zW_ite ?_ ?_
      · exact W_J_X12_reaching_29 (fun q0_ q1_ T_ r_q0_ r_q1_ w_T_ => ih r_q0_ r_q1_ w_T_) r_p1 r_p2 r_p3 r_v5 r_v4 w_S
      · refine zW_zg ?_
        refine zW_ite ?_ ?_
        · exact W_J_X12_reaching_29 (fun q0_ q1_ T_ r_q0_ r_q1_ w_T_ => ih r_q0_ r_q1_ w_T_) r_p1 r_p2 r_p3 r_v5 r_v4 w_S
        · exact W_J_X12_reaching_53 (fun q0_ q1_ T_ r_q0_ r_q1_ w_T_ => ih r_q0_ r_q1_ w_T_) r_p1 r_p2 r_p3 r_v5 r_v4 w_S
set_option maxHeartbeats 4000000 in
set_option maxRecDepth 20000 in
theorem W_J_X12_reaching_120 {k66 : Int → Int → HS → zO2} {v1 : Int} {v2 : Int} {v3 : Int} {v5 : Int} {t0 : Int} {t1 : Int} {S : HS} (hk66 : ∀ (w0 w1 : Int) (S : HS), rng w0 → rng w1 → WR shF S → zW mA_X12_reaching mO_X12_reaching rng S (k66 w0 w1 S)) (r_v1 : rng v1) (r_v2 : rng v2) (r_v3 : rng v3) (r_v5 : rng v5) (r_t0 : rng t0) (r_t1 : rng t1) (w_S : WR shF S) : zW mA_X12_reaching mO_X12_reaching rng S (J_X12_reaching_120 k66 v1 v2 v3 v5 t0 t1 S) := by
  unfold J_X12_reaching_120
  refine zW_zl (fun x18 r_x18 => ?_)
  refine zW_zl (fun x19 r_x19 => ?_)
  exact hk66 _ _ _ r_x18 r_x19 w_S
set_option maxHeartbeats 4000000 in
set_option maxRecDepth 20000 in
theorem W_J_X12_reaching_119 {k66 : Int → Int → HS → zO2} {v1 : Int} {v2 : Int} {v3 : Int} {v5 : Int} {t0 : Int} {S : HS} (hk66 : ∀ (w0 w1 : Int) (S : HS), rng w0 → rng w1 → WR shF S → zW mA_X12_reaching mO_X12_reaching rng S (k66 w0 w1 S)) (r_v1 : rng v1) (r_v2 : rng v2) (r_v3 : rng v3) (r_v5 : rng v5) (r_t0 : rng t0) (w_S : WR shF S) : zW mA_X12_reaching mO_X12_reaching rng S (J_X12_reaching_119 k66 v1 v2 v3 v5 t0 S) := by
  unfold J_X12_reaching_119
  exact W_J_X12_reaching_120 hk66 r_v1 r_v2 r_v3 r_v5 (zrl rfl) r_t0 w_S
set_option maxHeartbeats 4000000 in
set_option maxRecDepth 20000 in
theorem W_J_X12_reaching_94 {k66 : Int → Int → HS → zO2} {v1 : Int} {v2 : Int} {v3 : Int} {v5 : Int} {t0 : Int} {S : HS} (hk66 : ∀ (w0 w1 : Int) (S : HS), rng w0 → rng w1 → WR shF S → zW mA_X12_reaching mO_X12_reaching rng S (k66 w0 w1 S)) (r_v1 : rng v1) (r_v2 : rng v2) (r_v3 : rng v3) (r_v5 : rng v5) (r_t0 : rng t0) (w_S : WR shF S) : zW mA_X12_reaching mO_X12_reaching rng S (J_X12_reaching_94 k66 v1 v2 v3 v5 t0 S) := by
  unfold J_X12_reaching_94
  refine zW_zb (W_M_X12_reach (w_S 51 _ sw_51 37) r_v1 r_v5 w_S) (by decide) (by decide) (fun r15 S16 r_r15 w_S16 => ?_)
  refine zW_ite ?_ ?_
  · exact W_J_X12_reaching_119 hk66 r_v1 r_v2 r_v3 r_v5 r_t0 w_S16
  · refine zW_zg ?_
    exact W_J_X12_reaching_120 hk66 r_v1 r_v2 r_v3 r_v5 (w_S16 83 _ sw_83 v5) r_t0 w_S16
set_option maxHeartbeats 4000000 in
set_option maxRecDepth 20000 in
theorem W_L_X12_reaching_66 {k129 : Int → HS → zO2} {p1 : Int} {p2 : Int} {p3 : Int} (hk129 : ∀ (w0 : Int) (S : HS), rng w0 → WR shF S → zW mA_X12_reaching mO_X12_reaching rng S (k129 w0 S)) (r_p1 : rng p1) (r_p2 : rng p2) (r_p3 : rng p3) : ∀ (n : Nat) {v4 : Int} {v5 : Int} {S : HS}, rng v4 → rng v5 → WR shF S → zW mA_X12_reaching mO_X12_reaching rng S (L_X12_reaching_66 k129 p1 p2 p3 n v4 v5 S) := by
  intro n
  induction n with
  | zero =>
    intro _ _ _ _ _ _
    exact zW_none
  | succ n ih =>
    intro v4 v5 S r_v4 r_v5 w_S
    rw [L_X12_reaching_66.eq_2]
    refine zW_zg ?_
    refine zW_ite ?_ ?_
    · exact hk129 _ _ r_v4 w_S
    · refine zW_ite ?_ ?_
      · exact W_J_X12_reaching_94 (fun q0_ q1_ T_ r_q0_ r_q1_ w_T_ => ih r_q0_ r_q1_ w_T_) r_p1 r_p2 r_p3 r_v5 r_v4 w_S
      · refine zW_zg ?_
        refine zW_ite ?_ ?_
        · exact W_J_X12_reaching_94 (fun q0_ q1_ T_ r_q0_ r_q1_ w_T_ => ih r_q0_ r_q1_ w_T_) r_p1 r_p2 r_p3 r_v5 r_v4 w_S
        · exact W_J_X12_reaching_119 (fun q0_ q1_ T_ r_q0_ r_q1_ w_T_ => ih r_q0_ r_q1_ w_T_) r_p1 r_p2 r_p3 r_v5 r_v4 w_S
set_option maxHeartbeats 4000000 in
set_option maxRecDepth 20000 in
theorem W_J_X12_reaching_203 {k132 : Int → Int → HS → zO2} {v1 : Int} {v2 : Int} {v3 : Int} {v5 : Int} {t0 : Int} {t1 : Int} {S : HS} (hk132 : ∀ (w0 w1 : Int) (S : HS), rng w0 → rng w1 → WR shF S → zW mA_X12_reaching mO_X12_reaching rng S (k132 w0 w1 S)) (r_v1 : rng v1) (r_v2 : rng v2) (r_v3 : rng v3) (r_v5 : rng v5) (r_t0 : rng t0) (r_t1 : rng t1) (w_S : WR shF S) : zW mA_X12_reaching mO_X12_reaching rng S (J_X12_reaching_203 k132 v1 v2 v3 v5 t0 t1 S) := by
  unfold J_X12_reaching_203
  refine zW_zl (fun x27 r_x27 => ?_)
  refine zW_zl (fun x28 r_x28 => ?_)
  exact hk132 _ _ _ r_x27 r_x28 w_S
set_option maxHeartbeats 4000000 in
set_option maxRecDepth 20000 in
theorem W_J_X12_reaching_202 {k132 : Int → Int → HS → zO2} {v1 : Int} {v2 : Int} {v3 : Int} {v5 : Int} {t0 : Int} {S : HS} (hk132 : ∀ (w0 w1 : Int) (S : HS), rng w0 → rng w1 → WR shF S → zW mA_X12_reaching mO_X12_reaching rng S (k132 w0 w1 S)) (r_v1 : rng v1) (r_v2 : rng v2) (r_v3 : rng v3) (r_v5 : rng v5) (r_t0 : rng t0) (w_S : WR shF S) : zW mA_X12_reaching mO_X12_reaching rng S (J_X12_reaching_202 k132 v1 v2 v3 v5 t0 S) := by
  unfold J_X12_reaching_202
  exact W_J_X12_reaching_203 hk132 r_v1 r_v2 r_v3 r_v5 (zrl rfl) r_t0 w_S
set_option maxHeartbeats 4000000 in
set_option maxRecDepth 20000 in
theorem W_J_X12_reaching_169 {k132 : Int → Int → HS → zO2} {v1 : Int} {v2 : Int} {v3 : Int} {v5 : Int} {t0 : Int} {S : HS} (hk132 : ∀ (w0 w1 : Int) (S : HS), rng w0 → rng w1 → WR shF S → zW mA_X12_reaching mO_X12_reaching rng S (k132 w0 w1 S)) (r_v1 : rng v1) (r_v2 : rng v2) (r_v3 : rng v3) (r_v5 : rng v5) (r_t0 : rng t0) (w_S : WR shF S) : zW mA_X12_reaching mO_X12_reaching rng S (J_X12_reaching_169 k132 v1 v2 v3 v5 t0 S) := by
  unfold J_X12_reaching_169
  refine zW_zg ?_
  refine zW_zg ?_
  refine zW_zb (W_M_X12_reach (w_S 82 _ sw_82 v5) r_v1 (w_S 80 _ sw_80 v5) w_S) (by decide) (by decide) (fun r32 S33 r_r32 w_S33 => ?_)
  refine zW_ite ?_ ?_
  · exact W_J_X12_reaching_202 hk132 r_v1 r_v2 r_v3 r_v5 r_t0 w_S33
  · refine zW_zg ?_
    exact W_J_X12_reaching_203 hk132 r_v1 r_v2 r_v3 r_v5 (w_S33 81 _ sw_81 v5) r_t0 w_S33
set_option maxHeartbeats 4000000 in
set_option maxRecDepth 20000 in
theorem W_L_X12_reaching_132 {p1 : Int} {p2 : Int} {p3 : Int} (r_p1 : rng p1) (r_p2 : rng p2) (r_p3 : rng p3) : ∀ (n : Nat) {v4 : Int} {v5 : Int} {S : HS}, rng v4 → rng v5 → WR shF S → zW mA_X12_reaching mO_X12_reaching rng S (L_X12_reaching_132 p1 p2 p3 n v4 v5 S) := by
  intro n
  induction n with
  | zero =>
    intro _ _ _ _ _ _
    exact zW_none
  | succ n ih =>
    intro v4 v5 S r_v4 r_v5 w_S
    rw [L_X12_reaching_132.eq_2]
    refine zW_ite ?_ ?_
    · exact zW_ret w_S r_v4
    · refine zW_zg ?_
      refine zW_ite ?_ ?_
      · refine zW_ite ?_ ?_
        · exact W_J_X12_reaching_169 (fun q0_ q1_ T_ r_q0_ r_q1_ w_T_ => ih r_q0_ r_q1_ w_T_) r_p1 r_p2 r_p3 r_v5 r_v4 w_S
        · refine zW_zg ?_
          refine zW_ite ?_ ?_
          · exact W_J_X12_reaching_169 (fun q0_ q1_ T_ r_q0_ r_q1_ w_T_ => ih r_q0_ r_q1_ w_T_) r_p1 r_p2 r_p3 r_v5 r_v4 w_S
          · exact W_J_X12_reaching_202 (fun q0_ q1_ T_ r_q0_ r_q1_ w_T_ => ih r_q0_ r_q1_ w_T_) r_p1 r_p2 r_p3 r_v5 r_v4 w_S
      · exact W_J_X12_reaching_202 (fun q0_ q1_ T_ r_q0_ r_q1_ w_T_ => ih r_q0_ r_q1_ w_T_) r_p1 r_p2 r_p3 r_v5 r_v4 w_S
set_option maxHeartbeats 4000000 in
set_option maxRecDepth 20000 in
theorem W_M_X12_reaching {a1 : Int} {a2 : Int} {a3 : Int} {S : HS} (r_a1 : rng a1) (r_a2 : rng a2) (r_a3 : rng a3) (w_S : WR shF S) : zW mA_X12_reaching mO_X12_reaching rng S (M_X12_reaching a1 a2 a3 S) := by
  unfold M_X12_reaching
  exact W_L_X12_reaching_6 (fun e4 S11 r_e4 w_S11 => by
          exact W_L_X12_reaching_66 (fun e4 S23 r_e4 w_S23 => by
          exact W_L_X12_reaching_132 r_a1 r_a2 r_a3 _ r_e4 (zrl rfl) w_S23) r_a1 r_a2 r_a3 _ r_e4 (zrl rfl) w_S11) r_a1 r_a2 r_a3 _ (zrl rfl) (zrl rfl) w_S
abbrev mA_X12_greatest : List Nat := []
abbrev mO_X12_greatest : List (Nat × Int) := []
set_option maxHeartbeats 4000000 in
set_option maxRecDepth 20000 in
theorem W_J_X12_greatest_47 {k19 : Int → Int → HS → zO2} {v1 : Int} {v2 : Int} {v3 : Int} {v5 : Int} {t0 : Int} {t1 : Int} {S : HS} (hk19 : ∀ (w0 w1 : Int) (S : HS), rng w0 → rng w1 → WR shF S → zW mA_X12_greatest mO_X12_greatest rng S (k19 w0 w1 S)) (r_v1 : rng v1) (r_v2 : rng v2) (r_v3 : rng v3) (r_v5 : rng v5) (r_t0 : rng t0) (r_t1 : rng t1) (w_S : WR shF S) : zW mA_X12_greatest mO_X12_greatest rng S (J_X12_greatest_47 k19 v1 v2 v3 v5 t0 t1 S) := by
  unfold J_X12_greatest_47
  refine zW_zl (fun x9 r_x9 => ?_)
  refine zW_zg ?_
  refine zW_zl (fun x11 r_x11 => ?_)
  exact hk19 _ _ _ r_x9 r_x11 w_S
set_option maxHeartbeats 4000000 in
set_option maxRecDepth 20000 in
theorem W_L_X12_greatest_19 {p1 : Int} {p2 : Int} {p3 : Int} (r_p1 : rng p1) (r_p2 : rng p2) (r_p3 : rng p3) : ∀ (n : Nat) {v4 : Int} {v5 : Int} {S : HS}, rng v4 → rng v5 → WR shF S → zW mA_X12_greatest mO_X12_greatest rng S (L_X12_greatest_19 p1 p2 p3 n v4 v5 S) := by
  intro n
  induction n with
  | zero =>
    intro _ _ _ _ _ _
    exact zW_none
  | succ n ih =>
    intro v4 v5 S r_v4 r_v5 w_S
    rw [L_X12_greatest_19.eq_2]
    refine zW_ite ?_ ?_
    · exact zW_ret w_S r_v4
    · refine zW_zl (fun x5 r_x5 => ?_)
      refine zW_zb (W_M_X12_reaching r_p1 r_p2 r_x5 w_S) (by decide) (by decide) (fun r6 S7 r_r6 w_S7 => ?_)
      refine zW_ite ?_ ?_
      · exact W_J_X12_greatest_47 (fun q0_ q1_ T_ r_q0_ r_q1_ w_T_ => ih r_q0_ r_q1_ w_T_) r_p1 r_p2 r_p3 r_v5 (zrl rfl) r_v4 w_S7
      · exact W_J_X12_greatest_47 (fun q0_ q1_ T_ r_q0_ r_q1_ w_T_ => ih r_q0_ r_q1_ w_T_) r_p1 r_p2 r_p3 r_v5 r_v5 r_v4 w_S7
set_option maxHeartbeats 4000000 in
set_option maxRecDepth 20000 in
theorem W_M_X12_greatest {a1 : Int} {a2 : Int} {a3 : Int} {S : HS} (r_a1 : rng a1) (r_a2 : rng a2) (r_a3 : rng a3) (w_S : WR shF S) : zW mA_X12_greatest mO_X12_greatest rng S (M_X12_greatest a1 a2 a3 S) := by
  unfold M_X12_greatest
  refine zW_zb (W_M_X12_reaching r_a1 r_a2 (zrl rfl) w_S) (by decide) (by decide) (fun r1 S2 r_r1 w_S2 => ?_)
  refine zW_ite ?_ ?_
  · exact zW_ret w_S2 (zrl rfl)
  · exact W_L_X12_greatest_19 r_a1 r_a2 r_a3 _ (zrl rfl) (zrl rfl) w_S2
abbrev mA_X12_hangsAlone : List Nat := [77, 78, 83, 84, 85, 86, 87, 88]
abbrev mO_X12_hangsAlone : List (Nat × Int) := []
set_option maxHeartbeats 4000000 in
set_option maxRecDepth 20000 in
theorem W_L_X12_hangsAlone_15 {p1 : Int} (r_p1 : rng p1) : ∀ (n : Nat) {v2 : Int} {v3 : Int} {S : HS}, rng v2 → rng v3 → WR shF S → zW mA_X12_hangsAlone mO_X12_hangsAlone rng S (L_X12_hangsAlone_15 p1 n v2 v3 S) := by
  intro n
  induction n with
  | zero =>
    intro _ _ _ _ _ _
    exact zW_none
  | succ n ih =>
    intro v2 v3 S r_v2 r_v3 w_S
    rw [L_X12_hangsAlone_15.eq_2]
    refine zW_ite ?_ ?_
    · exact zW_ret w_S r_v2
    · refine zW_zb (W_M_X12_greatest r_p1 r_v3 (zrl rfl) w_S) (by decide) (by decide) (fun r6 S7 r_r6 w_S7 => ?_)
      refine zW_zb (W_M_X12_least r_v2 r_r6 w_S7) (by decide) (by decide) (fun r8 S9 r_r8 w_S9 => ?_)
      refine zW_zl (fun x10 r_x10 => ?_)
      exact ih r_r8 r_x10 w_S9
set_option maxHeartbeats 4000000 in
set_option maxRecDepth 20000 in
theorem W_M_X12_hangsAlone {a1 : Int} {S : HS} (r_a1 : rng a1) (w_S : WR shF S) : zW mA_X12_hangsAlone mO_X12_hangsAlone rng S (M_X12_hangsAlone a1 S) := by
  unfold M_X12_hangsAlone
  refine zW_zb (W_M_X12_braids r_a1 w_S) (by decide) (by decide) (fun _ S2 _ w_S2 => ?_)
  refine zW_zb (W_M_X12_greatest r_a1 (zrl rfl) (zrl rfl) w_S2) (by decide) (by decide) (fun r3 S4 r_r3 w_S4 => ?_)
  exact W_L_X12_hangsAlone_15 r_a1 _ r_r3 (zrl rfl) w_S4
abbrev mA_X12_hangs : List Nat := [77, 78, 83, 84, 85, 86, 87, 88]
abbrev mO_X12_hangs : List (Nat × Int) := [(51, 0)]
set_option maxHeartbeats 4000000 in
set_option maxRecDepth 20000 in
theorem W_J_X12_hangs_77 {k36 : Int → Int → HS → zO2} {v1 : Int} {v2 : Int} {v3 : Int} {S : HS} (hk36 : ∀ (w0 w1 : Int) (S : HS), rng w0 → rng w1 → WR shF S → zW mA_X12_hangs mO_X12_hangs rng S (k36 w0 w1 S)) (r_v1 : rng v1) (r_v2 : rng v2) (r_v3 : rng v3) (w_S : WR shF S) : zW mA_X12_hangs mO_X12_hangs rng S (J_X12_hangs_77 k36 v1 v2 v3 S) := by
  unfold J_X12_hangs_77
  refine zW_zl (fun x11 r_x11 => ?_)
  exact hk36 _ _ _ r_v2 r_x11 w_S
set_option maxHeartbeats 4000000 in
set_option maxRecDepth 20000 in
theorem W_L_X12_hangs_36 {p1 : Int} (r_p1 : rng p1) : ∀ (n : Nat) {v2 : Int} {v3 : Int} {S : HS}, rng v2 → rng v3 → WR shF S → zW mA_X12_hangs mO_X12_hangs rng S (L_X12_hangs_36 p1 n v2 v3 S) := by
  intro n
  induction n with
  | zero =>
    intro _ _ _ _ _ _
    exact zW_none
  | succ n ih =>
    intro v2 v3 S r_v2 r_v3 w_S
    rw [L_X12_hangs_36.eq_2]
    refine zW_ite ?_ ?_
    · exact zW_ret w_S r_v2
    · refine zW_zg ?_
      refine zW_zg ?_
      refine zW_ite ?_ ?_
      · refine zW_zb (W_M_X12_braids r_v3 w_S) (by decide) (by decide) (fun _ S13 _ w_S13 => ?_)
        refine zW_zb (W_M_X12_greatest r_v3 (zrl rfl) (zrl rfl) w_S13) (by decide) (by decide) (fun r14 S15 r_r14 w_S15 => ?_)
        refine zW_zb (W_M_X12_least r_v2 r_r14 w_S15) (by decide) (by decide) (fun r16 S17 r_r16 w_S17 => ?_)
        exact W_J_X12_hangs_77 (fun q0_ q1_ T_ r_q0_ r_q1_ w_T_ => ih r_q0_ r_q1_ w_T_) r_p1 r_r16 r_v3 w_S17
      · exact W_J_X12_hangs_77 (fun q0_ q1_ T_ r_q0_ r_q1_ w_T_ => ih r_q0_ r_q1_ w_T_) r_p1 r_v2 r_v3 w_S
set_option maxHeartbeats 4000000 in
set_option maxRecDepth 20000 in
theorem W_M_X12_hangs {a1 : Int} {S : HS} (r_a1 : rng a1) (w_S : WR shF S) : zW mA_X12_hangs mO_X12_hangs rng S (M_X12_hangs a1 S) := by
  unfold M_X12_hangs
  refine zW_upO w_S sw_51 (by decide) (zrl rfl) (fun S1 w_S1 => ?_)
  refine zW_zb (W_M_X12_isRow r_a1 w_S1) (by decide) (by decide) (fun r2 S3 r_r2 w_S3 => ?_)
  refine zW_ite ?_ ?_
  · exact zW_ret w_S3 (zrl rfl)
  · refine zW_zg ?_
    refine zW_ite ?_ ?_
    · exact W_L_X12_hangs_36 r_a1 _ (zrl rfl) (zrl rfl) w_S3
    · refine zW_zb (W_M_X12_hangsAlone r_a1 w_S3) (by decide) (by decide) (fun r18 S19 r_r18 w_S19 => ?_)
      exact zW_ret w_S19 r_r18
abbrev mA_X12_areNear : List Nat := []
abbrev mO_X12_areNear : List (Nat × Int) := []
set_option maxHeartbeats 4000000 in
set_option maxRecDepth 20000 in
theorem W_M_X12_areNear {a1 : Int} {a2 : Int} {S : HS} (r_a1 : rng a1) (r_a2 : rng a2) (w_S : WR shF S) : zW mA_X12_areNear mO_X12_areNear rng S (M_X12_areNear a1 a2 S) := by
  unfold M_X12_areNear
  refine zW_zg ?_
  refine zW_zg ?_
  refine zW_zg ?_
  refine zW_zg ?_
  refine zW_zg ?_
  refine zW_zg ?_
  refine zW_zl (fun x7 r_x7 => ?_)
  refine zW_zg ?_
  refine zW_zg ?_
  refine zW_zl (fun x10 r_x10 => ?_)
  refine zW_ite ?_ ?_
  · exact zW_ret w_S (zrl rfl)
  · refine zW_ite ?_ ?_
    · exact zW_ret w_S (zrl rfl)
    · refine zW_ite ?_ ?_
      · exact zW_ret w_S (zrl rfl)
      · refine zW_ite ?_ ?_
        · exact zW_ret w_S (zrl rfl)
        · exact zW_ret w_S (zrl rfl)
abbrev mA_X12_join : List Nat := [72]
abbrev mO_X12_join : List (Nat × Int) := [(51, 0), (51, 54)]
set_option maxHeartbeats 4000000 in
set_option maxRecDepth 20000 in
theorem W_M_X12_join {a1 : Int} {a2 : Int} {a3 : Int} {S : HS} (r_a1 : rng a1) (r_a2 : rng a2) (r_a3 : rng a3) (w_S : WR shF S) : zW mA_X12_join mO_X12_join rng S (M_X12_join a1 a2 a3 S) := by
  unfold M_X12_join
  refine zW_upO w_S sw_51 (by decide) (zrl rfl) (fun S1 w_S1 => ?_)
  refine zW_zb (W_M_X12_isRow r_a1 w_S1) (by decide) (by decide) (fun r2 S3 r_r2 w_S3 => ?_)
  refine zW_ite ?_ ?_
  · exact zW_ret w_S3 (zrl rfl)
  · refine zW_zb (W_M_X12_isRow r_a2 w_S3) (by decide) (by decide) (fun r5 S6 r_r5 w_S6 => ?_)
    refine zW_ite ?_ ?_
    · exact zW_ret w_S6 (zrl rfl)
    · refine zW_zb (W_M_X12_isRow r_a3 w_S6) (by decide) (by decide) (fun r8 S9 r_r8 w_S9 => ?_)
      refine zW_ite ?_ ?_
      · exact zW_ret w_S9 (zrl rfl)
      · refine zW_ite ?_ ?_
        · exact zW_ret w_S9 (zrl rfl)
        · refine zW_ite ?_ ?_
          · exact zW_ret w_S9 (zrl rfl)
          · refine zW_ite ?_ ?_
            · exact zW_ret w_S9 (zrl rfl)
            · refine zW_zg ?_
              refine zW_ite ?_ ?_
              · exact zW_ret w_S9 (zrl rfl)
              · refine zW_zg ?_
                refine zW_ite ?_ ?_
                · exact zW_ret w_S9 (zrl rfl)
                · refine zW_zg ?_
                  refine zW_ite ?_ ?_
                  · exact zW_ret w_S9 (zrl rfl)
                  · refine zW_zb (W_M_X12_areNear r_a1 r_a2 w_S9) (by decide) (by decide) (fun r20 S21 r_r20 w_S21 => ?_)
                    refine zW_ite ?_ ?_
                    · exact zW_ret w_S21 (zrl rfl)
                    · refine zW_zb (W_M_X12_areNear r_a1 r_a3 w_S21) (by decide) (by decide) (fun r23 S24 r_r23 w_S24 => ?_)
                      refine zW_ite ?_ ?_
                      · exact zW_ret w_S24 (zrl rfl)
                      · refine zW_zb (W_M_X12_areNear r_a2 r_a3 w_S24) (by decide) (by decide) (fun r26 S27 r_r26 w_S27 => ?_)
                        refine zW_ite ?_ ?_
                        · exact zW_ret w_S27 (zrl rfl)
                        · refine zW_zg ?_
                          refine zW_up w_S27 sw_72 (by decide) (w_S27 51 _ sw_51 54) (fun S30 w_S30 => ?_)
                          refine zW_zg ?_
                          refine zW_up w_S30 sw_72 (by decide) (w_S30 51 _ sw_51 54) (fun S32 w_S32 => ?_)
                          refine zW_zg ?_
                          refine zW_up w_S32 sw_72 (by decide) (w_S32 51 _ sw_51 54) (fun S34 w_S34 => ?_)
                          refine zW_zl (fun x35 r_x35 => ?_)
                          refine zW_upO w_S34 sw_51 (by decide) r_x35 (fun S36 w_S36 => ?_)
                          exact zW_ret w_S36 (w_S36 51 _ sw_51 54)
abbrev mA_X12_sortOf : List Nat := []
abbrev mO_X12_sortOf : List (Nat × Int) := []
set_option maxHeartbeats 4000000 in
set_option maxRecDepth 20000 in
theorem W_M_X12_sortOf {a1 : Int} {S : HS} (r_a1 : rng a1) (w_S : WR shF S) : zW mA_X12_sortOf mO_X12_sortOf rng S (M_X12_sortOf a1 S) := by
  unfold M_X12_sortOf
  refine zW_zg ?_
  refine zW_ite ?_ ?_
  · refine zW_zg ?_
    refine zW_ite ?_ ?_
    · refine zW_zg ?_
      refine zW_ite ?_ ?_
      · exact zW_ret w_S (zrl rfl)
      · exact zW_ret w_S (zrl rfl)
    · exact zW_ret w_S (zrl rfl)
  · exact zW_ret w_S (zrl rfl)
abbrev mA_X12_isUnlike : List Nat := []
abbrev mO_X12_isUnlike : List (Nat × Int) := []
set_option maxHeartbeats 4000000 in
set_option maxRecDepth 20000 in
theorem W_M_X12_isUnlike {a1 : Int} {S : HS} (r_a1 : rng a1) (w_S : WR shF S) : zW mA_X12_isUnlike mO_X12_isUnlike rng S (M_X12_isUnlike a1 S) := by
  unfold M_X12_isUnlike
  refine zW_zb (W_M_X12_sortOf r_a1 w_S) (by decide) (by decide) (fun r1 S2 r_r1 w_S2 => ?_)
  refine zW_zg ?_
  refine zW_zg ?_
  refine zW_zl (fun x5 r_x5 => ?_)
  refine zW_zb (W_M_X12_sortOf r_x5 w_S2) (by decide) (by decide) (fun r6 S7 r_r6 w_S7 => ?_)
  refine zW_ite ?_ ?_
  · exact zW_ret w_S7 (zrl rfl)
  · exact zW_ret w_S7 (zrl rfl)
abbrev mA_X12_look : List Nat := [77, 78]
abbrev mO_X12_look : List (Nat × Int) := [(51, 0)]
set_option maxHeartbeats 4000000 in
set_option maxRecDepth 20000 in
theorem W_J_X12_look_23 {v1 : Int} {v2 : Int} {v3 : Int} {t0 : Int} {S : HS} (r_v1 : rng v1) (r_v2 : rng v2) (r_v3 : rng v3) (r_t0 : rng t0) (w_S : WR shF S) : zW mA_X12_look mO_X12_look rng S (J_X12_look_23 v1 v2 v3 t0 S) := by
  unfold J_X12_look_23
  refine zW_upO w_S sw_51 (by decide) r_t0 (fun S4 w_S4 => ?_)
  refine zW_ite ?_ ?_
  · refine zW_zl (fun x6 r_x6 => ?_)
    refine zW_zb (W_M_X12_findTaken w_S4) (by decide) (by decide) (fun _ S8 _ w_S8 => ?_)
    refine zW_ite ?_ ?_
    · refine zW_zg ?_
      exact zW_ret w_S8 (w_S8 67 _ sw_67 x6)
    · refine zW_ite ?_ ?_
      · refine zW_zb (W_M_X12_isUnlike r_x6 w_S8) (by decide) (by decide) (fun r12 S13 r_r12 w_S13 => ?_)
        refine zW_ite ?_ ?_
        · exact zW_ret w_S13 (zrl rfl)
        · exact zW_ret w_S13 (zrl rfl)
      · refine zW_zg ?_
        exact zW_ret w_S8 (w_S8 68 _ sw_68 x6)
  · exact zW_ret w_S4 (zrl rfl)
set_option maxHeartbeats 4000000 in
set_option maxRecDepth 20000 in
theorem W_J_X12_look_22 {v1 : Int} {v2 : Int} {v3 : Int} {S : HS} (r_v1 : rng v1) (r_v2 : rng v2) (r_v3 : rng v3) (w_S : WR shF S) : zW mA_X12_look mO_X12_look rng S (J_X12_look_22 v1 v2 v3 S) := by
  unfold J_X12_look_22
  exact W_J_X12_look_23 r_v1 r_v2 r_v3 (zrl rfl) w_S
set_option maxHeartbeats 4000000 in
set_option maxRecDepth 20000 in
theorem W_M_X12_look {a1 : Int} {a2 : Int} {a3 : Int} {S : HS} (r_a1 : rng a1) (r_a2 : rng a2) (r_a3 : rng a3) (w_S : WR shF S) : zW mA_X12_look mO_X12_look rng S (M_X12_look a1 a2 a3 S) := by
  unfold M_X12_look
  refine zW_zb (W_M_X12_isCell r_a1 r_a2 w_S) (by decide) (by decide) (fun r1 S2 r_r1 w_S2 => ?_)
  refine zW_ite ?_ ?_
  · exact W_J_X12_look_22 r_a1 r_a2 r_a3 w_S2
  · refine zW_ite ?_ ?_
    · exact W_J_X12_look_22 r_a1 r_a2 r_a3 w_S2
    · refine zW_ite ?_ ?_
      · exact W_J_X12_look_22 r_a1 r_a2 r_a3 w_S2
      · exact W_J_X12_look_23 r_a1 r_a2 r_a3 (zrl rfl) w_S2
abbrev mA_X12_lastWeights : List Nat := [77, 78, 83, 84, 85, 86, 87, 88]
abbrev mO_X12_lastWeights : List (Nat × Int) := []
set_option maxHeartbeats 4000000 in
set_option maxRecDepth 20000 in
theorem W_M_X12_lastWeights {a1 : Int} {S : HS} (r_a1 : rng a1) (w_S : WR shF S) : zW mA_X12_lastWeights mO_X12_lastWeights rng S (M_X12_lastWeights a1 S) := by
  unfold M_X12_lastWeights
  refine zW_zb (W_M_X12_braids r_a1 w_S) (by decide) (by decide) (fun _ S2 _ w_S2 => ?_)
  refine zW_zg ?_
  refine zW_zl (fun x4 r_x4 => ?_)
  refine zW_zg ?_
  refine zW_zg ?_
  refine zW_zg ?_
  refine zW_zl (fun x8 r_x8 => ?_)
  exact zW_ret w_S2 r_x8
abbrev mA_X12_workOf : List Nat := [77, 78, 83, 84, 85, 86, 87, 88]
abbrev mO_X12_workOf : List (Nat × Int) := []
set_option maxHeartbeats 4000000 in
set_option maxRecDepth 20000 in
theorem W_M_X12_workOf {a1 : Int} {S : HS} (r_a1 : rng a1) (w_S : WR shF S) : zW mA_X12_workOf mO_X12_workOf rng S (M_X12_workOf a1 S) := by
  unfold M_X12_workOf
  refine zW_zg ?_
  refine zW_zb (W_M_X12_lastWeights r_a1 w_S) (by decide) (by decide) (fun r2 S3 r_r2 w_S3 => ?_)
  refine zW_zg ?_
  refine zW_zb (W_M_X12_timesAdded r_a1 w_S3) (by decide) (by decide) (fun r5 S6 r_r5 w_S6 => ?_)
  refine zW_zl (fun x7 r_x7 => ?_)
  exact zW_ret w_S6 r_x7
abbrev mA_X12_work : List Nat := [77, 78, 83, 84, 85, 86, 87, 88]
abbrev mO_X12_work : List (Nat × Int) := [(51, 0)]
set_option maxHeartbeats 4000000 in
set_option maxRecDepth 20000 in
theorem W_M_X12_work {a1 : Int} {S : HS} (r_a1 : rng a1) (w_S : WR shF S) : zW mA_X12_work mO_X12_work rng S (M_X12_work a1 S) := by
  unfold M_X12_work
  refine zW_upO w_S sw_51 (by decide) (zrl rfl) (fun S1 w_S1 => ?_)
  refine zW_zb (W_M_X12_isRow r_a1 w_S1) (by decide) (by decide) (fun r2 S3 r_r2 w_S3 => ?_)
  refine zW_ite ?_ ?_
  · exact zW_ret w_S3 (zrl rfl)
  · refine zW_zb (W_M_X12_workOf r_a1 w_S3) (by decide) (by decide) (fun r5 S6 r_r5 w_S6 => ?_)
    exact zW_ret w_S6 r_r5
abbrev mA_X12_hands : List Nat := [89]
abbrev mO_X12_hands : List (Nat × Int) := [(51, 0)]
set_option maxHeartbeats 4000000 in
set_option maxRecDepth 20000 in
theorem W_J_X12_hands_63 {t0 : Int} {t1 : Int} {S : HS} (r_t0 : rng t0) (r_t1 : rng t1) (w_S : WR shF S) : zW mA_X12_hands mO_X12_hands rng S (J_X12_hands_63 t0 t1 S) := by
  unfold J_X12_hands_63
  refine zW_zg ?_
  refine zW_up w_S sw_89 (by decide) r_t0 (fun S12 w_S12 => ?_)
  exact zW_ret w_S12 (zrl rfl)
set_option maxHeartbeats 4000000 in
set_option maxRecDepth 20000 in
theorem W_M_X12_hands {a1 : Int} {a2 : Int} {a3 : Int} {S : HS} (r_a1 : rng a1) (r_a2 : rng a2) (r_a3 : rng a3) (w_S : WR shF S) : zW mA_X12_hands mO_X12_hands rng S (M_X12_hands a1 a2 a3 S) := by
  unfold M_X12_hands
  refine zW_upO w_S sw_51 (by decide) (zrl rfl) (fun S1 w_S1 => ?_)
  refine zW_ite ?_ ?_
  · exact zW_ret w_S1 (zrl rfl)
  · refine zW_ite ?_ ?_
    · exact zW_ret w_S1 (zrl rfl)
    · refine zW_ite ?_ ?_
      · exact zW_ret w_S1 (zrl rfl)
      · refine zW_ite ?_ ?_
        · exact zW_ret w_S1 (zrl rfl)
        · refine zW_ite ?_ ?_
          · exact zW_ret w_S1 (zrl rfl)
          · refine zW_ite ?_ ?_
            · refine zW_up w_S1 sw_89 (by decide) r_a1 (fun S8 w_S8 => ?_)
              refine zW_up w_S8 sw_89 (by decide) r_a2 (fun S9 w_S9 => ?_)
              refine zW_ite ?_ ?_
              · exact W_J_X12_hands_63 (zrl rfl) (zrl rfl) w_S9
              · exact W_J_X12_hands_63 r_a3 (zrl rfl) w_S9
            · exact zW_ret w_S1 (zrl rfl)
abbrev mA_X12_holdsFor : List Nat := [77, 78, 83, 84, 85, 86, 87, 88]
abbrev mO_X12_holdsFor : List (Nat × Int) := []
set_option maxHeartbeats 4000000 in
set_option maxRecDepth 20000 in
theorem W_L_X12_holdsFor_13 {k39 : Int → HS → zO2} {p1 : Int} (hk39 : ∀ (w0 : Int) (S : HS), rng w0 → WR shF S → zW mA_X12_holdsFor mO_X12_holdsFor rng S (k39 w0 S)) (r_p1 : rng p1) : ∀ (n : Nat) {v2 : Int} {v3 : Int} {S : HS}, rng v2 → rng v3 → WR shF S → zW mA_X12_holdsFor mO_X12_holdsFor rng S (L_X12_holdsFor_13 k39 p1 n v2 v3 S) := by
  intro n
  induction n with
  | zero =>
    intro _ _ _ _ _ _
    exact zW_none
  | succ n ih =>
    intro v2 v3 S r_v2 r_v3 w_S
    rw [L_X12_holdsFor_13.eq_2]
    refine zW_zg ?_
    refine zW_ite ?_ ?_
    · exact hk39 _ _ r_v2 w_S
    · refine zW_zb (W_M_X12_fewest r_v3 w_S) (by decide) (by decide) (fun r7 S8 r_r7 w_S8 => ?_)
      refine zW_zb (W_M_X12_least r_v2 r_r7 w_S8) (by decide) (by decide) (fun r9 S10 r_r9 w_S10 => ?_)
      refine zW_zl (fun x11 r_x11 => ?_)
      exact ih r_r9 r_x11 w_S10
set_option maxHeartbeats 4000000 in
set_option maxRecDepth 20000 in
theorem W_M_X12_holdsFor {a1 : Int} {S : HS} (r_a1 : rng a1) (w_S : WR shF S) : zW mA_X12_holdsFor mO_X12_holdsFor rng S (M_X12_holdsFor a1 S) := by
  unfold M_X12_holdsFor
  refine zW_zb (W_M_X12_braids r_a1 w_S) (by decide) (by decide) (fun _ S2 _ w_S2 => ?_)
  refine zW_zb (W_M_X12_fewest (zrl rfl) w_S2) (by decide) (by decide) (fun r3 S4 r_r3 w_S4 => ?_)
  exact W_L_X12_holdsFor_13 (fun e2 S12 r_e2 w_S12 => by
          refine zW_zg ?_
          refine zW_zl (fun x14 r_x14 => ?_)
          refine zW_zb (W_M_X12_least (zrl rfl) r_x14 w_S12) (by decide) (by decide) (fun r15 S16 r_r15 w_S16 => ?_)
          exact zW_ret w_S16 r_r15) r_a1 _ r_r3 (zrl rfl) w_S4
abbrev mA_X12_isOutNow : List Nat := [77, 78, 83, 84, 85, 86, 87, 88]
abbrev mO_X12_isOutNow : List (Nat × Int) := []
set_option maxHeartbeats 4000000 in
set_option maxRecDepth 20000 in
theorem W_M_X12_isOutNow {a1 : Int} {S : HS} (r_a1 : rng a1) (w_S : WR shF S) : zW mA_X12_isOutNow mO_X12_isOutNow rng S (M_X12_isOutNow a1 S) := by
  unfold M_X12_isOutNow
  refine zW_zg ?_
  refine zW_ite ?_ ?_
  · exact zW_ret w_S (zrl rfl)
  · refine zW_zg ?_
    refine zW_zb (W_M_X12_holdsFor r_a1 w_S) (by decide) (by decide) (fun r4 S5 r_r4 w_S5 => ?_)
    refine zW_zl (fun x6 r_x6 => ?_)
    refine zW_ite ?_ ?_
    · exact zW_ret w_S5 (zrl rfl)
    · exact zW_ret w_S5 (zrl rfl)
abbrev mA_X12_timeOf : List Nat := [93]
abbrev mO_X12_timeOf : List (Nat × Int) := []
set_option maxHeartbeats 4000000 in
set_option maxRecDepth 20000 in
theorem W_L_X12_timeOf_2 {k20 : HS → zO2} {p1 : Int} (hk20 : ∀ (S : HS), WR shF S → zW mA_X12_timeOf mO_X12_timeOf rng S (k20 S)) (r_p1 : rng p1) : ∀ (n : Nat) {v2 : Int} {S : HS}, rng v2 → WR shF S → zW mA_X12_timeOf mO_X12_timeOf rng S (L_X12_timeOf_2 k20 p1 n v2 S) := by
  intro n
  induction n with
  | zero =>
    intro _ _ _ _
    exact zW_none
  | succ n ih =>
    intro v2 S r_v2 w_S
    rw [L_X12_timeOf_2.eq_2]
    refine zW_ite ?_ ?_
    · exact hk20 _ w_S
    · refine zW_zg ?_
      refine zW_up w_S sw_93 (by decide) (zrl rfl) (fun S3 w_S3 => ?_)
      refine zW_zl (fun x4 r_x4 => ?_)
      exact ih r_x4 w_S3
set_option maxHeartbeats 4000000 in
set_option maxRecDepth 20000 in
theorem W_L_X12_timeOf_29 {k94 : HS → zO2} (hk94 : ∀ (S : HS), WR shF S → zW mA_X12_timeOf mO_X12_timeOf rng S (k94 S)) : ∀ (n : Nat) {v2 : Int} {v3 : Int} {S : HS}, rng v2 → rng v3 → WR shF S → zW mA_X12_timeOf mO_X12_timeOf rng S (L_X12_timeOf_29 k94 n v2 v3 S) := by
  intro n
  induction n with
  | zero =>
    intro _ _ _ _ _ _
    exact zW_none
  | succ n ih =>
    intro v2 v3 S r_v2 r_v3 w_S
    rw [L_X12_timeOf_29.eq_2]
    refine zW_ite ?_ ?_
    · exact hk94 _ w_S
    · refine zW_zg ?_
      refine zW_zl (fun x9 r_x9 => ?_)
      refine zW_zg ?_
      refine zW_zl (fun x11 r_x11 => ?_)
      refine zW_zg ?_
      refine zW_ite ?_ ?_
      · exact zW_ret w_S (zrl rfl)
      · refine zW_zg ?_
        refine zW_zg ?_
        refine zW_zg ?_
        refine zW_zg ?_
        refine zW_zl (fun x18 r_x18 => ?_)
        refine zW_zg ?_
        refine zW_zl (fun x20 r_x20 => ?_)
        refine zW_zg ?_
        refine zW_up w_S sw_93 (by decide) r_x20 (fun S22 w_S22 => ?_)
        refine zW_zl (fun x23 r_x23 => ?_)
        exact ih r_x11 r_x23 w_S22
set_option maxHeartbeats 4000000 in
set_option maxRecDepth 20000 in
theorem W_J_X12_timeOf_121 {t0 : Int} {S : HS} (r_t0 : rng t0) (w_S : WR shF S) : zW mA_X12_timeOf mO_X12_timeOf rng S (J_X12_timeOf_121 t0 S) := by
  unfold J_X12_timeOf_121
  refine zW_ite ?_ ?_
  · exact zW_ret w_S r_t0
  · exact zW_ret w_S (w_S 93 _ sw_93 2)
set_option maxHeartbeats 4000000 in
set_option maxRecDepth 20000 in
theorem W_M_X12_timeOf {a1 : Int} {S : HS} (r_a1 : rng a1) (w_S : WR shF S) : zW mA_X12_timeOf mO_X12_timeOf rng S (M_X12_timeOf a1 S) := by
  unfold M_X12_timeOf
  exact W_L_X12_timeOf_2 (fun S5  w_S5 => by
          refine zW_zl (fun x6 r_x6 => ?_)
          exact W_L_X12_timeOf_29 (fun S24  w_S24 => by
          refine zW_ite ?_ ?_
          · exact W_J_X12_timeOf_121 (w_S24 93 _ sw_93 0) w_S24
          · exact W_J_X12_timeOf_121 (w_S24 93 _ sw_93 1) w_S24) _ r_a1 r_x6 w_S5) r_a1 _ (zrl rfl) w_S
abbrev mA_X12_findPlan : List Nat := [77, 78, 83, 84, 85, 86, 87, 88, 90, 91, 92, 93]
abbrev mO_X12_findPlan : List (Nat × Int) := [(51, 56), (51, 60)]
set_option maxHeartbeats 4000000 in
set_option maxRecDepth 20000 in
theorem W_J_X12_findPlan_75 {k7 : Int → HS → zO2} {v1 : Int} {S : HS} (hk7 : ∀ (w0 : Int) (S : HS), rng w0 → WR shF S → zW mA_X12_findPlan mO_X12_findPlan rng S (k7 w0 S)) (r_v1 : rng v1) (w_S : WR shF S) : zW mA_X12_findPlan mO_X12_findPlan rng S (J_X12_findPlan_75 k7 v1 S) := by
  unfold J_X12_findPlan_75
  refine zW_zl (fun x14 r_x14 => ?_)
  exact hk7 _ _ r_x14 w_S
set_option maxHeartbeats 4000000 in
set_option maxRecDepth 20000 in
theorem W_J_X12_findPlan_41 {k7 : Int → HS → zO2} {v1 : Int} {S : HS} (hk7 : ∀ (w0 : Int) (S : HS), rng w0 → WR shF S → zW mA_X12_findPlan mO_X12_findPlan rng S (k7 w0 S)) (r_v1 : rng v1) (w_S : WR shF S) : zW mA_X12_findPlan mO_X12_findPlan rng S (J_X12_findPlan_41 k7 v1 S) := by
  unfold J_X12_findPlan_41
  refine zW_zg ?_
  refine zW_up w_S sw_90 (by decide) r_v1 (fun S7 w_S7 => ?_)
  refine zW_zb (W_M_X12_workOf r_v1 w_S7) (by decide) (by decide) (fun r8 S9 r_r8 w_S9 => ?_)
  refine zW_zg ?_
  refine zW_up w_S9 sw_91 (by decide) r_r8 (fun S11 w_S11 => ?_)
  refine zW_zl (fun x12 r_x12 => ?_)
  refine zW_upO w_S11 sw_51 (by decide) r_x12 (fun S13 w_S13 => ?_)
  exact W_J_X12_findPlan_75 hk7 r_v1 w_S13
set_option maxHeartbeats 4000000 in
set_option maxRecDepth 20000 in
theorem W_L_X12_findPlan_7 {k81 : HS → zO2} (hk81 : ∀ (S : HS), WR shF S → zW mA_X12_findPlan mO_X12_findPlan rng S (k81 S)) : ∀ (n : Nat) {v1 : Int} {S : HS}, rng v1 → WR shF S → zW mA_X12_findPlan mO_X12_findPlan rng S (L_X12_findPlan_7 k81 n v1 S) := by
  intro n
  induction n with
  | zero =>
    intro _ _ _ _
    exact zW_none
  | succ n ih =>
    intro v1 S r_v1 w_S
    rw [L_X12_findPlan_7.eq_2]
    refine zW_ite ?_ ?_
    · exact hk81 _ w_S
    · refine zW_ite ?_ ?_
      · exact hk81 _ w_S
      · refine zW_zg ?_
        refine zW_ite ?_ ?_
        · exact W_J_X12_findPlan_41 (fun q0_ T_ r_q0_ w_T_ => ih r_q0_ w_T_) r_v1 w_S
        · refine zW_zb (W_M_X12_isOutNow r_v1 w_S) (by decide) (by decide) (fun r15 S16 r_r15 w_S16 => ?_)
          refine zW_ite ?_ ?_
          · exact W_J_X12_findPlan_75 (fun q0_ T_ r_q0_ w_T_ => ih r_q0_ w_T_) r_v1 w_S16
          · exact W_J_X12_findPlan_41 (fun q0_ T_ r_q0_ w_T_ => ih r_q0_ w_T_) r_v1 w_S16
set_option maxHeartbeats 4000000 in
set_option maxRecDepth 20000 in
theorem W_L_X12_findPlan_85 {k103 : Int → HS → zO2} (hk103 : ∀ (w0 : Int) (S : HS), rng w0 → WR shF S → zW mA_X12_findPlan mO_X12_findPlan rng S (k103 w0 S)) : ∀ (n : Nat) {v1 : Int} {v2 : Int} {S : HS}, rng v1 → rng v2 → WR shF S → zW mA_X12_findPlan mO_X12_findPlan rng S (L_X12_findPlan_85 k103 n v1 v2 S) := by
  intro n
  induction n with
  | zero =>
    intro _ _ _ _ _ _
    exact zW_none
  | succ n ih =>
    intro v1 v2 S r_v1 r_v2 w_S
    rw [L_X12_findPlan_85.eq_2]
    refine zW_ite ?_ ?_
    · exact hk103 _ _ r_v1 w_S
    · refine zW_zl (fun x20 r_x20 => ?_)
      refine zW_zl (fun x21 r_x21 => ?_)
      exact ih r_x20 r_x21 w_S
set_option maxHeartbeats 4000000 in
set_option maxRecDepth 20000 in
theorem W_J_X12_findPlan_184 {k110 : Int → HS → zO2} {v1 : Int} {v2 : Int} {S : HS} (hk110 : ∀ (w0 : Int) (S : HS), rng w0 → WR shF S → zW mA_X12_findPlan mO_X12_findPlan rng S (k110 w0 S)) (r_v1 : rng v1) (r_v2 : rng v2) (w_S : WR shF S) : zW mA_X12_findPlan mO_X12_findPlan rng S (J_X12_findPlan_184 k110 v1 v2 S) := by
  unfold J_X12_findPlan_184
  refine zW_zl (fun x28 r_x28 => ?_)
  exact hk110 _ _ r_x28 w_S
set_option maxHeartbeats 4000000 in
set_option maxRecDepth 20000 in
theorem W_L_X12_findPlan_156 {k184 : HS → zO2} {p1 : Int} {p2 : Int} (hk184 : ∀ (S : HS), WR shF S → zW mA_X12_findPlan mO_X12_findPlan rng S (k184 S)) (r_p1 : rng p1) (r_p2 : rng p2) : ∀ (n : Nat) {v4 : Int} {v5 : Int} {S : HS}, rng v4 → rng v5 → WR shF S → zW mA_X12_findPlan mO_X12_findPlan rng S (L_X12_findPlan_156 k184 p1 p2 n v4 v5 S) := by
  intro n
  induction n with
  | zero =>
    intro _ _ _ _ _ _
    exact zW_none
  | succ n ih =>
    intro v4 v5 S r_v4 r_v5 w_S
    rw [L_X12_findPlan_156.eq_2]
    refine zW_ite ?_ ?_
    · exact hk184 _ w_S
    · refine zW_zg ?_
      refine zW_zl (fun x34 r_x34 => ?_)
      refine zW_zg ?_
      refine zW_up w_S sw_92 (by decide) r_x34 (fun S36 w_S36 => ?_)
      refine zW_zg ?_
      refine zW_zl (fun x38 r_x38 => ?_)
      refine zW_zl (fun x39 r_x39 => ?_)
      exact ih r_x38 r_x39 w_S36
set_option maxHeartbeats 4000000 in
set_option maxRecDepth 20000 in
theorem W_J_X12_findPlan_140 {k110 : Int → HS → zO2} {v1 : Int} {v2 : Int} {v3 : Int} {S : HS} (hk110 : ∀ (w0 : Int) (S : HS), rng w0 → WR shF S → zW mA_X12_findPlan mO_X12_findPlan rng S (k110 w0 S)) (r_v1 : rng v1) (r_v2 : rng v2) (r_v3 : rng v3) (w_S : WR shF S) : zW mA_X12_findPlan mO_X12_findPlan rng S (J_X12_findPlan_140 k110 v1 v2 v3 S) := by
  unfold J_X12_findPlan_140
  refine zW_upO w_S sw_51 (by decide) r_v3 (fun S30 w_S30 => ?_)
  refine zW_zl (fun x31 r_x31 => ?_)
  exact W_L_X12_findPlan_156 (fun S40  w_S40 => by
          exact W_J_X12_findPlan_184 hk110 r_v1 r_v2 w_S40) r_v1 r_v2 _ r_v2 r_x31 w_S30
set_option maxHeartbeats 4000000 in
set_option maxRecDepth 20000 in
theorem W_L_X12_findPlan_110 {p1 : Int} (r_p1 : rng p1) : ∀ (n : Nat) {v2 : Int} {S : HS}, rng v2 → WR shF S → zW mA_X12_findPlan mO_X12_findPlan rng S (L_X12_findPlan_110 p1 n v2 S) := by
  intro n
  induction n with
  | zero =>
    intro _ _ _ _
    exact zW_none
  | succ n ih =>
    intro v2 S r_v2 w_S
    rw [L_X12_findPlan_110.eq_2]
    refine zW_ite ?_ ?_
    · exact zW_ret w_S (zrl rfl)
    · refine zW_zb (W_M_X12_timeOf r_v2 w_S) (by decide) (by decide) (fun r25 S26 r_r25 w_S26 => ?_)
      refine zW_ite ?_ ?_
      · exact W_J_X12_findPlan_184 (fun q0_ T_ r_q0_ w_T_ => ih r_q0_ w_T_) r_p1 r_v2 w_S26
      · refine zW_ite ?_ ?_
        · exact W_J_X12_findPlan_140 (fun q0_ T_ r_q0_ w_T_ => ih r_q0_ w_T_) r_p1 r_v2 r_r25 w_S26
        · refine zW_ite ?_ ?_
          · exact W_J_X12_findPlan_184 (fun q0_ T_ r_q0_ w_T_ => ih r_q0_ w_T_) r_p1 r_v2 w_S26
          · exact W_J_X12_findPlan_140 (fun q0_ T_ r_q0_ w_T_ => ih r_q0_ w_T_) r_p1 r_v2 r_r25 w_S26
set_option maxHeartbeats 4000000 in
set_option maxRecDepth 20000 in
theorem W_J_X12_findPlan_81 {S : HS} (w_S : WR shF S) : zW mA_X12_findPlan mO_X12_findPlan rng S (J_X12_findPlan_81 S) := by
  unfold J_X12_findPlan_81
  exact W_L_X12_findPlan_85 (fun e1 S22 r_e1 w_S22 => by
          refine zW_upO w_S22 sw_51 (by decide) (zrl rfl) (fun S23 w_S23 => ?_)
          exact W_L_X12_findPlan_110 r_e1 _ (zrl rfl) w_S23) _ (zrl rfl) (zrl rfl) w_S
set_option maxHeartbeats 4000000 in
set_option maxRecDepth 20000 in
theorem W_M_X12_findPlan {S : HS} (w_S : WR shF S) : zW mA_X12_findPlan mO_X12_findPlan rng S (M_X12_findPlan S) := by
  unfold M_X12_findPlan
  refine zW_upO w_S sw_51 (by decide) (zrl rfl) (fun S1 w_S1 => ?_)
  exact W_L_X12_findPlan_7 (fun S18  w_S18 => by
          exact W_J_X12_findPlan_81 w_S18) _ (zrl rfl) w_S1
abbrev mA_X12_plan : List Nat := [77, 78, 83, 84, 85, 86, 87, 88, 90, 91, 92, 93]
abbrev mO_X12_plan : List (Nat × Int) := [(51, 0), (51, 56), (51, 60)]
set_option maxHeartbeats 4000000 in
set_option maxRecDepth 20000 in
theorem W_M_X12_plan {a1 : Int} {S : HS} (r_a1 : rng a1) (w_S : WR shF S) : zW mA_X12_plan mO_X12_plan rng S (M_X12_plan a1 S) := by
  unfold M_X12_plan
  refine zW_upO w_S sw_51 (by decide) (zrl rfl) (fun S1 w_S1 => ?_)
  refine zW_zb (W_M_X12_findPlan w_S1) (by decide) (by decide) (fun _ S3 _ w_S3 => ?_)
  refine zW_ite ?_ ?_
  · exact zW_ret w_S3 (w_S3 51 _ sw_51 60)
  · refine zW_ite ?_ ?_
    · refine zW_ite ?_ ?_
      · exact zW_ret w_S3 (zrl rfl)
      · refine zW_zl (fun x8 r_x8 => ?_)
        refine zW_zg ?_
        refine zW_zl (fun x10 r_x10 => ?_)
        exact zW_ret w_S3 r_x10
    · refine zW_ite ?_ ?_
      · exact zW_ret w_S3 (w_S3 51 _ sw_51 56)
      · exact zW_ret w_S3 (zrl rfl)
abbrev mA_X12_planned : List Nat := [77, 78, 83, 84, 85, 86, 87, 88, 90, 91, 92, 93]
abbrev mO_X12_planned : List (Nat × Int) := [(51, 0), (51, 56), (51, 60)]
set_option maxHeartbeats 4000000 in
set_option maxRecDepth 20000 in
theorem W_J_X12_planned_41 {k13 : Int → Int → HS → zO2} {v1 : Int} {v3 : Int} {t0 : Int} {S : HS} (hk13 : ∀ (w0 w1 : Int) (S : HS), rng w0 → rng w1 → WR shF S → zW mA_X12_planned mO_X12_planned rng S (k13 w0 w1 S)) (r_v1 : rng v1) (r_v3 : rng v3) (r_t0 : rng t0) (w_S : WR shF S) : zW mA_X12_planned mO_X12_planned rng S (J_X12_planned_41 k13 v1 v3 t0 S) := by
  unfold J_X12_planned_41
  refine zW_zl (fun x7 r_x7 => ?_)
  exact hk13 _ _ _ r_t0 r_x7 w_S
set_option maxHeartbeats 4000000 in
set_option maxRecDepth 20000 in
theorem W_L_X12_planned_13 {p1 : Int} (r_p1 : rng p1) : ∀ (n : Nat) {v2 : Int} {v3 : Int} {S : HS}, rng v2 → rng v3 → WR shF S → zW mA_X12_planned mO_X12_planned rng S (L_X12_planned_13 p1 n v2 v3 S) := by
  intro n
  induction n with
  | zero =>
    intro _ _ _ _ _ _
    exact zW_none
  | succ n ih =>
    intro v2 v3 S r_v2 r_v3 w_S
    rw [L_X12_planned_13.eq_2]
    refine zW_ite ?_ ?_
    · exact zW_ret w_S r_v2
    · refine zW_zg ?_
      refine zW_ite ?_ ?_
      · refine zW_zg ?_
        exact W_J_X12_planned_41 (fun q0_ q1_ T_ r_q0_ r_q1_ w_T_ => ih r_q0_ r_q1_ w_T_) r_p1 r_v3 (w_S 92 _ sw_92 v3) w_S
      · exact W_J_X12_planned_41 (fun q0_ q1_ T_ r_q0_ r_q1_ w_T_ => ih r_q0_ r_q1_ w_T_) r_p1 r_v3 r_v2 w_S
set_option maxHeartbeats 4000000 in
set_option maxRecDepth 20000 in
theorem W_M_X12_planned {a1 : Int} {S : HS} (r_a1 : rng a1) (w_S : WR shF S) : zW mA_X12_planned mO_X12_planned rng S (M_X12_planned a1 S) := by
  unfold M_X12_planned
  refine zW_upO w_S sw_51 (by decide) (zrl rfl) (fun S1 w_S1 => ?_)
  refine zW_zb (W_M_X12_findPlan w_S1) (by decide) (by decide) (fun _ S3 _ w_S3 => ?_)
  exact W_L_X12_planned_13 r_a1 _ (zrl rfl) (zrl rfl) w_S3
abbrev mA_X12_done : List Nat := [71]
abbrev mO_X12_done : List (Nat × Int) := [(51, 0)]
set_option maxHeartbeats 4000000 in
set_option maxRecDepth 20000 in
theorem W_L_X12_done_7 {k31 : HS → zO2} (hk31 : ∀ (S : HS), WR shF S → zW mA_X12_done mO_X12_done rng S (k31 S)) : ∀ (n : Nat) {v1 : Int} {S : HS}, rng v1 → WR shF S → zW mA_X12_done mO_X12_done rng S (L_X12_done_7 k31 n v1 S) := by
  intro n
  induction n with
  | zero =>
    intro _ _ _ _
    exact zW_none
  | succ n ih =>
    intro v1 S r_v1 w_S
    rw [L_X12_done_7.eq_2]
    refine zW_ite ?_ ?_
    · exact hk31 _ w_S
    · refine zW_zg ?_
      refine zW_up w_S sw_71 (by decide) (w_S 51 _ sw_51 38) (fun S4 w_S4 => ?_)
      refine zW_zl (fun x5 r_x5 => ?_)
      exact ih r_x5 w_S4
set_option maxHeartbeats 4000000 in
set_option maxRecDepth 20000 in
theorem W_M_X12_done {S : HS} (w_S : WR shF S) : zW mA_X12_done mO_X12_done rng S (M_X12_done S) := by
  unfold M_X12_done
  refine zW_upO w_S sw_51 (by decide) (zrl rfl) (fun S1 w_S1 => ?_)
  exact W_L_X12_done_7 (fun S6  w_S6 => by
          exact zW_ret w_S6 (w_S6 51 _ sw_51 27)) _ (zrl rfl) w_S1
abbrev mA_X12_weeks : List Nat := []
abbrev mO_X12_weeks : List (Nat × Int) := [(51, 0), (51, 37), (51, 38)]
set_option maxHeartbeats 4000000 in
set_option maxRecDepth 20000 in
theorem W_M_X12_weeks {a1 : Int} {S : HS} (r_a1 : rng a1) (w_S : WR shF S) : zW mA_X12_weeks mO_X12_weeks rng S (M_X12_weeks a1 S) := by
  unfold M_X12_weeks
  refine zW_upO w_S sw_51 (by decide) (zrl rfl) (fun S1 w_S1 => ?_)
  refine zW_ite ?_ ?_
  · exact zW_ret w_S1 (zrl rfl)
  · refine zW_ite ?_ ?_
    · exact zW_ret w_S1 (zrl rfl)
    · refine zW_zl (fun x4 r_x4 => ?_)
      refine zW_ite ?_ ?_
      · refine zW_zl (fun x6 r_x6 => ?_)
        refine zW_upO w_S1 sw_51 (by decide) r_x6 (fun S7 w_S7 => ?_)
        refine zW_zl (fun x8 r_x8 => ?_)
        refine zW_zb (W_M_X12_least (zrl rfl) r_x8 w_S7) (by decide) (by decide) (fun r9 S10 r_r9 w_S10 => ?_)
        refine zW_upO w_S10 sw_51 (by decide) r_r9 (fun S11 w_S11 => ?_)
        exact zW_ret w_S11 (w_S11 51 _ sw_51 38)
      · exact zW_ret w_S1 (zrl rfl)
abbrev mA_X12_holds : List Nat := [77, 78, 83, 84, 85, 86, 87, 88]
abbrev mO_X12_holds : List (Nat × Int) := [(51, 0)]
set_option maxHeartbeats 4000000 in
set_option maxRecDepth 20000 in
theorem W_M_X12_holds {a1 : Int} {S : HS} (r_a1 : rng a1) (w_S : WR shF S) : zW mA_X12_holds mO_X12_holds rng S (M_X12_holds a1 S) := by
  unfold M_X12_holds
  refine zW_upO w_S sw_51 (by decide) (zrl rfl) (fun S1 w_S1 => ?_)
  refine zW_zb (W_M_X12_isRow r_a1 w_S1) (by decide) (by decide) (fun r2 S3 r_r2 w_S3 => ?_)
  refine zW_ite ?_ ?_
  · exact zW_ret w_S3 (zrl rfl)
  · refine zW_zb (W_M_X12_holdsFor r_a1 w_S3) (by decide) (by decide) (fun r5 S6 r_r5 w_S6 => ?_)
    exact zW_ret w_S6 r_r5
abbrev mA_X12_isOut : List Nat := [77, 78, 83, 84, 85, 86, 87, 88]
abbrev mO_X12_isOut : List (Nat × Int) := [(51, 0)]
set_option maxHeartbeats 4000000 in
set_option maxRecDepth 20000 in
theorem W_M_X12_isOut {a1 : Int} {S : HS} (r_a1 : rng a1) (w_S : WR shF S) : zW mA_X12_isOut mO_X12_isOut rng S (M_X12_isOut a1 S) := by
  unfold M_X12_isOut
  refine zW_upO w_S sw_51 (by decide) (zrl rfl) (fun S1 w_S1 => ?_)
  refine zW_zb (W_M_X12_isRow r_a1 w_S1) (by decide) (by decide) (fun r2 S3 r_r2 w_S3 => ?_)
  refine zW_ite ?_ ?_
  · exact zW_ret w_S3 (zrl rfl)
  · refine zW_zb (W_M_X12_isOutNow r_a1 w_S3) (by decide) (by decide) (fun r5 S6 r_r5 w_S6 => ?_)
    refine zW_ite ?_ ?_
    · exact zW_ret w_S6 (zrl rfl)
    · exact zW_ret w_S6 (zrl rfl)
abbrev mA_X12_redo : List Nat := [71, 77, 78, 83, 84, 85, 86, 87, 88]
abbrev mO_X12_redo : List (Nat × Int) := [(51, 0)]
set_option maxHeartbeats 4000000 in
set_option maxRecDepth 20000 in
theorem W_M_X12_redo {a1 : Int} {S : HS} (r_a1 : rng a1) (w_S : WR shF S) : zW mA_X12_redo mO_X12_redo rng S (M_X12_redo a1 S) := by
  unfold M_X12_redo
  refine zW_upO w_S sw_51 (by decide) (zrl rfl) (fun S1 w_S1 => ?_)
  refine zW_zb (W_M_X12_isRow r_a1 w_S1) (by decide) (by decide) (fun r2 S3 r_r2 w_S3 => ?_)
  refine zW_ite ?_ ?_
  · exact zW_ret w_S3 (zrl rfl)
  · refine zW_zg ?_
    refine zW_ite ?_ ?_
    · exact zW_ret w_S3 (zrl rfl)
    · refine zW_zb (W_M_X12_isOutNow r_a1 w_S3) (by decide) (by decide) (fun r7 S8 r_r7 w_S8 => ?_)
      refine zW_ite ?_ ?_
      · exact zW_ret w_S8 (zrl rfl)
      · refine zW_zg ?_
        refine zW_up w_S8 sw_71 (by decide) (w_S8 51 _ sw_51 38) (fun S11 w_S11 => ?_)
        exact zW_ret w_S11 (zrl rfl)
abbrev mA_X12_cellsThat : List Nat := [77, 78]
abbrev mO_X12_cellsThat : List (Nat × Int) := []
set_option maxHeartbeats 4000000 in
set_option maxRecDepth 20000 in
theorem W_J_X12_cellsThat_106 {k8 : Int → Int → HS → zO2} {v1 : Int} {v2 : Int} {v3 : Int} {S : HS} (hk8 : ∀ (w0 w1 : Int) (S : HS), rng w0 → rng w1 → WR shF S → zW mA_X12_cellsThat mO_X12_cellsThat rng S (k8 w0 w1 S)) (r_v1 : rng v1) (r_v2 : rng v2) (r_v3 : rng v3) (w_S : WR shF S) : zW mA_X12_cellsThat mO_X12_cellsThat rng S (J_X12_cellsThat_106 k8 v1 v2 v3 S) := by
  unfold J_X12_cellsThat_106
  refine zW_zl (fun x9 r_x9 => ?_)
  exact hk8 _ _ _ r_v2 r_x9 w_S
set_option maxHeartbeats 4000000 in
set_option maxRecDepth 20000 in
theorem W_J_X12_cellsThat_104 {k8 : Int → Int → HS → zO2} {v1 : Int} {v3 : Int} {t0 : Int} {t1 : Int} {S : HS} (hk8 : ∀ (w0 w1 : Int) (S : HS), rng w0 → rng w1 → WR shF S → zW mA_X12_cellsThat mO_X12_cellsThat rng S (k8 w0 w1 S)) (r_v1 : rng v1) (r_v3 : rng v3) (r_t0 : rng t0) (r_t1 : rng t1) (w_S : WR shF S) : zW mA_X12_cellsThat mO_X12_cellsThat rng S (J_X12_cellsThat_104 k8 v1 v3 t0 t1 S) := by
  unfold J_X12_cellsThat_104
  refine zW_zl (fun x8 r_x8 => ?_)
  exact W_J_X12_cellsThat_106 hk8 r_v1 r_x8 r_v3 w_S
set_option maxHeartbeats 4000000 in
set_option maxRecDepth 20000 in
theorem W_J_X12_cellsThat_79 {k8 : Int → Int → HS → zO2} {v1 : Int} {v3 : Int} {t0 : Int} {t1 : Int} {S : HS} (hk8 : ∀ (w0 w1 : Int) (S : HS), rng w0 → rng w1 → WR shF S → zW mA_X12_cellsThat mO_X12_cellsThat rng S (k8 w0 w1 S)) (r_v1 : rng v1) (r_v3 : rng v3) (r_t0 : rng t0) (r_t1 : rng t1) (w_S : WR shF S) : zW mA_X12_cellsThat mO_X12_cellsThat rng S (J_X12_cellsThat_79 k8 v1 v3 t0 t1 S) := by
  unfold J_X12_cellsThat_79
  refine zW_zl (fun x14 r_x14 => ?_)
  exact W_J_X12_cellsThat_106 hk8 r_v1 r_x14 r_v3 w_S
set_option maxHeartbeats 4000000 in
set_option maxRecDepth 20000 in
theorem W_J_X12_cellsThat_78 {k8 : Int → Int → HS → zO2} {v1 : Int} {v3 : Int} {t0 : Int} {S : HS} (hk8 : ∀ (w0 w1 : Int) (S : HS), rng w0 → rng w1 → WR shF S → zW mA_X12_cellsThat mO_X12_cellsThat rng S (k8 w0 w1 S)) (r_v1 : rng v1) (r_v3 : rng v3) (r_t0 : rng t0) (w_S : WR shF S) : zW mA_X12_cellsThat mO_X12_cellsThat rng S (J_X12_cellsThat_78 k8 v1 v3 t0 S) := by
  unfold J_X12_cellsThat_78
  exact W_J_X12_cellsThat_79 hk8 r_v1 r_v3 (zrl rfl) r_t0 w_S
set_option maxHeartbeats 4000000 in
set_option maxRecDepth 20000 in
theorem W_J_X12_cellsThat_46 {k8 : Int → Int → HS → zO2} {v1 : Int} {v3 : Int} {t0 : Int} {t1 : Int} {S : HS} (hk8 : ∀ (w0 w1 : Int) (S : HS), rng w0 → rng w1 → WR shF S → zW mA_X12_cellsThat mO_X12_cellsThat rng S (k8 w0 w1 S)) (r_v1 : rng v1) (r_v3 : rng v3) (r_t0 : rng t0) (r_t1 : rng t1) (w_S : WR shF S) : zW mA_X12_cellsThat mO_X12_cellsThat rng S (J_X12_cellsThat_46 k8 v1 v3 t0 t1 S) := by
  unfold J_X12_cellsThat_46
  refine zW_zl (fun x20 r_x20 => ?_)
  exact W_J_X12_cellsThat_106 hk8 r_v1 r_x20 r_v3 w_S
set_option maxHeartbeats 4000000 in
set_option maxRecDepth 20000 in
theorem W_J_X12_cellsThat_45 {k8 : Int → Int → HS → zO2} {v1 : Int} {v3 : Int} {t0 : Int} {S : HS} (hk8 : ∀ (w0 w1 : Int) (S : HS), rng w0 → rng w1 → WR shF S → zW mA_X12_cellsThat mO_X12_cellsThat rng S (k8 w0 w1 S)) (r_v1 : rng v1) (r_v3 : rng v3) (r_t0 : rng t0) (w_S : WR shF S) : zW mA_X12_cellsThat mO_X12_cellsThat rng S (J_X12_cellsThat_45 k8 v1 v3 t0 S) := by
  unfold J_X12_cellsThat_45
  exact W_J_X12_cellsThat_46 hk8 r_v1 r_v3 (zrl rfl) r_t0 w_S
set_option maxHeartbeats 4000000 in
set_option maxRecDepth 20000 in
theorem W_L_X12_cellsThat_8 {p1 : Int} (r_p1 : rng p1) : ∀ (n : Nat) {v2 : Int} {v3 : Int} {S : HS}, rng v2 → rng v3 → WR shF S → zW mA_X12_cellsThat mO_X12_cellsThat rng S (L_X12_cellsThat_8 p1 n v2 v3 S) := by
  intro n
  induction n with
  | zero =>
    intro _ _ _ _ _ _
    exact zW_none
  | succ n ih =>
    intro v2 v3 S r_v2 r_v3 w_S
    rw [L_X12_cellsThat_8.eq_2]
    refine zW_ite ?_ ?_
    · exact zW_ret w_S r_v2
    · refine zW_ite ?_ ?_
      · refine zW_zg ?_
        refine zW_ite ?_ ?_
        · exact W_J_X12_cellsThat_45 (fun q0_ q1_ T_ r_q0_ r_q1_ w_T_ => ih r_q0_ r_q1_ w_T_) r_p1 r_v3 r_v2 w_S
        · refine zW_zg ?_
          refine zW_ite ?_ ?_
          · exact W_J_X12_cellsThat_46 (fun q0_ q1_ T_ r_q0_ r_q1_ w_T_ => ih r_q0_ r_q1_ w_T_) r_p1 r_v3 (zrl rfl) r_v2 w_S
          · exact W_J_X12_cellsThat_45 (fun q0_ q1_ T_ r_q0_ r_q1_ w_T_ => ih r_q0_ r_q1_ w_T_) r_p1 r_v3 r_v2 w_S
      · refine zW_ite ?_ ?_
        · refine zW_zg ?_
          refine zW_zl (fun x12 r_x12 => ?_)
          refine zW_ite ?_ ?_
          · exact W_J_X12_cellsThat_78 (fun q0_ q1_ T_ r_q0_ r_q1_ w_T_ => ih r_q0_ r_q1_ w_T_) r_p1 r_v3 r_v2 w_S
          · refine zW_zb (W_M_X12_isUnlike r_v3 w_S) (by decide) (by decide) (fun r15 S16 r_r15 w_S16 => ?_)
            refine zW_ite ?_ ?_
            · exact W_J_X12_cellsThat_78 (fun q0_ q1_ T_ r_q0_ r_q1_ w_T_ => ih r_q0_ r_q1_ w_T_) r_p1 r_v3 r_v2 w_S16
            · exact W_J_X12_cellsThat_79 (fun q0_ q1_ T_ r_q0_ r_q1_ w_T_ => ih r_q0_ r_q1_ w_T_) r_p1 r_v3 (zrl rfl) r_v2 w_S16
        · refine zW_zg ?_
          refine zW_ite ?_ ?_
          · exact W_J_X12_cellsThat_104 (fun q0_ q1_ T_ r_q0_ r_q1_ w_T_ => ih r_q0_ r_q1_ w_T_) r_p1 r_v3 (zrl rfl) r_v2 w_S
          · refine zW_zg ?_
            exact W_J_X12_cellsThat_104 (fun q0_ q1_ T_ r_q0_ r_q1_ w_T_ => ih r_q0_ r_q1_ w_T_) r_p1 r_v3 (w_S 67 _ sw_67 v3) r_v2 w_S
set_option maxHeartbeats 4000000 in
set_option maxRecDepth 20000 in
theorem W_M_X12_cellsThat {a1 : Int} {S : HS} (r_a1 : rng a1) (w_S : WR shF S) : zW mA_X12_cellsThat mO_X12_cellsThat rng S (M_X12_cellsThat a1 S) := by
  unfold M_X12_cellsThat
  refine zW_zb (W_M_X12_findTaken w_S) (by decide) (by decide) (fun _ S2 _ w_S2 => ?_)
  exact W_L_X12_cellsThat_8 r_a1 _ (zrl rfl) (zrl rfl) w_S2
abbrev mA_X12_allWeights : List Nat := [77, 78, 83, 84, 85, 86, 87, 88]
abbrev mO_X12_allWeights : List (Nat × Int) := []
set_option maxHeartbeats 4000000 in
set_option maxRecDepth 20000 in
theorem W_L_X12_allWeights_4   : ∀ (n : Nat) {v1 : Int} {v2 : Int} {S : HS}, rng v1 → rng v2 → WR shF S → zW mA_X12_allWeights mO_X12_allWeights rng S (L_X12_allWeights_4  n v1 v2 S) := by
  intro n
  induction n with
  | zero =>
    intro _ _ _ _ _ _
    exact zW_none
  | succ n ih =>
    intro v1 v2 S r_v1 r_v2 w_S
    rw [L_X12_allWeights_4.eq_2]
    refine zW_ite ?_ ?_
    · exact zW_ret w_S r_v1
    · refine zW_zb (W_M_X12_lastWeights r_v2 w_S) (by decide) (by decide) (fun r2 S3 r_r2 w_S3 => ?_)
      refine zW_zl (fun x4 r_x4 => ?_)
      refine zW_zl (fun x5 r_x5 => ?_)
      exact ih r_x4 r_x5 w_S3
set_option maxHeartbeats 4000000 in
set_option maxRecDepth 20000 in
theorem W_M_X12_allWeights {S : HS} (w_S : WR shF S) : zW mA_X12_allWeights mO_X12_allWeights rng S (M_X12_allWeights S) := by
  unfold M_X12_allWeights
  exact W_L_X12_allWeights_4 _ (zrl rfl) (zrl rfl) w_S
abbrev mA_X12_count : List Nat := [75, 76, 77, 78, 83, 84, 85, 86, 87, 88]
abbrev mO_X12_count : List (Nat × Int) := [(51, 0)]
set_option maxHeartbeats 4000000 in
set_option maxRecDepth 20000 in
theorem W_M_X12_count {a1 : Int} {S : HS} (r_a1 : rng a1) (w_S : WR shF S) : zW mA_X12_count mO_X12_count rng S (M_X12_count a1 S) := by
  unfold M_X12_count
  refine zW_upO w_S sw_51 (by decide) (zrl rfl) (fun S1 w_S1 => ?_)
  refine zW_ite ?_ ?_
  · exact zW_ret w_S1 (w_S1 51 _ sw_51 22)
  · refine zW_ite ?_ ?_
    · exact zW_ret w_S1 (w_S1 51 _ sw_51 27)
    · refine zW_ite ?_ ?_
      · refine zW_zb (W_M_X12_findRegions w_S1) (by decide) (by decide) (fun r5 S6 r_r5 w_S6 => ?_)
        exact zW_ret w_S6 r_r5
      · refine zW_ite ?_ ?_
        · refine zW_zb (W_M_X12_cellsThat r_a1 w_S1) (by decide) (by decide) (fun r8 S9 r_r8 w_S9 => ?_)
          exact zW_ret w_S9 r_r8
        · refine zW_ite ?_ ?_
          · refine zW_zb (W_M_X12_cellsThat r_a1 w_S1) (by decide) (by decide) (fun r11 S12 r_r11 w_S12 => ?_)
            exact zW_ret w_S12 r_r11
          · refine zW_ite ?_ ?_
            · refine zW_zb (W_M_X12_cellsThat r_a1 w_S1) (by decide) (by decide) (fun r14 S15 r_r14 w_S15 => ?_)
              exact zW_ret w_S15 r_r14
            · refine zW_ite ?_ ?_
              · refine zW_zb (W_M_X12_allWeights w_S1) (by decide) (by decide) (fun r17 S18 r_r17 w_S18 => ?_)
                exact zW_ret w_S18 r_r17
              · refine zW_ite ?_ ?_
                · exact zW_ret w_S1 (w_S1 51 _ sw_51 54)
                · refine zW_ite ?_ ?_
                  · exact zW_ret w_S1 (w_S1 51 _ sw_51 34)
                  · refine zW_ite ?_ ?_
                    · exact zW_ret w_S1 (w_S1 51 _ sw_51 38)
                    · refine zW_ite ?_ ?_
                      · exact zW_ret w_S1 (w_S1 51 _ sw_51 37)
                      · refine zW_ite ?_ ?_
                        · exact zW_ret w_S1 (w_S1 51 _ sw_51 2)
                        · refine zW_ite ?_ ?_
                          · exact zW_ret w_S1 (w_S1 51 _ sw_51 43)
                          · exact zW_ret w_S1 (zrl rfl)
