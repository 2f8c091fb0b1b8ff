abbrev mA_X11_hangs : List Nat := [32]
abbrev mO_X11_hangs : List (Nat × Int) := [(28, 8), (28, 9)]
set_option maxHeartbeats 4000000 in
set_option maxRecDepth 20000 in
theorem W_M_X11_hangs {a1 : Int} {S : HS} (r_a1 : rng a1) (w_S : WR shF S) : zW mA_X11_hangs mO_X11_hangs rng S (M_X11_hangs a1 S) := by
  unfold M_X11_hangs
  refine zW_zb (W_M_X6_has r_a1 w_S) (by decide) (by decide) (fun r1 S2 r_r1 w_S2 => ?_)
  refine zW_ite ?_ ?_
  · exact zW_ret w_S2 (zrl rfl)
  · refine zW_zb (W_M_X0_hang r_a1 w_S2) (by decide) (by decide) (fun r4 S5 r_r4 w_S5 => ?_)
    exact zW_ret w_S5 r_r4
abbrev mA_X6_lastCell : List Nat := []
abbrev mO_X6_lastCell : List (Nat × Int) := []
set_option maxHeartbeats 4000000 in
set_option maxRecDepth 20000 in
theorem W_M_X6_lastCell {a1 : Int} {S : HS} (r_a1 : rng a1) (w_S : WR shF S) : zW mA_X6_lastCell mO_X6_lastCell rng S (M_X6_lastCell a1 S) := by
  unfold M_X6_lastCell
  refine zW_zb (W_M_X6_sizeIn r_a1 w_S) (by decide) (by decide) (fun r1 S2 r_r1 w_S2 => ?_)
  refine zW_zl (fun x3 r_x3 => ?_)
  refine zW_zb (W_M_X6_cellIn r_a1 r_x3 w_S2) (by decide) (by decide) (fun r4 S5 r_r4 w_S5 => ?_)
  exact zW_ret w_S5 r_r4
abbrev mA_X6_endNear : List Nat := []
abbrev mO_X6_endNear : List (Nat × Int) := []
set_option maxHeartbeats 4000000 in
set_option maxRecDepth 20000 in
theorem W_M_X6_endNear {a1 : Int} {a2 : Int} {S : HS} (r_a1 : rng a1) (r_a2 : rng a2) (w_S : WR shF S) : zW mA_X6_endNear mO_X6_endNear rng S (M_X6_endNear a1 a2 S) := by
  unfold M_X6_endNear
  refine zW_zb (W_M_X6_lastCell r_a1 w_S) (by decide) (by decide) (fun r1 S2 r_r1 w_S2 => ?_)
  refine zW_zb (W_M_X6_lastCell r_a2 w_S2) (by decide) (by decide) (fun r3 S4 r_r3 w_S4 => ?_)
  refine zW_zg ?_
  refine zW_zg ?_
  refine zW_zl (fun x7 r_x7 => ?_)
  refine zW_zl (fun x8 r_x8 => ?_)
  refine zW_ite ?_ ?_
  · exact zW_ret w_S4 (zrl rfl)
  · refine zW_zg ?_
    refine zW_zg ?_
    refine zW_zl (fun x12 r_x12 => ?_)
    refine zW_zl (fun x13 r_x13 => ?_)
    refine zW_ite ?_ ?_
    · exact zW_ret w_S4 (zrl rfl)
    · exact zW_ret w_S4 (zrl rfl)
abbrev mA_X6_canTie : List Nat := []
abbrev mO_X6_canTie : List (Nat × Int) := []
set_option maxHeartbeats 4000000 in
set_option maxRecDepth 20000 in
theorem W_M_X6_canTie {a1 : Int} {a2 : Int} {a3 : Int} {S : HS} (r_a1 : rng a1) (r_a2 : rng a2) (r_a3 : rng a3) (w_S : WR shF S) : zW mA_X6_canTie mO_X6_canTie rng S (M_X6_canTie a1 a2 a3 S) := by
  unfold M_X6_canTie
  refine zW_zb (W_M_X6_has r_a1 w_S) (by decide) (by decide) (fun r1 S2 r_r1 w_S2 => ?_)
  refine zW_ite ?_ ?_
  · exact zW_ret w_S2 (zrl rfl)
  · refine zW_zb (W_M_X6_has r_a2 w_S2) (by decide) (by decide) (fun r4 S5 r_r4 w_S5 => ?_)
    refine zW_ite ?_ ?_
    · exact zW_ret w_S5 (zrl rfl)
    · refine zW_zb (W_M_X6_has r_a3 w_S5) (by decide) (by decide) (fun r7 S8 r_r7 w_S8 => ?_)
      refine zW_ite ?_ ?_
      · exact zW_ret w_S8 (zrl rfl)
      · refine zW_ite ?_ ?_
        · exact zW_ret w_S8 (zrl rfl)
        · refine zW_ite ?_ ?_
          · exact zW_ret w_S8 (zrl rfl)
          · refine zW_ite ?_ ?_
            · exact zW_ret w_S8 (zrl rfl)
            · refine zW_zb (W_M_X6_isTied r_a1 w_S8) (by decide) (by decide) (fun r13 S14 r_r13 w_S14 => ?_)
              refine zW_ite ?_ ?_
              · refine zW_zb (W_M_X6_isTied r_a2 w_S14) (by decide) (by decide) (fun r16 S17 r_r16 w_S17 => ?_)
                refine zW_ite ?_ ?_
                · refine zW_zb (W_M_X6_isTied r_a3 w_S17) (by decide) (by decide) (fun r19 S20 r_r19 w_S20 => ?_)
                  refine zW_ite ?_ ?_
                  · refine zW_zb (W_M_X6_endNear r_a1 r_a2 w_S20) (by decide) (by decide) (fun r22 S23 r_r22 w_S23 => ?_)
                    refine zW_ite ?_ ?_
                    · exact zW_ret w_S23 (zrl rfl)
                    · refine zW_zb (W_M_X6_endNear r_a1 r_a3 w_S23) (by decide) (by decide) (fun r25 S26 r_r25 w_S26 => ?_)
                      refine zW_ite ?_ ?_
                      · exact zW_ret w_S26 (zrl rfl)
                      · refine zW_zb (W_M_X6_endNear r_a2 r_a3 w_S26) (by decide) (by decide) (fun r28 S29 r_r28 w_S29 => ?_)
                        refine zW_ite ?_ ?_
                        · exact zW_ret w_S29 (zrl rfl)
                        · exact zW_ret w_S29 (zrl rfl)
                  · exact zW_ret w_S20 (zrl rfl)
                · exact zW_ret w_S17 (zrl rfl)
              · exact zW_ret w_S14 (zrl rfl)
abbrev mA_X6_tie : List Nat := [14]
abbrev mO_X6_tie : List (Nat × Int) := [(7, 12)]
set_option maxHeartbeats 4000000 in
set_option maxRecDepth 20000 in
theorem W_J_X6_tie_64 {S : HS} (w_S : WR shF S) : zW mA_X6_tie mO_X6_tie rng S (J_X6_tie_64 S) := by
  unfold J_X6_tie_64
  exact zW_ret w_S (w_S 7 _ sw_7 12)
set_option maxHeartbeats 4000000 in
set_option maxRecDepth 20000 in
theorem W_M_X6_tie {a1 : Int} {a2 : Int} {a3 : Int} {S : HS} (r_a1 : rng a1) (r_a2 : rng a2) (r_a3 : rng a3) (w_S : WR shF S) : zW mA_X6_tie mO_X6_tie rng S (M_X6_tie a1 a2 a3 S) := by
  unfold M_X6_tie
  refine zW_zb (W_M_X6_has r_a1 w_S) (by decide) (by decide) (fun r1 S2 r_r1 w_S2 => ?_)
  refine zW_ite ?_ ?_
  · exact W_J_X6_tie_64 w_S2
  · refine zW_zb (W_M_X6_has r_a2 w_S2) (by decide) (by decide) (fun r4 S5 r_r4 w_S5 => ?_)
    refine zW_ite ?_ ?_
    · exact W_J_X6_tie_64 w_S5
    · refine zW_zb (W_M_X6_has r_a3 w_S5) (by decide) (by decide) (fun r7 S8 r_r7 w_S8 => ?_)
      refine zW_ite ?_ ?_
      · exact W_J_X6_tie_64 w_S8
      · refine zW_zg ?_
        refine zW_up w_S8 sw_14 (by decide) (w_S8 7 _ sw_7 12) (fun S11 w_S11 => ?_)
        refine zW_zg ?_
        refine zW_up w_S11 sw_14 (by decide) (w_S11 7 _ sw_7 12) (fun S13 w_S13 => ?_)
        refine zW_zg ?_
        refine zW_up w_S13 sw_14 (by decide) (w_S13 7 _ sw_7 12) (fun S15 w_S15 => ?_)
        refine zW_zl (fun x16 r_x16 => ?_)
        refine zW_upO w_S15 sw_7 (by decide) r_x16 (fun S17 w_S17 => ?_)
        exact W_J_X6_tie_64 w_S17
abbrev mA_X11_join : List Nat := [14]
abbrev mO_X11_join : List (Nat × Int) := [(7, 12)]
set_option maxHeartbeats 4000000 in
set_option maxRecDepth 20000 in
theorem W_M_X11_join {a1 : Int} {a2 : Int} {a3 : Int} {S : HS} (r_a1 : rng a1) (r_a2 : rng a2) (r_a3 : rng a3) (w_S : WR shF S) : zW mA_X11_join mO_X11_join rng S (M_X11_join a1 a2 a3 S) := by
  unfold M_X11_join
  refine zW_zb (W_M_X6_canTie r_a1 r_a2 r_a3 w_S) (by decide) (by decide) (fun r1 S2 r_r1 w_S2 => ?_)
  refine zW_ite ?_ ?_
  · exact zW_ret w_S2 (zrl rfl)
  · refine zW_zb (W_M_X6_tie r_a1 r_a2 r_a3 w_S2) (by decide) (by decide) (fun r4 S5 r_r4 w_S5 => ?_)
    exact zW_ret w_S5 r_r4
abbrev mA_X0_lastWeights : List Nat := []
abbrev mO_X0_lastWeights : List (Nat × Int) := []
set_option maxHeartbeats 4000000 in
set_option maxRecDepth 20000 in
theorem W_M_X0_lastWeights {a1 : Int} {S : HS} (r_a1 : rng a1) (w_S : WR shF S) : zW mA_X0_lastWeights mO_X0_lastWeights rng S (M_X0_lastWeights a1 S) := by
  unfold M_X0_lastWeights
  refine zW_zb (W_M_X6_lastCell r_a1 w_S) (by decide) (by decide) (fun r1 S2 r_r1 w_S2 => ?_)
  refine zW_zb (W_M_X0_weightAt r_r1 (zrl rfl) w_S2) (by decide) (by decide) (fun r3 S4 r_r3 w_S4 => ?_)
  refine zW_zb (W_M_X0_weightAt r_r1 (zrl rfl) w_S4) (by decide) (by decide) (fun r5 S6 r_r5 w_S6 => ?_)
  refine zW_zb (W_M_X0_weightAt r_r1 (zrl rfl) w_S6) (by decide) (by decide) (fun r7 S8 r_r7 w_S8 => ?_)
  refine zW_zl (fun x9 r_x9 => ?_)
  exact zW_ret w_S8 r_x9
abbrev mA_X0_minutes : List Nat := []
abbrev mO_X0_minutes : List (Nat × Int) := []
set_option maxHeartbeats 4000000 in
set_option maxRecDepth 20000 in
theorem W_M_X0_minutes {a1 : Int} {S : HS} (r_a1 : rng a1) (w_S : WR shF S) : zW mA_X0_minutes mO_X0_minutes rng S (M_X0_minutes a1 S) := by
  unfold M_X0_minutes
  refine zW_zb (W_M_X6_sizeIn r_a1 w_S) (by decide) (by decide) (fun r1 S2 r_r1 w_S2 => ?_)
  refine zW_zb (W_M_X0_lastWeights r_a1 w_S2) (by decide) (by decide) (fun r3 S4 r_r3 w_S4 => ?_)
  refine zW_zg ?_
  refine zW_zb (W_M_X6_timesAddedTo r_a1 w_S4) (by decide) (by decide) (fun r6 S7 r_r6 w_S7 => ?_)
  refine zW_zl (fun x8 r_x8 => ?_)
  exact zW_ret w_S7 r_x8
abbrev mA_X11_work : List Nat := []
abbrev mO_X11_work : List (Nat × Int) := []
set_option maxHeartbeats 4000000 in
set_option maxRecDepth 20000 in
theorem W_M_X11_work {a1 : Int} {S : HS} (r_a1 : rng a1) (w_S : WR shF S) : zW mA_X11_work mO_X11_work rng S (M_X11_work a1 S) := by
  unfold M_X11_work
  refine zW_zb (W_M_X6_has r_a1 w_S) (by decide) (by decide) (fun r1 S2 r_r1 w_S2 => ?_)
  refine zW_ite ?_ ?_
  · exact zW_ret w_S2 (zrl rfl)
  · refine zW_zb (W_M_X0_minutes r_a1 w_S2) (by decide) (by decide) (fun r4 S5 r_r4 w_S5 => ?_)
    exact zW_ret w_S5 r_r4
abbrev mA_X11_isSpeed : List Nat := []
abbrev mO_X11_isSpeed : List (Nat × Int) := []
set_option maxHeartbeats 4000000 in
set_option maxRecDepth 20000 in
theorem W_M_X11_isSpeed {a1 : Int} {S : HS} (r_a1 : rng a1) (w_S : WR shF S) : zW mA_X11_isSpeed mO_X11_isSpeed rng S (M_X11_isSpeed a1 S) := by
  unfold M_X11_isSpeed
  refine zW_ite ?_ ?_
  · exact zW_ret w_S (zrl rfl)
  · refine zW_ite ?_ ?_
    · exact zW_ret w_S (zrl rfl)
    · exact zW_ret w_S (zrl rfl)
abbrev mA_X1_hire : List Nat := [34]
abbrev mO_X1_hire : List (Nat × Int) := []
set_option maxHeartbeats 4000000 in
set_option maxRecDepth 20000 in
theorem W_J_X1_hire_28 {t0 : Int} {t1 : Int} {S : HS} (r_t0 : rng t0) (r_t1 : rng t1) (w_S : WR shF S) : zW mA_X1_hire mO_X1_hire rng S (J_X1_hire_28 t0 t1 S) := by
  unfold J_X1_hire_28
  refine zW_zg ?_
  refine zW_up w_S sw_34 (by decide) r_t0 (fun S5 w_S5 => ?_)
  exact zW_ret w_S5 (zrl rfl)
set_option maxHeartbeats 4000000 in
set_option maxRecDepth 20000 in
theorem W_M_X1_hire {a1 : Int} {a2 : Int} {a3 : Int} {S : HS} (r_a1 : rng a1) (r_a2 : rng a2) (r_a3 : rng a3) (w_S : WR shF S) : zW mA_X1_hire mO_X1_hire rng S (M_X1_hire a1 a2 a3 S) := by
  unfold M_X1_hire
  refine zW_up w_S sw_34 (by decide) r_a1 (fun S1 w_S1 => ?_)
  refine zW_up w_S1 sw_34 (by decide) r_a2 (fun S2 w_S2 => ?_)
  refine zW_ite ?_ ?_
  · exact W_J_X1_hire_28 (zrl rfl) (zrl rfl) w_S2
  · exact W_J_X1_hire_28 r_a3 (zrl rfl) w_S2
abbrev mA_X11_hands : List Nat := [34]
abbrev mO_X11_hands : List (Nat × Int) := []
set_option maxHeartbeats 4000000 in
set_option maxRecDepth 20000 in
theorem W_M_X11_hands {a1 : Int} {a2 : Int} {a3 : Int} {S : HS} (r_a1 : rng a1) (r_a2 : rng a2) (r_a3 : rng a3) (w_S : WR shF S) : zW mA_X11_hands mO_X11_hands rng S (M_X11_hands a1 a2 a3 S) := by
  unfold M_X11_hands
  refine zW_ite ?_ ?_
  · exact zW_ret w_S (zrl rfl)
  · refine zW_zb (W_M_X11_isSpeed r_a1 w_S) (by decide) (by decide) (fun r2 S3 r_r2 w_S3 => ?_)
    refine zW_ite ?_ ?_
    · exact zW_ret w_S3 (zrl rfl)
    · refine zW_zb (W_M_X11_isSpeed r_a2 w_S3) (by decide) (by decide) (fun r5 S6 r_r5 w_S6 => ?_)
      refine zW_ite ?_ ?_
      · exact zW_ret w_S6 (zrl rfl)
      · refine zW_zb (W_M_X11_isSpeed r_a3 w_S6) (by decide) (by decide) (fun r8 S9 r_r8 w_S9 => ?_)
        refine zW_ite ?_ ?_
        · exact zW_ret w_S9 (zrl rfl)
        · refine zW_zb (W_M_X1_hire r_a1 r_a2 r_a3 w_S9) (by decide) (by decide) (fun _ S12 _ w_S12 => ?_)
          exact zW_ret w_S12 (zrl rfl)
abbrev mA_X1_clear : List Nat := []
abbrev mO_X1_clear : List (Nat × Int) := [(33, 6)]
set_option maxHeartbeats 4000000 in
set_option maxRecDepth 20000 in
theorem W_M_X1_clear {S : HS} (w_S : WR shF S) : zW mA_X1_clear mO_X1_clear rng S (M_X1_clear S) := by
  unfold M_X1_clear
  refine zW_upO w_S sw_33 (by decide) (zrl rfl) (fun S1 w_S1 => ?_)
  exact zW_ret w_S1 (zrl rfl)
abbrev mA_X6_weekOf : List Nat := []
abbrev mO_X6_weekOf : List (Nat × Int) := []
set_option maxHeartbeats 4000000 in
set_option maxRecDepth 20000 in
theorem W_M_X6_weekOf {a1 : Int} {S : HS} (r_a1 : rng a1) (w_S : WR shF S) : zW mA_X6_weekOf mO_X6_weekOf rng S (M_X6_weekOf a1 S) := by
  unfold M_X6_weekOf
  refine zW_zb (W_M_X6_has r_a1 w_S) (by decide) (by decide) (fun r1 S2 r_r1 w_S2 => ?_)
  refine zW_ite ?_ ?_
  · exact zW_ret w_S2 (zrl rfl)
  · refine zW_zg ?_
    exact zW_ret w_S2 (w_S2 15 _ sw_15 a1)
abbrev mA_X1_put : List Nat := [36, 37]
abbrev mO_X1_put : List (Nat × Int) := [(33, 6)]
set_option maxHeartbeats 4000000 in
set_option maxRecDepth 20000 in
theorem W_M_X1_put {a1 : Int} {a2 : Int} {S : HS} (r_a1 : rng a1) (r_a2 : rng a2) (w_S : WR shF S) : zW mA_X1_put mO_X1_put rng S (M_X1_put a1 a2 S) := by
  unfold M_X1_put
  refine zW_ite ?_ ?_
  · exact zW_ret w_S (zrl rfl)
  · refine zW_zg ?_
    refine zW_up w_S sw_36 (by decide) r_a1 (fun S3 w_S3 => ?_)
    refine zW_zg ?_
    refine zW_up w_S3 sw_37 (by decide) r_a2 (fun S5 w_S5 => ?_)
    refine zW_zl (fun x6 r_x6 => ?_)
    refine zW_upO w_S5 sw_33 (by decide) r_x6 (fun S7 w_S7 => ?_)
    exact zW_ret w_S7 (zrl rfl)
abbrev mA_X0_weeksHeld : List Nat := []
abbrev mO_X0_weeksHeld : List (Nat × Int) := []
set_option maxHeartbeats 4000000 in
set_option maxRecDepth 20000 in
theorem W_L_X0_weeksHeld_16 {k52 : Int → HS → zO2} {p1 : Int} (hk52 : ∀ (w0 : Int) (S : HS), rng w0 → WR shF S → zW mA_X0_weeksHeld mO_X0_weeksHeld rng S (k52 w0 S)) (r_p1 : rng p1) : ∀ (n : Nat) {v2 : Int} {v3 : Int} {S : HS}, rng v2 → rng v3 → WR shF S → zW mA_X0_weeksHeld mO_X0_weeksHeld rng S (L_X0_weeksHeld_16 k52 p1 n v2 v3 S) := by
  intro n
  induction n with
  | zero =>
    intro _ _ _ _ _ _
    exact zW_none
  | succ n ih =>
    intro v2 v3 S r_v2 r_v3 w_S
    rw [L_X0_weeksHeld_16.eq_2]
    refine zW_zb (W_M_X6_sizeIn r_p1 w_S) (by decide) (by decide) (fun r5 S6 r_r5 w_S6 => ?_)
    refine zW_ite ?_ ?_
    · exact hk52 _ _ r_v2 w_S6
    · refine zW_zb (W_M_X6_cellIn r_p1 r_v3 w_S6) (by decide) (by decide) (fun r8 S9 r_r8 w_S9 => ?_)
      refine zW_zb (W_M_X0_leastAt r_r8 w_S9) (by decide) (by decide) (fun r10 S11 r_r10 w_S11 => ?_)
      refine zW_zl (fun x12 r_x12 => ?_)
      exact ih (zmin_r r_v2 r_r10) r_x12 w_S11
set_option maxHeartbeats 4000000 in
set_option maxRecDepth 20000 in
theorem W_M_X0_weeksHeld {a1 : Int} {S : HS} (r_a1 : rng a1) (w_S : WR shF S) : zW mA_X0_weeksHeld mO_X0_weeksHeld rng S (M_X0_weeksHeld a1 S) := by
  unfold M_X0_weeksHeld
  refine zW_zb (W_M_X6_cellIn r_a1 (zrl rfl) w_S) (by decide) (by decide) (fun r1 S2 r_r1 w_S2 => ?_)
  refine zW_zb (W_M_X0_leastAt r_r1 w_S2) (by decide) (by decide) (fun r3 S4 r_r3 w_S4 => ?_)
  exact W_L_X0_weeksHeld_16 (fun e2 S13 r_e2 w_S13 => by
          refine zW_zg ?_
          refine zW_zl (fun x15 r_x15 => ?_)
          exact zW_ret w_S13 (zmin_r (zrl rfl) r_x15)) r_a1 _ r_r3 (zrl rfl) w_S4
abbrev mA_X11_isGrownOut : List Nat := []
abbrev mO_X11_isGrownOut : List (Nat × Int) := []
set_option maxHeartbeats 4000000 in
set_option maxRecDepth 20000 in
theorem W_M_X11_isGrownOut {a1 : Int} {S : HS} (r_a1 : rng a1) (w_S : WR shF S) : zW mA_X11_isGrownOut mO_X11_isGrownOut rng S (M_X11_isGrownOut a1 S) := by
  unfold M_X11_isGrownOut
  refine zW_zb (W_M_X6_weekOf r_a1 w_S) (by decide) (by decide) (fun r1 S2 r_r1 w_S2 => ?_)
  refine zW_ite ?_ ?_
  · exact zW_ret w_S2 (zrl rfl)
  · refine zW_zb (W_M_X0_weeksHeld r_a1 w_S2) (by decide) (by decide) (fun r4 S5 r_r4 w_S5 => ?_)
    refine zW_zl (fun x6 r_x6 => ?_)
    refine zW_ite ?_ ?_
    · exact zW_ret w_S5 (zrl rfl)
    · exact zW_ret w_S5 (zrl rfl)
abbrev mA_X1_settle : List Nat := [35, 38, 39]
abbrev mO_X1_settle : List (Nat × Int) := [(33, 7)]
set_option maxHeartbeats 4000000 in
set_option maxRecDepth 20000 in
theorem W_M_X1_settle {S : HS} (w_S : WR shF S) : zW mA_X1_settle mO_X1_settle rng S (M_X1_settle S) := by
  unfold M_X1_settle
  refine zW_fill w_S sw_35 (by decide) (zrl rfl) (fun S1 w_S1 => ?_)
  refine zW_upO w_S1 sw_33 (by decide) (zrl rfl) (fun S2 w_S2 => ?_)
  refine zW_zb (W_M_X1_share _ (zrl rfl) (zrl rfl) w_S2) (by decide) (by decide) (fun _ S4 _ w_S4 => ?_)
  exact zW_ret w_S4 (zrl rfl)
abbrev mA_X11_makePlan : List Nat := [35, 36, 37, 38, 39]
abbrev mO_X11_makePlan : List (Nat × Int) := [(33, 6), (33, 7)]
set_option maxHeartbeats 4000000 in
set_option maxRecDepth 20000 in
theorem W_J_X11_makePlan_56 {k9 : Int → HS → zO2} {v1 : Int} {S : HS} (hk9 : ∀ (w0 : Int) (S : HS), rng w0 → WR shF S → zW mA_X11_makePlan mO_X11_makePlan rng S (k9 w0 S)) (r_v1 : rng v1) (w_S : WR shF S) : zW mA_X11_makePlan mO_X11_makePlan rng S (J_X11_makePlan_56 k9 v1 S) := by
  unfold J_X11_makePlan_56
  refine zW_zl (fun x11 r_x11 => ?_)
  exact hk9 _ _ r_x11 w_S
set_option maxHeartbeats 4000000 in
set_option maxRecDepth 20000 in
theorem W_J_X11_makePlan_40 {k9 : Int → HS → zO2} {v1 : Int} {S : HS} (hk9 : ∀ (w0 : Int) (S : HS), rng w0 → WR shF S → zW mA_X11_makePlan mO_X11_makePlan rng S (k9 w0 S)) (r_v1 : rng v1) (w_S : WR shF S) : zW mA_X11_makePlan mO_X11_makePlan rng S (J_X11_makePlan_40 k9 v1 S) := by
  unfold J_X11_makePlan_40
  refine zW_zb (W_M_X0_minutes r_v1 w_S) (by decide) (by decide) (fun r7 S8 r_r7 w_S8 => ?_)
  refine zW_zb (W_M_X1_put r_v1 r_r7 w_S8) (by decide) (by decide) (fun _ S10 _ w_S10 => ?_)
  exact W_J_X11_makePlan_56 hk9 r_v1 w_S10
set_option maxHeartbeats 4000000 in
set_option maxRecDepth 20000 in
theorem W_L_X11_makePlan_9 {k62 : HS → zO2} (hk62 : ∀ (S : HS), WR shF S → zW mA_X11_makePlan mO_X11_makePlan rng S (k62 S)) : ∀ (n : Nat) {v1 : Int} {S : HS}, rng v1 → WR shF S → zW mA_X11_makePlan mO_X11_makePlan rng S (L_X11_makePlan_9 k62 n v1 S) := by
  intro n
  induction n with
  | zero =>
    intro _ _ _ _
    exact zW_none
  | succ n ih =>
    intro v1 S r_v1 w_S
    rw [L_X11_makePlan_9.eq_2]
    refine zW_ite ?_ ?_
    · exact hk62 _ w_S
    · refine zW_zb (W_M_X6_weekOf r_v1 w_S) (by decide) (by decide) (fun r4 S5 r_r4 w_S5 => ?_)
      refine zW_ite ?_ ?_
      · exact W_J_X11_makePlan_40 (fun q0_ T_ r_q0_ w_T_ => ih r_q0_ w_T_) r_v1 w_S5
      · refine zW_zb (W_M_X11_isGrownOut r_v1 w_S5) (by decide) (by decide) (fun r12 S13 r_r12 w_S13 => ?_)
        refine zW_ite ?_ ?_
        · exact W_J_X11_makePlan_56 (fun q0_ T_ r_q0_ w_T_ => ih r_q0_ w_T_) r_v1 w_S13
        · exact W_J_X11_makePlan_40 (fun q0_ T_ r_q0_ w_T_ => ih r_q0_ w_T_) r_v1 w_S13
set_option maxHeartbeats 4000000 in
set_option maxRecDepth 20000 in
theorem W_M_X11_makePlan {S : HS} (w_S : WR shF S) : zW mA_X11_makePlan mO_X11_makePlan rng S (M_X11_makePlan S) := by
  unfold M_X11_makePlan
  refine zW_zb (W_M_X1_clear w_S) (by decide) (by decide) (fun _ S2 _ w_S2 => ?_)
  exact W_L_X11_makePlan_9 (fun S15  w_S15 => by
          refine zW_zb (W_M_X1_settle w_S15) (by decide) (by decide) (fun _ S17 _ w_S17 => ?_)
          exact zW_ret w_S17 (zrl rfl)) _ (zrl rfl) w_S2
abbrev mA_X1_sitting : List Nat := []
abbrev mO_X1_sitting : List (Nat × Int) := []
set_option maxHeartbeats 4000000 in
set_option maxRecDepth 20000 in
theorem W_J_X1_sitting_20 {t0 : Int} {S : HS} (r_t0 : rng t0) (w_S : WR shF S) : zW mA_X1_sitting mO_X1_sitting rng S (J_X1_sitting_20 t0 S) := by
  unfold J_X1_sitting_20
  refine zW_zl (fun x2 r_x2 => ?_)
  exact zW_ret w_S r_x2
set_option maxHeartbeats 4000000 in
set_option maxRecDepth 20000 in
theorem W_M_X1_sitting {S : HS} (w_S : WR shF S) : zW mA_X1_sitting mO_X1_sitting rng S (M_X1_sitting S) := by
  unfold M_X1_sitting
  refine zW_ite ?_ ?_
  · exact W_J_X1_sitting_20 (zrl rfl) w_S
  · refine zW_zl (fun x3 r_x3 => ?_)
    refine zW_zg ?_
    refine zW_zl (fun x5 r_x5 => ?_)
    exact W_J_X1_sitting_20 r_x5 w_S
abbrev mA_X11_plan : List Nat := [35, 36, 37, 38, 39]
abbrev mO_X11_plan : List (Nat × Int) := [(33, 6), (33, 7)]
set_option maxHeartbeats 4000000 in
set_option maxRecDepth 20000 in
theorem W_M_X11_plan {a1 : Int} {S : HS} (r_a1 : rng a1) (w_S : WR shF S) : zW mA_X11_plan mO_X11_plan rng S (M_X11_plan a1 S) := by
  unfold M_X11_plan
  refine zW_ite ?_ ?_
  · exact zW_ret w_S (zrl rfl)
  · refine zW_ite ?_ ?_
    · refine zW_zb (W_M_X11_makePlan w_S) (by decide) (by decide) (fun _ S4 _ w_S4 => ?_)
      refine zW_ite ?_ ?_
      · exact zW_ret w_S4 (w_S4 33 _ sw_33 7)
      · refine zW_ite ?_ ?_
        · refine zW_zb (W_M_X1_sitting w_S4) (by decide) (by decide) (fun r7 S8 r_r7 w_S8 => ?_)
          exact zW_ret w_S8 r_r7
        · exact zW_ret w_S4 (w_S4 33 _ sw_33 6)
    · exact zW_ret w_S (zrl rfl)
abbrev mA_X1_handFor : List Nat := []
abbrev mO_X1_handFor : List (Nat × Int) := []
set_option maxHeartbeats 4000000 in
set_option maxRecDepth 20000 in
theorem W_L_X1_handFor_2 {k26 : Int → HS → zO2} {p1 : Int} (hk26 : ∀ (w0 : Int) (S : HS), rng w0 → WR shF S → zW mA_X1_handFor mO_X1_handFor rng S (k26 w0 S)) (r_p1 : rng p1) : ∀ (n : Nat) {v2 : Int} {S : HS}, rng v2 → WR shF S → zW mA_X1_handFor mO_X1_handFor rng S (L_X1_handFor_2 k26 p1 n v2 S) := by
  intro n
  induction n with
  | zero =>
    intro _ _ _ _
    exact zW_none
  | succ n ih =>
    intro v2 S r_v2 w_S
    rw [L_X1_handFor_2.eq_2]
    refine zW_ite ?_ ?_
    · exact zW_ret w_S (zrl rfl)
    · refine zW_ite ?_ ?_
      · exact zW_ret w_S (zrl rfl)
      · refine zW_zg ?_
        refine zW_ite ?_ ?_
        · exact hk26 _ _ r_v2 w_S
        · refine zW_zl (fun x5 r_x5 => ?_)
          exact ih r_x5 w_S
set_option maxHeartbeats 4000000 in
set_option maxRecDepth 20000 in
theorem W_M_X1_handFor {a1 : Int} {S : HS} (r_a1 : rng a1) (w_S : WR shF S) : zW mA_X1_handFor mO_X1_handFor rng S (M_X1_handFor a1 S) := by
  unfold M_X1_handFor
  exact W_L_X1_handFor_2 (fun e2 S6 r_e2 w_S6 => by
          refine zW_zg ?_
          exact zW_ret w_S6 (w_S6 39 _ sw_39 e2)) r_a1 _ (zrl rfl) w_S
abbrev mA_X11_planned : List Nat := [35, 36, 37, 38, 39]
abbrev mO_X11_planned : List (Nat × Int) := [(33, 6), (33, 7)]
set_option maxHeartbeats 4000000 in
set_option maxRecDepth 20000 in
theorem W_M_X11_planned {a1 : Int} {S : HS} (r_a1 : rng a1) (w_S : WR shF S) : zW mA_X11_planned mO_X11_planned rng S (M_X11_planned a1 S) := by
  unfold M_X11_planned
  refine zW_zb (W_M_X11_makePlan w_S) (by decide) (by decide) (fun _ S2 _ w_S2 => ?_)
  refine zW_zb (W_M_X1_handFor r_a1 w_S2) (by decide) (by decide) (fun r3 S4 r_r3 w_S4 => ?_)
  exact zW_ret w_S4 r_r3
abbrev mA_X6_putWeek : List Nat := [15]
abbrev mO_X6_putWeek : List (Nat × Int) := []
set_option maxHeartbeats 4000000 in
set_option maxRecDepth 20000 in
theorem W_M_X6_putWeek {a1 : Int} {a2 : Int} {S : HS} (r_a1 : rng a1) (r_a2 : rng a2) (w_S : WR shF S) : zW mA_X6_putWeek mO_X6_putWeek rng S (M_X6_putWeek a1 a2 S) := by
  unfold M_X6_putWeek
  refine zW_zb (W_M_X6_has r_a1 w_S) (by decide) (by decide) (fun r1 S2 r_r1 w_S2 => ?_)
  refine zW_ite ?_ ?_
  · exact zW_ret w_S2 (zrl rfl)
  · refine zW_zg ?_
    refine zW_up w_S2 sw_15 (by decide) r_a2 (fun S5 w_S5 => ?_)
    exact zW_ret w_S5 (zrl rfl)
abbrev mA_X11_done : List Nat := [15]
abbrev mO_X11_done : List (Nat × Int) := []
set_option maxHeartbeats 4000000 in
set_option maxRecDepth 20000 in
theorem W_L_X11_done_2 {k34 : HS → zO2} (hk34 : ∀ (S : HS), WR shF S → zW mA_X11_done mO_X11_done rng S (k34 S)) : ∀ (n : Nat) {v1 : Int} {S : HS}, rng v1 → WR shF S → zW mA_X11_done mO_X11_done rng S (L_X11_done_2 k34 n v1 S) := by
  intro n
  induction n with
  | zero =>
    intro _ _ _ _
    exact zW_none
  | succ n ih =>
    intro v1 S r_v1 w_S
    rw [L_X11_done_2.eq_2]
    refine zW_ite ?_ ?_
    · exact hk34 _ w_S
    · refine zW_zb (W_M_X6_putWeek r_v1 (w_S 1 _ sw_1 2) w_S) (by decide) (by decide) (fun _ S3 _ w_S3 => ?_)
      refine zW_zl (fun x4 r_x4 => ?_)
      exact ih r_x4 w_S3
set_option maxHeartbeats 4000000 in
set_option maxRecDepth 20000 in
theorem W_M_X11_done {S : HS} (w_S : WR shF S) : zW mA_X11_done mO_X11_done rng S (M_X11_done S) := by
  unfold M_X11_done
  exact W_L_X11_done_2 (fun S5  w_S5 => by
          exact zW_ret w_S5 (w_S5 7 _ sw_7 11)) _ (zrl rfl) w_S
abbrev mA_X2_grow : List Nat := []
abbrev mO_X2_grow : List (Nat × Int) := [(1, 1), (1, 2)]
set_option maxHeartbeats 4000000 in
set_option maxRecDepth 20000 in
theorem W_M_X2_grow {a1 : Int} {S : HS} (r_a1 : rng a1) (w_S : WR shF S) : zW mA_X2_grow mO_X2_grow rng S (M_X2_grow a1 S) := by
  unfold M_X2_grow
  refine zW_zl (fun x1 r_x1 => ?_)
  refine zW_upO w_S sw_1 (by decide) r_x1 (fun S2 w_S2 => ?_)
  refine zW_zl (fun x3 r_x3 => ?_)
  refine zW_upO w_S2 sw_1 (by decide) (zmin_r (zrl rfl) r_x3) (fun S4 w_S4 => ?_)
  exact zW_ret w_S4 (zrl rfl)
abbrev mA_X11_weeks : List Nat := []
abbrev mO_X11_weeks : List (Nat × Int) := [(1, 1), (1, 2)]
set_option maxHeartbeats 4000000 in
set_option maxRecDepth 20000 in
theorem W_M_X11_weeks {a1 : Int} {S : HS} (r_a1 : rng a1) (w_S : WR shF S) : zW mA_X11_weeks mO_X11_weeks rng S (M_X11_weeks a1 S) := by
  unfold M_X11_weeks
  refine zW_ite ?_ ?_
  · exact zW_ret w_S (zrl rfl)
  · refine zW_ite ?_ ?_
    · exact zW_ret w_S (zrl rfl)
    · refine zW_zl (fun x3 r_x3 => ?_)
      refine zW_ite ?_ ?_
      · refine zW_zb (W_M_X2_grow r_a1 w_S) (by decide) (by decide) (fun _ S6 _ w_S6 => ?_)
        exact zW_ret w_S6 (w_S6 1 _ sw_1 2)
      · exact zW_ret w_S (zrl rfl)
abbrev mA_X11_holds : List Nat := []
abbrev mO_X11_holds : List (Nat × Int) := []
set_option maxHeartbeats 4000000 in
set_option maxRecDepth 20000 in
theorem W_M_X11_holds {a1 : Int} {S : HS} (r_a1 : rng a1) (w_S : WR shF S) : zW mA_X11_holds mO_X11_holds rng S (M_X11_holds a1 S) := by
  unfold M_X11_holds
  refine zW_zb (W_M_X6_has r_a1 w_S) (by decide) (by decide) (fun r1 S2 r_r1 w_S2 => ?_)
  refine zW_ite ?_ ?_
  · exact zW_ret w_S2 (zrl rfl)
  · refine zW_zb (W_M_X0_weeksHeld r_a1 w_S2) (by decide) (by decide) (fun r4 S5 r_r4 w_S5 => ?_)
    exact zW_ret w_S5 r_r4
abbrev mA_X11_isOut : List Nat := []
abbrev mO_X11_isOut : List (Nat × Int) := []
set_option maxHeartbeats 4000000 in
set_option maxRecDepth 20000 in
theorem W_M_X11_isOut {a1 : Int} {S : HS} (r_a1 : rng a1) (w_S : WR shF S) : zW mA_X11_isOut mO_X11_isOut rng S (M_X11_isOut a1 S) := by
  unfold M_X11_isOut
  refine zW_zb (W_M_X6_has r_a1 w_S) (by decide) (by decide) (fun r1 S2 r_r1 w_S2 => ?_)
  refine zW_ite ?_ ?_
  · exact zW_ret w_S2 (zrl rfl)
  · refine zW_zb (W_M_X11_isGrownOut r_a1 w_S2) (by decide) (by decide) (fun r4 S5 r_r4 w_S5 => ?_)
    refine zW_ite ?_ ?_
    · exact zW_ret w_S5 (zrl rfl)
    · exact zW_ret w_S5 (zrl rfl)
abbrev mA_X11_redo : List Nat := [15]
abbrev mO_X11_redo : List (Nat × Int) := []
set_option maxHeartbeats 4000000 in
set_option maxRecDepth 20000 in
theorem W_M_X11_redo {a1 : Int} {S : HS} (r_a1 : rng a1) (w_S : WR shF S) : zW mA_X11_redo mO_X11_redo rng S (M_X11_redo a1 S) := by
  unfold M_X11_redo
  refine zW_zb (W_M_X6_has r_a1 w_S) (by decide) (by decide) (fun r1 S2 r_r1 w_S2 => ?_)
  refine zW_ite ?_ ?_
  · exact zW_ret w_S2 (zrl rfl)
  · refine zW_zb (W_M_X11_isGrownOut r_a1 w_S2) (by decide) (by decide) (fun r4 S5 r_r4 w_S5 => ?_)
    refine zW_ite ?_ ?_
    · exact zW_ret w_S5 (zrl rfl)
    · refine zW_zb (W_M_X6_isTied r_a1 w_S5) (by decide) (by decide) (fun r7 S8 r_r7 w_S8 => ?_)
      refine zW_ite ?_ ?_
      · refine zW_zb (W_M_X6_putWeek r_a1 (w_S8 1 _ sw_1 2) w_S8) (by decide) (by decide) (fun _ S11 _ w_S11 => ?_)
        exact zW_ret w_S11 (zrl rfl)
      · exact zW_ret w_S8 (zrl rfl)
abbrev mA_X11_isUnlike : List Nat := []
abbrev mO_X11_isUnlike : List (Nat × Int) := []
set_option maxHeartbeats 4000000 in
set_option maxRecDepth 20000 in
theorem W_J_X11_isUnlike_109 {S : HS} (w_S : WR shF S) : zW mA_X11_isUnlike mO_X11_isUnlike rng S (J_X11_isUnlike_109 S) := by
  unfold J_X11_isUnlike_109
  exact zW_ret w_S (zrl rfl)
set_option maxHeartbeats 4000000 in
set_option maxRecDepth 20000 in
theorem W_J_X11_isUnlike_106 {t0 : Int} {t1 : Int} {S : HS} (r_t0 : rng t0) (r_t1 : rng t1) (w_S : WR shF S) : zW mA_X11_isUnlike mO_X11_isUnlike rng S (J_X11_isUnlike_106 t0 t1 S) := by
  unfold J_X11_isUnlike_106
  refine zW_ite ?_ ?_
  · exact zW_ret w_S (zrl rfl)
  · exact W_J_X11_isUnlike_109 w_S
set_option maxHeartbeats 4000000 in
set_option maxRecDepth 20000 in
theorem W_J_X11_isUnlike_88 {v2 : Int} {t0 : Int} {S : HS} (r_v2 : rng v2) (r_t0 : rng t0) (w_S : WR shF S) : zW mA_X11_isUnlike mO_X11_isUnlike rng S (J_X11_isUnlike_88 v2 t0 S) := by
  unfold J_X11_isUnlike_88
  refine zW_zb (W_M_X8_takerAt r_v2 w_S) (by decide) (by decide) (fun r18 S19 r_r18 w_S19 => ?_)
  refine zW_ite ?_ ?_
  · exact W_J_X11_isUnlike_106 (zrl rfl) r_t0 w_S19
  · exact W_J_X11_isUnlike_106 (zrl rfl) r_t0 w_S19
set_option maxHeartbeats 4000000 in
set_option maxRecDepth 20000 in
theorem W_J_X11_isUnlike_67 {v1 : Int} {v2 : Int} {t0 : Int} {t1 : Int} {S : HS} (r_v1 : rng v1) (r_v2 : rng v2) (r_t0 : rng t0) (r_t1 : rng t1) (w_S : WR shF S) : zW mA_X11_isUnlike mO_X11_isUnlike rng S (J_X11_isUnlike_67 v1 v2 t0 t1 S) := by
  unfold J_X11_isUnlike_67
  refine zW_ite ?_ ?_
  · refine zW_zb (W_M_X8_takerAt r_v1 w_S) (by decide) (by decide) (fun r15 S16 r_r15 w_S16 => ?_)
    refine zW_ite ?_ ?_
    · exact W_J_X11_isUnlike_88 r_v2 (zrl rfl) w_S16
    · exact W_J_X11_isUnlike_88 r_v2 (zrl rfl) w_S16
  · exact W_J_X11_isUnlike_109 w_S
set_option maxHeartbeats 4000000 in
set_option maxRecDepth 20000 in
theorem W_J_X11_isUnlike_50 {v1 : Int} {v2 : Int} {t0 : Int} {S : HS} (r_v1 : rng v1) (r_v2 : rng v2) (r_t0 : rng t0) (w_S : WR shF S) : zW mA_X11_isUnlike mO_X11_isUnlike rng S (J_X11_isUnlike_50 v1 v2 t0 S) := by
  unfold J_X11_isUnlike_50
  refine zW_zb (W_M_X6_placeAt r_v2 w_S) (by decide) (by decide) (fun r11 S12 r_r11 w_S12 => ?_)
  refine zW_ite ?_ ?_
  · exact W_J_X11_isUnlike_67 r_v1 r_v2 (zrl rfl) r_t0 w_S12
  · exact W_J_X11_isUnlike_67 r_v1 r_v2 (zrl rfl) r_t0 w_S12
set_option maxHeartbeats 4000000 in
set_option maxRecDepth 20000 in
theorem W_M_X11_isUnlike {a1 : Int} {S : HS} (r_a1 : rng a1) (w_S : WR shF S) : zW mA_X11_isUnlike mO_X11_isUnlike rng S (M_X11_isUnlike a1 S) := by
  unfold M_X11_isUnlike
  refine zW_zg ?_
  refine zW_zl (fun x2 r_x2 => ?_)
  refine zW_zb (W_M_X2_isScalp r_a1 w_S) (by decide) (by decide) (fun r3 S4 r_r3 w_S4 => ?_)
  refine zW_zb (W_M_X2_isScalp r_x2 w_S4) (by decide) (by decide) (fun r5 S6 r_r5 w_S6 => ?_)
  refine zW_ite ?_ ?_
  · refine zW_zb (W_M_X6_placeAt r_a1 w_S6) (by decide) (by decide) (fun r8 S9 r_r8 w_S9 => ?_)
    refine zW_ite ?_ ?_
    · exact W_J_X11_isUnlike_50 r_a1 r_x2 (zrl rfl) w_S9
    · exact W_J_X11_isUnlike_50 r_a1 r_x2 (zrl rfl) w_S9
  · exact W_J_X11_isUnlike_109 w_S6
abbrev mA_X11_unlikePairs : List Nat := []
abbrev mO_X11_unlikePairs : List (Nat × Int) := []
set_option maxHeartbeats 4000000 in
set_option maxRecDepth 20000 in
theorem W_J_X11_unlikePairs_31 {k4 : Int → Int → HS → zO2} {v1 : Int} {v2 : Int} {S : HS} (hk4 : ∀ (w0 w1 : Int) (S : HS), rng w0 → rng w1 → WR shF S → zW mA_X11_unlikePairs mO_X11_unlikePairs rng S (k4 w0 w1 S)) (r_v1 : rng v1) (r_v2 : rng v2) (w_S : WR shF S) : zW mA_X11_unlikePairs mO_X11_unlikePairs rng S (J_X11_unlikePairs_31 k4 v1 v2 S) := by
  unfold J_X11_unlikePairs_31
  refine zW_zl (fun x5 r_x5 => ?_)
  exact hk4 _ _ _ r_v1 r_x5 w_S
set_option maxHeartbeats 4000000 in
set_option maxRecDepth 20000 in
theorem W_L_X11_unlikePairs_4   : ∀ (n : Nat) {v1 : Int} {v2 : Int} {S : HS}, rng v1 → rng v2 → WR shF S → zW mA_X11_unlikePairs mO_X11_unlikePairs rng S (L_X11_unlikePairs_4  n v1 v2 S) := by
  intro n
  induction n with
  | zero =>
    intro _ _ _ _ _ _
    exact zW_none
  | succ n ih =>
    intro v1 v2 S r_v1 r_v2 w_S
    rw [L_X11_unlikePairs_4.eq_2]
    refine zW_ite ?_ ?_
    · exact zW_ret w_S r_v1
    · refine zW_zg ?_
      refine zW_zl (fun x3 r_x3 => ?_)
      refine zW_ite ?_ ?_
      · exact W_J_X11_unlikePairs_31 (fun q0_ q1_ T_ r_q0_ r_q1_ w_T_ => ih r_q0_ r_q1_ w_T_) r_v1 r_v2 w_S
      · refine zW_zb (W_M_X11_isUnlike r_v2 w_S) (by decide) (by decide) (fun r6 S7 r_r6 w_S7 => ?_)
        refine zW_ite ?_ ?_
        · exact W_J_X11_unlikePairs_31 (fun q0_ q1_ T_ r_q0_ r_q1_ w_T_ => ih r_q0_ r_q1_ w_T_) r_v1 r_v2 w_S7
        · refine zW_zl (fun x9 r_x9 => ?_)
          exact W_J_X11_unlikePairs_31 (fun q0_ q1_ T_ r_q0_ r_q1_ w_T_ => ih r_q0_ r_q1_ w_T_) r_x9 r_v2 w_S7
set_option maxHeartbeats 4000000 in
set_option maxRecDepth 20000 in
theorem W_M_X11_unlikePairs {S : HS} (w_S : WR shF S) : zW mA_X11_unlikePairs mO_X11_unlikePairs rng S (M_X11_unlikePairs S) := by
  unfold M_X11_unlikePairs
  exact W_L_X11_unlikePairs_4 _ (zrl rfl) (zrl rfl) w_S
abbrev mA_X2_allHairs : List Nat := []
abbrev mO_X2_allHairs : List (Nat × Int) := []
set_option maxHeartbeats 4000000 in
set_option maxRecDepth 20000 in
theorem W_L_X2_allHairs_13 {p3 : Int} (r_p3 : rng p3) : ∀ (n : Nat) {v1 : Int} {v4 : Int} {S : HS}, rng v1 → rng v4 → WR shF S → zW mA_X2_allHairs mO_X2_allHairs rng S (L_X2_allHairs_13 p3 n v1 v4 S) := by
  intro n
  induction n with
  | zero =>
    intro _ _ _ _ _ _
    exact zW_none
  | succ n ih =>
    intro v1 v4 S r_v1 r_v4 w_S
    rw [L_X2_allHairs_13.eq_2]
    refine zW_ite ?_ ?_
    · exact zW_ret w_S r_v1
    · refine zW_zg ?_
      refine zW_zl (fun x3 r_x3 => ?_)
      refine zW_zl (fun x4 r_x4 => ?_)
      exact ih r_x3 r_x4 w_S
set_option maxHeartbeats 4000000 in
set_option maxRecDepth 20000 in
theorem W_M_X2_allHairs {S : HS} (w_S : WR shF S) : zW mA_X2_allHairs mO_X2_allHairs rng S (M_X2_allHairs S) := by
  unfold M_X2_allHairs
  exact W_L_X2_allHairs_13 (zrl rfl) _ (zrl rfl) (zrl rfl) w_S
abbrev mA_X0_allWeights : List Nat := []
abbrev mO_X0_allWeights : List (Nat × Int) := []
set_option maxHeartbeats 4000000 in
set_option maxRecDepth 20000 in
theorem W_L_X0_allWeights_4   : ∀ (n : Nat) {v1 : Int} {v2 : Int} {S : HS}, rng v1 → rng v2 → WR shF S → zW mA_X0_allWeights mO_X0_allWeights rng S (L_X0_allWeights_4  n v1 v2 S) := by
  intro n
  induction n with
  | zero =>
    intro _ _ _ _ _ _
    exact zW_none
  | succ n ih =>
    intro v1 v2 S r_v1 r_v2 w_S
    rw [L_X0_allWeights_4.eq_2]
    refine zW_ite ?_ ?_
    · exact zW_ret w_S r_v1
    · refine zW_zb (W_M_X0_lastWeights r_v2 w_S) (by decide) (by decide) (fun r2 S3 r_r2 w_S3 => ?_)
      refine zW_zl (fun x4 r_x4 => ?_)
      refine zW_zl (fun x5 r_x5 => ?_)
      exact ih r_x4 r_x5 w_S3
set_option maxHeartbeats 4000000 in
set_option maxRecDepth 20000 in
theorem W_M_X0_allWeights {S : HS} (w_S : WR shF S) : zW mA_X0_allWeights mO_X0_allWeights rng S (M_X0_allWeights S) := by
  unfold M_X0_allWeights
  exact W_L_X0_allWeights_4 _ (zrl rfl) (zrl rfl) w_S
abbrev mA_X11_count : List Nat := []
abbrev mO_X11_count : List (Nat × Int) := []
set_option maxHeartbeats 4000000 in
set_option maxRecDepth 20000 in
theorem W_M_X11_count {a1 : Int} {S : HS} (r_a1 : rng a1) (w_S : WR shF S) : zW mA_X11_count mO_X11_count rng S (M_X11_count a1 S) := by
  unfold M_X11_count
  refine zW_ite ?_ ?_
  · exact zW_ret w_S (w_S 3 _ sw_3 3)
  · refine zW_ite ?_ ?_
    · exact zW_ret w_S (w_S 7 _ sw_7 11)
    · refine zW_ite ?_ ?_
      · exact zW_ret w_S (w_S 17 _ sw_17 9)
      · refine zW_ite ?_ ?_
        · exact zW_ret w_S (w_S 17 _ sw_17 10)
        · refine zW_ite ?_ ?_
          · refine zW_zb (W_M_X11_unlikePairs w_S) (by decide) (by decide) (fun r6 S7 r_r6 w_S7 => ?_)
            exact zW_ret w_S7 r_r6
          · refine zW_ite ?_ ?_
            · refine zW_zb (W_M_X2_allHairs w_S) (by decide) (by decide) (fun r9 S10 r_r9 w_S10 => ?_)
              exact zW_ret w_S10 r_r9
            · refine zW_ite ?_ ?_
              · refine zW_zb (W_M_X0_allWeights w_S) (by decide) (by decide) (fun r12 S13 r_r12 w_S13 => ?_)
                exact zW_ret w_S13 r_r12
              · refine zW_ite ?_ ?_
                · exact zW_ret w_S (w_S 7 _ sw_7 12)
                · refine zW_ite ?_ ?_
                  · exact zW_ret w_S (w_S 45 _ sw_45 6)
                  · refine zW_ite ?_ ?_
                    · exact zW_ret w_S (w_S 1 _ sw_1 2)
                    · refine zW_ite ?_ ?_
                      · exact zW_ret w_S (w_S 1 _ sw_1 1)
                      · refine zW_ite ?_ ?_
                        · exact zW_ret w_S (w_S 40 _ sw_40 1)
                        · refine zW_ite ?_ ?_
                          · exact zW_ret w_S (w_S 23 _ sw_23 4)
                          · exact zW_ret w_S (zrl rfl)
abbrev mA_X11_strand : List Nat := []
abbrev mO_X11_strand : List (Nat × Int) := []
set_option maxHeartbeats 4000000 in
set_option maxRecDepth 20000 in
theorem W_J_X11_strand_26 {kT : HS → zO2} {S : HS} (hkT : ∀ (S : HS), WR shF S → zW mA_X11_strand mO_X11_strand rng6 S (kT S)) (w_S : WR shF S) : zW mA_X11_strand mO_X11_strand rng6 S (J_X11_strand_26 kT S) := by
  unfold J_X11_strand_26
  exact hkT _ w_S
set_option maxHeartbeats 4000000 in
set_option maxRecDepth 20000 in
theorem W_M_X11_strand {kT : HS → zO2} {a1 : Int} {a2 : Int} {a3 : Int} {S : HS} (hkT : ∀ (S : HS), WR shF S → zW mA_X11_strand mO_X11_strand rng6 S (kT S)) (r_a1 : rng a1) (r_a2 : rng a2) (r_a3 : rng a3) (w_S : WR shF S) : zW mA_X11_strand mO_X11_strand rng6 S (M_X11_strand kT a1 a2 a3 S) := by
  unfold M_X11_strand
  refine zW_zb (W_M_X6_cellIn r_a1 r_a2 w_S) (by decide) (by decide) (fun r1 S2 r_r1 w_S2 => ?_)
  refine zW_ite ?_ ?_
  · exact W_J_X11_strand_26 hkT w_S2
  · refine zW_ite ?_ ?_
    · exact W_J_X11_strand_26 hkT w_S2
    · refine zW_ite ?_ ?_
      · refine zW_ite ?_ ?_
        · refine zW_ite ?_ ?_
          · refine zW_zb (W_M_X8_hairsBy r_r1 w_S2) (by decide) (by decide) (fun r14 S15 r_r14 w_S15 => ?_)
            exact zW_ret w_S15 (z_ri r_r14)
          · refine zW_ite ?_ ?_
            · refine zW_zb (W_M_X0_pullAt r_r1 w_S2) (by decide) (by decide) (fun r12 S13 r_r12 w_S13 => ?_)
              exact zW_ret w_S13 (z_ri r_r12)
            · refine zW_zb (W_M_X2_isEdge r_r1 w_S2) (by decide) (by decide) (fun r9 S10 r_r9 w_S10 => ?_)
              refine zW_ite ?_ ?_
              · exact zW_ret w_S10 (zrl6 rfl)
              · exact zW_ret w_S10 (zrl6 rfl)
        · refine zW_zb (W_M_X0_weightAt r_r1 r_a3 w_S2) (by decide) (by decide) (fun r16 S17 r_r16 w_S17 => ?_)
          exact zW_ret w_S17 (z_ri r_r16)
      · exact W_J_X11_strand_26 hkT w_S2
abbrev mA_X11_look : List Nat := []
abbrev mO_X11_look : List (Nat × Int) := []
set_option maxHeartbeats 4000000 in
set_option maxRecDepth 20000 in
theorem W_J_X11_look_22 {kT : HS → zO2} {S : HS} (hkT : ∀ (S : HS), WR shF S → zW mA_X11_look mO_X11_look rng6 S (kT S)) (w_S : WR shF S) : zW mA_X11_look mO_X11_look rng6 S (J_X11_look_22 kT S) := by
  unfold J_X11_look_22
  exact hkT _ w_S
set_option maxHeartbeats 4000000 in
set_option maxRecDepth 20000 in
theorem W_M_X11_look {kT : HS → zO2} {a1 : Int} {a2 : Int} {a3 : Int} {S : HS} (hkT : ∀ (S : HS), WR shF S → zW mA_X11_look mO_X11_look rng6 S (kT S)) (r_a1 : rng a1) (r_a2 : rng a2) (r_a3 : rng a3) (w_S : WR shF S) : zW mA_X11_look mO_X11_look rng6 S (M_X11_look kT a1 a2 a3 S) := by
  unfold M_X11_look
  refine zW_zb (W_M_X11_cellAt r_a1 r_a2 w_S) (by decide) (by decide) (fun r1 S2 r_r1 w_S2 => ?_)
  refine zW_ite ?_ ?_
  · exact W_J_X11_look_22 hkT w_S2
  · refine zW_ite ?_ ?_
    · exact W_J_X11_look_22 hkT w_S2
    · refine zW_ite ?_ ?_
      · refine zW_ite ?_ ?_
        · refine zW_zb (W_M_X2_hairsAt r_r1 w_S2) (by decide) (by decide) (fun r16 S17 r_r16 w_S17 => ?_)
          exact zW_ret w_S17 (z_ri r_r16)
        · refine zW_ite ?_ ?_
          · refine zW_zb (W_M_X11_isUnlike r_r1 w_S2) (by decide) (by decide) (fun r13 S14 r_r13 w_S14 => ?_)
            refine zW_ite ?_ ?_
            · exact zW_ret w_S14 (zrl6 rfl)
            · exact zW_ret w_S14 (zrl6 rfl)
          · refine zW_zb (W_M_X6_placeAt r_r1 w_S2) (by decide) (by decide) (fun r8 S9 r_r8 w_S9 => ?_)
            refine zW_ite ?_ ?_
            · exact zW_ret w_S9 (zrl6 rfl)
            · refine zW_zg ?_
              refine zW_zl (fun x12 r_x12 => ?_)
              exact zW_ret w_S9 (z_ri r_x12)
      · exact W_J_X11_look_22 hkT w_S2
abbrev mA_X12_isWord : List Nat := []
abbrev mO_X12_isWord : List (Nat × Int) := []
set_option maxHeartbeats 4000000 in
set_option maxRecDepth 20000 in
theorem W_M_X12_isWord {a1 : Int} {S : HS} (r_a1 : rng a1) (w_S : WR shF S) : zW mA_X12_isWord mO_X12_isWord rng S (M_X12_isWord a1 S) := by
  unfold M_X12_isWord
  refine zW_ite ?_ ?_
  · refine zW_zg ?_
    refine zW_ite ?_ ?_
    · refine zW_zg ?_
      refine zW_zg ?_
      refine zW_ite ?_ ?_
      · exact zW_ret w_S (zrl rfl)
      · exact zW_ret w_S (zrl rfl)
    · exact zW_ret w_S (zrl rfl)
  · exact zW_ret w_S (zrl rfl)
abbrev mA_X12_emit : List Nat := [57, 58, 59, 60]
abbrev mO_X12_emit : List (Nat × Int) := [(51, 10)]
set_option maxHeartbeats 4000000 in
set_option maxRecDepth 20000 in
theorem W_M_X12_emit {a1 : Int} {a2 : Int} {a3 : Int} {S : HS} (r_a1 : rng a1) (r_a2 : rng a2) (r_a3 : rng a3) (w_S : WR shF S) : zW mA_X12_emit mO_X12_emit rng S (M_X12_emit a1 a2 a3 S) := by
  unfold M_X12_emit
  refine zW_zg ?_
  refine zW_up w_S sw_57 (by decide) r_a1 (fun S2 w_S2 => ?_)
  refine zW_zg ?_
  refine zW_up w_S2 sw_58 (by decide) r_a2 (fun S4 w_S4 => ?_)
  refine zW_zg ?_
  refine zW_up w_S4 sw_59 (by decide) r_a3 (fun S6 w_S6 => ?_)
  refine zW_zg ?_
  refine zW_up w_S6 sw_60 (by decide) (zrl rfl) (fun S8 w_S8 => ?_)
  refine zW_zl (fun x9 r_x9 => ?_)
  refine zW_upO w_S8 sw_51 (by decide) r_x9 (fun S10 w_S10 => ?_)
  refine zW_zl (fun x11 r_x11 => ?_)
  exact zW_ret w_S10 r_x11
abbrev mA_X12_isSign : List Nat := []
abbrev mO_X12_isSign : List (Nat × Int) := []
set_option maxHeartbeats 4000000 in
set_option maxRecDepth 20000 in
theorem W_M_X12_isSign {a1 : Int} {S : HS} (r_a1 : rng a1) (w_S : WR shF S) : zW mA_X12_isSign mO_X12_isSign rng S (M_X12_isSign a1 S) := by
  unfold M_X12_isSign
  refine zW_ite ?_ ?_
  · refine zW_zg ?_
    refine zW_ite ?_ ?_
    · refine zW_zg ?_
      refine zW_ite ?_ ?_
      · exact zW_ret w_S (zrl rfl)
      · exact zW_ret w_S (zrl rfl)
    · exact zW_ret w_S (zrl rfl)
  · exact zW_ret w_S (zrl rfl)
abbrev mA_X12_wrong : List Nat := []
abbrev mO_X12_wrong : List (Nat × Int) := [(51, 8)]
set_option maxHeartbeats 4000000 in
set_option maxRecDepth 20000 in
theorem W_M_X12_wrong {a1 : Int} {S : HS} (r_a1 : rng a1) (w_S : WR shF S) : zW mA_X12_wrong mO_X12_wrong rng S (M_X12_wrong a1 S) := by
  unfold M_X12_wrong
  refine zW_ite ?_ ?_
  · refine zW_zg ?_
    refine zW_zl (fun x3 r_x3 => ?_)
    refine zW_upO w_S sw_51 (by decide) r_x3 (fun S4 w_S4 => ?_)
    exact zW_ret w_S4 (zrl rfl)
  · exact zW_ret w_S (zrl rfl)
abbrev mA_X12_takeSign : List Nat := []
abbrev mO_X12_takeSign : List (Nat × Int) := [(51, 7), (51, 8)]
set_option maxHeartbeats 4000000 in
set_option maxRecDepth 20000 in
theorem W_M_X12_takeSign {a1 : Int} {S : HS} (r_a1 : rng a1) (w_S : WR shF S) : zW mA_X12_takeSign mO_X12_takeSign rng S (M_X12_takeSign a1 S) := by
  unfold M_X12_takeSign
  refine zW_zb (W_M_X12_isSign r_a1 w_S) (by decide) (by decide) (fun r1 S2 r_r1 w_S2 => ?_)
  refine zW_ite ?_ ?_
  · refine zW_zb (W_M_X12_wrong (zrl rfl) w_S2) (by decide) (by decide) (fun _ S5 _ w_S5 => ?_)
    exact zW_ret w_S5 (zrl rfl)
  · refine zW_zl (fun x6 r_x6 => ?_)
    refine zW_upO w_S2 sw_51 (by decide) r_x6 (fun S7 w_S7 => ?_)
    exact zW_ret w_S7 (zrl rfl)
abbrev mA_X12_takeNumber : List Nat := []
abbrev mO_X12_takeNumber : List (Nat × Int) := [(51, 7), (51, 8)]
set_option maxHeartbeats 4000000 in
set_option maxRecDepth 20000 in
theorem W_J_X12_takeNumber_70 {S : HS} (w_S : WR shF S) : zW mA_X12_takeNumber mO_X12_takeNumber rng S (J_X12_takeNumber_70 S) := by
  unfold J_X12_takeNumber_70
  refine zW_ite ?_ ?_
  · refine zW_zl (fun x4 r_x4 => ?_)
    refine zW_upO w_S sw_51 (by decide) r_x4 (fun S5 w_S5 => ?_)
    refine zW_zg ?_
    exact zW_ret w_S5 zl2i_r
  · exact zW_ret w_S (zrl rfl)
set_option maxHeartbeats 4000000 in
set_option maxRecDepth 20000 in
theorem W_J_X12_takeNumber_65 {S : HS} (w_S : WR shF S) : zW mA_X12_takeNumber mO_X12_takeNumber rng S (J_X12_takeNumber_65 S) := by
  unfold J_X12_takeNumber_65
  refine zW_zb (W_M_X12_wrong (zrl rfl) w_S) (by decide) (by decide) (fun _ S10 _ w_S10 => ?_)
  exact W_J_X12_takeNumber_70 w_S10
set_option maxHeartbeats 4000000 in
set_option maxRecDepth 20000 in
theorem W_J_X12_takeNumber_28 {v1 : Int} {v2 : Int} {S : HS} (r_v1 : rng v1) (r_v2 : rng v2) (w_S : WR shF S) : zW mA_X12_takeNumber mO_X12_takeNumber rng S (J_X12_takeNumber_28 v1 v2 S) := by
  unfold J_X12_takeNumber_28
  refine zW_ite ?_ ?_
  · refine zW_zg ?_
    refine zW_ite ?_ ?_
    · exact W_J_X12_takeNumber_65 w_S
    · refine zW_zg ?_
      refine zW_ite ?_ ?_
      · exact W_J_X12_takeNumber_70 w_S
      · exact W_J_X12_takeNumber_65 w_S
  · exact W_J_X12_takeNumber_70 w_S
set_option maxHeartbeats 4000000 in
set_option maxRecDepth 20000 in
theorem W_M_X12_takeNumber {a1 : Int} {a2 : Int} {S : HS} (r_a1 : rng a1) (r_a2 : rng a2) (w_S : WR shF S) : zW mA_X12_takeNumber mO_X12_takeNumber rng S (M_X12_takeNumber a1 a2 S) := by
  unfold M_X12_takeNumber
  refine zW_ite ?_ ?_
  · refine zW_zg ?_
    refine zW_ite ?_ ?_
    · exact W_J_X12_takeNumber_28 r_a1 r_a2 w_S
    · refine zW_zb (W_M_X12_wrong (zrl rfl) w_S) (by decide) (by decide) (fun _ S16 _ w_S16 => ?_)
      exact W_J_X12_takeNumber_70 w_S16
  · exact W_J_X12_takeNumber_28 r_a1 r_a2 w_S
abbrev mA_X12_wayWord : List Nat := []
abbrev mO_X12_wayWord : List (Nat × Int) := []
set_option maxHeartbeats 4000000 in
set_option maxRecDepth 20000 in
theorem W_L_X12_wayWord_2   : ∀ (n : Nat) {v1 : Int} {S : HS}, rng v1 → WR shF S → zW mA_X12_wayWord mO_X12_wayWord rng S (L_X12_wayWord_2  n v1 S) := by
  intro n
  induction n with
  | zero =>
    intro _ _ _ _
    exact zW_none
  | succ n ih =>
    intro v1 S r_v1 w_S
    rw [L_X12_wayWord_2.eq_2]
    refine zW_ite ?_ ?_
    · exact zW_ret w_S (zrl rfl)
    · refine zW_zb (W_M_X12_isWord r_v1 w_S) (by decide) (by decide) (fun r2 S3 r_r2 w_S3 => ?_)
      refine zW_ite ?_ ?_
      · refine zW_zl (fun x5 r_x5 => ?_)
        exact ih r_x5 w_S3
      · exact zW_ret w_S3 r_v1
set_option maxHeartbeats 4000000 in
set_option maxRecDepth 20000 in
theorem W_M_X12_wayWord {S : HS} (w_S : WR shF S) : zW mA_X12_wayWord mO_X12_wayWord rng S (M_X12_wayWord S) := by
  unfold M_X12_wayWord
  exact W_L_X12_wayWord_2 _ (zrl rfl) w_S
abbrev mA_X12_readWay : List Nat := []
abbrev mO_X12_readWay : List (Nat × Int) := [(51, 7), (51, 8), (51, 15), (51, 16)]
set_option maxHeartbeats 4000000 in
set_option maxRecDepth 20000 in
theorem W_J_X12_readWay_80 {t0 : Int} {S : HS} (r_t0 : rng t0) (w_S : WR shF S) : zW mA_X12_readWay mO_X12_readWay rng S (J_X12_readWay_80 t0 S) := by
  unfold J_X12_readWay_80
  refine zW_upO w_S sw_51 (by decide) r_t0 (fun S13 w_S13 => ?_)
  exact zW_ret w_S13 (zrl rfl)
set_option maxHeartbeats 4000000 in
set_option maxRecDepth 20000 in
theorem W_J_X12_readWay_56 {v1 : Int} {v2 : Int} {t0 : Int} {S : HS} (r_v1 : rng v1) (r_v2 : rng v2) (r_t0 : rng t0) (w_S : WR shF S) : zW mA_X12_readWay mO_X12_readWay rng S (J_X12_readWay_56 v1 v2 t0 S) := by
  unfold J_X12_readWay_56
  refine zW_upO w_S sw_51 (by decide) r_t0 (fun S10 w_S10 => ?_)
  refine zW_ite ?_ ?_
  · refine zW_zl (fun x14 r_x14 => ?_)
    exact W_J_X12_readWay_80 r_x14 w_S10
  · refine zW_ite ?_ ?_
    · exact W_J_X12_readWay_80 r_v2 w_S10
    · exact W_J_X12_readWay_80 (zrl rfl) w_S10
set_option maxHeartbeats 4000000 in
set_option maxRecDepth 20000 in
theorem W_M_X12_readWay {S : HS} (w_S : WR shF S) : zW mA_X12_readWay mO_X12_readWay rng S (M_X12_readWay S) := by
  unfold M_X12_readWay
  refine zW_zb (W_M_X12_wayWord w_S) (by decide) (by decide) (fun r1 S2 r_r1 w_S2 => ?_)
  refine zW_ite ?_ ?_
  · refine zW_zl (fun x4 r_x4 => ?_)
    refine zW_upO w_S2 sw_51 (by decide) r_x4 (fun S5 w_S5 => ?_)
    refine zW_zb (W_M_X12_takeNumber (zrl rfl) (zrl rfl) w_S5) (by decide) (by decide) (fun r6 S7 r_r6 w_S7 => ?_)
    refine zW_ite ?_ ?_
    · refine zW_zl (fun x15 r_x15 => ?_)
      exact W_J_X12_readWay_56 r_r1 r_r6 r_x15 w_S7
    · refine zW_ite ?_ ?_
      · exact W_J_X12_readWay_56 r_r1 r_r6 r_r6 w_S7
      · exact W_J_X12_readWay_56 r_r1 r_r6 (zrl rfl) w_S7
  · refine zW_zb (W_M_X12_wrong (zrl rfl) w_S2) (by decide) (by decide) (fun _ S17 _ w_S17 => ?_)
    exact zW_ret w_S17 (zrl rfl)
abbrev mA_X12_isStep : List Nat := []
abbrev mO_X12_isStep : List (Nat × Int) := []
set_option maxHeartbeats 4000000 in
set_option maxRecDepth 20000 in
theorem W_J_X12_isStep_26 {k4 : Int → Int → HS → zO2} {v2 : Int} {t0 : Int} {S : HS} (hk4 : ∀ (w0 w1 : Int) (S : HS), rng w0 → rng w1 → WR shF S → zW mA_X12_isStep mO_X12_isStep rng S (k4 w0 w1 S)) (r_v2 : rng v2) (r_t0 : rng t0) (w_S : WR shF S) : zW mA_X12_isStep mO_X12_isStep rng S (J_X12_isStep_26 k4 v2 t0 S) := by
  unfold J_X12_isStep_26
  refine zW_zl (fun x4 r_x4 => ?_)
  exact hk4 _ _ _ r_t0 r_x4 w_S
set_option maxHeartbeats 4000000 in
set_option maxRecDepth 20000 in
theorem W_J_X12_isStep_21 {k4 : Int → Int → HS → zO2} {v2 : Int} {S : HS} (hk4 : ∀ (w0 w1 : Int) (S : HS), rng w0 → rng w1 → WR shF S → zW mA_X12_isStep mO_X12_isStep rng S (k4 w0 w1 S)) (r_v2 : rng v2) (w_S : WR shF S) : zW mA_X12_isStep mO_X12_isStep rng S (J_X12_isStep_21 k4 v2 S) := by
  unfold J_X12_isStep_21
  exact W_J_X12_isStep_26 hk4 r_v2 (zrl rfl) w_S
set_option maxHeartbeats 4000000 in
set_option maxRecDepth 20000 in
theorem W_L_X12_isStep_4   : ∀ (n : Nat) {v1 : Int} {v2 : Int} {S : HS}, rng v1 → rng v2 → WR shF S → zW mA_X12_isStep mO_X12_isStep rng S (L_X12_isStep_4  n v1 v2 S) := by
  intro n
  induction n with
  | zero =>
    intro _ _ _ _ _ _
    exact zW_none
  | succ n ih =>
    intro v1 v2 S r_v1 r_v2 w_S
    rw [L_X12_isStep_4.eq_2]
    refine zW_ite ?_ ?_
    · refine zW_zg ?_
      exact zW_ret w_S r_v1
    · refine zW_ite ?_ ?_
      · refine zW_zb (W_M_X12_isWord r_v2 w_S) (by decide) (by decide) (fun r5 S6 r_r5 w_S6 => ?_)
        refine zW_ite ?_ ?_
        · exact W_J_X12_isStep_26 (fun q0_ q1_ T_ r_q0_ r_q1_ w_T_ => ih r_q0_ r_q1_ w_T_) r_v2 (zrl rfl) w_S6
        · exact W_J_X12_isStep_21 (fun q0_ q1_ T_ r_q0_ r_q1_ w_T_ => ih r_q0_ r_q1_ w_T_) r_v2 w_S6
      · exact W_J_X12_isStep_21 (fun q0_ q1_ T_ r_q0_ r_q1_ w_T_ => ih r_q0_ r_q1_ w_T_) r_v2 w_S
set_option maxHeartbeats 4000000 in
set_option maxRecDepth 20000 in
theorem W_M_X12_isStep {S : HS} (w_S : WR shF S) : zW mA_X12_isStep mO_X12_isStep rng S (M_X12_isStep S) := by
  unfold M_X12_isStep
  exact W_L_X12_isStep_4 _ (zrl rfl) (zrl rfl) w_S
abbrev mA_X12_readLine : List Nat := [57, 58, 59, 60]
abbrev mO_X12_readLine : List (Nat × Int) := [(51, 7), (51, 8), (51, 10), (51, 15), (51, 16)]
set_option maxHeartbeats 4000000 in
set_option maxRecDepth 20000 in
theorem W_L_X12_readLine_86 {k115 : HS → zO2} {p4 : Int} (hk115 : ∀ (S : HS), WR shF S → zW mA_X12_readLine mO_X12_readLine rng S (k115 S)) (r_p4 : rng p4) : ∀ (n : Nat) {S : HS}, WR shF S → zW mA_X12_readLine mO_X12_readLine rng S (L_X12_readLine_86 k115 p4 n  S) := by
  intro n
  induction n with
  | zero =>
    intro  _ _
    exact zW_none
  | succ n ih =>
    intro  S  w_S
    rw [L_X12_readLine_86.eq_2]
    refine zW_zb (W_M_X12_wayWord w_S) (by decide) (by decide) (fun r18 S19 r_r18 w_S19 => ?_)
    refine zW_ite ?_ ?_
    · exact hk115 _ w_S19
    · refine zW_zb (W_M_X12_readWay w_S19) (by decide) (by decide) (fun _ S22 _ w_S22 => ?_)
      refine zW_zb (W_M_X12_emit (zrl rfl) (w_S22 51 _ sw_51 15) (w_S22 51 _ sw_51 16) w_S22) (by decide) (by decide) (fun r23 S24 r_r23 w_S24 => ?_)
      exact ih w_S24
set_option maxHeartbeats 4000000 in
set_option maxRecDepth 20000 in
theorem W_J_X12_readLine_60 {v2 : Int} {v3 : Int} {t0 : Int} {S : HS} (r_v2 : rng v2) (r_v3 : rng v3) (r_t0 : rng t0) (w_S : WR shF S) : zW mA_X12_readLine mO_X12_readLine rng S (J_X12_readLine_60 v2 v3 t0 S) := by
  unfold J_X12_readLine_60
  refine zW_zb (W_M_X12_emit r_t0 r_v2 r_v3 w_S) (by decide) (by decide) (fun r12 S13 r_r12 w_S13 => ?_)
  refine zW_zb (W_M_X12_readWay w_S13) (by decide) (by decide) (fun _ S15 _ w_S15 => ?_)
  refine zW_zb (W_M_X12_emit (zrl rfl) (w_S15 51 _ sw_51 15) (w_S15 51 _ sw_51 16) w_S15) (by decide) (by decide) (fun r16 S17 r_r16 w_S17 => ?_)
  exact W_L_X12_readLine_86 (fun S25  w_S25 => by
          refine zW_zb (W_M_X12_takeSign (zrl rfl) w_S25) (by decide) (by decide) (fun _ S27 _ w_S27 => ?_)
          refine zW_zg ?_
          refine zW_up w_S27 sw_60 (by decide) (w_S27 51 _ sw_51 10) (fun S29 w_S29 => ?_)
          exact zW_ret w_S29 (zrl rfl)) r_r12 _ w_S17
set_option maxHeartbeats 4000000 in
set_option maxRecDepth 20000 in
theorem W_J_X12_readLine_46 {v1 : Int} {v2 : Int} {t0 : Int} {t1 : Int} {S : HS} (r_v1 : rng v1) (r_v2 : rng v2) (r_t0 : rng t0) (r_t1 : rng t1) (w_S : WR shF S) : zW mA_X12_readLine mO_X12_readLine rng S (J_X12_readLine_46 v1 v2 t0 t1 S) := by
  unfold J_X12_readLine_46
  refine zW_zb (W_M_X12_takeNumber r_t1 r_t0 w_S) (by decide) (by decide) (fun r9 S10 r_r9 w_S10 => ?_)
  refine zW_ite ?_ ?_
  · exact W_J_X12_readLine_60 r_v2 r_r9 (zrl rfl) w_S10
  · exact W_J_X12_readLine_60 r_v2 r_r9 (zrl rfl) w_S10
set_option maxHeartbeats 4000000 in
set_option maxRecDepth 20000 in
theorem W_J_X12_readLine_29 {v1 : Int} {t0 : Int} {t1 : Int} {S : HS} (r_v1 : rng v1) (r_t0 : rng t0) (r_t1 : rng t1) (w_S : WR shF S) : zW mA_X12_readLine mO_X12_readLine rng S (J_X12_readLine_29 v1 t0 t1 S) := by
  unfold J_X12_readLine_29
  refine zW_zb (W_M_X12_takeNumber r_t1 r_t0 w_S) (by decide) (by decide) (fun r6 S7 r_r6 w_S7 => ?_)
  refine zW_ite ?_ ?_
  · exact W_J_X12_readLine_46 r_v1 r_r6 (zrl rfl) (zrl rfl) w_S7
  · exact W_J_X12_readLine_46 r_v1 r_r6 (zrl rfl) (zrl rfl) w_S7
set_option maxHeartbeats 4000000 in
set_option maxRecDepth 20000 in
theorem W_M_X12_readLine {S : HS} (w_S : WR shF S) : zW mA_X12_readLine mO_X12_readLine rng S (M_X12_readLine S) := by
  unfold M_X12_readLine
  refine zW_zb (W_M_X12_isWord (zrl rfl) w_S) (by decide) (by decide) (fun r1 S2 r_r1 w_S2 => ?_)
  refine zW_zl (fun x3 r_x3 => ?_)
  refine zW_upO w_S2 sw_51 (by decide) r_x3 (fun S4 w_S4 => ?_)
  refine zW_ite ?_ ?_
  · exact W_J_X12_readLine_29 r_r1 (zrl rfl) (zrl rfl) w_S4
  · exact W_J_X12_readLine_29 r_r1 (zrl rfl) (zrl rfl) w_S4
abbrev mA_X12_readSteps : List Nat := [57, 58, 59, 60]
abbrev mO_X12_readSteps : List (Nat × Int) := [(51, 7), (51, 8), (51, 10), (51, 15), (51, 16)]
set_option maxHeartbeats 4000000 in
set_option maxRecDepth 20000 in
theorem W_J_X12_readBlock_82 {rec : Int → HS → zO2} {v1 : Int} {v2 : Int} {S : HS} (hrec : ∀ (b0 : Int) (S : HS), rng b0 → WR shF S → zW mA_X12_readSteps mO_X12_readSteps rng S (rec b0 S)) (r_v1 : rng v1) (r_v2 : rng v2) (w_S : WR shF S) : zW mA_X12_readSteps mO_X12_readSteps rng S (J_X12_readBlock_82 rec v1 v2 S) := by
  unfold J_X12_readBlock_82
  refine zW_zb (W_M_X12_takeSign (zrl rfl) w_S) (by decide) (by decide) (fun _ S12 _ w_S12 => ?_)
  refine zW_zl (fun x13 r_x13 => ?_)
  refine zW_zb (hrec _ _ r_x13 w_S12) (by decide) (by decide) (fun _ S15 _ w_S15 => ?_)
  refine zW_zb (W_M_X12_takeSign (zrl rfl) w_S15) (by decide) (by decide) (fun _ S17 _ w_S17 => ?_)
  refine zW_zb (W_M_X12_takeSign (zrl rfl) w_S17) (by decide) (by decide) (fun _ S19 _ w_S19 => ?_)
  refine zW_zg ?_
  refine zW_up w_S19 sw_60 (by decide) (w_S19 51 _ sw_51 10) (fun S21 w_S21 => ?_)
  exact zW_ret w_S21 (zrl rfl)
set_option maxHeartbeats 4000000 in
set_option maxRecDepth 20000 in
theorem W_J_X12_readBlock_25 {rec : Int → HS → zO2} {v1 : Int} {t0 : Int} {S : HS} (hrec : ∀ (b0 : Int) (S : HS), rng b0 → WR shF S → zW mA_X12_readSteps mO_X12_readSteps rng S (rec b0 S)) (r_v1 : rng v1) (r_t0 : rng t0) (w_S : WR shF S) : zW mA_X12_readSteps mO_X12_readSteps rng S (J_X12_readBlock_25 rec v1 t0 S) := by
  unfold J_X12_readBlock_25
  refine zW_zb (W_M_X12_emit r_t0 (zrl rfl) (zrl rfl) w_S) (by decide) (by decide) (fun r5 S6 r_r5 w_S6 => ?_)
  refine zW_zl (fun x7 r_x7 => ?_)
  refine zW_upO w_S6 sw_51 (by decide) r_x7 (fun S8 w_S8 => ?_)
  refine zW_zg ?_
  refine zW_ite ?_ ?_
  · refine zW_zb (W_M_X12_takeNumber (zrl rfl) (zrl rfl) w_S8) (by decide) (by decide) (fun r22 S23 r_r22 w_S23 => ?_)
    refine zW_zg ?_
    refine zW_up w_S23 sw_58 (by decide) r_r22 (fun S25 w_S25 => ?_)
    refine zW_zb (W_M_X12_readWay w_S25) (by decide) (by decide) (fun _ S27 _ w_S27 => ?_)
    refine zW_zb (W_M_X12_emit (zrl rfl) (w_S27 51 _ sw_51 15) (w_S27 51 _ sw_51 16) w_S27) (by decide) (by decide) (fun r28 S29 r_r28 w_S29 => ?_)
    exact W_J_X12_readBlock_82 hrec r_v1 r_r5 w_S29
  · exact W_J_X12_readBlock_82 hrec r_v1 r_r5 w_S8
set_option maxHeartbeats 4000000 in
set_option maxRecDepth 20000 in
theorem W_M_X12_readBlock {rec : Int → HS → zO2} {a1 : Int} {S : HS} (hrec : ∀ (b0 : Int) (S : HS), rng b0 → WR shF S → zW mA_X12_readSteps mO_X12_readSteps rng S (rec b0 S)) (r_a1 : rng a1) (w_S : WR shF S) : zW mA_X12_readSteps mO_X12_readSteps rng S (M_X12_readBlock rec a1 S) := by
  unfold M_X12_readBlock
  refine zW_ite ?_ ?_
  · refine zW_zb (W_M_X12_wrong (zrl rfl) w_S) (by decide) (by decide) (fun _ S31 _ w_S31 => ?_)
    exact zW_ret w_S31 (zrl rfl)
  · refine zW_zb (W_M_X12_isWord (zrl rfl) w_S) (by decide) (by decide) (fun r2 S3 r_r2 w_S3 => ?_)
    refine zW_ite ?_ ?_
    · exact W_J_X12_readBlock_25 hrec r_a1 (zrl rfl) w_S3
    · exact W_J_X12_readBlock_25 hrec r_a1 (zrl rfl) w_S3
set_option maxHeartbeats 4000000 in
set_option maxRecDepth 20000 in
theorem W_J_X12_readSteps_23 {rec : Int → HS → zO2} {k0 : HS → zO2} {v1 : Int} {S : HS} (hrec : ∀ (b0 : Int) (S : HS), rng b0 → WR shF S → zW mA_X12_readSteps mO_X12_readSteps rng S (rec b0 S)) (hk0 : ∀ (S : HS), WR shF S → zW mA_X12_readSteps mO_X12_readSteps rng S (k0 S)) (r_v1 : rng v1) (w_S : WR shF S) : zW mA_X12_readSteps mO_X12_readSteps rng S (J_X12_readSteps_23 rec k0 v1 S) := by
  unfold J_X12_readSteps_23
  refine zW_zb (W_M_X12_readLine w_S) (by decide) (by decide) (fun _ S8 _ w_S8 => ?_)
  exact hk0 _ w_S8
set_option maxHeartbeats 4000000 in
set_option maxRecDepth 20000 in
theorem W_L_X12_readSteps_0 {rec : Int → HS → zO2} {p1 : Int} (hrec : ∀ (b0 : Int) (S : HS), rng b0 → WR shF S → zW mA_X12_readSteps mO_X12_readSteps rng S (rec b0 S)) (r_p1 : rng p1) : ∀ (n : Nat) {S : HS}, WR shF S → zW mA_X12_readSteps mO_X12_readSteps rng S (L_X12_readSteps_0 rec p1 n  S) := by
  intro n
  induction n with
  | zero =>
    intro  _ _
    exact zW_none
  | succ n ih =>
    intro  S  w_S
    rw [L_X12_readSteps_0.eq_2]
    refine zW_zb (W_M_X12_isStep w_S) (by decide) (by decide) (fun r1 S2 r_r1 w_S2 => ?_)
    refine zW_ite ?_ ?_
    · exact zW_ret w_S2 (zrl rfl)
    · refine zW_zb (W_M_X12_isWord (zrl rfl) w_S2) (by decide) (by decide) (fun r4 S5 r_r4 w_S5 => ?_)
      refine zW_ite ?_ ?_
      · refine zW_zb (W_M_X12_isWord (zrl rfl) w_S5) (by decide) (by decide) (fun r9 S10 r_r9 w_S10 => ?_)
        refine zW_ite ?_ ?_
        · refine zW_zb (W_M_X12_readBlock hrec r_p1 w_S10) (by decide) (by decide) (fun _ S13 _ w_S13 => ?_)
          exact ih w_S13
        · exact W_J_X12_readSteps_23 hrec (fun  T_  w_T_ => ih w_T_) r_p1 w_S10
      · exact W_J_X12_readSteps_23 hrec (fun  T_  w_T_ => ih w_T_) r_p1 w_S5
set_option maxHeartbeats 4000000 in
set_option maxRecDepth 20000 in
theorem W_F_X12_readSteps {rec : Int → HS → zO2} {a1 : Int} {S : HS} (hrec : ∀ (b0 : Int) (S : HS), rng b0 → WR shF S → zW mA_X12_readSteps mO_X12_readSteps rng S (rec b0 S)) (r_a1 : rng a1) (w_S : WR shF S) : zW mA_X12_readSteps mO_X12_readSteps rng S (F_X12_readSteps rec a1 S) := by
  unfold F_X12_readSteps
  exact W_L_X12_readSteps_0 hrec r_a1 _ w_S
set_option maxHeartbeats 4000000 in
set_option maxRecDepth 20000 in
theorem W_M_X12_readSteps : ∀ (n : Nat) {a1 : Int} {S : HS}, rng a1 → WR shF S → zW mA_X12_readSteps mO_X12_readSteps rng S (M_X12_readSteps n a1 S) := by
  intro n
  induction n with
  | zero =>
    intro _ _ _ _
    exact zW_none
  | succ n ih =>
    intro a1 _ r_a1 w_S
    rw [M_X12_readSteps.eq_2]
    exact W_F_X12_readSteps (fun _ _ ha1 h => ih ha1 h) r_a1 w_S
abbrev mA_X12_goes : List Nat := [61, 62]
abbrev mO_X12_goes : List (Nat × Int) := [(51, 19)]
set_option maxHeartbeats 4000000 in
set_option maxRecDepth 20000 in
theorem W_J_X12_goes_198 {k183 : Int → Int → Int → HS → zO2} {k253 : Int → Int → HS → zO2} {v1 : Int} {v2 : Int} {v6 : Int} {v7 : Int} {v8 : Int} {v9 : Int} {v10 : Int} {v11 : Int} {v12 : Int} {t0 : Int} {t1 : Int} {S : HS} (hk183 : ∀ (w0 w1 w2 : Int) (S : HS), rng w0 → rng w1 → rng w2 → WR shF S → zW mA_X12_goes mO_X12_goes rng S (k183 w0 w1 w2 S)) (hk253 : ∀ (w0 w1 : Int) (S : HS), rng w0 → rng w1 → WR shF S → zW mA_X12_goes mO_X12_goes rng S (k253 w0 w1 S)) (r_v1 : rng v1) (r_v2 : rng v2) (r_v6 : rng v6) (r_v7 : rng v7) (r_v8 : rng v8) (r_v9 : rng v9) (r_v10 : rng v10) (r_v11 : rng v11) (r_v12 : rng v12) (r_t0 : rng t0) (r_t1 : rng t1) (w_S : WR shF S) : zW mA_X12_goes mO_X12_goes rng S (J_X12_goes_198 k183 k253 v1 v2 v6 v7 v8 v9 v10 v11 v12 t0 t1 S) := by
  unfold J_X12_goes_198
  refine zW_ite ?_ ?_
  · exact hk253 _ _ _ r_v6 r_v7 w_S
  · refine zW_zl (fun x28 r_x28 => ?_)
    refine zW_zl (fun x29 r_x29 => ?_)
    refine zW_zg ?_
    refine zW_up w_S sw_61 (by decide) r_x28 (fun S31 w_S31 => ?_)
    refine zW_zg ?_
    refine zW_up w_S31 sw_62 (by decide) r_x29 (fun S33 w_S33 => ?_)
    refine zW_zl (fun x34 r_x34 => ?_)
    refine zW_upO w_S33 sw_51 (by decide) r_x34 (fun S35 w_S35 => ?_)
    refine zW_zl (fun x36 r_x36 => ?_)
    exact hk183 _ _ _ _ r_x28 r_x29 r_x36 w_S35
set_option maxHeartbeats 4000000 in
set_option maxRecDepth 20000 in
theorem W_L_X12_goes_183 {k253 : Int → Int → HS → zO2} {p1 : Int} {p2 : Int} {p8 : Int} {p9 : Int} {p10 : Int} {p11 : Int} (hk253 : ∀ (w0 w1 : Int) (S : HS), rng w0 → rng w1 → WR shF S → zW mA_X12_goes mO_X12_goes rng S (k253 w0 w1 S)) (r_p1 : rng p1) (r_p2 : rng p2) (r_p8 : rng p8) (r_p9 : rng p9) (r_p10 : rng p10) (r_p11 : rng p11) : ∀ (n : Nat) {v6 : Int} {v7 : Int} {v12 : Int} {S : HS}, rng v6 → rng v7 → rng v12 → WR shF S → zW mA_X12_goes mO_X12_goes rng S (L_X12_goes_183 k253 p1 p2 p8 p9 p10 p11 n v6 v7 v12 S) := by
  intro n
  induction n with
  | zero =>
    intro _ _ _ _ _ _ _ _
    exact zW_none
  | succ n ih =>
    intro v6 v7 v12 S r_v6 r_v7 r_v12 w_S
    rw [L_X12_goes_183.eq_2]
    refine zW_ite ?_ ?_
    · exact W_J_X12_goes_198 (fun q0_ q1_ q2_ T_ r_q0_ r_q1_ r_q2_ w_T_ => ih r_q0_ r_q1_ r_q2_ w_T_) hk253 r_p1 r_p2 r_v6 r_v7 r_p8 r_p9 r_p10 r_p11 r_v12 r_p11 r_v12 w_S
    · refine zW_zl (fun x37 r_x37 => ?_)
      exact W_J_X12_goes_198 (fun q0_ q1_ q2_ T_ r_q0_ r_q1_ r_q2_ w_T_ => ih r_q0_ r_q1_ r_q2_ w_T_) hk253 r_p1 r_p2 r_v6 r_v7 r_p8 r_p9 r_p10 r_p11 r_v12 r_x37 r_v12 w_S
set_option maxHeartbeats 4000000 in
set_option maxRecDepth 20000 in
theorem W_J_X12_goes_161 {k81 : Int → Int → Int → HS → zO2} {v1 : Int} {v2 : Int} {v6 : Int} {v7 : Int} {v8 : Int} {v9 : Int} {t0 : Int} {S : HS} (hk81 : ∀ (w0 w1 w2 : Int) (S : HS), rng w0 → rng w1 → rng w2 → WR shF S → zW mA_X12_goes mO_X12_goes rng S (k81 w0 w1 w2 S)) (r_v1 : rng v1) (r_v2 : rng v2) (r_v6 : rng v6) (r_v7 : rng v7) (r_v8 : rng v8) (r_v9 : rng v9) (r_t0 : rng t0) (w_S : WR shF S) : zW mA_X12_goes mO_X12_goes rng S (J_X12_goes_161 k81 v1 v2 v6 v7 v8 v9 t0 S) := by
  unfold J_X12_goes_161
  refine zW_zg ?_
  refine zW_zg ?_
  refine zW_zl (fun x25 r_x25 => ?_)
  exact W_L_X12_goes_183 (fun e6 e7 S38 r_e6 r_e7 w_S38 => by
          refine zW_zl (fun x39 r_x39 => ?_)
          exact hk81 _ _ _ _ r_e6 r_e7 r_x39 w_S38) r_v1 r_v2 r_v8 r_v9 r_t0 r_x25 _ r_v6 r_v7 (zrl rfl) w_S
set_option maxHeartbeats 4000000 in
set_option maxRecDepth 20000 in
theorem W_J_X12_goes_130 {k81 : Int → Int → Int → HS → zO2} {v1 : Int} {v2 : Int} {v6 : Int} {v7 : Int} {v8 : Int} {t0 : Int} {S : HS} (hk81 : ∀ (w0 w1 w2 : Int) (S : HS), rng w0 → rng w1 → rng w2 → WR shF S → zW mA_X12_goes mO_X12_goes rng S (k81 w0 w1 w2 S)) (r_v1 : rng v1) (r_v2 : rng v2) (r_v6 : rng v6) (r_v7 : rng v7) (r_v8 : rng v8) (r_t0 : rng t0) (w_S : WR shF S) : zW mA_X12_goes mO_X12_goes rng S (J_X12_goes_130 k81 v1 v2 v6 v7 v8 t0 S) := by
  unfold J_X12_goes_130
  refine zW_zg ?_
  refine zW_ite ?_ ?_
  · exact W_J_X12_goes_161 hk81 r_v1 r_v2 r_v6 r_v7 r_v8 r_t0 (zrl rfl) w_S
  · refine zW_zg ?_
    refine zW_ite ?_ ?_
    · exact W_J_X12_goes_161 hk81 r_v1 r_v2 r_v6 r_v7 r_v8 r_t0 (zrl rfl) w_S
    · exact W_J_X12_goes_161 hk81 r_v1 r_v2 r_v6 r_v7 r_v8 r_t0 (zrl rfl) w_S
set_option maxHeartbeats 4000000 in
set_option maxRecDepth 20000 in
theorem W_J_X12_goes_121 {k81 : Int → Int → Int → HS → zO2} {v1 : Int} {v2 : Int} {v6 : Int} {v7 : Int} {v8 : Int} {t0 : Int} {S : HS} (hk81 : ∀ (w0 w1 w2 : Int) (S : HS), rng w0 → rng w1 → rng w2 → WR shF S → zW mA_X12_goes mO_X12_goes rng S (k81 w0 w1 w2 S)) (r_v1 : rng v1) (r_v2 : rng v2) (r_v6 : rng v6) (r_v7 : rng v7) (r_v8 : rng v8) (r_t0 : rng t0) (w_S : WR shF S) : zW mA_X12_goes mO_X12_goes rng S (J_X12_goes_121 k81 v1 v2 v6 v7 v8 t0 S) := by
  unfold J_X12_goes_121
  refine zW_ite ?_ ?_
  · exact W_J_X12_goes_130 hk81 r_v1 r_v2 r_v6 r_v7 r_v8 (zrl rfl) w_S
  · exact W_J_X12_goes_130 hk81 r_v1 r_v2 r_v6 r_v7 r_v8 (zrl rfl) w_S
set_option maxHeartbeats 4000000 in
set_option maxRecDepth 20000 in
theorem W_L_X12_goes_81 {p1 : Int} {p2 : Int} (r_p1 : rng p1) (r_p2 : rng p2) : ∀ (n : Nat) {v6 : Int} {v7 : Int} {v8 : Int} {S : HS}, rng v6 → rng v7 → rng v8 → WR shF S → zW mA_X12_goes mO_X12_goes rng S (L_X12_goes_81 p1 p2 n v6 v7 v8 S) := by
  intro n
  induction n with
  | zero =>
    intro _ _ _ _ _ _ _ _
    exact zW_none
  | succ n ih =>
    intro v6 v7 v8 S r_v6 r_v7 r_v8 w_S
    rw [L_X12_goes_81.eq_2]
    refine zW_zg ?_
    refine zW_ite ?_ ?_
    · exact zW_ret w_S (zrl rfl)
    · refine zW_zg ?_
      refine zW_ite ?_ ?_
      · exact W_J_X12_goes_130 (fun q0_ q1_ q2_ T_ r_q0_ r_q1_ r_q2_ w_T_ => ih r_q0_ r_q1_ r_q2_ w_T_) r_p1 r_p2 r_v6 r_v7 r_v8 (zrl rfl) w_S
      · refine zW_zg ?_
        refine zW_ite ?_ ?_
        · exact W_J_X12_goes_121 (fun q0_ q1_ q2_ T_ r_q0_ r_q1_ r_q2_ w_T_ => ih r_q0_ r_q1_ r_q2_ w_T_) r_p1 r_p2 r_v6 r_v7 r_v8 (zrl rfl) w_S
        · exact W_J_X12_goes_121 (fun q0_ q1_ q2_ T_ r_q0_ r_q1_ r_q2_ w_T_ => ih r_q0_ r_q1_ r_q2_ w_T_) r_p1 r_p2 r_v6 r_v7 r_v8 (zrl rfl) w_S
set_option maxHeartbeats 4000000 in
set_option maxRecDepth 20000 in
theorem W_J_X12_goes_40 {v1 : Int} {v2 : Int} {v3 : Int} {v4 : Int} {t0 : Int} {S : HS} (r_v1 : rng v1) (r_v2 : rng v2) (r_v3 : rng v3) (r_v4 : rng v4) (r_t0 : rng t0) (w_S : WR shF S) : zW mA_X12_goes mO_X12_goes rng S (J_X12_goes_40 v1 v2 v3 v4 t0 S) := by
  unfold J_X12_goes_40
  refine zW_zl (fun x5 r_x5 => ?_)
  refine zW_zg ?_
  refine zW_zl (fun x7 r_x7 => ?_)
  refine zW_upO w_S sw_51 (by decide) (zrl rfl) (fun S8 w_S8 => ?_)
  refine zW_up w_S8 sw_61 (by decide) r_x5 (fun S9 w_S9 => ?_)
  refine zW_up w_S9 sw_62 (by decide) r_x7 (fun S10 w_S10 => ?_)
  refine zW_zl (fun x11 r_x11 => ?_)
  exact W_L_X12_goes_81 r_v1 r_v2 _ r_x5 r_x7 r_x11 w_S10
set_option maxHeartbeats 4000000 in
set_option maxRecDepth 20000 in
theorem W_J_X12_goes_16 {v1 : Int} {v2 : Int} {v3 : Int} {v4 : Int} {t0 : Int} {S : HS} (r_v1 : rng v1) (r_v2 : rng v2) (r_v3 : rng v3) (r_v4 : rng v4) (r_t0 : rng t0) (w_S : WR shF S) : zW mA_X12_goes mO_X12_goes rng S (J_X12_goes_16 v1 v2 v3 v4 t0 S) := by
  unfold J_X12_goes_16
  refine zW_ite ?_ ?_
  · refine zW_zg ?_
    exact W_J_X12_goes_40 r_v1 r_v2 r_v3 r_v4 (w_S 58 _ sw_58 v1) w_S
  · refine zW_zg ?_
    refine zW_zl (fun x41 r_x41 => ?_)
    exact W_J_X12_goes_40 r_v1 r_v2 r_v3 r_v4 r_x41 w_S
set_option maxHeartbeats 4000000 in
set_option maxRecDepth 20000 in
theorem W_M_X12_goes {a1 : Int} {a2 : Int} {a3 : Int} {a4 : Int} {S : HS} (r_a1 : rng a1) (r_a2 : rng a2) (r_a3 : rng a3) (r_a4 : rng a4) (w_S : WR shF S) : zW mA_X12_goes mO_X12_goes rng S (M_X12_goes a1 a2 a3 a4 S) := by
  unfold M_X12_goes
  refine zW_zg ?_
  refine zW_ite ?_ ?_
  · exact W_J_X12_goes_16 r_a1 r_a2 r_a3 r_a4 (zrl rfl) w_S
  · exact W_J_X12_goes_16 r_a1 r_a2 r_a3 r_a4 (zrl rfl) w_S
abbrev mA_X12_isCell : List Nat := []
abbrev mO_X12_isCell : List (Nat × Int) := []
set_option maxHeartbeats 4000000 in
set_option maxRecDepth 20000 in
theorem W_M_X12_isCell {a1 : Int} {a2 : Int} {S : HS} (r_a1 : rng a1) (r_a2 : rng a2) (w_S : WR shF S) : zW mA_X12_isCell mO_X12_isCell rng S (M_X12_isCell a1 a2 S) := by
  unfold M_X12_isCell
  refine zW_ite ?_ ?_
  · exact zW_ret w_S (zrl rfl)
  · refine zW_ite ?_ ?_
    · exact zW_ret w_S (zrl rfl)
    · refine zW_ite ?_ ?_
      · exact zW_ret w_S (zrl rfl)
      · refine zW_ite ?_ ?_
        · exact zW_ret w_S (zrl rfl)
        · exact zW_ret w_S (zrl rfl)
abbrev mA_X12_isScalp : List Nat := []
abbrev mO_X12_isScalp : List (Nat × Int) := []
set_option maxHeartbeats 4000000 in
set_option maxRecDepth 20000 in
theorem W_M_X12_isScalp {a1 : Int} {a2 : Int} {S : HS} (r_a1 : rng a1) (r_a2 : rng a2) (w_S : WR shF S) : zW mA_X12_isScalp mO_X12_isScalp rng S (M_X12_isScalp a1 a2 S) := by
  unfold M_X12_isScalp
  refine zW_zb (W_M_X12_isCell r_a1 r_a2 w_S) (by decide) (by decide) (fun r1 S2 r_r1 w_S2 => ?_)
  refine zW_ite ?_ ?_
  · exact zW_ret w_S2 (zrl rfl)
  · refine zW_zg ?_
    refine zW_ite ?_ ?_
    · exact zW_ret w_S2 (zrl rfl)
    · exact zW_ret w_S2 (zrl rfl)
abbrev mA_X12_isParted : List Nat := []
abbrev mO_X12_isParted : List (Nat × Int) := []
set_option maxHeartbeats 4000000 in
set_option maxRecDepth 20000 in
theorem W_J_X12_isParted_55 {v1 : Int} {t0 : Int} {t1 : Int} {S : HS} (r_v1 : rng v1) (r_t0 : rng t0) (r_t1 : rng t1) (w_S : WR shF S) : zW mA_X12_isParted mO_X12_isParted rng S (J_X12_isParted_55 v1 t0 t1 S) := by
  unfold J_X12_isParted_55
  refine zW_zg ?_
  refine zW_ite ?_ ?_
  · exact zW_ret w_S (zrl rfl)
  · exact zW_ret w_S (zrl rfl)
set_option maxHeartbeats 4000000 in
set_option maxRecDepth 20000 in
theorem W_J_X12_isParted_24 {t0 : Int} {t1 : Int} {S : HS} (r_t0 : rng t0) (r_t1 : rng t1) (w_S : WR shF S) : zW mA_X12_isParted mO_X12_isParted rng S (J_X12_isParted_24 t0 t1 S) := by
  unfold J_X12_isParted_24
  refine zW_zg ?_
  refine zW_ite ?_ ?_
  · exact zW_ret w_S (zrl rfl)
  · exact zW_ret w_S (zrl rfl)
set_option maxHeartbeats 4000000 in
set_option maxRecDepth 20000 in
theorem W_M_X12_isParted {a1 : Int} {a2 : Int} {a3 : Int} {a4 : Int} {S : HS} (r_a1 : rng a1) (r_a2 : rng a2) (r_a3 : rng a3) (r_a4 : rng a4) (w_S : WR shF S) : zW mA_X12_isParted mO_X12_isParted rng S (M_X12_isParted a1 a2 a3 a4 S) := by
  unfold M_X12_isParted
  refine zW_ite ?_ ?_
  · refine zW_ite ?_ ?_
    · refine zW_zl (fun x6 r_x6 => ?_)
      exact W_J_X12_isParted_24 r_a3 r_x6 w_S
    · refine zW_zl (fun x9 r_x9 => ?_)
      exact W_J_X12_isParted_24 r_a1 r_x9 w_S
  · refine zW_ite ?_ ?_
    · exact W_J_X12_isParted_55 r_a1 r_a4 (zrl rfl) w_S
    · exact W_J_X12_isParted_55 r_a1 r_a2 (zrl rfl) w_S
abbrev mA_X12_frees : List Nat := [68]
abbrev mO_X12_frees : List (Nat × Int) := []
set_option maxHeartbeats 4000000 in
set_option maxRecDepth 20000 in
theorem W_L_X12_frees_2 {p1 : Int} {p2 : Int} (r_p1 : rng p1) (r_p2 : rng p2) : ∀ (n : Nat) {v3 : Int} {S : HS}, rng v3 → WR shF S → zW mA_X12_frees mO_X12_frees rng S (L_X12_frees_2 p1 p2 n v3 S) := by
  intro n
  induction n with
  | zero =>
    intro _ _ _ _
    exact zW_none
  | succ n ih =>
    intro v3 S r_v3 w_S
    rw [L_X12_frees_2.eq_2]
    refine zW_ite ?_ ?_
    · exact zW_ret w_S r_p2
    · refine zW_zg ?_
      refine zW_zg ?_
      refine zW_up w_S sw_68 (by decide) (zrl rfl) (fun S4 w_S4 => ?_)
      refine zW_zl (fun x5 r_x5 => ?_)
      exact ih r_x5 w_S4
set_option maxHeartbeats 4000000 in
set_option maxRecDepth 20000 in
theorem W_M_X12_frees {a1 : Int} {a2 : Int} {S : HS} (r_a1 : rng a1) (r_a2 : rng a2) (w_S : WR shF S) : zW mA_X12_frees mO_X12_frees rng S (M_X12_frees a1 a2 S) := by
  unfold M_X12_frees
  exact W_L_X12_frees_2 r_a1 r_a2 _ (zrl rfl) w_S
abbrev mA_X12_rowing : List Nat := [68, 69, 70, 71, 72]
abbrev mO_X12_rowing : List (Nat × Int) := [(51, 27)]
set_option maxHeartbeats 4000000 in
set_option maxRecDepth 20000 in
theorem W_J_X12_rowing_89 {k14 : Int → HS → zO2} {k103 : Int → HS → zO2} {v1 : Int} {v2 : Int} {v3 : Int} {S : HS} (hk14 : ∀ (w0 : Int) (S : HS), rng w0 → WR shF S → zW mA_X12_rowing mO_X12_rowing rng S (k14 w0 S)) (hk103 : ∀ (w0 : Int) (S : HS), rng w0 → WR shF S → zW mA_X12_rowing mO_X12_rowing rng S (k103 w0 S)) (r_v1 : rng v1) (r_v2 : rng v2) (r_v3 : rng v3) (w_S : WR shF S) : zW mA_X12_rowing mO_X12_rowing rng S (J_X12_rowing_89 k14 k103 v1 v2 v3 S) := by
  unfold J_X12_rowing_89
  refine zW_zg ?_
  refine zW_ite ?_ ?_
  · refine zW_zg ?_
    refine zW_up w_S sw_68 (by decide) (w_S 51 _ sw_51 27) (fun S12 w_S12 => ?_)
    refine zW_zl (fun x13 r_x13 => ?_)
    refine zW_zg ?_
    refine zW_up w_S12 sw_70 (by decide) r_x13 (fun S15 w_S15 => ?_)
    refine zW_zl (fun x16 r_x16 => ?_)
    exact hk14 _ _ r_x16 w_S15
  · exact hk103 _ _ r_v1 w_S
set_option maxHeartbeats 4000000 in
set_option maxRecDepth 20000 in
theorem W_L_X12_rowing_14 {k45 : Int → HS → zO2} {k81 : Int → HS → zO2} {k103 : Int → HS → zO2} {k153 : HS → zO2} (hk45 : ∀ (w0 : Int) (S : HS), rng w0 → WR shF S → zW mA_X12_rowing mO_X12_rowing rng S (k45 w0 S)) (hk81 : ∀ (w0 : Int) (S : HS), rng w0 → WR shF S → zW mA_X12_rowing mO_X12_rowing rng S (k81 w0 S)) (hk103 : ∀ (w0 : Int) (S : HS), rng w0 → WR shF S → zW mA_X12_rowing mO_X12_rowing rng S (k103 w0 S)) (hk153 : ∀ (S : HS), WR shF S → zW mA_X12_rowing mO_X12_rowing rng S (k153 S)) : ∀ (n : Nat) {v1 : Int} {S : HS}, rng v1 → WR shF S → zW mA_X12_rowing mO_X12_rowing rng S (L_X12_rowing_14 k45 k81 k103 k153 n v1 S) := by
  intro n
  induction n with
  | zero =>
    intro _ _ _ _
    exact zW_none
  | succ n ih =>
    intro v1 S r_v1 w_S
    rw [L_X12_rowing_14.eq_2]
    refine zW_ite ?_ ?_
    · exact hk153 _ w_S
    · refine zW_zg ?_
      refine zW_zg ?_
      refine zW_zb (W_M_X12_isScalp (w_S 61 _ sw_61 v1) (w_S 62 _ sw_62 v1) w_S) (by decide) (by decide) (fun r5 S6 r_r5 w_S6 => ?_)
      refine zW_ite ?_ ?_
      · exact hk45 _ _ r_v1 w_S6
      · refine zW_ite ?_ ?_
        · exact W_J_X12_rowing_89 (fun q0_ T_ r_q0_ w_T_ => ih r_q0_ w_T_) hk103 r_v1 (w_S 61 _ sw_61 v1) (w_S 62 _ sw_62 v1) w_S6
        · refine zW_zg ?_
          refine zW_zg ?_
          refine zW_zb (W_M_X12_isParted (w_S 61 _ sw_61 v1) (w_S 62 _ sw_62 v1) (w_S6 61 _ sw_61 ( v1 - 1 )) (w_S6 62 _ sw_62 ( v1 - 1 )) w_S6) (by decide) (by decide) (fun r19 S20 r_r19 w_S20 => ?_)
          refine zW_ite ?_ ?_
          · exact W_J_X12_rowing_89 (fun q0_ T_ r_q0_ w_T_ => ih r_q0_ w_T_) hk103 r_v1 (w_S 61 _ sw_61 v1) (w_S 62 _ sw_62 v1) w_S20
          · exact hk81 _ _ r_v1 w_S20
set_option maxHeartbeats 4000000 in
set_option maxRecDepth 20000 in
theorem W_M_X12_rowing {S : HS} (w_S : WR shF S) : zW mA_X12_rowing mO_X12_rowing rng S (M_X12_rowing S) := by
  unfold M_X12_rowing
  refine zW_ite ?_ ?_
  · exact zW_ret w_S (zrl rfl)
  · exact W_L_X12_rowing_14 (fun e1 S22 r_e1 w_S22 => by
          refine zW_zb (W_M_X12_frees r_e1 (zrl rfl) w_S22) (by decide) (by decide) (fun r23 S24 r_r23 w_S24 => ?_)
          exact zW_ret w_S24 r_r23) (fun e1 S25 r_e1 w_S25 => by
          refine zW_zb (W_M_X12_frees r_e1 (zrl rfl) w_S25) (by decide) (by decide) (fun r26 S27 r_r26 w_S27 => ?_)
          exact zW_ret w_S27 r_r26) (fun e1 S28 r_e1 w_S28 => by
          refine zW_zb (W_M_X12_frees r_e1 (zrl rfl) w_S28) (by decide) (by decide) (fun r29 S30 r_r29 w_S30 => ?_)
          exact zW_ret w_S30 r_r29) (fun S31  w_S31 => by
          refine zW_ite ?_ ?_
          · refine zW_zb (W_M_X12_frees (zrl rfl) (zrl rfl) w_S31) (by decide) (by decide) (fun r41 S42 r_r41 w_S42 => ?_)
            exact zW_ret w_S42 r_r41
          · refine zW_zg ?_
            refine zW_up w_S31 sw_69 (by decide) (w_S31 51 _ sw_51 19) (fun S34 w_S34 => ?_)
            refine zW_zg ?_
            refine zW_up w_S34 sw_71 (by decide) (zrl rfl) (fun S36 w_S36 => ?_)
            refine zW_zg ?_
            refine zW_up w_S36 sw_72 (by decide) (zrl rfl) (fun S38 w_S38 => ?_)
            refine zW_zl (fun x39 r_x39 => ?_)
            refine zW_upO w_S38 sw_51 (by decide) r_x39 (fun S40 w_S40 => ?_)
            exact zW_ret w_S40 (zrl rfl)) _ (zrl rfl) w_S
abbrev mA_X12_least : List Nat := []
abbrev mO_X12_least : List (Nat × Int) := []
set_option maxHeartbeats 4000000 in
set_option maxRecDepth 20000 in
theorem W_M_X12_least {a1 : Int} {a2 : Int} {S : HS} (r_a1 : rng a1) (r_a2 : rng a2) (w_S : WR shF S) : zW mA_X12_least mO_X12_least rng S (M_X12_least a1 a2 S) := by
  unfold M_X12_least
  refine zW_ite ?_ ?_
  · exact zW_ret w_S r_a2
  · exact zW_ret w_S r_a1
abbrev mA_X12_isFlat : List Nat := []
abbrev mO_X12_isFlat : List (Nat × Int) := []
set_option maxHeartbeats 4000000 in
set_option maxRecDepth 20000 in
theorem W_M_X12_isFlat {a1 : Int} {S : HS} (r_a1 : rng a1) (w_S : WR shF S) : zW mA_X12_isFlat mO_X12_isFlat rng S (M_X12_isFlat a1 S) := by
  unfold M_X12_isFlat
  refine zW_zg ?_
  refine zW_zg ?_
  refine zW_ite ?_ ?_
  · exact zW_ret w_S (zrl rfl)
  · exact zW_ret w_S (zrl rfl)
abbrev mA_X12_sideAt : List Nat := []
abbrev mO_X12_sideAt : List (Nat × Int) := []
set_option maxHeartbeats 4000000 in
set_option maxRecDepth 20000 in
theorem W_M_X12_sideAt {a1 : Int} {S : HS} (r_a1 : rng a1) (w_S : WR shF S) : zW mA_X12_sideAt mO_X12_sideAt rng S (M_X12_sideAt a1 S) := by
  unfold M_X12_sideAt
  refine zW_zg ?_
  refine zW_zg ?_
  refine zW_zb (W_M_X12_least (w_S 61 _ sw_61 a1) (w_S 61 _ sw_61 ( a1 + 1 )) w_S) (by decide) (by decide) (fun r3 S4 r_r3 w_S4 => ?_)
  refine zW_zg ?_
  refine zW_zg ?_
  refine zW_zb (W_M_X12_least (w_S4 62 _ sw_62 a1) (w_S4 62 _ sw_62 ( a1 + 1 )) w_S4) (by decide) (by decide) (fun r7 S8 r_r7 w_S8 => ?_)
  refine zW_zb (W_M_X12_isFlat r_a1 w_S8) (by decide) (by decide) (fun r9 S10 r_r9 w_S10 => ?_)
  refine zW_ite ?_ ?_
  · refine zW_zl (fun x12 r_x12 => ?_)
    exact zW_ret w_S10 r_x12
  · refine zW_zl (fun x13 r_x13 => ?_)
    exact zW_ret w_S10 r_x13
abbrev mA_X12_sideOf : List Nat := []
abbrev mO_X12_sideOf : List (Nat × Int) := []
set_option maxHeartbeats 4000000 in
set_option maxRecDepth 20000 in
theorem W_M_X12_sideOf {a1 : Int} {S : HS} (r_a1 : rng a1) (w_S : WR shF S) : zW mA_X12_sideOf mO_X12_sideOf rng S (M_X12_sideOf a1 S) := by
  unfold M_X12_sideOf
  refine zW_ite ?_ ?_
  · refine zW_zg ?_
    exact zW_ret w_S (w_S 64 _ sw_64 ( a1 - 208 ))
  · refine zW_zg ?_
    exact zW_ret w_S (w_S 63 _ sw_63 a1)
abbrev mA_X12_isOnParting : List Nat := []
abbrev mO_X12_isOnParting : List (Nat × Int) := []
set_option maxHeartbeats 4000000 in
set_option maxRecDepth 20000 in
theorem W_J_X12_isOnParting_90 {S : HS} (w_S : WR shF S) : zW mA_X12_isOnParting mO_X12_isOnParting rng S (J_X12_isOnParting_90 S) := by
  unfold J_X12_isOnParting_90
  exact zW_ret w_S (zrl rfl)
set_option maxHeartbeats 4000000 in
set_option maxRecDepth 20000 in
theorem W_J_X12_isOnParting_70 {v1 : Int} {v2 : Int} {S : HS} (r_v1 : rng v1) (r_v2 : rng v2) (w_S : WR shF S) : zW mA_X12_isOnParting mO_X12_isOnParting rng S (J_X12_isOnParting_70 v1 v2 S) := by
  unfold J_X12_isOnParting_70
  refine zW_ite ?_ ?_
  · exact zW_ret w_S (zrl rfl)
  · refine zW_zg ?_
    refine zW_ite ?_ ?_
    · exact zW_ret w_S (zrl rfl)
    · exact W_J_X12_isOnParting_90 w_S
set_option maxHeartbeats 4000000 in
set_option maxRecDepth 20000 in
theorem W_J_X12_isOnParting_45 {v1 : Int} {v2 : Int} {t0 : Int} {S : HS} (r_v1 : rng v1) (r_v2 : rng v2) (r_t0 : rng t0) (w_S : WR shF S) : zW mA_X12_isOnParting mO_X12_isOnParting rng S (J_X12_isOnParting_45 v1 v2 t0 S) := by
  unfold J_X12_isOnParting_45
  refine zW_ite ?_ ?_
  · refine zW_ite ?_ ?_
    · exact W_J_X12_isOnParting_70 r_v1 r_v2 w_S
    · refine zW_zg ?_
      refine zW_ite ?_ ?_
      · exact W_J_X12_isOnParting_90 w_S
      · exact W_J_X12_isOnParting_70 r_v1 r_v2 w_S
  · exact W_J_X12_isOnParting_90 w_S
set_option maxHeartbeats 4000000 in
set_option maxRecDepth 20000 in
theorem W_J_X12_isOnParting_44 {v1 : Int} {v2 : Int} {S : HS} (r_v1 : rng v1) (r_v2 : rng v2) (w_S : WR shF S) : zW mA_X12_isOnParting mO_X12_isOnParting rng S (J_X12_isOnParting_44 v1 v2 S) := by
  unfold J_X12_isOnParting_44
  exact W_J_X12_isOnParting_45 r_v1 r_v2 (zrl rfl) w_S
set_option maxHeartbeats 4000000 in
set_option maxRecDepth 20000 in
theorem W_J_X12_isOnParting_40 {v1 : Int} {v2 : Int} {S : HS} (r_v1 : rng v1) (r_v2 : rng v2) (w_S : WR shF S) : zW mA_X12_isOnParting mO_X12_isOnParting rng S (J_X12_isOnParting_40 v1 v2 S) := by
  unfold J_X12_isOnParting_40
  exact W_J_X12_isOnParting_45 r_v1 r_v2 (zrl rfl) w_S
set_option maxHeartbeats 4000000 in
set_option maxRecDepth 20000 in
theorem W_J_X12_isOnParting_20 {v1 : Int} {v2 : Int} {S : HS} (r_v1 : rng v1) (r_v2 : rng v2) (w_S : WR shF S) : zW mA_X12_isOnParting mO_X12_isOnParting rng S (J_X12_isOnParting_20 v1 v2 S) := by
  unfold J_X12_isOnParting_20
  refine zW_ite ?_ ?_
  · exact W_J_X12_isOnParting_44 r_v1 r_v2 w_S
  · refine zW_zg ?_
    refine zW_ite ?_ ?_
    · exact W_J_X12_isOnParting_44 r_v1 r_v2 w_S
    · exact W_J_X12_isOnParting_40 r_v1 r_v2 w_S
set_option maxHeartbeats 4000000 in
set_option maxRecDepth 20000 in
theorem W_M_X12_isOnParting {a1 : Int} {a2 : Int} {S : HS} (r_a1 : rng a1) (r_a2 : rng a2) (w_S : WR shF S) : zW mA_X12_isOnParting mO_X12_isOnParting rng S (M_X12_isOnParting a1 a2 S) := by
  unfold M_X12_isOnParting
  refine zW_ite ?_ ?_
  · exact W_J_X12_isOnParting_20 r_a1 r_a2 w_S
  · refine zW_zg ?_
    refine zW_ite ?_ ?_
    · exact W_J_X12_isOnParting_40 r_a1 r_a2 w_S
    · exact W_J_X12_isOnParting_20 r_a1 r_a2 w_S
abbrev mA_X12_whyNot : List Nat := [65, 66]
abbrev mO_X12_whyNot : List (Nat × Int) := []
set_option maxHeartbeats 4000000 in
set_option maxRecDepth 20000 in
theorem W_L_X12_whyNot_14 {k70 : HS → zO2} (hk70 : ∀ (S : HS), WR shF S → zW mA_X12_whyNot mO_X12_whyNot rng S (k70 S)) : ∀ (n : Nat) {v1 : Int} {S : HS}, rng v1 → WR shF S → zW mA_X12_whyNot mO_X12_whyNot rng S (L_X12_whyNot_14 k70 n v1 S) := by
  intro n
  induction n with
  | zero =>
    intro _ _ _ _
    exact zW_none
  | succ n ih =>
    intro v1 S r_v1 w_S
    rw [L_X12_whyNot_14.eq_2]
    refine zW_ite ?_ ?_
    · exact hk70 _ w_S
    · refine zW_zg ?_
      refine zW_ite ?_ ?_
      · exact zW_ret w_S (zrl rfl)
      · refine zW_zg ?_
        refine zW_ite ?_ ?_
        · exact zW_ret w_S (zrl rfl)
        · refine zW_zg ?_
          refine zW_ite ?_ ?_
          · exact zW_ret w_S (zrl rfl)
          · refine zW_zg ?_
            refine zW_ite ?_ ?_
            · refine zW_zl (fun x11 r_x11 => ?_)
              exact ih r_x11 w_S
            · exact zW_ret w_S (zrl rfl)
set_option maxHeartbeats 4000000 in
set_option maxRecDepth 20000 in
theorem W_L_X12_whyNot_82 {k102 : HS → zO2} (hk102 : ∀ (S : HS), WR shF S → zW mA_X12_whyNot mO_X12_whyNot rng S (k102 S)) : ∀ (n : Nat) {v1 : Int} {S : HS}, rng v1 → WR shF S → zW mA_X12_whyNot mO_X12_whyNot rng S (L_X12_whyNot_82 k102 n v1 S) := by
  intro n
  induction n with
  | zero =>
    intro _ _ _ _
    exact zW_none
  | succ n ih =>
    intro v1 S r_v1 w_S
    rw [L_X12_whyNot_82.eq_2]
    refine zW_ite ?_ ?_
    · exact hk102 _ w_S
    · refine zW_zg ?_
      refine zW_up w_S sw_66 (by decide) (zrl rfl) (fun S16 w_S16 => ?_)
      refine zW_zl (fun x17 r_x17 => ?_)
      exact ih r_x17 w_S16
set_option maxHeartbeats 4000000 in
set_option maxRecDepth 20000 in
theorem W_L_X12_whyNot_104 {k158 : HS → zO2} (hk158 : ∀ (S : HS), WR shF S → zW mA_X12_whyNot mO_X12_whyNot rng S (k158 S)) : ∀ (n : Nat) {v1 : Int} {S : HS}, rng v1 → WR shF S → zW mA_X12_whyNot mO_X12_whyNot rng S (L_X12_whyNot_104 k158 n v1 S) := by
  intro n
  induction n with
  | zero =>
    intro _ _ _ _
    exact zW_none
  | succ n ih =>
    intro v1 S r_v1 w_S
    rw [L_X12_whyNot_104.eq_2]
    refine zW_zl (fun x19 r_x19 => ?_)
    refine zW_ite ?_ ?_
    · exact hk158 _ w_S
    · refine zW_zb (W_M_X12_sideAt r_v1 w_S) (by decide) (by decide) (fun r21 S22 r_r21 w_S22 => ?_)
      refine zW_zg ?_
      refine zW_ite ?_ ?_
      · refine zW_zb (W_M_X12_sideAt r_v1 w_S22) (by decide) (by decide) (fun r25 S26 r_r25 w_S26 => ?_)
        refine zW_zb (W_M_X12_sideOf r_r25 w_S26) (by decide) (by decide) (fun r27 S28 r_r27 w_S28 => ?_)
        refine zW_ite ?_ ?_
        · refine zW_zb (W_M_X12_sideAt r_v1 w_S28) (by decide) (by decide) (fun r30 S31 r_r30 w_S31 => ?_)
          refine zW_zg ?_
          refine zW_up w_S31 sw_66 (by decide) (zrl rfl) (fun S33 w_S33 => ?_)
          refine zW_zl (fun x34 r_x34 => ?_)
          exact ih r_x34 w_S33
        · exact zW_ret w_S28 (zrl rfl)
      · exact zW_ret w_S22 (zrl rfl)
set_option maxHeartbeats 4000000 in
set_option maxRecDepth 20000 in
theorem W_L_X12_whyNot_160 {k180 : HS → zO2} (hk180 : ∀ (S : HS), WR shF S → zW mA_X12_whyNot mO_X12_whyNot rng S (k180 S)) : ∀ (n : Nat) {v1 : Int} {S : HS}, rng v1 → WR shF S → zW mA_X12_whyNot mO_X12_whyNot rng S (L_X12_whyNot_160 k180 n v1 S) := by
  intro n
  induction n with
  | zero =>
    intro _ _ _ _
    exact zW_none
  | succ n ih =>
    intro v1 S r_v1 w_S
    rw [L_X12_whyNot_160.eq_2]
    refine zW_ite ?_ ?_
    · exact hk180 _ w_S
    · refine zW_zg ?_
      refine zW_up w_S sw_65 (by decide) (zrl rfl) (fun S38 w_S38 => ?_)
      refine zW_zl (fun x39 r_x39 => ?_)
      exact ih r_x39 w_S38
set_option maxHeartbeats 4000000 in
set_option maxRecDepth 20000 in
theorem W_L_X12_whyNot_182 {k221 : HS → zO2} (hk221 : ∀ (S : HS), WR shF S → zW mA_X12_whyNot mO_X12_whyNot rng S (k221 S)) : ∀ (n : Nat) {v1 : Int} {S : HS}, rng v1 → WR shF S → zW mA_X12_whyNot mO_X12_whyNot rng S (L_X12_whyNot_182 k221 n v1 S) := by
  intro n
  induction n with
  | zero =>
    intro _ _ _ _
    exact zW_none
  | succ n ih =>
    intro v1 S r_v1 w_S
    rw [L_X12_whyNot_182.eq_2]
    refine zW_ite ?_ ?_
    · exact hk221 _ w_S
    · refine zW_zg ?_
      refine zW_zg ?_
      refine zW_zg ?_
      refine zW_zl (fun x45 r_x45 => ?_)
      refine zW_zg ?_
      refine zW_up w_S sw_65 (by decide) r_x45 (fun S47 w_S47 => ?_)
      refine zW_zl (fun x48 r_x48 => ?_)
      exact ih r_x48 w_S47
set_option maxHeartbeats 4000000 in
set_option maxRecDepth 20000 in
theorem W_L_X12_whyNot_223   : ∀ (n : Nat) {v1 : Int} {S : HS}, rng v1 → WR shF S → zW mA_X12_whyNot mO_X12_whyNot rng S (L_X12_whyNot_223  n v1 S) := by
  intro n
  induction n with
  | zero =>
    intro _ _ _ _
    exact zW_none
  | succ n ih =>
    intro v1 S r_v1 w_S
    rw [L_X12_whyNot_223.eq_2]
    refine zW_zl (fun x50 r_x50 => ?_)
    refine zW_ite ?_ ?_
    · exact zW_ret w_S (zrl rfl)
    · refine zW_zg ?_
      refine zW_zg ?_
      refine zW_zb (W_M_X12_isOnParting (w_S 61 _ sw_61 v1) (w_S 62 _ sw_62 v1) w_S) (by decide) (by decide) (fun r54 S55 r_r54 w_S55 => ?_)
      refine zW_ite ?_ ?_
      · refine zW_zg ?_
        refine zW_zg ?_
        refine zW_zg ?_
        refine zW_ite ?_ ?_
        · refine zW_zl (fun x61 r_x61 => ?_)
          exact ih r_x61 w_S55
        · exact zW_ret w_S55 (zrl rfl)
      · exact zW_ret w_S55 (zrl rfl)
set_option maxHeartbeats 4000000 in
set_option maxRecDepth 20000 in
theorem W_M_X12_whyNot {S : HS} (w_S : WR shF S) : zW mA_X12_whyNot mO_X12_whyNot rng S (M_X12_whyNot S) := by
  unfold M_X12_whyNot
  refine zW_ite ?_ ?_
  · exact zW_ret w_S (zrl rfl)
  · exact W_L_X12_whyNot_14 (fun S12  w_S12 => by
          refine zW_ite ?_ ?_
          · exact zW_ret w_S12 (zrl rfl)
          · exact W_L_X12_whyNot_82 (fun S18  w_S18 => by
          exact W_L_X12_whyNot_104 (fun S35  w_S35 => by
          exact W_L_X12_whyNot_160 (fun S40  w_S40 => by
          exact W_L_X12_whyNot_182 (fun S49  w_S49 => by
          exact W_L_X12_whyNot_223 _ (zrl rfl) w_S49) _ (zrl rfl) w_S40) _ (zrl rfl) w_S35) _ (zrl rfl) w_S18) _ (zrl rfl) w_S12) _ (zrl rfl) w_S
abbrev mA_X12_setSide : List Nat := [63, 64]
abbrev mO_X12_setSide : List (Nat × Int) := []
set_option maxHeartbeats 4000000 in
set_option maxRecDepth 20000 in
theorem W_M_X12_setSide {a1 : Int} {a2 : Int} {S : HS} (r_a1 : rng a1) (r_a2 : rng a2) (w_S : WR shF S) : zW mA_X12_setSide mO_X12_setSide rng S (M_X12_setSide a1 a2 S) := by
  unfold M_X12_setSide
  refine zW_ite ?_ ?_
  · refine zW_zg ?_
    refine zW_up w_S sw_64 (by decide) r_a2 (fun S3 w_S3 => ?_)
    exact zW_ret w_S3 (zrl rfl)
  · refine zW_zg ?_
    refine zW_up w_S sw_63 (by decide) r_a2 (fun S5 w_S5 => ?_)
    exact zW_ret w_S5 (zrl rfl)
abbrev mA_X12_parting : List Nat := [63, 64, 65, 66]
abbrev mO_X12_parting : List (Nat × Int) := [(51, 22)]
set_option maxHeartbeats 4000000 in
set_option maxRecDepth 20000 in
theorem W_L_X12_parting_21 {p1 : Int} (r_p1 : rng p1) : ∀ (n : Nat) {v2 : Int} {S : HS}, rng v2 → WR shF S → zW mA_X12_parting mO_X12_parting rng S (L_X12_parting_21 p1 n v2 S) := by
  intro n
  induction n with
  | zero =>
    intro _ _ _ _
    exact zW_none
  | succ n ih =>
    intro v2 S r_v2 w_S
    rw [L_X12_parting_21.eq_2]
    refine zW_zl (fun x6 r_x6 => ?_)
    refine zW_ite ?_ ?_
    · exact zW_ret w_S r_p1
    · refine zW_zb (W_M_X12_sideAt r_v2 w_S) (by decide) (by decide) (fun r8 S9 r_r8 w_S9 => ?_)
      refine zW_zb (W_M_X12_setSide r_r8 (w_S9 51 _ sw_51 22) w_S9) (by decide) (by decide) (fun _ S11 _ w_S11 => ?_)
      refine zW_zl (fun x12 r_x12 => ?_)
      exact ih r_x12 w_S11
set_option maxHeartbeats 4000000 in
set_option maxRecDepth 20000 in
theorem W_M_X12_parting {S : HS} (w_S : WR shF S) : zW mA_X12_parting mO_X12_parting rng S (M_X12_parting S) := by
  unfold M_X12_parting
  refine zW_zb (W_M_X12_whyNot w_S) (by decide) (by decide) (fun r1 S2 r_r1 w_S2 => ?_)
  refine zW_ite ?_ ?_
  · refine zW_zl (fun x4 r_x4 => ?_)
    refine zW_upO w_S2 sw_51 (by decide) r_x4 (fun S5 w_S5 => ?_)
    exact W_L_X12_parting_21 r_r1 _ (zrl rfl) w_S5
  · exact zW_ret w_S2 r_r1
abbrev mA_X12_draws : List Nat := [61, 62, 63, 64, 65, 66, 68, 69, 70, 71, 72]
abbrev mO_X12_draws : List (Nat × Int) := [(51, 17), (51, 18), (51, 19), (51, 22), (51, 27)]
set_option maxHeartbeats 4000000 in
set_option maxRecDepth 20000 in
theorem W_J_X12_draws_244 {rec : Int → Int → Int → Int → Int → HS → zO2} {k3 : Int → HS → zO2} {v2 : Int} {v3 : Int} {v4 : Int} {v5 : Int} {v6 : Int} {S : HS} (hrec : ∀ (b0 b1 b2 b3 b4 : Int) (S : HS), rng b0 → rng b1 → rng b2 → rng b3 → rng b4 → WR shF S → zW mA_X12_draws mO_X12_draws rng S (rec b0 b1 b2 b3 b4 S)) (hk3 : ∀ (w0 : Int) (S : HS), rng w0 → WR shF S → zW mA_X12_draws mO_X12_draws rng S (k3 w0 S)) (r_v2 : rng v2) (r_v3 : rng v3) (r_v4 : rng v4) (r_v5 : rng v5) (r_v6 : rng v6) (w_S : WR shF S) : zW mA_X12_draws mO_X12_draws rng S (J_X12_draws_244 rec k3 v2 v3 v4 v5 v6 S) := by
  unfold J_X12_draws_244
  refine zW_zg ?_
  exact hk3 _ _ (w_S 60 _ sw_60 v6) w_S
set_option maxHeartbeats 4000000 in
set_option maxRecDepth 20000 in
theorem W_J_X12_draws_240 {rec : Int → Int → Int → Int → Int → HS → zO2} {k3 : Int → HS → zO2} {v2 : Int} {v3 : Int} {v4 : Int} {v5 : Int} {v6 : Int} {t0 : Int} {t1 : Int} {S : HS} (hrec : ∀ (b0 b1 b2 b3 b4 : Int) (S : HS), rng b0 → rng b1 → rng b2 → rng b3 → rng b4 → WR shF S → zW mA_X12_draws mO_X12_draws rng S (rec b0 b1 b2 b3 b4 S)) (hk3 : ∀ (w0 : Int) (S : HS), rng w0 → WR shF S → zW mA_X12_draws mO_X12_draws rng S (k3 w0 S)) (r_v2 : rng v2) (r_v3 : rng v3) (r_v4 : rng v4) (r_v5 : rng v5) (r_v6 : rng v6) (r_t0 : rng t0) (r_t1 : rng t1) (w_S : WR shF S) : zW mA_X12_draws mO_X12_draws rng S (J_X12_draws_240 rec k3 v2 v3 v4 v5 v6 t0 t1 S) := by
  unfold J_X12_draws_240
  refine zW_zl (fun x15 r_x15 => ?_)
  refine zW_upO w_S sw_51 (by decide) r_x15 (fun S16 w_S16 => ?_)
  exact W_J_X12_draws_244 hrec hk3 r_v2 r_v3 r_v4 r_v5 r_v6 w_S16
set_option maxHeartbeats 4000000 in
set_option maxRecDepth 20000 in
theorem W_J_X12_draws_220 {rec : Int → Int → Int → Int → Int → HS → zO2} {k3 : Int → HS → zO2} {v2 : Int} {v3 : Int} {v4 : Int} {v5 : Int} {v6 : Int} {t0 : Int} {S : HS} (hrec : ∀ (b0 b1 b2 b3 b4 : Int) (S : HS), rng b0 → rng b1 → rng b2 → rng b3 → rng b4 → WR shF S → zW mA_X12_draws mO_X12_draws rng S (rec b0 b1 b2 b3 b4 S)) (hk3 : ∀ (w0 : Int) (S : HS), rng w0 → WR shF S → zW mA_X12_draws mO_X12_draws rng S (k3 w0 S)) (r_v2 : rng v2) (r_v3 : rng v3) (r_v4 : rng v4) (r_v5 : rng v5) (r_v6 : rng v6) (r_t0 : rng t0) (w_S : WR shF S) : zW mA_X12_draws mO_X12_draws rng S (J_X12_draws_220 rec k3 v2 v3 v4 v5 v6 t0 S) := by
  unfold J_X12_draws_220
  refine zW_upO w_S sw_51 (by decide) r_t0 (fun S13 w_S13 => ?_)
  refine zW_ite ?_ ?_
  · exact W_J_X12_draws_240 hrec hk3 r_v2 r_v3 r_v4 r_v5 r_v6 (zrl rfl) (w_S13 51 _ sw_51 18) w_S13
  · exact W_J_X12_draws_240 hrec hk3 r_v2 r_v3 r_v4 r_v5 r_v6 (zrl rfl) (w_S13 51 _ sw_51 18) w_S13
set_option maxHeartbeats 4000000 in
set_option maxRecDepth 20000 in
theorem W_J_X12_draws_177 {rec : Int → Int → Int → Int → Int → HS → zO2} {k3 : Int → HS → zO2} {v2 : Int} {v3 : Int} {v4 : Int} {v5 : Int} {v6 : Int} {t0 : Int} {t1 : Int} {t2 : Int} {S : HS} (hrec : ∀ (b0 b1 b2 b3 b4 : Int) (S : HS), rng b0 → rng b1 → rng b2 → rng b3 → rng b4 → WR shF S → zW mA_X12_draws mO_X12_draws rng S (rec b0 b1 b2 b3 b4 S)) (hk3 : ∀ (w0 : Int) (S : HS), rng w0 → WR shF S → zW mA_X12_draws mO_X12_draws rng S (k3 w0 S)) (r_v2 : rng v2) (r_v3 : rng v3) (r_v4 : rng v4) (r_v5 : rng v5) (r_v6 : rng v6) (r_t0 : rng t0) (r_t1 : rng t1) (r_t2 : rng t2) (w_S : WR shF S) : zW mA_X12_draws mO_X12_draws rng S (J_X12_draws_177 rec k3 v2 v3 v4 v5 v6 t0 t1 t2 S) := by
  unfold J_X12_draws_177
  refine zW_zb (hrec _ _ _ _ _ _ r_t2 r_t1 r_t0 r_v4 r_v5 w_S) (by decide) (by decide) (fun _ S28 _ w_S28 => ?_)
  exact W_J_X12_draws_244 hrec hk3 r_v2 r_v3 r_v4 r_v5 r_v6 w_S28
set_option maxHeartbeats 4000000 in
set_option maxRecDepth 20000 in
theorem W_L_X12_draws_58 {rec : Int → Int → Int → Int → Int → HS → zO2} {k122 : HS → zO2} {p2 : Int} {p3 : Int} {p4 : Int} {p5 : Int} {p6 : Int} {p7 : Int} (hrec : ∀ (b0 b1 b2 b3 b4 : Int) (S : HS), rng b0 → rng b1 → rng b2 → rng b3 → rng b4 → WR shF S → zW mA_X12_draws mO_X12_draws rng S (rec b0 b1 b2 b3 b4 S)) (hk122 : ∀ (S : HS), WR shF S → zW mA_X12_draws mO_X12_draws rng S (k122 S)) (r_p2 : rng p2) (r_p3 : rng p3) (r_p4 : rng p4) (r_p5 : rng p5) (r_p6 : rng p6) (r_p7 : rng p7) : ∀ (n : Nat) {v8 : Int} {S : HS}, rng v8 → WR shF S → zW mA_X12_draws mO_X12_draws rng S (L_X12_draws_58 rec k122 p2 p3 p4 p5 p6 p7 n v8 S) := by
  intro n
  induction n with
  | zero =>
    intro _ _ _ _
    exact zW_none
  | succ n ih =>
    intro v8 S r_v8 w_S
    rw [L_X12_draws_58.eq_2]
    refine zW_zg ?_
    refine zW_ite ?_ ?_
    · exact hk122 _ w_S
    · refine zW_ite ?_ ?_
      · refine zW_zg ?_
        refine zW_zg ?_
        refine zW_zl (fun x37 r_x37 => ?_)
        refine zW_zl (fun x38 r_x38 => ?_)
        refine zW_zl (fun x39 r_x39 => ?_)
        refine zW_zb (hrec _ _ _ _ _ _ r_x39 (w_S 60 _ sw_60 p6) r_p3 r_x38 r_x37 w_S) (by decide) (by decide) (fun _ S41 _ w_S41 => ?_)
        refine zW_zl (fun x42 r_x42 => ?_)
        exact ih r_x42 w_S41
      · exact hk122 _ w_S
set_option maxHeartbeats 4000000 in
set_option maxRecDepth 20000 in
theorem W_J_X12_draws_122 {rec : Int → Int → Int → Int → Int → HS → zO2} {k3 : Int → HS → zO2} {v2 : Int} {v3 : Int} {v4 : Int} {v5 : Int} {v6 : Int} {S : HS} (hrec : ∀ (b0 b1 b2 b3 b4 : Int) (S : HS), rng b0 → rng b1 → rng b2 → rng b3 → rng b4 → WR shF S → zW mA_X12_draws mO_X12_draws rng S (rec b0 b1 b2 b3 b4 S)) (hk3 : ∀ (w0 : Int) (S : HS), rng w0 → WR shF S → zW mA_X12_draws mO_X12_draws rng S (k3 w0 S)) (r_v2 : rng v2) (r_v3 : rng v3) (r_v4 : rng v4) (r_v5 : rng v5) (r_v6 : rng v6) (w_S : WR shF S) : zW mA_X12_draws mO_X12_draws rng S (J_X12_draws_122 rec k3 v2 v3 v4 v5 v6 S) := by
  unfold J_X12_draws_122
  exact W_J_X12_draws_244 hrec hk3 r_v2 r_v3 r_v4 r_v5 r_v6 w_S
set_option maxHeartbeats 4000000 in
set_option maxRecDepth 20000 in
theorem W_J_X12_draws_53 {rec : Int → Int → Int → Int → Int → HS → zO2} {k3 : Int → HS → zO2} {v2 : Int} {v3 : Int} {v4 : Int} {v5 : Int} {v6 : Int} {t0 : Int} {S : HS} (hrec : ∀ (b0 b1 b2 b3 b4 : Int) (S : HS), rng b0 → rng b1 → rng b2 → rng b3 → rng b4 → WR shF S → zW mA_X12_draws mO_X12_draws rng S (rec b0 b1 b2 b3 b4 S)) (hk3 : ∀ (w0 : Int) (S : HS), rng w0 → WR shF S → zW mA_X12_draws mO_X12_draws rng S (k3 w0 S)) (r_v2 : rng v2) (r_v3 : rng v3) (r_v4 : rng v4) (r_v5 : rng v5) (r_v6 : rng v6) (r_t0 : rng t0) (w_S : WR shF S) : zW mA_X12_draws mO_X12_draws rng S (J_X12_draws_53 rec k3 v2 v3 v4 v5 v6 t0 S) := by
  unfold J_X12_draws_53
  exact W_L_X12_draws_58 hrec (fun S43  w_S43 => by
          exact W_J_X12_draws_122 hrec hk3 r_v2 r_v3 r_v4 r_v5 r_v6 w_S43) r_v2 r_v3 r_v4 r_v5 r_v6 r_t0 _ (zrl rfl) w_S
set_option maxHeartbeats 4000000 in
set_option maxRecDepth 20000 in
theorem W_L_X12_draws_3 {rec : Int → Int → Int → Int → Int → HS → zO2} {p2 : Int} {p3 : Int} {p4 : Int} {p5 : Int} (hrec : ∀ (b0 b1 b2 b3 b4 : Int) (S : HS), rng b0 → rng b1 → rng b2 → rng b3 → rng b4 → WR shF S → zW mA_X12_draws mO_X12_draws rng S (rec b0 b1 b2 b3 b4 S)) (r_p2 : rng p2) (r_p3 : rng p3) (r_p4 : rng p4) (r_p5 : rng p5) : ∀ (n : Nat) {v6 : Int} {S : HS}, rng v6 → WR shF S → zW mA_X12_draws mO_X12_draws rng S (L_X12_draws_3 rec p2 p3 p4 p5 n v6 S) := by
  intro n
  induction n with
  | zero =>
    intro _ _ _ _
    exact zW_none
  | succ n ih =>
    intro v6 S r_v6 w_S
    rw [L_X12_draws_3.eq_2]
    refine zW_ite ?_ ?_
    · exact zW_ret w_S (zrl rfl)
    · refine zW_ite ?_ ?_
      · refine zW_zg ?_
        refine zW_ite ?_ ?_
        · refine zW_ite ?_ ?_
          · refine zW_zg ?_
            exact W_J_X12_draws_53 hrec (fun q0_ T_ r_q0_ w_T_ => ih r_q0_ w_T_) r_p2 r_p3 r_p4 r_p5 r_v6 (w_S 58 _ sw_58 ( v6 + 1 )) w_S
          · refine zW_zg ?_
            refine zW_zl (fun x45 r_x45 => ?_)
            exact W_J_X12_draws_53 hrec (fun q0_ T_ r_q0_ w_T_ => ih r_q0_ w_T_) r_p2 r_p3 r_p4 r_p5 r_v6 r_x45 w_S
        · refine zW_zg ?_
          refine zW_ite ?_ ?_
          · refine zW_zg ?_
            refine zW_zl (fun x21 r_x21 => ?_)
            refine zW_zb (hrec _ _ _ _ _ _ r_x21 (w_S 60 _ sw_60 v6) r_p3 r_p4 r_p5 w_S) (by decide) (by decide) (fun _ S23 _ w_S23 => ?_)
            refine zW_zg ?_
            refine zW_ite ?_ ?_
            · refine zW_zl (fun x29 r_x29 => ?_)
              exact W_J_X12_draws_177 hrec (fun q0_ T_ r_q0_ w_T_ => ih r_q0_ w_T_) r_p2 r_p3 r_p4 r_p5 r_v6 (zrl rfl) (w_S23 60 _ sw_60 v6) r_x29 w_S23
            · refine zW_zl (fun x26 r_x26 => ?_)
              exact W_J_X12_draws_177 hrec (fun q0_ T_ r_q0_ w_T_ => ih r_q0_ w_T_) r_p2 r_p3 r_p4 r_p5 r_v6 (zrl rfl) (w_S23 60 _ sw_60 v6) r_x26 w_S23
          · refine zW_zb (W_M_X12_goes r_v6 r_p3 r_p4 r_p5 w_S) (by decide) (by decide) (fun _ S8 _ w_S8 => ?_)
            refine zW_zg ?_
            refine zW_ite ?_ ?_
            · refine zW_zb (W_M_X12_parting w_S8) (by decide) (by decide) (fun r18 S19 r_r18 w_S19 => ?_)
              exact W_J_X12_draws_220 hrec (fun q0_ T_ r_q0_ w_T_ => ih r_q0_ w_T_) r_p2 r_p3 r_p4 r_p5 r_v6 r_r18 w_S19
            · refine zW_zb (W_M_X12_rowing w_S8) (by decide) (by decide) (fun r11 S12 r_r11 w_S12 => ?_)
              exact W_J_X12_draws_220 hrec (fun q0_ T_ r_q0_ w_T_ => ih r_q0_ w_T_) r_p2 r_p3 r_p4 r_p5 r_v6 r_r11 w_S12
      · exact zW_ret w_S (zrl rfl)
set_option maxHeartbeats 4000000 in
set_option maxRecDepth 20000 in
theorem W_F_X12_draws {rec : Int → Int → Int → Int → Int → HS → zO2} {a1 : Int} {a2 : Int} {a3 : Int} {a4 : Int} {a5 : Int} {S : HS} (hrec : ∀ (b0 b1 b2 b3 b4 : Int) (S : HS), rng b0 → rng b1 → rng b2 → rng b3 → rng b4 → WR shF S → zW mA_X12_draws mO_X12_draws rng S (rec b0 b1 b2 b3 b4 S)) (r_a1 : rng a1) (r_a2 : rng a2) (r_a3 : rng a3) (r_a4 : rng a4) (r_a5 : rng a5) (w_S : WR shF S) : zW mA_X12_draws mO_X12_draws rng S (F_X12_draws rec a1 a2 a3 a4 a5 S) := by
  unfold F_X12_draws
  exact W_L_X12_draws_3 hrec r_a2 r_a3 r_a4 r_a5 _ r_a1 w_S
set_option maxHeartbeats 4000000 in
set_option maxRecDepth 20000 in
theorem W_M_X12_draws : ∀ (n : Nat) {a1 : Int} {a2 : Int} {a3 : Int} {a4 : Int} {a5 : Int} {S : HS}, rng a1 → rng a2 → rng a3 → rng a4 → rng a5 → WR shF S → zW mA_X12_draws mO_X12_draws rng S (M_X12_draws n a1 a2 a3 a4 a5 S) := by
  intro n
  induction n with
  | zero =>
    intro _ _ _ _ _ _ _ _ _ _ _ _
    exact zW_none
  | succ n ih =>
    intro a1 a2 a3 a4 a5 _ r_a1 r_a2 r_a3 r_a4 r_a5 w_S
    rw [M_X12_draws.eq_2]
    exact W_F_X12_draws (fun _ _ _ _ _ _ ha1 ha2 ha3 ha4 ha5 h => ih ha1 ha2 ha3 ha4 ha5 h) r_a1 r_a2 r_a3 r_a4 r_a5 w_S
abbrev mA_X12_thrown : List Nat := []
abbrev mO_X12_thrown : List (Nat × Int) := []
set_option maxHeartbeats 4000000 in
set_option maxRecDepth 20000 in
theorem W_M_X12_thrown {S : HS} (w_S : WR shF S) : zW mA_X12_thrown mO_X12_thrown rng S (M_X12_thrown S) := by
  unfold M_X12_thrown
  exact zW_ret w_S (w_S 51 _ sw_51 0)
abbrev mA_X12_lay : List Nat := [52]
abbrev mO_X12_lay : List (Nat × Int) := [(51, 2)]
set_option maxHeartbeats 4000000 in
set_option maxRecDepth 20000 in
theorem W_J_X12_lay_69 {k3 : Int → HS → zO2} {v1 : Int} {v3 : Int} {S : HS} (hk3 : ∀ (w0 : Int) (S : HS), rng w0 → WR shF S → zW mA_X12_lay mO_X12_lay rng S (k3 w0 S)) (r_v1 : rng6 v1) (r_v3 : rng v3) (w_S : WR shF S) : zW mA_X12_lay mO_X12_lay rng S (J_X12_lay_69 k3 v1 v3 S) := by
  unfold J_X12_lay_69
  refine zW_zl (fun x4 r_x4 => ?_)
  exact hk3 _ _ r_x4 w_S
set_option maxHeartbeats 4000000 in
set_option maxRecDepth 20000 in
theorem W_J_X12_lay_38 {k3 : Int → HS → zO2} {v1 : Int} {v3 : Int} {v4 : Int} {S : HS} (hk3 : ∀ (w0 : Int) (S : HS), rng w0 → WR shF S → zW mA_X12_lay mO_X12_lay rng S (k3 w0 S)) (r_v1 : rng6 v1) (r_v3 : rng v3) (r_v4 : rng v4) (w_S : WR shF S) : zW mA_X12_lay mO_X12_lay rng S (J_X12_lay_38 k3 v1 v3 v4 S) := by
  unfold J_X12_lay_38
  refine zW_ite ?_ ?_
  · exact W_J_X12_lay_69 hk3 r_v1 r_v3 w_S
  · refine zW_zg ?_
    refine zW_up w_S sw_52 (by decide) r_v4 (fun S6 w_S6 => ?_)
    refine zW_zl (fun x7 r_x7 => ?_)
    refine zW_upO w_S6 sw_51 (by decide) r_x7 (fun S8 w_S8 => ?_)
    exact W_J_X12_lay_69 hk3 r_v1 r_v3 w_S8
set_option maxHeartbeats 4000000 in
set_option maxRecDepth 20000 in
theorem W_L_X12_lay_3 {p1 : Int} (r_p1 : rng6 p1) : ∀ (n : Nat) {v3 : Int} {S : HS}, rng v3 → WR shF S → zW mA_X12_lay mO_X12_lay rng S (L_X12_lay_3 p1 n v3 S) := by
  intro n
  induction n with
  | zero =>
    intro _ _ _ _
    exact zW_none
  | succ n ih =>
    intro v3 S r_v3 w_S
    rw [L_X12_lay_3.eq_2]
    refine zW_ite ?_ ?_
    · exact zW_ret w_S (zrl rfl)
    · refine zW_ite ?_ ?_
      · exact W_J_X12_lay_38 (fun q0_ T_ r_q0_ w_T_ => ih r_q0_ w_T_) r_p1 r_v3 zand_r w_S
      · refine zW_ite ?_ ?_
        · exact W_J_X12_lay_69 (fun q0_ T_ r_q0_ w_T_ => ih r_q0_ w_T_) r_p1 r_v3 w_S
        · refine zW_ite ?_ ?_
          · exact W_J_X12_lay_69 (fun q0_ T_ r_q0_ w_T_ => ih r_q0_ w_T_) r_p1 r_v3 w_S
          · exact W_J_X12_lay_38 (fun q0_ T_ r_q0_ w_T_ => ih r_q0_ w_T_) r_p1 r_v3 zand_r w_S
set_option maxHeartbeats 4000000 in
set_option maxRecDepth 20000 in
theorem W_M_X12_lay {a1 : Int} {S : HS} (r_a1 : rng6 a1) (w_S : WR shF S) : zW mA_X12_lay mO_X12_lay rng S (M_X12_lay a1 S) := by
  unfold M_X12_lay
  exact W_L_X12_lay_3 r_a1 _ (zrl rfl) w_S
abbrev mA_X12_feed : List Nat := [52]
abbrev mO_X12_feed : List (Nat × Int) := [(51, 0), (51, 2)]
set_option maxHeartbeats 4000000 in
set_option maxRecDepth 20000 in
theorem W_M_X12_feed {a1 : Int} {a2 : Int} {a3 : Int} {S : HS} (r_a1 : rng6 a1) (r_a2 : rng6 a2) (r_a3 : rng6 a3) (w_S : WR shF S) : zW mA_X12_feed mO_X12_feed rng S (M_X12_feed a1 a2 a3 S) := by
  unfold M_X12_feed
  refine zW_upO w_S sw_51 (by decide) (zrl rfl) (fun S1 w_S1 => ?_)
  refine zW_zb (W_M_X12_lay r_a1 w_S1) (by decide) (by decide) (fun _ S3 _ w_S3 => ?_)
  refine zW_zb (W_M_X12_lay r_a2 w_S3) (by decide) (by decide) (fun _ S5 _ w_S5 => ?_)
  refine zW_zb (W_M_X12_lay r_a3 w_S5) (by decide) (by decide) (fun _ S7 _ w_S7 => ?_)
  exact zW_ret w_S7 (w_S7 51 _ sw_51 2)
abbrev mA_X12_isLetter : List Nat := []
abbrev mO_X12_isLetter : List (Nat × Int) := []
set_option maxHeartbeats 4000000 in
set_option maxRecDepth 20000 in
theorem W_M_X12_isLetter {a1 : Int} {S : HS} (r_a1 : rng a1) (w_S : WR shF S) : zW mA_X12_isLetter mO_X12_isLetter rng S (M_X12_isLetter a1 S) := by
  unfold M_X12_isLetter
  refine zW_ite ?_ ?_
  · exact zW_ret w_S (zrl rfl)
  · refine zW_ite ?_ ?_
    · exact zW_ret w_S (zrl rfl)
    · exact zW_ret w_S (zrl rfl)
abbrev mA_X12_isDigit : List Nat := []
abbrev mO_X12_isDigit : List (Nat × Int) := []
set_option maxHeartbeats 4000000 in
set_option maxRecDepth 20000 in
theorem W_M_X12_isDigit {a1 : Int} {S : HS} (r_a1 : rng a1) (w_S : WR shF S) : zW mA_X12_isDigit mO_X12_isDigit rng S (M_X12_isDigit a1 S) := by
  unfold M_X12_isDigit
  refine zW_ite ?_ ?_
  · exact zW_ret w_S (zrl rfl)
  · refine zW_ite ?_ ?_
    · exact zW_ret w_S (zrl rfl)
    · exact zW_ret w_S (zrl rfl)
abbrev mA_X12_rank : List Nat := []
abbrev mO_X12_rank : List (Nat × Int) := []
set_option maxHeartbeats 4000000 in
set_option maxRecDepth 20000 in
theorem W_M_X12_rank {a1 : Int} {S : HS} (r_a1 : rng a1) (w_S : WR shF S) : zW mA_X12_rank mO_X12_rank rng S (M_X12_rank a1 S) := by
  unfold M_X12_rank
  refine zW_zb (W_M_X12_isLetter r_a1 w_S) (by decide) (by decide) (fun r1 S2 r_r1 w_S2 => ?_)
  refine zW_ite ?_ ?_
  · refine zW_zl (fun x4 r_x4 => ?_)
    exact zW_ret w_S2 r_x4
  · refine zW_zl (fun x5 r_x5 => ?_)
    exact zW_ret w_S2 r_x5
abbrev mA_X12_isSignOf : List Nat := []
abbrev mO_X12_isSignOf : List (Nat × Int) := []
set_option maxHeartbeats 4000000 in
set_option maxRecDepth 20000 in
theorem W_J_X12_isSignOf_18 {S : HS} (w_S : WR shF S) : zW mA_X12_isSignOf mO_X12_isSignOf rng S (J_X12_isSignOf_18 S) := by
  unfold J_X12_isSignOf_18
  exact zW_ret w_S (zrl rfl)
set_option maxHeartbeats 4000000 in
set_option maxRecDepth 20000 in
theorem W_M_X12_isSignOf {a1 : Int} {S : HS} (r_a1 : rng a1) (w_S : WR shF S) : zW mA_X12_isSignOf mO_X12_isSignOf rng S (M_X12_isSignOf a1 S) := by
  unfold M_X12_isSignOf
  refine zW_ite ?_ ?_
  · exact W_J_X12_isSignOf_18 w_S
  · refine zW_ite ?_ ?_
    · exact W_J_X12_isSignOf_18 w_S
    · refine zW_ite ?_ ?_
      · exact W_J_X12_isSignOf_18 w_S
      · exact zW_ret w_S (zrl rfl)
abbrev mA_X12_cutAll : List Nat := [53, 54, 55]
abbrev mO_X12_cutAll : List (Nat × Int) := [(51, 2), (51, 3), (51, 7), (51, 8)]
set_option maxHeartbeats 4000000 in
set_option maxRecDepth 20000 in
theorem W_J_X12_cutAll_44 {k17 : Int → Int → HS → zO2} {v1 : Int} {v2 : Int} {S : HS} (hk17 : ∀ (w0 w1 : Int) (S : HS), rng w0 → rng w1 → WR shF S → zW mA_X12_cutAll mO_X12_cutAll rng S (k17 w0 w1 S)) (r_v1 : rng v1) (r_v2 : rng v2) (w_S : WR shF S) : zW mA_X12_cutAll mO_X12_cutAll rng S (J_X12_cutAll_44 k17 v1 v2 S) := by
  unfold J_X12_cutAll_44
  refine zW_zl (fun x6 r_x6 => ?_)
  exact hk17 _ _ _ r_v1 r_x6 w_S
set_option maxHeartbeats 4000000 in
set_option maxRecDepth 20000 in
theorem W_J_X12_cutAll_265 {k17 : Int → Int → HS → zO2} {v1 : Int} {v2 : Int} {v5 : Int} {S : HS} (hk17 : ∀ (w0 w1 : Int) (S : HS), rng w0 → rng w1 → WR shF S → zW mA_X12_cutAll mO_X12_cutAll rng S (k17 w0 w1 S)) (r_v1 : rng v1) (r_v2 : rng v2) (r_v5 : rng6 v5) (w_S : WR shF S) : zW mA_X12_cutAll mO_X12_cutAll rng S (J_X12_cutAll_265 k17 v1 v2 v5 S) := by
  unfold J_X12_cutAll_265
  refine zW_zg ?_
  refine zW_up w_S sw_55 (by decide) r_v5 (fun S23 w_S23 => ?_)
  refine zW_zl (fun x24 r_x24 => ?_)
  exact hk17 _ _ _ r_x24 r_v2 w_S23
set_option maxHeartbeats 4000000 in
set_option maxRecDepth 20000 in
theorem W_J_X12_cutAll_261 {k17 : Int → Int → HS → zO2} {v1 : Int} {v2 : Int} {v5 : Int} {t0 : Int} {t1 : Int} {S : HS} (hk17 : ∀ (w0 w1 : Int) (S : HS), rng w0 → rng w1 → WR shF S → zW mA_X12_cutAll mO_X12_cutAll rng S (k17 w0 w1 S)) (r_v1 : rng v1) (r_v2 : rng v2) (r_v5 : rng6 v5) (r_t0 : rng t0) (r_t1 : rng t1) (w_S : WR shF S) : zW mA_X12_cutAll mO_X12_cutAll rng S (J_X12_cutAll_261 k17 v1 v2 v5 t0 t1 S) := by
  unfold J_X12_cutAll_261
  refine zW_zg ?_
  refine zW_up w_S sw_53 (by decide) r_t0 (fun S20 w_S20 => ?_)
  refine zW_zl (fun x21 r_x21 => ?_)
  exact W_J_X12_cutAll_265 hk17 r_v1 r_x21 r_v5 w_S20
set_option maxHeartbeats 4000000 in
set_option maxRecDepth 20000 in
theorem W_J_X12_cutAll_210 {k159 : Int → Int → HS → zO2} {v1 : Int} {v2 : Int} {v4 : Int} {t0 : Int} {S : HS} (hk159 : ∀ (w0 w1 : Int) (S : HS), rng w0 → rng6 w1 → WR shF S → zW mA_X12_cutAll mO_X12_cutAll rng S (k159 w0 w1 S)) (r_v1 : rng v1) (r_v2 : rng v2) (r_v4 : rng v4) (r_t0 : rng6 t0) (w_S : WR shF S) : zW mA_X12_cutAll mO_X12_cutAll rng S (J_X12_cutAll_210 k159 v1 v2 v4 t0 S) := by
  unfold J_X12_cutAll_210
  refine zW_zl (fun x32 r_x32 => ?_)
  exact hk159 _ _ _ r_x32 r_t0 w_S
set_option maxHeartbeats 4000000 in
set_option maxRecDepth 20000 in
theorem W_L_X12_cutAll_159 {k218 : Int → Int → HS → zO2} {p1 : Int} {p4 : Int} (hk218 : ∀ (w0 w1 : Int) (S : HS), rng w0 → rng6 w1 → WR shF S → zW mA_X12_cutAll mO_X12_cutAll rng S (k218 w0 w1 S)) (r_p1 : rng p1) (r_p4 : rng p4) : ∀ (n : Nat) {v2 : Int} {v5 : Int} {S : HS}, rng v2 → rng6 v5 → WR shF S → zW mA_X12_cutAll mO_X12_cutAll rng S (L_X12_cutAll_159 k218 p1 p4 n v2 v5 S) := by
  intro n
  induction n with
  | zero =>
    intro _ _ _ _ _ _
    exact zW_none
  | succ n ih =>
    intro v2 v5 S r_v2 r_v5 w_S
    rw [L_X12_cutAll_159.eq_2]
    refine zW_ite ?_ ?_
    · exact hk218 _ _ _ r_v2 r_v5 w_S
    · refine zW_zg ?_
      refine zW_zb (W_M_X12_isDigit (w_S 52 _ sw_52 v2) w_S) (by decide) (by decide) (fun r27 S28 r_r27 w_S28 => ?_)
      refine zW_ite ?_ ?_
      · exact hk218 _ _ _ r_v2 r_v5 w_S28
      · refine zW_zl (fun x30 r_x30 => ?_)
        refine zW_ite ?_ ?_
        · exact W_J_X12_cutAll_210 (fun q0_ q1_ T_ r_q0_ r_q1_ w_T_ => ih r_q0_ r_q1_ w_T_) r_p1 r_v2 r_p4 r_v5 w_S28
        · refine zW_zg ?_
          refine zW_zl6 (fun x34 r_x34 => ?_)
          exact W_J_X12_cutAll_210 (fun q0_ q1_ T_ r_q0_ r_q1_ w_T_ => ih r_q0_ r_q1_ w_T_) r_p1 r_v2 r_p4 r_x34 w_S28
set_option maxHeartbeats 4000000 in
set_option maxRecDepth 20000 in
theorem W_J_X12_cutAll_236 {k17 : Int → Int → HS → zO2} {v1 : Int} {v2 : Int} {v5 : Int} {t0 : Int} {t1 : Int} {S : HS} (hk17 : ∀ (w0 w1 : Int) (S : HS), rng w0 → rng w1 → WR shF S → zW mA_X12_cutAll mO_X12_cutAll rng S (k17 w0 w1 S)) (r_v1 : rng v1) (r_v2 : rng v2) (r_v5 : rng6 v5) (r_t0 : rng t0) (r_t1 : rng t1) (w_S : WR shF S) : zW mA_X12_cutAll mO_X12_cutAll rng S (J_X12_cutAll_236 k17 v1 v2 v5 t0 t1 S) := by
  unfold J_X12_cutAll_236
  refine zW_zg ?_
  refine zW_up w_S sw_53 (by decide) r_t0 (fun S39 w_S39 => ?_)
  exact W_J_X12_cutAll_265 hk17 r_v1 r_v2 r_v5 w_S39
set_option maxHeartbeats 4000000 in
set_option maxRecDepth 20000 in
theorem W_J_X12_cutAll_218 {k17 : Int → Int → HS → zO2} {v1 : Int} {v2 : Int} {v4 : Int} {v5 : Int} {S : HS} (hk17 : ∀ (w0 w1 : Int) (S : HS), rng w0 → rng w1 → WR shF S → zW mA_X12_cutAll mO_X12_cutAll rng S (k17 w0 w1 S)) (r_v1 : rng v1) (r_v2 : rng v2) (r_v4 : rng v4) (r_v5 : rng6 v5) (w_S : WR shF S) : zW mA_X12_cutAll mO_X12_cutAll rng S (J_X12_cutAll_218 k17 v1 v2 v4 v5 S) := by
  unfold J_X12_cutAll_218
  refine zW_zl (fun x36 r_x36 => ?_)
  refine zW_ite ?_ ?_
  · exact W_J_X12_cutAll_236 hk17 r_v1 r_v2 r_v5 (zrl rfl) r_v1 w_S
  · exact W_J_X12_cutAll_236 hk17 r_v1 r_v2 r_v5 (zrl rfl) r_v1 w_S
set_option maxHeartbeats 4000000 in
set_option maxRecDepth 20000 in
theorem W_J_X12_cutAll_121 {k70 : Int → Int → HS → zO2} {v1 : Int} {v2 : Int} {v4 : Int} {t0 : Int} {S : HS} (hk70 : ∀ (w0 w1 : Int) (S : HS), rng w0 → rng6 w1 → WR shF S → zW mA_X12_cutAll mO_X12_cutAll rng S (k70 w0 w1 S)) (r_v1 : rng v1) (r_v2 : rng v2) (r_v4 : rng v4) (r_t0 : rng6 t0) (w_S : WR shF S) : zW mA_X12_cutAll mO_X12_cutAll rng S (J_X12_cutAll_121 k70 v1 v2 v4 t0 S) := by
  unfold J_X12_cutAll_121
  refine zW_zl (fun x47 r_x47 => ?_)
  exact hk70 _ _ _ r_x47 r_t0 w_S
set_option maxHeartbeats 4000000 in
set_option maxRecDepth 20000 in
theorem W_L_X12_cutAll_70 {k129 : Int → Int → HS → zO2} {p1 : Int} {p4 : Int} (hk129 : ∀ (w0 w1 : Int) (S : HS), rng w0 → rng6 w1 → WR shF S → zW mA_X12_cutAll mO_X12_cutAll rng S (k129 w0 w1 S)) (r_p1 : rng p1) (r_p4 : rng p4) : ∀ (n : Nat) {v2 : Int} {v5 : Int} {S : HS}, rng v2 → rng6 v5 → WR shF S → zW mA_X12_cutAll mO_X12_cutAll rng S (L_X12_cutAll_70 k129 p1 p4 n v2 v5 S) := by
  intro n
  induction n with
  | zero =>
    intro _ _ _ _ _ _
    exact zW_none
  | succ n ih =>
    intro v2 v5 S r_v2 r_v5 w_S
    rw [L_X12_cutAll_70.eq_2]
    refine zW_ite ?_ ?_
    · exact hk129 _ _ _ r_v2 r_v5 w_S
    · refine zW_zg ?_
      refine zW_zb (W_M_X12_isLetter (w_S 52 _ sw_52 v2) w_S) (by decide) (by decide) (fun r42 S43 r_r42 w_S43 => ?_)
      refine zW_ite ?_ ?_
      · exact hk129 _ _ _ r_v2 r_v5 w_S43
      · refine zW_zl (fun x45 r_x45 => ?_)
        refine zW_ite ?_ ?_
        · exact W_J_X12_cutAll_121 (fun q0_ q1_ T_ r_q0_ r_q1_ w_T_ => ih r_q0_ r_q1_ w_T_) r_p1 r_v2 r_p4 r_v5 w_S43
        · refine zW_zg ?_
          refine zW_zb (W_M_X12_rank (w_S43 52 _ sw_52 v2) w_S43) (by decide) (by decide) (fun r49 S50 r_r49 w_S50 => ?_)
          refine zW_zl6 (fun x51 r_x51 => ?_)
          exact W_J_X12_cutAll_121 (fun q0_ q1_ T_ r_q0_ r_q1_ w_T_ => ih r_q0_ r_q1_ w_T_) r_p1 r_v2 r_p4 r_x51 w_S50
set_option maxHeartbeats 4000000 in
set_option maxRecDepth 20000 in
theorem W_J_X12_cutAll_148 {k17 : Int → Int → HS → zO2} {v1 : Int} {v2 : Int} {v5 : Int} {t0 : Int} {t1 : Int} {S : HS} (hk17 : ∀ (w0 w1 : Int) (S : HS), rng w0 → rng w1 → WR shF S → zW mA_X12_cutAll mO_X12_cutAll rng S (k17 w0 w1 S)) (r_v1 : rng v1) (r_v2 : rng v2) (r_v5 : rng6 v5) (r_t0 : rng t0) (r_t1 : rng t1) (w_S : WR shF S) : zW mA_X12_cutAll mO_X12_cutAll rng S (J_X12_cutAll_148 k17 v1 v2 v5 t0 t1 S) := by
  unfold J_X12_cutAll_148
  refine zW_zg ?_
  refine zW_up w_S sw_53 (by decide) r_t0 (fun S56 w_S56 => ?_)
  exact W_J_X12_cutAll_265 hk17 r_v1 r_v2 r_v5 w_S56
set_option maxHeartbeats 4000000 in
set_option maxRecDepth 20000 in
theorem W_J_X12_cutAll_129 {k17 : Int → Int → HS → zO2} {v1 : Int} {v2 : Int} {v4 : Int} {v5 : Int} {S : HS} (hk17 : ∀ (w0 w1 : Int) (S : HS), rng w0 → rng w1 → WR shF S → zW mA_X12_cutAll mO_X12_cutAll rng S (k17 w0 w1 S)) (r_v1 : rng v1) (r_v2 : rng v2) (r_v4 : rng v4) (r_v5 : rng6 v5) (w_S : WR shF S) : zW mA_X12_cutAll mO_X12_cutAll rng S (J_X12_cutAll_129 k17 v1 v2 v4 v5 S) := by
  unfold J_X12_cutAll_129
  refine zW_zl (fun x53 r_x53 => ?_)
  refine zW_ite ?_ ?_
  · exact W_J_X12_cutAll_148 hk17 r_v1 r_v2 r_v5 (zrl rfl) r_v1 w_S
  · exact W_J_X12_cutAll_148 hk17 r_v1 r_v2 r_v5 (zrl rfl) r_v1 w_S
set_option maxHeartbeats 4000000 in
set_option maxRecDepth 20000 in
theorem W_L_X12_cutAll_17 {k279 : Int → HS → zO2} (hk279 : ∀ (w0 : Int) (S : HS), rng w0 → WR shF S → zW mA_X12_cutAll mO_X12_cutAll rng S (k279 w0 S)) : ∀ (n : Nat) {v1 : Int} {v2 : Int} {S : HS}, rng v1 → rng v2 → WR shF S → zW mA_X12_cutAll mO_X12_cutAll rng S (L_X12_cutAll_17 k279 n v1 v2 S) := by
  intro n
  induction n with
  | zero =>
    intro _ _ _ _ _ _
    exact zW_none
  | succ n ih =>
    intro v1 v2 S r_v1 r_v2 w_S
    rw [L_X12_cutAll_17.eq_2]
    refine zW_ite ?_ ?_
    · exact hk279 _ _ r_v1 w_S
    · refine zW_zg ?_
      refine zW_ite ?_ ?_
      · exact W_J_X12_cutAll_44 (fun q0_ q1_ T_ r_q0_ r_q1_ w_T_ => ih r_q0_ r_q1_ w_T_) r_v1 r_v2 w_S
      · refine zW_ite ?_ ?_
        · exact W_J_X12_cutAll_44 (fun q0_ q1_ T_ r_q0_ r_q1_ w_T_ => ih r_q0_ r_q1_ w_T_) r_v1 r_v2 w_S
        · refine zW_zg ?_
          refine zW_up w_S sw_54 (by decide) r_v2 (fun S9 w_S9 => ?_)
          refine zW_zb (W_M_X12_isLetter (w_S 52 _ sw_52 v2) w_S9) (by decide) (by decide) (fun r10 S11 r_r10 w_S11 => ?_)
          refine zW_ite ?_ ?_
          · refine zW_zb (W_M_X12_isDigit (w_S 52 _ sw_52 v2) w_S11) (by decide) (by decide) (fun r13 S14 r_r13 w_S14 => ?_)
            refine zW_ite ?_ ?_
            · refine zW_zb (W_M_X12_isSignOf (w_S 52 _ sw_52 v2) w_S14) (by decide) (by decide) (fun r16 S17 r_r16 w_S17 => ?_)
              refine zW_ite ?_ ?_
              · exact W_J_X12_cutAll_261 (fun q0_ q1_ T_ r_q0_ r_q1_ w_T_ => ih r_q0_ r_q1_ w_T_) r_v1 r_v2 (z_ri (w_S 52 _ sw_52 v2)) (zrl rfl) r_v1 w_S17
              · exact W_J_X12_cutAll_261 (fun q0_ q1_ T_ r_q0_ r_q1_ w_T_ => ih r_q0_ r_q1_ w_T_) r_v1 r_v2 (z_ri (w_S 52 _ sw_52 v2)) (zrl rfl) r_v1 w_S17
            · exact W_L_X12_cutAll_159 (fun e2 e5 S35 r_e2 r_e5 w_S35 => by
                    exact W_J_X12_cutAll_218 (fun q0_ q1_ T_ r_q0_ r_q1_ w_T_ => ih r_q0_ r_q1_ w_T_) r_v1 r_e2 r_v2 r_e5 w_S35) r_v1 r_v2 _ r_v2 (zrl6 rfl) w_S14
          · exact W_L_X12_cutAll_70 (fun e2 e5 S52 r_e2 r_e5 w_S52 => by
                  exact W_J_X12_cutAll_129 (fun q0_ q1_ T_ r_q0_ r_q1_ w_T_ => ih r_q0_ r_q1_ w_T_) r_v1 r_e2 r_v2 r_e5 w_S52) r_v1 r_v2 _ r_v2 (zrl6 rfl) w_S11
set_option maxHeartbeats 4000000 in
set_option maxRecDepth 20000 in
theorem W_M_X12_cutAll {S : HS} (w_S : WR shF S) : zW mA_X12_cutAll mO_X12_cutAll rng S (M_X12_cutAll S) := by
  unfold M_X12_cutAll
  refine zW_upO w_S sw_51 (by decide) (w_S 51 _ sw_51 2) (fun S1 w_S1 => ?_)
  refine zW_upO w_S1 sw_51 (by decide) (zrl rfl) (fun S2 w_S2 => ?_)
  exact W_L_X12_cutAll_17 (fun e1 S57 r_e1 w_S57 => by
          refine zW_zg ?_
          refine zW_up w_S57 sw_53 (by decide) (zrl rfl) (fun S59 w_S59 => ?_)
          refine zW_zg ?_
          refine zW_up w_S59 sw_54 (by decide) (w_S59 51 _ sw_51 3) (fun S61 w_S61 => ?_)
          refine zW_upO w_S61 sw_51 (by decide) (zrl rfl) (fun S62 w_S62 => ?_)
          refine zW_upO w_S62 sw_51 (by decide) (zrl rfl) (fun S63 w_S63 => ?_)
          exact zW_ret w_S63 (zrl rfl)) _ (zrl rfl) (zrl rfl) w_S2
abbrev mA_X12_forgets : List Nat := [63, 64, 68]
abbrev mO_X12_forgets : List (Nat × Int) := [(51, 22), (51, 27)]
set_option maxHeartbeats 4000000 in
set_option maxRecDepth 20000 in
theorem W_J_X12_forgets_24 {k2 : Int → HS → zO2} {v1 : Int} {v2 : Int} {v3 : Int} {S : HS} (hk2 : ∀ (w0 : Int) (S : HS), rng w0 → WR shF S → zW mA_X12_forgets mO_X12_forgets rng S (k2 w0 S)) (r_v1 : rng v1) (r_v2 : rng v2) (r_v3 : rng v3) (w_S : WR shF S) : zW mA_X12_forgets mO_X12_forgets rng S (J_X12_forgets_24 k2 v1 v2 v3 S) := by
  unfold J_X12_forgets_24
  refine zW_zl (fun x5 r_x5 => ?_)
  exact hk2 _ _ r_x5 w_S
set_option maxHeartbeats 4000000 in
set_option maxRecDepth 20000 in
theorem W_L_X12_forgets_2 {k30 : HS → zO2} {p1 : Int} {p2 : Int} (hk30 : ∀ (S : HS), WR shF S → zW mA_X12_forgets mO_X12_forgets rng S (k30 S)) (r_p1 : rng p1) (r_p2 : rng p2) : ∀ (n : Nat) {v3 : Int} {S : HS}, rng v3 → WR shF S → zW mA_X12_forgets mO_X12_forgets rng S (L_X12_forgets_2 k30 p1 p2 n v3 S) := by
  intro n
  induction n with
  | zero =>
    intro _ _ _ _
    exact zW_none
  | succ n ih =>
    intro v3 S r_v3 w_S
    rw [L_X12_forgets_2.eq_2]
    refine zW_ite ?_ ?_
    · exact hk30 _ w_S
    · refine zW_zb (W_M_X12_sideOf r_v3 w_S) (by decide) (by decide) (fun r2 S3 r_r2 w_S3 => ?_)
      refine zW_ite ?_ ?_
      · exact W_J_X12_forgets_24 (fun q0_ T_ r_q0_ w_T_ => ih r_q0_ w_T_) r_p1 r_p2 r_v3 w_S3
      · refine zW_zb (W_M_X12_setSide r_v3 (zrl rfl) w_S3) (by decide) (by decide) (fun _ S7 _ w_S7 => ?_)
        exact W_J_X12_forgets_24 (fun q0_ T_ r_q0_ w_T_ => ih r_q0_ w_T_) r_p1 r_p2 r_v3 w_S7
set_option maxHeartbeats 4000000 in
set_option maxRecDepth 20000 in
theorem W_J_X12_forgets_64 {k32 : Int → HS → zO2} {v1 : Int} {v2 : Int} {v3 : Int} {t0 : Int} {t1 : Int} {S : HS} (hk32 : ∀ (w0 : Int) (S : HS), rng w0 → WR shF S → zW mA_X12_forgets mO_X12_forgets rng S (k32 w0 S)) (r_v1 : rng v1) (r_v2 : rng v2) (r_v3 : rng v3) (r_t0 : rng t0) (r_t1 : rng t1) (w_S : WR shF S) : zW mA_X12_forgets mO_X12_forgets rng S (J_X12_forgets_64 k32 v1 v2 v3 t0 t1 S) := by
  unfold J_X12_forgets_64
  refine zW_zg ?_
  refine zW_up w_S sw_68 (by decide) r_t0 (fun S14 w_S14 => ?_)
  refine zW_zl (fun x15 r_x15 => ?_)
  exact hk32 _ _ r_x15 w_S14
set_option maxHeartbeats 4000000 in
set_option maxRecDepth 20000 in
theorem W_L_X12_forgets_32 {k71 : HS → zO2} {p1 : Int} {p2 : Int} (hk71 : ∀ (S : HS), WR shF S → zW mA_X12_forgets mO_X12_forgets rng S (k71 S)) (r_p1 : rng p1) (r_p2 : rng p2) : ∀ (n : Nat) {v3 : Int} {S : HS}, rng v3 → WR shF S → zW mA_X12_forgets mO_X12_forgets rng S (L_X12_forgets_32 k71 p1 p2 n v3 S) := by
  intro n
  induction n with
  | zero =>
    intro _ _ _ _
    exact zW_none
  | succ n ih =>
    intro v3 S r_v3 w_S
    rw [L_X12_forgets_32.eq_2]
    refine zW_ite ?_ ?_
    · exact hk71 _ w_S
    · refine zW_zg ?_
      refine zW_ite ?_ ?_
      · refine zW_zg ?_
        exact W_J_X12_forgets_64 (fun q0_ T_ r_q0_ w_T_ => ih r_q0_ w_T_) r_p1 r_p2 r_v3 (w_S 68 _ sw_68 v3) r_v3 w_S
      · exact W_J_X12_forgets_64 (fun q0_ T_ r_q0_ w_T_ => ih r_q0_ w_T_) r_p1 r_p2 r_v3 (zrl rfl) r_v3 w_S
set_option maxHeartbeats 4000000 in
set_option maxRecDepth 20000 in
theorem W_M_X12_forgets {a1 : Int} {a2 : Int} {S : HS} (r_a1 : rng a1) (r_a2 : rng a2) (w_S : WR shF S) : zW mA_X12_forgets mO_X12_forgets rng S (M_X12_forgets a1 a2 S) := by
  unfold M_X12_forgets
  exact W_L_X12_forgets_2 (fun S8  w_S8 => by
          exact W_L_X12_forgets_32 (fun S16  w_S16 => by
          refine zW_upO w_S16 sw_51 (by decide) r_a1 (fun S17 w_S17 => ?_)
          refine zW_upO w_S17 sw_51 (by decide) r_a2 (fun S18 w_S18 => ?_)
          exact zW_ret w_S18 (zrl rfl)) r_a1 r_a2 _ (zrl rfl) w_S8) r_a1 r_a2 _ (zrl rfl) w_S
abbrev mA_X12_draw : List Nat := [53, 54, 55, 57, 58, 59, 60, 61, 62, 63, 64, 65, 66, 68, 69, 70, 71, 72, 73, 74]
abbrev mO_X12_draw : List (Nat × Int) := [(51, 0), (51, 2), (51, 3), (51, 7), (51, 8), (51, 10), (51, 15), (51, 16), (51, 17), (51, 18), (51, 19), (51, 22), (51, 27), (51, 34)]
set_option maxHeartbeats 4000000 in
set_option maxRecDepth 20000 in
theorem W_J_X12_draw_43 {S : HS} (w_S : WR shF S) : zW mA_X12_draw mO_X12_draw rng S (J_X12_draw_43 S) := by
  unfold J_X12_draw_43
  refine zW_ite ?_ ?_
  · refine zW_upO w_S sw_51 (by decide) (zrl rfl) (fun S9 w_S9 => ?_)
    refine zW_upO w_S9 sw_51 (by decide) (zrl rfl) (fun S10 w_S10 => ?_)
    refine zW_zb (W_M_X12_draws _ (zrl rfl) (w_S10 51 _ sw_51 10) (zrl rfl) (zrl rfl) (zrl rfl) w_S10) (by decide) (by decide) (fun _ S12 _ w_S12 => ?_)
    refine zW_ite ?_ ?_
    · refine zW_ite ?_ ?_
      · exact zW_ret w_S12 (zrl rfl)
      · refine zW_zg ?_
        refine zW_up w_S12 sw_73 (by decide) (w_S 51 _ sw_51 22) (fun S16 w_S16 => ?_)
        refine zW_zg ?_
        refine zW_up w_S16 sw_74 (by decide) (w_S 51 _ sw_51 27) (fun S18 w_S18 => ?_)
        refine zW_zl (fun x19 r_x19 => ?_)
        refine zW_upO w_S18 sw_51 (by decide) r_x19 (fun S20 w_S20 => ?_)
        exact zW_ret w_S20 (zrl rfl)
    · refine zW_zb (W_M_X12_forgets (w_S 51 _ sw_51 22) (w_S 51 _ sw_51 27) w_S12) (by decide) (by decide) (fun _ S22 _ w_S22 => ?_)
      refine zW_zl (fun x23 r_x23 => ?_)
      exact zW_ret w_S22 r_x23
  · exact zW_ret w_S (w_S 51 _ sw_51 8)
set_option maxHeartbeats 4000000 in
set_option maxRecDepth 20000 in
theorem W_M_X12_draw {S : HS} (w_S : WR shF S) : zW mA_X12_draw mO_X12_draw rng S (M_X12_draw S) := by
  unfold M_X12_draw
  refine zW_upO w_S sw_51 (by decide) (zrl rfl) (fun S1 w_S1 => ?_)
  refine zW_zb (W_M_X12_cutAll w_S1) (by decide) (by decide) (fun _ S3 _ w_S3 => ?_)
  refine zW_upO w_S3 sw_51 (by decide) (zrl rfl) (fun S4 w_S4 => ?_)
  refine zW_zb (W_M_X12_readSteps _ (zrl rfl) w_S4) (by decide) (by decide) (fun _ S6 _ w_S6 => ?_)
  refine zW_ite ?_ ?_
  · refine zW_zg ?_
    refine zW_ite ?_ ?_
    · exact W_J_X12_draw_43 w_S6
    · refine zW_zb (W_M_X12_wrong (zrl rfl) w_S6) (by decide) (by decide) (fun _ S27 _ w_S27 => ?_)
      exact W_J_X12_draw_43 w_S27
  · exact W_J_X12_draw_43 w_S6
abbrev mA_X12_timesAdded : List Nat := []
abbrev mO_X12_timesAdded : List (Nat × Int) := []
set_option maxHeartbeats 4000000 in
set_option maxRecDepth 20000 in
theorem W_J_X12_timesAdded_28 {k4 : Int → Int → HS → zO2} {v1 : Int} {v3 : Int} {t0 : Int} {t1 : Int} {S : HS} (hk4 : ∀ (w0 w1 : Int) (S : HS), rng w0 → rng w1 → WR shF S → zW mA_X12_timesAdded mO_X12_timesAdded rng S (k4 w0 w1 S)) (r_v1 : rng v1) (r_v3 : rng v3) (r_t0 : rng t0) (r_t1 : rng t1) (w_S : WR shF S) : zW mA_X12_timesAdded mO_X12_timesAdded rng S (J_X12_timesAdded_28 k4 v1 v3 t0 t1 S) := by
  unfold J_X12_timesAdded_28
  refine zW_zl (fun x4 r_x4 => ?_)
  refine zW_zl (fun x5 r_x5 => ?_)
  exact hk4 _ _ _ r_x4 r_x5 w_S
set_option maxHeartbeats 4000000 in
set_option maxRecDepth 20000 in
theorem W_L_X12_timesAdded_4 {p1 : Int} (r_p1 : rng p1) : ∀ (n : Nat) {v2 : Int} {v3 : Int} {S : HS}, rng v2 → rng v3 → WR shF S → zW mA_X12_timesAdded mO_X12_timesAdded rng S (L_X12_timesAdded_4 p1 n v2 v3 S) := by
  intro n
  induction n with
  | zero =>
    intro _ _ _ _ _ _
    exact zW_none
  | succ n ih =>
    intro v2 v3 S r_v2 r_v3 w_S
    rw [L_X12_timesAdded_4.eq_2]
    refine zW_ite ?_ ?_
    · exact zW_ret w_S r_v2
    · refine zW_zg ?_
      refine zW_ite ?_ ?_
      · exact W_J_X12_timesAdded_28 (fun q0_ q1_ T_ r_q0_ r_q1_ w_T_ => ih r_q0_ r_q1_ w_T_) r_p1 r_v3 (zrl rfl) r_v2 w_S
      · exact W_J_X12_timesAdded_28 (fun q0_ q1_ T_ r_q0_ r_q1_ w_T_ => ih r_q0_ r_q1_ w_T_) r_p1 r_v3 (zrl rfl) r_v2 w_S
set_option maxHeartbeats 4000000 in
set_option maxRecDepth 20000 in
theorem W_M_X12_timesAdded {a1 : Int} {S : HS} (r_a1 : rng a1) (w_S : WR shF S) : zW mA_X12_timesAdded mO_X12_timesAdded rng S (M_X12_timesAdded a1 S) := by
  unfold M_X12_timesAdded
  exact W_L_X12_timesAdded_4 r_a1 _ (zrl rfl) (zrl rfl) w_S
abbrev mA_X12_takeBack : List Nat := [63, 64, 68]
abbrev mO_X12_takeBack : List (Nat × Int) := [(51, 0), (51, 22), (51, 27), (51, 34)]
set_option maxHeartbeats 4000000 in
set_option maxRecDepth 20000 in
theorem W_L_X12_takeBack_40 {k73 : HS → zO2} {p1 : Int} {p2 : Int} (hk73 : ∀ (S : HS), WR shF S → zW mA_X12_takeBack mO_X12_takeBack rng S (k73 S)) (r_p1 : rng p1) (r_p2 : rng p2) : ∀ (n : Nat) {v3 : Int} {S : HS}, rng v3 → WR shF S → zW mA_X12_takeBack mO_X12_takeBack rng S (L_X12_takeBack_40 k73 p1 p2 n v3 S) := by
  intro n
  induction n with
  | zero =>
    intro _ _ _ _
    exact zW_none
  | succ n ih =>
    intro v3 S r_v3 w_S
    rw [L_X12_takeBack_40.eq_2]
    refine zW_ite ?_ ?_
    · exact hk73 _ w_S
    · refine zW_zg ?_
      refine zW_ite ?_ ?_
      · exact zW_ret w_S (zrl rfl)
      · refine zW_zb (W_M_X12_timesAdded r_v3 w_S) (by decide) (by decide) (fun r8 S9 r_r8 w_S9 => ?_)
        refine zW_ite ?_ ?_
        · refine zW_zl (fun x11 r_x11 => ?_)
          exact ih r_x11 w_S9
        · exact zW_ret w_S9 (zrl rfl)
set_option maxHeartbeats 4000000 in
set_option maxRecDepth 20000 in
theorem W_M_X12_takeBack {S : HS} (w_S : WR shF S) : zW mA_X12_takeBack mO_X12_takeBack rng S (M_X12_takeBack S) := by
  unfold M_X12_takeBack
  refine zW_upO w_S sw_51 (by decide) (zrl rfl) (fun S1 w_S1 => ?_)
  refine zW_ite ?_ ?_
  · exact zW_ret w_S1 (zrl rfl)
  · refine zW_zg ?_
    refine zW_zg ?_
    exact W_L_X12_takeBack_40 (fun S12  w_S12 => by
            refine zW_zl (fun x13 r_x13 => ?_)
            refine zW_zb (W_M_X12_forgets (w_S1 73 _ sw_73 ( ( S1 51 34 ) - 1 )) (w_S1 74 _ sw_74 ( ( S1 51 34 ) - 1 )) w_S12) (by decide) (by decide) (fun _ S15 _ w_S15 => ?_)
            refine zW_zl (fun x16 r_x16 => ?_)
            refine zW_upO w_S15 sw_51 (by decide) r_x16 (fun S17 w_S17 => ?_)
            exact zW_ret w_S17 r_x13) (w_S1 73 _ sw_73 ( ( S1 51 34 ) - 1 )) (w_S1 74 _ sw_74 ( ( S1 51 34 ) - 1 )) _ (w_S1 74 _ sw_74 ( ( S1 51 34 ) - 1 )) w_S1
abbrev mA_X12_mayTell : List Nat := []
abbrev mO_X12_mayTell : List (Nat × Int) := []
set_option maxHeartbeats 4000000 in
set_option maxRecDepth 20000 in
theorem W_M_X12_mayTell {S : HS} (w_S : WR shF S) : zW mA_X12_mayTell mO_X12_mayTell rng S (M_X12_mayTell S) := by
  unfold M_X12_mayTell
  refine zW_ite ?_ ?_
  · refine zW_ite ?_ ?_
    · refine zW_ite ?_ ?_
      · exact zW_ret w_S (zrl rfl)
      · exact zW_ret w_S (zrl rfl)
    · exact zW_ret w_S (zrl rfl)
  · exact zW_ret w_S (zrl rfl)
abbrev mA_X12_cell : List Nat := [67]
abbrev mO_X12_cell : List (Nat × Int) := [(51, 0)]
set_option maxHeartbeats 4000000 in
set_option maxRecDepth 20000 in
theorem W_M_X12_cell {a1 : Int} {a2 : Int} {a3 : Int} {S : HS} (r_a1 : rng a1) (r_a2 : rng a2) (r_a3 : rng a3) (w_S : WR shF S) : zW mA_X12_cell mO_X12_cell rng S (M_X12_cell a1 a2 a3 S) := by
  unfold M_X12_cell
  refine zW_upO w_S sw_51 (by decide) (zrl rfl) (fun S1 w_S1 => ?_)
  refine zW_zb (W_M_X12_isCell r_a1 r_a2 w_S1) (by decide) (by decide) (fun r2 S3 r_r2 w_S3 => ?_)
  refine zW_ite ?_ ?_
  · exact zW_ret w_S3 (zrl rfl)
  · refine zW_ite ?_ ?_
    · exact zW_ret w_S3 (zrl rfl)
    · refine zW_ite ?_ ?_
      · exact zW_ret w_S3 (zrl rfl)
      · refine zW_zb (W_M_X12_mayTell w_S3) (by decide) (by decide) (fun r7 S8 r_r7 w_S8 => ?_)
        refine zW_ite ?_ ?_
        · exact zW_ret w_S8 (zrl rfl)
        · refine zW_zg ?_
          refine zW_up w_S8 sw_67 (by decide) r_a3 (fun S11 w_S11 => ?_)
          exact zW_ret w_S11 (zrl rfl)
abbrev mA_X12_length : List Nat := []
abbrev mO_X12_length : List (Nat × Int) := [(51, 0), (51, 37)]
set_option maxHeartbeats 4000000 in
set_option maxRecDepth 20000 in
theorem W_M_X12_length {a1 : Int} {S : HS} (r_a1 : rng a1) (w_S : WR shF S) : zW mA_X12_length mO_X12_length rng S (M_X12_length a1 S) := by
  unfold M_X12_length
  refine zW_upO w_S sw_51 (by decide) (zrl rfl) (fun S1 w_S1 => ?_)
  refine zW_ite ?_ ?_
  · exact zW_ret w_S1 (zrl rfl)
  · refine zW_ite ?_ ?_
    · exact zW_ret w_S1 (zrl rfl)
    · refine zW_zb (W_M_X12_mayTell w_S1) (by decide) (by decide) (fun r4 S5 r_r4 w_S5 => ?_)
      refine zW_ite ?_ ?_
      · exact zW_ret w_S5 (zrl rfl)
      · refine zW_upO w_S5 sw_51 (by decide) r_a1 (fun S7 w_S7 => ?_)
        exact zW_ret w_S7 (zrl rfl)
abbrev mA_X12_stepX : List Nat := []
abbrev mO_X12_stepX : List (Nat × Int) := []
set_option maxHeartbeats 4000000 in
set_option maxRecDepth 20000 in
theorem W_M_X12_stepX {a1 : Int} {S : HS} (r_a1 : rng a1) (w_S : WR shF S) : zW mA_X12_stepX mO_X12_stepX rng S (M_X12_stepX a1 S) := by
  unfold M_X12_stepX
  refine zW_ite ?_ ?_
  · exact zW_ret w_S (zrl rfl)
  · refine zW_ite ?_ ?_
    · exact zW_ret w_S (zrl rfl)
    · exact zW_ret w_S (zrl rfl)
abbrev mA_X12_stepY : List Nat := []
abbrev mO_X12_stepY : List (Nat × Int) := []
set_option maxHeartbeats 4000000 in
set_option maxRecDepth 20000 in
theorem W_M_X12_stepY {a1 : Int} {S : HS} (r_a1 : rng a1) (w_S : WR shF S) : zW mA_X12_stepY mO_X12_stepY rng S (M_X12_stepY a1 S) := by
  unfold M_X12_stepY
  refine zW_ite ?_ ?_
  · exact zW_ret w_S (zrl rfl)
  · refine zW_ite ?_ ?_
    · exact zW_ret w_S (zrl rfl)
    · exact zW_ret w_S (zrl rfl)
abbrev mA_X12_beside : List Nat := []
abbrev mO_X12_beside : List (Nat × Int) := []
set_option maxHeartbeats 4000000 in
set_option maxRecDepth 20000 in
theorem W_M_X12_beside {a1 : Int} {a2 : Int} {S : HS} (r_a1 : rng a1) (r_a2 : rng a2) (w_S : WR shF S) : zW mA_X12_beside mO_X12_beside rng S (M_X12_beside a1 a2 S) := by
  unfold M_X12_beside
  refine zW_zg ?_
  refine zW_zl (fun x2 r_x2 => ?_)
  refine zW_zg ?_
  refine zW_zl (fun x4 r_x4 => ?_)
  refine zW_zb (W_M_X12_stepX r_a2 w_S) (by decide) (by decide) (fun r5 S6 r_r5 w_S6 => ?_)
  refine zW_zl (fun x7 r_x7 => ?_)
  refine zW_zb (W_M_X12_stepY r_a2 w_S6) (by decide) (by decide) (fun r8 S9 r_r8 w_S9 => ?_)
  refine zW_zl (fun x10 r_x10 => ?_)
  refine zW_zb (W_M_X12_isScalp r_x7 r_x10 w_S9) (by decide) (by decide) (fun r11 S12 r_r11 w_S12 => ?_)
  refine zW_ite ?_ ?_
  · exact zW_ret w_S12 (zrl rfl)
  · refine zW_zb (W_M_X12_isParted r_x2 r_x4 r_x7 r_x10 w_S12) (by decide) (by decide) (fun r14 S15 r_r14 w_S15 => ?_)
    refine zW_ite ?_ ?_
    · refine zW_zl (fun x17 r_x17 => ?_)
      exact zW_ret w_S15 r_x17
    · exact zW_ret w_S15 (zrl rfl)
abbrev mA_X12_spreads : List Nat := [75, 76]
abbrev mO_X12_spreads : List (Nat × Int) := []
set_option maxHeartbeats 4000000 in
set_option maxRecDepth 20000 in
theorem W_J_X12_spreads_80 {k26 : Int → Int → HS → zO2} {v1 : Int} {v2 : Int} {v3 : Int} {v4 : Int} {S : HS} (hk26 : ∀ (w0 w1 : Int) (S : HS), rng w0 → rng w1 → WR shF S → zW mA_X12_spreads mO_X12_spreads rng S (k26 w0 w1 S)) (r_v1 : rng v1) (r_v2 : rng v2) (r_v3 : rng v3) (r_v4 : rng v4) (w_S : WR shF S) : zW mA_X12_spreads mO_X12_spreads rng S (J_X12_spreads_80 k26 v1 v2 v3 v4 S) := by
  unfold J_X12_spreads_80
  refine zW_zl (fun x10 r_x10 => ?_)
  exact hk26 _ _ _ r_v2 r_x10 w_S
set_option maxHeartbeats 4000000 in
set_option maxRecDepth 20000 in
theorem W_L_X12_spreads_26 {k86 : Int → HS → zO2} {p1 : Int} {p3 : Int} (hk86 : ∀ (w0 : Int) (S : HS), rng w0 → WR shF S → zW mA_X12_spreads mO_X12_spreads rng S (k86 w0 S)) (r_p1 : rng p1) (r_p3 : rng p3) : ∀ (n : Nat) {v2 : Int} {v4 : Int} {S : HS}, rng v2 → rng v4 → WR shF S → zW mA_X12_spreads mO_X12_spreads rng S (L_X12_spreads_26 k86 p1 p3 n v2 v4 S) := by
  intro n
  induction n with
  | zero =>
    intro _ _ _ _ _ _
    exact zW_none
  | succ n ih =>
    intro v2 v4 S r_v2 r_v4 w_S
    rw [L_X12_spreads_26.eq_2]
    refine zW_ite ?_ ?_
    · exact hk86 _ _ r_v2 w_S
    · refine zW_zg ?_
      refine zW_zb (W_M_X12_beside (w_S 76 _ sw_76 p3) r_v4 w_S) (by decide) (by decide) (fun r7 S8 r_r7 w_S8 => ?_)
      refine zW_ite ?_ ?_
      · exact W_J_X12_spreads_80 (fun q0_ q1_ T_ r_q0_ r_q1_ w_T_ => ih r_q0_ r_q1_ w_T_) r_p1 r_v2 r_p3 r_v4 w_S8
      · refine zW_zg ?_
        refine zW_ite ?_ ?_
        · exact W_J_X12_spreads_80 (fun q0_ q1_ T_ r_q0_ r_q1_ w_T_ => ih r_q0_ r_q1_ w_T_) r_p1 r_v2 r_p3 r_v4 w_S8
        · refine zW_zg ?_
          refine zW_up w_S8 sw_75 (by decide) r_p1 (fun S14 w_S14 => ?_)
          refine zW_zg ?_
          refine zW_up w_S14 sw_76 (by decide) r_r7 (fun S16 w_S16 => ?_)
          refine zW_zl (fun x17 r_x17 => ?_)
          exact W_J_X12_spreads_80 (fun q0_ q1_ T_ r_q0_ r_q1_ w_T_ => ih r_q0_ r_q1_ w_T_) r_p1 r_x17 r_p3 r_v4 w_S16
set_option maxHeartbeats 4000000 in
set_option maxRecDepth 20000 in
theorem W_L_X12_spreads_18 {p1 : Int} (r_p1 : rng p1) : ∀ (n : Nat) {v2 : Int} {v3 : Int} {S : HS}, rng v2 → rng v3 → WR shF S → zW mA_X12_spreads mO_X12_spreads rng S (L_X12_spreads_18 p1 n v2 v3 S) := by
  intro n
  induction n with
  | zero =>
    intro _ _ _ _ _ _
    exact zW_none
  | succ n ih =>
    intro v2 v3 S r_v2 r_v3 w_S
    rw [L_X12_spreads_18.eq_2]
    refine zW_ite ?_ ?_
    · exact zW_ret w_S (zrl rfl)
    · exact W_L_X12_spreads_26 (fun e2 S18 r_e2 w_S18 => by
            refine zW_zl (fun x19 r_x19 => ?_)
            exact ih r_e2 r_x19 w_S18) r_p1 r_v3 _ r_v2 (zrl rfl) w_S
set_option maxHeartbeats 4000000 in
set_option maxRecDepth 20000 in
theorem W_M_X12_spreads {a1 : Int} {S : HS} (r_a1 : rng a1) (w_S : WR shF S) : zW mA_X12_spreads mO_X12_spreads rng S (M_X12_spreads a1 S) := by
  unfold M_X12_spreads
  refine zW_up w_S sw_76 (by decide) r_a1 (fun S1 w_S1 => ?_)
  refine zW_zg ?_
  refine zW_up w_S1 sw_75 (by decide) r_a1 (fun S3 w_S3 => ?_)
  exact W_L_X12_spreads_18 r_a1 _ (zrl rfl) (zrl rfl) w_S3
abbrev mA_X12_findRegions : List Nat := [75, 76]
abbrev mO_X12_findRegions : List (Nat × Int) := []
set_option maxHeartbeats 4000000 in
set_option maxRecDepth 20000 in
theorem W_L_X12_findRegions_2 {k22 : HS → zO2} (hk22 : ∀ (S : HS), WR shF S → zW mA_X12_findRegions mO_X12_findRegions rng S (k22 S)) : ∀ (n : Nat) {v1 : Int} {S : HS}, rng v1 → WR shF S → zW mA_X12_findRegions mO_X12_findRegions rng S (L_X12_findRegions_2 k22 n v1 S) := by
  intro n
  induction n with
  | zero =>
    intro _ _ _ _
    exact zW_none
  | succ n ih =>
    intro v1 S r_v1 w_S
    rw [L_X12_findRegions_2.eq_2]
    refine zW_ite ?_ ?_
    · exact hk22 _ w_S
    · refine zW_zg ?_
      refine zW_up w_S sw_75 (by decide) (zrl rfl) (fun S3 w_S3 => ?_)
      refine zW_zl (fun x4 r_x4 => ?_)
      exact ih r_x4 w_S3
set_option maxHeartbeats 4000000 in
set_option maxRecDepth 20000 in
theorem W_J_X12_findRegions_59 {k26 : Int → Int → HS → zO2} {v1 : Int} {v2 : Int} {S : HS} (hk26 : ∀ (w0 w1 : Int) (S : HS), rng w0 → rng w1 → WR shF S → zW mA_X12_findRegions mO_X12_findRegions rng S (k26 w0 w1 S)) (r_v1 : rng v1) (r_v2 : rng v2) (w_S : WR shF S) : zW mA_X12_findRegions mO_X12_findRegions rng S (J_X12_findRegions_59 k26 v1 v2 S) := by
  unfold J_X12_findRegions_59
  refine zW_zl (fun x9 r_x9 => ?_)
  exact hk26 _ _ _ r_v1 r_x9 w_S
set_option maxHeartbeats 4000000 in
set_option maxRecDepth 20000 in
theorem W_L_X12_findRegions_26   : ∀ (n : Nat) {v1 : Int} {v2 : Int} {S : HS}, rng v1 → rng v2 → WR shF S → zW mA_X12_findRegions mO_X12_findRegions rng S (L_X12_findRegions_26  n v1 v2 S) := by
  intro n
  induction n with
  | zero =>
    intro _ _ _ _ _ _
    exact zW_none
  | succ n ih =>
    intro v1 v2 S r_v1 r_v2 w_S
    rw [L_X12_findRegions_26.eq_2]
    refine zW_ite ?_ ?_
    · exact zW_ret w_S r_v1
    · refine zW_zg ?_
      refine zW_ite ?_ ?_
      · exact W_J_X12_findRegions_59 (fun q0_ q1_ T_ r_q0_ r_q1_ w_T_ => ih r_q0_ r_q1_ w_T_) r_v1 r_v2 w_S
      · refine zW_zg ?_
        refine zW_ite ?_ ?_
        · exact W_J_X12_findRegions_59 (fun q0_ q1_ T_ r_q0_ r_q1_ w_T_ => ih r_q0_ r_q1_ w_T_) r_v1 r_v2 w_S
        · refine zW_zb (W_M_X12_spreads r_v2 w_S) (by decide) (by decide) (fun _ S13 _ w_S13 => ?_)
          refine zW_zl (fun x14 r_x14 => ?_)
          exact W_J_X12_findRegions_59 (fun q0_ q1_ T_ r_q0_ r_q1_ w_T_ => ih r_q0_ r_q1_ w_T_) r_x14 r_v2 w_S13
set_option maxHeartbeats 4000000 in
set_option maxRecDepth 20000 in
theorem W_M_X12_findRegions {S : HS} (w_S : WR shF S) : zW mA_X12_findRegions mO_X12_findRegions rng S (M_X12_findRegions S) := by
  unfold M_X12_findRegions
  exact W_L_X12_findRegions_2 (fun S5  w_S5 => by
          exact W_L_X12_findRegions_26 _ (zrl rfl) (zrl rfl) w_S5) _ (zrl rfl) w_S
abbrev mA_X12_region : List Nat := [75, 76]
abbrev mO_X12_region : List (Nat × Int) := [(51, 0)]
set_option maxHeartbeats 4000000 in
set_option maxRecDepth 20000 in
theorem W_M_X12_region {a1 : Int} {a2 : Int} {S : HS} (r_a1 : rng a1) (r_a2 : rng a2) (w_S : WR shF S) : zW mA_X12_region mO_X12_region rng S (M_X12_region a1 a2 S) := by
  unfold M_X12_region
  refine zW_upO w_S sw_51 (by decide) (zrl rfl) (fun S1 w_S1 => ?_)
  refine zW_zb (W_M_X12_isScalp r_a1 r_a2 w_S1) (by decide) (by decide) (fun r2 S3 r_r2 w_S3 => ?_)
  refine zW_ite ?_ ?_
  · exact zW_ret w_S3 (zrl rfl)
  · refine zW_zb (W_M_X12_findRegions w_S3) (by decide) (by decide) (fun r5 S6 r_r5 w_S6 => ?_)
    refine zW_zg ?_
    exact zW_ret w_S6 (w_S6 75 _ sw_75 ( ( 16 * a2 ) + a1 ))
abbrev mA_X12_nearestBy : List Nat := []
abbrev mO_X12_nearestBy : List (Nat × Int) := []
set_option maxHeartbeats 4000000 in
set_option maxRecDepth 20000 in
theorem W_J_X12_nearestBy_59 {k5 : Int → Int → HS → zO2} {v1 : Int} {v2 : Int} {v3 : Int} {v4 : Int} {S : HS} (hk5 : ∀ (w0 w1 : Int) (S : HS), rng w0 → rng w1 → WR shF S → zW mA_X12_nearestBy mO_X12_nearestBy rng S (k5 w0 w1 S)) (r_v1 : rng v1) (r_v2 : rng v2) (r_v3 : rng v3) (r_v4 : rng v4) (w_S : WR shF S) : zW mA_X12_nearestBy mO_X12_nearestBy rng S (J_X12_nearestBy_59 k5 v1 v2 v3 v4 S) := by
  unfold J_X12_nearestBy_59
  refine zW_zl (fun x5 r_x5 => ?_)
  exact hk5 _ _ _ r_v3 r_x5 w_S
set_option maxHeartbeats 4000000 in
set_option maxRecDepth 20000 in
theorem W_J_X12_nearestBy_51 {k5 : Int → Int → HS → zO2} {v1 : Int} {v2 : Int} {v4 : Int} {v5 : Int} {S : HS} (hk5 : ∀ (w0 w1 : Int) (S : HS), rng w0 → rng w1 → WR shF S → zW mA_X12_nearestBy mO_X12_nearestBy rng S (k5 w0 w1 S)) (r_v1 : rng v1) (r_v2 : rng v2) (r_v4 : rng v4) (r_v5 : rng v5) (w_S : WR shF S) : zW mA_X12_nearestBy mO_X12_nearestBy rng S (J_X12_nearestBy_51 k5 v1 v2 v4 v5 S) := by
  unfold J_X12_nearestBy_51
  refine zW_zg ?_
  exact W_J_X12_nearestBy_59 hk5 r_v1 r_v2 (w_S 77 _ sw_77 v5) r_v4 w_S
set_option maxHeartbeats 4000000 in
set_option maxRecDepth 20000 in
theorem W_L_X12_nearestBy_5 {p1 : Int} {p2 : Int} (r_p1 : rng p1) (r_p2 : rng p2) : ∀ (n : Nat) {v3 : Int} {v4 : Int} {S : HS}, rng v3 → rng v4 → WR shF S → zW mA_X12_nearestBy mO_X12_nearestBy rng S (L_X12_nearestBy_5 p1 p2 n v3 v4 S) := by
  intro n
  induction n with
  | zero =>
    intro _ _ _ _ _ _
    exact zW_none
  | succ n ih =>
    intro v3 v4 S r_v3 r_v4 w_S
    rw [L_X12_nearestBy_5.eq_2]
    refine zW_ite ?_ ?_
    · exact zW_ret w_S r_v3
    · refine zW_zb (W_M_X12_beside r_p1 r_v4 w_S) (by decide) (by decide) (fun r2 S3 r_r2 w_S3 => ?_)
      refine zW_ite ?_ ?_
      · exact W_J_X12_nearestBy_59 (fun q0_ q1_ T_ r_q0_ r_q1_ w_T_ => ih r_q0_ r_q1_ w_T_) r_p1 r_p2 r_v3 r_v4 w_S3
      · refine zW_zg ?_
        refine zW_ite ?_ ?_
        · refine zW_ite ?_ ?_
          · exact W_J_X12_nearestBy_51 (fun q0_ q1_ T_ r_q0_ r_q1_ w_T_ => ih r_q0_ r_q1_ w_T_) r_p1 r_p2 r_v4 r_r2 w_S3
          · refine zW_zg ?_
            refine zW_ite ?_ ?_
            · exact W_J_X12_nearestBy_59 (fun q0_ q1_ T_ r_q0_ r_q1_ w_T_ => ih r_q0_ r_q1_ w_T_) r_p1 r_p2 r_v3 r_v4 w_S3
            · exact W_J_X12_nearestBy_51 (fun q0_ q1_ T_ r_q0_ r_q1_ w_T_ => ih r_q0_ r_q1_ w_T_) r_p1 r_p2 r_v4 r_r2 w_S3
        · exact W_J_X12_nearestBy_59 (fun q0_ q1_ T_ r_q0_ r_q1_ w_T_ => ih r_q0_ r_q1_ w_T_) r_p1 r_p2 r_v3 r_v4 w_S3
set_option maxHeartbeats 4000000 in
set_option maxRecDepth 20000 in
theorem W_M_X12_nearestBy {a1 : Int} {a2 : Int} {S : HS} (r_a1 : rng a1) (r_a2 : rng a2) (w_S : WR shF S) : zW mA_X12_nearestBy mO_X12_nearestBy rng S (M_X12_nearestBy a1 a2 S) := by
  unfold M_X12_nearestBy
  exact W_L_X12_nearestBy_5 r_a1 r_a2 _ (zrl rfl) (zrl rfl) w_S
abbrev mA_X12_findTaken : List Nat := [77, 78]
abbrev mO_X12_findTaken : List (Nat × Int) := []
set_option maxHeartbeats 4000000 in
set_option maxRecDepth 20000 in
theorem W_J_X12_findTaken_36 {k2 : Int → HS → zO2} {v1 : Int} {t0 : Int} {t1 : Int} {S : HS} (hk2 : ∀ (w0 : Int) (S : HS), rng w0 → WR shF S → zW mA_X12_findTaken mO_X12_findTaken rng S (k2 w0 S)) (r_v1 : rng v1) (r_t0 : rng t0) (r_t1 : rng t1) (w_S : WR shF S) : zW mA_X12_findTaken mO_X12_findTaken rng S (J_X12_findTaken_36 k2 v1 t0 t1 S) := by
  unfold J_X12_findTaken_36
  refine zW_zg ?_
  refine zW_up w_S sw_78 (by decide) r_t0 (fun S7 w_S7 => ?_)
  refine zW_zl (fun x8 r_x8 => ?_)
  exact hk2 _ _ r_x8 w_S7
set_option maxHeartbeats 4000000 in
set_option maxRecDepth 20000 in
theorem W_L_X12_findTaken_2 {k43 : HS → zO2} (hk43 : ∀ (S : HS), WR shF S → zW mA_X12_findTaken mO_X12_findTaken rng S (k43 S)) : ∀ (n : Nat) {v1 : Int} {S : HS}, rng v1 → WR shF S → zW mA_X12_findTaken mO_X12_findTaken rng S (L_X12_findTaken_2 k43 n v1 S) := by
  intro n
  induction n with
  | zero =>
    intro _ _ _ _
    exact zW_none
  | succ n ih =>
    intro v1 S r_v1 w_S
    rw [L_X12_findTaken_2.eq_2]
    refine zW_ite ?_ ?_
    · exact hk43 _ w_S
    · refine zW_zg ?_
      refine zW_up w_S sw_77 (by decide) (zrl rfl) (fun S3 w_S3 => ?_)
      refine zW_zg ?_
      refine zW_ite ?_ ?_
      · exact W_J_X12_findTaken_36 (fun q0_ T_ r_q0_ w_T_ => ih r_q0_ w_T_) r_v1 (zrl rfl) r_v1 w_S3
      · exact W_J_X12_findTaken_36 (fun q0_ T_ r_q0_ w_T_ => ih r_q0_ w_T_) r_v1 (zrl rfl) r_v1 w_S3
set_option maxHeartbeats 4000000 in
set_option maxRecDepth 20000 in
theorem W_L_X12_findTaken_55 {k95 : HS → zO2} {p1 : Int} (hk95 : ∀ (S : HS), WR shF S → zW mA_X12_findTaken mO_X12_findTaken rng S (k95 S)) (r_p1 : rng p1) : ∀ (n : Nat) {v2 : Int} {S : HS}, rng v2 → WR shF S → zW mA_X12_findTaken mO_X12_findTaken rng S (L_X12_findTaken_55 k95 p1 n v2 S) := by
  intro n
  induction n with
  | zero =>
    intro _ _ _ _
    exact zW_none
  | succ n ih =>
    intro v2 S r_v2 w_S
    rw [L_X12_findTaken_55.eq_2]
    refine zW_zg ?_
    refine zW_ite ?_ ?_
    · exact hk95 _ w_S
    · refine zW_zg ?_
      refine zW_zl (fun x14 r_x14 => ?_)
      refine zW_zg ?_
      refine zW_up w_S sw_77 (by decide) r_x14 (fun S16 w_S16 => ?_)
      refine zW_zl (fun x17 r_x17 => ?_)
      exact ih r_x17 w_S16
set_option maxHeartbeats 4000000 in
set_option maxRecDepth 20000 in
theorem W_L_X12_findTaken_45 {k101 : HS → zO2} (hk101 : ∀ (S : HS), WR shF S → zW mA_X12_findTaken mO_X12_findTaken rng S (k101 S)) : ∀ (n : Nat) {v1 : Int} {S : HS}, rng v1 → WR shF S → zW mA_X12_findTaken mO_X12_findTaken rng S (L_X12_findTaken_45 k101 n v1 S) := by
  intro n
  induction n with
  | zero =>
    intro _ _ _ _
    exact zW_none
  | succ n ih =>
    intro v1 S r_v1 w_S
    rw [L_X12_findTaken_45.eq_2]
    refine zW_ite ?_ ?_
    · exact hk101 _ w_S
    · exact W_L_X12_findTaken_55 (fun S18  w_S18 => by
            refine zW_zl (fun x19 r_x19 => ?_)
            exact ih r_x19 w_S18) r_v1 _ (zrl rfl) w_S
set_option maxHeartbeats 4000000 in
set_option maxRecDepth 20000 in
theorem W_J_X12_findTaken_171 {k113 : Int → Int → HS → zO2} {v1 : Int} {v2 : Int} {v3 : Int} {S : HS} (hk113 : ∀ (w0 w1 : Int) (S : HS), rng w0 → rng w1 → WR shF S → zW mA_X12_findTaken mO_X12_findTaken rng S (k113 w0 w1 S)) (r_v1 : rng v1) (r_v2 : rng v2) (r_v3 : rng v3) (w_S : WR shF S) : zW mA_X12_findTaken mO_X12_findTaken rng S (J_X12_findTaken_171 k113 v1 v2 v3 S) := by
  unfold J_X12_findTaken_171
  refine zW_zl (fun x25 r_x25 => ?_)
  exact hk113 _ _ _ r_v1 r_x25 w_S
set_option maxHeartbeats 4000000 in
set_option maxRecDepth 20000 in
theorem W_L_X12_findTaken_113 {k177 : Int → HS → zO2} {p2 : Int} (hk177 : ∀ (w0 : Int) (S : HS), rng w0 → WR shF S → zW mA_X12_findTaken mO_X12_findTaken rng S (k177 w0 S)) (r_p2 : rng p2) : ∀ (n : Nat) {v1 : Int} {v3 : Int} {S : HS}, rng v1 → rng v3 → WR shF S → zW mA_X12_findTaken mO_X12_findTaken rng S (L_X12_findTaken_113 k177 p2 n v1 v3 S) := by
  intro n
  induction n with
  | zero =>
    intro _ _ _ _ _ _
    exact zW_none
  | succ n ih =>
    intro v1 v3 S r_v1 r_v3 w_S
    rw [L_X12_findTaken_113.eq_2]
    refine zW_ite ?_ ?_
    · exact hk177 _ _ r_v1 w_S
    · refine zW_zg ?_
      refine zW_ite ?_ ?_
      · exact W_J_X12_findTaken_171 (fun q0_ q1_ T_ r_q0_ r_q1_ w_T_ => ih r_q0_ r_q1_ w_T_) r_v1 r_p2 r_v3 w_S
      · refine zW_zg ?_
        refine zW_ite ?_ ?_
        · exact W_J_X12_findTaken_171 (fun q0_ q1_ T_ r_q0_ r_q1_ w_T_ => ih r_q0_ r_q1_ w_T_) r_v1 r_p2 r_v3 w_S
        · refine zW_zb (W_M_X12_nearestBy r_v3 r_p2 w_S) (by decide) (by decide) (fun r28 S29 r_r28 w_S29 => ?_)
          refine zW_ite ?_ ?_
          · exact W_J_X12_findTaken_171 (fun q0_ q1_ T_ r_q0_ r_q1_ w_T_ => ih r_q0_ r_q1_ w_T_) r_v1 r_p2 r_v3 w_S29
          · refine zW_zg ?_
            refine zW_up w_S29 sw_77 (by decide) r_r28 (fun S32 w_S32 => ?_)
            refine zW_zl (fun x33 r_x33 => ?_)
            refine zW_zg ?_
            refine zW_up w_S32 sw_78 (by decide) r_x33 (fun S35 w_S35 => ?_)
            exact W_J_X12_findTaken_171 (fun q0_ q1_ T_ r_q0_ r_q1_ w_T_ => ih r_q0_ r_q1_ w_T_) (zrl rfl) r_p2 r_v3 w_S35
set_option maxHeartbeats 4000000 in
set_option maxRecDepth 20000 in
theorem W_J_X12_findTaken_213 {k179 : Int → HS → zO2} {v1 : Int} {v2 : Int} {v3 : Int} {t0 : Int} {t1 : Int} {S : HS} (hk179 : ∀ (w0 : Int) (S : HS), rng w0 → WR shF S → zW mA_X12_findTaken mO_X12_findTaken rng S (k179 w0 S)) (r_v1 : rng v1) (r_v2 : rng v2) (r_v3 : rng v3) (r_t0 : rng t0) (r_t1 : rng t1) (w_S : WR shF S) : zW mA_X12_findTaken mO_X12_findTaken rng S (J_X12_findTaken_213 k179 v1 v2 v3 t0 t1 S) := by
  unfold J_X12_findTaken_213
  refine zW_zg ?_
  refine zW_up w_S sw_78 (by decide) r_t0 (fun S42 w_S42 => ?_)
  refine zW_zl (fun x43 r_x43 => ?_)
  exact hk179 _ _ r_x43 w_S42
set_option maxHeartbeats 4000000 in
set_option maxRecDepth 20000 in
theorem W_L_X12_findTaken_179 {k220 : HS → zO2} {p1 : Int} {p2 : Int} (hk220 : ∀ (S : HS), WR shF S → zW mA_X12_findTaken mO_X12_findTaken rng S (k220 S)) (r_p1 : rng p1) (r_p2 : rng p2) : ∀ (n : Nat) {v3 : Int} {S : HS}, rng v3 → WR shF S → zW mA_X12_findTaken mO_X12_findTaken rng S (L_X12_findTaken_179 k220 p1 p2 n v3 S) := by
  intro n
  induction n with
  | zero =>
    intro _ _ _ _
    exact zW_none
  | succ n ih =>
    intro v3 S r_v3 w_S
    rw [L_X12_findTaken_179.eq_2]
    refine zW_ite ?_ ?_
    · exact hk220 _ w_S
    · refine zW_zg ?_
      refine zW_ite ?_ ?_
      · refine zW_zg ?_
        exact W_J_X12_findTaken_213 (fun q0_ T_ r_q0_ w_T_ => ih r_q0_ w_T_) r_p1 r_p2 r_v3 (w_S 78 _ sw_78 v3) r_v3 w_S
      · refine zW_zl (fun x44 r_x44 => ?_)
        exact W_J_X12_findTaken_213 (fun q0_ T_ r_q0_ w_T_ => ih r_q0_ w_T_) r_p1 r_p2 r_v3 r_x44 r_v3 w_S
set_option maxHeartbeats 4000000 in
set_option maxRecDepth 20000 in
theorem W_L_X12_findTaken_105   : ∀ (n : Nat) {v1 : Int} {v2 : Int} {S : HS}, rng v1 → rng v2 → WR shF S → zW mA_X12_findTaken mO_X12_findTaken rng S (L_X12_findTaken_105  n v1 v2 S) := by
  intro n
  induction n with
  | zero =>
    intro _ _ _ _ _ _
    exact zW_none
  | succ n ih =>
    intro v1 v2 S r_v1 r_v2 w_S
    rw [L_X12_findTaken_105.eq_2]
    refine zW_ite ?_ ?_
    · exact zW_ret w_S (zrl rfl)
    · exact W_L_X12_findTaken_113 (fun e1 S36 r_e1 w_S36 => by
            exact W_L_X12_findTaken_179 (fun S45  w_S45 => by
            refine zW_zl (fun x46 r_x46 => ?_)
            exact ih r_e1 r_x46 w_S45) r_e1 r_v2 _ (zrl rfl) w_S36) r_v2 _ (zrl rfl) (zrl rfl) w_S
set_option maxHeartbeats 4000000 in
set_option maxRecDepth 20000 in
theorem W_M_X12_findTaken {S : HS} (w_S : WR shF S) : zW mA_X12_findTaken mO_X12_findTaken rng S (M_X12_findTaken S) := by
  unfold M_X12_findTaken
  exact W_L_X12_findTaken_2 (fun S9  w_S9 => by
          exact W_L_X12_findTaken_45 (fun S20  w_S20 => by
          exact W_L_X12_findTaken_105 _ (zrl rfl) (zrl rfl) w_S20) _ (zrl rfl) w_S9) _ (zrl rfl) w_S
abbrev mA_X12_taken : List Nat := [77, 78]
abbrev mO_X12_taken : List (Nat × Int) := [(51, 0)]
set_option maxHeartbeats 4000000 in
set_option maxRecDepth 20000 in
theorem W_M_X12_taken {a1 : Int} {a2 : Int} {S : HS} (r_a1 : rng a1) (r_a2 : rng a2) (w_S : WR shF S) : zW mA_X12_taken mO_X12_taken rng S (M_X12_taken a1 a2 S) := by
  unfold M_X12_taken
  refine zW_upO w_S sw_51 (by decide) (zrl rfl) (fun S1 w_S1 => ?_)
  refine zW_zb (W_M_X12_isScalp r_a1 r_a2 w_S1) (by decide) (by decide) (fun r2 S3 r_r2 w_S3 => ?_)
  refine zW_ite ?_ ?_
  · exact zW_ret w_S3 (zrl rfl)
  · refine zW_zb (W_M_X12_findTaken w_S3) (by decide) (by decide) (fun _ S6 _ w_S6 => ?_)
    refine zW_zg ?_
    exact zW_ret w_S6 (w_S6 77 _ sw_77 ( ( 16 * a2 ) + a1 ))
abbrev mA_X12_side : List Nat := []
abbrev mO_X12_side : List (Nat × Int) := [(51, 0)]
set_option maxHeartbeats 4000000 in
set_option maxRecDepth 20000 in
theorem W_J_X12_side_95 {t0 : Int} {S : HS} (r_t0 : rng t0) (w_S : WR shF S) : zW mA_X12_side mO_X12_side rng S (J_X12_side_95 t0 S) := by
  unfold J_X12_side_95
  refine zW_ite ?_ ?_
  · exact zW_ret w_S (zrl rfl)
  · exact zW_ret w_S (zrl rfl)
set_option maxHeartbeats 4000000 in
set_option maxRecDepth 20000 in
theorem W_M_X12_side {a1 : Int} {a2 : Int} {a3 : Int} {S : HS} (r_a1 : rng a1) (r_a2 : rng a2) (r_a3 : rng a3) (w_S : WR shF S) : zW mA_X12_side mO_X12_side rng S (M_X12_side a1 a2 a3 S) := by
  unfold M_X12_side
  refine zW_upO w_S sw_51 (by decide) (zrl rfl) (fun S1 w_S1 => ?_)
  refine zW_zb (W_M_X12_isCell r_a1 r_a2 w_S1) (by decide) (by decide) (fun r2 S3 r_r2 w_S3 => ?_)
  refine zW_ite ?_ ?_
  · exact zW_ret w_S3 (zrl rfl)
  · refine zW_ite ?_ ?_
    · exact zW_ret w_S3 (zrl rfl)
    · refine zW_ite ?_ ?_
      · refine zW_ite ?_ ?_
        · refine zW_zg ?_
          exact W_J_X12_side_95 (w_S3 63 _ sw_63 ( ( 16 * a2 ) + a1 )) w_S3
        · refine zW_ite ?_ ?_
          · refine zW_zg ?_
            exact W_J_X12_side_95 (w_S3 63 _ sw_63 ( ( 16 * ( a2 + 1 ) ) + a1 )) w_S3
          · refine zW_ite ?_ ?_
            · refine zW_zg ?_
              exact W_J_X12_side_95 (w_S3 64 _ sw_64 ( ( 17 * a2 ) + a1 )) w_S3
            · refine zW_zg ?_
              exact W_J_X12_side_95 (w_S3 64 _ sw_64 ( ( ( 17 * a2 ) + a1 ) + 1 )) w_S3
      · exact zW_ret w_S3 (zrl rfl)
abbrev mA_X12_isStepOf : List Nat := []
abbrev mO_X12_isStepOf : List (Nat × Int) := []
set_option maxHeartbeats 4000000 in
set_option maxRecDepth 20000 in
theorem W_M_X12_isStepOf {a1 : Int} {a2 : Int} {S : HS} (r_a1 : rng a1) (r_a2 : rng a2) (w_S : WR shF S) : zW mA_X12_isStepOf mO_X12_isStepOf rng S (M_X12_isStepOf a1 a2 S) := by
  unfold M_X12_isStepOf
  refine zW_ite ?_ ?_
  · exact zW_ret w_S (zrl rfl)
  · refine zW_ite ?_ ?_
    · exact zW_ret w_S (zrl rfl)
    · refine zW_ite ?_ ?_
      · exact zW_ret w_S (zrl rfl)
      · refine zW_zg ?_
        refine zW_ite ?_ ?_
        · exact zW_ret w_S (zrl rfl)
        · exact zW_ret w_S (zrl rfl)
abbrev mA_X12_row : List Nat := []
abbrev mO_X12_row : List (Nat × Int) := [(51, 0)]
set_option maxHeartbeats 4000000 in
set_option maxRecDepth 20000 in
theorem W_M_X12_row {a1 : Int} {a2 : Int} {S : HS} (r_a1 : rng a1) (r_a2 : rng a2) (w_S : WR shF S) : zW mA_X12_row mO_X12_row rng S (M_X12_row a1 a2 S) := by
  unfold M_X12_row
  refine zW_upO w_S sw_51 (by decide) (zrl rfl) (fun S1 w_S1 => ?_)
  refine zW_zb (W_M_X12_isStepOf r_a1 r_a2 w_S1) (by decide) (by decide) (fun r2 S3 r_r2 w_S3 => ?_)
  refine zW_ite ?_ ?_
  · exact zW_ret w_S3 (zrl rfl)
  · refine zW_zg ?_
    exact zW_ret w_S3 (w_S3 70 _ sw_70 ( ( 192 * a1 ) + a2 ))
abbrev mA_X12_added : List Nat := [79, 80, 81, 82]
abbrev mO_X12_added : List (Nat × Int) := [(51, 0), (51, 43)]
set_option maxHeartbeats 4000000 in
set_option maxRecDepth 20000 in
theorem W_M_X12_added {a1 : Int} {a2 : Int} {a3 : Int} {a4 : Int} {S : HS} (r_a1 : rng a1) (r_a2 : rng a2) (r_a3 : rng a3) (r_a4 : rng a4) (w_S : WR shF S) : zW mA_X12_added mO_X12_added rng S (M_X12_added a1 a2 a3 a4 S) := by
  unfold M_X12_added
  refine zW_upO w_S sw_51 (by decide) (zrl rfl) (fun S1 w_S1 => ?_)
  refine zW_zb (W_M_X12_isStepOf r_a1 r_a2 w_S1) (by decide) (by decide) (fun r2 S3 r_r2 w_S3 => ?_)
  refine zW_ite ?_ ?_
  · exact zW_ret w_S3 (zrl rfl)
  · refine zW_ite ?_ ?_
    · exact zW_ret w_S3 (zrl rfl)
    · refine zW_ite ?_ ?_
      · exact zW_ret w_S3 (zrl rfl)
      · refine zW_ite ?_ ?_
        · exact zW_ret w_S3 (zrl rfl)
        · refine zW_ite ?_ ?_
          · exact zW_ret w_S3 (zrl rfl)
          · refine zW_ite ?_ ?_
            · exact zW_ret w_S3 (zrl rfl)
            · refine zW_zg ?_
              refine zW_up w_S3 sw_79 (by decide) r_a1 (fun S11 w_S11 => ?_)
              refine zW_zg ?_
              refine zW_up w_S11 sw_80 (by decide) r_a2 (fun S13 w_S13 => ?_)
              refine zW_zg ?_
              refine zW_up w_S13 sw_81 (by decide) r_a3 (fun S15 w_S15 => ?_)
              refine zW_zg ?_
              refine zW_up w_S15 sw_82 (by decide) r_a4 (fun S17 w_S17 => ?_)
              refine zW_zl (fun x18 r_x18 => ?_)
              refine zW_upO w_S17 sw_51 (by decide) r_x18 (fun S19 w_S19 => ?_)
              exact zW_ret w_S19 (w_S19 51 _ sw_51 43)
abbrev mA_X12_findTotals : List Nat := [77, 78, 83]
abbrev mO_X12_findTotals : List (Nat × Int) := []
set_option maxHeartbeats 4000000 in
set_option maxRecDepth 20000 in
theorem W_L_X12_findTotals_6 {k29 : HS → zO2} {p1 : Int} (hk29 : ∀ (S : HS), WR shF S → zW mA_X12_findTotals mO_X12_findTotals rng S (k29 S)) (r_p1 : rng p1) : ∀ (n : Nat) {v2 : Int} {S : HS}, rng v2 → WR shF S → zW mA_X12_findTotals mO_X12_findTotals rng S (L_X12_findTotals_6 k29 p1 n v2 S) := by
  intro n
  induction n with
  | zero =>
    intro _ _ _ _
    exact zW_none
  | succ n ih =>
    intro v2 S r_v2 w_S
    rw [L_X12_findTotals_6.eq_2]
    refine zW_zg ?_
    refine zW_ite ?_ ?_
    · exact hk29 _ w_S
    · refine zW_zg ?_
      refine zW_up w_S sw_83 (by decide) (zrl rfl) (fun S6 w_S6 => ?_)
      refine zW_zl (fun x7 r_x7 => ?_)
      exact ih r_x7 w_S6
set_option maxHeartbeats 4000000 in
set_option maxRecDepth 20000 in
theorem W_J_X12_findTotals_94 {k31 : Int → HS → zO2} {v1 : Int} {v2 : Int} {S : HS} (hk31 : ∀ (w0 : Int) (S : HS), rng w0 → WR shF S → zW mA_X12_findTotals mO_X12_findTotals rng S (k31 w0 S)) (r_v1 : rng v1) (r_v2 : rng v2) (w_S : WR shF S) : zW mA_X12_findTotals mO_X12_findTotals rng S (J_X12_findTotals_94 k31 v1 v2 S) := by
  unfold J_X12_findTotals_94
  refine zW_zl (fun x12 r_x12 => ?_)
  exact hk31 _ _ r_x12 w_S
set_option maxHeartbeats 4000000 in
set_option maxRecDepth 20000 in
theorem W_L_X12_findTotals_31 {p1 : Int} (r_p1 : rng p1) : ∀ (n : Nat) {v2 : Int} {S : HS}, rng v2 → WR shF S → zW mA_X12_findTotals mO_X12_findTotals rng S (L_X12_findTotals_31 p1 n v2 S) := by
  intro n
  induction n with
  | zero =>
    intro _ _ _ _
    exact zW_none
  | succ n ih =>
    intro v2 S r_v2 w_S
    rw [L_X12_findTotals_31.eq_2]
    refine zW_ite ?_ ?_
    · exact zW_ret w_S (zrl rfl)
    · refine zW_zg ?_
      refine zW_ite ?_ ?_
      · exact W_J_X12_findTotals_94 (fun q0_ T_ r_q0_ w_T_ => ih r_q0_ w_T_) r_p1 r_v2 w_S
      · refine zW_zg ?_
        refine zW_ite ?_ ?_
        · exact W_J_X12_findTotals_94 (fun q0_ T_ r_q0_ w_T_ => ih r_q0_ w_T_) r_p1 r_v2 w_S
        · refine zW_zg ?_
          refine zW_zg ?_
          refine zW_zl (fun x17 r_x17 => ?_)
          refine zW_ite ?_ ?_
          · refine zW_zg ?_
            refine zW_zg ?_
            refine zW_zg ?_
            refine zW_zg ?_
            refine zW_zl (fun x23 r_x23 => ?_)
            refine zW_zg ?_
            refine zW_up w_S sw_83 (by decide) r_x23 (fun S25 w_S25 => ?_)
            exact W_J_X12_findTotals_94 (fun q0_ T_ r_q0_ w_T_ => ih r_q0_ w_T_) r_p1 r_v2 w_S25
          · exact W_J_X12_findTotals_94 (fun q0_ T_ r_q0_ w_T_ => ih r_q0_ w_T_) r_p1 r_v2 w_S
set_option maxHeartbeats 4000000 in
set_option maxRecDepth 20000 in
theorem W_M_X12_findTotals {a1 : Int} {S : HS} (r_a1 : rng a1) (w_S : WR shF S) : zW mA_X12_findTotals mO_X12_findTotals rng S (M_X12_findTotals a1 S) := by
  unfold M_X12_findTotals
  refine zW_zb (W_M_X12_findTaken w_S) (by decide) (by decide) (fun _ S2 _ w_S2 => ?_)
  exact W_L_X12_findTotals_6 (fun S8  w_S8 => by
          exact W_L_X12_findTotals_31 r_a1 _ (zrl rfl) w_S8) r_a1 _ (zrl rfl) w_S2
abbrev mA_X12_addedAt : List Nat := []
abbrev mO_X12_addedAt : List (Nat × Int) := []
set_option maxHeartbeats 4000000 in
set_option maxRecDepth 20000 in
theorem W_J_X12_addedAt_48 {k5 : Int → Int → HS → zO2} {v1 : Int} {v2 : Int} {v4 : Int} {t0 : Int} {t1 : Int} {S : HS} (hk5 : ∀ (w0 w1 : Int) (S : HS), rng w0 → rng w1 → WR shF S → zW mA_X12_addedAt mO_X12_addedAt rng S (k5 w0 w1 S)) (r_v1 : rng v1) (r_v2 : rng v2) (r_v4 : rng v4) (r_t0 : rng t0) (r_t1 : rng t1) (w_S : WR shF S) : zW mA_X12_addedAt mO_X12_addedAt rng S (J_X12_addedAt_48 k5 v1 v2 v4 t0 t1 S) := by
  unfold J_X12_addedAt_48
  refine zW_zl (fun x4 r_x4 => ?_)
  refine zW_zl (fun x5 r_x5 => ?_)
  exact hk5 _ _ _ r_x4 r_x5 w_S
set_option maxHeartbeats 4000000 in
set_option maxRecDepth 20000 in
theorem W_J_X12_addedAt_47 {k5 : Int → Int → HS → zO2} {v1 : Int} {v2 : Int} {v4 : Int} {t0 : Int} {S : HS} (hk5 : ∀ (w0 w1 : Int) (S : HS), rng w0 → rng w1 → WR shF S → zW mA_X12_addedAt mO_X12_addedAt rng S (k5 w0 w1 S)) (r_v1 : rng v1) (r_v2 : rng v2) (r_v4 : rng v4) (r_t0 : rng t0) (w_S : WR shF S) : zW mA_X12_addedAt mO_X12_addedAt rng S (J_X12_addedAt_47 k5 v1 v2 v4 t0 S) := by
  unfold J_X12_addedAt_47
  exact W_J_X12_addedAt_48 hk5 r_v1 r_v2 r_v4 (zrl rfl) r_t0 w_S
set_option maxHeartbeats 4000000 in
set_option maxRecDepth 20000 in
theorem W_L_X12_addedAt_5 {p1 : Int} {p2 : Int} (r_p1 : rng p1) (r_p2 : rng p2) : ∀ (n : Nat) {v3 : Int} {v4 : Int} {S : HS}, rng v3 → rng v4 → WR shF S → zW mA_X12_addedAt mO_X12_addedAt rng S (L_X12_addedAt_5 p1 p2 n v3 v4 S) := by
  intro n
  induction n with
  | zero =>
    intro _ _ _ _ _ _
    exact zW_none
  | succ n ih =>
    intro v3 v4 S r_v3 r_v4 w_S
    rw [L_X12_addedAt_5.eq_2]
    refine zW_ite ?_ ?_
    · exact zW_ret w_S r_v3
    · refine zW_zg ?_
      refine zW_ite ?_ ?_
      · refine zW_zg ?_
        refine zW_ite ?_ ?_
        · refine zW_zg ?_
          exact W_J_X12_addedAt_48 (fun q0_ q1_ T_ r_q0_ r_q1_ w_T_ => ih r_q0_ r_q1_ w_T_) r_p1 r_p2 r_v4 (w_S 81 _ sw_81 v4) r_v3 w_S
        · exact W_J_X12_addedAt_47 (fun q0_ q1_ T_ r_q0_ r_q1_ w_T_ => ih r_q0_ r_q1_ w_T_) r_p1 r_p2 r_v4 r_v3 w_S
      · exact W_J_X12_addedAt_47 (fun q0_ q1_ T_ r_q0_ r_q1_ w_T_ => ih r_q0_ r_q1_ w_T_) r_p1 r_p2 r_v4 r_v3 w_S
set_option maxHeartbeats 4000000 in
set_option maxRecDepth 20000 in
theorem W_M_X12_addedAt {a1 : Int} {a2 : Int} {S : HS} (r_a1 : rng a1) (r_a2 : rng a2) (w_S : WR shF S) : zW mA_X12_addedAt mO_X12_addedAt rng S (M_X12_addedAt a1 a2 S) := by
  unfold M_X12_addedAt
  exact W_L_X12_addedAt_5 r_a1 r_a2 _ (zrl rfl) (zrl rfl) w_S
abbrev mA_X12_swaps : List Nat := [84, 85, 87, 88]
abbrev mO_X12_swaps : List (Nat × Int) := []
set_option maxHeartbeats 4000000 in
set_option maxRecDepth 20000 in
theorem W_J_X12_swaps_100 {k49 : Int → HS → zO2} {v1 : Int} {v2 : Int} {v3 : Int} {v4 : Int} {v6 : Int} {t0 : Int} {t1 : Int} {S : HS} (hk49 : ∀ (w0 : Int) (S : HS), rng w0 → WR shF S → zW mA_X12_swaps mO_X12_swaps rng S (k49 w0 S)) (r_v1 : rng v1) (r_v2 : rng v2) (r_v3 : rng v3) (r_v4 : rng v4) (r_v6 : rng v6) (r_t0 : rng t0) (r_t1 : rng t1) (w_S : WR shF S) : zW mA_X12_swaps mO_X12_swaps rng S (J_X12_swaps_100 k49 v1 v2 v3 v4 v6 t0 t1 S) := by
  unfold J_X12_swaps_100
  refine zW_zg ?_
  refine zW_up w_S sw_85 (by decide) r_t0 (fun S14 w_S14 => ?_)
  refine zW_zl (fun x15 r_x15 => ?_)
  exact hk49 _ _ r_x15 w_S14
set_option maxHeartbeats 4000000 in
set_option maxRecDepth 20000 in
theorem W_L_X12_swaps_49 {k107 : HS → zO2} {p1 : Int} {p2 : Int} {p3 : Int} {p4 : Int} (hk107 : ∀ (S : HS), WR shF S → zW mA_X12_swaps mO_X12_swaps rng S (k107 S)) (r_p1 : rng p1) (r_p2 : rng p2) (r_p3 : rng p3) (r_p4 : rng p4) : ∀ (n : Nat) {v6 : Int} {S : HS}, rng v6 → WR shF S → zW mA_X12_swaps mO_X12_swaps rng S (L_X12_swaps_49 k107 p1 p2 p3 p4 n v6 S) := by
  intro n
  induction n with
  | zero =>
    intro _ _ _ _
    exact zW_none
  | succ n ih =>
    intro v6 S r_v6 w_S
    rw [L_X12_swaps_49.eq_2]
    refine zW_ite ?_ ?_
    · exact hk107 _ w_S
    · refine zW_zg ?_
      refine zW_ite ?_ ?_
      · exact W_J_X12_swaps_100 (fun q0_ T_ r_q0_ w_T_ => ih r_q0_ w_T_) r_p1 r_p2 r_p3 r_p4 r_v6 r_p4 r_v6 w_S
      · refine zW_zg ?_
        refine zW_ite ?_ ?_
        · exact W_J_X12_swaps_100 (fun q0_ T_ r_q0_ w_T_ => ih r_q0_ w_T_) r_p1 r_p2 r_p3 r_p4 r_v6 r_p3 r_v6 w_S
        · refine zW_zg ?_
          exact W_J_X12_swaps_100 (fun q0_ T_ r_q0_ w_T_ => ih r_q0_ w_T_) r_p1 r_p2 r_p3 r_p4 r_v6 (w_S 85 _ sw_85 v6) r_v6 w_S
set_option maxHeartbeats 4000000 in
set_option maxRecDepth 20000 in
theorem W_J_X12_swaps_161 {k110 : Int → HS → zO2} {v1 : Int} {v2 : Int} {v3 : Int} {v4 : Int} {v6 : Int} {t0 : Int} {t1 : Int} {S : HS} (hk110 : ∀ (w0 : Int) (S : HS), rng w0 → WR shF S → zW mA_X12_swaps mO_X12_swaps rng S (k110 w0 S)) (r_v1 : rng v1) (r_v2 : rng v2) (r_v3 : rng v3) (r_v4 : rng v4) (r_v6 : rng v6) (r_t0 : rng t0) (r_t1 : rng t1) (w_S : WR shF S) : zW mA_X12_swaps mO_X12_swaps rng S (J_X12_swaps_161 k110 v1 v2 v3 v4 v6 t0 t1 S) := by
  unfold J_X12_swaps_161
  refine zW_zg ?_
  refine zW_up w_S sw_87 (by decide) r_t0 (fun S24 w_S24 => ?_)
  refine zW_zl (fun x25 r_x25 => ?_)
  exact hk110 _ _ r_x25 w_S24
set_option maxHeartbeats 4000000 in
set_option maxRecDepth 20000 in
theorem W_L_X12_swaps_110 {k168 : HS → zO2} {p1 : Int} {p2 : Int} {p3 : Int} {p4 : Int} (hk168 : ∀ (S : HS), WR shF S → zW mA_X12_swaps mO_X12_swaps rng S (k168 S)) (r_p1 : rng p1) (r_p2 : rng p2) (r_p3 : rng p3) (r_p4 : rng p4) : ∀ (n : Nat) {v6 : Int} {S : HS}, rng v6 → WR shF S → zW mA_X12_swaps mO_X12_swaps rng S (L_X12_swaps_110 k168 p1 p2 p3 p4 n v6 S) := by
  intro n
  induction n with
  | zero =>
    intro _ _ _ _
    exact zW_none
  | succ n ih =>
    intro v6 S r_v6 w_S
    rw [L_X12_swaps_110.eq_2]
    refine zW_ite ?_ ?_
    · exact hk168 _ w_S
    · refine zW_zg ?_
      refine zW_ite ?_ ?_
      · exact W_J_X12_swaps_161 (fun q0_ T_ r_q0_ w_T_ => ih r_q0_ w_T_) r_p1 r_p2 r_p3 r_p4 r_v6 r_p4 r_v6 w_S
      · refine zW_zg ?_
        refine zW_ite ?_ ?_
        · exact W_J_X12_swaps_161 (fun q0_ T_ r_q0_ w_T_ => ih r_q0_ w_T_) r_p1 r_p2 r_p3 r_p4 r_v6 r_p3 r_v6 w_S
        · refine zW_zg ?_
          exact W_J_X12_swaps_161 (fun q0_ T_ r_q0_ w_T_ => ih r_q0_ w_T_) r_p1 r_p2 r_p3 r_p4 r_v6 (w_S 87 _ sw_87 v6) r_v6 w_S
set_option maxHeartbeats 4000000 in
set_option maxRecDepth 20000 in
theorem W_J_X12_swaps_248 {k171 : Int → HS → zO2} {v1 : Int} {v2 : Int} {v3 : Int} {v4 : Int} {v6 : Int} {S : HS} (hk171 : ∀ (w0 : Int) (S : HS), rng w0 → WR shF S → zW mA_X12_swaps mO_X12_swaps rng S (k171 w0 S)) (r_v1 : rng v1) (r_v2 : rng v2) (r_v3 : rng v3) (r_v4 : rng v4) (r_v6 : rng v6) (w_S : WR shF S) : zW mA_X12_swaps mO_X12_swaps rng S (J_X12_swaps_248 k171 v1 v2 v3 v4 v6 S) := by
  unfold J_X12_swaps_248
  refine zW_zl (fun x30 r_x30 => ?_)
  exact hk171 _ _ r_x30 w_S
set_option maxHeartbeats 4000000 in
set_option maxRecDepth 20000 in
theorem W_J_X12_swaps_247 {k171 : Int → HS → zO2} {v1 : Int} {v2 : Int} {v3 : Int} {v4 : Int} {v6 : Int} {t0 : Int} {t1 : Int} {S : HS} (hk171 : ∀ (w0 : Int) (S : HS), rng w0 → WR shF S → zW mA_X12_swaps mO_X12_swaps rng S (k171 w0 S)) (r_v1 : rng v1) (r_v2 : rng v2) (r_v3 : rng v3) (r_v4 : rng v4) (r_v6 : rng v6) (r_t0 : rng t0) (r_t1 : rng t1) (w_S : WR shF S) : zW mA_X12_swaps mO_X12_swaps rng S (J_X12_swaps_247 k171 v1 v2 v3 v4 v6 t0 t1 S) := by
  unfold J_X12_swaps_247
  refine zW_zg ?_
  refine zW_up w_S sw_88 (by decide) r_t0 (fun S39 w_S39 => ?_)
  exact W_J_X12_swaps_248 hk171 r_v1 r_v2 r_v3 r_v4 r_v6 w_S39
set_option maxHeartbeats 4000000 in
set_option maxRecDepth 20000 in
theorem W_L_X12_swaps_171 {p1 : Int} {p2 : Int} {p3 : Int} {p4 : Int} (r_p1 : rng p1) (r_p2 : rng p2) (r_p3 : rng p3) (r_p4 : rng p4) : ∀ (n : Nat) {v6 : Int} {S : HS}, rng v6 → WR shF S → zW mA_X12_swaps mO_X12_swaps rng S (L_X12_swaps_171 p1 p2 p3 p4 n v6 S) := by
  intro n
  induction n with
  | zero =>
    intro _ _ _ _
    exact zW_none
  | succ n ih =>
    intro v6 S r_v6 w_S
    rw [L_X12_swaps_171.eq_2]
    refine zW_ite ?_ ?_
    · exact zW_ret w_S (zrl rfl)
    · refine zW_zg ?_
      refine zW_ite ?_ ?_
      · refine zW_zg ?_
        refine zW_ite ?_ ?_
        · exact W_J_X12_swaps_248 (fun q0_ T_ r_q0_ w_T_ => ih r_q0_ w_T_) r_p1 r_p2 r_p3 r_p4 r_v6 w_S
        · refine zW_zg ?_
          refine zW_ite ?_ ?_
          · exact W_J_X12_swaps_247 (fun q0_ T_ r_q0_ w_T_ => ih r_q0_ w_T_) r_p1 r_p2 r_p3 r_p4 r_v6 r_p4 r_v6 w_S
          · refine zW_zg ?_
            refine zW_ite ?_ ?_
            · exact W_J_X12_swaps_247 (fun q0_ T_ r_q0_ w_T_ => ih r_q0_ w_T_) r_p1 r_p2 r_p3 r_p4 r_v6 r_p3 r_v6 w_S
            · refine zW_zg ?_
              exact W_J_X12_swaps_247 (fun q0_ T_ r_q0_ w_T_ => ih r_q0_ w_T_) r_p1 r_p2 r_p3 r_p4 r_v6 (w_S 88 _ sw_88 v6) r_v6 w_S
      · exact W_J_X12_swaps_248 (fun q0_ T_ r_q0_ w_T_ => ih r_q0_ w_T_) r_p1 r_p2 r_p3 r_p4 r_v6 w_S
