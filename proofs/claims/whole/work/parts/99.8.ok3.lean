/-! draw, by both -/
section SE
variable {S T : HS}
theorem zFr.hi {A : List Nat} {O : List (Nat × Int)} {S T : HS} (h : zFr A O S T) (hA : (A.all fun k => Nat.blt k 51) = true) (hO : (O.all fun q => Nat.blt q.1 51) = true) (k : Nat) (hk : 51 ≤ k) : T k = S k := by
  funext i
  refine h k i (fun m => ?_) (fun m => ?_)
  · have z := List.all_eq_true.mp hA k m
    have y := Nat.le_of_ble_eq_true z
    omega
  · have z := List.all_eq_true.mp hO (k, i) m
    have y := Nat.le_of_ble_eq_true z
    have y' : k + 1 ≤ 51 := y
    omega
theorem zFr.lo {A : List Nat} {O : List (Nat × Int)} {S T : HS} (h : zFr A O S T) (hA : (A.all fun k => Nat.ble 51 k) = true) (hO : (O.all fun q => Nat.ble 51 q.1) = true) (k : Nat) (hk : k ≤ 50) : T k = S k := by
  funext i
  refine h k i (fun m => ?_) (fun m => ?_)
  · have z := List.all_eq_true.mp hA k m
    have y := Nat.le_of_ble_eq_true z
    omega
  · have z := List.all_eq_true.mp hO (k, i) m
    have y := Nat.le_of_ble_eq_true z
    have y' : 51 ≤ k := y
    omega
theorem zfr_up2 {A : List Nat} {O : List (Nat × Int)} {S T : HS} {k : Nat} {i v : Int} (h : zFr A O S T) : zFr A O (up S k i v) (up T k i v) := by
  intro k' i' a b
  rw [up_at, up_at]
  by_cases q : k' = k ∧ i' = i
  · rw [if_pos q, if_pos q]
  · rw [if_neg q, if_neg q]
    exact h k' i' a b
/-- all but the tape is as it was -/
theorem tape_off {S1 S2 T1 X Y : HS} (hI : iAll S) (hT : ∀ k : Nat, 51 ≤ k → T k = S k) (fS1 : zFr mA_X7_read mO_X7_read S S1) (hS2 : up S1 40 1 0 = S2) (fT : zFr rdA rdO T T1) (h2 : T1 51 2 = 0) (fX : zFr [] [(45, 7), (45, 8)] S2 X) (fY : zFr [] [(51, 17), (51, 18)] T1 Y) : iAll (hyb X Y) := by
  have z := iAll_tape hI
  have e1 : up T1 51 2 0 = T1 := by
    funext k i
    rw [up_at]
    by_cases q : k = 51 ∧ i = 2
    · rw [if_pos q, q.1, q.2, h2]
    · rw [if_neg q]
  have e0 : hyb (up S 40 1 0) (up T 51 2 0) = up (up S 40 1 0) 51 2 0 := by
    funext k i
    unfold hyb
    by_cases g : k ≤ 50
    · rw [if_pos g, up_at _ 51 2, if_neg (by omega)]
    · rw [if_neg g, up_at, up_at _ 51 2]
      by_cases q : k = 51 ∧ i = 2
      · rw [if_pos q, if_pos q]
      · rw [if_neg q, if_neg q, hT k (by omega), up_at, if_neg (by omega)]
  have f1 : zFr mA_X7_read (mO_X7_read ++ [(45, 7), (45, 8)]) (up S 40 1 0) X := by
    refine zFr.trans (zFr.mono (by decide) (by decide) (zfr_up2 (k := 40) (i := 1) (v := 0) fS1)) ?_
    rw [hS2]
    exact zFr.mono (by decide) (by decide) fX
  have f2 : zFr rdA (rdO ++ [(51, 17), (51, 18)]) (up T 51 2 0) Y := by
    have q := zfr_up2 (k := 51) (i := 2) (v := 0) fT
    rw [e1] at q
    refine zFr.trans (zFr.mono (by decide) (by decide) q) (zFr.mono (by decide) (by decide) fY)
  have f := hyb_fr f1 f2
  rw [e0] at f
  -- the place of the tape's end is not among what has changed
  rw [← iAll_c] at z ⊢
  have ec : core (hyb X Y) = core (up (up S 40 1 0) 51 2 0) := by
    have f' : zFr (mA_X7_read ++ rdA) [(40, 2), (40, 3), (40, 4), (40, 5), (42, 3), (42, 4), (42, 5), (45, 7), (45, 8), (51, 0), (51, 3), (51, 7), (51, 8), (51, 10), (51, 15), (51, 16), (51, 17), (51, 18)] (up (up S 40 1 0) 51 2 0) (hyb X Y) := by
      intro k i a b
      by_cases q : k = 51 ∧ i = 2
      · obtain ⟨rfl, rfl⟩ := q
        rw [up_eq]
        show Y 51 2 = 0
        rw [fY 51 2 (by decide) (by decide), h2]
      · refine f k i a (fun m => ?_)
        have y := (by decide : ∀ q ∈ (mO_X7_read ++ [(45, 7), (45, 8)] ++ (rdO ++ [(51, 17), (51, 18)]) : List (Nat × Int)), q = (51, 2) ∨ q ∈ ([(40, 2), (40, 3), (40, 4), (40, 5), (42, 3), (42, 4), (42, 5), (45, 7), (45, 8), (51, 0), (51, 3), (51, 7), (51, 8), (51, 10), (51, 15), (51, 16), (51, 17), (51, 18)] : List (Nat × Int))) (k, i) m
        rcases y with y | y
        · obtain ⟨y1, y2⟩ := Prod.mk.inj y
          exact q ⟨y1, y2⟩
        · exact b y
    exact core_fr (by decide) (by decide) f'
  rw [ec]
  exact z
theorem draw_both (hW : WR shF S) (hI : iAll S) (wT : WR shF T) (hT : ∀ k : Nat, 51 ≤ k → T k = S k) : ∃ (r : Int) (Sf U : HS), M_X11_draw S = some (r, Sf) ∧ M_X12_draw T = some (r, U) ∧ iAll (hyb Sf U) := by
  obtain ⟨iL, iT, iW, -⟩ := id hI
  have hTok : tOk S := ⟨⟨iT.2.1, iT.2.2.1⟩, fun i i0 i1 => by
    have := (iT.2.2.2 i i0 i1).2
    omega⟩
  obtain ⟨S1, T1, g, e1, m1, h8, h5, h2, hOK, wT1, fT⟩ := both_read (T := T) hTok (by rw [hT 51 (by decide)]; exact iT.1) (fun i i0 i1 => by rw [hT 52 (by decide)]; exact (iT.2.2.2 i i0 i1).1) (by unfold iWords; rw [hT 56 (by decide)]; exact iW) wT
  obtain ⟨-, wS1, fS1⟩ := W_M_X7_read hW _ S1 e1
  generalize hS2 : up S1 40 1 0 = S2
  have wS2 : WR shF S2 := by
    rw [← hS2]
    exact wS1.up sw_40 (zrl rfl)
  have ecl : M_X9_clear S1 = some (0, S2) := by
    unfold M_X9_clear
    rw [zs_in, hS2]
  have base : ∀ X Y : HS, zFr [] [(45, 7), (45, 8)] S2 X → zFr [] [(51, 17), (51, 18)] T1 Y → iAll (hyb X Y) := fun X Y fX fY => tape_off hI hT fS1 hS2 fT h2 fX fY
  by_cases hf : S1 42 5 = 0
  · obtain ⟨hRel, ⟨sz0, sz1⟩, ⟨cd0, cd1⟩, hg⟩ := hOK hf
    generalize hS3 : up (up S2 45 7 0) 45 8 (-1) = S3
    generalize hT3 : up (up T1 51 17 0) 51 18 0 = T3
    have fS3 : zFr [] [(45, 7), (45, 8)] S2 S3 := by
      rw [← hS3]
      exact zfr_upO (zfr_upO zFr.rf (by decide)) (by decide)
    have fT3 : zFr [] [(51, 17), (51, 18)] T1 T3 := by
      rw [← hT3]
      exact zfr_upO (zfr_upO zFr.rf (by decide)) (by decide)
    have wS3 : WR shF S3 := by
      rw [← hS3]
      exact (wS2.up sw_45 (zrl rfl)).up sw_45 (zrl rfl)
    have wT3 : WR shF T3 := by
      rw [← hT3]
      exact (wT1.up sw_51 (zrl rfl)).up sw_51 (zrl rfl)
    have hB := base S3 T3 fS3 fT3
    have hP := hB.2.2.2.1
    have hR := hB.2.2.2.2.1
    have cR : cRow S3 := hR.c
    have hP' := hP
    rw [iPart_h] at hP'
    have hG0 := hB.2.2.2.2.2.2.2.1
    have hG1 : T3 51 34 = S3 45 6 ∧ 0 ≤ S3 45 6 ∧ S3 45 6 ≤ S3 3 3 + S3 7 11 := hG0.1
    have k33 : S2 3 3 = S3 3 3 := (fS3 3 3 (by decide) (by decide)).symm
    have k711 : S2 7 11 = S3 7 11 := (fS3 7 11 (by decide) (by decide)).symm
    have k22 : T1 51 22 = T3 51 22 := (fT3 51 22 (by decide) (by decide)).symm
    have k27 : T1 51 27 = T3 51 27 := (fT3 51 27 (by decide) (by decide)).symm
    have r27 : T3 51 27 = S3 7 11 := hR.1.1
    have S43 : S3 43 = S1 43 := by
      rw [fS3.cell 43 (by decide) (by decide), ← hS2]
      funext q
      rw [up_cell _ (by decide)]
    have S423 : S3 42 3 = S1 42 3 := by rw [fS3 42 3 (by decide) (by decide), ← hS2, up_cell _ (by decide)]
    have T10 : T3 51 10 = T1 51 10 := fT3 51 10 (by decide) (by decide)
    have s457 : S3 45 7 = 0 := by rw [← hS3, up_same, if_neg (by decide), up_eq]
    have s458 : S3 45 8 = -1 := by rw [← hS3, up_eq]
    have t17 : T3 51 17 = 0 := by rw [← hT3, up_same, if_neg (by decide), up_eq]
    have t18 : T3 51 18 = 0 := by rw [← hT3, up_eq]
    have hD0 : drw S3 T3 S3 T3 := ⟨hP, hR, ⟨⟨Int.le_refl _, Int.le_refl _⟩, fun _ => Or.inl rfl, fun _ => Or.inl rfl, fun _ _ _ => ⟨rfl, rfl, rfl, rfl, rfl, rfl, rfl, fun _ _ _ => rfl⟩, fun r r0 r1 => by omega⟩, ⟨by omega, by omega⟩, ⟨rfl, rfl⟩, ⟨rfl, rfl, rfl, rfl⟩⟩
    have hRel3 : Rel g 0 (S3 43) T3 0 (S3 42 3) 0 (T3 51 10) := by
      rw [S43, S423, T10]
      exact Rel.cg g 0 _ _ _ _ hRel (fun _ _ _ => rfl) (fun q _ _ => ⟨by rw [fT3.cell 57 (by decide) (by decide)], by rw [fT3.cell 58 (by decide) (by decide)], by rw [fT3.cell 59 (by decide) (by decide)], by rw [fT3.cell 60 (by decide) (by decide)]⟩)
    have bz : zBig = 4294967296 := rfl
    have h0 : 0 ≤ S3 3 3 ∧ 0 ≤ S3 7 11 := by
      have := cR.1
      omega
    obtain ⟨S4, T4, cS, cT, hD, hE⟩ := steps_on (S0 := S3) (T0 := T3) h0 ⟨by omega, by omega⟩ g 0 0 (S3 42 3) 0 (T3 51 10) S3 T3 1 0 0 0 0 zBig zBig 0 hRel3 (by omega) hD0 ⟨s458, t17⟩ (Int.le_refl _) (Int.le_refl _) (Int.le_refl _) (by omega) (Int.le_refl _) (Int.le_refl _) (Or.inl ⟨rfl, rfl, rfl⟩) (by decide) (by decide) (by omega) (by omega) (by omega)
    have eS : M_X4_drawSteps 6 0 (S3 42 3) 1 0 0 0 S3 = some (0, S4) := (c_drs (e := 5) (by decide)).trans cS
    have eT : M_X12_draws 6 0 (T3 51 10) 0 0 0 T3 = some (0, T4) := cT
    obtain ⟨-, wS4, fS4⟩ := W_M_X4_drawSteps 6 (zrl rfl) (wS3 42 _ sw_42 3) (zrl rfl) (zrl rfl) (zrl rfl) (zrl rfl) wS3 0 S4 eS
    obtain ⟨-, wT4, fT4⟩ := W_M_X12_draws 6 (zrl rfl) (wT3 51 _ sw_51 10) (zrl rfl) (zrl rfl) (zrl rfl) wT3 0 T4 eT
    have db := hD.b h0
    have hD' := hD
    obtain ⟨dP, dI, dG, ⟨d1, d2⟩, -⟩ := hD'
    have dP' := dP
    rw [iPart_h] at dP'
    have cR4 : cRow S4 := dI.c
    have cR40 := cR4.1
    have g1 := dG.1
    have s45 : S4 45 6 = S3 45 6 := fS4 45 6 (by decide) (by decide)
    have t34 : T4 51 34 = T3 51 34 := fT4 51 34 (by decide) (by decide)
    -- the class as far as here
    have ec : M_X11_draw S = zb (M_X4_drawProgram S2) fun r6 S7 => if r6 = -1 then (zb (M_X11_settle S7) fun _ S10 => some (0, S10)) else (zl (-1 - r6) fun x11 => some (x11, S7)) := by
      unfold M_X11_draw
      rw [e1, zb_some, ecl, zb_some, if_pos hf]
    have em : M_X12_draw T = if T4 51 17 ≤ 0 then (if T4 51 18 ≤ 0 then some (0, T4) else (zg ((0 : Int) ≤ T4 51 34 ∧ T4 51 34 < 84) <| zs (up T4 73 (T4 51 34) (T1 51 22)) fun S16 => zg ((0 : Int) ≤ S16 51 34 ∧ S16 51 34 < 84) <| zs (up S16 74 (S16 51 34) (T1 51 27)) fun S18 => zl (S18 51 34 + 1) fun x19 => zs (up S18 51 34 x19) fun S20 => some (0, S20))) else (zb (M_X12_forgets (T1 51 22) (T1 51 27) T4) fun _ S22 => zl ((-1 - S22 51 17) - 16 * S22 51 18) fun x23 => some (x23, S22)) := by
      rw [m1]
      unfold J_X12_draw_43
      rw [if_pos (by omega), zs_in, zs_in, hT3, eT, zb_some]
    have ep : M_X4_drawProgram S2 = if S4 45 8 = -1 then (if S4 45 7 ≤ 0 then some (S4 45 8, S4) else (if 84 ≤ S4 45 6 then some (S4 45 8, S4) else (zg ((0 : Int) ≤ S4 45 6 ∧ S4 45 6 < 84) <| zs (up S4 49 (S4 45 6) (S2 3 3)) fun S9 => zg ((0 : Int) ≤ S9 45 6 ∧ S9 45 6 < 84) <| zs (up S9 50 (S9 45 6) (S2 7 11)) fun S11 => zl (S11 45 6 + 1) fun x12 => zs (up S11 45 6 x12) fun S13 => some (S13 45 8, S13)))) else (zb (M_X5_cutTo (S2 3 3) S4) fun _ S15 => zb (M_X6_cutTo (S2 7 11) S15) fun _ S17 => some (S17 45 8, S17)) := by
      unfold M_X4_drawProgram J_X4_drawProgram_115
      rw [zs_in, zs_in, hS3, eS, zb_some]
    rcases hE with ⟨q1, q2⟩ | hfl
    · -- it stands
      rw [if_pos q1] at ep
      rw [if_pos (by omega)] at em
      by_cases gd : S4 45 7 ≤ 0
      · rw [if_pos gd, q1] at ep
        rw [if_pos (by omega)] at em
        obtain ⟨⟨x1, x2, x3, x4, x5, x6, x7, x8⟩, xG⟩ := rest_new hB hD fS4 fT4 (fun _ _ _ _ => rfl) (fun _ _ _ _ => rfl) (fun _ _ => rfl)
        have pr : iProg (hyb S4 T4) := prog_more hB.rest xG t34 s45 (fun k hk => by
          simp only [List.mem_cons, List.not_mem_nil, or_false] at hk
          rcases hk with rfl | rfl | rfl | rfl
          · exact fS4.cell 49 (by decide) (by decide)
          · exact fS4.cell 50 (by decide) (by decide)
          · exact fT4.cell 73 (by decide) (by decide)
          · exact fT4.cell 74 (by decide) (by decide))
        obtain ⟨rs, S6, es, hs⟩ := settle_new wS4 (T5 := T4) ⟨x1, x2, x3, x4, x5, x6, x7, pr, x8⟩
        refine ⟨0, S6, T4, ?_, em, hs⟩
        rw [ec, ep, zb_some, if_pos rfl, es, zb_some]
      · generalize hn : S4 45 6 = n at *
        have n84 : n < 84 := by omega
        have n0 : 0 ≤ n := by omega
        have u1 : up S4 49 n (S2 3 3) 45 6 = n := by rw [up_cell _ (by decide), hn]
        have u2 : up (up S4 49 n (S2 3 3)) 50 n (S2 7 11) 45 6 = n := by rw [up_cell _ (by decide), u1]
        rw [if_neg gd, if_neg (by omega), zg_in ⟨n0, n84⟩, zs_in, u1, zg_in ⟨n0, n84⟩, zs_in, u2, zl_in (by omega), zs_in] at ep
        have t34' : T4 51 34 = n := by omega
        have v1 : up T4 73 n (T1 51 22) 51 34 = n := by rw [up_cell _ (by decide), t34']
        have v2 : up (up T4 73 n (T1 51 22)) 74 n (T1 51 27) 51 34 = n := by rw [up_cell _ (by decide), v1]
        rw [if_neg (by omega), t34', zg_in ⟨n0, n84⟩, zs_in, v1, zg_in ⟨n0, n84⟩, zs_in, v2, zl_in (by omega), zs_in] at em
        generalize hS5 : up (up (up S4 49 n (S2 3 3)) 50 n (S2 7 11)) 45 6 (n + 1) = S5 at ep
        generalize hT5 : up (up (up T4 73 n (T1 51 22)) 74 n (T1 51 27)) 51 34 (n + 1) = T5 at em
        have wS5 : WR shF S5 := by
          rw [← hS5]
          refine ((wS4.up sw_49 ?_).up sw_50 ?_).up sw_45 ?_
          · show rng _
            unfold rng
            omega
          · show rng _
            unfold rng
            omega
          · show rng _
            unfold rng
            omega
        have eS5 : ∀ k : Nat, k ≠ 45 → k ≠ 49 → k ≠ 50 → S5 k = S4 k := fun k h1 h2 h3 => by
          funext q
          rw [← hS5, up_cell _ h1, up_cell _ h3, up_cell _ h2]
        have eT5 : ∀ k : Nat, k ≠ 51 → k ≠ 73 → k ≠ 74 → T5 k = T4 k := fun k h1 h2 h3 => by
          funext q
          rw [← hT5, up_cell _ h1, up_cell _ h3, up_cell _ h2]
        have eT51 : ∀ i : Int, i ≠ 34 → T5 51 i = T4 51 i := fun i hi => by
          rw [← hT5, up_same, if_neg hi, up_cell _ (by decide), up_cell _ (by decide)]
        have s458' : S5 45 8 = -1 := by rw [← hS5, up_same, if_neg (by decide), up_cell _ (by decide), up_cell _ (by decide), q1]
        obtain ⟨⟨x1, x2, x3, x4, x5, x6, x7, x8⟩, xG⟩ := rest_new hB hD fS4 fT4 eS5 eT5 eT51
        have e49 : S4 49 = S3 49 := fS4.cell 49 (by decide) (by decide)
        have e50 : S4 50 = S3 50 := fS4.cell 50 (by decide) (by decide)
        have e73 : T4 73 = T3 73 := fT4.cell 73 (by decide) (by decide)
        have e74 : T4 74 = T3 74 := fT4.cell 74 (by decide) (by decide)
        have pr : iProg (hyb S5 T5) := by
          refine prog_new hB.rest xG ?_ ?_ ?_ (fun i => ?_) (fun i => ?_) (fun i => ?_) (fun i => ?_)
          · show S3 3 3 + S3 7 11 + 1 ≤ S5 3 3 + S5 7 11
            rw [eS5 3 (by decide) (by decide) (by decide), eS5 7 (by decide) (by decide) (by decide)]
            omega
          · show T5 51 34 = T3 51 34 + 1
            rw [← hT5, up_eq]
            omega
          · show S5 45 6 = S3 45 6 + 1
            rw [← hS5, up_eq]
            omega
          · show S5 49 i = if i = S3 45 6 then S3 3 3 else S3 49 i
            rw [← hS5, up_cell _ (by decide), up_cell _ (by decide), up_same, e49, k33, ← s45]
          · show S5 50 i = if i = S3 45 6 then S3 7 11 else S3 50 i
            rw [← hS5, up_cell _ (by decide), up_same, up_cell _ (by decide), e50, k711, ← s45]
          · show T5 73 i = if i = S3 45 6 then S3 3 3 else T3 73 i
            rw [← hT5, up_cell _ (by decide), up_cell _ (by decide), up_same, e73, k22, hP'.2.1, ← s45]
          · show T5 74 i = if i = S3 45 6 then S3 7 11 else T3 74 i
            rw [← hT5, up_cell _ (by decide), up_same, up_cell _ (by decide), e74, k27, r27, ← s45]
        obtain ⟨rs, S6, es, hs⟩ := settle_new wS5 (T5 := T5) ⟨x1, x2, x3, x4, x5, x6, x7, pr, x8⟩
        refine ⟨0, S6, T5, ?_, em, hs⟩
        rw [ec, ep, zb_some, if_pos s458', es, zb_some]
    · -- it can't stand
      obtain ⟨⟨q1, q2⟩, q3⟩ := hfl
      rw [if_neg (by omega)] at ep em
      obtain ⟨r1, S5, e5, rfl, a1, a2, a3⟩ := e_cut5' (S := S4) (p := S2 3 3)
      obtain ⟨r2, S6, e6, rfl, b1, b2, b3⟩ := e_cut6' (S := S5) (r := S2 7 11) (by rw [k711]; have := cR.1; omega)
      obtain ⟨r3, T6, e7, hM⟩ := m_forgets (S := T4) (p := T1 51 22) (r := T1 51 27)
      have s8 : S6 45 8 = S4 45 8 := by rw [b3.cell 45 (by decide) (by decide), a3.cell 45 (by decide) (by decide)]
      have t17' : T6 51 17 = T4 51 17 := hM.2.2.2.2.2 51 17 (by decide) (by decide)
      have t18' : T6 51 18 = T4 51 18 := hM.2.2.2.2.2 51 18 (by decide) (by decide)
      rw [e5, zb_some, e6, zb_some] at ep
      rw [e7, zb_some, t17', t18', zl_in (by omega)] at em
      refine ⟨-1 - S4 45 8, S6, T6, ?_, ?_, ?_⟩
      · rw [ec, ep, zb_some, s8, if_neg (by omega), zl_in (by omega)]
      · rw [em]
        have e : -1 - T4 51 17 - 16 * T4 51 18 = -1 - S4 45 8 := by omega
        rw [e]
      · rw [k22, hP'.2.1, k27, r27] at hM
        rw [k711] at b1 b2
        rw [k33] at a1 a2
        have e11 : S5 11 = S4 11 := a3.cell 11 (by decide) (by decide)
        refine fail_back hB hD fS4 fT4 ?_ (fun s => ?_) b1 (fun s => ?_) ?_ hM
        · rw [b3.cell 3 (by decide) (by decide)]
          exact a1
        · rw [b3.cell 4 (by decide) (by decide)]
          exact a2 s
        · rw [b2, e11]
        · exact zFr.trans (zFr.mono (by decide) (by decide) a3) (zFr.mono (by decide) (by decide) b3)
  · -- it can't be read
    refine ⟨S1 42 5, S2, T1, ?_, ?_, base S2 T1 zFr.rf zFr.rf⟩
    · unfold M_X11_draw
      rw [e1, zb_some, ecl, zb_some, if_neg hf]
    · rw [m1]
      unfold J_X12_draw_43
      rw [if_neg (by omega), h8]
theorem ok_3 (hI : Inv S) : OK_3 Inv S := by
  obtain ⟨hW, hA⟩ := hI
  obtain ⟨r, Sf, U, e1, -, -⟩ := draw_both (T := S) hW hA hW (fun _ _ => rfl)
  obtain ⟨-, wf, ff⟩ := W_M_X11_draw hW r Sf e1
  obtain ⟨r', Sf', U', e1', e2, h⟩ := draw_both (T := Sf) hW hA wf (fun k hk => ff.hi (by decide) (by decide) k hk)
  have e := e1.symm.trans e1'
  obtain ⟨rfl, rfl⟩ := Prod.mk.inj (Option.some.inj e)
  obtain ⟨-, wU, fU⟩ := W_M_X12_draw wf r U' e2
  have eh : hyb Sf U' = U' := by
    funext k i
    unfold hyb
    by_cases g : k ≤ 50
    · rw [if_pos g, fU.lo (by decide) (by decide) k g]
    · rw [if_neg g]
  rw [eh] at h
  exact ⟨r, Sf, U', e1, wf, e2, wU, h⟩
end SE
