/-! draw -/
section SD
variable {S T : HS}
theorem in_k (k : Nat) (h : k ∈ [1, 2, 12, 23, 24, 25, 26, 27, 34, 40, 41, 52, 56, 79, 80, 81, 82, 89]) : (k ∉ mA_X4_drawSteps ∧ (mO_X4_drawSteps.all fun q => q.1 != k) = true ∧ k ≠ 45 ∧ k ≠ 49 ∧ k ≠ 50) ∧ (k ∉ mA_X12_draws ∧ (mO_X12_draws.all fun q => q.1 != k) = true ∧ k ≠ 51 ∧ k ≠ 73 ∧ k ≠ 74) := (by decide : ∀ k ∈ [1, 2, 12, 23, 24, 25, 26, 27, 34, 40, 41, 52, 56, 79, 80, 81, 82, 89], (k ∉ mA_X4_drawSteps ∧ (mO_X4_drawSteps.all fun q => q.1 != k) = true ∧ k ≠ 45 ∧ k ≠ 49 ∧ k ≠ 50) ∧ (k ∉ mA_X12_draws ∧ (mO_X12_draws.all fun q => q.1 != k) = true ∧ k ≠ 51 ∧ k ≠ 73 ∧ k ≠ 74)) k h
theorem grw_h {S0 T0 : HS} (h : grw S0 T0 S T) : grw (hyb S0 T0) (hyb S0 T0) (hyb S T) (hyb S T) := h
/-- all but what is settled, when more stands -/
theorem rest_new {S3 T3 S4 T4 S5 T5 : HS} (hB : iAll (hyb S3 T3)) (hD : drw S3 T3 S4 T4) (fS : zFr mA_X4_drawSteps mO_X4_drawSteps S3 S4) (fT : zFr mA_X12_draws mO_X12_draws T3 T4) (eS : ∀ k : Nat, k ≠ 45 → k ≠ 49 → k ≠ 50 → S5 k = S4 k) (eT : ∀ k : Nat, k ≠ 51 → k ≠ 73 → k ≠ 74 → T5 k = T4 k) (eT1 : ∀ i : Int, i ≠ 34 → T5 51 i = T4 51 i) : (iLen (hyb S5 T5) ∧ iTape (hyb S5 T5) ∧ iWords (hyb S5 T5) ∧ iPart (hyb S5 T5) ∧ iRow (hyb S5 T5) ∧ iMark (hyb S5 T5) ∧ iAdd (hyb S5 T5) ∧ iCrew (hyb S5 T5)) ∧ grw (hyb S3 T3) (hyb S3 T3) (hyb S5 T5) (hyb S5 T5) := by
  obtain ⟨dP, dI, dG, -⟩ := hD
  have gG : grw S3 T3 S5 T5 := grw_same dG (by rw [eS 3 (by decide) (by decide) (by decide)]) (eS 4 (by decide) (by decide) (by decide)) (by rw [eS 7 (by decide) (by decide) (by decide)]) (eS 8 (by decide) (by decide) (by decide)) (eS 9 (by decide) (by decide) (by decide)) (eS 10 (by decide) (by decide) (by decide)) (eS 11 (by decide) (by decide) (by decide)) (eS 13 (by decide) (by decide) (by decide)) (eS 14 (by decide) (by decide) (by decide)) (eS 15 (by decide) (by decide) (by decide)) (eT 71 (by decide) (by decide) (by decide)) (eT 72 (by decide) (by decide) (by decide))
  refine ⟨rest_more hB.rest ?_ ?_ (grw_h gG) (fun k hk => ?_) ?_ (fun i hi => ?_), grw_h gG⟩
  · exact iPart_same dP (eS 2 (by decide) (by decide) (by decide)) (by rw [eS 3 (by decide) (by decide) (by decide)]) (eS 4 (by decide) (by decide) (by decide)) (eT 63 (by decide) (by decide) (by decide)) (eT 64 (by decide) (by decide) (by decide)) (eT 67 (by decide) (by decide) (by decide)) (eT1 22 (by decide))
  · exact iRow_same dI (eS 2 (by decide) (by decide) (by decide)) (eS 7 (by decide) (by decide) (by decide)) (eS 8 (by decide) (by decide) (by decide)) (eS 9 (by decide) (by decide) (by decide)) (eS 10 (by decide) (by decide) (by decide)) (eS 11 (by decide) (by decide) (by decide)) (eT1 27 (by decide)) (eT 68 (by decide) (by decide) (by decide)) (eT 69 (by decide) (by decide) (by decide)) (eT 70 (by decide) (by decide) (by decide))
  · obtain ⟨⟨a1, a2, a3, a4, a5⟩, b1, b2, b3, b4, b5⟩ := in_k k hk
    by_cases g : k ≤ 50
    · rw [hyb_c g, hyb_c g, eS k a3 a4 a5, fS.cell k a1 a2]
    · rw [hyb_m g, hyb_m g, eT k b3 b4 b5, fT.cell k b1 b2]
  · show S5 7 12 = S3 7 12
    rw [eS 7 (by decide) (by decide) (by decide), fS 7 12 (by decide) (by decide)]
  · show T5 51 i = T3 51 i
    rw [eT1 i (by omega)]
    refine fT 51 i (by decide) ?_
    rcases hi with rfl | rfl | rfl | rfl | rfl <;> decide
/-- settled -/
theorem settle_new {S5 T5 : HS} (w : WR shF S5) (h : iRest (hyb S5 T5)) : ∃ (r : Int) (S6 : HS), M_X11_settle S5 = some (r, S6) ∧ iAll (hyb S6 T5) := by
  obtain ⟨iL, iT, iW, iP, iR, iM, iA, iG, iC⟩ := id h
  have hH : cHair S5 := fun c c0 c1 => (iP.1.1 c c0 c1).2
  obtain ⟨r, S6, e, ⟨g1, g2, g3⟩, -, hm⟩ := e_settle11 w (show cRow S5 from iR.c) hH (fun c c0 c1 => add_r2 (S := hyb S5 T5) iA c0 c1)
  refine ⟨r, S6, e, iAll_mk (iRest_msk h ?_) g1 g2 g3⟩
  funext k i
  have z := congrFun (congrFun hm k) i
  unfold msk hyb at *
  by_cases c : (17 ≤ k ∧ k ≤ 22) ∨ (29 ≤ k ∧ k ≤ 31)
  · rw [if_pos c, if_pos c]
  · rw [if_neg c, if_neg c] at z ⊢
    by_cases g : k ≤ 50
    · rw [if_pos g, if_pos g]
      exact z
    · rw [if_neg g, if_neg g]
/-- where it fails all is as it was -/
theorem fail_back {S3 T3 S4 T4 S6 T6 : HS} (hB : iAll (hyb S3 T3)) (hD : drw S3 T3 S4 T4) (fS : zFr mA_X4_drawSteps mO_X4_drawSteps S3 S4) (fT : zFr mA_X12_draws mO_X12_draws T3 T4) (c1 : S6 3 3 = S3 3 3) (c2 : ∀ s : Int, S6 4 s = if 0 ≤ s ∧ s < 412 ∧ ¬ S4 4 s < S3 3 3 then -1 else S4 4 s) (c3 : S6 7 11 = S3 7 11) (c4 : ∀ s : Int, S6 11 s = if 0 ≤ s ∧ s < 192 ∧ ¬ S4 11 s < 200 * S3 7 11 then -1 else S4 11 s) (fc : zFr [4, 11] [(3, 3), (7, 11)] S4 S6) (hM : cutM (S3 3 3) (S3 7 11) T4 T6) : iAll (hyb S6 T6) := by
  obtain ⟨hX, hG⟩ := rest_new hB hD fS fT (fun _ _ _ _ => rfl) (fun _ _ _ _ => rfl) (fun _ _ => rfl)
  obtain ⟨x1, x2, x3, x4, x5, x6, x7, x8⟩ := hX
  have s45 : S4 45 6 = S3 45 6 := fS 45 6 (by decide) (by decide)
  have t34 : T4 51 34 = T3 51 34 := fT 51 34 (by decide) (by decide)
  have c49 : S4 49 = S3 49 := fS.cell 49 (by decide) (by decide)
  have c50 : S4 50 = S3 50 := fS.cell 50 (by decide) (by decide)
  have c73 : T4 73 = T3 73 := fT.cell 73 (by decide) (by decide)
  have c74 : T4 74 = T3 74 := fT.cell 74 (by decide) (by decide)
  have hP4 : iProg (hyb S4 T4) := prog_more hB.rest hG t34 s45 (fun k hk => by
    simp only [List.mem_cons, List.not_mem_nil, or_false] at hk
    rcases hk with rfl | rfl | rfl | rfl
    · exact c49
    · exact c50
    · exact c73
    · exact c74)
  have h4 : iRest (hyb S4 T4) := ⟨x1, x2, x3, x4, x5, x6, x7, hP4, x8⟩
  obtain ⟨g1, g2, g3, g4, g5⟩ := hG
  obtain ⟨m1, m2, m3, m4, m5, fM⟩ := hM
  have hB' := hB
  obtain ⟨iL, iT, iW, iP, iR, iM, iA, iG, iC, iE, iK, iBr⟩ := hB'
  have hR : cRow S3 := iR.c
  have hP := iP
  rw [iPart_h] at hP
  have r0 := hR.1
  have r4 := x5.c.1
  have p4 := x4.2
  have g1a : S3 3 3 ≤ S4 3 3 := g1.1
  have g1b : S3 7 11 ≤ S4 7 11 := g1.2
  -- what is cut is what was drawn
  have e4 : S6 4 = S3 4 := by
    funext s
    rw [c2]
    have y : S4 4 s = S3 4 s ∨ (S3 4 s = -1 ∧ S3 3 3 ≤ S4 4 s ∧ 0 ≤ s ∧ s < 412) := g2 s
    rcases y with y | ⟨y1, y2, y3, y4⟩
    · by_cases g : 0 ≤ s ∧ s < 412
      · have z := hP.1.2.2.2 s g.1 g.2
        rw [if_neg (by omega)]
        exact y
      · rw [if_neg (by omega)]
        exact y
    · rw [if_pos (by omega)]
      exact y1.symm
  have e11 : S6 11 = S3 11 := by
    funext s
    rw [c4]
    have y : S4 11 s = S3 11 s ∨ (S3 11 s = -1 ∧ 200 * S3 7 11 ≤ S4 11 s ∧ 0 ≤ s ∧ s < 192) := g3 s
    rcases y with y | ⟨y1, y2, y3, y4⟩
    · by_cases g : 0 ≤ s ∧ s < 192
      · rcases hR.2.2.2 s g.1 g.2 with z | ⟨r, k, z1, z2, z3, z4, z5, z6⟩
        · rw [if_neg (by omega)]
          exact y
        · have w := hR.2.1 r z1 z2
          rw [if_neg (by omega)]
          exact y
      · rw [if_neg (by omega)]
        exact y
    · rw [if_pos (by omega)]
      exact y1.symm
  have o6 : ∀ k : Nat, k ≠ 3 → k ≠ 4 → k ≠ 7 → k ≠ 11 → S6 k = S4 k := fun k h1 h2 h3 h4 => by
    funext i
    exact fc k i (by simp; omega) (by simp; omega)
  have oT : ∀ k : Nat, k ≠ 51 → k ≠ 63 → k ≠ 64 → k ≠ 68 → T6 k = T4 k := fun k h1 h2 h3 h4 => by
    funext i
    exact fM k i (by simp; omega) (by simp; omega)
  have oS : ∀ k : Nat, k ∈ [1, 2, 12, 17, 18, 19, 21, 29, 30, 31] → S6 k = S3 k := fun k hk => by
    have q := (by decide : ∀ k ∈ [1, 2, 12, 17, 18, 19, 21, 29, 30, 31], (k ∉ mA_X4_drawSteps ∧ (mO_X4_drawSteps.all fun q => q.1 != k) = true) ∧ k ≠ 3 ∧ k ≠ 4 ∧ k ≠ 7 ∧ k ≠ 11) k hk
    rw [o6 k q.2.1 q.2.2.1 q.2.2.2.1 q.2.2.2.2, fS.cell k q.1.1 q.1.2]
  obtain ⟨y1, y2, y3, y4, y5, y6, y7, y8⟩ := cut_rest (S := hyb S4 T4) (V := hyb S6 T6) (p := S3 3 3) (r := S3 7 11) h4 (by show 0 ≤ S3 3 3 ∧ S3 3 3 ≤ S4 3 3; omega) (by show 0 ≤ S3 7 11 ∧ S3 7 11 ≤ S4 7 11; omega) (fun k k0 k1 => by
    obtain ⟨z1, z2, -⟩ := g5 k k0 k1
    exact ⟨by omega, z2⟩) c1 (fun s s0 s1 => by
    show S6 4 s = if S4 4 s < S3 3 3 then S4 4 s else -1
    rw [c2]
    by_cases g : S4 4 s < S3 3 3
    · rw [if_neg (fun q => q.2.2 g), if_pos g]
    · rw [if_pos ⟨s0, s1, g⟩, if_neg g]) c3 (fun s s0 s1 => by
    show S6 11 s = if S4 11 s < 200 * S3 7 11 then S4 11 s else -1
    rw [c4]
    by_cases g : S4 11 s < 200 * S3 7 11
    · rw [if_neg (fun q => q.2.2 g), if_pos g]
    · rw [if_pos ⟨s0, s1, g⟩, if_neg g]) m1 m2 m3 m4 m5 (fun k h1 h2 h3 h4 h5 h6 h7 h8 h9 => by
    by_cases g : k ≤ 50
    · rw [hyb_c g, hyb_c g, o6 k h1 h2 h3 h4]
    · rw [hyb_m g, hyb_m g, oT k h8 h5 h6 h7]) (by show S6 7 12 = S4 7 12; exact fc 7 12 (by decide) (by decide)) (fun i hi => by
    show T6 51 i = T4 51 i
    refine fM 51 i (by decide) ?_
    rcases hi with rfl | rfl | rfl | rfl | rfl <;> decide)
  have rows : ∀ r : Int, 0 ≤ r → r < S3 7 11 → S6 10 r = S3 10 r ∧ ∀ k : Int, 0 ≤ k → k < S3 10 r → cel S6 r k = cel S3 r k := by
    intro r q0 q1
    obtain ⟨z1, z2, z3, z4, z5, z6, z7, z8⟩ := g4 r q0 q1
    have ec : cel S6 = cel S4 := by
      funext a b
      unfold cel
      rw [o6 8 (by decide) (by decide) (by decide) (by decide), o6 9 (by decide) (by decide) (by decide) (by decide)]
    refine ⟨by rw [o6 10 (by decide) (by decide) (by decide) (by decide)]; exact z2, fun k k0 k1 => ?_⟩
    rw [ec]
    exact z8 k k0 k1
  refine iAll_mk ⟨y1, y2, y3, y4, y5, y6, y7, ?_, y8⟩ ?_ ?_ ?_
  · have f49 : S6 49 = S3 49 := (o6 49 (by decide) (by decide) (by decide) (by decide)).trans c49
    have f50 : S6 50 = S3 50 := (o6 50 (by decide) (by decide) (by decide) (by decide)).trans c50
    have f73 : T6 73 = T3 73 := (oT 73 (by decide) (by decide) (by decide) (by decide)).trans c73
    have f74 : T6 74 = T3 74 := (oT 74 (by decide) (by decide) (by decide) (by decide)).trans c74
    have f45 : S6 45 6 = S3 45 6 := by rw [o6 45 (by decide) (by decide) (by decide) (by decide), s45]
    have f34 : T6 51 34 = T3 51 34 := (fM 51 34 (by decide) (by decide)).trans t34
    have z : (T3 51 34 = S3 45 6 ∧ 0 ≤ S3 45 6 ∧ S3 45 6 ≤ S3 3 3 + S3 7 11) ∧ (∀ i : Int, 0 ≤ i → i < S3 45 6 → T3 73 i = S3 49 i ∧ T3 74 i = S3 50 i ∧ 0 ≤ S3 49 i ∧ S3 49 i ≤ S3 3 3 ∧ 0 ≤ S3 50 i ∧ S3 50 i ≤ S3 7 11 ∧ i ≤ S3 49 i + S3 50 i ∧ (∀ j : Int, 0 ≤ j → j < i → S3 49 j ≤ S3 49 i ∧ S3 50 j ≤ S3 50 i)) := iG
    show (T6 51 34 = S6 45 6 ∧ 0 ≤ S6 45 6 ∧ S6 45 6 ≤ S6 3 3 + S6 7 11) ∧ (∀ i : Int, 0 ≤ i → i < S6 45 6 → T6 73 i = S6 49 i ∧ T6 74 i = S6 50 i ∧ 0 ≤ S6 49 i ∧ S6 49 i ≤ S6 3 3 ∧ 0 ≤ S6 50 i ∧ S6 50 i ≤ S6 7 11 ∧ i ≤ S6 49 i + S6 50 i ∧ (∀ j : Int, 0 ≤ j → j < i → S6 49 j ≤ S6 49 i ∧ S6 50 j ≤ S6 50 i))
    rw [f49, f50, f73, f74, f45, f34, c1, c3]
    exact z
  · show gReg (S6 2) (S6 4) (S6 18) ∧ S6 17 9 = zsum (fun c => if S6 18 c = c then 1 else 0) 192
    rw [oS 2 (by decide), e4, oS 18 (by decide), oS 17 (by decide)]
    exact iE
  · have k1 : iTak S3 := iK
    obtain ⟨k2, k3, k4, k5⟩ := k1
    show iTak S6
    refine ⟨?_, fun c q0 q1 => ?_, ?_, fun r k q0 q1 h0 h1 => ?_⟩
    · rw [oS 2 (by decide), e4, e11, oS 19 (by decide)]
      exact k2
    · have z := k3 c q0 q1
      rw [oS 2 (by decide), oS 19 (by decide), c3]
      refine ⟨z.1, fun q => ?_⟩
      rcases z.2 q with z | ⟨r, k, z1, z2, z3, z4, z5⟩
      · exact Or.inl z
      · exact Or.inr ⟨r, k, z1, z2, z3, by rw [(rows r z1 z2).1]; exact z4, z5⟩
    · rw [oS 17 (by decide), oS 19 (by decide)]
      exact k4
    · rw [c3] at q1
      rw [(rows r q0 q1).1] at h1
      rw [(rows r q0 q1).2 k h0 h1, oS 21 (by decide), oS 19 (by decide), oS 2 (by decide)]
      exact k5 r k q0 q1 h0 h1
  · have k1 : iBrd S3 := iBr
    show iBrd S6
    intro r q0 q1
    rw [c3] at q1
    have z := k1 r q0 q1
    have rw10 := (rows r q0 q1).1
    have rc := (rows r q0 q1).2
    have r2 := hR.2.1 r q0 q1
    rw [rc 0 (Int.le_refl _) (by omega), oS 29 (by decide), oS 30 (by decide), oS 31 (by decide), oS 21 (by decide), oS 12 (by decide)]
    refine ⟨z.1, fun k k0 k1 => ?_⟩
    rw [rw10] at k1
    rw [rc k (by omega) k1, rc (k - 1) (by omega) (by omega)]
    exact z.2 k k0 k1
end SD
