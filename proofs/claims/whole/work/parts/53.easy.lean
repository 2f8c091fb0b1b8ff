/-! the calls that need little -/
theorem zif10 {p : Prop} [Decidable p] : ((if p then (1 : Int) else 0) = 0) ↔ ¬ p := by
  split <;> simp [*]
theorem zcallQ {A1 A2 : List Nat} {O1 O2 : List (Nat × Int)} {S : HS} {m1 : zO2} {m2 : HS → zO2} {B1 B2 : Int → Prop} (hW : WR shF S) (w1 : zW A1 O1 B1 S m1) (w2 : ∀ T, WR shF T → zW A2 O2 B2 T (m2 T)) (h : zP m1 (fun r T => WR shF T → zP (m2 T) (fun r' U => r' = r ∧ iAll U))) : ∃ (r : Int) (S1 S2 : HS), m1 = some (r, S1) ∧ WR shF S1 ∧ m2 S1 = some (r, S2) ∧ Inv S2 := by
  obtain ⟨r, S1, e1, h⟩ := h
  obtain ⟨-, W1, -⟩ := w1 r S1 e1
  obtain ⟨r', S2, e2, q2, I2⟩ := h W1
  obtain ⟨-, W2, -⟩ := w2 S1 W1 r' S2 e2
  subst q2
  exact ⟨r', S1, S2, e1, W1, e2, W2, I2⟩
set_option maxHeartbeats 1000000 in
theorem ok_1 {S : HS} (hI : Inv S) : OK_1 Inv S := by
  intro q1 hq
  obtain ⟨hW, iL, iT, iW, iP, iR, iM, iA, iG, iC, iE, iK, iB⟩ := hI
  obtain ⟨l1, l2, l3, l4, l5, l6⟩ := id iL
  have p1 := iP.2.1
  have r1 := iR.1.1
  refine zcallQ hW (W_M_X11_length hq hW) (fun T w => W_M_X12_length hq w) ?_
  unfold M_X11_length M_X12_length
  simp only [zP_zl, zP_zl6, zP_zg, zP_zs, zP_zb, zP_ite, zP_ret, zP_none, e_isLength, e_untouched, m_mayTell, zif10]
  have k : iAll (up S 51 0 0) := ⟨iL, iT, iW, iP, iR, iM, iA, iG, iC, iE, iK, iB⟩
  have k2 : 20 ≤ q1 → q1 ≤ 2000 → iAll (up (up (up S 1 1 q1) 51 0 0) 51 37 q1) := fun a b => ⟨⟨rfl, a, b, l4, l5, l6⟩, iT, iW, iP, iR, iM, iA, iG, iC, iE, iK, iB⟩
  simp only [up_eq, up_ne, up_nf, Nat.reduceBEq, Int.reduceBEq, true_and, and_true]
  repeat' (first | intro _ | with_reducible apply And.intro)
  all_goals first | trivial | exact k | (exfalso; omega) | exact k2 (by omega) (by omega)
set_option maxHeartbeats 1000000 in
theorem ok_21 {S : HS} (hI : Inv S) : OK_21 Inv S := by
  intro q1 hq
  obtain ⟨hW, iL, iT, iW, iP, iR, iM, iA, iG, iC, iE, iK, iB⟩ := hI
  obtain ⟨l1, l2, l3, l4, l5, l6⟩ := id iL
  refine zcallQ hW (W_M_X11_weeks hq hW) (fun T w => W_M_X12_weeks hq w) ?_
  unfold M_X11_weeks M_X12_weeks M_X2_grow
  simp only [zP_zl, zP_zl6, zP_zg, zP_zs, zP_zb, zP_ite, zP_ret, zP_none, m_least]
  have k : iAll (up S 51 0 0) := ⟨iL, iT, iW, iP, iR, iM, iA, iG, iC, iE, iK, iB⟩
  simp only [up_eq, up_ne, up_nf, Nat.reduceBEq, Int.reduceBEq, true_and, and_true, l1, l4]
  have k2 : 0 ≤ q1 → S 1 2 + q1 ≤ 99 → iAll (up (up (up (up (up S 1 2 (S 1 2 + q1)) 1 1 (min 2000 (S 1 1 + 3 * q1))) 51 0 0) 51 38 (S 1 2 + q1)) 51 37 (min 2000 (S 1 1 + 3 * q1))) := by
    intro a b
    have i1 : iLen (up (up (up (up (up S 1 2 (S 1 2 + q1)) 1 1 (min 2000 (S 1 1 + 3 * q1))) 51 0 0) 51 38 (S 1 2 + q1)) 51 37 (min 2000 (S 1 1 + 3 * q1))) := by
      unfold iLen
      simp only [up_eq, up_ne, up_nf, Nat.reduceBEq, Int.reduceBEq, true_and, and_true]
      omega
    refine ⟨i1, iT, iW, iP, iR, ⟨fun r h0 hn => ?_, iM.2⟩, iA, iG, iC, iE, iK, iB⟩
    have := iM.1 r h0 hn
    simp only [up_eq, up_ne, up_nf, Nat.reduceBEq, Int.reduceBEq, true_and, and_true]
    omega
  repeat' (first | intro _ | with_reducible apply And.intro)
  all_goals first | trivial | exact k | (exfalso; omega) | omega | exact k2 (by omega) (by omega)
set_option maxHeartbeats 1000000 in
theorem ok_17 {S : HS} (hI : Inv S) : OK_17 Inv S := by
  intro q1 q2 q3 h1 h2 h3
  obtain ⟨hW, iL, iT, iW, iP, iR, iM, iA, iG, iC, iE, iK, iB⟩ := hI
  refine zcallQ hW (W_M_X11_hands h1 h2 h3 hW) (fun T w => W_M_X12_hands h1 h2 h3 w) ?_
  unfold M_X11_hands M_X12_hands M_X1_hire J_X1_hire_28 J_X12_hands_63
  simp only [zP_zl, zP_zl6, zP_zg, zP_zs, zP_zb, zP_ite, zP_ret, zP_none, e_isSpeed, zif10]
  have k : iAll (up S 51 0 0) := ⟨iL, iT, iW, iP, iR, iM, iA, iG, iC, iE, iK, iB⟩
  have k2 : ∀ v : Int, 1 ≤ q1 → q1 ≤ 3 → 0 ≤ q2 → q2 ≤ 3 → 0 ≤ v → v ≤ 3 → iAll (up (up (up (up (up (up (up S 34 0 q1) 34 1 q2) 34 2 v) 51 0 0) 89 0 q1) 89 1 q2) 89 2 v) := by
    intro v a b c d e f
    refine ⟨iL, iT, iW, iP, iR, iM, iA, iG, ⟨fun j j0 j3 => ?_, ?_⟩, iE, iK, iB⟩
    · have hj : j = 0 ∨ j = 1 ∨ j = 2 := by omega
      rcases hj with rfl | rfl | rfl <;> simp only [up_eq, up_ne, up_nf, Nat.reduceBEq, Int.reduceBEq, true_and, and_true] <;> omega
    · simp only [up_eq, up_ne, up_nf, Nat.reduceBEq, Int.reduceBEq, true_and, and_true]
      omega
  repeat' (first | intro _ | with_reducible apply And.intro)
  all_goals first | trivial | exact k | (exfalso; omega) | omega | exact k2 _ (by omega) (by omega) (by omega) (by omega) (by omega) (by omega)
