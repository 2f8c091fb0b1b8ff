/-! a parting's sides and corners: the reference -/
def sdR (S T : HS) : Prop := ∀ s : Int, 0 ≤ s → s < 412 → sdM T s = S 4 s + 1 ∧ -1 ≤ S 4 s
section PU
variable {S T B : HS}
theorem sdR.m (h : sdR S T) : (∀ s : Int, 0 ≤ s → s < 208 → T 63 s = S 4 s + 1 ∧ -1 ≤ S 4 s) ∧ (∀ s : Int, 0 ≤ s → s < 204 → T 64 s = S 4 (208 + s) + 1 ∧ -1 ≤ S 4 (208 + s)) := by
  refine ⟨fun s s0 s1 => ?_, fun s s0 s1 => ?_⟩
  · have z := h s s0 (by omega)
    unfold sdM at z
    rw [if_neg (by omega)] at z
    exact z
  · have z := h (208 + s) (by omega) (by omega)
    unfold sdM at z
    rw [if_pos (by omega), show 208 + s - 208 = s by omega] at z
    exact z
theorem sid_b {X Y X' Y' : Int} (h : pIn 17 13 X Y) (h' : pIn 17 13 X' Y') : 0 ≤ sid X Y X' Y' ∧ sid X Y X' Y' < 412 := by
  unfold pIn at h h'
  unfold sid
  split <;> omega
theorem m_sideAt {j : Int} (j0 : 0 ≤ j ∧ j + 1 < 4100) (h : pIn 17 13 (B 61 j) (B 62 j)) (h' : pIn 17 13 (B 61 (j + 1)) (B 62 (j + 1))) : M_X12_sideAt j B = some (sT B j, B) := by
  unfold pIn at h h'
  unfold M_X12_sideAt M_X12_isFlat sT sid
  rw [zg_in (by omega), zg_in (by omega), m_least, zb_some, zg_in (by omega), zg_in (by omega), m_least, zb_some, zg_in (by omega), zg_in (by omega)]
  by_cases g : B 62 j = B 62 (j + 1)
  · rw [if_pos g, zb_some, if_neg (by decide), if_pos g, zl_in (by omega)]
    have e : 16 * min (B 62 j) (B 62 (j + 1)) + min (B 61 j) (B 61 (j + 1)) = 16 * B 62 j + min (B 61 j) (B 61 (j + 1)) := by omega
    rw [e]
  · rw [if_neg g, zb_some, if_pos rfl, if_neg g, zl_in (by omega)]
theorem onP_4 {X Y : Int} (h : pIn 17 13 X Y) : onP S X Y ↔ (0 < X ∧ S 4 (16 * Y + X - 1) ≠ -1) ∨ (X < 16 ∧ S 4 (16 * Y + X) ≠ -1) ∨ (0 < Y ∧ S 4 (17 * (Y - 1) + X + 208) ≠ -1) ∨ (Y < 12 ∧ S 4 (17 * Y + X + 208) ≠ -1) := by
  unfold pIn at h
  unfold onP pIn sid
  have a0 : gAcr 0 = 0 := rfl
  have b0 : gDwn 0 = -1 := rfl
  have a1 : gAcr 1 = 0 := rfl
  have b1 : gDwn 1 = 1 := rfl
  have a2 : gAcr 2 = -1 := rfl
  have b2 : gDwn 2 = 0 := rfl
  have a3 : gAcr 3 = 1 := rfl
  have b3 : gDwn 3 = 0 := rfl
  constructor
  · rintro ⟨w, w0, w1, w2, w3⟩
    have hc : w = 0 ∨ w = 1 ∨ w = 2 ∨ w = 3 := by omega
    rcases hc with rfl | rfl | rfl | rfl
    · rw [a0, b0] at w2 w3
      rw [if_neg (by omega)] at w3
      right; right; left
      refine ⟨by omega, ?_⟩
      rw [show 17 * (Y - 1) + X + 208 = 208 + 17 * min Y (Y + -1) + min X (X + 0) by omega]
      exact w3
    · rw [a1, b1] at w2 w3
      rw [if_neg (by omega)] at w3
      right; right; right
      refine ⟨by omega, ?_⟩
      rw [show 17 * Y + X + 208 = 208 + 17 * min Y (Y + 1) + min X (X + 0) by omega]
      exact w3
    · rw [a2, b2] at w2 w3
      rw [if_pos (by omega)] at w3
      left
      refine ⟨by omega, ?_⟩
      rw [show 16 * Y + X - 1 = 16 * Y + min X (X + -1) by omega]
      exact w3
    · rw [a3, b3] at w2 w3
      rw [if_pos (by omega)] at w3
      right; left
      refine ⟨by omega, ?_⟩
      rw [show 16 * Y + X = 16 * Y + min X (X + 1) by omega]
      exact w3
  · rintro (⟨g, z⟩ | ⟨g, z⟩ | ⟨g, z⟩ | ⟨g, z⟩)
    · refine ⟨2, by decide, by decide, ?_, ?_⟩
      · rw [a2, b2]
        omega
      · rw [a2, b2, if_pos (by omega), show 16 * Y + min X (X + -1) = 16 * Y + X - 1 by omega]
        exact z
    · refine ⟨3, by decide, by decide, ?_, ?_⟩
      · rw [a3, b3]
        omega
      · rw [a3, b3, if_pos (by omega), show 16 * Y + min X (X + 1) = 16 * Y + X by omega]
        exact z
    · refine ⟨0, by decide, by decide, ?_, ?_⟩
      · rw [a0, b0]
        omega
      · rw [a0, b0, if_neg (by omega), show 208 + 17 * min Y (Y + -1) + min X (X + 0) = 17 * (Y - 1) + X + 208 by omega]
        exact z
    · refine ⟨1, by decide, by decide, ?_, ?_⟩
      · rw [a1, b1]
        omega
      · rw [a1, b1, if_neg (by omega), show 208 + 17 * min Y (Y + 1) + min X (X + 0) = 17 * Y + X + 208 by omega]
        exact z
theorem m_onPart {X Y : Int} (h : pIn 17 13 X Y) (hd : sdR S B) : ∃ r : Int, M_X12_isOnParting X Y B = some (r, B) ∧ (r = 0 ∨ r = 1) ∧ (r = 1 ↔ onP S X Y) := by
  obtain ⟨d3, d4⟩ := hd.m
  have hp := onP_4 (S := S) h
  unfold pIn at h
  have one : onP S X Y → ∃ r : Int, J_X12_isOnParting_90 B = some (r, B) ∧ (r = 0 ∨ r = 1) ∧ (r = 1 ↔ onP S X Y) := fun z => ⟨1, rfl, Or.inr rfl, fun _ => z, fun _ => rfl⟩
  have j70 : ¬ (0 < X ∧ S 4 (16 * Y + X - 1) ≠ -1) → ¬ (X < 16 ∧ S 4 (16 * Y + X) ≠ -1) → ¬ (0 < Y ∧ S 4 (17 * (Y - 1) + X + 208) ≠ -1) → ∃ r : Int, J_X12_isOnParting_70 X Y B = some (r, B) ∧ (r = 0 ∨ r = 1) ∧ (r = 1 ↔ onP S X Y) := by
    intro n1 n2 n3
    unfold J_X12_isOnParting_70
    have zero : ¬ (Y < 12 ∧ S 4 (17 * Y + X + 208) ≠ -1) → ∃ r : Int, some ((0 : Int), B) = some (r, B) ∧ (r = 0 ∨ r = 1) ∧ (r = 1 ↔ onP S X Y) := fun n4 => ⟨0, rfl, Or.inl rfl, fun z => by omega, fun z => by
      rcases hp.mp z with q | q | q | q
      · exact absurd q n1
      · exact absurd q n2
      · exact absurd q n3
      · exact absurd q n4⟩
    by_cases g : 12 ≤ Y
    · rw [if_pos g]
      exact zero (fun z => by omega)
    · have e := d4 (17 * Y + X) (by omega) (by omega)
      rw [show 208 + (17 * Y + X) = 17 * Y + X + 208 by omega] at e
      rw [if_neg g, zg_in (by omega), e.1]
      by_cases g2 : S 4 (17 * Y + X + 208) + 1 ≤ 0
      · rw [if_pos g2]
        exact zero (fun z => by omega)
      · rw [if_neg g2]
        exact one (hp.mpr (Or.inr (Or.inr (Or.inr ⟨by omega, by omega⟩))))
  have j44 : ¬ (0 < X ∧ S 4 (16 * Y + X - 1) ≠ -1) → ¬ (X < 16 ∧ S 4 (16 * Y + X) ≠ -1) → ∃ r : Int, J_X12_isOnParting_44 X Y B = some (r, B) ∧ (r = 0 ∨ r = 1) ∧ (r = 1 ↔ onP S X Y) := by
    intro n1 n2
    unfold J_X12_isOnParting_44 J_X12_isOnParting_45
    rw [if_pos rfl]
    by_cases g : Y ≤ 0
    · rw [if_pos g]
      exact j70 n1 n2 (fun z => by omega)
    · have e := d4 (17 * (Y - 1) + X) (by omega) (by omega)
      rw [show 208 + (17 * (Y - 1) + X) = 17 * (Y - 1) + X + 208 by omega] at e
      rw [if_neg g, zg_in (by omega), e.1]
      by_cases g2 : 0 < S 4 (17 * (Y - 1) + X + 208) + 1
      · rw [if_pos g2]
        exact one (hp.mpr (Or.inr (Or.inr (Or.inl ⟨by omega, by omega⟩))))
      · rw [if_neg g2]
        exact j70 n1 n2 (fun z => by omega)
  have j40 : onP S X Y → ∃ r : Int, J_X12_isOnParting_40 X Y B = some (r, B) ∧ (r = 0 ∨ r = 1) ∧ (r = 1 ↔ onP S X Y) := by
    intro z
    unfold J_X12_isOnParting_40 J_X12_isOnParting_45
    rw [if_neg (by decide)]
    exact one z
  have j20 : ¬ (0 < X ∧ S 4 (16 * Y + X - 1) ≠ -1) → ∃ r : Int, J_X12_isOnParting_20 X Y B = some (r, B) ∧ (r = 0 ∨ r = 1) ∧ (r = 1 ↔ onP S X Y) := by
    intro n1
    unfold J_X12_isOnParting_20
    by_cases g : 16 ≤ X
    · rw [if_pos g]
      exact j44 n1 (fun z => by omega)
    · have e := d3 (16 * Y + X) (by omega) (by omega)
      rw [if_neg g, zg_in (by omega), e.1]
      by_cases g2 : S 4 (16 * Y + X) + 1 ≤ 0
      · rw [if_pos g2]
        exact j44 n1 (fun z => by omega)
      · rw [if_neg g2]
        exact j40 (hp.mpr (Or.inr (Or.inl ⟨by omega, by omega⟩)))
  unfold M_X12_isOnParting
  by_cases g : X ≤ 0
  · rw [if_pos g]
    exact j20 (fun z => by omega)
  · have e := d3 (16 * Y + X - 1) (by omega) (by omega)
    rw [if_neg g, zg_in (by omega), e.1]
    by_cases g2 : 0 < S 4 (16 * Y + X - 1) + 1
    · rw [if_pos g2]
      exact j40 (hp.mpr (Or.inl ⟨by omega, by omega⟩))
    · rw [if_neg g2]
      exact j20 (fun z => by omega)
theorem sT_eq (s : rSame [65, 66] T B) : sT B = sT T ∧ cT B = cT T ∧ (∀ n q : Int, cnT B n q = cnT T n q) := by
  have h1 : B 61 = T 61 := s 61 (by decide)
  have h2 : B 62 = T 62 := s 62 (by decide)
  have e : cT B = cT T := by
    funext j
    unfold cT
    rw [h1, h2]
  refine ⟨?_, e, fun n q => ?_⟩
  · funext j
    unfold sT
    rw [h1, h2]
  · unfold cnT
    rw [e]
theorem m_whyOut (h60 : T 51 22 ≠ 60) (hN : 0 ≤ T 51 19 ∧ T 51 19 ≤ 4001) {j : Int} (j0 : 0 ≤ j) (j1 : j < T 51 19) (hj : ¬ pIn 17 13 (T 61 j) (T 62 j)) : M_X12_whyNot T = some (1, T) := by
  refine zP_eq ?_
  unfold M_X12_whyNot
  rw [if_neg h60]
  refine zloop (b := T 51 19) (fun v A => (0 ≤ v ∧ v ≤ j) ∧ A = T) (fun n v A hJ hv => ?_) (fun n v A hJ hv ih => ?_) _ _ _ ⟨⟨Int.le_refl _, j0⟩, rfl⟩ (zbig (by omega))
  · obtain ⟨a, rfl⟩ := hJ
    omega
  · obtain ⟨a, rfl⟩ := hJ
    rw [L_X12_whyNot_14.eq_2, if_neg (by omega), zg_in (by omega), zg_in (by omega), zg_in (by omega), zg_in (by omega)]
    by_cases g1 : A 61 v < 0
    · rw [if_pos g1, zP_ret]
      exact ⟨rfl, rfl⟩
    · rw [if_neg g1]
      by_cases g2 : 16 < A 61 v
      · rw [if_pos g2, zP_ret]
        exact ⟨rfl, rfl⟩
      · rw [if_neg g2]
        by_cases g3 : A 62 v < 0
        · rw [if_pos g3, zP_ret]
          exact ⟨rfl, rfl⟩
        · rw [if_neg g3]
          by_cases g4 : A 62 v ≤ 12
          · rw [if_pos g4, zl_in (by omega)]
            have ne : v ≠ j := by
              rintro rfl
              exact hj (by unfold pIn; omega)
            exact ih _ ⟨by omega, rfl⟩
          · rw [if_neg g4, zP_ret]
            exact ⟨rfl, rfl⟩
theorem m_whyNot (hN : 1 ≤ T 51 19 ∧ T 51 19 ≤ 4001) (hin : ∀ j : Int, 0 ≤ j → j < T 51 19 → pIn 17 13 (T 61 j) (T 62 j)) (hd : sdR S T) : zP (M_X12_whyNot T) (fun r B => rSame [65, 66] T B ∧ (T 51 22 = 60 → r = 9) ∧ (T 51 22 ≠ 60 → (T 51 19 = 1 → r = 2) ∧ (T 51 19 ≠ 1 → (bad3 S T (T 51 19) → r = 3) ∧ (¬ bad3 S T (T 51 19) → T 51 19 ≤ 413 ∧ (bad4 S T (T 51 19) → r = 4) ∧ (¬ bad4 S T (T 51 19) → r = 0))))) := by
  unfold M_X12_whyNot
  by_cases h60 : T 51 22 = 60
  · rw [if_pos h60, zP_ret]
    exact ⟨rSame.rf, fun _ => rfl, fun z => absurd h60 z⟩
  · rw [if_neg h60]
    generalize hNN : T 51 19 = N at *
    refine zloop (b := N) (fun v A => (0 ≤ v ∧ v ≤ N) ∧ A = T) (fun n v A hJ hv => ?_) (fun n v A hJ hv ih => ?_) _ _ _ ⟨⟨Int.le_refl _, by omega⟩, rfl⟩ (zbig (by omega))
    · obtain ⟨a, rfl⟩ := hJ
      rw [L_X12_whyNot_14.eq_2, hNN, if_pos hv]
      by_cases g1 : N = 1
      · rw [if_pos g1, zP_ret]
        exact ⟨rSame.rf, fun z => absurd z h60, fun _ => ⟨fun _ => rfl, fun z => absurd g1 z⟩⟩
      · rw [if_neg g1]
        refine zloop (b := 412) (fun v C => (0 ≤ v ∧ v ≤ 412) ∧ rSame [65, 66] A C ∧ ∀ s : Int, 0 ≤ s → s < v → C 66 s = 0) (fun n v C hJ hv => ?_) (fun n v C hJ hv ih => ?_) _ _ _ ⟨⟨Int.le_refl _, by decide⟩, rSame.rf, fun s s0 s1 => by omega⟩ (zbig (by omega))
        · obtain ⟨a2, b2, c2⟩ := hJ
          rw [L_X12_whyNot_82.eq_2, if_pos hv]
          have z412 : zsum (C 66) 412 = 0 := zsum_0 (fun i i0 i1 => c2 i i0 (by omega))
          refine zloop (b := N - 1) (fun v D => (0 ≤ v ∧ v ≤ N - 1) ∧ rSame [65, 66] A D ∧ (∀ s : Int, 0 ≤ s → s < 412 → (0 ≤ D 66 s ∧ D 66 s ≤ 1) ∧ (D 66 s = 1 ↔ ∃ i : Int, 0 ≤ i ∧ i < v ∧ sT A i = s)) ∧ zsum (D 66) 412 = v ∧ ¬ bad3 S A (v + 1)) (fun n v D hJ hv => ?_) (fun n v D hJ hv ih => ?_) _ _ _ ⟨⟨Int.le_refl _, by omega⟩, b2, fun s s0 s1 => ⟨by have := c2 s s0 (by omega); omega, fun z => by have := c2 s s0 (by omega); omega, fun ⟨i, i0, i1, _⟩ => by omega⟩, z412, fun ⟨j, j0, j1, _⟩ => by omega⟩ (zbig (by omega))
          · obtain ⟨a3, b3, c3, d3, e3⟩ := hJ
            have D19 : D 51 19 = N := by rw [b3 51 (by decide), hNN]
            have s412 := zsum_bd (f := D 66) (n := 412) (c := 1) (fun i i0 i1 => (c3 i i0 (by omega)).1)
            have ev : v + 1 = N := by omega
            rw [ev] at e3
            rw [L_X12_whyNot_104.eq_2, zl_in (by omega), D19, if_pos (by omega)]
            -- the corners
            refine zloop (b := 221) (fun v E => (0 ≤ v ∧ v ≤ 221) ∧ rSame [65, 66] A E ∧ ∀ s : Int, 0 ≤ s → s < v → E 65 s = 0) (fun n v E hJ hv => ?_) (fun n v E hJ hv ih => ?_) _ _ _ ⟨⟨Int.le_refl _, by decide⟩, b3, fun s s0 s1 => by omega⟩ (zbig (by omega))
            · obtain ⟨a4, b4, c4⟩ := hJ
              rw [L_X12_whyNot_160.eq_2, if_pos hv]
              refine zloop (b := N) (fun v F => (0 ≤ v ∧ v ≤ N) ∧ rSame [65, 66] A F ∧ ∀ q : Int, 0 ≤ q → q < 221 → F 65 q = cnT A v q) (fun n v F hJ hv => ?_) (fun n v F hJ hv ih => ?_) _ _ _ ⟨⟨Int.le_refl _, by omega⟩, b4, fun q q0 q1 => by rw [c4 q q0 (by omega)]; rfl⟩ (zbig (by omega))
              · obtain ⟨a5, b5, c5⟩ := hJ
                have F19 : F 51 19 = N := by rw [b5 51 (by decide), hNN]
                have evN : v = N := by omega
                subst evN
                have f61 : F 61 = A 61 := b5 61 (by decide)
                have f62 : F 62 = A 62 := b5 62 (by decide)
                have dF : sdR S F := by
                  intro s s0 s1
                  have z := hd s s0 s1
                  unfold sdM at z ⊢
                  rw [b5 63 (by decide), b5 64 (by decide)]
                  exact z
                rw [L_X12_whyNot_182.eq_2, F19, if_pos hv]
                refine zloop (b := v - 1) (fun u G => (1 ≤ u ∧ u ≤ v - 1) ∧ G = F ∧ ∀ j : Int, 1 ≤ j → j < u → ¬ (1 < cnT A v (cT A j) ∨ onP S (A 61 j) (A 62 j))) (fun n u G hJ hu => ?_) (fun n u G hJ hu ih => ?_) _ _ _ ⟨⟨Int.le_refl _, by omega⟩, rfl, fun j j0 j1 => by omega⟩ (zbig (by omega))
                · obtain ⟨x, rfl, z⟩ := hJ
                  rw [L_X12_whyNot_223.eq_2, zl_in (by omega), F19, if_pos (by omega), zP_ret]
                  refine ⟨b5, fun z => absurd z h60, fun _ => ⟨fun z => absurd z g1, fun _ => ⟨fun y => absurd y e3, fun _ => ⟨by omega, fun ⟨j, j0, j1, y⟩ => absurd y (z j j0 (by omega)), fun _ => rfl⟩⟩⟩⟩
                · obtain ⟨x, rfl, z⟩ := hJ
                  have pin := hin u (by omega) (by omega)
                  have cr : 17 * A 62 u + A 61 u = cT A u := rfl
                  have pin' := pin
                  unfold pIn at pin'
                  have cb : 0 ≤ cT A u ∧ cT A u < 221 := by
                    rw [← cr]
                    omega
                  have four : (1 < cnT A v (cT A u) ∨ onP S (A 61 u) (A 62 u)) → rSame [65, 66] A G ∧ (A 51 22 = 60 → (4 : Int) = 9) ∧ (A 51 22 ≠ 60 → (v = 1 → (4 : Int) = 2) ∧ (v ≠ 1 → (bad3 S A v → (4 : Int) = 3) ∧ (¬ bad3 S A v → v ≤ 413 ∧ (bad4 S A v → (4 : Int) = 4) ∧ (¬ bad4 S A v → (4 : Int) = 0)))) := by
                    intro y
                    exact ⟨b5, fun z => absurd z h60, fun _ => ⟨fun z => absurd z g1, fun _ => ⟨fun q => absurd q e3, fun _ => ⟨by omega, fun _ => rfl, fun q => absurd ⟨u, by omega, by omega, y⟩ q⟩⟩⟩⟩
                  obtain ⟨r, er, r01, r1⟩ := m_onPart pin dF
                  rw [L_X12_whyNot_223.eq_2, zl_in (by omega), F19, if_neg (by omega), zg_in (by omega), zg_in (by omega), f61, f62, er, zb_some]
                  by_cases g : onP S (A 61 u) (A 62 u)
                  · rw [r1.mpr g, if_neg (by decide), zP_ret]
                    exact four (Or.inr g)
                  · have r0 : r = 0 := by
                      rcases r01 with q | q
                      · exact q
                      · exact absurd (r1.mp q) g
                    rw [r0, if_pos rfl, zg_in (by omega), zg_in (by omega), f61, f62, cr, zg_in cb, c5 _ cb.1 cb.2]
                    by_cases g2 : cnT A v (cT A u) ≤ 1
                    · rw [if_pos g2, zl_in (by omega)]
                      refine ih _ ⟨by omega, rfl, fun j j0 j1 => ?_⟩
                      by_cases q : j = u
                      · rw [q]
                        exact fun y => y.elim (fun y => by omega) g
                      · exact z j j0 (by omega)
                    · rw [if_neg g2, zP_ret]
                      exact four (Or.inl (by omega))
              · obtain ⟨a5, b5, c5⟩ := hJ
                have F19 : F 51 19 = N := by rw [b5 51 (by decide), hNN]
                have f61 : F 61 = A 61 := b5 61 (by decide)
                have f62 : F 62 = A 62 := b5 62 (by decide)
                have pin := hin v a5.1 hv
                have cr : 17 * A 62 v + A 61 v = cT A v := rfl
                unfold pIn at pin
                have cb : 0 ≤ cT A v ∧ cT A v < 221 := by
                  rw [← cr]
                  omega
                have bd := cnT_r (T := A) (q := cT A v) a5.1
                rw [L_X12_whyNot_182.eq_2, F19, if_neg (by omega), zg_in (by omega), zg_in (by omega), f61, f62, cr, zg_in cb, c5 _ cb.1 cb.2, zl_in (by omega), zg_in cb, zs_in, zl_in (by omega)]
                refine ih _ ⟨by omega, b5.up (by decide), fun q q0 q1 => ?_⟩
                rw [up_same, cnT_n a5.1]
                by_cases e : q = cT A v
                · rw [if_pos e, if_pos e.symm, e]
                · rw [if_neg e, if_neg (fun z => e z.symm), c5 q q0 q1]
                  omega
            · obtain ⟨a4, b4, c4⟩ := hJ
              rw [L_X12_whyNot_160.eq_2, if_neg (by omega), zg_in (by omega), zs_in, zl_in (by omega)]
              refine ih _ ⟨by omega, b4.up (by decide), fun s s0 s1 => ?_⟩
              rw [up_same]
              by_cases e : s = v
              · rw [if_pos e]
              · rw [if_neg e]
                exact c4 s s0 (by omega)
          · obtain ⟨a3, b3, c3, d3, e3⟩ := hJ
            have D19 : D 51 19 = N := by rw [b3 51 (by decide), hNN]
            have d61 : D 61 = A 61 := b3 61 (by decide)
            have d62 : D 62 = A 62 := b3 62 (by decide)
            have p1 := hin v a3.1 (by omega)
            have p2 := hin (v + 1) (by omega) (by omega)
            have sa : M_X12_sideAt v D = some (sT A v, D) := by
              have z := m_sideAt (B := D) (j := v) (by omega) (by rw [d61, d62]; exact p1) (by rw [d61, d62]; exact p2)
              rw [(sT_eq b3).1] at z
              exact z
            have sr : 0 ≤ sT A v ∧ sT A v < 412 := sid_b p1 p2
            have sdD : sdM D (sT A v) = S 4 (sT A v) + 1 ∧ -1 ≤ S 4 (sT A v) := by
              have z := hd _ sr.1 sr.2
              unfold sdM at z ⊢
              rw [b3 63 (by decide), b3 64 (by decide)]
              exact z
            obtain ⟨c4, c5⟩ := c3 _ sr.1 sr.2
            have three : (S 4 (sT A v) ≠ -1 ∨ ∃ i : Int, 0 ≤ i ∧ i < v ∧ sT A i = sT A v) → rSame [65, 66] A D ∧ (A 51 22 = 60 → (3 : Int) = 9) ∧ (A 51 22 ≠ 60 → (N = 1 → (3 : Int) = 2) ∧ (N ≠ 1 → (bad3 S A N → (3 : Int) = 3) ∧ (¬ bad3 S A N → N ≤ 413 ∧ (bad4 S A N → (3 : Int) = 4) ∧ (¬ bad4 S A N → (3 : Int) = 0)))) := by
              intro y
              exact ⟨b3, fun z => absurd z h60, fun _ => ⟨fun z => absurd z g1, fun _ => ⟨fun _ => rfl, fun q => absurd ⟨v, a3.1, by omega, y⟩ q⟩⟩⟩
            rw [L_X12_whyNot_104.eq_2, zl_in (by omega), D19, if_neg (by omega), sa, zb_some, zg_in sr]
            by_cases g : D 66 (sT A v) = 0
            · rw [if_pos g, sa, zb_some, m_sideOf sr, zb_some, sdD.1]
              by_cases g2 : S 4 (sT A v) + 1 ≤ 0
              · rw [if_pos g2, sa, zb_some, zg_in sr, zs_in, zl_in (by omega)]
                refine ih _ ⟨by omega, b3.up (by decide), ?_, ?_, ?_⟩
                · exact mk_step (p := sT A) rfl c3 a3.1 (fun s => by rw [up_same])
                · rw [zsum_upd (f := D 66) (g := up D 66 (sT A v) 1 66) sr.1 (by omega) (fun i i0 i1 ne => by rw [up_same, if_neg ne]), up_eq, d3, g]
                  omega
                · rintro ⟨j, j0, j1, y⟩
                  by_cases q : j = v
                  · subst q
                    rcases y with y | ⟨i, i0, i1, i2⟩
                    · omega
                    · have := c5.mpr ⟨i, i0, i1, i2⟩
                      omega
                  · exact e3 ⟨j, j0, by omega, y⟩
              · rw [if_neg g2, zP_ret]
                exact three (Or.inl (by omega))
            · rw [if_neg g, zP_ret]
              exact three (Or.inr (c5.mp (by omega)))
        · obtain ⟨a2, b2, c2⟩ := hJ
          rw [L_X12_whyNot_82.eq_2, if_neg (by omega), zg_in (by omega), zs_in, zl_in (by omega)]
          refine ih _ ⟨by omega, b2.up (by decide), fun s s0 s1 => ?_⟩
          rw [up_same]
          by_cases e : s = v
          · rw [if_pos e]
          · rw [if_neg e]
            exact c2 s s0 (by omega)
    · obtain ⟨a, rfl⟩ := hJ
      have pin := hin v a.1 hv
      unfold pIn at pin
      rw [L_X12_whyNot_14.eq_2, hNN, if_neg (by omega), zg_in (by omega), if_neg (by omega), zg_in (by omega), if_neg (by omega), zg_in (by omega), if_neg (by omega), zg_in (by omega), if_pos (by omega), zl_in (by omega)]
      exact ih _ ⟨by omega, rfl⟩
end PU
