/-! a parting, by both -/
def hyb (S T : HS) : HS := fun k => if k ≤ 50 then S k else T k
theorem hyb_fr {A1 A2 : List Nat} {O1 O2 : List (Nat × Int)} {S T S' T' : HS} (h1 : zFr A1 O1 S S') (h2 : zFr A2 O2 T T') : zFr (A1 ++ A2) (O1 ++ O2) (hyb S T) (hyb S' T') := by
  intro k i a b
  unfold hyb
  by_cases g : k ≤ 50
  · rw [if_pos g, if_pos g]
    exact h1 k i (fun z => a (by simp [z])) (fun z => b (by simp [z]))
  · rw [if_neg g, if_neg g]
    exact h2 k i (fun z => a (by simp [z])) (fun z => b (by simp [z]))
theorem hyb_c {S T : HS} {k : Nat} (h : k ≤ 50) : hyb S T k = S k := if_pos h
theorem hyb_m {S T : HS} {k : Nat} (h : ¬ k ≤ 50) : hyb S T k = T k := if_neg h
section PV
variable {S T A B : HS}
theorem sdR_of (h : rHP (hyb S T)) : sdR S T := by
  obtain ⟨-, h2, h3, h4⟩ := h
  intro s s0 s1
  have z := h4 s s0 s1
  unfold sdM
  by_cases g : 208 ≤ s
  · rw [if_pos g]
    exact ⟨h3 s g s1, z.1⟩
  · rw [if_neg g]
    exact ⟨h2 s s0 (by omega), z.1⟩
theorem e_put5 (hC : wkC S T) (n1 : 1 ≤ S 46 7) (h33 : 0 ≤ S 3 3 ∧ S 3 3 ≤ 60) (s : rSame [5, 6] S A) : zP (M_X5_put A) (fun r C => r = 0 ∧ C 3 3 = S 3 3 + 1 ∧ (∀ s : Int, ((∃ j : Int, 0 ≤ j ∧ j + 1 < S 46 7 ∧ sT T j = s) → C 4 s = S 3 3) ∧ (¬ (∃ j : Int, 0 ≤ j ∧ j + 1 < S 46 7 ∧ sT T j = s) → C 4 s = S 4 s)) ∧ zFr [4, 5, 6] [(3, 3)] S C) := by
  have n0 := hC.1
  unfold M_X5_put
  refine zloop (b := S 46 7) (fun v C => (1 ≤ v ∧ v ≤ S 46 7) ∧ rSame [4, 5, 6] S C ∧ ∀ s : Int, ((∃ j : Int, 0 ≤ j ∧ j + 1 < v ∧ sT T j = s) → C 4 s = S 3 3) ∧ (¬ (∃ j : Int, 0 ≤ j ∧ j + 1 < v ∧ sT T j = s) → C 4 s = S 4 s)) (fun n v C hJ hv => ?_) (fun n v C hJ hv ih => ?_) _ _ _ ⟨⟨Int.le_refl _, n1⟩, s.mono (by decide), fun q => ⟨fun ⟨j, j0, j1, _⟩ => by omega, fun _ => by rw [s 4 (by decide)]⟩⟩ (zbig (by omega))
  · obtain ⟨a, b, c⟩ := hJ
    have h46 : C 46 = S 46 := b 46 (by decide)
    have h3 : C 3 = S 3 := b 3 (by decide)
    have ev : v = S 46 7 := by omega
    subst ev
    rw [L_X5_put_2.eq_2, h46, if_pos hv, h3, zl_in (by omega), zs_in, zP_ret]
    refine ⟨rfl, up_eq .., fun s => ?_, zfr_upO (zFr.mono (by decide) (by decide) b.fr) (by decide)⟩
    rw [up_cell _ (by decide)]
    exact c s
  · obtain ⟨a, b, c⟩ := hJ
    have h46 : C 46 = S 46 := b 46 (by decide)
    have h3 : C 3 = S 3 := b 3 (by decide)
    have r := sT_r hC (j := v - 1) (by omega) (by omega)
    rw [L_X5_put_2.eq_2, h46, if_neg (by omega), e_sideTo hC b a.1 hv, zb_some, e_isSide, zb_some, zif1 r, if_neg (by decide), zg_in r, zs_in]
    unfold J_X5_put_33
    rw [zl_in (by omega)]
    refine ih _ ⟨by omega, b.up (by decide), fun s => ?_⟩
    rw [up_same, h3]
    by_cases e : s = sT T (v - 1)
    · rw [if_pos e]
      exact ⟨fun _ => rfl, fun z => absurd ⟨v - 1, by omega, by omega, e.symm⟩ z⟩
    · rw [if_neg e]
      refine ⟨fun ⟨j, j0, j1, z⟩ => (c s).1 ⟨j, j0, ?_, z⟩, fun z => (c s).2 (fun ⟨j, j0, j1, y⟩ => z ⟨j, j0, by omega, y⟩)⟩
      by_cases q : j = v - 1
      · rw [q] at z
        exact absurd z.symm e
      · omega
theorem m_part (hN : 1 ≤ T 51 19 ∧ T 51 19 ≤ 4001) (hin : ∀ j : Int, 0 ≤ j → j < T 51 19 → pIn 17 13 (T 61 j) (T 62 j)) (h22 : 0 ≤ T 51 22 ∧ T 51 22 < 60) (s : rSame [65, 66] T A) (h0 : M_X12_whyNot T = some (0, A)) : zP (M_X12_parting T) (fun r C => r = 0 ∧ C 51 22 = T 51 22 + 1 ∧ (∀ s : Int, 0 ≤ s → s < 412 → ((∃ j : Int, 0 ≤ j ∧ j + 1 < T 51 19 ∧ sT T j = s) → sdM C s = T 51 22 + 1) ∧ (¬ (∃ j : Int, 0 ≤ j ∧ j + 1 < T 51 19 ∧ sT T j = s) → sdM C s = sdM T s)) ∧ zFr [63, 64, 65, 66] [(51, 22)] T C) := by
  unfold M_X12_parting
  have a22 : A 51 22 = T 51 22 := by rw [s 51 (by decide)]
  rw [h0, zb_some, if_pos rfl, a22, zl_in (by omega), zs_in]
  generalize hA' : up A 51 22 (T 51 22 + 1) = A'
  have A22 : A' 51 22 = T 51 22 + 1 := by rw [← hA', up_eq]
  have A19 : A' 51 19 = T 51 19 := by rw [← hA', up_same, if_neg (by decide), s 51 (by decide)]
  have Ak : ∀ k : Nat, k ≠ 51 → k ∉ [65, 66] → A' k = T k := fun k h1 h2 => by
    funext q
    rw [← hA', up_cell _ h1, s k h2]
  have fA : zFr [63, 64, 65, 66] [(51, 22)] T A' := by
    rw [← hA']
    exact zfr_upO (zFr.mono (by decide) (by decide) s.fr) (by decide)
  refine zloop (b := T 51 19 - 1) (fun v C => (0 ≤ v ∧ v ≤ T 51 19 - 1) ∧ rSame [63, 64] A' C ∧ ∀ s : Int, 0 ≤ s → s < 412 → ((∃ j : Int, 0 ≤ j ∧ j < v ∧ sT T j = s) → sdM C s = T 51 22 + 1) ∧ (¬ (∃ j : Int, 0 ≤ j ∧ j < v ∧ sT T j = s) → sdM C s = sdM T s)) (fun n v C hJ hv => ?_) (fun n v C hJ hv ih => ?_) _ _ _ ⟨⟨Int.le_refl _, by omega⟩, rSame.rf, fun s s0 s1 => ⟨fun ⟨j, j0, j1, _⟩ => by omega, fun _ => ?_⟩⟩ (zbig (by omega))
  · obtain ⟨a, b, c⟩ := hJ
    have c19 : C 51 19 = T 51 19 := by rw [b 51 (by decide), A19]
    rw [L_X12_parting_21.eq_2, zl_in (by omega), c19, if_pos (by omega), zP_ret]
    refine ⟨rfl, by rw [b 51 (by decide), A22], fun s s0 s1 => ?_, zFr.trans fA (zFr.mono (by decide) (by decide) b.fr)⟩
    refine ⟨fun ⟨j, j0, j1, z⟩ => (c s s0 s1).1 ⟨j, j0, by omega, z⟩, fun z => (c s s0 s1).2 (fun ⟨j, j0, j1, y⟩ => z ⟨j, j0, by omega, y⟩)⟩
  · obtain ⟨a, b, c⟩ := hJ
    have c19 : C 51 19 = T 51 19 := by rw [b 51 (by decide), A19]
    have c22 : C 51 22 = T 51 22 + 1 := by rw [b 51 (by decide), A22]
    have c61 : C 61 = T 61 := (b 61 (by decide)).trans (Ak 61 (by decide) (by decide))
    have c62 : C 62 = T 62 := (b 62 (by decide)).trans (Ak 62 (by decide) (by decide))
    have p1 := hin v a.1 (by omega)
    have p2 := hin (v + 1) (by omega) (by omega)
    have sr : 0 ≤ sT T v ∧ sT T v < 412 := sid_b p1 p2
    have sa : M_X12_sideAt v C = some (sT T v, C) := by
      have z := m_sideAt (B := C) (j := v) (by omega) (by rw [c61, c62]; exact p1) (by rw [c61, c62]; exact p2)
      have e : sT C v = sT T v := by
        unfold sT
        rw [c61, c62]
      rw [e] at z
      exact z
    rw [L_X12_parting_21.eq_2, zl_in (by omega), c19, if_neg (by omega), sa, zb_some, c22, zP_zb]
    refine zP_mono (m_setSide sr) (fun _ D hD => ?_)
    obtain ⟨d1, d2⟩ := hD
    rw [zl_in (by omega)]
    refine ih _ ⟨by omega, b.trans d1, fun s s0 s1 => ?_⟩
    rw [d2 s s0 s1]
    by_cases e : s = sT T v
    · rw [if_pos e]
      exact ⟨fun _ => rfl, fun z => absurd ⟨v, a.1, by omega, e.symm⟩ z⟩
    · rw [if_neg e]
      refine ⟨fun ⟨j, j0, j1, z⟩ => (c s s0 s1).1 ⟨j, j0, ?_, z⟩, fun z => (c s s0 s1).2 (fun ⟨j, j0, j1, y⟩ => z ⟨j, j0, by omega, y⟩)⟩
      by_cases q : j = v
      · rw [q] at z
        exact absurd z.symm e
      · omega
  · unfold sdM
    rw [Ak 63 (by decide) (by decide), Ak 64 (by decide) (by decide)]
theorem m_partN {r : Int} (hr : r ≠ 0) (h : M_X12_whyNot T = some (r, A)) : M_X12_parting T = some (r, A) := by
  unfold M_X12_parting
  rw [h, zb_some, if_neg hr]
theorem bad_eq (h4 : A 4 = S 4) {n : Int} : (bad3 A T n ↔ bad3 S T n) ∧ (bad4 A T n ↔ bad4 S T n) := by
  unfold bad3 bad4 onP
  rw [h4]
  exact ⟨Iff.rfl, Iff.rfl⟩
theorem part_on {vx vy : Int} (hP : iPart (hyb S T)) (hR : wkR 17 13 S T vx vy) (hN : T 51 19 ≤ 4001) : ∃ (rc : Int) (A : HS) (rm : Int) (B : HS), M_X5_whyNot S = some (rc, A) ∧ M_X12_parting T = some (rm, B) ∧ ((rc = -1 ∧ rm = 0 ∧ ∃ A' : HS, M_X5_put A = some (0, A') ∧ S 3 3 < 60 ∧ A' 3 3 = S 3 3 + 1 ∧ B 51 22 = T 51 22 + 1 ∧ (∀ s : Int, A' 4 s = S 4 s ∨ (S 4 s = -1 ∧ A' 4 s = S 3 3 ∧ 0 ≤ s ∧ s < 412)) ∧ (∀ s : Int, 0 ≤ s → s < 412 → sdM B s = A' 4 s + 1) ∧ zFr [4, 5, 6] [(3, 3)] S A' ∧ zFr [63, 64, 65, 66] [(51, 22)] T B) ∨ ((1 ≤ rm ∧ rm ≤ 9) ∧ rc = rm ∧ rSame [5, 6] S A ∧ rSame [65, 66] T B)) := by
  have hP' := hP
  obtain ⟨hh, h22, h330, h33⟩ := hP'
  have h22' : T 51 22 = S 3 3 := h22
  have h330' : 0 ≤ S 3 3 := h330
  have h33' : S 3 3 ≤ 60 := h33
  have hd := sdR_of hh
  obtain ⟨⟨n1, e2, e3⟩, -, hc, hin, ⟨h60, h7⟩, hs⟩ := hR
  by_cases g60 : S 3 3 < 60
  · rcases hc with ⟨c8, c6, -, -⟩ | ⟨c8, c6, c9⟩
    · rw [c6] at hin h7
      have hC : wkC S T := ⟨by omega, fun j j0 j1 => ⟨hin j j0 (by omega), hs j j0 j1⟩⟩
      obtain ⟨rm, B, eB, sB, -, hB⟩ := m_whyNot ⟨n1, hN⟩ hin hd
      obtain ⟨hB1, hB2⟩ := hB (by omega)
      by_cases gN : T 51 19 = 1
      · have ec : M_X5_whyNot S = some (2, S) := by
          unfold M_X5_whyNot
          rw [if_pos g60, if_pos c8, if_neg (by omega)]
        have r2 := hB1 gN
        subst r2
        exact ⟨2, S, 2, B, ec, m_partN (by decide) eB, Or.inr ⟨by decide, rfl, rSame.rf, sB⟩⟩
      · obtain ⟨hB3, hB4⟩ := hB2 gN
        by_cases b3 : bad3 S T (T 51 19)
        · have r3 := hB3 b3
          subst r3
          have ec : ∃ A : HS, M_X5_whyNot S = some (3, A) ∧ rSame [5, 6] S A := by
            unfold M_X5_whyNot
            rw [if_pos g60, if_pos c8, if_pos (by omega)]
            by_cases g : S 46 6 ≤ 413
            · obtain ⟨r, A, eA, sA, r01, r1⟩ := e_usedSide hC g
              have e7 : S 46 7 = T 51 19 := by omega
              rw [e7] at r1
              have r1' := r1.mpr b3
              rw [eA, zb_some, r1', if_neg (by decide)]
              exact ⟨A, rfl, sA⟩
            · unfold M_X5_hasUsedSide
              rw [if_neg g, zb_some, if_neg (by decide)]
              exact ⟨S, rfl, rSame.rf⟩
          obtain ⟨A, eA, sA⟩ := ec
          exact ⟨3, A, 3, B, eA, m_partN (by decide) eB, Or.inr ⟨by decide, rfl, sA, sB⟩⟩
        · obtain ⟨n413, hB5, hB6⟩ := hB4 b3
          have e7 : S 46 7 = T 51 19 := by omega
          obtain ⟨r, A1, eA1, sA1, r01, r1⟩ := e_usedSide hC (by omega)
          rw [e7] at r1
          have r0 : r = 0 := by
            rcases r01 with q | q
            · exact q
            · exact absurd (r1.mp q) b3
          subst r0
          have k46 : A1 46 = S 46 := sA1 46 (by decide)
          have k47 : A1 47 = S 47 := sA1 47 (by decide)
          have k48 : A1 48 = S 48 := sA1 48 (by decide)
          have k4 : A1 4 = S 4 := sA1 4 (by decide)
          have hC1 : wkC A1 T := by
            unfold wkC wkS
            rw [k46, k47, k48]
            exact hC
          obtain ⟨r', A2, eA2, sA2, s01, s1⟩ := e_usedCorner hC1 (by rw [k46]; omega)
          have e7' : A1 46 7 = T 51 19 := by rw [k46, e7]
          rw [e7', (bad_eq k4).2] at s1
          have ec : M_X5_whyNot S = (if r' = 0 then some (-1, A2) else some (4, A2)) := by
            unfold M_X5_whyNot
            rw [if_pos g60, if_pos c8, if_pos (by omega), eA1, zb_some, if_pos rfl, eA2, zb_some]
          have s2 := sA1.trans sA2
          by_cases b4 : bad4 S T (T 51 19)
          · have r4 := hB5 b4
            subst r4
            rw [s1.mpr b4, if_neg (by decide)] at ec
            exact ⟨4, A2, 4, B, ec, m_partN (by decide) eB, Or.inr ⟨by decide, rfl, s2, sB⟩⟩
          · have r0 := hB6 b4
            subst r0
            have s0 : r' = 0 := by
              rcases s01 with q | q
              · exact q
              · exact absurd (s1.mp q) b4
            rw [s0, if_pos rfl] at ec
            obtain ⟨rp, A', eA', rfl, p1, p2, p3⟩ := e_put5 (A := A2) hC (by omega) ⟨h330', h33'⟩ s2
            obtain ⟨rq, C, eC, rfl, q1, q2, q3⟩ := m_part ⟨n1, hN⟩ hin (by omega) sB eB
            rw [e7] at p2
            refine ⟨-1, A2, 0, C, ec, eC, Or.inl ⟨rfl, rfl, A', eA', g60, p1, q1, fun s => ?_, fun s s0 s1 => ?_, p3, q3⟩⟩
            · by_cases q : ∃ j : Int, 0 ≤ j ∧ j + 1 < T 51 19 ∧ sT T j = s
              · right
                have z := (p2 s).1 q
                obtain ⟨j, j0, j1, rfl⟩ := q
                have sr := sT_r hC j0 (by omega)
                refine ⟨?_, z, sr.1, sr.2⟩
                by_cases y : S 4 (sT T j) = -1
                · exact y
                · exact absurd ⟨j, j0, j1, Or.inl y⟩ b3
              · left
                exact (p2 s).2 q
            · by_cases q : ∃ j : Int, 0 ≤ j ∧ j + 1 < T 51 19 ∧ sT T j = s
              · rw [(q2 s s0 s1).1 q, (p2 s).1 q, h22']
              · rw [(q2 s s0 s1).2 q, (p2 s).2 q, (hd s s0 s1).1]
    · have ec : M_X5_whyNot S = some (1, S) := by
        unfold M_X5_whyNot
        rw [if_pos g60, if_neg (by omega)]
      have em := m_whyOut (T := T) (by omega) ⟨by omega, hN⟩ h60 c6 c9
      exact ⟨1, S, 1, T, ec, m_partN (by decide) em, Or.inr ⟨by decide, rfl, rSame.rf, rSame.rf⟩⟩
  · have ec : M_X5_whyNot S = some (9, S) := by
      unfold M_X5_whyNot
      rw [if_neg g60]
    have em : M_X12_whyNot T = some (9, T) := by
      unfold M_X12_whyNot
      rw [if_pos (by omega)]
    exact ⟨9, S, 9, T, ec, m_partN (by decide) em, Or.inr ⟨by decide, rfl, rSame.rf, rSame.rf⟩⟩
end PV
