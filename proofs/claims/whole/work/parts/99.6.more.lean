/-! what holds when more is drawn -/
section SC
variable {S B F : HS}
theorem e_cut5' {p : Int} : zP (M_X5_cutTo p S) (fun r T => r = 0 ∧ T 3 3 = p ∧ (∀ s : Int, T 4 s = if 0 ≤ s ∧ s < 412 ∧ ¬ S 4 s < p then -1 else S 4 s) ∧ zFr [4] [(3, 3)] S T) := by
  unfold M_X5_cutTo
  refine zloop (b := 412) (fun v T => (0 ≤ v ∧ v ≤ 412) ∧ rSame [4] S T ∧ ∀ s : Int, T 4 s = if 0 ≤ s ∧ s < v ∧ ¬ S 4 s < p then -1 else S 4 s) (fun n v T hJ hv => ?_) (fun n v T hJ hv ih => ?_) _ _ _ ⟨⟨Int.le_refl _, by decide⟩, fun _ _ => rfl, fun s => by rw [if_neg (by omega)]⟩ (zbig (by decide))
  · obtain ⟨a, b, c⟩ := hJ
    have ev : v = 412 := by omega
    rw [ev] at c
    rw [L_X5_cutTo_2.eq_2, if_pos hv, zs_in, zP_ret]
    refine ⟨rfl, up_eq .., fun s => ?_, zfr_upO (zFr.mono (by decide) (by decide) b.fr) (by decide)⟩
    rw [up_cell _ (by decide), c]
  · obtain ⟨a, b, c⟩ := hJ
    have cv := c v
    rw [if_neg (by omega)] at cv
    rw [L_X5_cutTo_2.eq_2]
    unfold J_X5_cutTo_26
    rw [if_neg (by omega), zg_in (by omega), cv]
    by_cases g : S 4 v < p
    · rw [if_pos g, zl_in (by omega)]
      refine ih _ ⟨by omega, b, fun s => ?_⟩
      rw [c]
      by_cases q : 0 ≤ s ∧ s < v ∧ ¬ S 4 s < p
      · rw [if_pos q, if_pos ⟨q.1, by omega, q.2.2⟩]
      · rw [if_neg q, if_neg]
        intro z
        by_cases e : s = v
        · subst e
          exact z.2.2 g
        · exact q ⟨z.1, by omega, z.2.2⟩
    · rw [if_neg g, zg_in (by omega), zs_in, zl_in (by omega)]
      refine ih _ ⟨by omega, b.up (by decide), fun s => ?_⟩
      rw [up_same]
      by_cases e : s = v
      · rw [if_pos e, e, if_pos ⟨a.1, by omega, g⟩]
      · rw [if_neg e, c]
        by_cases q : 0 ≤ s ∧ s < v ∧ ¬ S 4 s < p
        · rw [if_pos q, if_pos ⟨q.1, by omega, q.2.2⟩]
        · rw [if_neg q, if_neg (fun z => q ⟨z.1, by omega, z.2.2⟩)]
theorem e_cut6' {r : Int} (hr : 0 ≤ r ∧ r ≤ 24) : zP (M_X6_cutTo r S) (fun x T => x = 0 ∧ T 7 11 = r ∧ (∀ s : Int, T 11 s = if 0 ≤ s ∧ s < 192 ∧ ¬ S 11 s < 200 * r then -1 else S 11 s) ∧ zFr [11] [(7, 11)] S T) := by
  unfold M_X6_cutTo
  refine zloop (b := 192) (fun v T => (0 ≤ v ∧ v ≤ 192) ∧ rSame [11] S T ∧ ∀ s : Int, T 11 s = if 0 ≤ s ∧ s < v ∧ ¬ S 11 s < 200 * r then -1 else S 11 s) (fun n v T hJ hv => ?_) (fun n v T hJ hv ih => ?_) _ _ _ ⟨⟨Int.le_refl _, by decide⟩, fun _ _ => rfl, fun s => by rw [if_neg (by omega)]⟩ (zbig (by decide))
  · obtain ⟨a, b, c⟩ := hJ
    have ev : v = 192 := by omega
    rw [ev] at c
    rw [L_X6_cutTo_2.eq_2, if_pos hv, zs_in, zP_ret]
    refine ⟨rfl, up_eq .., fun s => ?_, zfr_upO (zFr.mono (by decide) (by decide) b.fr) (by decide)⟩
    rw [up_cell _ (by decide), c]
  · obtain ⟨a, b, c⟩ := hJ
    have cv := c v
    rw [if_neg (by omega)] at cv
    rw [L_X6_cutTo_2.eq_2]
    unfold J_X6_cutTo_30
    rw [if_neg (by omega), zg_in (by omega), zl_in (by omega), cv]
    by_cases g : S 11 v < 200 * r
    · rw [if_pos g, zl_in (by omega)]
      refine ih _ ⟨by omega, b, fun s => ?_⟩
      rw [c]
      by_cases q : 0 ≤ s ∧ s < v ∧ ¬ S 11 s < 200 * r
      · rw [if_pos q, if_pos ⟨q.1, by omega, q.2.2⟩]
      · rw [if_neg q, if_neg]
        intro z
        by_cases e : s = v
        · subst e
          exact z.2.2 g
        · exact q ⟨z.1, by omega, z.2.2⟩
    · rw [if_neg g, zg_in (by omega), zs_in, zl_in (by omega)]
      refine ih _ ⟨by omega, b.up (by decide), fun s => ?_⟩
      rw [up_same]
      by_cases e : s = v
      · rw [if_pos e, e, if_pos ⟨a.1, by omega, g⟩]
      · rw [if_neg e, c]
        by_cases q : 0 ≤ s ∧ s < v ∧ ¬ S 11 s < 200 * r
        · rw [if_pos q, if_pos ⟨q.1, by omega, q.2.2⟩]
        · rw [if_neg q, if_neg (fun z => q ⟨z.1, by omega, z.2.2⟩)]
/-- B is as it was, F has more -/
theorem rest_more (hB : iRest B) (hP : iPart F) (hR : iRow F) (hG : grw B B F F) (hk : ∀ k : Nat, k ∈ [1, 2, 12, 23, 24, 25, 26, 27, 34, 40, 41, 52, 56, 79, 80, 81, 82, 89] → F k = B k) (h712 : F 7 12 = B 7 12) (h51 : ∀ i : Int, i = 2 ∨ i = 37 ∨ i = 38 ∨ i = 43 ∨ i = 54 → F 51 i = B 51 i) : iLen F ∧ iTape F ∧ iWords F ∧ iPart F ∧ iRow F ∧ iMark F ∧ iAdd F ∧ iCrew F := by
  obtain ⟨iL, iT, iW, iP, iR, iM, iA, iG, iC⟩ := hB
  obtain ⟨g1, g2, g3, g4, g5⟩ := hG
  have b0 := iR.c.1
  refine ⟨?_, ?_, ?_, hP, hR, ?_, ?_, ?_⟩
  · unfold iLen
    rw [hk 1 (by decide), h51 37 (by simp), h51 38 (by simp)]
    exact iL
  · unfold iTape
    rw [hk 40 (by decide), hk 41 (by decide), hk 52 (by decide), h51 2 (by simp)]
    exact iT
  · unfold iWords
    rw [hk 56 (by decide)]
    exact iW
  · obtain ⟨m1, m2, m3, m4⟩ := iM
    refine ⟨fun r r0 r1 => ?_, ?_, ?_, ?_⟩
    · rw [hk 1 (by decide), h712]
      by_cases g : r < B 7 11
      · obtain ⟨x1, x2, x3, x4, x5, x6, x7, x8⟩ := g4 r r0 g
        rw [x4, x5, x6, x7]
        exact m1 r r0 g
      · obtain ⟨x1, x2, x3, x4, x5⟩ := g5 r (by omega) r1
        have l := iL.2.2.2.2
        rw [x2, x3, x4, x5]
        exact ⟨rfl, by omega, by omega, rfl, by omega, by omega⟩
    · rw [h51 54 (by simp), h712]
      exact m2
    · rw [h712]
      exact m3
    · rw [h712, m4]
      have e : (F 7 11).toNat = (B 7 11).toNat + (F 7 11 - B 7 11).toNat := by omega
      rw [e, zsum_tail (f := fun r => if 0 ≤ F 14 r then (1 : Int) else 0) (m := (B 7 11).toNat) (F 7 11 - B 7 11).toNat (fun i i0 i1 => by
        have x := (g5 i (by omega) (by omega)).2.1
        show (if 0 ≤ F 14 i then (1 : Int) else 0) = 0
        rw [x, if_neg (by decide)])]
      exact zsum_congr (fun i i0 i1 => by
        have x := (g4 i i0 (by omega)).2.2.2.1
        show (if 0 ≤ B 14 i then (1 : Int) else 0) = if 0 ≤ F 14 i then 1 else 0
        rw [x])
  · obtain ⟨a1, a2, a3, a4⟩ := iA
    have e23 := hk 23 (by decide)
    have e24 := hk 24 (by decide)
    have e25 := hk 25 (by decide)
    have ce : ∀ i : Int, 0 ≤ i → i < B 23 4 → cel F (B 24 i) (B 25 i) = cel B (B 24 i) (B 25 i) := by
      intro i i0 i1
      obtain ⟨-, y1, y2, y3, y4, -⟩ := a2 i i0 i1
      exact (g4 _ y1 y2).2.2.2.2.2.2.2 _ y3 y4
    refine ⟨?_, fun i i0 i1 => ?_, fun c c0 c1 => ?_, fun r r0 r1 => ?_⟩
    · rw [h51 43 (by simp), e23]
      exact a1
    · rw [e23] at i1
      have y := a2 i i0 i1
      have z := (g4 _ y.2.1 y.2.2.1).2.1
      rw [hk 79 (by decide), hk 80 (by decide), hk 81 (by decide), hk 82 (by decide), e24, e25, hk 26 (by decide), hk 27 (by decide), z]
      exact ⟨y.1, y.2.1, by have := y.2.2.1; omega, y.2.2.2⟩
    · rw [hk 12 (by decide), e23, e24, e25, hk 26 (by decide), a3 c c0 c1]
      exact zsum_congr (fun i i0 i1 => by
        show (if cel B (B 24 i) (B 25 i) = c then B 26 i else 0) = if cel F (B 24 i) (B 25 i) = c then B 26 i else 0
        rw [ce i i0 (by omega)])
    · rw [e23, e24]
      by_cases g : r < B 7 11
      · rw [(g4 r r0 g).2.2.1]
        exact a4 r r0 g
      · rw [(g5 r (by omega) r1).1]
        exact (zsum_0 (fun i i0 i1 => by
          have y := a2 i i0 (by omega)
          show (if B 24 i = r then (1 : Int) else 0) = 0
          rw [if_neg (by omega)])).symm
  · unfold iCrew
    rw [hk 34 (by decide), hk 89 (by decide)]
    exact iC
/-- the programs are as they were -/
theorem prog_more (hB : iRest B) (hG : grw B B F F) (h22 : F 51 34 = B 51 34) (h45 : F 45 6 = B 45 6) (hk : ∀ k : Nat, k ∈ [49, 50, 73, 74] → F k = B k) : iProg F := by
  obtain ⟨iL, iT, iW, iP, iR, iM, iA, iG, iC⟩ := hB
  obtain ⟨g1, -⟩ := hG
  obtain ⟨p1, p2⟩ := iG
  unfold iProg
  rw [h22, h45, hk 49 (by decide), hk 50 (by decide), hk 73 (by decide), hk 74 (by decide)]
  refine ⟨⟨p1.1, p1.2.1, by omega⟩, fun i i0 i1 => ?_⟩
  have y := p2 i i0 i1
  exact ⟨y.1, y.2.1, y.2.2.1, by omega, y.2.2.2.2.1, by omega, y.2.2.2.2.2.2⟩
/-- one program more -/
theorem prog_new (hB : iRest B) (hG : grw B B F F) (hd : B 3 3 + B 7 11 + 1 ≤ F 3 3 + F 7 11) (h34 : F 51 34 = B 51 34 + 1) (h45 : F 45 6 = B 45 6 + 1) (h49 : ∀ i : Int, F 49 i = if i = B 45 6 then B 3 3 else B 49 i) (h50 : ∀ i : Int, F 50 i = if i = B 45 6 then B 7 11 else B 50 i) (h73 : ∀ i : Int, F 73 i = if i = B 45 6 then B 3 3 else B 73 i) (h74 : ∀ i : Int, F 74 i = if i = B 45 6 then B 7 11 else B 74 i) : iProg F := by
  obtain ⟨iL, iT, iW, iP, iR, iM, iA, iG, iC⟩ := hB
  obtain ⟨g1, -⟩ := hG
  obtain ⟨p1, p2⟩ := iG
  have q1 := iP.2
  have q2 := iR.c.1
  unfold iProg
  rw [h34, h45]
  refine ⟨⟨by omega, by omega, by omega⟩, fun i i0 i1 => ?_⟩
  rw [h49, h50, h73, h74]
  by_cases e : i = B 45 6
  · rw [if_pos e, if_pos e, if_pos e, if_pos e]
    refine ⟨rfl, rfl, by omega, by omega, by omega, by omega, by omega, fun j j0 j1 => ?_⟩
    have y := p2 j j0 (by omega)
    rw [h49, h50, if_neg (by omega), if_neg (by omega)]
    exact ⟨by omega, by omega⟩
  · have y := p2 i i0 (by omega)
    rw [if_neg e, if_neg e, if_neg e, if_neg e]
    refine ⟨y.1, y.2.1, y.2.2.1, by omega, y.2.2.2.2.1, by omega, y.2.2.2.2.2.2.1, fun j j0 j1 => ?_⟩
    rw [h49, h50, if_neg (by omega), if_neg (by omega)]
    exact y.2.2.2.2.2.2.2 j j0 j1
/-- the tape is empty -/
theorem iAll_tape (h : iAll S) : iAll (up (up S 40 1 0) 51 2 0) := by
  obtain ⟨iL, iT, iW, iP, iR, iM, iA, iG, iC, iE, iK, iB⟩ := h
  exact ⟨iL, ⟨rfl, Int.le_refl _, (show (0 : Int) ≤ 1000 by decide), fun i i0 i1 => by have i1' : i < 0 := i1; omega⟩, iW, iP, iR, iM, iA, iG, iC, iE, iK, iB⟩
end SC
