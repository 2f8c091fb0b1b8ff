/-! a parting's sides and corners -/
def sid (X Y X' Y' : Int) : Int := if Y = Y' then 16 * Y + min X X' else 208 + 17 * min Y Y' + min X X'
def sT (T : HS) (j : Int) : Int := sid (T 61 j) (T 62 j) (T 61 (j + 1)) (T 62 (j + 1))
def cT (T : HS) (j : Int) : Int := 17 * T 62 j + T 61 j
/-- what the walk has left for a parting -/
def wkC (S T : HS) : Prop := S 46 7 ≤ 413 ∧ ∀ j : Int, 0 ≤ j → j < S 46 7 → pIn 17 13 (T 61 j) (T 62 j) ∧ wkS S T j 17
def bad3 (S T : HS) (n : Int) : Prop := ∃ j : Int, 0 ≤ j ∧ j + 1 < n ∧ (S 4 (sT T j) ≠ -1 ∨ ∃ i : Int, 0 ≤ i ∧ i < j ∧ sT T i = sT T j)
def onP (S : HS) (X Y : Int) : Prop := ∃ w : Int, 0 ≤ w ∧ w < 4 ∧ pIn 17 13 (X + gAcr w) (Y + gDwn w) ∧ S 4 (sid X Y (X + gAcr w) (Y + gDwn w)) ≠ -1
def cnT (T : HS) (n q : Int) : Int := zsum (fun i => if cT T i = q then 1 else 0) n.toNat
def bad4 (S T : HS) (n : Int) : Prop := ∃ j : Int, 1 ≤ j ∧ j + 1 < n ∧ (1 < cnT T n (cT T j) ∨ onP S (T 61 j) (T 62 j))
section PT
variable {S T A : HS}
theorem e_pt {k : Int} (h : 0 ≤ k ∧ k < A 46 7 ∧ A 46 7 ≤ 413) : M_X10_pointAt k A = some (A 47 k, A) := by
  unfold M_X10_pointAt
  rw [if_neg (by omega), if_neg (by omega), if_neg (by omega), zg_in (by omega)]
theorem e_wy {k : Int} (h : 0 ≤ k ∧ k < A 46 7 ∧ A 46 7 ≤ 413) : M_X10_wayAt k A = some (A 48 k, A) := by
  unfold M_X10_wayAt
  rw [if_neg (by omega), if_neg (by omega), if_neg (by omega), zg_in (by omega)]
theorem e_sfc {X Y w : Int} (h : pIn 17 13 X Y) (hw : 0 ≤ w ∧ w < 4) : ((pIn 17 13 (X + gAcr w) (Y + gDwn w)) → M_X5_sideFromCorner (17 * Y + X) w A = some (sid X Y (X + gAcr w) (Y + gDwn w), A)) ∧ (¬ (pIn 17 13 (X + gAcr w) (Y + gDwn w)) → M_X5_sideFromCorner (17 * Y + X) w A = some (-1, A)) := by
  unfold pIn at h ⊢
  have e1 : (17 * Y + X) % 17 = X := by omega
  have e2 : (17 * Y + X) / 17 = Y := by omega
  have hc : w = 0 ∨ w = 1 ∨ w = 2 ∨ w = 3 := by omega
  unfold M_X5_sideFromCorner J_X5_sideFromCorner_27 J_X5_sideFromCorner_44 J_X5_sideFromCorner_62 sid
  rw [zg_in (by omega), e1, zl_in (by omega), zg_in (by omega), e2, zl_in (by omega)]
  rcases hc with rfl | rfl | rfl | rfl
  · have a : gAcr 0 = 0 := rfl
    have b : gDwn 0 = -1 := rfl
    rw [a, b, if_pos rfl]
    by_cases g : Y ≤ 0
    · rw [if_pos g, if_neg (by decide), if_neg (by decide), if_neg (by decide)]
      exact ⟨fun z => by omega, fun _ => rfl⟩
    · rw [if_neg g, zl_in (by omega), if_neg (show ¬ Y = Y + -1 by omega)]
      refine ⟨fun _ => ?_, fun z => by omega⟩
      have e : 208 + (17 * Y + X) - 17 = 208 + 17 * min Y (Y + -1) + min X (X + 0) := by omega
      rw [e]
  · have a : gAcr 1 = 0 := rfl
    have b : gDwn 1 = 1 := rfl
    rw [a, b, if_neg (by decide), if_pos rfl]
    by_cases g : 12 ≤ Y
    · rw [if_pos g, if_neg (by decide), if_neg (by decide)]
      exact ⟨fun z => by omega, fun _ => rfl⟩
    · rw [if_neg g, zl_in (by omega), if_neg (show ¬ Y = Y + 1 by omega)]
      refine ⟨fun _ => ?_, fun z => by omega⟩
      have e : 208 + (17 * Y + X) = 208 + 17 * min Y (Y + 1) + min X (X + 0) := by omega
      rw [e]
  · have a : gAcr 2 = -1 := rfl
    have b : gDwn 2 = 0 := rfl
    rw [a, b, if_neg (by decide), if_neg (by decide), if_pos rfl]
    by_cases g : X ≤ 0
    · rw [if_pos g, if_neg (by decide)]
      exact ⟨fun z => by omega, fun _ => rfl⟩
    · rw [if_neg g, zl_in (by omega), if_pos (show Y = Y + 0 by omega)]
      refine ⟨fun _ => ?_, fun z => by omega⟩
      have e : 16 * Y + X - 1 = 16 * Y + min X (X + -1) := by omega
      rw [e]
  · have a : gAcr 3 = 1 := rfl
    have b : gDwn 3 = 0 := rfl
    rw [a, b, if_neg (by decide), if_neg (by decide), if_neg (by decide), if_pos rfl]
    by_cases g : 16 ≤ X
    · rw [if_pos g]
      exact ⟨fun z => by omega, fun _ => rfl⟩
    · rw [if_neg g, zl_in (by omega), if_pos (show Y = Y + 0 by omega)]
      refine ⟨fun _ => ?_, fun z => by omega⟩
      have e : 16 * Y + X = 16 * Y + min X (X + 1) := by omega
      rw [e]
theorem sid_r {X Y w : Int} (h : pIn 17 13 X Y) (hw : 0 ≤ w ∧ w < 4) (h' : pIn 17 13 (X + gAcr w) (Y + gDwn w)) : 0 ≤ sid X Y (X + gAcr w) (Y + gDwn w) ∧ sid X Y (X + gAcr w) (Y + gDwn w) < 412 := by
  unfold pIn at h h'
  have hc : w = 0 ∨ w = 1 ∨ w = 2 ∨ w = 3 := by omega
  unfold sid
  rcases hc with rfl | rfl | rfl | rfl
  · have a : gAcr 0 = 0 := rfl
    have b : gDwn 0 = -1 := rfl
    rw [a, b] at h' ⊢
    rw [if_neg (by omega)]
    omega
  · have a : gAcr 1 = 0 := rfl
    have b : gDwn 1 = 1 := rfl
    rw [a, b] at h' ⊢
    rw [if_neg (by omega)]
    omega
  · have a : gAcr 2 = -1 := rfl
    have b : gDwn 2 = 0 := rfl
    rw [a, b] at h' ⊢
    rw [if_pos (by omega)]
    omega
  · have a : gAcr 3 = 1 := rfl
    have b : gDwn 3 = 0 := rfl
    rw [a, b] at h' ⊢
    rw [if_pos (by omega)]
    omega
theorem sT_w (hC : wkC S T) {j : Int} (j0 : 0 ≤ j) (j1 : j + 1 < S 46 7) : (0 ≤ S 48 (j + 1) ∧ S 48 (j + 1) < 4) ∧ T 61 (j + 1) = T 61 j + gAcr (S 48 (j + 1)) ∧ T 62 (j + 1) = T 62 j + gDwn (S 48 (j + 1)) := by
  have z := (hC.2 (j + 1) (by omega) j1).2.2 (by omega)
  have e : j + 1 - 1 = j := by omega
  rw [e] at z
  exact ⟨by omega, z.2⟩
theorem sT_r (hC : wkC S T) {j : Int} (j0 : 0 ≤ j) (j1 : j + 1 < S 46 7) : 0 ≤ sT T j ∧ sT T j < 412 := by
  obtain ⟨a, b, c⟩ := sT_w hC j0 j1
  have x := (hC.2 j j0 (by omega)).1
  have y := (hC.2 (j + 1) (by omega) j1).1
  unfold sT
  rw [b, c] at y ⊢
  exact sid_r x a y
theorem cT_r (hC : wkC S T) {j : Int} (j0 : 0 ≤ j) (j1 : j < S 46 7) : 0 ≤ cT T j ∧ cT T j < 221 := by
  have x := (hC.2 j j0 j1).1
  unfold pIn at x
  unfold cT
  omega
theorem e_sideTo (hC : wkC S T) (s : rSame [4, 5, 6] S A) {v : Int} (v0 : 1 ≤ v) (v1 : v < S 46 7) : M_X5_sideTo v A = some (sT T (v - 1), A) := by
  have h46 : A 46 = S 46 := s 46 (by decide)
  have h47 : A 47 = S 47 := s 47 (by decide)
  have h48 : A 48 = S 48 := s 48 (by decide)
  have n := hC.1
  obtain ⟨a, b, c⟩ := sT_w hC (j := v - 1) (by omega) (by omega)
  have x := (hC.2 (v - 1) (by omega) (by omega)).1
  have y := (hC.2 (v - 1 + 1) (by omega) (by omega)).1
  have p := (hC.2 (v - 1) (by omega) (by omega)).2.1
  unfold M_X5_sideTo
  rw [zl_in (by omega), e_pt (by rw [h46]; omega), zb_some, e_wy (by rw [h46]; omega), zb_some, h47, h48, p]
  rw [b, c] at y
  have z := (e_sfc (A := A) x a).1 y
  have ev : v - 1 + 1 = v := by omega
  unfold sT
  rw [b, c]
  rw [ev] at z ⊢
  rw [z, zb_some]
theorem e_isSide {r : Int} : M_X5_isSide r A = some (if 0 ≤ r ∧ r < 412 then 1 else 0, A) := by
  unfold M_X5_isSide
  by_cases a : r < 0
  · rw [if_pos a, if_neg (by omega)]
  · rw [if_neg a]
    by_cases b : 412 ≤ r
    · rw [if_pos b, if_neg (by omega)]
    · rw [if_neg b, if_pos (by omega)]
theorem zfill_at {c c' : Nat} {n v i : Int} : zfill S c n v c' i = if c' = c ∧ 0 ≤ i ∧ i < n then v else S c' i := rfl
theorem zfill_s {c : Nat} {n v : Int} {l : List Nat} (h : c ∈ l) : rSame l S (zfill S c n v) := by
  intro k hk
  funext i
  rw [zfill_at, if_neg]
  rintro ⟨rfl, -⟩
  exact hk h
/-- one more of what is marked -/
theorem mk_step {f g : Int → Int} {p : Int → Int} {v r : Int} (hr : p v = r) (h : ∀ s : Int, 0 ≤ s → s < 412 → (0 ≤ f s ∧ f s ≤ 1) ∧ (f s = 1 ↔ ∃ i : Int, 0 ≤ i ∧ i < v ∧ p i = s)) (v0 : 0 ≤ v) (hg : ∀ s : Int, g s = if s = r then 1 else f s) : ∀ s : Int, 0 ≤ s → s < 412 → (0 ≤ g s ∧ g s ≤ 1) ∧ (g s = 1 ↔ ∃ i : Int, 0 ≤ i ∧ i < v + 1 ∧ p i = s) := by
  intro s s0 s1
  obtain ⟨a, b⟩ := h s s0 s1
  rw [hg]
  by_cases e : s = r
  · rw [if_pos e]
    exact ⟨by omega, fun _ => ⟨v, v0, by omega, by omega⟩, fun _ => rfl⟩
  · rw [if_neg e]
    refine ⟨a, fun z => ?_, fun z => ?_⟩
    · obtain ⟨i, i0, i1, i2⟩ := b.mp z
      exact ⟨i, i0, by omega, i2⟩
    · obtain ⟨i, i0, i1, i2⟩ := z
      refine b.mpr ⟨i, i0, ?_, i2⟩
      by_cases q : i = v
      · rw [q] at i2
        omega
      · omega
theorem e_usedSide (hC : wkC S T) (h6 : S 46 6 ≤ 413) : zP (M_X5_hasUsedSide S) (fun r A => rSame [5, 6] S A ∧ (r = 0 ∨ r = 1) ∧ (r = 1 ↔ bad3 S T (S 46 7))) := by
  have n0 := hC.1
  unfold M_X5_hasUsedSide
  rw [if_pos h6, zs_in]
  refine zloop (b := max (S 46 7) 1) (fun v A => (1 ≤ v ∧ v ≤ max (S 46 7) 1) ∧ rSame [5, 6] S A ∧ (∀ s : Int, 0 ≤ s → s < 412 → (0 ≤ A 5 s ∧ A 5 s ≤ 1) ∧ (A 5 s = 1 ↔ ∃ i : Int, 0 ≤ i ∧ i < v - 1 ∧ sT T i = s)) ∧ ¬ bad3 S T v) (fun n v A hJ hv => ?_) (fun n v A hJ hv ih => ?_) _ _ _ ⟨by omega, zfill_s (by simp), fun s s0 s1 => ?_, ?_⟩ (zbig (by omega))
  · obtain ⟨a, b, c, d⟩ := hJ
    have h46 : A 46 = S 46 := b 46 (by decide)
    rw [L_X5_hasUsedSide_22.eq_2, h46, if_pos (by omega), zP_ret]
    refine ⟨b, Or.inl rfl, fun z => by omega, fun z => ?_⟩
    by_cases g : v = S 46 7
    · rw [g] at d
      exact absurd z d
    · obtain ⟨j, j0, j1, -⟩ := z
      omega
  · obtain ⟨a, b, c, d⟩ := hJ
    have h46 : A 46 = S 46 := b 46 (by decide)
    have h4 : A 4 = S 4 := b 4 (by decide)
    have b' : rSame [4, 5, 6] S A := b.mono (by decide)
    have r := sT_r hC (j := v - 1) (by omega) (by omega)
    rw [L_X5_hasUsedSide_22.eq_2, h46, if_neg (by omega), e_sideTo hC b' a.1 (by omega), zb_some, e_isSide, zb_some, zif1 r, if_neg (by decide), e_hasPart, zb_some, h4]
    have up1 : bad3 S T (v + 1) → bad3 S T (S 46 7) := fun ⟨j, j0, j1, z⟩ => ⟨j, j0, by omega, z⟩
    by_cases g : S 4 (sT T (v - 1)) ≠ -1
    · rw [zif1 ⟨r.1, r.2, g⟩, if_neg (by decide), zP_ret]
      exact ⟨b, Or.inr rfl, fun _ => ⟨v - 1, by omega, by omega, Or.inl g⟩, fun _ => rfl⟩
    · rw [zif0 (fun z => g z.2.2), if_pos rfl, zg_in (by omega)]
      obtain ⟨c1, c2⟩ := c _ r.1 r.2
      by_cases g2 : A 5 (sT T (v - 1)) ≤ 0
      · rw [if_pos g2, zg_in (by omega), zl_in (by omega), zg_in (by omega), zs_in, zl_in (by omega)]
        refine ih _ ⟨by omega, b.up (by decide), ?_, ?_⟩
        · have e : v + 1 - 1 = v - 1 + 1 := by omega
          rw [e]
          exact mk_step (p := sT T) rfl c (by omega) (fun s => by rw [up_same]; by_cases q : s = sT T (v - 1); rw [if_pos q, if_pos q]; omega; rw [if_neg q, if_neg q])
        · rintro ⟨j, j0, j1, z⟩
          by_cases q : j = v - 1
          · subst q
            rcases z with z | ⟨i, i0, i1, i2⟩
            · exact g z
            · have := c2.mpr ⟨i, i0, i1, i2⟩
              omega
          · exact d ⟨j, j0, by omega, z⟩
      · rw [if_neg g2, zP_ret]
        obtain ⟨i, i0, i1, i2⟩ := c2.mp (by omega)
        exact ⟨b, Or.inr rfl, fun _ => ⟨v - 1, by omega, by omega, Or.inr ⟨i, i0, i1, i2⟩⟩, fun _ => rfl⟩
  · rw [zfill_at, if_pos ⟨rfl, s0, s1⟩]
    exact ⟨by omega, fun z => by omega, fun ⟨i, i0, i1, _⟩ => by omega⟩
  · rintro ⟨j, j0, j1, -⟩
    omega
theorem e_onPart {X Y : Int} (h : pIn 17 13 X Y) : zP (M_X5_isOnParting (17 * Y + X) A) (fun r B => B = A ∧ (r = 0 ∨ r = 1) ∧ (r = 1 ↔ onP A X Y)) := by
  unfold M_X5_isOnParting
  refine zloop (b := 4) (fun v B => (0 ≤ v ∧ v ≤ 4) ∧ B = A ∧ ∀ w : Int, 0 ≤ w → w < v → ¬ (pIn 17 13 (X + gAcr w) (Y + gDwn w) ∧ A 4 (sid X Y (X + gAcr w) (Y + gDwn w)) ≠ -1)) (fun n v B hJ hv => ?_) (fun n v B hJ hv ih => ?_) _ _ _ ⟨by omega, rfl, fun w w0 w1 => by omega⟩ (zbig (by omega))
  · obtain ⟨a, rfl, c⟩ := hJ
    rw [L_X5_isOnParting_2.eq_2, if_pos hv, zP_ret]
    exact ⟨rfl, Or.inl rfl, fun z => by omega, fun ⟨w, w0, w1, z⟩ => absurd z (c w w0 (by omega))⟩
  · obtain ⟨a, rfl, c⟩ := hJ
    obtain ⟨s1, s2⟩ := e_sfc (A := B) h ⟨a.1, hv⟩
    rw [L_X5_isOnParting_2.eq_2, if_neg (by omega)]
    have nxt : ¬ (pIn 17 13 (X + gAcr v) (Y + gDwn v) ∧ B 4 (sid X Y (X + gAcr v) (Y + gDwn v)) ≠ -1) → ∀ w : Int, 0 ≤ w → w < v + 1 → ¬ (pIn 17 13 (X + gAcr w) (Y + gDwn w) ∧ B 4 (sid X Y (X + gAcr w) (Y + gDwn w)) ≠ -1) := by
      intro z w w0 w1
      by_cases q : w = v
      · rw [q]
        exact z
      · exact c w w0 (by omega)
    by_cases g : pIn 17 13 (X + gAcr v) (Y + gDwn v)
    · have r := sid_r h ⟨a.1, hv⟩ g
      rw [s1 g, zb_some, e_hasPart, zb_some]
      by_cases g2 : B 4 (sid X Y (X + gAcr v) (Y + gDwn v)) ≠ -1
      · rw [zif1 ⟨r.1, r.2, g2⟩, if_neg (by decide), zP_ret]
        exact ⟨rfl, Or.inr rfl, fun _ => ⟨v, a.1, hv, g, g2⟩, fun _ => rfl⟩
      · rw [zif0 (fun z => g2 z.2.2), if_pos rfl, zl_in (by omega)]
        exact ih _ ⟨by omega, rfl, nxt (fun z => g2 z.2)⟩
    · rw [s2 g, zb_some, e_hasPart, zb_some, zif0 (by omega), if_pos rfl, zl_in (by omega)]
      exact ih _ ⟨by omega, rfl, nxt (fun z => g z.1)⟩
theorem e_isCorner {r : Int} (h : 0 ≤ r ∧ r < 221) : M_X5_isCorner r A = some (1, A) := by
  unfold M_X5_isCorner
  rw [if_neg (by omega), if_neg (by omega)]
theorem cnT_n {v q : Int} (h : 0 ≤ v) : cnT T (v + 1) q = cnT T v q + if cT T v = q then 1 else 0 := by
  unfold cnT
  exact zsum_n h
theorem cnT_r {v q : Int} (h : 0 ≤ v) : 0 ≤ cnT T v q ∧ cnT T v q ≤ v := by
  have := zsum_r (f := fun i => if cT T i = q then (1 : Int) else 0) (c := 1) h (fun i _ _ => by show 0 ≤ (if cT T i = q then (1 : Int) else 0) ∧ (if cT T i = q then (1 : Int) else 0) ≤ 1; split <;> omega)
  unfold cnT
  omega
theorem e_usedCorner (hC : wkC S T) (n1 : 1 ≤ S 46 7) : zP (M_X5_hasUsedCorner S) (fun r A => rSame [5, 6] S A ∧ (r = 0 ∨ r = 1) ∧ (r = 1 ↔ bad4 S T (S 46 7))) := by
  have n0 := hC.1
  unfold M_X5_hasUsedCorner
  rw [zs_in]
  refine zloop (b := S 46 7) (fun v A => (0 ≤ v ∧ v ≤ S 46 7) ∧ rSame [5, 6] S A ∧ (∀ q : Int, 0 ≤ q → q < 221 → A 6 q = cnT T v q)) (fun n v A hJ hv => ?_) (fun n v A hJ hv ih => ?_) _ _ _ ⟨by omega, zfill_s (by simp), fun s s0 s1 => ?_⟩ (zbig (by omega))
  · obtain ⟨a, b, c⟩ := hJ
    have ev : v = S 46 7 := by omega
    subst ev
    have h46 : A 46 = S 46 := b 46 (by decide)
    rw [L_X5_hasUsedCorner_10.eq_2, h46, if_pos hv]
    refine zloop (b := max (S 46 7 - 1) 1) (fun v B => (1 ≤ v ∧ v ≤ max (S 46 7 - 1) 1) ∧ B = A ∧ ∀ j : Int, 1 ≤ j → j < v → ¬ (1 < cnT T (S 46 7) (cT T j) ∨ onP S (T 61 j) (T 62 j))) (fun n v B hJ hv => ?_) (fun n v B hJ hv ih => ?_) _ _ _ ⟨by omega, rfl, fun j j0 j1 => by omega⟩ (zbig (by omega))
    · obtain ⟨x, rfl, z⟩ := hJ
      rw [L_X5_hasUsedCorner_49.eq_2, h46, zl_in (by omega), if_pos (by omega), zP_ret]
      refine ⟨b, Or.inl rfl, fun z => by omega, fun ⟨j, j0, j1, y⟩ => absurd y (z j j0 (by omega))⟩
    · obtain ⟨x, rfl, z⟩ := hJ
      have h47 : B 47 = S 47 := b 47 (by decide)
      have h4 : B 4 = S 4 := b 4 (by decide)
      have cr := cT_r hC (j := v) (by omega) (by omega)
      have pi := hC.2 v (by omega) (by omega)
      have p := pi.2.1
      have p' : S 47 v = cT T v := p
      have nxt : ¬ (1 < cnT T (S 46 7) (cT T v) ∨ onP S (T 61 v) (T 62 v)) → ∀ j : Int, 1 ≤ j → j < v + 1 → ¬ (1 < cnT T (S 46 7) (cT T j) ∨ onP S (T 61 j) (T 62 j)) := by
        intro y j j0 j1
        by_cases q : j = v
        · rw [q]
          exact y
        · exact z j j0 (by omega)
      rw [L_X5_hasUsedCorner_49.eq_2, h46, zl_in (by omega), if_neg (by omega), e_pt (by rw [h46]; omega), zb_some, h47, p', e_isCorner cr, zb_some, if_neg (by decide), zg_in cr, c _ cr.1 cr.2]
      unfold J_X5_hasUsedCorner_92
      by_cases g : 1 < cnT T (S 46 7) (cT T v)
      · rw [if_pos g, zP_ret]
        exact ⟨b, Or.inr rfl, fun _ => ⟨v, by omega, by omega, Or.inl g⟩, fun _ => rfl⟩
      · rw [if_neg g, zP_zb]
        refine zP_mono (e_onPart pi.1) (fun r C hC' => ?_)
        obtain ⟨rfl, r01, r1⟩ := hC'
        have eo : onP C (T 61 v) (T 62 v) ↔ onP S (T 61 v) (T 62 v) := by
          unfold onP
          rw [h4]
        by_cases g2 : onP S (T 61 v) (T 62 v)
        · have e1 : r = 1 := r1.mpr (eo.mpr g2)
          rw [e1, if_neg (by decide), zP_ret]
          exact ⟨b, Or.inr rfl, fun _ => ⟨v, by omega, by omega, Or.inr g2⟩, fun _ => rfl⟩
        · have e0 : r = 0 := by
            rcases r01 with q | q
            · exact q
            · exact absurd (eo.mp (r1.mp q)) g2
          rw [e0, if_pos rfl, zl_in (by omega)]
          exact ih _ ⟨by omega, rfl, nxt (fun y => y.elim g g2)⟩
  · obtain ⟨a, b, c⟩ := hJ
    have h46 : A 46 = S 46 := b 46 (by decide)
    have h47 : A 47 = S 47 := b 47 (by decide)
    have cr := cT_r hC a.1 hv
    have p' : S 47 v = cT T v := (hC.2 v a.1 hv).2.1
    have bd := cnT_r (T := T) (q := cT T v) a.1
    rw [L_X5_hasUsedCorner_10.eq_2, h46, if_neg (by omega), e_pt (by rw [h46]; omega), zb_some, h47, p', e_isCorner cr, zb_some, if_neg (by decide), zg_in cr, c _ cr.1 cr.2, zl_in (by omega), zg_in cr, zs_in]
    unfold J_X5_hasUsedCorner_41
    rw [zl_in (by omega)]
    refine ih _ ⟨by omega, b.up (by decide), fun q q0 q1 => ?_⟩
    rw [up_same, cnT_n a.1]
    by_cases e : q = cT T v
    · rw [if_pos e, if_pos e.symm, e]
    · rw [if_neg e, if_neg (fun z => e z.symm), c q q0 q1]
      omega
  · rw [zfill_at, if_pos ⟨rfl, s0, s1⟩]
    rfl
end PT
