/-! braids: the reference as a whole -/
def mBr (S T : HS) (r k : Int) : Prop := rSame [77, 78, 83, 84, 85, 86, 87, 88] S T ∧ (∀ j : Int, 0 ≤ j → j < S 10 r → T 83 j = S 21 (cel S r j)) ∧ (∀ j : Int, 0 ≤ j → j < k → T 84 (3 * j) = S 29 (cel S r j) ∧ T 84 (3 * j + 1) = S 30 (cel S r j) ∧ T 84 (3 * j + 2) = S 31 (cel S r j)) ∧ (∀ l : Int, 0 ≤ l → l < 3 → T 86 l = (S 21 (cel S r 0) + 2 - l) / 3 ∧ T 87 l = gL (k - 1) l) ∧ (∀ s : Int, 0 ≤ s → s < k → T 85 s = gL (k - 1) (gT s)) ∧ ∀ i : Int, 0 ≤ i → i < S 23 4 → S 24 i = r → S 25 i < k → T 88 i = gL (k - 1) (gT (S 25 i))
section M3
variable {S : HS}
theorem m_plait {T : HS} {r k f : Int} {K : Int → HS → zO2} {Q : Int → HS → Prop} (hI : iSum S) (r0 : 0 ≤ r) (r1 : r < S 7 11) (k1 : 1 ≤ k) (k2 : k < S 10 r) (hf : f = gF k) (hT : mBr S T r k) (hK : ∀ U : HS, mBr S U r (k + 1) → zP (K (k + 1) U) Q) : zP (J_X12_braids_115 K r k f T) Q := by
  obtain ⟨hs, h83, h84, h87, h85, h88⟩ := hT
  have hR := hI.2.2.2.2.1.c
  have hr := hR.2.1 r r0 r1
  have iA := hI.2.2.2.2.2.2.1
  have iB := hI.2.2.2.2.2.2.2.2.2.2.2
  have br := iB.br r0 r1
  have bo := gBo_of hI r0 r1
  have bd := br.bd' bo (k := k - 1) (by omega) (by omega)
  have bk := bo k (by omega) k2
  have hf2 : f = 0 ∧ k % 2 = 1 ∨ f = 2 ∧ k % 2 = 0 := by
    unfold gF at hf
    split at hf <;> omega
  unfold J_X12_braids_115
  refine zloop (b := 3) (fun v U => (0 ≤ v ∧ v ≤ 3) ∧ rSame [84] T U ∧ ∀ j : Int, U 84 j = if 3 * k ≤ j ∧ j < 3 * k + v then T 84 (j - 3) else T 84 j) (fun n v U hJ hv => ?_) (fun n v U hJ hv ih => ?_) _ _ _ ⟨⟨Int.le_refl _, by decide⟩, fun _ _ => rfl, fun j => by rw [if_neg (by omega)]⟩ (zbig (by decide))
  · obtain ⟨a, b, c⟩ := hJ
    have e3 : v = 3 := by omega
    subst e3
    have SU : rSame [77, 78, 83, 84, 85, 86, 87, 88] S U := hs.trans (b.mono (by simp))
    have IU : iSum U := rSame.all hI SU (by decide)
    have u7 : U 7 = S 7 := SU 7 (by decide)
    have u8 : U 8 = S 8 := SU 8 (by decide)
    have u9 : U 9 = S 9 := SU 9 (by decide)
    have u10 : U 10 = S 10 := SU 10 (by decide)
    have u12 : U 12 = S 12 := SU 12 (by decide)
    have cu : cel U = cel S := by
      funext x y
      unfold cel
      rw [u8, u9]
    have u83 : U 83 k = S 21 (cel S r k) := by rw [b 83 (by decide), h83 k (by omega) k2]
    have w := h84 (k - 1) (by omega) (by omega)
    have c0 : U 84 (3 * k) = S 29 (cel S r (k - 1)) := by rw [c, if_pos (by omega), ← w.1, show 3 * k - 3 = 3 * (k - 1) by omega]
    have c1 : U 84 (3 * k + 1) = S 30 (cel S r (k - 1)) := by rw [c, if_pos (by omega), ← w.2.1, show 3 * k + 1 - 3 = 3 * (k - 1) + 1 by omega]
    have c2 : U 84 (3 * k + 2) = S 31 (cel S r (k - 1)) := by rw [c, if_pos (by omega), ← w.2.2, show 3 * k + 2 - 3 = 3 * (k - 1) + 2 by omega]
    have cf : U 84 (3 * k + f) = if f = 0 then S 29 (cel S r (k - 1)) else S 31 (cel S r (k - 1)) := by
      rcases hf2 with ⟨e, -⟩ | ⟨e, -⟩
      · rw [e, Int.add_zero, if_pos rfl]
        exact c0
      · rw [e, if_neg (by decide)]
        exact c2
    have cfb : 0 ≤ U 84 (3 * k + f) ∧ U 84 (3 * k + f) ≤ 25000 * k := by
      rw [cf]
      split <;> omega
    rw [L_X12_braids_119.eq_2, if_pos (by decide), zg_in (by omega), zg_in (by omega), m_addedAt IU r0 (by rw [u7]; exact r1) (by omega) (by rw [u10]; exact k2), zb_some, cu, u12, u83, zl_in (by omega), zg_in (by omega), zs_in, zP_zb]
    generalize hx : U 84 (3 * k + f) + (S 21 (cel S r k) + S 12 (cel S r k)) = x
    have h43 : 0 ≤ up U 84 (3 * k + f) x 51 43 ∧ up U 84 (3 * k + f) x 51 43 ≤ 60 := by
      rw [up_cell _ (by decide), SU 51 (by decide)]
      have := iA.1
      omega
    refine zP_mono (m_joinsIn (S := up U 84 (3 * k + f) x) (r := r) (k := k) (f := f) h43 (by omega) (by omega)) (fun _ W hW => ?_)
    obtain ⟨w1, w2, w3⟩ := hW
    have VW : ∀ y : Nat, y ≠ 84 → y ≠ 85 → y ≠ 88 → W y = U y := by
      intro y y1 y2 y3
      rw [w1 y (by simp; omega)]
      funext i
      exact up_cell _ y1 _ _ _
    have e51 : W 51 43 = S 51 43 := by rw [VW 51 (by decide) (by decide) (by decide), SU 51 (by decide)]
    have e79 : ∀ i, W 79 i = S 79 i := fun i => by rw [VW 79 (by decide) (by decide) (by decide), SU 79 (by decide)]
    have e80 : ∀ i, W 80 i = S 80 i := fun i => by rw [VW 80 (by decide) (by decide) (by decide), SU 80 (by decide)]
    have e84 : ∀ j, W 84 j = if j = 3 * k + f then x else U 84 j := fun j => by rw [w1 84 (by decide), up_same]
    have e85 : ∀ j, W 85 j = if j = k then f else T 85 j := fun j => by rw [w2, up_cell _ (by decide), b 85 (by decide)]
    have e88 : ∀ i, 0 ≤ i → i < S 51 43 → W 88 i = if S 79 i = r ∧ S 80 i = k then f else T 88 i := fun i i0 i1 => by
      rw [w3 i i0 (by rw [up_cell _ (by decide), SU 51 (by decide)]; exact i1), up_cell _ (by decide), up_cell _ (by decide), up_cell _ (by decide), SU 79 (by decide), SU 80 (by decide), b 88 (by decide)]
    rw [zP_zb]
    refine zP_mono (m_swaps (S := W) (r := r) (k := k) (f := f) (by rw [e51]; have := iA.1; omega) (by omega) (by omega) (by omega)) (fun _ X hX => ?_)
    obtain ⟨x1, x2, x3, x4, x5⟩ := hX
    rw [zl_in (by omega)]
    refine hK X ⟨fun y hy => ?_, fun j j0 j1 => ?_, fun j j0 j1 => ?_, fun l l0 l1 => ?_, fun s s0 s1 => ?_, fun i i0 i1 i2 i3 => ?_⟩
    · simp only [List.mem_cons, List.not_mem_nil, or_false, not_or] at hy
      rw [x1 y (by simp; omega), VW y (by omega) (by omega) (by omega), SU y (by simp; omega)]
    · rw [x1 83 (by decide), VW 83 (by decide) (by decide) (by decide), b 83 (by decide)]
      exact h83 j j0 j1
    · by_cases g : j = k
      · subst g
        have z := br.2 j k1 k2
        have xs := x2 (3 * j)
        have xs1 := x2 (3 * j + 1)
        have xs2 := x2 (3 * j + 2)
        simp only [e84] at xs xs1 xs2
        rcases hf2 with ⟨e, e2⟩ | ⟨e, e2⟩
        · have z1 := z.1 e2
          rw [e, Int.add_zero] at xs xs1 xs2 hx
          rw [if_neg (by omega), if_pos rfl, if_neg (by omega)] at xs
          rw [if_pos trivial, if_pos trivial] at xs1
          rw [if_neg (by omega), if_neg (by omega), if_neg (by omega)] at xs2
          rw [xs, xs1, xs2]
          omega
        · have z1 := z.2 e2
          rw [e] at xs xs1 xs2 hx
          rw [if_neg (by omega), if_neg (by omega), if_neg (by omega)] at xs
          rw [if_pos trivial, if_pos trivial] at xs1
          rw [if_neg (by omega), if_pos rfl, if_neg (by omega)] at xs2
          rw [xs, xs1, xs2]
          omega
      · have z := h84 j j0 (by omega)
        have q : ∀ t : Int, 0 ≤ t → t < 3 → X 84 (3 * j + t) = T 84 (3 * j + t) := by
          intro t t0 t1
          rw [x2, if_neg (by omega), if_neg (by omega), e84, if_neg (by omega), c, if_neg (by omega)]
        rw [q 1 (by omega) (by omega), q 2 (by omega) (by omega)]
        have q0 := q 0 (by omega) (by omega)
        rw [Int.add_zero] at q0
        rw [q0]
        exact z
    · have z := h87 l l0 l1
      refine ⟨?_, ?_⟩
      · rw [x1 86 (by decide), VW 86 (by decide) (by decide) (by decide), b 86 (by decide)]
        exact z.1
      · rw [x4 l l0 l1, VW 87 (by decide) (by decide) (by decide), b 87 (by decide), z.2, hf, show k + 1 - 1 = k by omega]
        exact (gL_step (by omega)).symm
    · have tr := gT_r (k := s)
      rw [x3 s s0 (by omega), e85, show k + 1 - 1 = k by omega, gL_step tr]
      by_cases g : s = k
      · rw [if_pos g, g, gL_take k1, hf]
      · rw [if_neg g, h85 s s0 (by omega), hf]
    · have ia := iA.2.1 i i0 i1
      have a43 := iA.1.1
      have tr := gT_r (k := S 25 i)
      rw [x5 i i0 (by omega) (by rw [e79]; omega) (by rw [e80]; omega), e88 i i0 (by omega), show k + 1 - 1 = k by omega, gL_step tr]
      by_cases g : S 25 i = k
      · rw [if_pos ⟨by omega, by omega⟩, g, gL_take k1, hf]
      · rw [if_neg (fun q => g (by omega)), h88 i i0 i1 i2 (by omega), hf]
  · obtain ⟨a, b, c⟩ := hJ
    rw [L_X12_braids_119.eq_2, if_neg (by omega), zg_in (by omega), zg_in (by omega), zs_in, zl_in (by omega)]
    refine ih _ ⟨by omega, b.up (by decide), fun j => ?_⟩
    rw [up_same]
    by_cases g : j = 3 * k + v
    · rw [if_pos g, g, if_pos (by omega), c, if_neg (by omega), show 3 * k + v - 3 = 3 * (k - 1) + v by omega]
    · rw [if_neg g, c]
      by_cases g2 : 3 * k ≤ j ∧ j < 3 * k + v
      · rw [if_pos g2, if_pos (by omega)]
      · rw [if_neg g2, if_neg (by omega)]
theorem m_braids (hI : iSum S) {r : Int} (r0 : 0 ≤ r) (r1 : r < S 7 11) : zP (M_X12_braids r S) (fun _ T => mBr S T r (S 10 r)) := by
  have hR := hI.2.2.2.2.1.c
  have m0 := hI.2.2.2.2.1.m
  have hr := hR.2.1 r r0 r1
  have iA := hI.2.2.2.2.2.2.1
  have iB := hI.2.2.2.2.2.2.2.2.2.2.2
  have br := (iB.br r0 r1).1 (by omega)
  have bo := gBo_of hI r0 r1 0 (by omega) (by omega)
  have h24 := hR.1.2.1
  unfold M_X12_braids
  rw [zP_zb]
  refine zP_mono (m_totals hI r0 r1) (fun _ T hT => ?_)
  obtain ⟨s1, h83⟩ := hT
  have o0 := h83 0 (by omega) (by omega)
  refine zloop (b := 3) (fun v U => (0 ≤ v ∧ v ≤ 3) ∧ rSame [84, 86, 87] T U ∧ ∀ l : Int, 0 ≤ l → l < v → U 86 l = (S 21 (cel S r 0) + 2 - l) / 3 ∧ U 87 l = l ∧ U 84 l = (S 21 (cel S r 0) + 2 - l) / 3) (fun n v U hJ hv => ?_) (fun n v U hJ hv ih => ?_) _ _ _ ⟨⟨Int.le_refl _, by decide⟩, fun _ _ => rfl, fun j a b => by omega⟩ (zbig (by decide))
  · obtain ⟨a, b, c⟩ := hJ
    have e3 : v = 3 := by omega
    subst e3
    have SU : rSame [77, 78, 83, 84, 85, 86, 87, 88] S U := (s1.mono (by simp)).trans (b.mono (by simp))
    have IU : iSum U := rSame.all hI SU (by decide)
    have u7 : U 7 = S 7 := SU 7 (by decide)
    have u8 : U 8 = S 8 := SU 8 (by decide)
    have u9 : U 9 = S 9 := SU 9 (by decide)
    have u10 : U 10 = S 10 := SU 10 (by decide)
    have u12 : U 12 = S 12 := SU 12 (by decide)
    have cu : cel U = cel S := by
      funext x y
      unfold cel
      rw [u8, u9]
    have d0 := c 0 (by decide) (by decide)
    have d1 := c 1 (by decide) (by decide)
    have d2 := c 2 (by decide) (by decide)
    rw [L_X12_braids_7.eq_2, if_pos (by decide), m_addedAt IU r0 (by rw [u7]; exact r1) (by omega) (by rw [u10]; omega), zb_some, cu, u12, d0.2.2, zl_in (by omega), zs_in, zP_zb]
    generalize hx : (S 21 (cel S r 0) + 2 - 0) / 3 + S 12 (cel S r 0) = x
    refine zP_mono (m_joinsIn (S := up U 84 0 x) (r := r) (k := 0) (f := 0) (by rw [up_cell _ (by decide), SU 51 (by decide)]; have := iA.1; omega) (by omega) (by omega)) (fun _ W hW => ?_)
    obtain ⟨w1, w2, w3⟩ := hW
    have VW : ∀ y : Nat, y ≠ 84 → y ≠ 85 → y ≠ 88 → W y = U y := by
      intro y y1 y2 y3
      rw [w1 y (by simp; omega)]
      funext i
      exact up_cell _ y1 _ _ _
    have e84 : ∀ j, W 84 j = if j = 0 then x else U 84 j := fun j => by rw [w1 84 (by decide), up_same]
    have MW : mBr S W r 1 := by
      refine ⟨fun y hy => ?_, fun j j0 j1 => ?_, fun j j0 j1 => ?_, fun l l0 l1 => ?_, fun s s0 s1 => ?_, fun i i0 i1 i2 i3 => ?_⟩
      · simp only [List.mem_cons, List.not_mem_nil, or_false, not_or] at hy
        rw [VW y (by omega) (by omega) (by omega), SU y (by simp; omega)]
      · rw [VW 83 (by decide) (by decide) (by decide), b 83 (by decide)]
        exact h83 j j0 j1
      · have e : j = 0 := by omega
        subst e
        show W 84 0 = _ ∧ W 84 1 = _ ∧ W 84 2 = _
        rw [e84, if_pos rfl, e84, if_neg (by decide), e84, if_neg (by decide), d1.2.2, d2.2.2]
        omega
      · have z := c l l0 l1
        rw [VW 86 (by decide) (by decide) (by decide), VW 87 (by decide) (by decide) (by decide)]
        exact ⟨z.1, z.2.1⟩
      · have e : s = 0 := by omega
        subst e
        rw [w2, if_pos rfl]
        rfl
      · have ia := iA.2.1 i i0 i1
        have a43 := iA.1.1
        have e : S 25 i = 0 := by omega
        rw [w3 i i0 (by rw [up_cell _ (by decide), SU 51 (by decide)]; omega), up_cell _ (by decide), up_cell _ (by decide), SU 79 (by decide), SU 80 (by decide), if_pos ⟨by omega, by omega⟩, e]
        rfl
    refine zloop (b := S 10 r) (fun k T => (1 ≤ k ∧ k ≤ S 10 r) ∧ mBr S T r k) (fun n k T hJ hk => ?_) (fun n k T hJ hk ih => ?_) _ _ _ ⟨⟨Int.le_refl _, by omega⟩, MW⟩ (zbig (by omega))
    · obtain ⟨a2, b2⟩ := hJ
      have t69 : T 69 r = S 10 r := (congrFun (b2.1 69 (by decide)) r).trans (m0.2.1 r r0 r1)
      have e : k = S 10 r := by omega
      subst e
      rw [L_X12_braids_93.eq_2, zg_in (by omega), if_pos (by omega), zP_ret]
      exact b2
    · obtain ⟨a2, b2⟩ := hJ
      have t69 : T 69 r = S 10 r := (congrFun (b2.1 69 (by decide)) r).trans (m0.2.1 r r0 r1)
      rw [L_X12_braids_93.eq_2, zg_in (by omega), if_neg (by omega), zg_in (by omega), zl_in (by omega)]
      by_cases g : k % 2 = 1
      · rw [if_pos g]
        exact m_plait hI r0 r1 a2.1 hk (by unfold gF; rw [if_pos g]) b2 (fun U hU => ih _ ⟨by omega, hU⟩)
      · rw [if_neg g]
        exact m_plait hI r0 r1 a2.1 hk (by unfold gF; rw [if_neg g]) b2 (fun U hU => ih _ ⟨by omega, hU⟩)
  · obtain ⟨a, b, c⟩ := hJ
    have u83 : U 83 0 = S 21 (cel S r 0) := by rw [b 83 (by decide), o0]
    have fin : ∀ t y : Int, y + t = (S 21 (cel S r 0) + 2 - v) / 3 → zP (J_X12_braids_42 (L_X12_braids_7 (fun S19 => zb (M_X12_addedAt r 0 S19) fun r20 S21 => zl ((S19 84 0) + r20) fun x22 => zs (up S21 84 0 x22) fun S23 => zb (M_X12_joinsIn r 0 0 S23) fun _ S25 => L_X12_braids_93 r zBig 1 S25) r n) r v t y v U) (fun _ T => mBr S T r (S 10 r)) := by
      intro t y e
      unfold J_X12_braids_42
      rw [e, zl_in (by omega), zg_in (by omega), zs_in, zg_in (by omega), zs_in, zg_in (by omega), zg_in (by omega), zs_in, zl_in (by omega)]
      refine ih _ ⟨by omega, ((b.up (by decide)).up (by decide)).up (by decide), fun l l0 l1 => ?_⟩
      by_cases g : l = v
      · refine ⟨?_, ?_, ?_⟩
        · rw [up_cell _ (by decide), up_cell _ (by decide), up_same, if_pos g, g]
        · rw [up_cell _ (by decide), up_same, if_pos g, g]
        · rw [up_same, if_pos g, up_cell _ (by decide), up_eq, g]
      · have z := c l l0 (by omega)
        refine ⟨?_, ?_, ?_⟩
        · rw [up_cell _ (by decide), up_cell _ (by decide), up_same, if_neg g]
          exact z.1
        · rw [up_cell _ (by decide), up_same, if_neg g, up_cell _ (by decide)]
          exact z.2.1
        · rw [up_same, if_neg g, up_cell _ (by decide), up_cell _ (by decide)]
          exact z.2.2
    rw [L_X12_braids_7.eq_2, if_neg (by omega), u83, zg_in (by omega), zg_in (by omega), zl_in (by omega)]
    by_cases g : S 21 (cel S r 0) % 3 ≤ v
    · rw [if_pos g, zl_in (by omega)]
      exact fin _ _ (by omega)
    · rw [if_neg g, zl_in (by omega)]
      exact fin _ _ (by omega)
end M3
