/-! a row's cells: the reference -/
section RX
variable {S T A B : HS}
/-- the cells of both -/
def rwH (S T : HS) : Prop := (∀ c : Int, 0 ≤ c → c < 192 → T 67 c = S 2 c ∧ -1 ≤ S 2 c) ∧ (∀ c : Int, 0 ≤ c → c < 192 → (S 11 c = -1 ∧ T 68 c = -1) ∨ (0 ≤ S 11 c ∧ 0 ≤ T 68 c)) ∧ sdR S T
/-- T with the first v cells of a row in it -/
def rwM (T B : HS) (v : Int) : Prop := rSame [68, 70] T B ∧ (∀ c : Int, 0 ≤ c → c < 192 → ((∃ i : Int, 0 ≤ i ∧ i < v ∧ rwC T i = c) → B 68 c = T 51 27) ∧ (¬ (∃ i : Int, 0 ≤ i ∧ i < v ∧ rwC T i = c) → B 68 c = T 68 c)) ∧ (∀ q : Int, (192 * T 51 27 ≤ q → q < 192 * T 51 27 + v → B 70 q = rwC T (q - 192 * T 51 27)) ∧ (q < 192 * T 51 27 → B 70 q = T 70 q))
theorem rwM_0 : rwM T T 0 := ⟨rSame.rf, fun c c0 c1 => ⟨fun ⟨i, i0, i1, _⟩ => by omega, fun _ => rfl⟩, fun q => ⟨fun a b => by omega, fun _ => rfl⟩⟩
theorem m_frees {v r : Int} (h : rwM T B v) (hv : 0 ≤ v ∧ v ≤ 192) (h27 : 0 ≤ T 51 27 ∧ T 51 27 < 24) (hok : ∀ i : Int, 0 ≤ i → i < v → rwO S T i) (hH : rwH S T) : zP (M_X12_frees v r B) (fun x D => x = r ∧ rSame [68, 70] T D ∧ (∀ c : Int, 0 ≤ c → c < 192 → D 68 c = T 68 c) ∧ ∀ q : Int, q < 192 * T 51 27 → D 70 q = T 70 q) := by
  obtain ⟨h1, h2, h3⟩ := h
  unfold M_X12_frees
  refine zloop (b := v) (fun u D => (0 ≤ u ∧ u ≤ v) ∧ rSame [68, 70] T D ∧ D 70 = B 70 ∧ ∀ c : Int, 0 ≤ c → c < 192 → ((∃ i : Int, 0 ≤ i ∧ i < u ∧ rwC T i = c) → D 68 c = -1) ∧ (¬ (∃ i : Int, 0 ≤ i ∧ i < u ∧ rwC T i = c) → D 68 c = B 68 c)) (fun n u D hJ hu => ?_) (fun n u D hJ hu ih => ?_) _ _ _ ⟨⟨Int.le_refl _, hv.1⟩, h1, rfl, fun c c0 c1 => ⟨fun ⟨i, i0, i1, _⟩ => by omega, fun _ => rfl⟩⟩ (zbig (by omega))
  · obtain ⟨a, b, c, d⟩ := hJ
    have eu : u = v := by omega
    rw [eu] at d
    rw [L_X12_frees_2.eq_2, if_pos hu, zP_ret]
    refine ⟨rfl, b, fun q q0 q1 => ?_, fun q hq => by rw [c]; exact (h3 q).2 hq⟩
    by_cases g : ∃ i : Int, 0 ≤ i ∧ i < v ∧ rwC T i = q
    · have z := (d q q0 q1).1 g
      obtain ⟨i, i0, i1, i2⟩ := g
      have y := (hok i i0 i1).2.2.1
      rw [i2] at y
      rcases hH.2.1 q q0 q1 with w | w <;> omega
    · rw [(d q q0 q1).2 g, (h2 q q0 q1).2 g]
  · obtain ⟨a, b, c, d⟩ := hJ
    have d51 : D 51 27 = T 51 27 := by rw [b 51 (by decide)]
    have cu := (hok u a.1 hu).c
    have e70 : D 70 (192 * T 51 27 + u) = rwC T u := by
      rw [c, (h3 _).1 (by omega) (by omega)]
      have e : 192 * T 51 27 + u - 192 * T 51 27 = u := by omega
      rw [e]
    rw [L_X12_frees_2.eq_2, if_neg (by omega), d51, zg_in (by omega), e70, zg_in cu, zs_in, zl_in (by omega)]
    refine ih _ ⟨by omega, b.up (by decide), ?_, fun q q0 q1 => ?_⟩
    · rw [← c]
      funext q
      rw [up_cell _ (by decide)]
    · rw [up_same]
      by_cases e : q = rwC T u
      · rw [if_pos e]
        exact ⟨fun _ => rfl, fun z => absurd ⟨u, a.1, by omega, e.symm⟩ z⟩
      · rw [if_neg e]
        refine ⟨fun ⟨i, i0, i1, i2⟩ => (d q q0 q1).1 ⟨i, i0, ?_, i2⟩, fun z => (d q q0 q1).2 (fun ⟨i, i0, i1, i2⟩ => z ⟨i, i0, by omega, i2⟩)⟩
        by_cases y : i = u
        · rw [y] at i2
          exact absurd i2.symm e
        · omega
theorem m_parted {v : Int} (hd : sdR S T) (b63 : B 63 = T 63) (b64 : B 64 = T 64) (h : pIn 16 12 (T 61 v) (T 62 v)) (h' : pIn 16 12 (T 61 (v - 1)) (T 62 (v - 1))) : M_X12_isParted (T 61 v) (T 62 v) (T 61 (v - 1)) (T 62 (v - 1)) B = some (if S 4 (rwS T v) ≠ -1 then 1 else 0, B) := by
  obtain ⟨d3, d4⟩ := hd.m
  unfold pIn at h h'
  unfold M_X12_isParted J_X12_isParted_24 J_X12_isParted_55 rwS
  generalize T 61 v = X at *
  generalize T 62 v = Y at *
  generalize T 61 (v - 1) = X0 at *
  generalize T 62 (v - 1) = Y0 at *
  rw [b63, b64]
  have fin64 : ∀ s : Int, 0 ≤ s → s < 204 → (if T 64 s ≤ 0 then some ((0 : Int), B) else some (1, B)) = some (if S 4 (208 + s) ≠ -1 then 1 else 0, B) := by
    intro s s0 s1
    have z := d4 s s0 s1
    by_cases g : T 64 s ≤ 0
    · rw [if_pos g, if_neg (by omega)]
    · rw [if_neg g, if_pos (by omega)]
  have fin63 : ∀ s : Int, 0 ≤ s → s < 208 → (if T 63 s ≤ 0 then some ((0 : Int), B) else some (1, B)) = some (if S 4 s ≠ -1 then 1 else 0, B) := by
    intro s s0 s1
    have z := d3 s s0 s1
    by_cases g : T 63 s ≤ 0
    · rw [if_pos g, if_neg (by omega)]
    · rw [if_neg g, if_pos (by omega)]
  by_cases gy : Y = Y0
  · rw [if_pos gy, if_pos gy]
    by_cases gx : X ≤ X0
    · rw [if_pos gx, zl_in (by omega), zg_in (by omega), fin64 _ (by omega) (by omega), show 208 + (17 * Y + X0) = 208 + 17 * Y + max X X0 by omega]
    · rw [if_neg gx, zl_in (by omega), zg_in (by omega), fin64 _ (by omega) (by omega), show 208 + (17 * Y + X) = 208 + 17 * Y + max X X0 by omega]
  · rw [if_neg gy, if_neg gy]
    by_cases g2 : Y ≤ Y0
    · rw [if_pos g2, zg_in (by omega), fin63 _ (by omega) (by omega), show 16 * Y0 + X = 16 * max Y Y0 + X by omega]
    · rw [if_neg g2, zg_in (by omega), fin63 _ (by omega) (by omega), show 16 * Y + X = 16 * max Y Y0 + X by omega]
theorem m_rowing (hN : 1 ≤ T 51 19 ∧ T 51 19 ≤ 4001) (h27 : 0 ≤ T 51 27 ∧ T 51 27 < 24) (hH : rwH S T) : zP (M_X12_rowing T) (fun r B => ((∃ j : Int, rwF S T (T 51 19) j r) ∧ rSame [68, 70] T B ∧ (∀ c : Int, 0 ≤ c → c < 192 → B 68 c = T 68 c) ∧ ∀ q : Int, q < 192 * T 51 27 → B 70 q = T 70 q) ∨ ((∀ j : Int, 0 ≤ j → j < T 51 19 → rwO S T j) ∧ T 51 19 ≤ 192 ∧ ((T 51 19 = 1 ∧ r = 8 ∧ rSame [68, 70] T B ∧ (∀ c : Int, 0 ≤ c → c < 192 → B 68 c = T 68 c) ∧ ∀ q : Int, q < 192 * T 51 27 → B 70 q = T 70 q) ∨ (T 51 19 ≠ 1 ∧ r = 0 ∧ ∃ D : HS, rwM T D (T 51 19) ∧ B = up (up (up (up D 69 (T 51 27) (T 51 19)) 71 (T 51 27) (-1)) 72 (T 51 27) (-1)) 51 27 (T 51 27 + 1))))) := by
  unfold M_X12_rowing
  rw [if_neg (by omega)]
  have out : ∀ (v r : Int) (B : HS), rwM T B v → 0 ≤ v → v < T 51 19 → (∀ i : Int, 0 ≤ i → i < v → rwO S T i) → rwR S T v r → zP (zb (M_X12_frees v r B) fun r23 S24 => some (r23, S24)) (fun r B => ((∃ j : Int, rwF S T (T 51 19) j r) ∧ rSame [68, 70] T B ∧ (∀ c : Int, 0 ≤ c → c < 192 → B 68 c = T 68 c) ∧ ∀ q : Int, q < 192 * T 51 27 → B 70 q = T 70 q) ∨ ((∀ j : Int, 0 ≤ j → j < T 51 19 → rwO S T j) ∧ T 51 19 ≤ 192 ∧ ((T 51 19 = 1 ∧ r = 8 ∧ rSame [68, 70] T B ∧ (∀ c : Int, 0 ≤ c → c < 192 → B 68 c = T 68 c) ∧ ∀ q : Int, q < 192 * T 51 27 → B 70 q = T 70 q) ∨ (T 51 19 ≠ 1 ∧ r = 0 ∧ ∃ D : HS, rwM T D (T 51 19) ∧ B = up (up (up (up D 69 (T 51 27) (T 51 19)) 71 (T 51 27) (-1)) 72 (T 51 27) (-1)) 51 27 (T 51 27 + 1))))) := by
    intro v r B hM v0 v1 hok hr
    rw [zP_zb]
    have n192 := rwO_n v0 hok
    refine zP_mono (m_frees (r := r) hM ⟨v0, n192⟩ h27 hok hH) (fun x D hD => ?_)
    obtain ⟨rfl, d1, d2, d3⟩ := hD
    rw [zP_ret]
    exact Or.inl ⟨⟨v, v0, v1, hok, hr⟩, d1, d2, d3⟩
  refine zloop (b := T 51 19) (fun v B => (0 ≤ v ∧ v ≤ T 51 19) ∧ rwM T B v ∧ ∀ i : Int, 0 ≤ i → i < v → rwO S T i) (fun n v B hJ hv => ?_) (fun n v B hJ hv ih => ?_) _ _ _ ⟨⟨Int.le_refl _, by omega⟩, rwM_0, fun i i0 i1 => by omega⟩ (zbig (by omega))
  · obtain ⟨a, b, c⟩ := hJ
    have ev : v = T 51 19 := by omega
    rw [ev] at b c
    have n192 := rwO_n (by omega) c
    have b51 : B 51 = T 51 := b.1 51 (by decide)
    rw [L_X12_rowing_14.eq_2, b51, if_pos hv]
    by_cases g : T 51 19 = 1
    · rw [if_pos g, zP_zb]
      rw [g] at b c
      refine zP_mono (m_frees (r := 8) b ⟨by decide, by decide⟩ h27 c hH) (fun x D hD => ?_)
      obtain ⟨rfl, d1, d2, d3⟩ := hD
      rw [zP_ret]
      refine Or.inr ⟨by rw [g]; exact c, n192, Or.inl ⟨g, rfl, d1, d2, d3⟩⟩
    · rw [if_neg g, zg_in h27, zs_in]
      have e1 : up B 69 (T 51 27) (T 51 19) 51 27 = T 51 27 := by rw [up_cell _ (by decide), b51]
      rw [e1, zg_in h27, zs_in]
      have e2 : up (up B 69 (T 51 27) (T 51 19)) 71 (T 51 27) (-1) 51 27 = T 51 27 := by rw [up_cell _ (by decide), e1]
      rw [e2, zg_in h27, zs_in]
      have e3 : up (up (up B 69 (T 51 27) (T 51 19)) 71 (T 51 27) (-1)) 72 (T 51 27) (-1) 51 27 = T 51 27 := by rw [up_cell _ (by decide), e2]
      rw [e3, zl_in (by omega), zs_in, zP_ret]
      exact Or.inr ⟨c, n192, Or.inr ⟨g, rfl, B, b, rfl⟩⟩
  · obtain ⟨a, b, c⟩ := hJ
    have b51 : B 51 = T 51 := b.1 51 (by decide)
    have b61 : B 61 = T 61 := b.1 61 (by decide)
    have b62 : B 62 = T 62 := b.1 62 (by decide)
    have b67 : B 67 = T 67 := b.1 67 (by decide)
    have b63 : B 63 = T 63 := b.1 63 (by decide)
    have b64 : B 64 = T 64 := b.1 64 (by decide)
    have n192 := rwO_n a.1 c
    rw [L_X12_rowing_14.eq_2, b51, if_neg (by omega), zg_in (by omega), zg_in (by omega), b61, b62, m_scalp, zb_some, b67]
    have eC : 16 * T 62 v + T 61 v = rwC T v := rfl
    rw [eC]
    by_cases g : (0 ≤ T 61 v ∧ T 61 v < 16 ∧ 0 ≤ T 62 v ∧ T 62 v < 12) ∧ 0 ≤ T 67 (rwC T v)
    · have pin : pIn 16 12 (T 61 v) (T 62 v) := by
        unfold pIn
        omega
      have cr : 0 ≤ rwC T v ∧ rwC T v < 192 := by
        rw [← eC]
        omega
      have h2 := hH.1 _ cr.1 cr.2
      have hI : rwI S T v := ⟨pin, by omega⟩
      rw [zif1 g, if_neg (by decide)]
      have fin : ¬ rwP S T v → zP (J_X12_rowing_89 (L_X12_rowing_14 (fun e1 S22 => zb (M_X12_frees e1 5 S22) fun r23 S24 => some (r23, S24)) (fun e1 S25 => zb (M_X12_frees e1 6 S25) fun r26 S27 => some (r26, S27)) (fun e1 S28 => zb (M_X12_frees e1 7 S28) fun r29 S30 => some (r29, S30)) (fun S31 => if S31 51 19 = 1 then zb (M_X12_frees 1 8 S31) fun r41 S42 => some (r41, S42) else zg ((0 : Int) ≤ S31 51 27 ∧ S31 51 27 < 24) <| zs (up S31 69 (S31 51 27) (S31 51 19)) fun S34 => zg ((0 : Int) ≤ S34 51 27 ∧ S34 51 27 < 24) <| zs (up S34 71 (S34 51 27) (-1)) fun S36 => zg ((0 : Int) ≤ S36 51 27 ∧ S36 51 27 < 24) <| zs (up S36 72 (S36 51 27) (-1)) fun S38 => zl ((S38 51 27) + 1) fun x39 => zs (up S38 51 27 x39) fun S40 => some (0, S40)) n) (fun e1 S28 => zb (M_X12_frees e1 7 S28) fun r29 S30 => some (r29, S30)) v (T 61 v) (T 62 v) B) (fun r B => ((∃ j : Int, rwF S T (T 51 19) j r) ∧ rSame [68, 70] T B ∧ (∀ c : Int, 0 ≤ c → c < 192 → B 68 c = T 68 c) ∧ ∀ q : Int, q < 192 * T 51 27 → B 70 q = T 70 q) ∨ ((∀ j : Int, 0 ≤ j → j < T 51 19 → rwO S T j) ∧ T 51 19 ≤ 192 ∧ ((T 51 19 = 1 ∧ r = 8 ∧ rSame [68, 70] T B ∧ (∀ c : Int, 0 ≤ c → c < 192 → B 68 c = T 68 c) ∧ ∀ q : Int, q < 192 * T 51 27 → B 70 q = T 70 q) ∨ (T 51 19 ≠ 1 ∧ r = 0 ∧ ∃ D : HS, rwM T D (T 51 19) ∧ B = up (up (up (up D 69 (T 51 27) (T 51 19)) 71 (T 51 27) (-1)) 72 (T 51 27) (-1)) 51 27 (T 51 27 + 1))))) := by
        intro hP
        have b27 : B 51 27 = T 51 27 := by rw [b51]
        unfold J_X12_rowing_89
        rw [eC, zg_in cr]
        by_cases g8 : B 68 (rwC T v) < 0
        · have hT : rwT S T v := by
            have nx : ¬ ∃ i : Int, 0 ≤ i ∧ i < v ∧ rwC T i = rwC T v := by
              intro q
              have := (b.2.1 _ cr.1 cr.2).1 q
              omega
            refine ⟨?_, fun i i0 i1 q => nx ⟨i, i0, i1, q⟩⟩
            have e := (b.2.1 _ cr.1 cr.2).2 nx
            rcases hH.2.1 _ cr.1 cr.2 with y | y
            · exact y.1
            · omega
          have hO : rwO S T v := ⟨hI, hP, hT⟩
          have n193 := rwO_n (S := S) (T := T) (n := v + 1) (by omega) (fun i i0 i1 => by
            by_cases y : i = v
            · rw [y]
              exact hO
            · exact c i i0 (by omega))
          have e27 : up B 68 (rwC T v) (B 51 27) 51 27 = T 51 27 := by rw [up_cell _ (by decide), b27]
          rw [if_pos g8, zg_in cr, zs_in, zl_in (by omega), e27, zg_in (by omega), zs_in, zl_in (by omega), b27]
          refine ih _ ⟨by omega, ⟨(b.1.up (by decide)).up (by decide), fun q q0 q1 => ?_, fun q => ⟨fun q0 q1 => ?_, fun q0 => ?_⟩⟩, fun i i0 i1 => ?_⟩
          · obtain ⟨x1, x2⟩ := b.2.1 q q0 q1
            rw [up_cell _ (by decide), up_same]
            by_cases y : q = rwC T v
            · rw [if_pos y]
              exact ⟨fun _ => rfl, fun z => absurd ⟨v, a.1, by omega, y.symm⟩ z⟩
            · rw [if_neg y]
              refine ⟨fun ⟨i, i0, i1, i2⟩ => x1 ⟨i, i0, ?_, i2⟩, fun z => x2 (fun ⟨i, i0, i1, i2⟩ => z ⟨i, i0, by omega, i2⟩)⟩
              by_cases w : i = v
              · rw [w] at i2
                exact absurd i2.symm y
              · omega
          · rw [up_same]
            by_cases y : q = 192 * T 51 27 + v
            · rw [if_pos y, y]
              have e : 192 * T 51 27 + v - 192 * T 51 27 = v := by omega
              rw [e]
            · rw [if_neg y, up_cell _ (by decide)]
              exact (b.2.2 q).1 q0 (by omega)
          · rw [up_same, if_neg (by omega), up_cell _ (by decide)]
            exact (b.2.2 q).2 q0
          · by_cases y : i = v
            · rw [y]
              exact hO
            · exact c i i0 (by omega)
        · rw [if_neg g8]
          refine out v 7 B b a.1 hv c (Or.inr (Or.inr ⟨hI, hP, fun z => ?_, rfl⟩))
          obtain ⟨x1, x2⟩ := b.2.1 _ cr.1 cr.2
          have e := x2 (fun ⟨i, i0, i1, i2⟩ => z.2 i i0 i1 i2)
          rcases hH.2.1 _ cr.1 cr.2 with y | y
          · omega
          · have := z.1
            omega
      by_cases g0 : v ≤ 0
      · rw [if_pos g0]
        exact fin (fun z => by have := z.1; omega)
      · have pin' := (c (v - 1) (by omega) (by omega)).1.1
        rw [if_neg g0, zg_in (by omega), zg_in (by omega), b61, b62, m_parted hH.2.2 b63 b64 pin pin', zb_some]
        by_cases g2 : S 4 (rwS T v) ≠ -1
        · rw [zif1 g2, if_neg (by decide)]
          exact out v 6 B b a.1 hv c (Or.inr (Or.inl ⟨hI, ⟨by omega, g2⟩, rfl⟩))
        · rw [zif0 g2, if_pos rfl]
          exact fin (fun z => g2 z.2)
    · rw [zif0 g, if_pos rfl]
      refine out v 5 B b a.1 hv c (Or.inl ⟨fun z => g ?_, rfl⟩)
      have z1 := z.1
      have z2 := z.2
      unfold pIn at z1
      have cr : 0 ≤ rwC T v ∧ rwC T v < 192 := by
        rw [← eC]
        omega
      have := hH.1 _ cr.1 cr.2
      exact ⟨by omega, by omega⟩
end RX
