/-! rows, as the two look at them -/
theorem zfin {A : List Nat} {O : List (Nat × Int)} {B : Int → Prop} {S : HS} {m1 : zO2} {m2 : HS → zO2} {r : Int} (hI : Inv S) (e1 : m1 = some (r, S)) (w2 : zW A O B S (m2 S)) (hA : (A.all fun k => !(cArr.contains k) && cFld.all fun q => q.1 != k) = true) (hO : (O.all fun q => !(isCor q.1 q.2)) = true) (e2 : zP (m2 S) (fun r' _ => r' = r)) : ∃ (r : Int) (S1 S2 : HS), m1 = some (r, S1) ∧ WR shF S1 ∧ m2 S1 = some (r, S2) ∧ Inv S2 := by
  obtain ⟨r', U, e, q⟩ := e2
  subst q
  obtain ⟨-, W2, F2⟩ := w2 _ _ e
  exact ⟨_, _, _, e1, hI.1, e, W2, iAll_fr hI.2 hA hO F2⟩
section RW
variable {S : HS} {a1 a2 a3 : Int}
theorem e_sizeIn (hR : cRow S) : M_X6_sizeIn a1 S = some (if 0 ≤ a1 ∧ a1 < S 7 11 then S 10 a1 else 0, S) := by
  have h24 := hR.1.2.1
  unfold M_X6_sizeIn
  rw [e_has, zb_some]
  by_cases c : 0 ≤ a1 ∧ a1 < S 7 11
  · rw [zif1 (by omega), if_neg (by decide), zg_in (by omega), if_pos c]
  · rw [zif0 (by omega), if_pos rfl, if_neg c]
theorem e_timesAddedTo (hR : cRow S) : M_X6_timesAddedTo a1 S = some (if 0 ≤ a1 ∧ a1 < S 7 11 then S 13 a1 else 0, S) := by
  have h24 := hR.1.2.1
  unfold M_X6_timesAddedTo
  rw [e_has, zb_some]
  by_cases c : 0 ≤ a1 ∧ a1 < S 7 11
  · rw [zif1 (by omega), if_neg (by decide), zg_in (by omega), if_pos c]
  · rw [zif0 (by omega), if_pos rfl, if_neg c]
theorem e_knotWith (hR : cRow S) : M_X6_knotWith a1 S = some (if 0 ≤ a1 ∧ a1 < S 7 11 then S 14 a1 else -1, S) := by
  have h24 := hR.1.2.1
  unfold M_X6_knotWith
  rw [e_has, zb_some]
  by_cases c : 0 ≤ a1 ∧ a1 < S 7 11
  · rw [zif1 (by omega), if_neg (by decide), zg_in (by omega), if_pos c]
  · rw [zif0 (by omega), if_pos rfl, if_neg c]
theorem e_weekOf (hR : cRow S) : M_X6_weekOf a1 S = some (if 0 ≤ a1 ∧ a1 < S 7 11 then S 15 a1 else -1, S) := by
  have h24 := hR.1.2.1
  unfold M_X6_weekOf
  rw [e_has, zb_some]
  by_cases c : 0 ≤ a1 ∧ a1 < S 7 11
  · rw [zif1 (by omega), if_neg (by decide), zg_in (by omega), if_pos c]
  · rw [zif0 (by omega), if_pos rfl, if_neg c]
theorem e_cellIn (hR : cRow S) : M_X6_cellIn a1 a2 S = some (if (0 ≤ a1 ∧ a1 < S 7 11) ∧ 0 ≤ a2 ∧ a2 < S 10 a1 then cel S a1 a2 else -1, S) := by
  have h24 := hR.1.2.1
  unfold M_X6_cellIn
  rw [e_has, zb_some]
  by_cases c : 0 ≤ a1 ∧ a1 < S 7 11
  · have h1 := hR.2.1 a1 c.1 c.2
    rw [zif1 (by omega), if_neg (by decide)]
    by_cases d : 0 ≤ a2 ∧ a2 < S 10 a1
    · rw [if_neg (by omega), zg_in (by omega), if_pos (by omega), zg_in (by omega), zl_in (by omega), if_neg (by omega), if_neg (by omega), zg_in (by omega), if_pos ⟨c, d⟩]
      rfl
    · by_cases f : a2 < 0
      · rw [if_pos f, if_neg (by omega)]
      · rw [if_neg f, zg_in (by omega), if_neg (by omega), if_neg (by omega)]
  · rw [zif0 (by omega), if_pos rfl, if_neg (fun k => c k.1)]
theorem e_cellIn1 (hR : cRow S) (h1 : 0 ≤ a1) (h2 : a1 < S 7 11) (h3 : 0 ≤ a2) (h4 : a2 < S 10 a1) : M_X6_cellIn a1 a2 S = some (cel S a1 a2, S) := by
  rw [e_cellIn hR, if_pos ⟨⟨h1, h2⟩, h3, h4⟩]
theorem e_lastCell (hR : cRow S) (h1 : 0 ≤ a1) (h2 : a1 < S 7 11) : M_X6_lastCell a1 S = some (cel S a1 (S 10 a1 - 1), S) := by
  have h3 := hR.2.1 a1 h1 h2
  unfold M_X6_lastCell
  rw [e_sizeIn hR, zb_some, if_pos ⟨h1, h2⟩, zl_in (by omega), e_cellIn1 hR h1 h2 (by omega) (by omega), zb_some]
theorem cel_r (hR : cRow S) (h1 : 0 ≤ a1) (h2 : a1 < S 7 11) (h3 : 0 ≤ a2) (h4 : a2 < S 10 a1) : 0 ≤ cel S a1 a2 ∧ cel S a1 a2 < 192 := by
  have := hR.2.2.1 a1 a2 h1 h2 h3 h4
  omega
theorem e_endNear (hR : iRow S) (h1 : 0 ≤ a1) (h2 : a1 < S 7 11) (h3 : 0 ≤ a2) (h4 : a2 < S 7 11) : ∃ v : Int, M_X6_endNear a1 a2 S = some (v, S) ∧ ∀ T : HS, T 69 = S 69 → T 70 = S 70 → M_X12_areNear a1 a2 T = some (v, T) := by
  have r1 := hR.2.1 a1 h1 h2
  have r2 := hR.2.1 a2 h3 h4
  have c1 := hR.2.2.1 a1 (S 10 a1 - 1) h1 h2 (by omega) (by omega)
  have c2 := hR.2.2.1 a2 (S 10 a2 - 1) h3 h4 (by omega) (by omega)
  have h24 := hR.1.2.2.1
  refine ⟨if (cel S a1 (S 10 a1 - 1) % 16 - cel S a2 (S 10 a2 - 1) % 16 ≤ 2 ∧ -2 ≤ cel S a1 (S 10 a1 - 1) % 16 - cel S a2 (S 10 a2 - 1) % 16) ∧ cel S a1 (S 10 a1 - 1) / 16 - cel S a2 (S 10 a2 - 1) / 16 ≤ 2 ∧ -2 ≤ cel S a1 (S 10 a1 - 1) / 16 - cel S a2 (S 10 a2 - 1) / 16 then 1 else 0, ?_, ?_⟩
  · unfold M_X6_endNear
    rw [e_lastCell hR.c h1 h2, zb_some, e_lastCell hR.c h3 h4, zb_some]
    generalize cel S a1 (S 10 a1 - 1) = x at *
    generalize cel S a2 (S 10 a2 - 1) = y at *
    have a1 : ∀ v : Int, zabs v = v ∨ zabs v = -v := fun v => by unfold zabs; split <;> omega
    have a2 : ∀ v : Int, 0 ≤ zabs v := fun v => by unfold zabs; split <;> omega
    have b1 := a1 (x % 16 - y % 16)
    have b2 := a2 (x % 16 - y % 16)
    have b3 := a1 (x / 16 - y / 16)
    have b4 := a2 (x / 16 - y / 16)
    rw [zg_in (by omega), zg_in (by omega), zl_in (by omega), zl_in (by omega)]
    split
    · rw [if_neg (by omega)]
    · rw [zg_in (by omega), zg_in (by omega), zl_in (by omega), zl_in (by omega)]
      split
      · rw [if_neg (by omega)]
      · rw [if_pos (by omega)]
  · intro T u1 u2
    unfold M_X12_areNear
    rw [u1, u2, r1.1, r2.1, show 192 * a1 + S 10 a1 - 1 = 192 * a1 + (S 10 a1 - 1) by omega, show 192 * a2 + S 10 a2 - 1 = 192 * a2 + (S 10 a2 - 1) by omega, c1.1, c2.1]
    generalize cel S a1 (S 10 a1 - 1) = x at *
    generalize cel S a2 (S 10 a2 - 1) = y at *
    rw [zg_in (by omega), zg_in (by omega), zg_in (by omega), zg_in (by omega), zg_in (by omega), zg_in (by omega), zl_in (by omega), zg_in (by omega), zg_in (by omega), zl_in (by omega)]
    repeat' split
    all_goals first | rfl | (exfalso; omega)
theorem ok_7 (hI : Inv S) : OK_7 Inv S := by
  intro q1 q2 q3 h1 h2 h3
  obtain ⟨⟨hh, hf, hu, hp⟩, -⟩ := hI.2.2.2.2.1
  have h0 := gAt_r (x := q1) (y := q2)
  have g1 : ∀ i : Int, up S 51 0 0 63 i = S 63 i := fun i => rfl
  have g2 : ∀ i : Int, up S 51 0 0 64 i = S 64 i := fun i => rfl
  by_cases c : (0 ≤ q1 ∧ q1 < 16 ∧ 0 ≤ q2 ∧ q2 < 12) ∧ 0 ≤ q3 ∧ q3 < 4
  · have e0 := gAt_in c.1
    have hs := gSide_r (c := gAt q1 q2) (w := q3) (by omega)
    have hp1 := hp _ hs.1 hs.2
    refine zfin (r := if S 4 (gSide (gAt q1 q2) q3) ≠ -1 then 1 else 0) hI ?_ (W_M_X12_side h1 h2 h3 hI.1) (by decide) (by decide) ?_
    · unfold M_X11_side
      rw [e_at, zb_some, if_neg (by omega), if_neg (by omega), if_pos (by omega), e_isParted (by omega), zb_some]
      by_cases d : S 4 (gSide (gAt q1 q2) q3) ≠ -1
      · rw [if_pos d, if_neg (by decide)]
      · rw [if_neg d, if_pos rfl]
    · unfold M_X12_side J_X12_side_95
      rw [zP_zs, m_cell, zb_some, zif1 c.1, if_neg (by decide), if_neg (by omega), if_pos (by omega), g1, g1, g2, g2]
      have hw4 : q3 = 0 ∨ q3 = 1 ∨ q3 = 2 ∨ q3 = 3 := by omega
      rw [e0] at hp1 hs ⊢
      rcases hw4 with rfl | rfl | rfl | rfl
      · have e3 : gSide (16 * q2 + q1) 0 = 16 * q2 + q1 := rfl
        rw [e3] at hp1 ⊢
        rw [if_pos rfl, zg_in (by omega), hf _ (by omega) (by omega)]
        split <;> rw [zP_ret] <;> split <;> omega
      · have e3 : gSide (16 * q2 + q1) 1 = 16 * q2 + q1 + 16 := rfl
        rw [e3] at hp1 ⊢
        rw [if_neg (by decide), if_pos rfl, zg_in (by omega), hf _ (by omega) (by omega), show (16 : Int) * (q2 + 1) + q1 = 16 * q2 + q1 + 16 by omega]
        split <;> rw [zP_ret] <;> split <;> omega
      · have e3 : gSide (16 * q2 + q1) 2 = 208 + (17 * q2 + q1) := by
          show 208 + 17 * ((16 * q2 + q1) / 16) + (16 * q2 + q1) % 16 = _
          omega
        rw [e3] at hp1 ⊢
        have h4 := hu (208 + (17 * q2 + q1)) (by omega) (by omega)
        rw [show 208 + (17 * q2 + q1) - 208 = 17 * q2 + q1 by omega] at h4
        rw [if_neg (by decide), if_neg (by decide), if_pos rfl, zg_in (by omega), h4]
        split <;> rw [zP_ret] <;> split <;> omega
      · have e3 : gSide (16 * q2 + q1) 3 = 208 + (17 * q2 + q1 + 1) := by
          show 208 + 17 * ((16 * q2 + q1) / 16) + (16 * q2 + q1) % 16 + 1 = _
          omega
        rw [e3] at hp1 ⊢
        have h4 := hu (208 + (17 * q2 + q1 + 1)) (by omega) (by omega)
        rw [show 208 + (17 * q2 + q1 + 1) - 208 = 17 * q2 + q1 + 1 by omega] at h4
        rw [if_neg (by decide), if_neg (by decide), if_neg (by decide), zg_in (by omega), h4]
        split <;> rw [zP_ret] <;> split <;> omega
  · refine zfin (r := -1) hI ?_ (W_M_X12_side h1 h2 h3 hI.1) (by decide) (by decide) ?_
    · unfold M_X11_side
      rw [e_at, zb_some]
      by_cases d : 0 ≤ q1 ∧ q1 < 16 ∧ 0 ≤ q2 ∧ q2 < 12
      · have e0 := gAt_in d
        rw [if_neg (by omega)]
        split
        · rfl
        · rw [if_neg (by omega)]
      · rw [gAt_out d, if_pos rfl]
    · unfold M_X12_side
      rw [zP_zs, m_cell, zb_some]
      by_cases d : 0 ≤ q1 ∧ q1 < 16 ∧ 0 ≤ q2 ∧ q2 < 12
      · rw [zif1 d, if_neg (by decide)]
        split
        · rw [zP_ret]
        · rw [if_neg (by omega), zP_ret]
      · rw [zif0 d, if_pos rfl, zP_ret]
theorem ok_8 (hI : Inv S) : OK_8 Inv S := by
  intro q1 q2 h1 h2
  have iR := hI.2.2.2.2.2.1
  refine zfin (r := if (0 ≤ q1 ∧ q1 < S 7 11) ∧ 0 ≤ q2 ∧ q2 < S 10 q1 then cel S q1 q2 else -1) hI ?_ (W_M_X12_row h1 h2 hI.1) (by decide) (by decide) ?_
  · unfold M_X11_row
    rw [e_cellIn iR.c, zb_some]
  · have r0 := iR.1
    unfold M_X12_row
    rw [zP_zs, m_isStepOf (by show S 51 27 ≤ 24; omega), zb_some]
    show zP (if (if 0 ≤ q1 ∧ q1 < S 51 27 ∧ 0 ≤ q2 ∧ q2 < S 69 q1 then (1 : Int) else 0) = 0 then _ else zg _ (some (S 70 (192 * q1 + q2), _))) _
    by_cases c : (0 ≤ q1 ∧ q1 < S 7 11)
    · have r1 := iR.2.1 q1 c.1 c.2
      rw [r1.1]
      by_cases d : 0 ≤ q2 ∧ q2 < S 10 q1
      · have r2 := iR.2.2.1 q1 q2 c.1 c.2 d.1 d.2
        rw [zif1 (by omega), if_neg (by decide), zg_in (by omega), zP_ret, if_pos ⟨c, d⟩, r2.1]
      · rw [zif0 (by omega), if_pos rfl, zP_ret, if_neg (fun k => d k.2)]
    · rw [zif0 (by omega), if_pos rfl, zP_ret, if_neg (fun k => c k.1)]
end RW
