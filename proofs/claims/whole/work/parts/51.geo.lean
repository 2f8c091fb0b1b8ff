/-! places: cells, what lies beside them, the sides between -/
def gAcr (w : Int) : Int := if w = 2 then -1 else if w = 3 then 1 else 0
def gDwn (w : Int) : Int := if w = 0 then -1 else if w = 1 then 1 else 0
def gAt (x y : Int) : Int := if 0 ≤ x ∧ x < 16 ∧ 0 ≤ y ∧ y < 12 then 16 * y + x else -1
def gBes (c w : Int) : Int := gAt (c % 16 + gAcr w) (c / 16 + gDwn w)
def gSide (c w : Int) : Int := if w = 0 then c else if w = 1 then c + 16 else if w = 2 then 208 + 17 * (c / 16) + c % 16 else 208 + 17 * (c / 16) + c % 16 + 1
def gScalp (h : Int → Int) (c : Int) : Prop := 0 ≤ c ∧ c < 192 ∧ h c ≠ -1
def gPart (p : Int → Int) (c w : Int) : Prop := p (gSide c w) ≠ -1
def gOpn (h p : Int → Int) (c w : Int) : Int := if (0 ≤ gBes c w ∧ gBes c w < 192 ∧ h (gBes c w) ≠ -1) ∧ p (gSide c w) = -1 then gBes c w else -1
theorem gAt_in {x y : Int} (h : 0 ≤ x ∧ x < 16 ∧ 0 ≤ y ∧ y < 12) : gAt x y = 16 * y + x := if_pos h
theorem gAt_out {x y : Int} (h : ¬ (0 ≤ x ∧ x < 16 ∧ 0 ≤ y ∧ y < 12)) : gAt x y = -1 := if_neg h
theorem gAt_r {x y : Int} : -1 ≤ gAt x y ∧ gAt x y < 192 := by
  unfold gAt
  split <;> omega
theorem gBes_r {c w : Int} : -1 ≤ gBes c w ∧ gBes c w < 192 := gAt_r
theorem gOpn_r {h p : Int → Int} {c w : Int} : -1 ≤ gOpn h p c w ∧ gOpn h p c w < 192 := by
  unfold gOpn
  have := gBes_r (c := c) (w := w)
  split <;> omega
theorem gAcr_r {w : Int} : -1 ≤ gAcr w ∧ gAcr w ≤ 1 := by
  unfold gAcr
  split
  · omega
  · split <;> omega
theorem gDwn_r {w : Int} : -1 ≤ gDwn w ∧ gDwn w ≤ 1 := by
  unfold gDwn
  split
  · omega
  · split <;> omega
theorem gSide_r {c w : Int} (h : 0 ≤ c ∧ c < 192) : 0 ≤ gSide c w ∧ gSide c w < 412 := by
  unfold gSide
  split
  · omega
  · split
    · omega
    · split <;> omega
/-! what only looks: the class -/
section GE
variable {S : HS} {a1 a2 a3 : Int}
theorem e_acr : M_X11_acrossBy a1 S = some (gAcr a1, S) := by
  unfold M_X11_acrossBy gAcr
  split
  · rfl
  · split <;> rfl
theorem e_dwn : M_X11_downBy a1 S = some (gDwn a1, S) := by
  unfold M_X11_downBy gDwn
  split
  · rfl
  · split <;> rfl
theorem e_cell : M_X11_isCell a1 S = some (if 0 ≤ a1 ∧ a1 < 192 then 1 else 0, S) := by
  unfold M_X11_isCell
  split
  · rw [if_neg (by omega)]
  · split
    · rw [if_neg (by omega)]
    · rw [if_pos (by omega)]
theorem e_at : M_X11_cellAt a1 a2 S = some (gAt a1 a2, S) := by
  unfold M_X11_cellAt J_X11_cellAt_24 J_X11_cellAt_25 gAt
  repeat' split
  all_goals first | rfl | omega | skip
  rw [zl_in (by omega)]
theorem e_bes (h : 0 ≤ a1 ∧ a1 < 192) : M_X11_cellBeside a1 a2 S = some (gBes a1 a2, S) := by
  have h1 := gAcr_r (w := a2)
  have h2 := gDwn_r (w := a2)
  unfold M_X11_cellBeside
  rw [zg_in (by omega), e_acr, zb_some, zg_in (by omega), e_dwn, zb_some, zl_in (by omega), zl_in (by omega), e_at, zb_some]
  rfl
theorem e_scalp : M_X2_isScalp a1 S = some (if 0 ≤ a1 ∧ a1 < 192 ∧ S 2 a1 ≠ -1 then 1 else 0, S) := by
  unfold M_X2_isScalp
  rw [e_cell, zb_some]
  by_cases h : 0 ≤ a1 ∧ a1 < 192
  · rw [if_pos h, if_neg (by decide), zg_in h]
    split
    · rw [if_neg (by simp [*])]
    · rw [if_pos ⟨h.1, h.2, ‹_›⟩]
  · rw [if_neg h, if_pos rfl, if_neg (fun k => h ⟨k.1, k.2.1⟩)]
theorem e_hairsAt : M_X2_hairsAt a1 S = some (if 0 ≤ a1 ∧ a1 < 192 then S 2 a1 else -1, S) := by
  unfold M_X2_hairsAt
  rw [e_cell, zb_some]
  by_cases h : 0 ≤ a1 ∧ a1 < 192
  · rw [if_pos h, if_neg (by decide), zg_in h, if_pos h]
  · rw [if_neg h, if_pos rfl, if_neg h]
theorem e_regionAt : M_X8_regionAt a1 S = some (if 0 ≤ a1 ∧ a1 < 192 then S 18 a1 else -1, S) := by
  unfold M_X8_regionAt
  rw [e_cell, zb_some]
  by_cases h : 0 ≤ a1 ∧ a1 < 192
  · rw [if_pos h, if_neg (by decide), zg_in h, if_pos h]
  · rw [if_neg h, if_pos rfl, if_neg h]
theorem e_takerAt : M_X8_takerAt a1 S = some (if 0 ≤ a1 ∧ a1 < 192 then S 19 a1 else -1, S) := by
  unfold M_X8_takerAt
  rw [e_cell, zb_some]
  by_cases h : 0 ≤ a1 ∧ a1 < 192
  · rw [if_pos h, if_neg (by decide), zg_in h, if_pos h]
  · rw [if_neg h, if_pos rfl, if_neg h]
theorem e_placeAt : M_X6_placeAt a1 S = some (if 0 ≤ a1 ∧ a1 < 192 then S 11 a1 else -1, S) := by
  unfold M_X6_placeAt
  rw [e_cell, zb_some]
  by_cases h : 0 ≤ a1 ∧ a1 < 192
  · rw [if_pos h, if_neg (by decide), zg_in h, if_pos h]
  · rw [if_neg h, if_pos rfl, if_neg h]
theorem e_hairsBy : M_X8_hairsBy a1 S = some (if 0 ≤ a1 ∧ a1 < 192 then S 21 a1 else 0, S) := by
  unfold M_X8_hairsBy
  rw [e_cell, zb_some]
  by_cases h : 0 ≤ a1 ∧ a1 < 192
  · rw [if_pos h, if_neg (by decide), zg_in h, if_pos h]
  · rw [if_neg h, if_pos rfl, if_neg h]
theorem e_addedIn : M_X6_addedIn a1 S = some (if 0 ≤ a1 ∧ a1 < 192 then S 12 a1 else 0, S) := by
  unfold M_X6_addedIn
  rw [e_cell, zb_some]
  by_cases h : 0 ≤ a1 ∧ a1 < 192
  · rw [if_pos h, if_neg (by decide), zg_in h, if_pos h]
  · rw [if_neg h, if_pos rfl, if_neg h]
theorem e_hasPart : M_X5_hasParting a1 S = some (if 0 ≤ a1 ∧ a1 < 412 ∧ S 4 a1 ≠ -1 then 1 else 0, S) := by
  unfold M_X5_hasParting
  split
  · rw [if_neg (by omega)]
  · split
    · rw [if_neg (by omega)]
    · rw [zg_in (by omega)]
      split
      · rw [if_neg (by simp [*])]
      · rw [if_pos ⟨by omega, by omega, ‹_›⟩]
theorem e_sideOf (h : 0 ≤ a1 ∧ a1 < 192) : M_X5_sideOfCell a1 a2 S = some (gSide a1 a2, S) := by
  unfold M_X5_sideOfCell J_X5_sideOfCell_9 gSide
  split
  · rfl
  · split
    · rw [zl_in (by omega)]
    · rw [zg_in (by omega), zg_in (by omega), zl_in (by omega)]
      split
      · rfl
      · rw [zl_in (by omega)]
theorem e_isParted (h : 0 ≤ a1 ∧ a1 < 192) : M_X5_isParted a1 a2 S = some (if S 4 (gSide a1 a2) ≠ -1 then 1 else 0, S) := by
  have h1 := gSide_r (w := a2) h
  unfold M_X5_isParted
  rw [e_cell, zb_some, if_pos h, if_neg (by decide), e_sideOf h, zb_some, e_hasPart, zb_some]
  by_cases c : S 4 (gSide a1 a2) ≠ -1
  · rw [zif1 ⟨h1.1, h1.2, c⟩, if_neg (by decide), if_pos c]
  · rw [zif0 (fun k => c k.2.2), if_pos rfl, if_neg c]
theorem e_open (h : 0 ≤ a1 ∧ a1 < 192) : M_X8_openBeside a1 a2 S = some (gOpn (S 2) (S 4) a1 a2, S) := by
  unfold M_X8_openBeside gOpn
  rw [e_bes h, zb_some, e_scalp, zb_some]
  by_cases c : 0 ≤ gBes a1 a2 ∧ gBes a1 a2 < 192 ∧ S 2 (gBes a1 a2) ≠ -1
  · rw [if_pos c, if_neg (by decide), e_isParted h, zb_some]
    by_cases d : S 4 (gSide a1 a2) = -1
    · rw [zif0 (by simpa using d), if_pos rfl, if_pos ⟨c, d⟩]
    · rw [zif1 d, if_neg (by decide), if_neg (fun k => d k.2)]
  · rw [if_neg c, if_pos rfl, if_neg (fun k => c k.1)]
theorem e_has : M_X6_has a1 S = some (if 0 ≤ a1 ∧ a1 < S 7 11 ∧ a1 < 24 then 1 else 0, S) := by
  unfold M_X6_has
  split
  · rw [if_neg (by omega)]
  · split
    · rw [if_neg (by omega)]
    · split
      · rw [if_neg (by omega)]
      · rw [if_pos (by omega)]
theorem e_untouched : M_X11_isUntouched S = some (if S 3 3 = 0 ∧ S 7 11 = 0 ∧ S 1 2 = 0 then 1 else 0, S) := by
  unfold M_X11_isUntouched
  repeat' split
  all_goals first | rfl | (exfalso; omega) | omega
theorem e_isLength : M_X11_isLength a1 S = some (if 20 ≤ a1 ∧ a1 ≤ 2000 then 1 else 0, S) := by
  unfold M_X11_isLength
  repeat' split
  all_goals first | rfl | omega
theorem e_isSpeed : M_X11_isSpeed a1 S = some (if 0 ≤ a1 ∧ a1 ≤ 3 then 1 else 0, S) := by
  unfold M_X11_isSpeed
  repeat' split
  all_goals first | rfl | omega
/-! what only looks: the reference -/
theorem m_stepX : M_X12_stepX a1 S = some (gAcr a1, S) := by
  unfold M_X12_stepX gAcr
  split
  · rfl
  · split <;> rfl
theorem m_stepY : M_X12_stepY a1 S = some (gDwn a1, S) := by
  unfold M_X12_stepY gDwn
  split
  · rfl
  · split <;> rfl
theorem m_cell : M_X12_isCell a1 a2 S = some (if 0 ≤ a1 ∧ a1 < 16 ∧ 0 ≤ a2 ∧ a2 < 12 then 1 else 0, S) := by
  unfold M_X12_isCell
  repeat' split
  all_goals first | rfl | omega
theorem m_scalp : M_X12_isScalp a1 a2 S = some (if (0 ≤ a1 ∧ a1 < 16 ∧ 0 ≤ a2 ∧ a2 < 12) ∧ 0 ≤ S 67 (16 * a2 + a1) then 1 else 0, S) := by
  unfold M_X12_isScalp
  rw [m_cell, zb_some]
  by_cases h : 0 ≤ a1 ∧ a1 < 16 ∧ 0 ≤ a2 ∧ a2 < 12
  · rw [if_pos h, if_neg (by decide), zg_in (by omega)]
    split
    · rw [if_neg (by omega)]
    · rw [if_pos (by omega)]
  · rw [if_neg h, if_pos rfl, if_neg (fun k => h k.1)]
theorem m_least : M_X12_least a1 a2 S = some (min a1 a2, S) := by
  unfold M_X12_least
  split
  · rw [show min a1 a2 = a2 by omega]
  · rw [show min a1 a2 = a1 by omega]
theorem m_mayTell : M_X12_mayTell S = some (if S 51 22 = 0 ∧ S 51 27 = 0 ∧ S 51 38 = 0 then 1 else 0, S) := by
  unfold M_X12_mayTell
  repeat' split
  all_goals first | rfl | (exfalso; omega) | omega
theorem m_isRow : M_X12_isRow a1 S = some (if 0 ≤ a1 ∧ a1 < S 51 27 then 1 else 0, S) := by
  unfold M_X12_isRow
  repeat' split
  all_goals first | rfl | omega
theorem m_isStepOf (h : S 51 27 ≤ 24) : M_X12_isStepOf a1 a2 S = some (if 0 ≤ a1 ∧ a1 < S 51 27 ∧ 0 ≤ a2 ∧ a2 < S 69 a1 then 1 else 0, S) := by
  unfold M_X12_isStepOf
  split
  · rw [if_neg (by omega)]
  · split
    · rw [if_neg (by omega)]
    · split
      · rw [if_neg (by omega)]
      · rw [zg_in (by omega)]
        split
        · rw [if_neg (by omega)]
        · rw [if_pos (by omega)]
/-- what the two know of hair and partings is the same -/
def rHP (S : HS) : Prop := (∀ c : Int, 0 ≤ c → c < 192 → S 67 c = S 2 c ∧ -1 ≤ S 2 c ∧ S 2 c ≤ 99) ∧ (∀ s : Int, 0 ≤ s → s < 208 → S 63 s = S 4 s + 1) ∧ (∀ s : Int, 208 ≤ s → s < 412 → S 64 (s - 208) = S 4 s + 1) ∧ (∀ s : Int, 0 ≤ s → s < 412 → -1 ≤ S 4 s ∧ S 4 s < S 3 3)
theorem m_beside (hR : rHP S) (h : 0 ≤ a1 ∧ a1 < 192) (hw : 0 ≤ a2 ∧ a2 < 4) : M_X12_beside a1 a2 S = some (gOpn (S 2) (S 4) a1 a2, S) := by
  obtain ⟨hh, hf, hu, hp⟩ := hR
  have h1 := gAcr_r (w := a2)
  have h2 := gDwn_r (w := a2)
  have hs := gSide_r (w := a2) h
  have hp1 := hp _ hs.1 hs.2
  unfold M_X12_beside
  rw [zg_in (by omega), zl_in (by omega), zg_in (by omega), zl_in (by omega), m_stepX, zb_some, zl_in (by omega), m_stepY, zb_some, zl_in (by omega), m_scalp, zb_some]
  unfold gOpn
  by_cases c : 0 ≤ a1 % 16 + gAcr a2 ∧ a1 % 16 + gAcr a2 < 16 ∧ 0 ≤ a1 / 16 + gDwn a2 ∧ a1 / 16 + gDwn a2 < 12
  · have e : gBes a1 a2 = 16 * (a1 / 16 + gDwn a2) + (a1 % 16 + gAcr a2) := gAt_in c
    rw [e]
    generalize hv : 16 * (a1 / 16 + gDwn a2) + (a1 % 16 + gAcr a2) = v
    have hvr : 0 ≤ v ∧ v < 192 := by omega
    have h3 := hh v hvr.1 hvr.2
    by_cases d : 0 ≤ S 67 v
    · rw [zif1 ⟨c, d⟩, if_neg (by decide)]
      have ep : M_X12_isParted (a1 % 16) (a1 / 16) (a1 % 16 + gAcr a2) (a1 / 16 + gDwn a2) S = some (if S 4 (gSide a1 a2) = -1 then 0 else 1, S) := by
        have hw4 : a2 = 0 ∨ a2 = 1 ∨ a2 = 2 ∨ a2 = 3 := by omega
        rcases hw4 with rfl | rfl | rfl | rfl
        · have e1 : gAcr 0 = 0 := rfl
          have e2 : gDwn 0 = -1 := rfl
          rw [e1, e2] at c ⊢
          have e3 : gSide a1 0 = a1 := rfl
          rw [e3] at hp1 ⊢
          have h4 := hf a1 (by omega) (by omega)
          unfold M_X12_isParted J_X12_isParted_55
          rw [if_neg (by omega), if_neg (by omega), zg_in (by omega), show (16 : Int) * (a1 / 16) + a1 % 16 = a1 by omega, h4]
          by_cases q : S 4 a1 = -1
          · rw [if_pos (by omega), if_pos q]
          · rw [if_neg (by omega), if_neg q]
        · have e1 : gAcr 1 = 0 := rfl
          have e2 : gDwn 1 = 1 := rfl
          rw [e1, e2] at c ⊢
          have e3 : gSide a1 1 = a1 + 16 := rfl
          rw [e3] at hp1 ⊢
          have h4 := hf (a1 + 16) (by omega) (by omega)
          unfold M_X12_isParted J_X12_isParted_55
          rw [if_neg (by omega), if_pos (by omega), zg_in (by omega), show (16 : Int) * (a1 / 16 + 1) + a1 % 16 = a1 + 16 by omega, h4]
          by_cases q : S 4 (a1 + 16) = -1
          · rw [if_pos (by omega), if_pos q]
          · rw [if_neg (by omega), if_neg q]
        · have e1 : gAcr 2 = -1 := rfl
          have e2 : gDwn 2 = 0 := rfl
          rw [e1, e2] at c ⊢
          have e3 : gSide a1 2 = 208 + 17 * (a1 / 16) + a1 % 16 := rfl
          rw [e3] at hp1 ⊢
          have h4 := hu (208 + 17 * (a1 / 16) + a1 % 16) (by omega) (by omega)
          unfold M_X12_isParted J_X12_isParted_24
          rw [if_pos (by omega), if_neg (by omega), zl_in (by omega), zg_in (by omega), show (17 : Int) * (a1 / 16) + a1 % 16 = 208 + 17 * (a1 / 16) + a1 % 16 - 208 by omega, h4]
          by_cases q : S 4 (208 + 17 * (a1 / 16) + a1 % 16) = -1
          · rw [if_pos (by omega), if_pos q]
          · rw [if_neg (by omega), if_neg q]
        · have e1 : gAcr 3 = 1 := rfl
          have e2 : gDwn 3 = 0 := rfl
          rw [e1, e2] at c ⊢
          have e3 : gSide a1 3 = 208 + 17 * (a1 / 16) + a1 % 16 + 1 := rfl
          rw [e3] at hp1 ⊢
          have h4 := hu (208 + 17 * (a1 / 16) + a1 % 16 + 1) (by omega) (by omega)
          unfold M_X12_isParted J_X12_isParted_24
          rw [if_pos (by omega), if_pos (by omega), zl_in (by omega), zg_in (by omega), show (17 : Int) * (a1 / 16) + (a1 % 16 + 1) = 208 + 17 * (a1 / 16) + a1 % 16 + 1 - 208 by omega, h4]
          by_cases q : S 4 (208 + 17 * (a1 / 16) + a1 % 16 + 1) = -1
          · rw [if_pos (by omega), if_pos q]
          · rw [if_neg (by omega), if_neg q]
      rw [ep, zb_some]
      by_cases q : S 4 (gSide a1 a2) = -1
      · rw [if_pos q, if_pos rfl, zl_in (by omega), if_pos ⟨⟨hvr.1, hvr.2, by omega⟩, q⟩]
      · rw [if_neg q, if_neg (by decide), if_neg (fun k => q k.2)]
    · rw [zif0 (fun k => d k.2), if_pos rfl, if_neg (fun k => by have := k.1.2.2; omega)]
  · have e : gBes a1 a2 = -1 := gAt_out c
    rw [zif0 (fun k => c k.1), if_pos rfl, e, if_neg (by omega)]
end GE
