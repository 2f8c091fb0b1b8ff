/-! takings: the class -/
section T2
variable {S : HS}
theorem e_spT_no {c d : Int} (hd : d = -1 ∨ (0 ≤ c ∧ c < 192 ∧ 0 ≤ d ∧ d < 192 ∧ S 20 d ≠ -1 ∧ -1 ≤ S 20 c ∧ S 20 c < 1000 ∧ (S 20 d = S 20 c + 1 → S 19 d ≤ S 19 c))) : M_X8_spreadTaker c d S = some (0, S) := by
  unfold M_X8_spreadTaker
  rw [e_cell, zb_some]
  rcases hd with rfl | ⟨h1, h2, h3, h4, h5, h6, h7, h8⟩
  · split
    · rfl
    · rw [e_cell, zb_some, zif0 (by omega), if_pos rfl]
  · rw [zif1 ⟨h1, h2⟩, if_neg (by decide), e_cell, zb_some, zif1 ⟨h3, h4⟩, if_neg (by decide), zg_in ⟨h3, h4⟩, if_neg h5, zg_in ⟨h3, h4⟩, zg_in ⟨h1, h2⟩, zl_in (by omega)]
    split
    · rename_i k
      rw [zg_in ⟨h1, h2⟩, zg_in ⟨h3, h4⟩, if_pos (h8 k)]
    · rfl
theorem e_spT_upd {c d : Int} (h1 : 0 ≤ c) (h2 : c < 192) (h3 : 0 ≤ d) (h4 : d < 192) (h5 : S 20 d = S 20 c + 1) (h6 : 0 ≤ S 20 c) (h7 : S 20 c < 1000) (h8 : S 19 c < S 19 d) : M_X8_spreadTaker c d S = some (0, up S 19 d (S 19 c)) := by
  unfold M_X8_spreadTaker
  rw [e_cell, zb_some, zif1 ⟨h1, h2⟩, if_neg (by decide), e_cell, zb_some, zif1 ⟨h3, h4⟩, if_neg (by decide), zg_in ⟨h3, h4⟩, if_neg (by omega), zg_in ⟨h3, h4⟩, zg_in ⟨h1, h2⟩, zl_in (by omega), if_pos h5, zg_in ⟨h1, h2⟩, zg_in ⟨h3, h4⟩, if_neg (by omega), zg_in ⟨h1, h2⟩, zg_in ⟨h3, h4⟩, zs_in]
theorem e_spT_push {c d : Int} (h1 : 0 ≤ c) (h2 : c < 192) (h3 : 0 ≤ d) (h4 : d < 192) (h5 : S 20 d = -1) (h6 : 0 ≤ S 20 c) (h7 : S 20 c < 1000) (h8 : 0 ≤ S 17 8) (h9 : S 17 8 < 192) : M_X8_spreadTaker c d S = some (0, up (up (up (up S 20 d (S 20 c + 1)) 19 d (S 19 c)) 22 (S 17 8) d) 17 8 (S 17 8 + 1)) := by
  unfold M_X8_spreadTaker
  rw [e_cell, zb_some, zif1 ⟨h1, h2⟩, if_neg (by decide), e_cell, zb_some, zif1 ⟨h3, h4⟩, if_neg (by decide), zg_in ⟨h3, h4⟩, if_pos h5, zg_in ⟨h1, h2⟩, zl_in (by omega), zg_in ⟨h3, h4⟩, zs_in, zg_in ⟨h1, h2⟩, zg_in ⟨h3, h4⟩, zs_in]
  have e1 : up S 20 d (S 20 c + 1) 19 c = S 19 c := rfl
  have e2 : up (up S 20 d (S 20 c + 1)) 19 d (S 19 c) 17 8 = S 17 8 := rfl
  rw [e1, e_push (by rw [e2]; exact h8) (by rw [e2]; exact h9), zb_some, e2]
theorem e_inner2 {h p pl : Int → Int} {r : Int} {k : HS → zO2} {n : Int} {Q : Int → HS → Prop} (ha : ∀ c : Int, 0 ≤ c → c < 192 → pl c = -1 ∨ 0 ≤ pl c) (hk : ∀ T : HS, TQ h p pl (T 20) (T 19) (T 22) (T 17 8) n 4 → n < T 17 8 → T 2 = h → T 4 = p → (∀ j : Int, 0 ≤ j → j < T 17 8 → T 20 (T 22 j) ≤ 1 + n) → zP (k T) Q) (T : HS) (hr : TQ h p pl (T 20) (T 19) (T 22) (T 17 8) n 0) (hn : n < T 17 8) (h2 : T 2 = h) (h4 : T 4 = p) (hb : ∀ j : Int, 0 ≤ j → j < T 17 8 → T 20 (T 22 j) ≤ 1 + n) (hb0 : T 20 (T 22 n) ≤ n) : zP (L_X8_takeHair_105 k n zBig 0 T) Q := by
  refine zloop (b := 4) (fun w T => TQ h p pl (T 20) (T 19) (T 22) (T 17 8) n w ∧ n < T 17 8 ∧ T 2 = h ∧ T 4 = p ∧ (∀ j : Int, 0 ≤ j → j < T 17 8 → T 20 (T 22 j) ≤ 1 + n) ∧ T 20 (T 22 n) ≤ n) (fun m w T hJ hw => ?_) (fun m w T hJ hw ih => ?_) _ _ _ ⟨hr, hn, h2, h4, hb, hb0⟩ (by decide)
  · obtain ⟨a, b, c, d, e, f⟩ := hJ
    have e4 : w = 4 := by
      have := a.2.1
      omega
    subst e4
    rw [L_X8_takeHair_105.eq_2, if_pos (by decide)]
    exact hk T a b c d e
  · obtain ⟨a, b, c, d, e, f⟩ := hJ
    have hm := a.le
    have r2 := a.2.1
    have sq := a.2.2.1 n r2.2.1 b
    have sc := sq.1
    have rO := gOpn_r (h := T 2) (p := T 4) (c := T 22 n) (w := w)
    have bn := e n r2.2.1 b
    rw [L_X8_takeHair_105.eq_2, if_neg (by omega), zg_in (by omega), zg_in (by omega), e_open (by have := sc.1; have := sc.2.1; omega), zb_some]
    by_cases q : gOpn (T 2) (T 4) (T 22 n) w = -1
    · rw [q, e_spT_no (Or.inl rfl), zb_some, zl_in (by omega)]
      refine ih T ⟨a.skip b (by omega) (Or.inl ?_), b, c, d, e, f⟩
      rw [← c, ← d]
      exact q
    · have ne : gOpn h p (T 22 n) w ≠ -1 := by
        rw [← c, ← d]
        exact q
      have s1 := sc.1
      have s2 := sc.2.1
      by_cases q2 : T 20 (gOpn (T 2) (T 4) (T 22 n) w) = -1
      · rw [e_spT_push s1 s2 (by omega) (by omega) q2 sq.2 (by omega) (by omega) (a.lt (d := gOpn (T 2) (T 4) (T 22 n) w) (by omega) (by omega) q2), zb_some, zl_in (by omega)]
        have X := a.push (tk' := fun c' => if c' = gOpn (T 2) (T 4) (T 22 n) w then T 19 (T 22 n) else T 19 c') (a' := fun c' => if c' = gOpn (T 2) (T 4) (T 22 n) w then T 20 (T 22 n) + 1 else T 20 c') (q' := fun j => if j = T 17 8 then gOpn (T 2) (T 4) (T 22 n) w else T 22 j) b (by omega) ne (by rw [← c, ← d]; exact q2) (fun c' => by rw [← c, ← d]) (fun c' => by rw [← c, ← d]) (fun j => by rw [← c, ← d])
        have e1 : (up (up (up (up T 20 (gOpn (T 2) (T 4) (T 22 n) w) (T 20 (T 22 n) + 1)) 19 (gOpn (T 2) (T 4) (T 22 n) w) (T 19 (T 22 n))) 22 (T 17 8) (gOpn (T 2) (T 4) (T 22 n) w)) 17 8 (T 17 8 + 1)) 20 = fun c' => if c' = gOpn (T 2) (T 4) (T 22 n) w then T 20 (T 22 n) + 1 else T 20 c' := by
          funext c'
          show up T 20 (gOpn (T 2) (T 4) (T 22 n) w) (T 20 (T 22 n) + 1) 20 c' = _
          rw [up_same]
        have e2 : (up (up (up (up T 20 (gOpn (T 2) (T 4) (T 22 n) w) (T 20 (T 22 n) + 1)) 19 (gOpn (T 2) (T 4) (T 22 n) w) (T 19 (T 22 n))) 22 (T 17 8) (gOpn (T 2) (T 4) (T 22 n) w)) 17 8 (T 17 8 + 1)) 19 = fun c' => if c' = gOpn (T 2) (T 4) (T 22 n) w then T 19 (T 22 n) else T 19 c' := by
          funext c'
          show up (up T 20 (gOpn (T 2) (T 4) (T 22 n) w) (T 20 (T 22 n) + 1)) 19 (gOpn (T 2) (T 4) (T 22 n) w) (T 19 (T 22 n)) 19 c' = _
          rw [up_same]
          rfl
        have e3 : (up (up (up (up T 20 (gOpn (T 2) (T 4) (T 22 n) w) (T 20 (T 22 n) + 1)) 19 (gOpn (T 2) (T 4) (T 22 n) w) (T 19 (T 22 n))) 22 (T 17 8) (gOpn (T 2) (T 4) (T 22 n) w)) 17 8 (T 17 8 + 1)) 22 = fun j => if j = T 17 8 then gOpn (T 2) (T 4) (T 22 n) w else T 22 j := by
          funext c'
          show up (up (up T 20 (gOpn (T 2) (T 4) (T 22 n) w) (T 20 (T 22 n) + 1)) 19 (gOpn (T 2) (T 4) (T 22 n) w) (T 19 (T 22 n))) 22 (T 17 8) (gOpn (T 2) (T 4) (T 22 n) w) 22 c' = _
          rw [up_same]
          rfl
        refine ih _ ⟨?_, ?_, c, d, fun j j0 j1 => ?_, ?_⟩
        · rw [e1, e2, e3, up_eq]
          exact X
        · rw [up_eq]
          omega
        · rw [up_eq] at j1
          rw [e1, e3]
          show (if (if j = T 17 8 then gOpn (T 2) (T 4) (T 22 n) w else T 22 j) = gOpn (T 2) (T 4) (T 22 n) w then T 20 (T 22 n) + 1 else T 20 (if j = T 17 8 then gOpn (T 2) (T 4) (T 22 n) w else T 22 j)) ≤ 1 + n
          by_cases g2 : j = T 17 8
          · rw [if_pos g2, if_pos rfl]
            omega
          · rw [if_neg g2]
            have := e j j0 (by omega)
            split
            · omega
            · exact this
        · rw [e1, e3]
          have g3 : T 22 n ≠ gOpn (T 2) (T 4) (T 22 n) w := fun g => by
            rw [← g] at q2
            have := sq.2
            omega
          show (if (if n = T 17 8 then gOpn (T 2) (T 4) (T 22 n) w else T 22 n) = gOpn (T 2) (T 4) (T 22 n) w then T 20 (T 22 n) + 1 else T 20 (if n = T 17 8 then gOpn (T 2) (T 4) (T 22 n) w else T 22 n)) ≤ n
          rw [if_neg (c := n = T 17 8) (by omega), if_neg g3]
          exact f
      · by_cases q3 : T 20 (gOpn (T 2) (T 4) (T 22 n) w) = T 20 (T 22 n) + 1 ∧ T 19 (T 22 n) < T 19 (gOpn (T 2) (T 4) (T 22 n) w)
        · rw [e_spT_upd s1 s2 (by omega) (by omega) q3.1 sq.2 (by omega) q3.2, zb_some, zl_in (by omega)]
          have X := a.upd (tk' := fun c' => if c' = gOpn (T 2) (T 4) (T 22 n) w then T 19 (T 22 n) else T 19 c') b (by omega) ne (by rw [← c, ← d]; exact q3.1) (by rw [← c, ← d]; exact q3.2) (fun c' => by rw [← c, ← d])
          have e2 : (up T 19 (gOpn (T 2) (T 4) (T 22 n) w) (T 19 (T 22 n))) 19 = fun c' => if c' = gOpn (T 2) (T 4) (T 22 n) w then T 19 (T 22 n) else T 19 c' := by
            funext c'
            rw [up_same]
          refine ih _ ⟨?_, b, c, d, e, f⟩
          rw [e2]
          exact X
        · rw [e_spT_no (Or.inr ⟨s1, s2, by omega, by omega, q2, by have := sq.2; omega, by omega, fun g => by omega⟩), zb_some, zl_in (by omega)]
          refine ih T ⟨a.skip b (by omega) (Or.inr ?_), b, c, d, e, f⟩
          rw [← c, ← d]
          exact ⟨q2, fun g => by omega⟩
theorem e_takeHair {h p pl : Int → Int} (hh : S 2 = h) (hp : S 4 = p) (hpl : S 11 = pl) (hs : ∀ c : Int, 0 ≤ c → c < 192 → pl c = -1 ∨ (0 ≤ pl c ∧ gScalp h c)) : zP (M_X8_takeHair S) (fun _ T => gTak h p pl (T 20) (T 19) ∧ ∀ c : Int, 0 ≤ c → c < 192 → (h c = -1 → T 19 c = -1) ∧ (h c ≠ -1 → T 19 c = -2 ∨ ∃ e : Int, 0 ≤ e ∧ e < 192 ∧ pl e ≠ -1 ∧ T 19 c = pl e)) := by
  have ha : ∀ c : Int, 0 ≤ c → c < 192 → pl c = -1 ∨ 0 ≤ pl c := fun c a b => (hs c a b).imp id And.left
  unfold M_X8_takeHair
  rw [zs_in, zs_in]
  have z20 : ∀ c : Int, 0 ≤ c → c < 192 → zfill S 20 192 (-1) 20 c = -1 := fun c a b => if_pos ⟨rfl, a, b⟩
  refine zloop (b := 192) (fun v T => (0 ≤ v ∧ v ≤ 192) ∧ (∀ c : Int, 0 ≤ c → c < v → (pl c ≠ -1 → T 20 c = 0 ∧ T 19 c = pl c) ∧ (pl c = -1 → T 20 c = -1 ∧ (h c = -1 → T 19 c = -1) ∧ (h c ≠ -1 → T 19 c = -2))) ∧ (∀ c : Int, v ≤ c → c < 192 → T 20 c = -1) ∧ (0 ≤ T 17 8 ∧ T 17 8 ≤ v) ∧ (∀ j : Int, 0 ≤ j → j < T 17 8 → 0 ≤ T 22 j ∧ T 22 j < v ∧ pl (T 22 j) ≠ -1) ∧ (∀ c : Int, 0 ≤ c → c < v → pl c ≠ -1 → ∃ j : Int, 0 ≤ j ∧ j < T 17 8 ∧ T 22 j = c) ∧ T 17 8 = zsum (fun c => if T 20 c = -1 then 0 else 1) 192 ∧ T 2 = h ∧ T 4 = p ∧ T 11 = pl) (fun m v T hJ hv => ?_) (fun m v T hJ hv ih => ?_) _ _ _ ⟨⟨by decide, by decide⟩, fun c a b => by omega, fun c a b => z20 c a b, ⟨Int.le_refl 0, Int.le_refl 0⟩, fun j a b => absurd (show j < 0 from b) (by omega), fun c a b => by omega, ?_, hh, hp, hpl⟩ (by decide)
  · obtain ⟨a, b, c, d, e, f, g, t2, t4, t11⟩ := hJ
    have ev : v = 192 := by omega
    subst ev
    rw [L_X8_takeHair_15.eq_2, if_pos (by decide)]
    have aq : ∀ j : Int, 0 ≤ j → j < T 17 8 → T 20 (T 22 j) = 0 := fun j j0 j1 => by
      have x := e j j0 j1
      exact ((b _ x.1 x.2.1).1 x.2.2).1
    refine zloop (b := 192) (fun n T => TQ h p pl (T 20) (T 19) (T 22) (T 17 8) n 0 ∧ T 2 = h ∧ T 4 = p ∧ ∀ j : Int, 0 ≤ j → j < T 17 8 → T 20 (T 22 j) ≤ n) (fun m n T hJ hn => ?_) (fun m n T hJ hn ih => ?_) _ _ _ ⟨?_, t2, t4, fun j j0 j1 => by rw [aq j j0 j1]; exact Int.le_refl _⟩ (by decide)
    · obtain ⟨k, k2, k4, kb⟩ := hJ
      have hm := k.le
      have r2 := k.2.1
      have en : n = T 17 8 := by omega
      subst en
      rw [L_X8_takeHair_88.eq_2, if_pos (by omega), zP_ret]
      refine ⟨k.done, fun c c0 c1 => ⟨fun q => ?_, fun q => ?_⟩⟩
      · rcases hs c c0 c1 with x | ⟨-, x⟩
        · rcases (k.1 c c0 c1).2 x with y | ⟨y, -⟩
          · exact y.2.1 q
          · exact absurd q y.2.2
        · exact absurd q x.2.2
      · by_cases x : T 20 c = -1
        · by_cases y : pl c = -1
          · rcases (k.1 c c0 c1).2 y with z | ⟨-, z, -⟩
            · exact Or.inl (z.2.2 q)
            · omega
          · have := (k.1 c c0 c1).1 y
            omega
        · exact Or.inr (k.2.2.2.2.2.2.2.1 c c0 c1 x)
    · obtain ⟨k, k2, k4, kb⟩ := hJ
      have hm := k.le
      have r2 := k.2.1
      rw [L_X8_takeHair_88.eq_2]
      by_cases q : T 17 8 ≤ n
      · have en : n = T 17 8 := by omega
        subst en
        rw [if_pos (by omega), zP_ret]
        refine ⟨k.done, fun c c0 c1 => ⟨fun q => ?_, fun q => ?_⟩⟩
        · rcases hs c c0 c1 with x | ⟨-, x⟩
          · rcases (k.1 c c0 c1).2 x with y | ⟨y, -⟩
            · exact y.2.1 q
            · exact absurd q y.2.2
          · exact absurd q x.2.2
        · by_cases x : T 20 c = -1
          · by_cases y : pl c = -1
            · rcases (k.1 c c0 c1).2 y with z | ⟨-, z, -⟩
              · exact Or.inl (z.2.2 q)
              · omega
            · have := (k.1 c c0 c1).1 y
              omega
          · exact Or.inr (k.2.2.2.2.2.2.2.1 c c0 c1 x)
      · rw [if_neg q, if_neg (by omega)]
        refine e_inner2 (r := 0) ha (fun U hU hn2 u2 u4 ub => ?_) T k (by omega) k2 k4 (fun j j0 j1 => ?_) (kb n r2.2.1 (by omega))
        · rw [zl_in (by omega)]
          exact ih U ⟨hU.next hn2, u2, u4, fun j j0 j1 => by have := ub j j0 j1; omega⟩
        · have := kb j j0 j1
          omega
    · refine ⟨fun x x0 x1 => ⟨(b x x0 x1).1, fun k => Or.inl ((b x x0 x1).2 k)⟩, by omega, fun j j0 j1 => ?_, fun x x0 x1 hx => ?_, fun i j i0 ij j1 => ?_, fun j j0 j1 _ => ?_, fun j u j0 j1 k u0 u4 => ?_, fun x x0 x1 hx => ?_, g⟩
      · have x := e j j0 j1
        rcases hs _ x.1 x.2.1 with y | y
        · exact absurd y x.2.2
        · exact ⟨y.2, by rw [aq j j0 j1]; exact Int.le_refl _⟩
      · by_cases k : pl x = -1
        · exact absurd ((b x x0 x1).2 k).1 hx
        · exact f x x0 x1 k
      · rw [aq i i0 (by omega), aq j (by omega) j1]
        exact Int.le_refl _
      · rw [aq j j0 j1, aq 0 (by omega) (by omega)]
        decide
      · unfold tPr at k
        omega
      · by_cases k : pl x = -1
        · exact absurd ((b x x0 x1).2 k).1 hx
        · exact ⟨x, x0, x1, k, ((b x x0 x1).1 k).2⟩
  · obtain ⟨a, b, c, d, e, f, g, t2, t4, t11⟩ := hJ
    rw [L_X8_takeHair_15.eq_2, if_neg (by omega), e_placeAt, zb_some, if_pos ⟨a.1, hv⟩, zg_in ⟨a.1, hv⟩, zs_in, zg_in ⟨a.1, hv⟩, up_eq, t11]
    unfold J_X8_takeHair_80
    by_cases q : pl v = -1
    · rw [if_pos q, e_scalp, zb_some]
      have e2 : up T 19 v (pl v) 2 = h := t2
      rw [e2]
      by_cases s : h v = -1
      · rw [zif0 (fun k => k.2.2 s), if_pos rfl, zl_in (by omega)]
        refine ih _ ⟨by omega, fun x x0 x1 => ?_, fun x x0 x1 => c x (by omega) x1, ⟨d.1, show T 17 8 ≤ v + 1 by omega⟩, fun j j0 j1 => ?_, fun x x0 x1 hx => ?_, g, t2, t4, t11⟩
        · show (pl x ≠ -1 → T 20 x = 0 ∧ up T 19 v (pl v) 19 x = pl x) ∧ (pl x = -1 → T 20 x = -1 ∧ (h x = -1 → up T 19 v (pl v) 19 x = -1) ∧ (h x ≠ -1 → up T 19 v (pl v) 19 x = -2))
          rw [up_same]
          by_cases k : x = v
          · subst k
            rw [if_pos rfl]
            exact ⟨fun k => absurd q k, fun _ => ⟨c x (by omega) hv, fun _ => q, fun k => absurd s k⟩⟩
          · rw [if_neg k]
            exact b x x0 (by omega)
        · have := e j j0 j1
          exact ⟨this.1, by show T 22 j < v + 1; omega, this.2.2⟩
        · refine f x x0 ?_ hx
          by_cases k : x = v
          · subst k
            exact absurd q hx
          · omega
      · rw [zif1 ⟨a.1, hv, s⟩, if_neg (by decide), zg_in ⟨a.1, hv⟩, zs_in, zl_in (by omega)]
        refine ih _ ⟨by omega, fun x x0 x1 => ?_, fun x x0 x1 => c x (by omega) x1, ⟨d.1, show T 17 8 ≤ v + 1 by omega⟩, fun j j0 j1 => ?_, fun x x0 x1 hx => ?_, g, t2, t4, t11⟩
        · show (pl x ≠ -1 → T 20 x = 0 ∧ up (up T 19 v (pl v)) 19 v (-2) 19 x = pl x) ∧ (pl x = -1 → T 20 x = -1 ∧ (h x = -1 → up (up T 19 v (pl v)) 19 v (-2) 19 x = -1) ∧ (h x ≠ -1 → up (up T 19 v (pl v)) 19 v (-2) 19 x = -2))
          rw [up_same, up_same]
          by_cases k : x = v
          · subst k
            rw [if_pos rfl]
            exact ⟨fun k => absurd q k, fun _ => ⟨c x (by omega) hv, fun k => absurd k s, fun _ => rfl⟩⟩
          · rw [if_neg k, if_neg k]
            exact b x x0 (by omega)
        · have := e j j0 j1
          exact ⟨this.1, by show T 22 j < v + 1; omega, this.2.2⟩
        · refine f x x0 ?_ hx
          by_cases k : x = v
          · subst k
            exact absurd q hx
          · omega
    · have e8 : up (up T 19 v (pl v)) 20 v 0 17 8 = T 17 8 := rfl
      rw [if_neg q, zg_in ⟨a.1, hv⟩, zs_in, e_push (by rw [e8]; exact d.1) (by rw [e8]; omega), zb_some, e8, zl_in (by omega)]
      have f20 : ∀ x : Int, up (up (up (up T 19 v (pl v)) 20 v 0) 22 (T 17 8) v) 17 8 (T 17 8 + 1) 20 x = if x = v then 0 else T 20 x := fun x => up_same (up T 19 v (pl v)) 20 v 0 x
      have f19 : ∀ x : Int, up (up (up (up T 19 v (pl v)) 20 v 0) 22 (T 17 8) v) 17 8 (T 17 8 + 1) 19 x = if x = v then pl v else T 19 x := fun x => up_same T 19 v (pl v) x
      have f22 : ∀ x : Int, up (up (up (up T 19 v (pl v)) 20 v 0) 22 (T 17 8) v) 17 8 (T 17 8 + 1) 22 x = if x = T 17 8 then v else T 22 x := fun x => up_same (up (up T 19 v (pl v)) 20 v 0) 22 (T 17 8) v x
      refine ih _ ⟨by omega, fun x x0 x1 => ?_, fun x x0 x1 => ?_, ?_, fun j j0 j1 => ?_, fun x x0 x1 hx => ?_, ?_, t2, t4, t11⟩
      · rw [f20, f19]
        by_cases k : x = v
        · subst k
          rw [if_pos rfl, if_pos rfl]
          exact ⟨fun _ => ⟨rfl, rfl⟩, fun k => absurd k q⟩
        · rw [if_neg k, if_neg k]
          exact b x x0 (by omega)
      · rw [f20, if_neg (by omega)]
        exact c x (by omega) x1
      · rw [up_eq]
        omega
      · rw [up_eq] at j1
        rw [f22]
        by_cases k : j = T 17 8
        · rw [if_pos k]
          exact ⟨a.1, by omega, q⟩
        · rw [if_neg k]
          have := e j j0 (by omega)
          exact ⟨this.1, by omega, this.2.2⟩
      · rw [up_eq]
        by_cases k : x = v
        · exact ⟨T 17 8, d.1, by omega, by rw [f22, if_pos rfl, k]⟩
        · obtain ⟨j, j0, j1, j2⟩ := f x x0 (by omega) hx
          exact ⟨j, j0, by omega, by rw [f22, if_neg (by omega)]; exact j2⟩
      · rw [up_eq, zsum_upd (f := fun c => if T 20 c = -1 then (0 : Int) else 1) (a := v) a.1 hv (fun i _ _ k => by
          show (if up (up (up (up T 19 v (pl v)) 20 v 0) 22 (T 17 8) v) 17 8 (T 17 8 + 1) 20 i = -1 then (0 : Int) else 1) = _
          rw [f20, if_neg k]), ← g]
        show T 17 8 + 1 = T 17 8 + ((if up (up (up (up T 19 v (pl v)) 20 v 0) 22 (T 17 8) v) 17 8 (T 17 8 + 1) 20 v = -1 then (0 : Int) else 1) - if T 20 v = -1 then 0 else 1)
        rw [f20, if_pos rfl, if_neg (by decide), if_pos (c v (by omega) hv)]
        omega
  · show (0 : Int) = zsum (fun c => if zfill S 20 192 (-1) 20 c = -1 then 0 else 1) 192
    rw [zsum_0]
    intro i i0 i1
    show (if zfill S 20 192 (-1) 20 i = -1 then (0 : Int) else 1) = 0
    rw [z20 i i0 i1, if_pos rfl]
end T2
