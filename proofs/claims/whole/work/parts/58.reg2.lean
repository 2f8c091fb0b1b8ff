/-! regions: both programs name them -/
section R2
variable {S : HS} {h p f0 : Int → Int} {x r d : Int}
theorem e_push (h0 : 0 ≤ S 17 8) (h1 : S 17 8 < 192) : M_X8_push d S = some (0, up (up S 22 (S 17 8) d) 17 8 (S 17 8 + 1)) := by
  unfold M_X8_push
  rw [if_neg (by omega), zg_in (by omega), zs_in]
  have e : up S 22 (S 17 8) d 17 8 = S 17 8 := rfl
  rw [e, zl_in (by omega), zs_in]
theorem e_spread_no (hd : d = -1 ∨ (0 ≤ d ∧ d < 192 ∧ S 18 d ≠ -1)) : M_X8_spreadName d x S = some (0, S) := by
  unfold M_X8_spreadName
  rw [e_cell, zb_some]
  rcases hd with rfl | ⟨h1, h2, h3⟩
  · rw [zif0 (by omega), if_pos rfl]
  · rw [zif1 ⟨h1, h2⟩, if_neg (by decide), zg_in ⟨h1, h2⟩, if_neg h3]
theorem e_spread_yes (h1 : 0 ≤ d) (h2 : d < 192) (h3 : S 18 d = -1) (h4 : 0 ≤ S 17 8) (h5 : S 17 8 < 192) : M_X8_spreadName d x S = some (0, up (up (up S 18 d x) 22 (S 17 8) d) 17 8 (S 17 8 + 1)) := by
  unfold M_X8_spreadName
  rw [e_cell, zb_some, zif1 ⟨h1, h2⟩, if_neg (by decide), zg_in ⟨h1, h2⟩, if_pos h3, zg_in ⟨h1, h2⟩, zs_in]
  have e : up S 18 d x 17 8 = S 17 8 := rfl
  rw [e_push (by rw [e]; exact h4) (by rw [e]; exact h5), zb_some, e]
theorem e_inner {k : HS → zO2} {n : Int} {Q : Int → HS → Prop} (hg : RG h p f0 x) (hx : 0 ≤ x) (hk : ∀ T : HS, RN h p f0 (T 18) (T 22) (T 17 8) n 4 x → n < T 17 8 → T 2 = h → T 4 = p → T 17 9 = r → zP (k T) Q) (T : HS) (hr : RN h p f0 (T 18) (T 22) (T 17 8) n 0 x) (hn : n < T 17 8) (h2 : T 2 = h) (h4 : T 4 = p) (h9 : T 17 9 = r) : zP (L_X8_nameRegion_30 k x n zBig 0 T) Q := by
  refine zloop (b := 4) (fun w T => RN h p f0 (T 18) (T 22) (T 17 8) n w x ∧ n < T 17 8 ∧ T 2 = h ∧ T 4 = p ∧ T 17 9 = r) (fun m w T hJ hw => ?_) (fun m w T hJ hw ih => ?_) _ _ _ ⟨hr, hn, h2, h4, h9⟩ (by decide)
  · obtain ⟨a, b, c, d, e⟩ := hJ
    have e4 : w = 4 := by
      have := a.2.1
      omega
    subst e4
    rw [L_X8_nameRegion_30.eq_2, if_pos (by decide)]
    exact hk T a b c d e
  · obtain ⟨a, b, c, d, e⟩ := hJ
    have hm := a.le
    have r2 := a.2.1
    have sc := (a.2.2.1 n r2.2.1 b).1
    have rO := gOpn_r (h := T 2) (p := T 4) (c := T 22 n) (w := w)
    rw [L_X8_nameRegion_30.eq_2, if_neg (by omega), zg_in (by omega), e_open (by have := sc.1; have := sc.2.1; omega), zb_some]
    by_cases q : gOpn (T 2) (T 4) (T 22 n) w = -1
    · rw [q, e_spread_no (Or.inl rfl), zb_some, zl_in (by omega)]
      refine ih T ⟨a.skip b (by omega) (Or.inl ?_), b, c, d, e⟩
      rw [← c, ← d]
      exact q
    · by_cases q2 : T 18 (gOpn (T 2) (T 4) (T 22 n) w) = -1
      · have ne : gOpn h p (T 22 n) w ≠ -1 := by
          rw [← c, ← d]
          exact q
        rw [e_spread_yes (by omega) (by omega) q2 (by omega) (a.lt (d := gOpn (T 2) (T 4) (T 22 n) w) (by omega) (by omega) (by rw [q2]; omega)), zb_some, zl_in (by omega)]
        refine ih _ ⟨?_, ?_, c, d, e⟩
        · have := a.push (f' := fun c' => if c' = gOpn (T 2) (T 4) (T 22 n) w then x else T 18 c') (q' := fun j => if j = T 17 8 then gOpn (T 2) (T 4) (T 22 n) w else T 22 j) b (by omega) ne (by rw [← c, ← d]; exact q2) hx (fun c' => by rw [← c, ← d]) (fun j => by rw [← c, ← d])
          have e1 : (up (up (up T 18 (gOpn (T 2) (T 4) (T 22 n) w) x) 22 (T 17 8) (gOpn (T 2) (T 4) (T 22 n) w)) 17 8 (T 17 8 + 1)) 18 = fun c' => if c' = gOpn (T 2) (T 4) (T 22 n) w then x else T 18 c' := by
            funext c'
            show up T 18 (gOpn (T 2) (T 4) (T 22 n) w) x 18 c' = _
            rw [up_same]
          have e2 : (up (up (up T 18 (gOpn (T 2) (T 4) (T 22 n) w) x) 22 (T 17 8) (gOpn (T 2) (T 4) (T 22 n) w)) 17 8 (T 17 8 + 1)) 22 = fun j => if j = T 17 8 then gOpn (T 2) (T 4) (T 22 n) w else T 22 j := by
            funext c'
            show up (up T 18 (gOpn (T 2) (T 4) (T 22 n) w) x) 22 (T 17 8) (gOpn (T 2) (T 4) (T 22 n) w) 22 c' = _
            rw [up_same]
            rfl
          rw [e1, e2, up_eq]
          exact this
        · rw [up_eq]
          omega
      · have ne : gOpn h p (T 22 n) w ≠ -1 := by
          rw [← c, ← d]
          exact q
        rw [e_spread_no (Or.inr ⟨by omega, by omega, q2⟩), zb_some, zl_in (by omega)]
        refine ih T ⟨a.skip b (by omega) (Or.inr ?_), b, c, d, e⟩
        refine a.seen hg b (by omega) ne ?_
        rw [← c, ← d]
        exact q2
theorem e_nameRegion (hg : RG (S 2) (S 4) (S 18) x) (hx : gScalp (S 2) x) (hx0 : S 18 x = -1) : zP (M_X8_nameRegion x S) (fun _ T => RG (S 2) (S 4) (T 18) (x + 1) ∧ rcn (T 18) = rcn (S 18) + 1 ∧ T 2 = S 2 ∧ T 4 = S 4 ∧ T 17 9 = S 17 9) := by
  have x1 := hx.1
  have x2 := hx.2.1
  unfold M_X8_nameRegion
  rw [zs_in, e_spread_yes (S := up S 17 8 0) x1 x2 hx0 (show (0 : Int) ≤ 0 by decide) (show (0 : Int) < 192 by decide), zb_some]
  refine zloop (b := 192) (fun n T => RN (S 2) (S 4) (S 18) (T 18) (T 22) (T 17 8) n 0 x ∧ T 2 = S 2 ∧ T 4 = S 4 ∧ T 17 9 = S 17 9) (fun m n T hJ hn => ?_) (fun m n T hJ hn ih => ?_) _ _ _ ⟨?_, rfl, rfl, rfl⟩ (by decide)
  · obtain ⟨a, c, d, e⟩ := hJ
    have hm := a.le
    have r2 := a.2.1
    have en : n = T 17 8 := by omega
    subst en
    rw [L_X8_nameRegion_13.eq_2, if_pos (by omega), zP_ret]
    obtain ⟨k1, k2⟩ := RN.done hg hx hx0 a
    exact ⟨k1, k2, c, d, e⟩
  · obtain ⟨a, c, d, e⟩ := hJ
    have hm := a.le
    have r2 := a.2.1
    rw [L_X8_nameRegion_13.eq_2]
    by_cases q : T 17 8 ≤ n
    · have en : n = T 17 8 := by omega
      rw [if_pos q, zP_ret]
      subst en
      obtain ⟨k1, k2⟩ := RN.done hg hx hx0 a
      exact ⟨k1, k2, c, d, e⟩
    · rw [if_neg q, if_neg (by omega)]
      refine e_inner (r := S 17 9) hg x1 (fun U hU hn2 u2 u4 u9 => ?_) T a (by omega) c d e
      rw [zl_in (by omega)]
      exact ih U ⟨hU.next hn2, u2, u4, u9⟩
  · have e0 : up S 17 8 0 17 8 = 0 := rfl
    rw [e0]
    refine RN.init hg hx hx0 (fun c => ?_) ?_
    · show up S 18 x x 18 c = _
      rw [up_same]
    · rfl
theorem rcn_r {f : Int → Int} : 0 ≤ rcn f ∧ rcn f ≤ 192 := by
  have := zsum_bd (f := fun c => if f c = c then (1 : Int) else 0) (n := 192) (c := 1) (fun i _ _ => by show 0 ≤ (if f i = i then (1 : Int) else 0) ∧ (if f i = i then (1 : Int) else 0) ≤ 1; split <;> omega)
  exact ⟨this.1, by have := this.2; unfold rcn; omega⟩
theorem e_nameRegions : zP (M_X8_nameRegions S) (fun _ T => gReg (S 2) (S 4) (T 18) ∧ T 17 9 = rcn (T 18)) := by
  unfold M_X8_nameRegions
  rw [zs_in, zs_in]
  refine zloop (b := 192) (fun v T => 0 ≤ v ∧ v ≤ 192 ∧ RG (S 2) (S 4) (T 18) v ∧ T 17 9 = rcn (T 18) ∧ T 2 = S 2 ∧ T 4 = S 4) (fun m v T hJ hv => ?_) (fun m v T hJ hv ih => ?_) _ _ _ ⟨by decide, by decide, ?_, ?_, ?_, ?_⟩ (by decide)
  · obtain ⟨a, b, c, d, e, f⟩ := hJ
    have ev : v = 192 := by omega
    subst ev
    rw [L_X8_nameRegions_15.eq_2, if_pos (by decide), zP_ret]
    exact ⟨c.reg, d⟩
  · obtain ⟨a, b, c, d, e, f⟩ := hJ
    rw [L_X8_nameRegions_15.eq_2, if_neg (by omega), zg_in (by omega)]
    unfold J_X8_nameRegions_58
    by_cases q : T 18 v = -1
    · rw [if_pos q, e_scalp, zb_some]
      by_cases s : 0 ≤ v ∧ v < 192 ∧ T 2 v ≠ -1
      · rw [zif1 s, if_neg (by decide), zP_zb]
        have s' : gScalp (T 2) v := s
        rw [← e, ← f] at c
        refine zP_mono (e_nameRegion c s' q) (fun _ U hU => ?_)
        obtain ⟨k1, k2, k3, k4, k5⟩ := hU
        have hr := rcn_r (f := T 18)
        rw [zl_in (by omega), zs_in, zl_in (by omega)]
        refine ih _ ⟨by omega, by omega, ?_, ?_, ?_, ?_⟩
        · rw [e, f] at k1
          exact k1
        · show U 17 9 + 1 = rcn (U 18)
          omega
        · show U 2 = S 2
          rw [k3, e]
        · show U 4 = S 4
          rw [k4, f]
      · rw [zif0 s, if_pos rfl, zl_in (by omega)]
        refine ih _ ⟨by omega, by omega, c.skip (Or.inl ?_), d, e, f⟩
        rw [← e]
        exact s
    · rw [if_neg q, zl_in (by omega)]
      exact ih _ ⟨by omega, by omega, c.skip (Or.inr q), d, e, f⟩
  · refine RG.init (fun c c0 c1 => ?_)
    show zfill S 18 192 (-1) 18 c = -1
    exact if_pos ⟨rfl, c0, c1⟩
  · show (0 : Int) = rcn (zfill S 18 192 (-1) 18)
    unfold rcn
    rw [zsum_0]
    intro i i0 i1
    have e : zfill S 18 192 (-1) 18 i = -1 := if_pos ⟨rfl, i0, i1⟩
    show (if zfill S 18 192 (-1) 18 i = i then (1 : Int) else 0) = 0
    rw [e, if_neg (by omega)]
  · rfl
  · rfl
theorem rHP_of {T : HS} (hR : rHP S) (h1 : T 67 = S 67) (h2 : T 2 = S 2) (h3 : T 63 = S 63) (h4 : T 64 = S 64) (h5 : T 4 = S 4) (h6 : T 3 3 = S 3 3) : rHP T := by
  unfold rHP
  rw [h1, h2, h3, h4, h5, h6]
  exact hR
/-- all but these cells -/
def rSame (L : List Nat) (S T : HS) : Prop := ∀ k : Nat, k ∉ L → T k = S k
theorem rSame.hp {L : List Nat} {T : HS} (hR : rHP S) (hs : rSame L S T) (hL : (L.all fun k => k != 67 && k != 2 && k != 63 && k != 64 && k != 4 && k != 3) = true) : rHP T := by
  have g : ∀ k : Nat, (k = 67 ∨ k = 2 ∨ k = 63 ∨ k = 64 ∨ k = 4 ∨ k = 3) → k ∉ L := by
    intro k hk hm
    have := List.all_eq_true.mp hL k hm
    simp at this
    omega
  exact rHP_of hR (hs 67 (g 67 (by omega))) (hs 2 (g 2 (by omega))) (hs 63 (g 63 (by omega))) (hs 64 (g 64 (by omega))) (hs 4 (g 4 (by omega))) (congrFun (hs 3 (g 3 (by omega))) 3)
theorem m_inner {k : Int → HS → zO2} {n m0 : Int} {Q : Int → HS → Prop} (hR : rHP S) (hg : RG (S 2) (S 4) f0 x) (hx : 0 ≤ x) (hk : ∀ (m : Int) (T : HS), RN (S 2) (S 4) f0 (T 75) (T 76) m n 4 x → n < m → rSame [75, 76] S T → zP (k m T) Q) (T : HS) (hr : RN (S 2) (S 4) f0 (T 75) (T 76) m0 n 0 x) (hn : n < m0) (hs : rSame [75, 76] S T) : zP (L_X12_spreads_26 k x n zBig m0 0 T) Q := by
  refine zloop2 (b := 4) (fun m w T => RN (S 2) (S 4) f0 (T 75) (T 76) m n w x ∧ n < m ∧ rSame [75, 76] S T) (fun l m w T hJ hw => ?_) (fun l m w T hJ hw ih => ?_) _ _ _ _ ⟨hr, hn, hs⟩ (by decide)
  · obtain ⟨a, b, c⟩ := hJ
    have e4 : w = 4 := by
      have := a.2.1
      omega
    subst e4
    rw [L_X12_spreads_26.eq_2, if_pos (by decide)]
    exact hk m T a b c
  · obtain ⟨a, b, c⟩ := hJ
    have hm := a.le
    have r2 := a.2.1
    have sc := (a.2.2.1 n r2.2.1 b).1
    have t2 : T 2 = S 2 := c 2 (by decide)
    have t4 : T 4 = S 4 := c 4 (by decide)
    have rO := gOpn_r (h := S 2) (p := S 4) (c := T 76 n) (w := w)
    rw [L_X12_spreads_26.eq_2, if_neg (by omega), zg_in (by omega), m_beside (c.hp hR (by decide)) (by have := sc.1; have := sc.2.1; omega) (by omega), zb_some, t2, t4]
    unfold J_X12_spreads_80
    by_cases q : gOpn (S 2) (S 4) (T 76 n) w = -1
    · rw [q, if_pos (by decide), zl_in (by omega)]
      exact ih m T ⟨a.skip b (by omega) (Or.inl q), b, c⟩
    · rw [if_neg (by omega), zg_in (by omega)]
      have ok := a.1 (gOpn (S 2) (S 4) (T 76 n) w) (by omega) (by omega)
      by_cases q2 : T 75 (gOpn (S 2) (S 4) (T 76 n) w) = -1
      · rw [if_neg (by omega), zg_in (by omega), zs_in]
        have lt := a.lt (d := gOpn (S 2) (S 4) (T 76 n) w) (by omega) (by omega) (by rw [q2]; omega)
        rw [zg_in (by omega), zs_in, zl_in (by omega), zl_in (by omega)]
        refine ih _ _ ⟨?_, by omega, ?_⟩
        · refine a.push (f' := _) (q' := _) b (by omega) q q2 hx (fun c' => ?_) (fun j => ?_)
          · show up T 75 (gOpn (S 2) (S 4) (T 76 n) w) x 75 c' = _
            rw [up_same]
          · show up (up T 75 (gOpn (S 2) (S 4) (T 76 n) w) x) 76 m (gOpn (S 2) (S 4) (T 76 n) w) 76 j = _
            rw [up_same]
            rfl
        · intro k' hk'
          simp only [List.mem_cons, List.not_mem_nil, or_false, not_or] at hk'
          funext i
          rw [up_cell _ hk'.2, up_cell _ hk'.1]
          exact congrFun (c k' (by simp; omega)) i
      · have e := a.seen hg b (by omega) q q2
        rw [if_pos (by omega), zl_in (by omega)]
        exact ih m T ⟨a.skip b (by omega) (Or.inr e), b, c⟩
theorem m_spreads (hR : rHP S) (hg : RG (S 2) (S 4) (S 75) x) (hx : gScalp (S 2) x) (hx0 : S 75 x = -1) : zP (M_X12_spreads x S) (fun _ T => RG (S 2) (S 4) (T 75) (x + 1) ∧ rcn (T 75) = rcn (S 75) + 1 ∧ rSame [75, 76] S T) := by
  have x1 := hx.1
  have x2 := hx.2.1
  unfold M_X12_spreads
  rw [zs_in, zg_in ⟨x1, x2⟩, zs_in]
  refine zloop2 (b := 192) (fun m n T => RN (S 2) (S 4) (S 75) (T 75) (T 76) m n 0 x ∧ rSame [75, 76] S T) (fun l m n T hJ hn => ?_) (fun l m n T hJ hn ih => ?_) _ _ _ _ ⟨?_, ?_⟩ (by decide)
  · obtain ⟨a, c⟩ := hJ
    have hm := a.le
    have r2 := a.2.1
    have en : n = m := by omega
    subst en
    rw [L_X12_spreads_18.eq_2, if_pos (by omega), zP_ret]
    obtain ⟨k1, k2⟩ := RN.done hg hx hx0 a
    exact ⟨k1, k2, c⟩
  · obtain ⟨a, c⟩ := hJ
    have hm := a.le
    have r2 := a.2.1
    rw [L_X12_spreads_18.eq_2]
    by_cases q : m ≤ n
    · have en : n = m := by omega
      rw [if_pos q, zP_ret]
      subst en
      obtain ⟨k1, k2⟩ := RN.done hg hx hx0 a
      exact ⟨k1, k2, c⟩
    · rw [if_neg q]
      refine m_inner hR hg x1 (fun m' U hU hn2 hs => ?_) T a (by omega) c
      rw [zl_in (by omega)]
      exact ih _ U ⟨hU.next hn2, hs⟩
  · refine RN.init hg hx hx0 (fun c => ?_) ?_
    · show up (up S 76 0 x) 75 x x 75 c = _
      rw [up_same]
      rfl
    · rfl
  · intro k' hk'
    simp only [List.mem_cons, List.not_mem_nil, or_false, not_or] at hk'
    funext i
    rw [up_cell _ hk'.1, up_cell _ hk'.2]
theorem m_findRegions (hR : rHP S) : zP (M_X12_findRegions S) (fun r T => gReg (S 2) (S 4) (T 75) ∧ r = rcn (T 75)) := by
  unfold M_X12_findRegions
  refine zloop (b := 192) (fun v T => 0 ≤ v ∧ v ≤ 192 ∧ (∀ c : Int, 0 ≤ c → c < v → T 75 c = -1) ∧ rSame [75, 76] S T) (fun m v T hJ hv => ?_) (fun m v T hJ hv ih => ?_) _ _ _ ⟨by decide, by decide, fun c a b => by omega, fun _ _ => rfl⟩ (by decide)
  · obtain ⟨a, b, c, d⟩ := hJ
    have ev : v = 192 := by omega
    subst ev
    rw [L_X12_findRegions_2.eq_2, if_pos (by decide)]
    refine zloop2 (b := 192) (fun w v T => 0 ≤ v ∧ v ≤ 192 ∧ RG (S 2) (S 4) (T 75) v ∧ w = rcn (T 75) ∧ rSame [75, 76] S T) (fun m w v T hJ hv => ?_) (fun m w v T hJ hv ih => ?_) _ _ _ _ ⟨by decide, by decide, RG.init c, ?_, d⟩ (by decide)
    · obtain ⟨a, b, c, d, e⟩ := hJ
      have ev : v = 192 := by omega
      subst ev
      rw [L_X12_findRegions_26.eq_2, if_pos (by decide), zP_ret]
      exact ⟨c.reg, d⟩
    · obtain ⟨a, b, c, d, e⟩ := hJ
      have t2 : T 2 = S 2 := e 2 (by decide)
      have t4 : T 4 = S 4 := e 4 (by decide)
      have t67 : T 67 v = S 67 v := congrFun (e 67 (by decide)) v
      have hh := hR.1 v a hv
      rw [L_X12_findRegions_26.eq_2, if_neg (by omega), zg_in (by omega)]
      unfold J_X12_findRegions_59
      by_cases q : T 67 v < 0
      · rw [if_pos q, zl_in (by omega)]
        exact ih _ _ ⟨by omega, by omega, c.skip (Or.inl (fun k => by have := k.2.2; omega)), d, e⟩
      · have sc : gScalp (S 2) v := ⟨a, hv, by omega⟩
        rw [if_neg q, zg_in (by omega)]
        rcases c.1 v a hv with g | ⟨g1, g2, g3, g4, g5⟩
        · rw [if_neg (by omega), zP_zb]
          rw [← t2, ← t4] at c
          refine zP_mono (m_spreads (e.hp hR (by decide)) c (by rw [t2]; exact sc) g) (fun _ U hU => ?_)
          obtain ⟨k1, k2, k3⟩ := hU
          have hr := rcn_r (f := T 75)
          rw [zl_in (by omega), zl_in (by omega)]
          rw [t2, t4] at k1
          exact ih _ _ ⟨by omega, by omega, k1, by omega, fun k hk => (k3 k hk).trans (e k hk)⟩
        · rw [if_pos g2, zl_in (by omega)]
          exact ih _ _ ⟨by omega, by omega, c.skip (Or.inr (by omega)), d, e⟩
    · show (0 : Int) = rcn (T 75)
      unfold rcn
      rw [zsum_0]
      intro i i0 i1
      show (if T 75 i = i then (1 : Int) else 0) = 0
      rw [c i i0 i1, if_neg (by omega)]
  · obtain ⟨a, b, c, d⟩ := hJ
    rw [L_X12_findRegions_2.eq_2, if_neg (by omega), zg_in (by omega), zs_in, zl_in (by omega)]
    refine ih _ ⟨by omega, by omega, fun c' c0 c1 => ?_, ?_⟩
    · rw [up_same]
      split
      · rfl
      · exact c c' c0 (by omega)
    · intro k' hk'
      simp only [List.mem_cons, List.not_mem_nil, or_false, not_or] at hk'
      funext i
      rw [up_cell _ hk'.1]
      exact congrFun (d k' (by simp; omega)) i
end R2
