/-! takings: the reference, layer by layer -/
def gNb (h p a tk : Int → Int) (d c b : Int) : Prop := (b = -1 ∧ ∀ w : Int, 0 ≤ w → w < 4 → gOpn h p c w ≠ -1 → a (gOpn h p c w) ≠ d) ∨ (0 ≤ b ∧ (∃ w : Int, 0 ≤ w ∧ w < 4 ∧ gOpn h p c w ≠ -1 ∧ a (gOpn h p c w) = d ∧ tk (gOpn h p c w) = b) ∧ ∀ w : Int, 0 ≤ w → w < 4 → gOpn h p c w ≠ -1 → a (gOpn h p c w) = d → b ≤ tk (gOpn h p c w))
def TL (h p pl a tk : Int → Int) (d : Int) : Prop := (∀ c : Int, 0 ≤ c → c < 192 → (pl c ≠ -1 → a c = 0 ∧ tk c = pl c) ∧ (pl c = -1 → (a c = -1 ∧ tk c = -2) ∨ (gScalp h c ∧ 1 ≤ a c ∧ a c ≤ d ∧ 0 ≤ tk c ∧ (∃ w : Int, 0 ≤ w ∧ w < 4 ∧ gOpn h p c w ≠ -1 ∧ a (gOpn h p c w) = a c - 1 ∧ tk (gOpn h p c w) = tk c) ∧ ∀ w : Int, 0 ≤ w → w < 4 → gOpn h p c w ≠ -1 → a (gOpn h p c w) = -1 ∨ a c ≤ a (gOpn h p c w) ∨ (a (gOpn h p c w) = a c - 1 ∧ tk c ≤ tk (gOpn h p c w))))) ∧ (∀ c : Int, gScalp h c → a c = -1 → ∀ w : Int, 0 ≤ w → w < 4 → gOpn h p c w ≠ -1 → a (gOpn h p c w) = -1 ∨ a (gOpn h p c w) = d) ∧ 0 ≤ d
def acn (a : Int → Int) : Int := zsum (fun c => if a c = -1 then 0 else 1) 192
def TR (h p a0 tk0 a tk : Int → Int) (d v mr : Int) : Prop := (∀ c : Int, 0 ≤ c → c < 192 → (v ≤ c ∨ ¬ gScalp h c ∨ a0 c ≠ -1 → a c = a0 c ∧ tk c = tk0 c) ∧ (c < v → gScalp h c → a0 c = -1 → (a c = -1 ∧ tk c = tk0 c ∧ gNb h p a0 tk0 d c (-1)) ∨ (a c = -2 - d ∧ 0 ≤ tk c ∧ gNb h p a0 tk0 d c (tk c)))) ∧ ((mr = 0 ∧ ∀ c : Int, 0 ≤ c → c < v → gScalp h c → a0 c = -1 → a c = -1) ∨ (mr = 1 ∧ ∃ c : Int, 0 ≤ c ∧ c < v ∧ gScalp h c ∧ a0 c = -1 ∧ a c = -2 - d))
section TL
variable {h p pl a tk a0 tk0 a2 : Int → Int} {d v mr : Int}
theorem acn_r : 0 ≤ acn a ∧ acn a ≤ 192 := by
  have := (zsum_bd (f := fun c => if a c = -1 then (0 : Int) else 1) (n := 192) (c := 1) (fun i _ _ => by show 0 ≤ (if a i = -1 then (0 : Int) else 1) ∧ (if a i = -1 then (0 : Int) else 1) ≤ 1; split <;> omega))
  exact ⟨this.1, by have := this.2; unfold acn; omega⟩
theorem TL.val (ht : TL h p pl a tk d) (hpl : ∀ c : Int, 0 ≤ c → c < 192 → pl c = -1 ∨ 0 ≤ pl c) {c : Int} (h0 : 0 ≤ c) (h1 : c < 192) : (a c = -1 ∨ 0 ≤ a c ∧ 0 ≤ tk c) ∧ a c ≤ d := by
  have hd := ht.2.2
  by_cases e : pl c = -1
  · rcases (ht.1 c h0 h1).2 e with x | ⟨-, x, y, z, -⟩
    · exact ⟨Or.inl x.1, by omega⟩
    · exact ⟨Or.inr ⟨by omega, z⟩, y⟩
  · have x := (ht.1 c h0 h1).1 e
    rcases hpl c h0 h1 with y | y
    · exact absurd y e
    · exact ⟨Or.inr ⟨by omega, by omega⟩, by omega⟩
/-- after both passes of a round -/
theorem TR.tri (hr : TR h p a0 tk0 a tk d 192 mr) (ht : TL h p pl a0 tk0 d) (hpl : ∀ c : Int, 0 ≤ c → c < 192 → pl c = -1 ∨ 0 ≤ pl c) (h2 : ∀ c : Int, 0 ≤ c → c < 192 → a2 c = if a c < -1 then d + 1 else a c) {c : Int} (h0 : 0 ≤ c) (h1 : c < 192) : (a2 c = a0 c ∧ tk c = tk0 c ∧ (gScalp h c → a0 c = -1 → gNb h p a0 tk0 d c (-1))) ∨ (gScalp h c ∧ a0 c = -1 ∧ a2 c = d + 1 ∧ 0 ≤ tk c ∧ gNb h p a0 tk0 d c (tk c)) := by
  have x := hr.1 c h0 h1
  have y := ht.val hpl h0 h1
  have hd := ht.2.2
  by_cases g : gScalp h c ∧ a0 c = -1
  · rcases x.2 h1 g.1 g.2 with z | z
    · refine Or.inl ⟨by rw [h2 c h0 h1, if_neg (by omega)]; omega, z.2.1, fun _ _ => z.2.2⟩
    · exact Or.inr ⟨g.1, g.2, by rw [h2 c h0 h1, if_pos (by omega)], z.2⟩
  · have z := x.1 (Or.inr (by
      by_cases k : gScalp h c
      · exact Or.inr (fun q => g ⟨k, q⟩)
      · exact Or.inl k))
    exact Or.inl ⟨by rw [h2 c h0 h1, if_neg (by omega)]; omega, z.2, fun k q => absurd ⟨k, q⟩ g⟩
theorem TR.next (hr : TR h p a0 tk0 a tk d 192 1) (ht : TL h p pl a0 tk0 d) (hpl : ∀ c : Int, 0 ≤ c → c < 192 → pl c = -1 ∨ 0 ≤ pl c) (h2 : ∀ c : Int, 0 ≤ c → c < 192 → a2 c = if a c < -1 then d + 1 else a c) : TL h p pl a2 tk (d + 1) ∧ acn a0 + 1 ≤ acn a2 := by
  have tri := fun {c : Int} => hr.tri (a2 := a2) ht hpl h2 (c := c)
  have hd := ht.2.2
  have on : ∀ {c w : Int}, gOpn h p c w ≠ -1 → 0 ≤ gOpn h p c w ∧ gOpn h p c w < 192 := fun hne => by
    have := gOpn_scalp hne
    exact ⟨this.1, this.2.1⟩
  refine ⟨⟨fun c c0 c1 => ⟨fun e => ?_, fun e => ?_⟩, fun c hc ha w w0 w4 hne => ?_, by omega⟩, ?_⟩
  · have x := (ht.1 c c0 c1).1 e
    rcases tri c0 c1 with ⟨y1, y2, -⟩ | ⟨-, y, -⟩
    · rw [y1, y2]
      exact x
    · omega
  · rcases tri c0 c1 with ⟨y1, y2, y3⟩ | ⟨y1, y2, y3, y4, y5⟩
    · rw [y1, y2]
      rcases (ht.1 c c0 c1).2 e with x | ⟨x1, x2, x3, x4, ⟨w, w0, w4, z1, z2, z3⟩, x6⟩
      · exact Or.inl x
      · refine Or.inr ⟨x1, x2, by omega, x4, ⟨w, w0, w4, z1, ?_⟩, fun u u0 u4 hne => ?_⟩
        · rcases tri (on z1).1 (on z1).2 with ⟨k1, k2, -⟩ | ⟨-, k, -⟩
          · rw [k1, k2]
            exact ⟨z2, z3⟩
          · omega
        · rcases tri (on hne).1 (on hne).2 with ⟨k1, k2, -⟩ | ⟨-, k, k2, -⟩
          · rw [k1, k2]
            exact x6 u u0 u4 hne
          · exact Or.inr (Or.inl (by omega))
    · refine Or.inr ⟨y1, by omega, by omega, y4, ?_⟩
      rcases y5 with ⟨z, -⟩ | ⟨-, ⟨w, w0, w4, z1, z2, z3⟩, z4⟩
      · omega
      · refine ⟨⟨w, w0, w4, z1, ?_⟩, fun u u0 u4 hne => ?_⟩
        · rcases tri (on z1).1 (on z1).2 with ⟨k1, k2, -⟩ | ⟨-, k, -⟩
          · rw [k1, k2]
            exact ⟨by omega, z3⟩
          · omega
        · rcases tri (on hne).1 (on hne).2 with ⟨k1, k2, -⟩ | ⟨-, k, k2, -⟩
          · rcases ht.2.1 c y1 y2 u u0 u4 hne with g | g
            · exact Or.inl (by omega)
            · exact Or.inr (Or.inr ⟨by omega, by rw [k2]; exact z4 u u0 u4 hne g⟩)
          · exact Or.inr (Or.inl (by omega))
  · rcases tri hc.1 hc.2.1 with ⟨y1, y2, y3⟩ | ⟨-, -, y, -⟩
    · have e0 : a0 c = -1 := by omega
      rcases y3 hc e0 with ⟨-, z⟩ | ⟨z, -⟩
      · rcases tri (on hne).1 (on hne).2 with ⟨k1, k2, -⟩ | ⟨-, k, k2, -⟩
        · rcases ht.2.1 c hc e0 w w0 w4 hne with g | g
          · exact Or.inl (by omega)
          · exact absurd g (z w w0 w4 hne)
        · exact Or.inr k2
      · omega
    · omega
  · rcases hr.2 with ⟨k, -⟩ | ⟨-, c, c0, c1, x1, x2, x3⟩
    · omega
    · have le := zsum_le (f := fun i => if i = c then 1 else if a0 i = -1 then (0 : Int) else 1) (g := fun i => if a2 i = -1 then (0 : Int) else 1) (n := 192) (fun i i0 i1 => by
        show (if i = c then 1 else if a0 i = -1 then (0 : Int) else 1) ≤ if a2 i = -1 then 0 else 1
        by_cases k : i = c
        · subst k
          rw [if_pos rfl, if_neg]
          · exact Int.le_refl _
          · rw [h2 i i0 i1, if_pos (by omega)]
            omega
        · rw [if_neg k]
          rcases tri i0 i1 with ⟨y1, -⟩ | ⟨-, y, y2, -⟩
          · rw [y1]
            exact Int.le_refl _
          · rw [if_pos y, if_neg (by omega)]
            decide)
      have e := zsum_upd (f := fun i => if a0 i = -1 then (0 : Int) else 1) (g := fun i => if i = c then 1 else if a0 i = -1 then (0 : Int) else 1) (n := 192) (a := c) c0 c1 (fun i _ _ k => if_neg k)
      have e2 : (if a0 c = -1 then (0 : Int) else 1) = 0 := if_pos x2
      simp only [e2, if_true] at e
      unfold acn
      omega
theorem TR.last (hr : TR h p a0 tk0 a tk d 192 0) (ht : TL h p pl a0 tk0 d) (hpl : ∀ c : Int, 0 ≤ c → c < 192 → pl c = -1 ∨ 0 ≤ pl c) (h2 : ∀ c : Int, 0 ≤ c → c < 192 → a2 c = if a c < -1 then d + 1 else a c) : gTak h p pl a0 tk ∧ ∀ c : Int, 0 ≤ c → c < 192 → h c = -1 → pl c = -1 → tk c = -2 := by
  have hd := ht.2.2
  have same : ∀ c : Int, 0 ≤ c → c < 192 → tk c = tk0 c ∧ (gScalp h c → a0 c = -1 → gNb h p a0 tk0 d c (-1)) := by
    intro c c0 c1
    rcases hr.tri (a2 := a2) ht hpl h2 c0 c1 with ⟨-, y⟩ | ⟨y1, y2, y3, -⟩
    · exact y
    · rcases hr.2 with ⟨-, k⟩ | ⟨k, -⟩
      · have := k c c0 c1 y1 y2
        rw [h2 c c0 c1, this, if_neg (by omega)] at y3
        omega
      · omega
  refine ⟨fun c hc => ?_, fun c c0 c1 hh e => ?_⟩
  · rw [(same c hc.1 hc.2.1).1]
    refine ⟨(ht.1 c hc.1 hc.2.1).1, fun e => ?_⟩
    rcases (ht.1 c hc.1 hc.2.1).2 e with x | ⟨x1, x2, x3, x4, ⟨w, w0, w4, z1, z2, z3⟩, x6⟩
    · refine Or.inl ⟨x.1, x.2, fun w w0 w4 hne => ?_⟩
      rcases ht.2.1 c hc x.1 w w0 w4 hne with g | g
      · exact g
      · rcases (same c hc.1 hc.2.1).2 hc x.1 with ⟨-, z⟩ | ⟨z, -⟩
        · exact absurd g (z w w0 w4 hne)
        · omega
    · refine Or.inr ⟨x2, ⟨w, w0, w4, z1, z2, ?_⟩, fun u u0 u4 hne => ?_⟩
      · have := gOpn_scalp z1
        rw [(same _ this.1 this.2.1).1]
        exact z3
      · have := gOpn_scalp hne
        rw [(same _ this.1 this.2.1).1]
        exact x6 u u0 u4 hne
  · rw [(same c c0 c1).1]
    rcases (ht.1 c c0 c1).2 e with x | ⟨x, -⟩
    · exact x.2
    · exact absurd hh x.2.2
end TL
section T4
variable {S : HS}
theorem m_nearest {d c : Int} (hR : rHP S) (h0 : 0 ≤ c) (h1 : c < 192) (hv : ∀ e : Int, 0 ≤ e → e < 192 → S 78 e = d → 0 ≤ S 77 e) : zP (M_X12_nearestBy c d S) (fun b T => T = S ∧ gNb (S 2) (S 4) (S 78) (S 77) d c b) := by
  unfold M_X12_nearestBy
  refine zloop2 (b := 4) (fun b w T => (0 ≤ w ∧ w ≤ 4) ∧ T = S ∧ ((b = -1 ∧ ∀ u : Int, 0 ≤ u → u < w → gOpn (S 2) (S 4) c u ≠ -1 → S 78 (gOpn (S 2) (S 4) c u) ≠ d) ∨ (0 ≤ b ∧ (∃ u : Int, 0 ≤ u ∧ u < w ∧ gOpn (S 2) (S 4) c u ≠ -1 ∧ S 78 (gOpn (S 2) (S 4) c u) = d ∧ S 77 (gOpn (S 2) (S 4) c u) = b) ∧ ∀ u : Int, 0 ≤ u → u < w → gOpn (S 2) (S 4) c u ≠ -1 → S 78 (gOpn (S 2) (S 4) c u) = d → b ≤ S 77 (gOpn (S 2) (S 4) c u)))) (fun m b w T hJ hw => ?_) (fun m b w T hJ hw ih => ?_) _ _ _ _ ⟨⟨by decide, by decide⟩, rfl, Or.inl ⟨rfl, fun u a b => by omega⟩⟩ (by decide)
  · obtain ⟨a, rfl, b⟩ := hJ
    have ew : w = 4 := by omega
    subst ew
    rw [L_X12_nearestBy_5.eq_2, if_pos (by decide), zP_ret]
    exact ⟨rfl, b⟩
  · obtain ⟨a, rfl, k⟩ := hJ
    have rO := gOpn_r (h := T 2) (p := T 4) (c := c) (w := w)
    rw [L_X12_nearestBy_5.eq_2, if_neg (by omega), m_beside hR ⟨h0, h1⟩ ⟨a.1, hw⟩, zb_some]
    unfold J_X12_nearestBy_51 J_X12_nearestBy_59
    have skip : (gOpn (T 2) (T 4) c w = -1 ∨ T 78 (gOpn (T 2) (T 4) c w) ≠ d ∨ (0 ≤ b ∧ b ≤ T 77 (gOpn (T 2) (T 4) c w))) → ((b = -1 ∧ ∀ u : Int, 0 ≤ u → u < w + 1 → gOpn (T 2) (T 4) c u ≠ -1 → T 78 (gOpn (T 2) (T 4) c u) ≠ d) ∨ (0 ≤ b ∧ (∃ u : Int, 0 ≤ u ∧ u < w + 1 ∧ gOpn (T 2) (T 4) c u ≠ -1 ∧ T 78 (gOpn (T 2) (T 4) c u) = d ∧ T 77 (gOpn (T 2) (T 4) c u) = b) ∧ ∀ u : Int, 0 ≤ u → u < w + 1 → gOpn (T 2) (T 4) c u ≠ -1 → T 78 (gOpn (T 2) (T 4) c u) = d → b ≤ T 77 (gOpn (T 2) (T 4) c u))) := by
      intro hs
      rcases k with ⟨k1, k2⟩ | ⟨k1, ⟨u, u0, u1, u2⟩, k3⟩
      · refine Or.inl ⟨k1, fun u u0 u1 hne => ?_⟩
        by_cases e : u = w
        · subst e
          rcases hs with x | x | x
          · exact absurd x hne
          · exact x
          · omega
        · exact k2 u u0 (by omega) hne
      · refine Or.inr ⟨k1, ⟨u, u0, by omega, u2⟩, fun u u0 u1 hne hd => ?_⟩
        by_cases e : u = w
        · subst e
          rcases hs with x | x | x
          · exact absurd x hne
          · exact absurd hd x
          · exact x.2
        · exact k3 u u0 (by omega) hne hd
    by_cases q : gOpn (T 2) (T 4) c w = -1
    · rw [q, if_pos (by decide), zl_in (by omega)]
      exact ih _ _ ⟨by omega, rfl, skip (Or.inl q)⟩
    · rw [if_neg (by omega), zg_in (by omega)]
      by_cases q2 : T 78 (gOpn (T 2) (T 4) c w) = d
      · rw [if_pos q2]
        have pv := hv _ (by omega) (by omega) q2
        by_cases q3 : b < 0
        · rw [if_pos q3, zg_in (by omega), zl_in (by omega)]
          refine ih _ _ ⟨by omega, rfl, Or.inr ⟨pv, ⟨w, a.1, by omega, q, q2, rfl⟩, fun u u0 u1 hne hd => ?_⟩⟩
          rcases k with ⟨k1, k2⟩ | ⟨k1, -⟩
          · by_cases e : u = w
            · rw [e]
              exact Int.le_refl _
            · exact absurd hd (k2 u u0 (by omega) hne)
          · omega
        · rw [if_neg q3, zg_in (by omega)]
          by_cases q4 : b ≤ T 77 (gOpn (T 2) (T 4) c w)
          · rw [if_pos q4, zl_in (by omega)]
            exact ih _ _ ⟨by omega, rfl, skip (Or.inr (Or.inr ⟨by omega, q4⟩))⟩
          · rw [if_neg q4, zg_in (by omega), zl_in (by omega)]
            refine ih _ _ ⟨by omega, rfl, Or.inr ⟨pv, ⟨w, a.1, by omega, q, q2, rfl⟩, fun u u0 u1 hne hd => ?_⟩⟩
            rcases k with ⟨k1, k2⟩ | ⟨k1, -, k3⟩
            · omega
            · by_cases e : u = w
              · rw [e]
                exact Int.le_refl _
              · have := k3 u u0 (by omega) hne hd
                omega
      · rw [if_neg q2, zl_in (by omega)]
        exact ih _ _ ⟨by omega, rfl, skip (Or.inr (Or.inl q2))⟩
theorem m_place {k : HS → zO2} {Q : Int → HS → Prop} (hR : iRow S) (hk : ∀ T : HS, rSame [77] S T → (∀ c : Int, 0 ≤ c → c < 192 → T 77 c = if S 11 c = -1 then -2 else S 11 c) → zP (k T) Q) (h77 : ∀ c : Int, 0 ≤ c → c < 192 → S 77 c = -2) : zP (L_X12_findTaken_45 k zBig 0 S) Q := by
  have c0 := hR.c
  have m0 := hR.m
  refine zloop (b := S 7 11) (fun r T => (0 ≤ r ∧ r ≤ S 7 11) ∧ rSame [77] S T ∧ ∀ c : Int, 0 ≤ c → c < 192 → T 77 c = if S 11 c ≠ -1 ∧ S 11 c < 200 * r then S 11 c else -2) (fun m r T hJ hr => ?_) (fun m r T hJ hr ih => ?_) _ _ _ ⟨⟨by decide, c0.1.1⟩, fun _ _ => rfl, fun c a b => ?_⟩ (zbig (by have := c0.1; omega))
  · obtain ⟨a, b, c⟩ := hJ
    have t27 : T 51 27 = S 7 11 := (congrFun (b 51 (by decide)) 27).trans m0.1
    rw [L_X12_findTaken_45.eq_2, if_pos (by omega)]
    refine hk T b (fun e e0 e1 => ?_)
    rw [c e e0 e1]
    rcases c0.2.2.2 e e0 e1 with x | ⟨r', k', x1, x2, x3, x4, x5, x6⟩
    · rw [if_neg (fun k => k.1 x), if_pos x]
    · have := c0.2.1 r' x1 x2
      rw [if_pos ⟨by omega, by omega⟩, if_neg (by omega)]
  · obtain ⟨a, b, c⟩ := hJ
    have t27 : T 51 27 = S 7 11 := (congrFun (b 51 (by decide)) 27).trans m0.1
    have hr' := c0.2.1 r a.1 hr
    have h24 := c0.1.2.1
    rw [L_X12_findTaken_45.eq_2, if_neg (by omega)]
    refine zloop (b := S 10 r) (fun k T => (0 ≤ k ∧ k ≤ S 10 r) ∧ rSame [77] S T ∧ ∀ c : Int, 0 ≤ c → c < 192 → T 77 c = if S 11 c ≠ -1 ∧ S 11 c < 200 * r + k then S 11 c else -2) (fun m k T hJ hk => ?_) (fun m k T hJ hk ih2 => ?_) _ _ _ ⟨⟨by decide, by omega⟩, b, fun e e0 e1 => by rw [c e e0 e1, Int.add_zero]⟩ (zbig (by omega))
    · obtain ⟨a2, b2, d2⟩ := hJ
      have t69 : T 69 r = S 10 r := (congrFun (b2 69 (by decide)) r).trans (m0.2.1 r a.1 hr)
      have ek : k = S 10 r := by omega
      subst ek
      rw [L_X12_findTaken_55.eq_2, zg_in (by omega), if_pos (by omega), zl_in (by omega)]
      refine ih _ ⟨by omega, b2, fun e e0 e1 => ?_⟩
      rw [d2 e e0 e1]
      rcases c0.2.2.2 e e0 e1 with x | ⟨r', k', x1, x2, x3, x4, x5, x6⟩
      · rw [if_neg (fun k => k.1 x), if_neg (fun k => k.1 x)]
      · have y := c0.2.1 r' x1 x2
        have : S 11 e < 200 * r + S 10 r ↔ S 11 e < 200 * (r + 1) := by
          constructor
          · omega
          · intro g
            by_cases g2 : r' = r
            · subst g2
              omega
            · omega
        by_cases g : S 11 e < 200 * (r + 1)
        · rw [if_pos ⟨by omega, this.mpr g⟩, if_pos ⟨by omega, g⟩]
        · rw [if_neg (fun k => g (this.mp k.2)), if_neg (fun k => g k.2)]
    · obtain ⟨a2, b2, d2⟩ := hJ
      have t69 : T 69 r = S 10 r := (congrFun (b2 69 (by decide)) r).trans (m0.2.1 r a.1 hr)
      have t70 : T 70 (192 * r + k) = cel S r k := (congrFun (b2 70 (by decide)) _).trans (m0.2.2.1 r k a.1 hr a2.1 hk)
      have hc := c0.2.2.1 r k a.1 hr a2.1 hk
      rw [L_X12_findTaken_55.eq_2, zg_in (by omega), if_neg (by omega), zg_in (by omega), zl_in (by omega), t70, zg_in (by omega), zs_in, zl_in (by omega)]
      refine ih2 _ ⟨by omega, fun x hx => ?_, fun e e0 e1 => ?_⟩
      · simp only [List.mem_cons, List.not_mem_nil, or_false] at hx
        funext i
        rw [up_cell _ hx]
        exact congrFun (b2 x (by simpa using hx)) i
      · rw [up_same]
        by_cases g : e = cel S r k
        · rw [if_pos g, g, hc.2.2.1, if_pos ⟨by omega, by omega⟩]
        · rw [if_neg g, d2 e e0 e1]
          have ne : S 11 e ≠ 200 * r + k := by
            intro q
            rcases c0.2.2.2 e e0 e1 with x | ⟨r', k', x1, x2, x3, x4, x5, x6⟩
            · omega
            · have y := c0.2.1 r' x1 x2
              have : r' = r ∧ k' = k := by omega
              rw [this.1, this.2] at x6
              exact g x6.symm
          by_cases g2 : S 11 e ≠ -1 ∧ S 11 e < 200 * r + k
          · rw [if_pos g2, if_pos ⟨g2.1, by omega⟩]
          · rw [if_neg g2, if_neg (fun q => g2 ⟨q.1, by omega⟩)]
  · rw [h77 c a b, if_neg]
    intro q
    rcases c0.2.2.2 c a b with x | ⟨r', k', x1, x2, x3, x4, x5, x6⟩
    · exact q.1 x
    · omega
end T4
