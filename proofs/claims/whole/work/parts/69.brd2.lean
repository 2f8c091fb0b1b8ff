/-! what is asked of a braid -/
theorem zloop3 {F : Nat → Int → Int → Int → HS → zO2} {b : Int} {Q : Int → HS → Prop} (I : Int → Int → Int → HS → Prop) (hend : ∀ n u w v S, I u w v S → b ≤ v → zP (F (n + 1) u w v S) Q) (hstep : ∀ n u w v S, I u w v S → v < b → (∀ u' w' S', I u' w' (v + 1) S' → zP (F n u' w' (v + 1) S') Q) → zP (F (n + 1) u w v S) Q) : ∀ (n : Nat) (u w v : Int) (S : HS), I u w v S → (b - v).toNat < n → zP (F n u w v S) Q := by
  intro n
  induction n with
  | zero =>
    intro u w v S _ h
    exact absurd h (Nat.not_lt_zero _)
  | succ n ih =>
    intro u w v S hI hn
    by_cases c : b ≤ v
    · exact hend n u w v S hI c
    · refine hstep n u w v S hI (by omega) (fun u' w' S' hI' => ih u' w' (v + 1) S' hI' (by omega))
theorem zP_eq {m : zO2} {a : Int} {S : HS} (h : zP m (fun v T => v = a ∧ T = S)) : m = some (a, S) := by
  obtain ⟨v, T, e, rfl, rfl⟩ := h
  exact e
def ymn (f : Int → Int) : Nat → Int
  | 0 => f 0
  | n + 1 => min (ymn f n) (f (n + 1))
def ymx (f : Int → Int) : Nat → Int
  | 0 => f 0
  | n + 1 => max (ymx f n) (f (n + 1))
def ym0 (f : Int → Int) : Nat → Int
  | 0 => 0
  | n + 1 => max (ym0 f n) (f n)
theorem ymn_s {f : Int → Int} {v : Int} (h : 1 ≤ v) : ymn f v.toNat = min (ymn f (v - 1).toNat) (f v) := by
  rw [show v.toNat = (v - 1).toNat + 1 by omega, ymn, show ((v - 1).toNat : Int) + 1 = v by omega]
theorem ymx_s {f : Int → Int} {v : Int} (h : 1 ≤ v) : ymx f v.toNat = max (ymx f (v - 1).toNat) (f v) := by
  rw [show v.toNat = (v - 1).toNat + 1 by omega, ymx, show ((v - 1).toNat : Int) + 1 = v by omega]
theorem ym0_s {f : Int → Int} {v : Int} (h : 0 ≤ v) : ym0 f (v + 1).toNat = max (ym0 f v.toNat) (f v) := by
  rw [show (v + 1).toNat = v.toNat + 1 by omega, ym0, Int.toNat_of_nonneg h]
theorem ymn_r {f : Int → Int} {n : Nat} {a b : Int} (h : ∀ i : Int, 0 ≤ i → i ≤ n → a ≤ f i ∧ f i ≤ b) : a ≤ ymn f n ∧ ymn f n ≤ b := by
  induction n with
  | zero => exact h 0 (Int.le_refl _) (Int.le_refl _)
  | succ n ih =>
    have i := ih (fun i i0 i1 => h i i0 (by omega))
    have j := h (n + 1) (by omega) (by omega)
    unfold ymn
    omega
theorem ymx_r {f : Int → Int} {n : Nat} {a b : Int} (h : ∀ i : Int, 0 ≤ i → i ≤ n → a ≤ f i ∧ f i ≤ b) : a ≤ ymx f n ∧ ymx f n ≤ b := by
  induction n with
  | zero => exact h 0 (Int.le_refl _) (Int.le_refl _)
  | succ n ih =>
    have i := ih (fun i i0 i1 => h i i0 (by omega))
    have j := h (n + 1) (by omega) (by omega)
    unfold ymx
    omega
/-! edges -/
def gEi (h : Int → Int) (c : Int) : Int := if (0 ≤ gBes c 0 ∧ gBes c 0 < 192 ∧ h (gBes c 0) ≠ -1) ∧ (0 ≤ gBes c 1 ∧ gBes c 1 < 192 ∧ h (gBes c 1) ≠ -1) ∧ (0 ≤ gBes c 2 ∧ gBes c 2 < 192 ∧ h (gBes c 2) ≠ -1) ∧ (0 ≤ gBes c 3 ∧ gBes c 3 < 192 ∧ h (gBes c 3) ≠ -1) then 0 else 1
theorem gEi_r {h : Int → Int} {c : Int} : gEi h c = 0 ∨ gEi h c = 1 := by
  unfold gEi
  split
  · exact Or.inl rfl
  · exact Or.inr rfl
theorem gEi_0 {h : Int → Int} {c : Int} (k : ∀ u : Int, 0 ≤ u → u < 4 → gScalp h (gBes c u)) : gEi h c = 0 := if_pos ⟨k 0 (by decide) (by decide), k 1 (by decide) (by decide), k 2 (by decide) (by decide), k 3 (by decide) (by decide)⟩
theorem gEi_1 {h : Int → Int} {c : Int} (k : ∃ u : Int, 0 ≤ u ∧ u < 4 ∧ ¬ gScalp h (gBes c u)) : gEi h c = 1 := by
  obtain ⟨u, u0, u4, n⟩ := k
  refine if_neg (fun q => ?_)
  have e : u = 0 ∨ u = 1 ∨ u = 2 ∨ u = 3 := by omega
  rcases e with rfl | rfl | rfl | rfl
  · exact n q.1
  · exact n q.2.1
  · exact n q.2.2.1
  · exact n q.2.2.2
section EG
variable {S : HS} {c : Int}
theorem e_isEdge (h0 : 0 ≤ c) (h1 : c < 192) : M_X2_isEdge c S = some (gEi (S 2) c, S) := by
  refine zP_eq ?_
  unfold M_X2_isEdge
  refine zloop (b := 4) (fun w T => (0 ≤ w ∧ w ≤ 4) ∧ T = S ∧ ∀ u : Int, 0 ≤ u → u < w → gScalp (S 2) (gBes c u)) (fun n w T hJ hw => ?_) (fun n w T hJ hw ih => ?_) _ _ _ ⟨⟨by decide, by decide⟩, rfl, fun u a b => by omega⟩ (zbig (by decide))
  · obtain ⟨a, rfl, k⟩ := hJ
    rw [L_X2_isEdge_2.eq_2, if_pos hw, zP_ret]
    exact ⟨(gEi_0 (fun u u0 u4 => k u u0 (by omega))).symm, rfl⟩
  · obtain ⟨a, rfl, k⟩ := hJ
    rw [L_X2_isEdge_2.eq_2, if_neg (by omega), e_bes ⟨h0, h1⟩, zb_some, e_scalp, zb_some]
    by_cases g : 0 ≤ gBes c w ∧ gBes c w < 192 ∧ T 2 (gBes c w) ≠ -1
    · rw [zif1 g, if_neg (by decide), zl_in (by omega)]
      refine ih _ ⟨by omega, rfl, fun u u0 u1 => ?_⟩
      by_cases e : u = w
      · rw [e]
        exact g
      · exact k u u0 (by omega)
    · rw [zif0 g, if_pos rfl, zP_ret]
      exact ⟨(gEi_1 ⟨w, a.1, hw, g⟩).symm, rfl⟩
theorem m_isEdge (hR : rHP S) (h0 : 0 ≤ c) (h1 : c < 192) : M_X12_isEdge c S = some (gEi (S 2) c, S) := by
  refine zP_eq ?_
  unfold M_X12_isEdge
  refine zloop2 (b := 4) (fun b w T => (0 ≤ w ∧ w ≤ 4) ∧ T = S ∧ (b = 0 ∧ (∀ u : Int, 0 ≤ u → u < w → gScalp (S 2) (gBes c u)) ∨ b = 1 ∧ ∃ u : Int, 0 ≤ u ∧ u < w ∧ ¬ gScalp (S 2) (gBes c u))) (fun n b w T hJ hw => ?_) (fun n b w T hJ hw ih => ?_) _ _ _ _ ⟨⟨by decide, by decide⟩, rfl, Or.inl ⟨rfl, fun u a b => by omega⟩⟩ (zbig (by decide))
  · obtain ⟨a, rfl, k⟩ := hJ
    rw [L_X12_isEdge_4.eq_2, if_pos hw]
    rcases k with ⟨rfl, k⟩ | ⟨rfl, u, u0, u1, k⟩
    · rw [zg_in (Or.inl rfl), zP_ret]
      exact ⟨(gEi_0 (fun u u0 u4 => k u u0 (by omega))).symm, rfl⟩
    · rw [zg_in (Or.inr rfl), zP_ret]
      exact ⟨(gEi_1 ⟨u, u0, by omega, k⟩).symm, rfl⟩
  · obtain ⟨a, rfl, k⟩ := hJ
    have r1 := gAcr_r (w := w)
    have r2 := gDwn_r (w := w)
    rw [L_X12_isEdge_4.eq_2, if_neg (by omega)]
    unfold J_X12_isEdge_38 J_X12_isEdge_43
    rcases k with ⟨rfl, k⟩ | ⟨rfl, u, u0, u1, k⟩
    · rw [if_pos rfl, zg_in (by omega), m_stepX, zb_some, zg_in (by omega), m_stepY, zb_some, zl_in (by omega), zl_in (by omega), m_scalp, zb_some]
      have eq : gScalp (T 2) (gBes c w) ↔ (0 ≤ c % 16 + gAcr w ∧ c % 16 + gAcr w < 16 ∧ 0 ≤ c / 16 + gDwn w ∧ c / 16 + gDwn w < 12) ∧ 0 ≤ T 67 (16 * (c / 16 + gDwn w) + (c % 16 + gAcr w)) := by
        by_cases q : 0 ≤ c % 16 + gAcr w ∧ c % 16 + gAcr w < 16 ∧ 0 ≤ c / 16 + gDwn w ∧ c / 16 + gDwn w < 12
        · have e : gBes c w = 16 * (c / 16 + gDwn w) + (c % 16 + gAcr w) := gAt_in q
          have hh := hR.1 (16 * (c / 16 + gDwn w) + (c % 16 + gAcr w)) (by omega) (by omega)
          rw [e]
          exact ⟨fun x => ⟨q, by have := x.2.2; omega⟩, fun x => ⟨by omega, by omega, by have := x.2; omega⟩⟩
        · have e : gBes c w = -1 := gAt_out q
          rw [e]
          exact ⟨fun x => absurd x.1 (by decide), fun x => absurd x.1 q⟩
      by_cases g : (0 ≤ c % 16 + gAcr w ∧ c % 16 + gAcr w < 16 ∧ 0 ≤ c / 16 + gDwn w ∧ c / 16 + gDwn w < 12) ∧ 0 ≤ T 67 (16 * (c / 16 + gDwn w) + (c % 16 + gAcr w))
      · rw [zif1 g, if_neg (by decide), zl_in (by omega)]
        refine ih _ _ ⟨by omega, rfl, Or.inl ⟨rfl, fun u u0 u1 => ?_⟩⟩
        by_cases e : u = w
        · rw [e]
          exact eq.mpr g
        · exact k u u0 (by omega)
      · rw [zif0 g, if_pos rfl, zl_in (by omega)]
        exact ih _ _ ⟨by omega, rfl, Or.inr ⟨rfl, w, a.1, by omega, fun x => g (eq.mp x)⟩⟩
    · rw [if_neg (by decide), zl_in (by omega)]
      exact ih _ _ ⟨by omega, rfl, Or.inr ⟨rfl, u, u0, by omega, k⟩⟩
/-! weights at a step -/
def gHi (S : HS) (c : Int) : Int := max (S 29 c) (max (S 30 c) (S 31 c))
def gLo (S : HS) (c : Int) : Int := min (S 29 c) (min (S 30 c) (S 31 c))
def gPu (S : HS) (c : Int) : Int := if gEi (S 2) c = 0 then gHi S c - gLo S c else 2 * (gHi S c - gLo S c)
def gWs (S : HS) (c : Int) : Int := S 29 c + S 30 c + S 31 c
theorem e_weightAt {j : Int} (h0 : 0 ≤ c) (h1 : c < 192) : M_X0_weightAt c j S = some (if j = 0 then S 29 c else if j = 1 then S 30 c else S 31 c, S) := by
  unfold M_X0_weightAt
  rw [e_cell, zb_some, zif1 ⟨h0, h1⟩, if_neg (by decide), zg_in ⟨h0, h1⟩, zg_in ⟨h0, h1⟩, zg_in ⟨h0, h1⟩]
  repeat' split
  all_goals rfl
theorem e_leastAt (h0 : 0 ≤ c) (h1 : c < 192) : M_X0_leastAt c S = some (gLo S c, S) := by
  unfold M_X0_leastAt
  rw [e_weightAt h0 h1, zb_some, e_weightAt h0 h1, zb_some, e_weightAt h0 h1, zb_some]
  rfl
theorem e_greatestAt (h0 : 0 ≤ c) (h1 : c < 192) : M_X0_greatestAt c S = some (gHi S c, S) := by
  unfold M_X0_greatestAt
  rw [e_weightAt h0 h1, zb_some, e_weightAt h0 h1, zb_some, e_weightAt h0 h1, zb_some]
  rfl
theorem gW_r (hI : iSum S) {r k : Int} (r0 : 0 ≤ r) (r1 : r < S 7 11) (k0 : 0 ≤ k) (k1 : k < S 10 r) : (0 ≤ S 29 (cel S r k) ∧ S 29 (cel S r k) ≤ 4800000) ∧ (0 ≤ S 30 (cel S r k) ∧ S 30 (cel S r k) ≤ 4800000) ∧ 0 ≤ S 31 (cel S r k) ∧ S 31 (cel S r k) ≤ 4800000 := by
  have hr := hI.2.2.2.2.1.c.2.1 r r0 r1
  have bd := (hI.2.2.2.2.2.2.2.2.2.2.2.br r0 r1).bd' (gBo_of hI r0 r1) k0 k1
  omega
theorem gLo_r (hI : iSum S) {r k : Int} (r0 : 0 ≤ r) (r1 : r < S 7 11) (k0 : 0 ≤ k) (k1 : k < S 10 r) : 0 ≤ gLo S (cel S r k) ∧ gLo S (cel S r k) ≤ gHi S (cel S r k) ∧ gHi S (cel S r k) ≤ 4800000 := by
  have := gW_r hI r0 r1 k0 k1
  unfold gLo gHi
  omega
theorem gPu_r (hI : iSum S) {r k : Int} (r0 : 0 ≤ r) (r1 : r < S 7 11) (k0 : 0 ≤ k) (k1 : k < S 10 r) : 0 ≤ gPu S (cel S r k) ∧ gPu S (cel S r k) ≤ 9600000 := by
  have := gLo_r hI r0 r1 k0 k1
  unfold gPu
  split <;> omega
theorem e_pullAt (hI : iSum S) {r k : Int} (r0 : 0 ≤ r) (r1 : r < S 7 11) (k0 : 0 ≤ k) (k1 : k < S 10 r) : M_X0_pullAt (cel S r k) S = some (gPu S (cel S r k), S) := by
  have b := gLo_r hI r0 r1 k0 k1
  have c := cel_r hI.2.2.2.2.1.c r0 r1 k0 k1
  unfold M_X0_pullAt gPu
  rw [e_greatestAt c.1 c.2, zb_some, e_leastAt c.1 c.2, zb_some, zl_in (by omega), e_isEdge c.1 c.2, zb_some]
  split
  · rfl
  · rw [zl_in (by omega)]
theorem m_most {T : HS} {k : Int} (k0 : 0 ≤ k) (k1 : k < 192) : M_X12_most k T = some (max (T 84 (3 * k)) (max (T 84 (3 * k + 1)) (T 84 (3 * k + 2))), T) := by
  refine zP_eq ?_
  unfold M_X12_most
  rw [zg_in (by omega)]
  refine zloop2 (b := 3) (fun b w U => (1 ≤ w ∧ w ≤ 3) ∧ U = T ∧ b = if w = 1 then T 84 (3 * k) else if w = 2 then max (T 84 (3 * k)) (T 84 (3 * k + 1)) else max (T 84 (3 * k)) (max (T 84 (3 * k + 1)) (T 84 (3 * k + 2)))) (fun n b w U hJ hw => ?_) (fun n b w U hJ hw ih => ?_) _ _ _ _ ⟨⟨by decide, by decide⟩, rfl, rfl⟩ (zbig (by decide))
  · obtain ⟨a, rfl, e⟩ := hJ
    rw [if_neg (by omega), if_neg (by omega)] at e
    rw [L_X12_most_11.eq_2, if_pos hw, zP_ret]
    exact ⟨e, rfl⟩
  · obtain ⟨a, rfl, e⟩ := hJ
    rw [L_X12_most_11.eq_2, if_neg (by omega), zg_in (by omega)]
    unfold J_X12_most_44
    have e2 : w = 1 ∨ w = 2 := by omega
    rcases e2 with rfl | rfl
    · rw [if_pos rfl] at e
      by_cases g : U 84 (3 * k + 1) ≤ b
      · rw [if_pos g, zl_in (by decide)]
        exact ih _ _ ⟨by decide, rfl, by rw [if_neg (by decide), if_pos (by decide)]; omega⟩
      · rw [if_neg g, zg_in (by omega), zl_in (by decide)]
        exact ih _ _ ⟨by decide, rfl, by rw [if_neg (by decide), if_pos (by decide)]; omega⟩
    · rw [if_neg (by decide), if_pos rfl] at e
      by_cases g : U 84 (3 * k + 2) ≤ b
      · rw [if_pos g, zl_in (by decide)]
        exact ih _ _ ⟨by decide, rfl, by rw [if_neg (by decide), if_neg (by decide)]; omega⟩
      · rw [if_neg g, zg_in (by omega), zl_in (by decide)]
        exact ih _ _ ⟨by decide, rfl, by rw [if_neg (by decide), if_neg (by decide)]; omega⟩
theorem m_fewest {T : HS} {k : Int} (k0 : 0 ≤ k) (k1 : k < 192) : M_X12_fewest k T = some (min (T 84 (3 * k)) (min (T 84 (3 * k + 1)) (T 84 (3 * k + 2))), T) := by
  refine zP_eq ?_
  unfold M_X12_fewest
  rw [zg_in (by omega)]
  refine zloop2 (b := 3) (fun b w U => (1 ≤ w ∧ w ≤ 3) ∧ U = T ∧ b = if w = 1 then T 84 (3 * k) else if w = 2 then min (T 84 (3 * k)) (T 84 (3 * k + 1)) else min (T 84 (3 * k)) (min (T 84 (3 * k + 1)) (T 84 (3 * k + 2)))) (fun n b w U hJ hw => ?_) (fun n b w U hJ hw ih => ?_) _ _ _ _ ⟨⟨by decide, by decide⟩, rfl, rfl⟩ (zbig (by decide))
  · obtain ⟨a, rfl, e⟩ := hJ
    rw [if_neg (by omega), if_neg (by omega)] at e
    rw [L_X12_fewest_11.eq_2, if_pos hw, zP_ret]
    exact ⟨e, rfl⟩
  · obtain ⟨a, rfl, e⟩ := hJ
    rw [L_X12_fewest_11.eq_2, if_neg (by omega), zg_in (by omega), m_least, zb_some, zl_in (by omega)]
    have e2 : w = 1 ∨ w = 2 := by omega
    rcases e2 with rfl | rfl
    · rw [if_pos rfl] at e
      exact ih _ _ ⟨by decide, rfl, by rw [if_neg (by decide), if_pos (by decide), e]⟩
    · rw [if_neg (by decide), if_pos rfl] at e
      exact ih _ _ ⟨by decide, rfl, by rw [if_neg (by decide), if_neg (by decide), e]; omega⟩
theorem mBr.hi {T : HS} {r k n : Int} (h : mBr S T r n) (k0 : 0 ≤ k) (k1 : k < n) (k2 : k < 192) : M_X12_most k T = some (gHi S (cel S r k), T) ∧ M_X12_fewest k T = some (gLo S (cel S r k), T) := by
  have w := h.2.2.1 k k0 k1
  rw [m_most k0 k2, m_fewest k0 k2, w.1, w.2.1, w.2.2]
  exact ⟨rfl, rfl⟩
theorem m_pullAt {T : HS} (hI : iSum S) {r k : Int} (r0 : 0 ≤ r) (r1 : r < S 7 11) (k0 : 0 ≤ k) (k1 : k < S 10 r) (h : mBr S T r (S 10 r)) : M_X12_pullAt r k T = some (gPu S (cel S r k), T) := by
  have b := gLo_r hI r0 r1 k0 k1
  have c := cel_r hI.2.2.2.2.1.c r0 r1 k0 k1
  have hr := hI.2.2.2.2.1.c.2.1 r r0 r1
  have h24 := hI.2.2.2.2.1.c.1.2.1
  have t70 : T 70 (192 * r + k) = cel S r k := (congrFun (h.1 70 (by decide)) _).trans (hI.2.2.2.2.1.m.2.2.1 r k r0 r1 k0 k1)
  have hRT : rHP T := rSame.hp hI.2.2.2.1.1 h.1 (by decide)
  have t2 : T 2 = S 2 := h.1 2 (by decide)
  unfold M_X12_pullAt J_X12_pullAt_35 gPu
  rw [(h.hi k0 k1 (by omega)).1, zb_some, (h.hi k0 k1 (by omega)).2, zb_some, zg_in (by omega), t70, m_isEdge hRT c.1 c.2, zb_some, t2]
  split
  · rw [zl_in (by omega), zl_in (by omega), Int.mul_one]
  · rw [zl_in (by omega), zl_in (by omega), Int.mul_comm]
end EG
