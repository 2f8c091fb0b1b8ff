/-! hangs: the longest are kept -/
def KI (w h : Int) (L C : Int → Int) : Prop := ((0 ≤ h ∧ h ≤ w) ∧ ∀ j : Int, 0 ≤ j → j < h → 0 ≤ L j) ∧ ∀ j t : Int, 0 ≤ j → j < w → 0 ≤ t → ((j < h ∧ t ≤ L j) ↔ j < C t)
section K0
variable {w h h' x p top : Int} {L L' C C' : Int → Int}
theorem KI.cong (hk : KI w h L C) (e : ∀ j t : Int, 0 ≤ j → j < w → 0 ≤ t → (j < C t ↔ j < C' t)) : KI w h L C' := ⟨hk.1, fun j t a b c => (hk.2 j t a b c).trans (e j t a b c)⟩
theorem KI.ini (hw : 0 ≤ w) : KI w 0 L (fun _ => 0) := ⟨⟨⟨Int.le_refl _, hw⟩, fun j a b => by omega⟩, fun j t a b c => ⟨fun q => by omega, fun q => by have q' : j < 0 := q; omega⟩⟩
theorem KI.stay (hk : KI w w L C) (hw : 1 ≤ w) (hx : 0 ≤ x) (g : x ≤ L (w - 1)) : KI w w L (fun t => C t + if t ≤ x then 1 else 0) := by
  refine hk.cong (fun j t a b c => ?_)
  show j < C t ↔ j < C t + if t ≤ x then 1 else 0
  by_cases q : t ≤ x
  · have z := (hk.2 (w - 1) t (by omega) (by omega) c).mp ⟨by omega, by omega⟩
    rw [if_pos q]
    omega
  · rw [if_neg q, Int.add_zero]
theorem KI.ins (hk : KI w h L C) (hC : ∀ t : Int, 0 ≤ t → 0 ≤ C t) (hw : 1 ≤ w) (hx : 0 ≤ x) (hc : h < w ∧ h' = h + 1 ∧ top = h ∨ h = w ∧ h' = h ∧ top = w - 1 ∧ L (w - 1) < x) (hp : 0 ≤ p ∧ p ≤ top) (hl : p = 0 ∨ x ≤ L (p - 1)) (hr : ∀ j : Int, p ≤ j → j < top → L j < x) (hL : ∀ j : Int, L' j = if j = p then x else if p < j ∧ j ≤ top then L (j - 1) else L j) : KI w h' L' (fun t => C t + if t ≤ x then 1 else 0) := by
  refine ⟨⟨by have := hk.1.1; omega, fun j j0 jh => ?_⟩, fun j t j0 jw t0 => ?_⟩
  · rw [hL]
    have z := hk.1.2
    by_cases a : j = p
    · rw [if_pos a]
      exact hx
    · rw [if_neg a]
      by_cases b : p < j ∧ j ≤ top
      · rw [if_pos b]
        exact z _ (by omega) (by omega)
      · rw [if_neg b]
        exact z _ j0 (by omega)
  show (j < h' ∧ t ≤ L' j) ↔ j < C t + if t ≤ x then 1 else 0
  have kj := hk.2 j t j0 jw t0
  have h0 := hk.1.1
  have ct := hC t t0
  rw [hL]
  by_cases a : j = p
  · subst a
    rw [if_pos rfl]
    by_cases q : t ≤ x
    · rw [if_pos q]
      by_cases y : j = 0
      · omega
      · rcases hl with z | z
        · omega
        · have k1 := hk.2 (j - 1) t (by omega) (by omega) t0
          omega
    · rw [if_neg q]
      rcases hc with ⟨c1, c2, c3⟩ | ⟨c1, c2, c3, c4⟩
      · by_cases y : j < top
        · have := hr j (Int.le_refl _) y
          omega
        · omega
      · by_cases y : j < top
        · have := hr j (Int.le_refl _) y
          omega
        · have e : j = w - 1 := by omega
          subst e
          omega
  · rw [if_neg a]
    by_cases b : p < j ∧ j ≤ top
    · rw [if_pos b]
      have k1 := hk.2 (j - 1) t (by omega) (by omega) t0
      have lx := hr (j - 1) (by omega) (by omega)
      by_cases q : t ≤ x
      · rw [if_pos q]
        omega
      · rw [if_neg q]
        omega
    · rw [if_neg b]
      by_cases q : t ≤ x
      · rw [if_pos q]
        by_cases y : j < p
        · have k2 := hk.2 (p - 1) x (by omega) (by omega) hx
          have k3 := hk.2 j x j0 jw hx
          rcases hl with z | z
          · omega
          · omega
        · have k1 := hk.2 (j - 1) t (by omega) (by omega) t0
          omega
      · rw [if_neg q]
        by_cases y : j < p
        · omega
        · omega
/-- the greatest of it -/
def gst (C : Int → Int) (w : Int) : Nat → Int
  | 0 => 0
  | n + 1 => if w ≤ C (n + 1) then n + 1 else gst C w n
theorem gst_of {v : Int} (hv : ∀ t : Int, 0 ≤ t → (w ≤ C t ↔ t ≤ v)) (h0 : 0 ≤ v) (n : Nat) (hn : v ≤ n) : gst C w n = v := by
  induction n with
  | zero =>
    unfold gst
    omega
  | succ n ih =>
    unfold gst
    have e := hv (n + 1) (by omega)
    by_cases g : w ≤ C (n + 1)
    · rw [if_pos g]
      have := e.mp g
      omega
    · rw [if_neg g]
      refine ih ?_
      by_cases q : v ≤ n
      · exact q
      · exact absurd (e.mpr (by omega)) g
theorem gst_0 (hv : ∀ t : Int, 0 ≤ t → C t < w) (n : Nat) : gst C w n = 0 := by
  induction n with
  | zero => rfl
  | succ n ih =>
    unfold gst
    have := hv (n + 1) (by omega)
    rw [if_neg (by omega), ih]
def gVl (C : Int → Int) (w : Int) : Int := gst C w 2000
def gOK (C : Int → Int) (w : Int) : Prop := ((∀ t : Int, 0 ≤ t → (w ≤ C t ↔ t ≤ gVl C w)) ∧ 0 ≤ gVl C w ∧ gVl C w ≤ 2000) ∨ ((∀ t : Int, 0 ≤ t → C t < w) ∧ gVl C w = 0)
theorem KI.val (hk : KI w h L C) (hw : 1 ≤ w) (hC : ∀ t : Int, 2000 < t → C t = 0) : gOK C w ∧ gVl C w = if h = w then L (w - 1) else 0 := by
  have k := fun t t0 => hk.2 (w - 1) t (by omega) (by omega) t0
  have h0 := hk.1.1
  by_cases g : h = w ∧ 0 ≤ L (w - 1)
  · have a : ∀ t : Int, 0 ≤ t → (w ≤ C t ↔ t ≤ L (w - 1)) := fun t t0 => by
      have := k t t0
      omega
    have b : L (w - 1) ≤ 2000 := by
      by_cases y : L (w - 1) ≤ 2000
      · exact y
      · have e := (a (L (w - 1)) g.2).mpr (Int.le_refl _)
        have := hC (L (w - 1)) (by omega)
        omega
    have e : gVl C w = L (w - 1) := gst_of a g.2 2000 b
    refine ⟨Or.inl ?_, by rw [e, if_pos g.1]⟩
    rw [e]
    exact ⟨a, g.2, b⟩
  · have y : ¬ h = w := fun q => g ⟨q, hk.1.2 (w - 1) (by omega) (by omega)⟩
    have a : ∀ t : Int, 0 ≤ t → C t < w := fun t t0 => by
      have := k t t0
      omega
    have e : gVl C w = 0 := gst_0 a 2000
    refine ⟨Or.inr ⟨a, e⟩, ?_⟩
    rw [e, if_neg y]
end K0

section H1
variable {S : HS}
theorem e_shift {x top at0 : Int} {L0 : Int → Int} {k : Int → HS → zO2} {Q : Int → HS → Prop} (h8 : top ≤ 8) (hk : ∀ (p : Int) (T : HS), (0 ≤ p ∧ p ≤ top) → rSame [32] S T → (∀ j : Int, T 32 j = if p < j ∧ j ≤ top then L0 (j - 1) else L0 j) → (∀ j : Int, p ≤ j → j < top → L0 j < x) → (p = 0 ∨ x ≤ L0 (p - 1)) → zP (k p T) Q) (e0 : S 32 = L0) (ht : at0 = top) (h0 : 0 ≤ top) : zP (L_X0_insert_57 k x zBig at0 S) Q := by
  subst ht
  refine zloopM (F := fun n (y : Int × HS) => L_X0_insert_57 k x n y.1 y.2) (fun y => (0 ≤ y.1 ∧ y.1 ≤ at0) ∧ rSame [32] S y.2 ∧ (∀ j : Int, y.2 32 j = if y.1 < j ∧ j ≤ at0 then L0 (j - 1) else L0 j) ∧ ∀ j : Int, y.1 ≤ j → j < at0 → L0 j < x) (fun y => y.1.toNat) (fun n y hJ ih => ?_) zBig (at0, S) ⟨⟨h0, Int.le_refl _⟩, fun _ _ => rfl, fun j => by show S 32 j = if at0 < j ∧ j ≤ at0 then L0 (j - 1) else L0 j; rw [if_neg (by omega), e0], fun j a b => by have a' : at0 ≤ j := a; omega⟩ (by show at0.toNat < zBig; exact zbig (by omega))
  obtain ⟨a, T⟩ := y
  simp only at hJ ih
  obtain ⟨ha, hs, hl, hr⟩ := hJ
  show zP (L_X0_insert_57 k x (n + 1) a T) Q
  rw [L_X0_insert_57.eq_2]
  by_cases g : a ≤ 0
  · rw [if_pos g]
    exact hk a T ha hs hl hr (Or.inl (by omega))
  · have e1 := hl (a - 1)
    rw [if_neg (by omega)] at e1
    rw [if_neg g, if_neg (by omega), zg_in (by omega), e1]
    by_cases g2 : x ≤ L0 (a - 1)
    · rw [if_pos g2]
      exact hk a T ha hs hl hr (Or.inr g2)
    · rw [if_neg g2, zg_in (by omega), zg_in (by omega), zs_in, zl_in (by omega)]
      refine ih (a + -1, _) ⟨by show 0 ≤ a + -1 ∧ a + -1 ≤ at0; omega, hs.up (by decide), fun j => ?_, fun j j0 j1 => ?_⟩ (by show (a + -1).toNat < a.toNat; omega)
      · show up T 32 a (L0 (a - 1)) 32 j = if a + -1 < j ∧ j ≤ at0 then L0 (j - 1) else L0 j
        rw [up_same]
        by_cases q : j = a
        · rw [if_pos q, if_pos (by omega), q]
        · rw [if_neg q, hl]
          by_cases q2 : a < j ∧ j ≤ at0
          · rw [if_pos q2, if_pos (by omega)]
          · rw [if_neg q2, if_neg (by omega)]
      · have j0' : a + -1 ≤ j := j0
        by_cases q : j = a - 1
        · rw [q]
          omega
        · exact hr j (by omega) j1
theorem e_insert {x : Int} {C : Int → Int} (hx : 0 ≤ x ∧ x ≤ 3000) (hw : 1 ≤ S 28 8 ∧ S 28 8 ≤ 9) (hC : ∀ t : Int, 0 ≤ t → 0 ≤ C t) (hk : KI (S 28 8) (S 28 9) (S 32) C) : zP (M_X0_insert x S) (fun _ T => rSame [28, 32] S T ∧ T 28 8 = S 28 8 ∧ KI (S 28 8) (T 28 9) (T 32) (fun t => C t + if t ≤ x then 1 else 0)) := by
  have hb := hk.1.1
  have j102 : ∀ (T : HS) (p : Int), 0 ≤ p → p ≤ 8 → J_X0_insert_102 x p T = some (0, up T 32 p x) := by
    intro T p p0 p8
    unfold J_X0_insert_102
    rw [if_neg (by omega), if_neg (by omega), zg_in (by omega), zs_in]
  unfold M_X0_insert J_X0_insert_57
  by_cases g : S 28 9 < S 28 8
  · rw [if_pos g, zl_in (by omega), zs_in]
    refine e_shift (S := up S 28 9 (S 28 9 + 1)) (top := S 28 9) (L0 := S 32) (by omega) (fun p T hp hs hl hr hq => ?_) rfl rfl hb.1
    rw [j102 T p hp.1 (by omega), zP_ret]
    have t28 : ∀ i : Int, up T 32 p x 28 i = up S 28 9 (S 28 9 + 1) 28 i := fun i => by
      rw [up_cell _ (by decide), hs 28 (by decide)]
    refine ⟨fun y hy => ?_, ?_, ?_⟩
    · simp only [List.mem_cons, List.not_mem_nil, or_false, not_or] at hy
      funext i
      rw [up_cell _ hy.2, hs y (by simp; omega), up_cell _ hy.1]
    · rw [t28, up_same, if_neg (by decide)]
    · refine KI.ins hk hC hw.1 hx.1 (top := S 28 9) (p := p) (Or.inl ⟨g, by rw [t28, up_eq], rfl⟩) hp hq hr (fun j => ?_)
      rw [up_same, hl]
  · have e : S 28 9 = S 28 8 := by omega
    rw [if_neg g, zl_in (by omega), if_neg (by omega), if_neg (by omega), zg_in (by omega)]
    by_cases g2 : S 32 (S 28 8 - 1) < x
    · rw [if_pos g2]
      refine e_shift (S := S) (top := S 28 8 - 1) (L0 := S 32) (by omega) (fun p T hp hs hl hr hq => ?_) rfl rfl (by omega)
      rw [j102 T p hp.1 (by omega), zP_ret]
      have t28 : ∀ i : Int, up T 32 p x 28 i = S 28 i := fun i => by
        rw [up_cell _ (by decide), hs 28 (by decide)]
      refine ⟨fun y hy => ?_, t28 8, ?_⟩
      · simp only [List.mem_cons, List.not_mem_nil, or_false, not_or] at hy
        funext i
        rw [up_cell _ hy.2, hs y (by simp; omega)]
      · refine KI.ins hk hC hw.1 hx.1 (top := S 28 8 - 1) (p := p) (Or.inr ⟨e, by rw [t28], rfl, g2⟩) hp hq hr (fun j => ?_)
        rw [up_same, hl]
    · rw [if_neg g2, zP_ret]
      refine ⟨fun _ _ => rfl, rfl, ?_⟩
      rw [e] at hk ⊢
      exact hk.stay hw.1 hx.1 (by omega)
theorem e_keepLongest {m y : Int} {C : Int → Int} (hm : 0 ≤ m) (hy : y ≤ 3000) (hw : 1 ≤ S 28 8 ∧ S 28 8 ≤ 9) (hC : ∀ t : Int, 0 ≤ t → 0 ≤ C t) (hk : KI (S 28 8) (S 28 9) (S 32) C) : zP (M_X0_keepLongest m y S) (fun _ T => rSame [28, 32] S T ∧ T 28 8 = S 28 8 ∧ KI (S 28 8) (T 28 9) (T 32) (fun t => C t + if t ≤ max 0 y then m else 0)) := by
  unfold M_X0_keepLongest
  refine zloop (b := min m (S 28 8)) (fun v T => (0 ≤ v ∧ v ≤ min m (S 28 8)) ∧ rSame [28, 32] S T ∧ T 28 8 = S 28 8 ∧ KI (S 28 8) (T 28 9) (T 32) (fun t => C t + if t ≤ max 0 y then v else 0)) (fun n v T hJ hv => ?_) (fun n v T hJ hv ih => ?_) _ _ _ ⟨⟨Int.le_refl _, by omega⟩, fun _ _ => rfl, rfl, hk.cong (fun j t a b c => by
    show j < C t ↔ j < C t + if t ≤ max 0 y then 0 else 0
    split <;> omega)⟩ (zbig (by omega))
  · obtain ⟨a, b, c, d⟩ := hJ
    rw [L_X0_keepLongest_12.eq_2, if_pos hv, zP_ret]
    refine ⟨b, c, d.cong (fun j t j0 jw t0 => ?_)⟩
    show j < C t + (if t ≤ max 0 y then v else 0) ↔ j < C t + if t ≤ max 0 y then m else 0
    have := hC t t0
    split <;> omega
  · obtain ⟨a, b, c, d⟩ := hJ
    rw [L_X0_keepLongest_12.eq_2, if_neg (by omega), zP_zb]
    refine zP_mono (e_insert (S := T) (x := max 0 y) (C := fun t => C t + if t ≤ max 0 y then v else 0) (by omega) (by rw [c]; exact hw) (fun t t0 => ?_) (by rw [c]; exact d)) (fun _ U hU => ?_)
    · have := hC t t0
      show 0 ≤ C t + if t ≤ max 0 y then v else 0
      split <;> omega
    · obtain ⟨u1, u2, u3⟩ := hU
      rw [zl_in (by omega)]
      rw [c] at u2 u3
      refine ih _ ⟨by omega, b.trans u1, u2, u3.cong (fun j t j0 jw t0 => ?_)⟩
      show j < C t + (if t ≤ max 0 y then v else 0) + (if t ≤ max 0 y then 1 else 0) ↔ j < C t + if t ≤ max 0 y then v + 1 else 0
      split <;> omega
/-! what hangs from a row -/
def gRc (S : HS) (r mm k : Int) : Int := max 0 (mm - 10 * (S 10 r - 1 - k))
def gSh (S : HS) (r s k : Int) : Int := if s = 3 then S 21 (cel S r k) else if k = 0 then (S 21 (cel S r 0) + 2 - s) / 3 else if gT k = s then S 21 (cel S r k) else 0
def gHk (S : HS) (r s t k : Int) : Int := if t ≤ gRc S r (S 1 1) k then gSh S r s k else 0
def gHa (S : HS) (r s t i : Int) : Int := if S 24 i = r ∧ (s = 3 ∨ gT (S 25 i) = s) then (if t ≤ gRc S r (S 27 i) (S 25 i) then S 26 i else 0) else 0
def gHc (S : HS) (r s t : Int) : Int := zsum (gHk S r s t) (S 10 r).toNat + zsum (gHa S r s t) (S 23 4).toNat
theorem gSh_r (hI : iSum S) {r s k : Int} (r0 : 0 ≤ r) (r1 : r < S 7 11) (k0 : 0 ≤ k) (k1 : k < S 10 r) (hs : 0 ≤ s ∧ s ≤ 3) : 0 ≤ gSh S r s k ∧ gSh S r s k ≤ 19008 := by
  have hr := hI.2.2.2.2.1.c.2.1 r r0 r1
  have a := own_r hI r0 r1 k0 k1
  have b := own_r hI r0 r1 (Int.le_refl 0) (show 0 < S 10 r by omega)
  unfold gSh
  repeat' split
  all_goals omega
theorem gHk_r (hI : iSum S) {r s t k : Int} (r0 : 0 ≤ r) (r1 : r < S 7 11) (k0 : 0 ≤ k) (k1 : k < S 10 r) (hs : 0 ≤ s ∧ s ≤ 3) : 0 ≤ gHk S r s t k ∧ gHk S r s t k ≤ 19008 := by
  have := gSh_r hI r0 r1 k0 k1 hs
  unfold gHk
  split <;> omega
theorem gHa_r (hI : iSum S) {r s t i : Int} (i0 : 0 ≤ i) (i1 : i < S 23 4) : 0 ≤ gHa S r s t i ∧ gHa S r s t i ≤ 99 := by
  have := hI.2.2.2.2.2.2.1.2.1 i i0 i1
  unfold gHa
  repeat' split
  all_goals omega
theorem gHs_r (hI : iSum S) {r s t v : Int} (r0 : 0 ≤ r) (r1 : r < S 7 11) (v0 : 0 ≤ v) (v1 : v ≤ S 10 r) (hs : 0 ≤ s ∧ s ≤ 3) : 0 ≤ zsum (gHk S r s t) v.toNat ∧ zsum (gHk S r s t) v.toNat ≤ 19008 * v := zsum_r v0 (fun i i0 i1 => gHk_r hI r0 r1 i0 (by omega) hs)
theorem gHb_r (hI : iSum S) {r s t v : Int} (v0 : 0 ≤ v) (v1 : v ≤ S 23 4) : 0 ≤ zsum (gHa S r s t) v.toNat ∧ zsum (gHa S r s t) v.toNat ≤ 99 * v := zsum_r v0 (fun i i0 i1 => gHa_r hI i0 (by omega))
theorem gHc_hi (hI : iSum S) {r s t : Int} (r0 : 0 ≤ r) (r1 : r < S 7 11) (ht : 2000 < t) : gHc S r s t = 0 := by
  have hr := hI.2.2.2.2.1.c.2.1 r r0 r1
  obtain ⟨l1, l2, l3, l4⟩ := hI.1
  have iA := hI.2.2.2.2.2.2.1
  unfold gHc
  rw [zsum_0 (fun k k0 k1 => ?_), zsum_0 (fun i i0 i1 => ?_)]
  · rfl
  · have := iA.2.1 i i0 (by omega)
    unfold gHa gRc
    split
    · rename_i q
      rw [← q.1, if_neg (by omega)]
    · rfl
  · unfold gHk gRc
    rw [if_neg (by omega)]
theorem e_takerAt8 {k : Int} (k0 : 0 ≤ k) : M_X0_takerAt k S = some (gT k, S) := by
  unfold M_X0_takerAt gT
  by_cases g : k = 0
  · rw [if_pos g, if_pos g]
  · rw [if_neg g, if_neg g, zg_in (by omega), zl_in (by omega)]
    by_cases g2 : k % 3 = 1
    · rw [if_pos g2, if_pos g2]
    · rw [if_neg g2, if_neg g2, zg_in (by omega), zl_in (by omega)]
      split <;> rfl
theorem e_shareAt (hI : iSum S) {r s k : Int} (r0 : 0 ≤ r) (r1 : r < S 7 11) (k0 : 0 ≤ k) (k1 : k < S 10 r) (hs : 0 ≤ s ∧ s ≤ 3) : M_X0_shareAt r k s S = some (gSh S r s k, S) := by
  have hR := hI.2.2.2.2.1.c
  have cr := cel_r hR r0 r1 k0 k1
  have o := own_r hI r0 r1 k0 k1
  unfold M_X0_shareAt gSh
  rw [e_cellIn1 hR r0 r1 k0 k1, zb_some, e_hairsBy, zb_some, if_pos cr]
  by_cases g : s = 3
  · rw [if_pos g, if_pos g]
  · rw [if_neg g, if_neg g]
    by_cases g2 : k = 0
    · subst g2
      rw [if_pos rfl, if_pos rfl, e_third (by omega) (by omega), zb_some]
    · rw [if_neg g2, if_neg g2, e_takerAt8 k0, zb_some]
      split <;> rfl
theorem gHc_28 {T : HS} (h : rSame [28, 32] S T) : gHc T = gHc S := by
  funext r s t
  unfold gHc gHk gHa gSh gRc cel
  rw [h 1 (by decide), h 8 (by decide), h 9 (by decide), h 10 (by decide), h 21 (by decide), h 23 (by decide), h 24 (by decide), h 25 (by decide), h 26 (by decide), h 27 (by decide)]
theorem e_reach (hI : iSum S) {r s w : Int} (r0 : 0 ≤ r) (r1 : r < S 7 11) (hs : 0 ≤ s ∧ s ≤ 3) (hw : 1 ≤ w ∧ w ≤ 9) : zP (M_X0_reach r s w S) (fun v T => rSame [28, 32] S T ∧ v = gVl (gHc S r s) w ∧ gOK (gHc S r s) w) := by
  have hR := hI.2.2.2.2.1.c
  have hr := hR.2.1 r r0 r1
  have h23 := hI.2.2.2.2.2.2.1.1
  have iA := hI.2.2.2.2.2.2.1
  obtain ⟨l1, l2, l3, l4⟩ := hI.1
  unfold M_X0_reach
  have s0 : rSame [28, 32] S (up (up S 28 8 w) 28 9 0) := (rSame.rf.up (by decide)).up (by decide)
  have I0 : iSum (up (up S 28 8 w) 28 9 0) := rSame.all hI s0 (by decide)
  have R0 := I0.2.2.2.2.1.c
  rw [zs_in, zs_in, e_sizeIn R0, zb_some]
  show zP (zl ((if 0 ≤ r ∧ r < S 7 11 then S 10 r else 0) - 1) _) _
  rw [if_pos (show 0 ≤ r ∧ r < S 7 11 from ⟨r0, r1⟩), zl_in (by omega)]
  have frm : ∀ {T : HS}, rSame [28, 32] S T → iSum T ∧ T 7 = S 7 ∧ T 10 = S 10 ∧ T 1 = S 1 ∧ T 23 = S 23 ∧ T 24 = S 24 ∧ T 25 = S 25 ∧ T 26 = S 26 ∧ T 27 = S 27 ∧ gSh T = gSh S := by
    intro T h
    refine ⟨rSame.all hI h (by decide), h 7 (by decide), h 10 (by decide), h 1 (by decide), h 23 (by decide), h 24 (by decide), h 25 (by decide), h 26 (by decide), h 27 (by decide), ?_⟩
    funext a b c
    unfold gSh cel
    rw [h 8 (by decide), h 9 (by decide), h 21 (by decide)]
  refine zloop (b := S 10 r) (fun v T => (0 ≤ v ∧ v ≤ S 10 r) ∧ rSame [28, 32] S T ∧ T 28 8 = w ∧ KI w (T 28 9) (T 32) (fun t => zsum (gHk S r s t) v.toNat)) (fun n v T hJ hv => ?_) (fun n v T hJ hv ih => ?_) _ _ _ ⟨⟨Int.le_refl _, by omega⟩, s0, by rw [up_same, if_neg (by decide), up_eq], ?_⟩ (zbig (by omega))
  · obtain ⟨a, b, c, d⟩ := hJ
    obtain ⟨IT, t7, t10, t1, t23, t24, t25, t26, t27, tS⟩ := frm b
    have ev : v = S 10 r := by omega
    subst ev
    rw [L_X0_reach_25.eq_2, if_pos (by omega)]
    refine zloop (b := S 23 4) (fun v U => (0 ≤ v ∧ v ≤ S 23 4) ∧ rSame [28, 32] S U ∧ U 28 8 = w ∧ KI w (U 28 9) (U 32) (fun t => zsum (gHk S r s t) (S 10 r).toNat + zsum (gHa S r s t) v.toNat)) (fun n v U hJ hv => ?_) (fun n v U hJ hv ih => ?_) _ _ _ ⟨⟨Int.le_refl _, h23.2.1⟩, b, c, d.cong (fun j t a b c => by
      show j < zsum (gHk S r s t) (S 10 r).toNat ↔ j < zsum (gHk S r s t) (S 10 r).toNat + 0
      omega)⟩ (zbig (by omega))
    · obtain ⟨a2, b2, c2, d2⟩ := hJ
      have ev : v = S 23 4 := by omega
      subst ev
      have u23 : U 23 4 = S 23 4 := by rw [b2 23 (by decide)]
      rw [L_X0_reach_69.eq_2, if_pos (by omega)]
      obtain ⟨o, e⟩ := KI.val (C := gHc S r s) d2 hw.1 (fun t ht => gHc_hi hI r0 r1 ht)
      unfold J_X0_reach_167
      have hb := d2.1.1
      rw [c2]
      by_cases g : U 28 9 = w
      · rw [if_pos g] at e
        rw [if_neg (by omega), if_neg (by omega), if_neg (by omega), zg_in (by omega), zP_ret, g]
        exact ⟨b2, e.symm, o⟩
      · rw [if_neg g] at e
        by_cases g2 : U 28 9 ≤ 0
        · rw [if_pos g2, zP_ret]
          exact ⟨b2, e.symm, o⟩
        · rw [if_neg g2, if_pos (by omega), zP_ret]
          exact ⟨b2, e.symm, o⟩
    · obtain ⟨a2, b2, c2, d2⟩ := hJ
      obtain ⟨IU, u7, u10, u1, u23, u24, u25, u26, u27, uS⟩ := frm b2
      have z := iA.2.1 v a2.1 hv
      have hr2 := hR.2.1 _ z.2.1 z.2.2.1
      have skip : (∀ t : Int, gHa S r s t v = 0) → zP (J_X0_reach_161 (L_X0_reach_69 (fun S29 => J_X0_reach_167 S29) r s (S 10 r - 1) n) r s (S 10 r - 1) v U) (fun v T => rSame [28, 32] S T ∧ v = gVl (gHc S r s) w ∧ gOK (gHc S r s) w) := by
        intro h0
        unfold J_X0_reach_161
        rw [zl_in (by omega)]
        refine ih _ ⟨by omega, b2, c2, d2.cong (fun j t a b c => ?_)⟩
        show j < zsum (gHk S r s t) (S 10 r).toNat + zsum (gHa S r s t) v.toNat ↔ j < zsum (gHk S r s t) (S 10 r).toNat + zsum (gHa S r s t) (v + 1).toNat
        rw [zsum_n a2.1, h0 t, Int.add_zero]
      have take : S 24 v = r → (s = 3 ∨ gT (S 25 v) = s) → zP (J_X0_reach_128 (L_X0_reach_69 (fun S29 => J_X0_reach_167 S29) r s (S 10 r - 1) n) r s (S 10 r - 1) v (S 25 v) U) (fun v T => rSame [28, 32] S T ∧ v = gVl (gHc S r s) w ∧ gOK (gHc S r s) w) := by
        intro q1 q2
        unfold J_X0_reach_128 J_X0_reach_161
        rw [u26, u27, zg_in (by omega), zg_in (by omega), zl_in (by rw [q1] at z hr2; omega), zP_zb]
        refine zP_mono (e_keepLongest (S := U) (m := S 26 v) (y := S 27 v - 10 * (S 10 r - 1 - S 25 v)) (C := fun t => zsum (gHk S r s t) (S 10 r).toNat + zsum (gHa S r s t) v.toNat) (by omega) (by rw [q1] at z hr2; omega) (by rw [c2]; exact hw) (fun t t0 => ?_) (by rw [c2]; exact d2)) (fun _ V hV => ?_)
        · have y1 := gHs_r hI r0 r1 (t := t) (show 0 ≤ S 10 r by omega) (Int.le_refl _) hs
          have y2 := gHb_r hI (r := r) (s := s) (t := t) a2.1 a2.2
          show 0 ≤ zsum (gHk S r s t) (S 10 r).toNat + zsum (gHa S r s t) v.toNat
          omega
        · obtain ⟨w1, w2, w3⟩ := hV
          rw [c2] at w2 w3
          rw [zl_in (by omega)]
          refine ih _ ⟨by omega, b2.trans w1, w2, w3.cong (fun j t a b c => ?_)⟩
          show j < zsum (gHk S r s t) (S 10 r).toNat + zsum (gHa S r s t) v.toNat + (if t ≤ max 0 (S 27 v - 10 * (S 10 r - 1 - S 25 v)) then S 26 v else 0) ↔ j < zsum (gHk S r s t) (S 10 r).toNat + zsum (gHa S r s t) (v + 1).toNat
          rw [zsum_n a2.1]
          have e : gHa S r s t v = if t ≤ max 0 (S 27 v - 10 * (S 10 r - 1 - S 25 v)) then S 26 v else 0 := by
            unfold gHa gRc
            rw [if_pos ⟨q1, q2⟩]
          rw [e]
          omega
      rw [L_X0_reach_69.eq_2, u23, if_neg (by omega), if_neg (by omega), zg_in (by omega), zg_in (by omega), u24, u25]
      by_cases g : S 24 v = r
      · rw [if_pos g]
        by_cases g2 : s = 3
        · rw [if_pos g2]
          exact take g (Or.inl g2)
        · rw [if_neg g2, e_takerAt8 (by omega), zb_some]
          by_cases g3 : gT (S 25 v) = s
          · rw [if_pos g3]
            exact take g (Or.inr g3)
          · rw [if_neg g3]
            refine skip (fun t => ?_)
            unfold gHa
            rw [if_neg (fun q => q.2.elim g2 g3)]
      · rw [if_neg g]
        refine skip (fun t => ?_)
        unfold gHa
        rw [if_neg (fun q => g q.1)]
  · obtain ⟨a, b, c, d⟩ := hJ
    obtain ⟨IT, t7, t10, t1, t23, t24, t25, t26, t27, tS⟩ := frm b
    have gs := gSh_r hI r0 r1 a.1 hv hs
    rw [L_X0_reach_25.eq_2, if_neg (by omega), e_shareAt IT r0 (by rw [t7]; exact r1) a.1 (by rw [t10]; exact hv) hs, zb_some, tS, t1, zl_in (by omega), zP_zb]
    refine zP_mono (e_keepLongest (S := T) (m := gSh S r s v) (y := S 1 1 - 10 * (S 10 r - 1 - v)) (C := fun t => zsum (gHk S r s t) v.toNat) gs.1 (by omega) (by rw [c]; exact hw) (fun t t0 => (gHs_r hI r0 r1 a.1 a.2 hs).1) (by rw [c]; exact d)) (fun _ V hV => ?_)
    obtain ⟨w1, w2, w3⟩ := hV
    rw [c] at w2 w3
    rw [zl_in (by omega)]
    refine ih _ ⟨by omega, b.trans w1, w2, w3.cong (fun j t j0 jw t0 => ?_)⟩
    show j < zsum (gHk S r s t) v.toNat + (if t ≤ max 0 (S 1 1 - 10 * (S 10 r - 1 - v)) then gSh S r s v else 0) ↔ j < zsum (gHk S r s t) (v + 1).toNat
    rw [zsum_n a.1]
    have e : gHk S r s t v = if t ≤ max 0 (S 1 1 - 10 * (S 10 r - 1 - v)) then gSh S r s v else 0 := rfl
    rw [e]
  · have e9 : up (up S 28 8 w) 28 9 0 28 9 = 0 := up_eq ..
    rw [e9]
    exact KI.ini (by omega)
end H1
