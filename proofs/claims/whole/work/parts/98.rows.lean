/-! a row's cells -/
/-- no more than 192 things lie apart among 192 -/
theorem pig {f : Int → Int} {n : Nat} (h : ∀ i : Int, 0 ≤ i → i < n → 0 ≤ f i ∧ f i < 192) (hd : ∀ i j : Int, 0 ≤ i → i < j → j < n → f i ≠ f j) : n ≤ 192 := by
  have e1 : zsum (fun c => zsum (fun i => if f i = c then 1 else 0) n) 192 = (n : Int) := by
    rw [zsum_comm]
    have z : zsum (fun j => zsum (fun i => if f j = i then 1 else 0) 192) n = zsum (fun _ => 1) n := zsum_congr (fun i i0 i1 => by
      have a := h i i0 i1
      show zsum (fun c => if f i = c then (1 : Int) else 0) 192 = 1
      rw [zsum_one (a := f i) a.1 (by omega) (fun c _ _ ne => if_neg (fun q => ne q.symm)), if_pos rfl])
    rw [z]
    clear z h hd
    induction n with
    | zero => rfl
    | succ n ih =>
      rw [zsum_s, ih]
      omega
  have e2 := zsum_bd (f := fun c => zsum (fun i => if f i = c then (1 : Int) else 0) n) (n := 192) (c := 1) (fun c _ _ => by
    show 0 ≤ zsum (fun i => if f i = c then (1 : Int) else 0) n ∧ zsum (fun i => if f i = c then (1 : Int) else 0) n ≤ 1
    by_cases g : ∃ i : Int, 0 ≤ i ∧ i < n ∧ f i = c
    · obtain ⟨i, i0, i1, i2⟩ := g
      rw [zsum_one (a := i) i0 i1 (fun j j0 j1 ne => if_neg (fun q => by
        by_cases y : i < j
        · exact hd i j i0 y j1 (by omega)
        · exact hd j i j0 (by omega) i1 (by omega))), if_pos i2]
      omega
    · rw [zsum_0 (fun i i0 i1 => if_neg (fun q => g ⟨i, i0, i1, q⟩))]
      omega)
  omega
def rwC (T : HS) (j : Int) : Int := 16 * T 62 j + T 61 j
def rwS (T : HS) (j : Int) : Int := if T 62 j = T 62 (j - 1) then 208 + 17 * T 62 j + max (T 61 j) (T 61 (j - 1)) else 16 * max (T 62 j) (T 62 (j - 1)) + T 61 j
def rwI (S T : HS) (j : Int) : Prop := pIn 16 12 (T 61 j) (T 62 j) ∧ S 2 (rwC T j) ≠ -1
def rwP (S T : HS) (j : Int) : Prop := 1 ≤ j ∧ S 4 (rwS T j) ≠ -1
def rwT (S T : HS) (j : Int) : Prop := S 11 (rwC T j) = -1 ∧ ∀ i : Int, 0 ≤ i → i < j → rwC T i ≠ rwC T j
def rwO (S T : HS) (j : Int) : Prop := rwI S T j ∧ ¬ rwP S T j ∧ rwT S T j
def rwR (S T : HS) (j r : Int) : Prop := (¬ rwI S T j ∧ r = 5) ∨ (rwI S T j ∧ rwP S T j ∧ r = 6) ∨ (rwI S T j ∧ ¬ rwP S T j ∧ ¬ rwT S T j ∧ r = 7)
def rwF (S T : HS) (n j r : Int) : Prop := 0 ≤ j ∧ j < n ∧ (∀ i : Int, 0 ≤ i → i < j → rwO S T i) ∧ rwR S T j r
def wkD (S T : HS) : Prop := S 46 7 ≤ 413 ∧ ∀ j : Int, 0 ≤ j → j < S 46 7 → pIn 16 12 (T 61 j) (T 62 j) ∧ wkS S T j 16
section RW
variable {S T A B : HS}
theorem rwR.no {j r : Int} (h : rwR S T j r) : ¬ rwO S T j := by
  rintro ⟨a, b, c⟩
  rcases h with h | h | h
  · exact h.1 a
  · exact b h.2.1
  · exact h.2.2.1 c
theorem rwF.one {n n' j j' r r' : Int} (h : rwF S T n j r) (h' : rwF S T n' j' r') : j = j' ∧ r = r' := by
  obtain ⟨a1, a2, a3, a4⟩ := h
  obtain ⟨b1, b2, b3, b4⟩ := h'
  have e : j = j' := by
    by_cases g : j < j'
    · exact absurd (b3 j a1 g) a4.no
    · by_cases g2 : j' < j
      · exact absurd (a3 j' b1 g2) b4.no
      · omega
  refine ⟨e, ?_⟩
  subst e
  rcases a4 with ⟨x1, x2⟩ | ⟨x1, x2, x3⟩ | ⟨x1, x2, x3, x4⟩ <;> rcases b4 with ⟨y1, y2⟩ | ⟨y1, y2, y3⟩ | ⟨y1, y2, y3, y4⟩
  · omega
  · exact absurd y1 x1
  · exact absurd y1 x1
  · exact absurd x1 y1
  · omega
  · exact absurd x2 y2
  · exact absurd x1 y1
  · exact absurd y2 x2
  · omega
theorem rwO.c {j : Int} (h : rwO S T j) : 0 ≤ rwC T j ∧ rwC T j < 192 := by
  have a := h.1.1
  unfold pIn at a
  unfold rwC
  omega
theorem rwO_n {n : Int} (n0 : 0 ≤ n) (h : ∀ i : Int, 0 ≤ i → i < n → rwO S T i) : n ≤ 192 := by
  have z := pig (f := rwC T) (n := n.toNat) (fun i i0 i1 => (h i i0 (by omega)).c) (fun i j i0 ij j1 => (h j (by omega) (by omega)).2.2.2 i i0 ij)
  omega
theorem rwS_g (hC : wkD S T) {v : Int} (v0 : 1 ≤ v) (v1 : v < S 46 7) : gSide (rwC T (v - 1)) (S 48 v) = rwS T v ∧ (0 ≤ rwC T (v - 1) ∧ rwC T (v - 1) < 192) := by
  have p := (hC.2 v (by omega) v1).1
  have p0 := (hC.2 (v - 1) (by omega) (by omega)).1
  obtain ⟨w, ex, ey⟩ := (hC.2 v (by omega) v1).2.2 v0
  unfold pIn at p p0
  unfold rwS gSide rwC
  generalize T 61 (v - 1) = X0 at *
  generalize T 62 (v - 1) = Y0 at *
  rw [ex, ey] at p ⊢
  have e1 : (16 * Y0 + X0) % 16 = X0 := by omega
  have e2 : (16 * Y0 + X0) / 16 = Y0 := by omega
  rw [e1, e2]
  refine ⟨?_, by omega⟩
  have hc : S 48 v = 0 ∨ S 48 v = 1 ∨ S 48 v = 2 ∨ S 48 v = 3 := by omega
  have a0 : gAcr 0 = 0 := rfl
  have b0 : gDwn 0 = -1 := rfl
  have a1 : gAcr 1 = 0 := rfl
  have b1 : gDwn 1 = 1 := rfl
  have a2 : gAcr 2 = -1 := rfl
  have b2 : gDwn 2 = 0 := rfl
  have a3 : gAcr 3 = 1 := rfl
  have b3 : gDwn 3 = 0 := rfl
  rcases hc with c | c | c | c <;> rw [c]
  · rw [a0, b0, if_pos rfl, if_neg (by omega)]
    omega
  · rw [a1, b1, if_neg (by decide), if_pos rfl, if_neg (by omega)]
    omega
  · rw [a2, b2, if_neg (by decide), if_neg (by decide), if_pos rfl, if_pos (by omega)]
    omega
  · rw [a3, b3, if_neg (by decide), if_neg (by decide), if_neg (by decide), if_pos (by omega)]
    omega
/-- the class looks at a cell -/
theorem e_cell55 {c v : Int} (h : 0 ≤ c ∧ c < 192) (s : rSame [16] S A) (hA : ∀ q : Int, 0 ≤ q → q < 192 → (0 ≤ A 16 q ∧ A 16 q ≤ 1) ∧ (A 16 q = 1 ↔ ∃ i : Int, 0 ≤ i ∧ i < v ∧ rwC T i = q)) (hc : rwC T v = c) (hI : rwI S T v) (hP : ¬ rwP S T v) : zP (J_X6_whyNotCell_55 c A) (fun r D => (r = -1 ∧ rwO S T v ∧ D = up A 16 c 1) ∨ (r = 7 ∧ rwR S T v 7 ∧ D = A)) := by
  have h11 : A 11 = S 11 := s 11 (by decide)
  obtain ⟨a, b⟩ := hA c h.1 h.2
  unfold J_X6_whyNotCell_55
  rw [zg_in h, h11]
  by_cases g : S 11 c = -1
  · rw [if_pos g, zg_in h]
    by_cases g2 : A 16 c ≤ 0
    · rw [if_pos g2, zg_in h, zl_in (by omega), zg_in h, zs_in, zP_ret]
      have e : A 16 c + 1 = 1 := by omega
      rw [e]
      refine Or.inl ⟨rfl, ⟨hI, hP, by rw [hc]; exact g, fun i i0 i1 q => ?_⟩, rfl⟩
      have := b.mpr ⟨i, i0, i1, by omega⟩
      omega
    · rw [if_neg g2, zP_ret]
      refine Or.inr ⟨rfl, Or.inr (Or.inr ⟨hI, hP, fun z => ?_, rfl⟩), rfl⟩
      obtain ⟨i, i0, i1, i2⟩ := b.mp (by omega)
      exact z.2 i i0 i1 (by omega)
  · rw [if_neg g, zP_ret]
    refine Or.inr ⟨rfl, Or.inr (Or.inr ⟨hI, hP, fun z => ?_, rfl⟩), rfl⟩
    have := z.1
    rw [hc] at this
    exact g this
theorem e_whyCell (hC : wkD S T) {v : Int} (v0 : 0 ≤ v) (v1 : v < S 46 7) (s : rSame [16] S A) (hA : ∀ q : Int, 0 ≤ q → q < 192 → (0 ≤ A 16 q ∧ A 16 q ≤ 1) ∧ (A 16 q = 1 ↔ ∃ i : Int, 0 ≤ i ∧ i < v ∧ rwC T i = q)) : zP (M_X6_whyNotCell v A) (fun r D => (r = -1 ∧ rwO S T v ∧ D = up A 16 (rwC T v) 1) ∨ ((5 ≤ r ∧ r ≤ 7) ∧ rwR S T v r ∧ D = A)) := by
  have n := hC.1
  have h46 : A 46 = S 46 := s 46 (by decide)
  have h47 : A 47 = S 47 := s 47 (by decide)
  have h48 : A 48 = S 48 := s 48 (by decide)
  have h2 : A 2 = S 2 := s 2 (by decide)
  have h4 : A 4 = S 4 := s 4 (by decide)
  have p := (hC.2 v v0 v1).1
  have e := (hC.2 v v0 v1).2.1
  have e' : S 47 v = rwC T v := e
  have cr : 0 ≤ rwC T v ∧ rwC T v < 192 := by
    unfold pIn at p
    unfold rwC
    omega
  unfold M_X6_whyNotCell
  rw [e_pt (by rw [h46]; omega), zb_some, h47, e', e_cell, zb_some, zif1 cr, if_neg (by decide), e_scalp, zb_some, h2]
  by_cases g : S 2 (rwC T v) ≠ -1
  · have hI : rwI S T v := ⟨p, g⟩
    rw [zif1 ⟨cr.1, cr.2, g⟩, if_neg (by decide)]
    have fin : ¬ rwP S T v → zP (J_X6_whyNotCell_55 (rwC T v) A) (fun r D => (r = -1 ∧ rwO S T v ∧ D = up A 16 (rwC T v) 1) ∨ ((5 ≤ r ∧ r ≤ 7) ∧ rwR S T v r ∧ D = A)) := by
      intro hP
      refine zP_mono (e_cell55 cr s hA rfl hI hP) (fun r D hD => ?_)
      rcases hD with q | ⟨rfl, q2, q3⟩
      · exact Or.inl q
      · exact Or.inr ⟨by omega, q2, q3⟩
    by_cases g0 : v ≤ 0
    · rw [if_pos g0]
      exact fin (fun z => by have := z.1; omega)
    · obtain ⟨gs, gc⟩ := rwS_g hC (v := v) (by omega) v1
      have e0 := (hC.2 (v - 1) (by omega) (by omega)).2.1
      have e0' : S 47 (v - 1) = rwC T (v - 1) := e0
      rw [if_neg g0, zl_in (by omega), e_pt (by rw [h46]; omega), zb_some, h47, e0', e_wy (by rw [h46]; omega), zb_some, h48, e_isParted gc, zb_some, h4, gs]
      by_cases g2 : S 4 (rwS T v) ≠ -1
      · rw [zif1 g2, if_neg (by decide), zP_ret]
        exact Or.inr ⟨by omega, Or.inr (Or.inl ⟨hI, ⟨by omega, g2⟩, rfl⟩), rfl⟩
      · rw [zif0 g2, if_pos rfl]
        exact fin (fun z => g2 z.2)
  · rw [zif0 (fun z => g z.2.2), if_pos rfl, zP_ret]
    exact Or.inr ⟨by omega, Or.inl ⟨fun z => g z.2, rfl⟩, rfl⟩
theorem e_whyRow (hC : wkD S T) (n0 : 0 ≤ S 46 7) (h24 : S 7 11 < 24) : zP (M_X6_whyNot S) (fun r A => rSame [16] S A ∧ ((∃ j : Int, rwF S T (S 46 7) j r) ∨ ((∀ j : Int, 0 ≤ j → j < S 46 7 → rwO S T j) ∧ r = (if S 46 8 = 0 then (if S 46 6 = 1 then 8 else -1) else 5)))) := by
  have n := hC.1
  unfold M_X6_whyNot
  rw [if_pos h24, zs_in]
  refine zloop (b := S 46 7) (fun v A => (0 ≤ v ∧ v ≤ S 46 7) ∧ rSame [16] S A ∧ (∀ q : Int, 0 ≤ q → q < 192 → (0 ≤ A 16 q ∧ A 16 q ≤ 1) ∧ (A 16 q = 1 ↔ ∃ i : Int, 0 ≤ i ∧ i < v ∧ rwC T i = q)) ∧ ∀ j : Int, 0 ≤ j → j < v → rwO S T j) (fun n v A hJ hv => ?_) (fun n v A hJ hv ih => ?_) _ _ _ ⟨⟨Int.le_refl _, n0⟩, zfill_s (by simp), fun s s0 s1 => ?_, fun j j0 j1 => by omega⟩ (zbig (by omega))
  · obtain ⟨a, b, c, d⟩ := hJ
    have h46 : A 46 = S 46 := b 46 (by decide)
    have ev : v = S 46 7 := by omega
    rw [ev] at d
    rw [L_X6_whyNot_22.eq_2, h46, if_pos hv]
    by_cases g : S 46 8 = 0
    · rw [if_pos g, if_pos g]
      by_cases g2 : S 46 6 = 1
      · rw [if_pos g2, if_pos g2, zP_ret]
        exact ⟨b, Or.inr ⟨d, rfl⟩⟩
      · rw [if_neg g2, if_neg g2, zP_ret]
        exact ⟨b, Or.inr ⟨d, rfl⟩⟩
    · rw [if_neg g, if_neg g, zP_ret]
      exact ⟨b, Or.inr ⟨d, rfl⟩⟩
  · obtain ⟨a, b, c, d⟩ := hJ
    have h46 : A 46 = S 46 := b 46 (by decide)
    rw [L_X6_whyNot_22.eq_2, h46, if_neg (by omega), zP_zb]
    refine zP_mono (e_whyCell hC a.1 hv b c) (fun r D hD => ?_)
    rcases hD with ⟨rfl, q2, rfl⟩ | ⟨q1, q2, rfl⟩
    · rw [if_pos rfl, zl_in (by omega)]
      refine ih _ ⟨by omega, b.up (by decide), fun q q0 q1 => ?_, fun j j0 j1 => ?_⟩
      · obtain ⟨c1, c2⟩ := c q q0 q1
        rw [up_same]
        by_cases e : q = rwC T v
        · rw [if_pos e]
          exact ⟨by omega, fun _ => ⟨v, a.1, by omega, e.symm⟩, fun _ => rfl⟩
        · rw [if_neg e]
          refine ⟨c1, fun z => ?_, fun ⟨i, i0, i1, i2⟩ => ?_⟩
          · obtain ⟨i, i0, i1, i2⟩ := c2.mp z
            exact ⟨i, i0, by omega, i2⟩
          · by_cases y : i = v
            · rw [y] at i2
              exact absurd i2.symm e
            · exact c2.mpr ⟨i, i0, by omega, i2⟩
      · by_cases y : j = v
        · rw [y]
          exact q2
        · exact d j j0 (by omega)
    · rw [if_neg (by omega), zP_ret]
      exact ⟨b, Or.inl ⟨v, a.1, hv, d, q2⟩⟩
  · rw [zfill_at, if_pos ⟨rfl, s0, s1⟩]
    exact ⟨by omega, fun z => by omega, fun ⟨i, i0, i1, _⟩ => by omega⟩
end RW
