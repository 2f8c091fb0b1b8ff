/-! takeBack -/
def cutB (p : Int) (S T : HS) : Prop := T 3 3 = p ∧ (∀ s : Int, 0 ≤ s → s < 412 → T 4 s = if S 4 s < p then S 4 s else -1) ∧ zFr [4] [(3, 3)] S T
def cutR (r : Int) (S T : HS) : Prop := T 7 11 = r ∧ (∀ c : Int, 0 ≤ c → c < 192 → T 11 c = if S 11 c < 200 * r then S 11 c else -1) ∧ zFr [11] [(7, 11)] S T
def cutM (p r : Int) (S T : HS) : Prop := (∀ s : Int, 0 ≤ s → s < 208 → T 63 s = if S 63 s ≤ p then S 63 s else 0) ∧ (∀ s : Int, 0 ≤ s → s < 204 → T 64 s = if S 64 s ≤ p then S 64 s else 0) ∧ (∀ c : Int, 0 ≤ c → c < 192 → T 68 c = if S 68 c < r then S 68 c else -1) ∧ T 51 22 = p ∧ T 51 27 = r ∧ zFr [63, 64, 68] [(51, 22), (51, 27)] S T
section TB
variable {S : HS}
theorem e_cut5 {p : Int} : zP (M_X5_cutTo p S) (fun _ T => cutB p S T) := by
  unfold M_X5_cutTo
  refine zloop (b := 412) (fun v T => (0 ≤ v ∧ v ≤ 412) ∧ rSame [4] S T ∧ ∀ s : Int, T 4 s = if 0 ≤ s ∧ s < v ∧ ¬ S 4 s < p then -1 else S 4 s) (fun n v T hJ hv => ?_) (fun n v T hJ hv ih => ?_) _ _ _ ⟨⟨Int.le_refl _, by decide⟩, fun _ _ => rfl, fun s => by rw [if_neg (by omega)]⟩ (zbig (by decide))
  · obtain ⟨a, b, c⟩ := hJ
    rw [L_X5_cutTo_2.eq_2, if_pos hv, zs_in, zP_ret]
    refine ⟨up_eq .., fun s s0 s1 => ?_, zfr_upO (zFr.mono (by decide) (by decide) b.fr) (by decide)⟩
    rw [up_cell _ (by decide), c]
    by_cases g : S 4 s < p
    · rw [if_neg (fun q => q.2.2 g), if_pos g]
    · rw [if_pos ⟨s0, by omega, g⟩, if_neg g]
  · obtain ⟨a, b, c⟩ := hJ
    have cv := c v
    rw [if_neg (by omega)] at cv
    rw [L_X5_cutTo_2.eq_2]
    unfold J_X5_cutTo_26
    rw [if_neg (by omega), zg_in (by omega), cv]
    by_cases g : S 4 v < p
    · rw [if_pos g, zl_in (by omega)]
      refine ih _ ⟨by omega, b, fun s => ?_⟩
      rw [c]
      by_cases q : 0 ≤ s ∧ s < v ∧ ¬ S 4 s < p
      · rw [if_pos q, if_pos ⟨q.1, by omega, q.2.2⟩]
      · rw [if_neg q, if_neg]
        intro z
        by_cases e : s = v
        · subst e
          exact z.2.2 g
        · exact q ⟨z.1, by omega, z.2.2⟩
    · rw [if_neg g, zg_in (by omega), zs_in, zl_in (by omega)]
      refine ih _ ⟨by omega, b.up (by decide), fun s => ?_⟩
      rw [up_same]
      by_cases e : s = v
      · rw [if_pos e, e, if_pos ⟨a.1, by omega, g⟩]
      · rw [if_neg e, c]
        by_cases q : 0 ≤ s ∧ s < v ∧ ¬ S 4 s < p
        · rw [if_pos q, if_pos ⟨q.1, by omega, q.2.2⟩]
        · rw [if_neg q, if_neg (fun z => q ⟨z.1, by omega, z.2.2⟩)]
theorem e_cut6 {r : Int} (hr : 0 ≤ r ∧ r ≤ 24) : zP (M_X6_cutTo r S) (fun _ T => cutR r S T) := by
  unfold M_X6_cutTo
  refine zloop (b := 192) (fun v T => (0 ≤ v ∧ v ≤ 192) ∧ rSame [11] S T ∧ ∀ s : Int, T 11 s = if 0 ≤ s ∧ s < v ∧ ¬ S 11 s < 200 * r then -1 else S 11 s) (fun n v T hJ hv => ?_) (fun n v T hJ hv ih => ?_) _ _ _ ⟨⟨Int.le_refl _, by decide⟩, fun _ _ => rfl, fun s => by rw [if_neg (by omega)]⟩ (zbig (by decide))
  · obtain ⟨a, b, c⟩ := hJ
    rw [L_X6_cutTo_2.eq_2, if_pos hv, zs_in, zP_ret]
    refine ⟨up_eq .., fun s s0 s1 => ?_, zfr_upO (zFr.mono (by decide) (by decide) b.fr) (by decide)⟩
    rw [up_cell _ (by decide), c]
    by_cases g : S 11 s < 200 * r
    · rw [if_neg (fun q => q.2.2 g), if_pos g]
    · rw [if_pos ⟨s0, by omega, g⟩, if_neg g]
  · obtain ⟨a, b, c⟩ := hJ
    have cv := c v
    rw [if_neg (by omega)] at cv
    rw [L_X6_cutTo_2.eq_2]
    unfold J_X6_cutTo_30
    rw [if_neg (by omega), zg_in (by omega), zl_in (by omega), cv]
    by_cases g : S 11 v < 200 * r
    · rw [if_pos g, zl_in (by omega)]
      refine ih _ ⟨by omega, b, fun s => ?_⟩
      rw [c]
      by_cases q : 0 ≤ s ∧ s < v ∧ ¬ S 11 s < 200 * r
      · rw [if_pos q, if_pos ⟨q.1, by omega, q.2.2⟩]
      · rw [if_neg q, if_neg]
        intro z
        by_cases e : s = v
        · subst e
          exact z.2.2 g
        · exact q ⟨z.1, by omega, z.2.2⟩
    · rw [if_neg g, zg_in (by omega), zs_in, zl_in (by omega)]
      refine ih _ ⟨by omega, b.up (by decide), fun s => ?_⟩
      rw [up_same]
      by_cases e : s = v
      · rw [if_pos e, e, if_pos ⟨a.1, by omega, g⟩]
      · rw [if_neg e, c]
        by_cases q : 0 ≤ s ∧ s < v ∧ ¬ S 11 s < 200 * r
        · rw [if_pos q, if_pos ⟨q.1, by omega, q.2.2⟩]
        · rw [if_neg q, if_neg (fun z => q ⟨z.1, by omega, z.2.2⟩)]
def sdM (S : HS) (s : Int) : Int := if 208 ≤ s then S 64 (s - 208) else S 63 s
theorem m_sideOf {s : Int} (h : 0 ≤ s ∧ s < 412) : M_X12_sideOf s S = some (sdM S s, S) := by
  unfold M_X12_sideOf sdM
  by_cases g : 208 ≤ s
  · rw [if_pos g, if_pos g, zg_in (by omega)]
  · rw [if_neg g, if_neg g, zg_in (by omega)]
theorem m_setSide {s v : Int} (h : 0 ≤ s ∧ s < 412) : zP (M_X12_setSide s v S) (fun _ T => rSame [63, 64] S T ∧ ∀ s' : Int, 0 ≤ s' → s' < 412 → sdM T s' = if s' = s then v else sdM S s') := by
  unfold M_X12_setSide
  by_cases g : 208 ≤ s
  · rw [if_pos g, zg_in (by omega), zs_in, zP_ret]
    refine ⟨rSame.rf.up (by decide), fun s' a b => ?_⟩
    unfold sdM
    rw [up_same, up_cell _ (by decide)]
    by_cases q : 208 ≤ s'
    · rw [if_pos q, if_pos q]
      by_cases e : s' = s
      · rw [if_pos (by omega), if_pos e]
      · rw [if_neg (by omega), if_neg e]
    · rw [if_neg q, if_neg q, if_neg (by omega)]
  · rw [if_neg g, zg_in (by omega), zs_in, zP_ret]
    refine ⟨rSame.rf.up (by decide), fun s' a b => ?_⟩
    unfold sdM
    rw [up_same, up_cell _ (by decide)]
    by_cases q : 208 ≤ s'
    · rw [if_pos q, if_pos q, if_neg (by omega)]
    · rw [if_neg q, if_neg q]
theorem m_forgets {p r : Int} : zP (M_X12_forgets p r S) (fun _ T => cutM p r S T) := by
  unfold M_X12_forgets
  refine zloop (b := 412) (fun v T => (0 ≤ v ∧ v ≤ 412) ∧ rSame [63, 64] S T ∧ ∀ s : Int, 0 ≤ s → s < 412 → sdM T s = if s < v ∧ ¬ sdM S s ≤ p then 0 else sdM S s) (fun n v T hJ hv => ?_) (fun n v T hJ hv ih => ?_) _ _ _ ⟨⟨Int.le_refl _, by decide⟩, fun _ _ => rfl, fun s s0 s1 => by rw [if_neg (by omega)]⟩ (zbig (by decide))
  · obtain ⟨a, b, c⟩ := hJ
    rw [L_X12_forgets_2.eq_2, if_pos hv]
    have c63 : ∀ s : Int, 0 ≤ s → s < 208 → T 63 s = if S 63 s ≤ p then S 63 s else 0 := by
      intro s s0 s1
      have z := c s s0 (by omega)
      unfold sdM at z
      rw [if_neg (by omega), if_neg (show ¬ 208 ≤ s by omega)] at z
      rw [z]
      by_cases g : S 63 s ≤ p
      · rw [if_neg (fun q => q.2 g), if_pos g]
      · rw [if_pos ⟨by omega, g⟩, if_neg g]
    have c64 : ∀ s : Int, 0 ≤ s → s < 204 → T 64 s = if S 64 s ≤ p then S 64 s else 0 := by
      intro s s0 s1
      have z := c (s + 208) (by omega) (by omega)
      unfold sdM at z
      rw [if_pos (by omega), if_pos (show 208 ≤ s + 208 by omega), show s + 208 - 208 = s by omega] at z
      rw [z]
      by_cases g : S 64 s ≤ p
      · rw [if_neg (fun q => q.2 g), if_pos g]
      · rw [if_pos ⟨by omega, g⟩, if_neg g]
    refine zloop (b := 192) (fun v U => (0 ≤ v ∧ v ≤ 192) ∧ rSame [68] T U ∧ ∀ c : Int, U 68 c = if 0 ≤ c ∧ c < v ∧ ¬ S 68 c < r then -1 else S 68 c) (fun n v U hJ hv => ?_) (fun n v U hJ hv ih => ?_) _ _ _ ⟨⟨Int.le_refl _, by decide⟩, fun _ _ => rfl, fun s => by rw [if_neg (by omega), b 68 (by decide)]⟩ (zbig (by decide))
    · obtain ⟨a2, b2, c2⟩ := hJ
      rw [L_X12_forgets_32.eq_2, if_pos hv, zs_in, zs_in, zP_ret]
      refine ⟨fun s s0 s1 => ?_, fun s s0 s1 => ?_, fun s s0 s1 => ?_, ?_, up_eq .., zfr_upO (zfr_upO (zFr.trans (zFr.mono (by decide) (by decide) b.fr) (zFr.mono (by decide) (by decide) b2.fr)) (by decide)) (by decide)⟩
      · rw [up_cell _ (by decide), up_cell _ (by decide), b2 63 (by decide)]
        exact c63 s s0 s1
      · rw [up_cell _ (by decide), up_cell _ (by decide), b2 64 (by decide)]
        exact c64 s s0 s1
      · rw [up_cell _ (by decide), up_cell _ (by decide), c2]
        by_cases g : S 68 s < r
        · rw [if_neg (fun q => q.2.2 g), if_pos g]
        · rw [if_pos ⟨s0, by omega, g⟩, if_neg g]
      · rw [up_same, if_neg (by decide), up_eq]
    · obtain ⟨a2, b2, c2⟩ := hJ
      have cv := c2 v
      rw [if_neg (by omega)] at cv
      rw [L_X12_forgets_32.eq_2]
      unfold J_X12_forgets_64
      rw [if_neg (by omega), zg_in (by omega), cv]
      by_cases g : S 68 v < r
      · rw [if_pos g, zg_in (by omega), zg_in (by omega), zs_in, zl_in (by omega)]
        refine ih _ ⟨by omega, b2.up (by decide), fun s => ?_⟩
        rw [up_same, c2]
        by_cases e : s = v
        · rw [if_pos e, e, if_neg (fun q => q.2.2 g)]
        · rw [if_neg e]
          by_cases q : 0 ≤ s ∧ s < v ∧ ¬ S 68 s < r
          · rw [if_pos q, if_pos ⟨q.1, by omega, q.2.2⟩]
          · rw [if_neg q, if_neg (fun z => q ⟨z.1, by omega, z.2.2⟩)]
      · rw [if_neg g, zg_in (by omega), zs_in, zl_in (by omega)]
        refine ih _ ⟨by omega, b2.up (by decide), fun s => ?_⟩
        rw [up_same, c2]
        by_cases e : s = v
        · rw [if_pos e, e, if_pos ⟨a2.1, by omega, g⟩]
        · rw [if_neg e]
          by_cases q : 0 ≤ s ∧ s < v ∧ ¬ S 68 s < r
          · rw [if_pos q, if_pos ⟨q.1, by omega, q.2.2⟩]
          · rw [if_neg q, if_neg (fun z => q ⟨z.1, by omega, z.2.2⟩)]
  · obtain ⟨a, b, c⟩ := hJ
    have cv := c v a.1 hv
    rw [if_neg (by omega)] at cv
    rw [L_X12_forgets_2.eq_2]
    unfold J_X12_forgets_24
    rw [if_neg (by omega), m_sideOf ⟨a.1, hv⟩, zb_some, cv]
    by_cases g : sdM S v ≤ p
    · rw [if_pos g, zl_in (by omega)]
      refine ih _ ⟨by omega, b, fun s s0 s1 => ?_⟩
      rw [c s s0 s1]
      by_cases q : s < v ∧ ¬ sdM S s ≤ p
      · rw [if_pos q, if_pos ⟨by omega, q.2⟩]
      · rw [if_neg q, if_neg]
        intro z
        by_cases e : s = v
        · subst e
          exact z.2 g
        · exact q ⟨by omega, z.2⟩
    · rw [if_neg g, zP_zb]
      refine zP_mono (m_setSide ⟨a.1, hv⟩) (fun _ U hU => ?_)
      rw [zl_in (by omega)]
      refine ih _ ⟨by omega, b.trans hU.1, fun s s0 s1 => ?_⟩
      rw [hU.2 s s0 s1]
      by_cases e : s = v
      · rw [if_pos e, e, if_pos ⟨by omega, g⟩]
      · rw [if_neg e, c s s0 s1]
        by_cases q : s < v ∧ ¬ sdM S s ≤ p
        · rw [if_pos q, if_pos ⟨by omega, q.2⟩]
        · rw [if_neg q, if_neg (fun z => q ⟨by omega, z.2⟩)]
theorem zsum_tail {f : Int → Int} {m : Nat} (d : Nat) (h : ∀ i : Int, m ≤ i → i < (m + d : Nat) → f i = 0) : zsum f (m + d) = zsum f m := by
  induction d with
  | zero => rfl
  | succ d ih =>
    have e : m + (d + 1) = (m + d) + 1 := rfl
    rw [e, zsum_s, ih (fun i a b => h i a (by omega)), h _ (by omega) (by omega)]
    omega
/-- one state under what the mask hides, another elsewhere -/
def mix (S V : HS) : HS := fun k i => if (17 ≤ k ∧ k ≤ 22) ∨ (29 ≤ k ∧ k ≤ 31) then S k i else V k i
/-- what is left when the latest is gone -/
theorem cut_rest {p r : Int} {V : HS} (hI : iRest S) (hp : 0 ≤ p ∧ p ≤ S 3 3) (hr : 0 ≤ r ∧ r ≤ S 7 11) (hfree : ∀ k : Int, r ≤ k → k < S 7 11 → S 13 k ≤ 0 ∧ S 14 k = -1) (h3 : V 3 3 = p) (h4 : ∀ s : Int, 0 ≤ s → s < 412 → V 4 s = if S 4 s < p then S 4 s else -1) (h7 : V 7 11 = r) (h11 : ∀ c : Int, 0 ≤ c → c < 192 → V 11 c = if S 11 c < 200 * r then S 11 c else -1) (h63 : ∀ s : Int, 0 ≤ s → s < 208 → V 63 s = if S 63 s ≤ p then S 63 s else 0) (h64 : ∀ s : Int, 0 ≤ s → s < 204 → V 64 s = if S 64 s ≤ p then S 64 s else 0) (h68 : ∀ c : Int, 0 ≤ c → c < 192 → V 68 c = if S 68 c < r then S 68 c else -1) (h22 : V 51 22 = p) (h27 : V 51 27 = r) (hk : ∀ k : Nat, k ≠ 3 → k ≠ 4 → k ≠ 7 → k ≠ 11 → k ≠ 63 → k ≠ 64 → k ≠ 68 → k ≠ 51 → k ≠ 45 → V k = S k) (h712 : V 7 12 = S 7 12) (h51 : ∀ i : Int, i = 2 ∨ i = 37 ∨ i = 38 ∨ i = 43 ∨ i = 54 → V 51 i = S 51 i) : iLen V ∧ iTape V ∧ iWords V ∧ iPart V ∧ iRow V ∧ iMark V ∧ iAdd V ∧ iCrew V := by
  obtain ⟨iL, iT, iW, iP, iR, iM, iA, iG, iC⟩ := hI
  have e := fun (k : Nat) (h : (k != 3 && k != 4 && k != 7 && k != 11 && k != 63 && k != 64 && k != 68 && k != 51 && k != 45) = true) => hk k (by simp at h; omega) (by simp at h; omega) (by simp at h; omega) (by simp at h; omega) (by simp at h; omega) (by simp at h; omega) (by simp at h; omega) (by simp at h; omega) (by simp at h; omega)
  have hR := iR.c
  have m0 := iR.m
  have cV : cel V = cel S := by
    funext x y
    unfold cel
    rw [e 8 rfl, e 9 rfl]
  refine ⟨?_, ?_, ?_, ?_, ?_, ?_, ?_, ?_⟩
  · unfold iLen
    rw [e 1 rfl, h51 37 (by simp), h51 38 (by simp)]
    exact iL
  · unfold iTape
    rw [e 40 rfl, e 41 rfl, e 52 rfl, h51 2 (by simp)]
    exact iT
  · unfold iWords
    rw [e 56 rfl]
    exact iW
  · obtain ⟨⟨q1, q2, q3, q4⟩, q5⟩ := iP
    refine ⟨⟨fun c c0 c1 => ?_, fun s s0 s1 => ?_, fun s s0 s1 => ?_, fun s s0 s1 => ?_⟩, by omega, by omega, by omega⟩
    · rw [e 67 rfl, e 2 rfl]
      exact q1 c c0 c1
    · have x := q2 s s0 s1
      rw [h63 s s0 s1, h4 s s0 (by omega)]
      by_cases g : S 4 s < p
      · rw [if_pos (by omega), if_pos g]
        exact x
      · rw [if_neg (by omega), if_neg g]
        rfl
    · have x := q3 s s0 s1
      rw [h64 (s - 208) (by omega) (by omega), h4 s (by omega) s1]
      by_cases g : S 4 s < p
      · rw [if_pos (by omega), if_pos g]
        exact x
      · rw [if_neg (by omega), if_neg g]
        rfl
    · have x := q4 s s0 s1
      rw [h4 s s0 s1, h3]
      split <;> omega
  · refine iRow.mk ⟨?_, fun q q0 q1 => ?_, fun q k q0 q1 k0 k1 => ?_, fun c c0 c1 => ?_⟩ ⟨by omega, fun q q0 q1 => ?_, fun q k q0 q1 k0 k1 => ?_, fun c c0 c1 => ?_⟩
    · rw [h7, e 9 rfl]
      have := hR.1
      exact ⟨by omega, by omega, fun z => hR.1.2.2 (by omega)⟩
    · rw [h7] at q1 ⊢
      rw [e 10 rfl, e 9 rfl]
      have x := hR.2.1 q q0 (by omega)
      exact ⟨x.1, x.2.1, x.2.2.1, fun z => x.2.2.2 (by omega)⟩
    · rw [h7] at q1
      rw [e 10 rfl] at k1
      have x := hR.2.2.1 q k q0 (by omega) k0 k1
      have y := hR.2.1 q q0 (by omega)
      rw [cV, e 2 rfl, h11 _ x.1 x.2.1, if_pos (by omega)]
      exact x
    · rw [h11 c c0 c1, h7, e 10 rfl, cV]
      by_cases g : S 11 c < 200 * r
      · rw [if_pos g]
        rcases hR.2.2.2 c c0 c1 with x | ⟨q, k, x1, x2, x3, x4, x5, x6⟩
        · exact Or.inl x
        · exact Or.inr ⟨q, k, x1, by omega, x3, x4, x5, x6⟩
      · rw [if_neg g]
        exact Or.inl rfl
    · rw [h7] at q1
      rw [e 69 rfl, e 10 rfl]
      exact m0.2.1 q q0 (by omega)
    · rw [h7] at q1
      rw [e 10 rfl] at k1
      rw [e 70 rfl, cV]
      exact m0.2.2.1 q k q0 (by omega) k0 k1
    · rw [h11 c c0 c1, h68 c c0 c1]
      have x := m0.2.2.2 c c0 c1
      rcases hR.2.2.2 c c0 c1 with y | ⟨q, k, x1, x2, x3, x4, x5, x6⟩
      · left
        rcases x with x | x
        · rw [if_pos (by omega), if_pos (by omega)]
          exact x
        · omega
      · have y := hR.2.1 q x1 x2
        rcases x with x | x
        · omega
        · by_cases g : S 11 c < 200 * r
          · rw [if_pos g, if_pos (by omega)]
            exact Or.inr x
          · rw [if_neg g, if_neg (by omega)]
            exact Or.inl ⟨rfl, rfl⟩
  · refine ⟨fun q q0 q1 => ?_, ?_, ?_, ?_⟩
    · rw [h7] at q1
      rw [e 71 rfl, e 72 rfl, e 15 rfl, e 14 rfl, e 1 rfl, h712]
      exact iM.1 q q0 (by omega)
    · rw [h51 54 (by simp), h712]
      exact iM.2.1
    · rw [h712]
      exact iM.2.2.1
    · rw [h712, h7, e 14 rfl, iM.2.2.2]
      have t := zsum_tail (f := fun r => if 0 ≤ S 14 r then (1 : Int) else 0) (m := r.toNat) (S 7 11 - r).toNat (fun i i0 i1 => by
        show (if 0 ≤ S 14 i then (1 : Int) else 0) = 0
        have := (hfree i (by omega) (by omega)).2
        rw [if_neg (by omega)])
      rw [show r.toNat + (S 7 11 - r).toNat = (S 7 11).toNat by omega] at t
      exact t
  · have lt : ∀ i : Int, 0 ≤ i → i < S 23 4 → S 24 i < r := by
      intro i i0 i1
      have z := iA.2.1 i i0 i1
      by_cases g : S 24 i < r
      · exact g
      · have f := hfree (S 24 i) (by omega) z.2.2.1
        have s := iA.2.2.2 (S 24 i) z.2.1 z.2.2.1
        have ps := zsum_pos (f := fun j => if S 24 j = S 24 i then (1 : Int) else 0) (n := (S 23 4).toNat) (a := i) i0 (by omega) (fun j j0 j1 => by
          show (0 : Int) ≤ if S 24 j = S 24 i then (1 : Int) else 0
          split <;> omega)
        have o : (if S 24 i = S 24 i then (1 : Int) else 0) = 1 := if_pos rfl
        have ps2 : (if S 24 i = S 24 i then (1 : Int) else 0) ≤ zsum (fun j => if S 24 j = S 24 i then (1 : Int) else 0) (S 23 4).toNat := ps
        rw [o] at ps2
        omega
    refine ⟨?_, fun i i0 i1 => ?_, fun c c0 c1 => ?_, fun q q0 q1 => ?_⟩
    · rw [h51 43 (by simp), e 23 rfl]
      exact iA.1
    · rw [e 23 rfl] at i1
      rw [e 79 rfl, e 80 rfl, e 81 rfl, e 82 rfl, e 24 rfl, e 25 rfl, e 26 rfl, e 27 rfl, e 10 rfl, h7]
      have z := iA.2.1 i i0 i1
      exact ⟨z.1, z.2.1, lt i i0 i1, z.2.2.2⟩
    · rw [e 12 rfl, e 23 rfl, e 24 rfl, e 25 rfl, e 26 rfl, cV]
      exact iA.2.2.1 c c0 c1
    · rw [h7] at q1
      rw [e 13 rfl, e 23 rfl, e 24 rfl]
      exact iA.2.2.2 q q0 (by omega)
  · unfold iCrew
    rw [e 89 rfl, e 34 rfl]
    exact iC
theorem e_free {p r : Int} {k : HS → zO2} {Q : Int → HS → Prop} (hR : cRow S) (hr : 0 ≤ r ∧ r ≤ S 7 11) (hk : (∀ j : Int, r ≤ j → j < S 7 11 → S 13 j ≤ 0 ∧ S 14 j = -1) → zP (k S) Q) (hn : (∃ j : Int, r ≤ j ∧ j < S 7 11 ∧ ¬ (S 13 j ≤ 0 ∧ S 14 j = -1)) → Q (-1) S) : zP (L_X4_undoLatest_44 k p r zBig r S) Q := by
  refine zloop (b := S 7 11) (fun v T => (r ≤ v ∧ v ≤ S 7 11) ∧ T = S ∧ ∀ j : Int, r ≤ j → j < v → S 13 j ≤ 0 ∧ S 14 j = -1) (fun n v T hJ hv => ?_) (fun n v T hJ hv ih => ?_) _ _ _ ⟨⟨Int.le_refl _, hr.2⟩, rfl, fun j a b => by omega⟩ (zbig (by have := hR.1; omega))
  · obtain ⟨a, rfl, c⟩ := hJ
    rw [L_X4_undoLatest_44.eq_2, if_pos hv]
    exact hk (fun j j0 j1 => c j j0 (by omega))
  · obtain ⟨a, rfl, c⟩ := hJ
    have h24 := hR.1
    rw [L_X4_undoLatest_44.eq_2, if_neg (by omega), e_timesAddedTo hR, zb_some, if_pos (show 0 ≤ v ∧ v < T 7 11 by omega)]
    by_cases g : 0 < T 13 v
    · rw [if_pos g, zP_ret]
      exact hn ⟨v, a.1, hv, fun q => by omega⟩
    · rw [if_neg g]
      unfold M_X6_isTied
      rw [e_knotWith hR, zb_some, if_pos (show 0 ≤ v ∧ v < T 7 11 by omega)]
      by_cases g2 : T 14 v = -1
      · rw [if_pos g2, zb_some, if_pos rfl, zl_in (by omega)]
        refine ih _ ⟨by omega, rfl, fun j j0 j1 => ?_⟩
        by_cases e : j = v
        · rw [e]
          exact ⟨by omega, g2⟩
        · exact c j j0 (by omega)
      · rw [if_neg g2, zb_some, if_neg (by decide), zP_ret]
        exact hn ⟨v, a.1, hv, fun q => g2 q.2⟩
theorem e_undo (hI : iRest S) (hn : 1 ≤ S 45 6) : zP (M_X4_undoLatest S) (fun x T => ((∀ j : Int, S 50 (S 45 6 - 1) ≤ j → j < S 7 11 → S 13 j ≤ 0 ∧ S 14 j = -1) ∧ x = S 3 3 - S 49 (S 45 6 - 1) + S 7 11 - S 50 (S 45 6 - 1) ∧ T 3 3 = S 49 (S 45 6 - 1) ∧ (∀ s : Int, 0 ≤ s → s < 412 → T 4 s = if S 4 s < S 49 (S 45 6 - 1) then S 4 s else -1) ∧ T 7 11 = S 50 (S 45 6 - 1) ∧ (∀ c : Int, 0 ≤ c → c < 192 → T 11 c = if S 11 c < 200 * S 50 (S 45 6 - 1) then S 11 c else -1) ∧ T 45 6 = S 45 6 - 1 ∧ zFr [4, 11] [(3, 3), (7, 11), (45, 6)] S T) ∨ ((∃ j : Int, S 50 (S 45 6 - 1) ≤ j ∧ j < S 7 11 ∧ ¬ (S 13 j ≤ 0 ∧ S 14 j = -1)) ∧ x = -1 ∧ T = S)) := by
  obtain ⟨iL, iT, iW, iP, iR, iM, iA, iG, iC⟩ := hI
  have hR := iR.c
  have g := iG.2 (S 45 6 - 1) (by omega) (by omega)
  have g0 := iG.1
  have p0 := iP.2
  have r0 := hR.1
  unfold M_X4_undoLatest
  rw [if_neg (by omega), if_pos (by omega), zg_in (by omega), zg_in (by omega)]
  generalize hp : S 49 (S 45 6 - 1) = p at g ⊢
  generalize hr : S 50 (S 45 6 - 1) = r at g ⊢
  refine e_free hR (by omega) (fun hf => ?_) (fun hx => Or.inr ⟨hx, rfl, rfl⟩)
  rw [zl_in (by omega), zP_zb]
  refine zP_mono e_cut5 (fun _ T hT => ?_)
  obtain ⟨a1, a2, a3⟩ := hT
  rw [zP_zb]
  refine zP_mono (e_cut6 (by omega)) (fun _ U hU => ?_)
  obtain ⟨b1, b2, b3⟩ := hU
  have u45 : U 45 6 = S 45 6 := by rw [b3.cell 45 (by decide) (by decide), a3.cell 45 (by decide) (by decide)]
  rw [u45, zl_in (by omega), zs_in, zP_ret]
  refine Or.inl ⟨hf, rfl, ?_, fun s s0 s1 => ?_, ?_, fun c c0 c1 => ?_, up_eq .., zfr_upO (zFr.trans (zFr.mono (by decide) (by decide) a3) (zFr.mono (by decide) (by decide) b3)) (by decide)⟩
  · rw [up_cell _ (by decide), b3.cell 3 (by decide) (by decide)]
    exact a1
  · rw [up_cell _ (by decide), b3.cell 4 (by decide) (by decide)]
    exact a2 s s0 s1
  · rw [up_cell _ (by decide)]
    exact b1
  · rw [up_cell _ (by decide), b2 c c0 c1, a3.cell 11 (by decide) (by decide)]
theorem m_times {q : Int} (h0 : 0 ≤ S 51 43 ∧ S 51 43 ≤ 60) : M_X12_timesAdded q S = some (zsum (fun i => if S 79 i = q then 1 else 0) (S 51 43).toNat, S) := by
  refine zP_eq ?_
  unfold M_X12_timesAdded
  refine zloop2 (b := S 51 43) (fun b v T => (0 ≤ v ∧ v ≤ S 51 43) ∧ T = S ∧ b = zsum (fun i => if S 79 i = q then 1 else 0) v.toNat) (fun n b v T hJ hv => ?_) (fun n b v T hJ hv ih => ?_) _ _ _ _ ⟨⟨Int.le_refl _, h0.1⟩, rfl, rfl⟩ (zbig (by omega))
  · obtain ⟨a, rfl, e⟩ := hJ
    rw [L_X12_timesAdded_4.eq_2, if_pos hv, zP_ret, e, show v = T 51 43 by omega]
    exact ⟨rfl, rfl⟩
  · obtain ⟨a, rfl, e⟩ := hJ
    have b0 := zsum_r (f := fun i => if T 79 i = q then (1 : Int) else 0) (c := 1) a.1 (fun i _ _ => by show 0 ≤ (if T 79 i = q then (1 : Int) else 0) ∧ (if T 79 i = q then (1 : Int) else 0) ≤ 1; split <;> omega)
    have s : zsum (fun i => if T 79 i = q then (1 : Int) else 0) (v + 1).toNat = b + if T 79 v = q then 1 else 0 := by rw [zsum_n a.1, e]
    rw [L_X12_timesAdded_4.eq_2, if_neg (by omega), zg_in (by omega)]
    unfold J_X12_timesAdded_28
    by_cases g : T 79 v = q
    · rw [if_pos g, zl_in (by omega), zl_in (by omega)]
      exact ih _ _ ⟨by omega, rfl, by rw [s, if_pos g]⟩
    · rw [if_neg g, zl_in (by omega), zl_in (by omega)]
      exact ih _ _ ⟨by omega, rfl, by rw [s, if_neg g]⟩
/-- T is S but for what the class has cut -/
theorem m_undo {T : HS} (hI : iRest S) (hn : 1 ≤ S 45 6) (e : ∀ k : Nat, 51 ≤ k → T k = S k) : zP (M_X12_takeBack T) (fun x V => ((∀ j : Int, S 50 (S 45 6 - 1) ≤ j → j < S 7 11 → S 13 j ≤ 0 ∧ S 14 j = -1) → x = S 3 3 - S 49 (S 45 6 - 1) + S 7 11 - S 50 (S 45 6 - 1) ∧ (∀ s : Int, 0 ≤ s → s < 208 → V 63 s = if S 63 s ≤ S 49 (S 45 6 - 1) then S 63 s else 0) ∧ (∀ s : Int, 0 ≤ s → s < 204 → V 64 s = if S 64 s ≤ S 49 (S 45 6 - 1) then S 64 s else 0) ∧ (∀ c : Int, 0 ≤ c → c < 192 → V 68 c = if S 68 c < S 50 (S 45 6 - 1) then S 68 c else -1) ∧ V 51 22 = S 49 (S 45 6 - 1) ∧ V 51 27 = S 50 (S 45 6 - 1) ∧ V 51 34 = S 45 6 - 1 ∧ zFr [63, 64, 68] [(51, 0), (51, 22), (51, 27), (51, 34)] T V) ∧ ((∃ j : Int, S 50 (S 45 6 - 1) ≤ j ∧ j < S 7 11 ∧ ¬ (S 13 j ≤ 0 ∧ S 14 j = -1)) → x = -1 ∧ V = up T 51 0 0)) := by
  obtain ⟨iL, iT, iW, iP, iR, iM, iA, iG, iC⟩ := hI
  have hR := iR.c
  have g := iG.2 (S 45 6 - 1) (by omega) (by omega)
  have g0 := iG.1
  have p0 := iP.2
  have r0 := hR.1
  have a0 := iA.1
  have rr := iR.1
  have t34 : T 51 34 = S 45 6 := by rw [e 51 (by decide)]; exact g0.1
  have u34 : up T 51 0 0 51 34 = S 45 6 := t34
  have u73 : up T 51 0 0 73 = S 73 := e 73 (by decide)
  have u74 : up T 51 0 0 74 = S 74 := e 74 (by decide)
  have u72 : up T 51 0 0 72 = S 72 := e 72 (by decide)
  have u79 : up T 51 0 0 79 = S 79 := e 79 (by decide)
  have u22 : up T 51 0 0 51 22 = S 3 3 := by
    rw [up_same, if_neg (by decide), e 51 (by decide)]
    exact p0.1
  have u27 : up T 51 0 0 51 27 = S 7 11 := by
    rw [up_same, if_neg (by decide), e 51 (by decide)]
    exact rr.1
  have u43 : up T 51 0 0 51 43 = S 23 4 := by
    rw [up_same, if_neg (by decide), e 51 (by decide)]
    exact a0.1
  unfold M_X12_takeBack
  rw [zs_in, u34, if_neg (by omega), zg_in (by omega), zg_in (by omega), u73, u74, g.1, g.2.1]
  generalize hp : S 49 (S 45 6 - 1) = p at g ⊢
  generalize hr : S 50 (S 45 6 - 1) = r at g ⊢
  refine zloop (b := S 7 11) (fun v U => (r ≤ v ∧ v ≤ S 7 11) ∧ U = up T 51 0 0 ∧ ∀ j : Int, r ≤ j → j < v → S 13 j ≤ 0 ∧ S 14 j = -1) (fun n v U hJ hv => ?_) (fun n v U hJ hv ih => ?_) _ _ _ ⟨⟨Int.le_refl _, by omega⟩, rfl, fun j a b => by omega⟩ (zbig (by omega))
  · obtain ⟨a, rfl, c⟩ := hJ
    rw [L_X12_takeBack_40.eq_2, u27, if_pos hv, u22, zl_in (by omega), zP_zb]
    refine zP_mono m_forgets (fun _ V hV => ?_)
    obtain ⟨b1, b2, b3, b4, b5, b6⟩ := hV
    have v34 : V 51 34 = S 45 6 := by
      rw [b6 51 34 (by decide) (by decide)]
      exact u34
    have f63 : up T 51 0 0 63 = S 63 := e 63 (by decide)
    have f64 : up T 51 0 0 64 = S 64 := e 64 (by decide)
    have f68 : up T 51 0 0 68 = S 68 := e 68 (by decide)
    rw [f63] at b1
    rw [f64] at b2
    rw [f68] at b3
    rw [v34, zl_in (by omega), zs_in, zP_ret]
    refine ⟨fun _ => ⟨rfl, b1, b2, b3, ?_, ?_, up_eq .., ?_⟩, fun q => ?_⟩
    · rw [up_same, if_neg (by decide)]
      exact b4
    · rw [up_same, if_neg (by decide)]
      exact b5
    · refine zfr_upO (zFr.trans (zfr_upO zFr.rf (by decide)) (zFr.mono (by decide) (by decide) b6)) (by decide)
    · obtain ⟨j, j0, j1, j2⟩ := q
      exact absurd (c j j0 (by omega)) j2
  · obtain ⟨a, rfl, c⟩ := hJ
    have mv := iM.1 v (by omega) hv
    have t13 := iA.2.2.2 v (by omega) hv
    have ct : zsum (fun i => if up T 51 0 0 79 i = v then (1 : Int) else 0) (up T 51 0 0 51 43).toNat = S 13 v := by
      rw [t13, u43, u79]
      refine zsum_congr (fun i i0 i1 => ?_)
      show (if S 79 i = v then (1 : Int) else 0) = if S 24 i = v then 1 else 0
      rw [(iA.2.1 i i0 (by omega)).1.1]
    rw [L_X12_takeBack_40.eq_2, u27, if_neg (by omega), zg_in (by omega), u72, mv.2.2.2.1]
    by_cases g2 : 0 ≤ S 14 v
    · rw [if_pos g2, zP_ret]
      exact ⟨fun q => by have := (q v a.1 hv).2; omega, fun _ => ⟨rfl, rfl⟩⟩
    · rw [if_neg g2, m_times (by rw [u43]; omega), zb_some, ct]
      by_cases g3 : S 13 v ≤ 0
      · rw [if_pos g3, zl_in (by omega)]
        refine ih _ ⟨by omega, rfl, fun j j0 j1 => ?_⟩
        by_cases y : j = v
        · rw [y]
          exact ⟨g3, by omega⟩
        · exact c j j0 (by omega)
      · rw [if_neg g3, zP_ret]
        exact ⟨fun q => absurd (q v a.1 hv).1 g3, fun _ => ⟨rfl, rfl⟩⟩
set_option maxHeartbeats 1000000 in
theorem ok_4 (hI : Inv S) : OK_4 Inv S := by
  obtain ⟨hW, iL, iT, iW, iP, iR, iM, iA, iG, iC, iE, iK, iB⟩ := id hI
  have k0 : iAll (up S 51 0 0) := iAll_thr hI.2 0
  have rest := hI.2.rest
  have hR := iR.c
  show ∃ (r : Int) (S1 S2 : HS), M_X11_takeBack S = some (r, S1) ∧ WR shF S1 ∧ M_X12_takeBack S1 = some (r, S2) ∧ Inv S2
  refine zcallQ hW (W_M_X11_takeBack hW) (fun T w => W_M_X12_takeBack w) ?_
  by_cases g : S 45 6 ≤ 0
  · have e0 : up S 51 0 0 51 34 = 0 := by
      rw [up_same, if_neg (by decide)]
      have := iG.1
      omega
    unfold M_X11_takeBack M_X4_undoLatest
    rw [if_pos g, zb_some, if_pos rfl, zP_ret]
    intro _
    unfold M_X12_takeBack
    rw [zs_in, if_pos e0, zP_ret]
    exact ⟨rfl, k0⟩
  · have hn : 1 ≤ S 45 6 := by omega
    have gg := iG.2 (S 45 6 - 1) (by omega) (by omega)
    have gp := iG.1
    have pp := iP.2
    unfold M_X11_takeBack
    rw [zP_zb]
    refine zP_mono (zP_W (W_M_X4_undoLatest hW) (e_undo rest hn)) (fun x T hT => ?_)
    obtain ⟨hT, -, wT, -⟩ := hT
    rcases hT with ⟨hf, rfl, t3, t4, t7, t11, t45, fT⟩ | ⟨hx, rfl, rfl⟩
    · rw [if_neg (by omega), zP_zb]
      have c2 : T 2 = S 2 := fT.cell 2 (by decide) (by decide)
      have c8 : T 8 = S 8 := fT.cell 8 (by decide) (by decide)
      have c9 : T 9 = S 9 := fT.cell 9 (by decide) (by decide)
      have c10 : T 10 = S 10 := fT.cell 10 (by decide) (by decide)
      have c12 : T 12 = S 12 := fT.cell 12 (by decide) (by decide)
      have cT : cel T = cel S := by
        funext a b
        unfold cel
        rw [c8, c9]
      have RT : cRow T := by
        refine ⟨?_, fun q q0 q1 => ?_, fun q k q0 q1 h0 h1 => ?_, fun c h0 h1 => ?_⟩
        · rw [t7, c9]
          have := hR.1
          exact ⟨by omega, by omega, fun z => hR.1.2.2 (by omega)⟩
        · rw [t7] at q1 ⊢
          rw [c10, c9]
          have y := hR.2.1 q q0 (by omega)
          exact ⟨y.1, y.2.1, y.2.2.1, fun z => y.2.2.2 (by omega)⟩
        · rw [t7] at q1
          rw [c10] at h1
          have y := hR.2.2.1 q k q0 (by omega) h0 h1
          have z := hR.2.1 q q0 (by omega)
          rw [cT, c2, t11 _ y.1 y.2.1, if_pos (by omega)]
          exact y
        · rw [t11 c h0 h1, t7, c10, cT]
          by_cases y : S 11 c < 200 * S 50 (S 45 6 - 1)
          · rw [if_pos y]
            rcases hR.2.2.2 c h0 h1 with z | ⟨q, k, x1, x2, x3, x4, x5, x6⟩
            · exact Or.inl z
            · exact Or.inr ⟨q, k, x1, by omega, x3, x4, x5, x6⟩
          · rw [if_neg y]
            exact Or.inl rfl
      have HT : cHair T := fun c h0 h1 => by
        rw [c2]
        exact (iP.1.1 c h0 h1).2
      refine zP_mono (e_settle11 wT RT HT (fun c h0 h1 => by rw [c12]; exact add_r2 iA h0 h1)) (fun _ U hU => ?_)
      obtain ⟨⟨u1, u2, u3⟩, -, hm⟩ := hU
      rw [zP_ret]
      intro _
      have uk : ∀ k : Nat, ¬ ((17 ≤ k ∧ k ≤ 22) ∨ (29 ≤ k ∧ k ≤ 31)) → U k = T k := by
        intro k hk
        funext i
        have e := congrFun (congrFun hm k) i
        unfold msk at e
        rw [if_neg hk, if_neg hk] at e
        exact e
      have ue : ∀ k : Nat, 51 ≤ k → U k = S k := fun k hk => by
        rw [uk k (by omega)]
        funext i
        exact fT k i (by simp; omega) (by simp; omega)
      refine zP_mono (m_undo (T := U) rest hn ue) (fun y V hV => ?_)
      obtain ⟨rfl, v63, v64, v68, v22, v27, v34, fV⟩ := hV.1 hf
      refine ⟨rfl, ?_⟩
      have vk : ∀ k : Nat, k ≤ 50 → V k = U k := fun k hk => by
        funext i
        exact fV k i (by simp; omega) (by simp; omega)
      have vt : ∀ k : Nat, k ≤ 50 → ¬ ((17 ≤ k ∧ k ≤ 22) ∨ (29 ≤ k ∧ k ≤ 31)) → V k = T k := fun k h1 h2 => (vk k h1).trans (uk k h2)
      refine iAll_mk (iRest_msk (S := mix S V) ?_ ?_) ?_ ?_ ?_
      · have z : ∀ k : Nat, ¬ ((17 ≤ k ∧ k ≤ 22) ∨ (29 ≤ k ∧ k ≤ 31)) → mix S V k = V k := fun k hk => by
          funext i
          exact if_neg hk
        have V4 : V 4 = T 4 := vt 4 (by decide) (by decide)
        have V11 : V 11 = T 11 := vt 11 (by decide) (by decide)
        have V3 : V 3 = T 3 := vt 3 (by decide) (by decide)
        have V7 : V 7 = T 7 := vt 7 (by decide) (by decide)
        have V45 : V 45 = T 45 := vt 45 (by decide) (by decide)
        have V49 : V 49 = S 49 := (vt 49 (by decide) (by decide)).trans (fT.cell 49 (by decide) (by decide))
        have V50 : V 50 = S 50 := (vt 50 (by decide) (by decide)).trans (fT.cell 50 (by decide) (by decide))
        have V73 : V 73 = S 73 := (fV.cell 73 (by decide) (by decide)).trans (ue 73 (by decide))
        have V74 : V 74 = S 74 := (fV.cell 74 (by decide) (by decide)).trans (ue 74 (by decide))
        obtain ⟨r1, r2, r3, r4, r5, r6, r7, r8⟩ := cut_rest (S := S) (V := mix S V) (p := S 49 (S 45 6 - 1)) (r := S 50 (S 45 6 - 1)) rest (by omega) (by omega) hf (by rw [z 3 (by decide), V3]; exact t3) (fun s s0 s1 => by rw [z 4 (by decide), V4]; exact t4 s s0 s1) (by rw [z 7 (by decide), V7]; exact t7) (fun c c0 c1 => by rw [z 11 (by decide), V11]; exact t11 c c0 c1) (fun s s0 s1 => by rw [z 63 (by decide)]; exact v63 s s0 s1) (fun s s0 s1 => by rw [z 64 (by decide)]; exact v64 s s0 s1) (fun c c0 c1 => by rw [z 68 (by decide)]; exact v68 c c0 c1) (by rw [z 51 (by decide)]; exact v22) (by rw [z 51 (by decide)]; exact v27) (fun k x1 x2 x3 x4 x5 x6 x7 x8 x9 => by
          funext i
          show (if (17 ≤ k ∧ k ≤ 22) ∨ (29 ≤ k ∧ k ≤ 31) then S k i else V k i) = S k i
          by_cases q : (17 ≤ k ∧ k ≤ 22) ∨ (29 ≤ k ∧ k ≤ 31)
          · rw [if_pos q]
          · rw [if_neg q]
            by_cases q2 : k ≤ 50
            · rw [vt k q2 q]
              exact fT k i (by simp; omega) (by simp; omega)
            · rw [fV k i (by simp; omega) (by simp; omega), ue k (by omega)]) (by rw [z 7 (by decide), V7]; exact fT 7 12 (by decide) (by decide)) (fun i hi => by
          rw [z 51 (by decide), fV 51 i (by decide) (by rcases hi with rfl | rfl | rfl | rfl | rfl <;> decide), ue 51 (by decide)])
        refine ⟨r1, r2, r3, r4, r5, r6, r7, ?_, r8⟩
        unfold iProg
        rw [z 51 (by decide), z 45 (by decide), z 3 (by decide), z 7 (by decide), z 73 (by decide), z 74 (by decide), z 49 (by decide), z 50 (by decide), V45, V3, V7, V49, V50, V73, V74, v34, t45, t3, t7]
        refine ⟨⟨rfl, by omega, by omega⟩, fun i i0 i1 => ?_⟩
        have y := iG.2 i i0 (by omega)
        have w := gg.2.2.2.2.2.2.2 i i0 (by omega)
        exact ⟨y.1, y.2.1, y.2.2.1, w.1, y.2.2.2.2.1, w.2, y.2.2.2.2.2.2⟩
      · funext k i
        unfold msk mix
        by_cases q : (17 ≤ k ∧ k ≤ 22) ∨ (29 ≤ k ∧ k ≤ 31)
        · rw [if_pos q, if_pos q]
        · rw [if_neg q, if_neg q, if_neg q]
      · unfold iReg at u1 ⊢
        rw [vk 2 (by decide), vk 4 (by decide), vk 18 (by decide), vk 17 (by decide)]
        exact u1
      · unfold iTak cel at u2 ⊢
        rw [vk 2 (by decide), vk 4 (by decide), vk 11 (by decide), vk 19 (by decide), vk 7 (by decide), vk 10 (by decide), vk 17 (by decide), vk 21 (by decide), vk 8 (by decide), vk 9 (by decide)]
        exact u2
      · unfold iBrd cel at u3 ⊢
        rw [vk 7 (by decide), vk 8 (by decide), vk 9 (by decide), vk 10 (by decide), vk 12 (by decide), vk 21 (by decide), vk 29 (by decide), vk 30 (by decide), vk 31 (by decide)]
        exact u3
    · rw [if_pos rfl, zP_ret]
      intro _
      refine zP_mono (m_undo (T := T) rest hn (fun _ _ => rfl)) (fun y V hV => ?_)
      obtain ⟨rfl, rfl⟩ := hV.2 hx
      exact ⟨rfl, k0⟩
end TB
