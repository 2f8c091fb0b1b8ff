/-! braids: what the reference sums -/
section M1
variable {S : HS}
theorem rSame.fr {L : List Nat} {S T : HS} (h : rSame L S T) : zFr L [] S T := fun k i a _ => congrFun (h k a) i
theorem rSame.all {L : List Nat} {S T : HS} (hI : iSum S) (h : rSame L S T) (hL : (L.all fun k => !(cArr.contains k) && cFld.all fun q => q.1 != k) = true) : iSum T := iSum_fr hI hL (by decide) h.fr
theorem rSame.alla {L : List Nat} {S T : HS} (hI : iAll S) (h : rSame L S T) (hL : (L.all fun k => !(cArr.contains k) && cFld.all fun q => q.1 != k) = true) : iAll T := iAll_fr hI hL (by decide) h.fr
theorem rSame.trans {L : List Nat} {S T U : HS} (h : rSame L S T) (h' : rSame L T U) : rSame L S U := fun k hk => (h' k hk).trans (h k hk)
theorem rSame.mono {L L' : List Nat} {S T : HS} (h : rSame L S T) (hL : L ⊆ L') : rSame L' S T := fun k hk => h k (fun m => hk (hL m))
theorem own_r (hI : iSum S) {r k : Int} (r0 : 0 ≤ r) (r1 : r < S 7 11) (k0 : 0 ≤ k) (k1 : k < S 10 r) : 0 ≤ S 21 (cel S r k) ∧ S 21 (cel S r k) ≤ 19008 := by
  obtain ⟨iL, iT, iW, iP, iR, iM, iA, iG, iC, iE, iK, iB⟩ := hI
  rw [iK.2.2.2 r k r0 r1 k0 k1]
  have := zsum_bd (f := fun c => if S 19 c = 200 * r + k then S 2 c else 0) (n := 192) (c := 99) (fun i i0 i1 => by
    show 0 ≤ (if S 19 i = 200 * r + k then S 2 i else 0) ∧ (if S 19 i = 200 * r + k then S 2 i else 0) ≤ 99
    have a := iP.1.1 i i0 (by omega)
    have b := (iK.2.1 i i0 (by omega)).1
    split
    · by_cases g : S 2 i = -1
      · have := b g
        omega
      · omega
    · omega)
  omega
theorem add_r (hI : iSum S) {c : Int} (c0 : 0 ≤ c) (c1 : c < 192) : 0 ≤ S 12 c ∧ S 12 c ≤ 5940 := by
  obtain ⟨iL, iT, iW, iP, iR, iM, iA, iG, iC, iE, iK, iB⟩ := hI
  rw [iA.2.2.1 c c0 c1]
  have h0 := iA.1
  have := zsum_bd (f := fun i => if cel S (S 24 i) (S 25 i) = c then S 26 i else 0) (n := (S 23 4).toNat) (c := 99) (fun i i0 i1 => by
    show 0 ≤ (if cel S (S 24 i) (S 25 i) = c then S 26 i else 0) ∧ (if cel S (S 24 i) (S 25 i) = c then S 26 i else 0) ≤ 99
    have a := iA.2.1 i i0 (by omega)
    split <;> omega)
  omega
theorem gBo_of (hI : iSum S) {r : Int} (r0 : 0 ≤ r) (r1 : r < S 7 11) : gBo (cel S r) (S 21) (S 12) (S 10 r) := by
  intro k k0 k1
  have c := cel_r hI.2.2.2.2.1.c r0 r1 k0 k1
  exact ⟨own_r hI r0 r1 k0 k1, add_r hI c.1 c.2⟩
theorem m_addedAt (hI : iSum S) {r k : Int} (r0 : 0 ≤ r) (r1 : r < S 7 11) (k0 : 0 ≤ k) (k1 : k < S 10 r) : M_X12_addedAt r k S = some (S 12 (cel S r k), S) := by
  have key : zP (M_X12_addedAt r k S) (fun v T => v = S 12 (cel S r k) ∧ T = S) := by
    have hR := hI.2.2.2.2.1.c
    have c := cel_r hR r0 r1 k0 k1
    have iA := hI.2.2.2.2.2.2.1
    have h0 := iA.1
    have bd : ∀ v : Int, 0 ≤ v → v ≤ S 23 4 → 0 ≤ zsum (fun i => if S 79 i = r ∧ S 80 i = k then S 81 i else 0) v.toNat ∧ zsum (fun i => if S 79 i = r ∧ S 80 i = k then S 81 i else 0) v.toNat ≤ 5940 := by
      intro v v0 v1
      have := zsum_bd (f := fun i => if S 79 i = r ∧ S 80 i = k then S 81 i else 0) (n := v.toNat) (c := 99) (fun i i0 i1 => by
        show 0 ≤ (if S 79 i = r ∧ S 80 i = k then S 81 i else 0) ∧ (if S 79 i = r ∧ S 80 i = k then S 81 i else 0) ≤ 99
        have a := iA.2.1 i i0 (by omega)
        split <;> omega)
      omega
    unfold M_X12_addedAt
    refine zloop2 (b := S 23 4) (fun w v T => (0 ≤ v ∧ v ≤ S 23 4) ∧ w = zsum (fun i => if S 79 i = r ∧ S 80 i = k then S 81 i else 0) v.toNat ∧ T = S) (fun n w v T hJ hv => ?_) (fun n w v T hJ hv ih => ?_) _ _ _ _ ⟨⟨Int.le_refl _, h0.2.1⟩, rfl, rfl⟩ (zbig (by omega))
    · obtain ⟨a, b, rfl⟩ := hJ
      have e : v = T 23 4 := by omega
      rw [L_X12_addedAt_5.eq_2, if_pos (by omega), zP_ret]
      refine ⟨?_, rfl⟩
      rw [b, e, iA.2.2.1 _ c.1 c.2]
      refine zsum_congr (fun i i0 i1 => ?_)
      have z := iA.2.1 i i0 (by omega)
      show (if T 79 i = r ∧ T 80 i = k then T 81 i else 0) = if cel T (T 24 i) (T 25 i) = cel T r k then T 26 i else 0
      rw [z.1.1, z.1.2.1, z.1.2.2.1]
      by_cases g : T 24 i = r ∧ T 25 i = k
      · rw [if_pos g, g.1, g.2, if_pos rfl]
      · rw [if_neg g, if_neg (fun q => g (cel_inj hR z.2.1 z.2.2.1 z.2.2.2.1 z.2.2.2.2.1 r0 r1 k0 k1 q))]
    · obtain ⟨a, b, rfl⟩ := hJ
      have b0 := bd v a.1 a.2
      have z := iA.2.1 v a.1 hv
      have s : zsum (fun i => if T 79 i = r ∧ T 80 i = k then T 81 i else 0) (v + 1).toNat = w + if T 79 v = r ∧ T 80 v = k then T 81 v else 0 := by
        rw [show (v + 1).toNat = v.toNat + 1 by omega, zsum_s, ← b]
        show w + (if T 79 (v.toNat : Int) = r ∧ T 80 (v.toNat : Int) = k then T 81 (v.toNat : Int) else 0) = _
        rw [Int.toNat_of_nonneg a.1]
      rw [L_X12_addedAt_5.eq_2, if_neg (by omega), zg_in (by omega)]
      unfold J_X12_addedAt_47 J_X12_addedAt_48
      by_cases g : T 79 v = r
      · rw [if_pos g, zg_in (by omega)]
        by_cases g2 : T 80 v = k
        · rw [if_pos g2, zg_in (by omega), zl_in (by omega), zl_in (by omega)]
          exact ih _ _ ⟨by omega, by rw [s, if_pos ⟨g, g2⟩], rfl⟩
        · rw [if_neg g2, zl_in (by omega), zl_in (by omega)]
          exact ih _ _ ⟨by omega, by rw [s, if_neg (fun q => g2 q.2)], rfl⟩
      · rw [if_neg g, zl_in (by omega), zl_in (by omega)]
        exact ih _ _ ⟨by omega, by rw [s, if_neg (fun q => g q.1)], rfl⟩
  obtain ⟨v, T, e, rfl, rfl⟩ := key
  exact e
theorem m_totals (hI : iSum S) {r : Int} (r0 : 0 ≤ r) (r1 : r < S 7 11) : zP (M_X12_findTotals r S) (fun _ T => rSame [77, 78, 83] S T ∧ ∀ k : Int, 0 ≤ k → k < S 10 r → T 83 k = S 21 (cel S r k)) := by
  have hR := hI.2.2.2.2.1.c
  have m0 := hI.2.2.2.2.1.m
  have iP := hI.2.2.2.1
  have iK := hI.2.2.2.2.2.2.2.2.2.2.1
  have h24 := hR.1.2.1
  have hr := hR.2.1 r r0 r1
  unfold M_X12_findTotals
  rw [zP_zb]
  refine zP_mono (m_findTaken' hI) (fun _ T hT => ?_)
  obtain ⟨⟨s1, -, -⟩, hk⟩ := hT
  have t69 : T 69 r = S 10 r := (congrFun (s1 69 (by decide)) r).trans (m0.2.1 r r0 r1)
  have t67 : T 67 = S 67 := s1 67 (by decide)
  refine zloop (b := S 10 r) (fun v U => (0 ≤ v ∧ v ≤ S 10 r) ∧ rSame [83] T U ∧ ∀ k : Int, 0 ≤ k → k < v → U 83 k = 0) (fun n v U hJ hv => ?_) (fun n v U hJ hv ih => ?_) _ _ _ ⟨⟨Int.le_refl _, by omega⟩, fun _ _ => rfl, fun k a b => by omega⟩ (zbig (by omega))
  · obtain ⟨a, b, c⟩ := hJ
    have u69 : U 69 r = S 10 r := (congrFun (b 69 (by decide)) r).trans t69
    have e : v = S 10 r := by omega
    subst e
    rw [L_X12_findTotals_6.eq_2, zg_in (by omega), if_pos (by omega)]
    have bd : ∀ (k v : Int), 0 ≤ k → 0 ≤ v → v ≤ 192 → 0 ≤ zsum (fun c => if S 19 c = 200 * r + k then S 2 c else 0) v.toNat ∧ zsum (fun c => if S 19 c = 200 * r + k then S 2 c else 0) v.toNat ≤ 19008 := by
      intro k v k0 v0 v1
      have := zsum_bd (f := fun c => if S 19 c = 200 * r + k then S 2 c else 0) (n := v.toNat) (c := 99) (fun i i0 i1 => by
        show 0 ≤ (if S 19 i = 200 * r + k then S 2 i else 0) ∧ (if S 19 i = 200 * r + k then S 2 i else 0) ≤ 99
        have a := iP.1.1 i i0 (by omega)
        have b := (iK.2.1 i i0 (by omega)).1
        split
        · by_cases g : S 2 i = -1
          · have := b g
            omega
          · omega
        · omega)
      omega
    refine zloop (b := 192) (fun v V => (0 ≤ v ∧ v ≤ 192) ∧ rSame [83] T V ∧ ∀ k : Int, 0 ≤ k → k < S 10 r → V 83 k = zsum (fun c => if S 19 c = 200 * r + k then S 2 c else 0) v.toNat) (fun n v V hJ hv => ?_) (fun n v V hJ hv ih => ?_) _ _ _ ⟨⟨Int.le_refl _, by decide⟩, b, fun k k0 k1 => c k k0 k1⟩ (zbig (by decide))
    · obtain ⟨a2, b2, c2⟩ := hJ
      have e : v = 192 := by omega
      subst e
      rw [L_X12_findTotals_31.eq_2, if_pos (by decide), zP_ret]
      refine ⟨fun x hx => ?_, fun k k0 k1 => ?_⟩
      · rw [b2 x (fun m => hx (by simp at m; simp [m])), s1 x (fun m => hx (by simp at m; simp; omega))]
      · rw [c2 k k0 k1, iK.2.2.2 r k r0 r1 k0 k1]
        rfl
    · obtain ⟨a2, b2, c2⟩ := hJ
      have v67 : V 67 v = S 67 v := by rw [b2 67 (by decide), t67]
      have v77 : V 77 v = T 77 v := by rw [b2 77 (by decide)]
      have hh := iP.1.1 v a2.1 hv
      have hkv := hk v a2.1 hv
      have hkt := iK.2.1 v a2.1 hv
      have sm : ∀ k : Int, zsum (fun c => if S 19 c = 200 * r + k then S 2 c else 0) (v + 1).toNat = zsum (fun c => if S 19 c = 200 * r + k then S 2 c else 0) v.toNat + if S 19 v = 200 * r + k then S 2 v else 0 := by
        intro k
        rw [show (v + 1).toNat = v.toNat + 1 by omega, zsum_s]
        show _ + (if S 19 (v.toNat : Int) = 200 * r + k then S 2 (v.toNat : Int) else 0) = _
        rw [Int.toNat_of_nonneg a2.1]
      rw [L_X12_findTotals_31.eq_2, if_neg (by omega), zg_in (by omega), v67]
      unfold J_X12_findTotals_94
      by_cases g : S 67 v < 0
      · rw [if_pos g, zl_in (by omega)]
        have g2 := hkt.1 (by omega)
        exact ih _ ⟨by omega, b2, fun k k0 k1 => by rw [sm, if_neg (by omega), Int.add_zero]; exact c2 k k0 k1⟩
      · have g2 := hkv.1 (by omega)
        rw [if_neg g, zg_in (by omega), v77, g2]
        rcases hkt.2 (by omega) with x | ⟨r', k', x1, x2, x3, x4, x5⟩
        · rw [if_pos (by omega), zl_in (by omega)]
          exact ih _ ⟨by omega, b2, fun k k0 k1 => by rw [sm, if_neg (by omega), Int.add_zero]; exact c2 k k0 k1⟩
        · have hr' := hR.2.1 r' x1 x2
          rw [if_neg (by omega), zg_in (by omega), zg_in (by omega), zl_in (by omega)]
          by_cases g3 : S 19 v / 200 = r
          · have er : r' = r := by omega
            subst er
            have b3 := bd k' v x3 a2.1 a2.2
            rw [if_pos g3, zg_in (by omega), zg_in (by omega), show S 19 v % 200 = k' by omega, zg_in (by omega), zg_in (by omega), c2 k' x3 x4, zl_in (by omega), zg_in (by omega), zs_in, zl_in (by omega)]
            refine ih _ ⟨by omega, b2.up (by decide), fun k k0 k1 => ?_⟩
            rw [up_same, sm]
            by_cases g4 : k = k'
            · rw [if_pos g4, g4, if_pos x5]
              omega
            · rw [if_neg g4, if_neg (by omega), Int.add_zero]
              exact c2 k k0 k1
          · rw [if_neg g3, zl_in (by omega)]
            exact ih _ ⟨by omega, b2, fun k k0 k1 => by rw [sm, if_neg (by omega), Int.add_zero]; exact c2 k k0 k1⟩
  · obtain ⟨a, b, c⟩ := hJ
    have u69 : U 69 r = S 10 r := (congrFun (b 69 (by decide)) r).trans t69
    rw [L_X12_findTotals_6.eq_2, zg_in (by omega), if_neg (by omega), zg_in (by omega), zs_in, zl_in (by omega)]
    refine ih _ ⟨by omega, b.up (by decide), fun k k0 k1 => ?_⟩
    rw [up_same]
    split
    · rfl
    · exact c k k0 (by omega)
end M1
