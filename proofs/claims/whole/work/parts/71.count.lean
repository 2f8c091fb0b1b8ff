/-! strand and count -/
section CO
variable {S : HS}
theorem ok_9 (hI : Inv S) : OK_9 Inv S := by
  intro q1 q2 q3 h1 h2 h3
  have iS := hI.2.s
  have iR := hI.2.2.2.2.2.1
  have hR := iR.c
  have h24 := hR.1.2.1
  by_cases d : ((0 ≤ q1 ∧ q1 < S 7 11) ∧ 0 ≤ q2 ∧ q2 < S 10 q1) ∧ 0 ≤ q3 ∧ q3 ≤ 5
  · obtain ⟨⟨⟨r0, r1⟩, k0, k1⟩, d3⟩ := d
    have hr := hR.2.1 q1 r0 r1
    have cr := cel_r hR r0 r1 k0 k1
    have gw := gW_r iS r0 r1 k0 k1
    have gp := gPu_r iS r0 r1 k0 k1
    have go := own_r iS r0 r1 k0 k1
    have ge := gEi_r (h := S 2) (c := cel S q1 q2)
    generalize hv : (if q3 = 0 then S 29 (cel S q1 q2) else if q3 = 1 then S 30 (cel S q1 q2) else if q3 = 2 then S 31 (cel S q1 q2) else if q3 = 3 then S 21 (cel S q1 q2) else if q3 = 4 then gPu S (cel S q1 q2) else gEi (S 2) (cel S q1 q2)) = v
    have vr : 0 ≤ v ∧ v ≤ 9600000 := by
      rw [← hv]
      repeat' split
      all_goals omega
    have e1 : M_X11_strand kTT q1 q2 q3 S = some (v, S) := by
      unfold M_X11_strand
      rw [e_cellIn1 hR r0 r1 k0 k1, zb_some, if_neg (by omega), if_neg (by omega), if_pos (by omega)]
      by_cases g3 : 3 ≤ q3
      · rw [if_pos g3]
        rw [if_neg (by omega), if_neg (by omega), if_neg (by omega)] at hv
        by_cases g4 : q3 = 3
        · rw [if_pos g4] at hv
          rw [if_pos g4, e_hairsBy, zb_some, if_pos cr, hv]
        · rw [if_neg g4] at hv
          rw [if_neg g4]
          by_cases g5 : q3 = 4
          · rw [if_pos g5] at hv
            rw [if_pos g5, e_pullAt iS r0 r1 k0 k1, zb_some, hv]
          · rw [if_neg g5] at hv
            rw [if_neg g5, e_isEdge cr.1 cr.2, zb_some]
            rcases ge with g | g
            · rw [if_pos g, ← hv, g]
            · rw [if_neg (by omega), ← hv, g]
      · rw [if_neg g3, e_weightAt cr.1 cr.2, zb_some, ← hv]
        by_cases g4 : q3 = 0
        · rw [if_pos g4, if_pos g4]
        · rw [if_neg g4, if_neg g4]
          by_cases g5 : q3 = 1
          · rw [if_pos g5, if_pos g5]
          · rw [if_neg g5, if_neg g5, if_pos (by omega)]
    have nT : v ≠ zT := by
      unfold zT
      omega
    have hk0 : zHk v = 0 := if_neg nT
    refine zthrow (A := mA_X12_strand) (O := mO_X12_strand) (B := rng) (m2 := fun T => M_X12_strand q1 q2 q3 T) hI e1 (by unfold rng6; omega) (fun T w => W_M_X12_strand h1 h2 h3 w) (by decide) (by decide) (by decide) (by decide) ?_
    have z : ∀ k : Nat, k ≠ 94 → zHS v S k = S k := fun k hk => funext fun i => zHS_fr hk
    generalize hT : zHS v S = T at z ⊢
    have iT : iSum T := by
      rw [← hT]
      exact (iAll_zHS hI.2).s
    have t7 : T 7 = S 7 := z 7 (by decide)
    have t10 : T 10 = S 10 := z 10 (by decide)
    have ct : cel T = cel S := by
      funext x y
      unfold cel
      rw [z 8 (by decide), z 9 (by decide)]
    show zP (M_X12_strand q1 q2 q3 T) _
    unfold M_X12_strand J_X12_strand_24
    have t69 : T 69 q1 = S 10 q1 := by rw [z 69 (by decide)]; exact iR.m.2.1 q1 r0 r1
    have t51 : T 51 27 = S 7 11 := by rw [z 51 (by decide)]; exact iR.1.1
    rw [m_isStepOf (by omega), zb_some, t69, t51, zif1 ⟨r0, r1, k0, k1⟩, if_neg (by decide), if_neg (by omega), if_neg (by omega), zs_in, if_pos (by rw [up_eq]; decide), zP_zb]
    have iU : iSum (up T 51 0 0) := iSum_thr iT 0
    have q1T : q1 < up T 51 0 0 7 11 := by
      show q1 < T 7 11
      rw [t7]
      exact r1
    have k1T : q2 < up T 51 0 0 10 q1 := by
      show q2 < T 10 q1
      rw [t10]
      exact k1
    refine zP_mono (m_braids iU r0 q1T) (fun _ U hU => ?_)
    have hU0 : U 51 0 = 0 := congrFun (hU.1 51 (by decide)) 0
    have cU : ∀ r k : Int, cel (up T 51 0 0) r k = cel S r k := fun r k => by
      show cel T r k = _
      rw [ct]
    have w := hU.2.2.1 q2 k0 k1T
    have w3 := hU.2.1 q2 k0 k1T
    have p := m_pullAt iU r0 q1T k0 k1T hU
    have u70 : U 70 (192 * q1 + q2) = cel S q1 q2 := by
      rw [hU.1 70 (by decide)]
      show T 70 (192 * q1 + q2) = _
      rw [z 70 (by decide)]
      exact iR.m.2.2.1 q1 q2 r0 r1 k0 k1
    have hRU : rHP U := rSame.hp iU.2.2.2.1.1 hU.1 (by decide)
    have u2 : U 2 = S 2 := (hU.1 2 (by decide)).trans (z 2 (by decide))
    have gpe : gPu (up T 51 0 0) (cel S q1 q2) = gPu S (cel S q1 q2) := by
      show gPu T (cel S q1 q2) = _
      unfold gPu gHi gLo
      rw [z 2 (by decide), z 29 (by decide), z 30 (by decide), z 31 (by decide)]
    rw [cU] at w w3
    have w29 : up T 51 0 0 29 = S 29 := z 29 (by decide)
    have w30 : up T 51 0 0 30 = S 30 := z 30 (by decide)
    have w31 : up T 51 0 0 31 = S 31 := z 31 (by decide)
    have w21 : up T 51 0 0 21 = S 21 := z 21 (by decide)
    rw [w29, w30, w31] at w
    rw [w21] at w3
    rw [cU, gpe] at p
    have fin : ∀ b : Int, b = v → b = v ∧ U 51 0 = zHk v → (U 51 0 = zHk v ∧ (v ≠ zT → b = v)) := fun b e h => ⟨h.2, fun _ => e⟩
    by_cases g3 : 3 ≤ q3
    · rw [if_pos g3]
      rw [if_neg (by omega), if_neg (by omega), if_neg (by omega)] at hv
      by_cases g4 : q3 = 3
      · rw [if_pos g4] at hv
        rw [if_pos g4, zg_in (by omega), zP_ret, w3, hU0, hk0]
        exact ⟨rfl, fun _ => hv⟩
      · rw [if_neg g4] at hv
        rw [if_neg g4]
        by_cases g5 : q3 = 4
        · rw [if_pos g5] at hv
          rw [if_pos g5, p, zb_some, zP_ret, hU0, hk0]
          exact ⟨rfl, fun _ => hv⟩
        · rw [if_neg g5] at hv
          rw [if_neg g5, zg_in (by omega), u70, m_isEdge hRU cr.1 cr.2, zb_some, u2]
          rcases ge with g | g
          · rw [if_pos g, zP_ret, hU0, hk0]
            exact ⟨rfl, fun _ => by omega⟩
          · rw [if_neg (by omega), zP_ret, hU0, hk0]
            exact ⟨rfl, fun _ => by omega⟩
    · rw [if_neg g3, zg_in (by omega), zP_ret, hU0, hk0]
      refine ⟨rfl, fun _ => ?_⟩
      rw [← hv]
      have e3 : q3 = 0 ∨ q3 = 1 ∨ q3 = 2 := by omega
      rcases e3 with rfl | rfl | rfl
      · rw [if_pos rfl, Int.add_zero]
        exact w.1
      · rw [if_neg (by decide), if_pos rfl]
        exact w.2.1
      · rw [if_neg (by decide), if_neg (by decide), if_pos rfl]
        exact w.2.2
  · have e1 : M_X11_strand kTT q1 q2 q3 S = some (zT, S) := by
      unfold M_X11_strand J_X11_strand_26
      rw [e_cellIn hR, zb_some]
      by_cases a : (0 ≤ q1 ∧ q1 < S 7 11) ∧ 0 ≤ q2 ∧ q2 < S 10 q1
      · have cr := cel_r hR a.1.1 a.1.2 a.2.1 a.2.2
        rw [if_pos a, if_neg (by omega)]
        by_cases b : q3 < 0
        · rw [if_pos b]
          rfl
        · rw [if_neg b, if_neg (by omega)]
          rfl
      · rw [if_neg a, if_pos rfl]
        rfl
    refine zthrow (A := mA_X12_strand) (O := mO_X12_strand) (B := rng) (m2 := fun T => M_X12_strand q1 q2 q3 T) hI e1 (by unfold rng6 zT; omega) (fun T w => W_M_X12_strand h1 h2 h3 w) (by decide) (by decide) (by decide) (by decide) ?_
    have hz : zHS zT S = S := if_pos rfl
    show zP (M_X12_strand q1 q2 q3 (zHS zT S)) _
    rw [hz]
    have hk1 : zHk zT = 1 := if_pos rfl
    have fin : zP (J_X12_strand_23 q1 q2 q3 S) (fun b T => T 51 0 = zHk zT ∧ (zT ≠ zT → b = zT)) := by
      unfold J_X12_strand_23 J_X12_strand_24
      rw [zs_in, if_neg (by rw [up_eq]; decide), zP_ret, up_eq, hk1]
      exact ⟨rfl, fun k => absurd rfl k⟩
    unfold M_X12_strand
    rw [m_isStepOf (by have := iR.1.1; omega), zb_some]
    by_cases a : 0 ≤ q1 ∧ q1 < S 51 27 ∧ 0 ≤ q2 ∧ q2 < S 69 q1
    · rw [zif1 a, if_neg (by decide)]
      have e27 := iR.1.1
      have e69 := iR.m.2.1 q1 a.1 (by omega)
      by_cases b : q3 < 0
      · rw [if_pos b]
        exact fin
      · rw [if_neg b, if_pos (by omega)]
        exact fin
    · rw [zif0 a, if_pos rfl]
      exact fin
/-! count -/
def gUi (h pl tk : Int → Int) (c : Int) : Int := if gSrt h pl tk c ≠ gSrt h pl tk (c - 2 * (c % 16) + 16 - 1) then 1 else 0
theorem gUi_of {h pl tk : Int → Int} {c v : Int} (h1 : v = 0 ∨ v = 1) (h2 : v = 1 ↔ gUnl h pl tk c) : v = gUi h pl tk c := by
  unfold gUi
  unfold gUnl at h2
  split
  · exact h2.mpr ‹_›
  · rcases h1 with e | e
    · exact e
    · exact absurd (h2.mp e) ‹_›
def gPr (S : HS) (c : Int) : Int := if c % 16 < 8 then gUi (S 2) (S 11) (S 19) c else 0
theorem gPr_r {c : Int} : gPr S c = 0 ∨ gPr S c = 1 := by
  unfold gPr gUi
  repeat' split
  all_goals omega
theorem zsum_n {f : Int → Int} {v : Int} (h : 0 ≤ v) : zsum f (v + 1).toNat = zsum f v.toNat + f v := by
  rw [show (v + 1).toNat = v.toNat + 1 by omega, zsum_s, Int.toNat_of_nonneg h]
theorem zsum_r {f : Int → Int} {v c : Int} (h0 : 0 ≤ v) (h : ∀ i : Int, 0 ≤ i → i < v → 0 ≤ f i ∧ f i ≤ c) : 0 ≤ zsum f v.toNat ∧ zsum f v.toNat ≤ c * v := by
  have := zsum_bd (f := f) (n := v.toNat) (c := c) (fun i i0 i1 => h i i0 (by omega))
  rw [Int.toNat_of_nonneg h0] at this
  exact this
theorem e_unlikePairs (hI : iAll S) : M_X11_unlikePairs S = some (zsum (gPr S) 192, S) := by
  refine zP_eq ?_
  unfold M_X11_unlikePairs
  refine zloop2 (b := 192) (fun b v T => (0 ≤ v ∧ v ≤ 192) ∧ T = S ∧ b = zsum (gPr S) v.toNat) (fun n b v T hJ hv => ?_) (fun n b v T hJ hv ih => ?_) _ _ _ _ ⟨⟨Int.le_refl _, by decide⟩, rfl, rfl⟩ (zbig (by decide))
  · obtain ⟨a, rfl, e⟩ := hJ
    rw [L_X11_unlikePairs_4.eq_2, if_pos hv, zP_ret, e, show v = 192 by omega]
    exact ⟨rfl, rfl⟩
  · obtain ⟨a, rfl, e⟩ := hJ
    have br := zsum_r (f := gPr T) (c := 1) a.1 (fun i _ _ => by have := gPr_r (S := T) (c := i); omega)
    obtain ⟨u, u1, u2, u3⟩ := e_isUnlike hI a.1 hv
    have ue := gUi_of u2 u3
    rw [L_X11_unlikePairs_4.eq_2, if_neg (by omega), zg_in (by omega), zl_in (by omega)]
    unfold J_X11_unlikePairs_31
    by_cases g : 8 ≤ v % 16
    · rw [if_pos g, zl_in (by omega)]
      refine ih _ _ ⟨by omega, rfl, ?_⟩
      rw [zsum_n a.1, e]
      unfold gPr
      rw [if_neg (by omega), Int.add_zero]
    · have ge : gPr T v = u := by
        unfold gPr
        rw [if_pos (by omega), ue]
      rw [if_neg g, u1, zb_some]
      by_cases g2 : u = 0
      · rw [if_pos g2, zl_in (by omega)]
        exact ih _ _ ⟨by omega, rfl, by rw [zsum_n a.1, e, ge, g2, Int.add_zero]⟩
      · rw [if_neg g2, zl_in (by omega), zl_in (by omega)]
        exact ih _ _ ⟨by omega, rfl, by rw [zsum_n a.1, e, ge]; omega⟩
theorem m_cells4 (hI : iAll S) : zP (M_X12_cellsThat 4 S) (fun b _ => b = zsum (gPr S) 192) := by
  unfold M_X12_cellsThat
  rw [zP_zb]
  refine zP_mono (m_findTaken' hI.s) (fun _ U hU => ?_)
  obtain ⟨⟨hs, -, -⟩, hk⟩ := hU
  have s67 : U 67 = S 67 := hs 67 (by decide)
  have s68 : U 68 = S 68 := hs 68 (by decide)
  refine zloop2 (b := 192) (fun b v T => (0 ≤ v ∧ v ≤ 192) ∧ T = U ∧ b = zsum (gPr S) v.toNat) (fun n b v T hJ hv => ?_) (fun n b v T hJ hv ih => ?_) _ _ _ _ ⟨⟨Int.le_refl _, by decide⟩, rfl, rfl⟩ (zbig (by decide))
  · obtain ⟨a, rfl, e⟩ := hJ
    rw [L_X12_cellsThat_8.eq_2, if_pos hv, zP_ret, e, show v = 192 by omega]
    rfl
  · obtain ⟨a, rfl, e⟩ := hJ
    have br := zsum_r (f := gPr S) (c := 1) a.1 (fun i _ _ => by have := gPr_r (S := S) (c := i); omega)
    obtain ⟨u, u1, u2, u3⟩ := m_isUnlike (T := T) hI s67 s68 (fun c a b => (hk c a b).1) a.1 hv
    have ue := gUi_of u2 u3
    rw [L_X12_cellsThat_8.eq_2, if_neg (by omega), if_neg (by decide), if_pos rfl, zg_in (by omega), zl_in (by omega)]
    unfold J_X12_cellsThat_78 J_X12_cellsThat_79 J_X12_cellsThat_106
    by_cases g : 8 ≤ v % 16
    · rw [if_pos g, zl_in (by omega), zl_in (by omega)]
      refine ih _ _ ⟨by omega, rfl, ?_⟩
      rw [zsum_n a.1, e]
      unfold gPr
      rw [if_neg (by omega)]
    · have ge : gPr S v = u := by
        unfold gPr
        rw [if_pos (by omega), ue]
      rw [if_neg g, u1, zb_some]
      by_cases g2 : u = 0
      · rw [if_pos g2, zl_in (by omega), zl_in (by omega)]
        exact ih _ _ ⟨by omega, rfl, by rw [zsum_n a.1, e, ge, g2]⟩
      · rw [if_neg g2, zl_in (by omega), zl_in (by omega)]
        exact ih _ _ ⟨by omega, rfl, by rw [zsum_n a.1, e, ge]; omega⟩
theorem m_cells3 (hI : iAll S) : zP (M_X12_cellsThat 3 S) (fun b _ => b = zsum (fun c => if S 19 c = -2 then 1 else 0) 192) := by
  have iP := hI.2.2.2.1
  unfold M_X12_cellsThat
  rw [zP_zb]
  refine zP_mono (m_findTaken' hI.s) (fun _ U hU => ?_)
  obtain ⟨⟨hs, -, -⟩, hk⟩ := hU
  have s67 : U 67 = S 67 := hs 67 (by decide)
  refine zloop2 (b := 192) (fun b v T => (0 ≤ v ∧ v ≤ 192) ∧ T = U ∧ b = zsum (fun c => if S 19 c = -2 then 1 else 0) v.toNat) (fun n b v T hJ hv => ?_) (fun n b v T hJ hv ih => ?_) _ _ _ _ ⟨⟨Int.le_refl _, by decide⟩, rfl, rfl⟩ (zbig (by decide))
  · obtain ⟨a, rfl, e⟩ := hJ
    rw [L_X12_cellsThat_8.eq_2, if_pos hv, zP_ret, e, show v = 192 by omega]
    rfl
  · obtain ⟨a, rfl, e⟩ := hJ
    have br := zsum_r (f := fun c => if S 19 c = -2 then (1 : Int) else 0) (c := 1) a.1 (fun i _ _ => by show 0 ≤ (if S 19 i = -2 then (1 : Int) else 0) ∧ (if S 19 i = -2 then (1 : Int) else 0) ≤ 1; split <;> omega)
    have hh := iP.1.1 v a.1 hv
    have kv := hk v a.1 hv
    have s : zsum (fun c => if S 19 c = -2 then (1 : Int) else 0) (v + 1).toNat = b + if S 19 v = -2 then 1 else 0 := by rw [zsum_n a.1, e]
    rw [L_X12_cellsThat_8.eq_2, if_neg (by omega), if_pos rfl, zg_in (by omega), s67]
    unfold J_X12_cellsThat_45 J_X12_cellsThat_46 J_X12_cellsThat_106
    by_cases g : S 67 v < 0
    · have := kv.2 (by omega)
      rw [if_pos g, zl_in (by omega), zl_in (by omega)]
      exact ih _ _ ⟨by omega, rfl, by rw [s, if_neg (by omega)]⟩
    · have := kv.1 (by omega)
      rw [if_neg g, zg_in (by omega), this]
      by_cases g2 : S 19 v = -2
      · rw [if_pos g2, zl_in (by omega), zl_in (by omega)]
        exact ih _ _ ⟨by omega, rfl, by rw [s, if_pos g2]⟩
      · rw [if_neg g2, zl_in (by omega), zl_in (by omega)]
        exact ih _ _ ⟨by omega, rfl, by rw [s, if_neg g2]⟩
theorem m_cells5 (hI : iAll S) : zP (M_X12_cellsThat 5 S) (fun b _ => b = zsum (fun c => max 0 (S 2 c)) 192) := by
  have iP := hI.2.2.2.1
  unfold M_X12_cellsThat
  rw [zP_zb]
  refine zP_mono (m_findTaken' hI.s) (fun _ U hU => ?_)
  obtain ⟨⟨hs, -, -⟩, hk⟩ := hU
  have s67 : U 67 = S 67 := hs 67 (by decide)
  refine zloop2 (b := 192) (fun b v T => (0 ≤ v ∧ v ≤ 192) ∧ T = U ∧ b = zsum (fun c => max 0 (S 2 c)) v.toNat) (fun n b v T hJ hv => ?_) (fun n b v T hJ hv ih => ?_) _ _ _ _ ⟨⟨Int.le_refl _, by decide⟩, rfl, rfl⟩ (zbig (by decide))
  · obtain ⟨a, rfl, e⟩ := hJ
    rw [L_X12_cellsThat_8.eq_2, if_pos hv, zP_ret, e, show v = 192 by omega]
    rfl
  · obtain ⟨a, rfl, e⟩ := hJ
    have br := zsum_r (f := fun c => max 0 (S 2 c)) (c := 99) a.1 (fun i i0 i1 => by
      have := iP.1.1 i i0 (by omega)
      show 0 ≤ max 0 (S 2 i) ∧ max 0 (S 2 i) ≤ 99
      omega)
    have hh := iP.1.1 v a.1 hv
    have s : zsum (fun c => max 0 (S 2 c)) (v + 1).toNat = b + max 0 (S 2 v) := by rw [zsum_n a.1, e]
    rw [L_X12_cellsThat_8.eq_2, if_neg (by omega), if_neg (by decide), if_neg (by decide), zg_in (by omega), s67]
    unfold J_X12_cellsThat_104 J_X12_cellsThat_106
    by_cases g : S 67 v ≤ 0
    · rw [if_pos g, zl_in (by omega), zl_in (by omega)]
      exact ih _ _ ⟨by omega, rfl, by rw [s]; omega⟩
    · rw [if_neg g, zg_in (by omega), zl_in (by omega), zl_in (by omega)]
      exact ih _ _ ⟨by omega, rfl, by rw [s]; omega⟩
theorem e_allHairs (hI : iAll S) : M_X2_allHairs S = some (zsum (fun c => max 0 (S 2 c)) 192, S) := by
  have iP := hI.2.2.2.1
  refine zP_eq ?_
  unfold M_X2_allHairs
  refine zloop2 (b := 192) (fun b v T => (0 ≤ v ∧ v ≤ 192) ∧ T = S ∧ b = zsum (fun c => max 0 (S 2 c)) v.toNat) (fun n b v T hJ hv => ?_) (fun n b v T hJ hv ih => ?_) _ _ _ _ ⟨⟨Int.le_refl _, by decide⟩, rfl, rfl⟩ (zbig (by decide))
  · obtain ⟨a, rfl, e⟩ := hJ
    rw [L_X2_allHairs_13.eq_2, if_pos hv, zP_ret, e, show v = 192 by omega]
    exact ⟨rfl, rfl⟩
  · obtain ⟨a, rfl, e⟩ := hJ
    have br := zsum_r (f := fun c => max 0 (T 2 c)) (c := 99) a.1 (fun i i0 i1 => by
      have := iP.1.1 i i0 (by omega)
      show 0 ≤ max 0 (T 2 i) ∧ max 0 (T 2 i) ≤ 99
      omega)
    have hh := iP.1.1 v a.1 hv
    rw [L_X2_allHairs_13.eq_2, if_neg (by omega), zg_in (by omega), zl_in (by omega), zl_in (by omega)]
    exact ih _ _ ⟨by omega, rfl, by rw [zsum_n a.1, e]⟩
def gLw (S : HS) (r : Int) : Int := gWs S (cel S r (S 10 r - 1))
theorem gLw_r (hI : iSum S) {r : Int} (r0 : 0 ≤ r) (r1 : r < S 7 11) : 0 ≤ gLw S r ∧ gLw S r ≤ 14400000 := by
  have hr := hI.2.2.2.2.1.c.2.1 r r0 r1
  have := gW_r hI r0 r1 (show 0 ≤ S 10 r - 1 by omega) (by omega)
  unfold gLw gWs
  omega
theorem e_allWeights (hI : iSum S) : M_X0_allWeights S = some (zsum (gLw S) (S 7 11).toNat, S) := by
  have h24 := hI.2.2.2.2.1.c.1
  refine zP_eq ?_
  unfold M_X0_allWeights
  refine zloop2 (b := S 7 11) (fun b v T => (0 ≤ v ∧ v ≤ S 7 11) ∧ T = S ∧ b = zsum (gLw S) v.toNat) (fun n b v T hJ hv => ?_) (fun n b v T hJ hv ih => ?_) _ _ _ _ ⟨⟨Int.le_refl _, by omega⟩, rfl, rfl⟩ (zbig (by omega))
  · obtain ⟨a, rfl, e⟩ := hJ
    rw [L_X0_allWeights_4.eq_2, if_pos hv, zP_ret, e, show v = T 7 11 by omega]
    exact ⟨rfl, rfl⟩
  · obtain ⟨a, rfl, e⟩ := hJ
    have br := zsum_r (f := gLw T) (c := 14400000) a.1 (fun i i0 i1 => gLw_r hI i0 (by omega))
    have hh := gLw_r hI a.1 hv
    rw [L_X0_allWeights_4.eq_2, if_neg (by omega), e_lastWeights hI a.1 hv, zb_some]
    show zP (zl (b + gLw T v) _) _
    rw [zl_in (by omega), zl_in (by omega)]
    exact ih _ _ ⟨by omega, rfl, by rw [zsum_n a.1, e]⟩
theorem m_allWeights (hI : iSum S) : zP (M_X12_allWeights S) (fun b _ => b = zsum (gLw S) (S 7 11).toNat) := by
  have h24 := hI.2.2.2.2.1.c.1
  have r27 := hI.2.2.2.2.1.1.1
  unfold M_X12_allWeights
  refine zloop2 (b := S 7 11) (fun b v T => (0 ≤ v ∧ v ≤ S 7 11) ∧ rSame [77, 78, 83, 84, 85, 86, 87, 88] S T ∧ b = zsum (gLw S) v.toNat) (fun n b v T hJ hv => ?_) (fun n b v T hJ hv ih => ?_) _ _ _ _ ⟨⟨Int.le_refl _, by omega⟩, fun _ _ => rfl, rfl⟩ (zbig (by omega))
  · obtain ⟨a, hs, e⟩ := hJ
    have t51 : T 51 27 = S 7 11 := (congrFun (hs 51 (by decide)) 27).trans r27
    rw [L_X12_allWeights_4.eq_2, if_pos (by omega), zP_ret, e, show v = S 7 11 by omega]
  · obtain ⟨a, hs, e⟩ := hJ
    have t51 : T 51 27 = S 7 11 := (congrFun (hs 51 (by decide)) 27).trans r27
    have br := zsum_r (f := gLw S) (c := 14400000) a.1 (fun i i0 i1 => gLw_r hI i0 (by omega))
    have hh := gLw_r hI a.1 hv
    have IT : iSum T := rSame.all hI hs (by decide)
    have t7 : T 7 = S 7 := hs 7 (by decide)
    rw [L_X12_allWeights_4.eq_2, if_neg (by omega), zP_zb]
    refine zP_mono (m_lastWeights IT a.1 (by rw [t7]; exact hv)) (fun c U hU => ?_)
    have ec : c = gLw S v := by
      rw [hU.1]
      unfold gLw gWs cel
      rw [hs 8 (by decide), hs 9 (by decide), hs 10 (by decide), hs 29 (by decide), hs 30 (by decide), hs 31 (by decide)]
    rw [ec, zl_in (by omega), zl_in (by omega)]
    exact ih _ _ ⟨by omega, hs.trans hU.2, by rw [zsum_n a.1, e]⟩
theorem ok_25 (hI : Inv S) : OK_25 Inv S := by
  intro q hq
  obtain ⟨hW, iL, iT, iW, iP, iR, iM, iA, iG, iC, iE, iK, iB⟩ := id hI
  have w2 := W_M_X12_count hq hI.1
  have iU := iAll_thr hI.2 0
  have go : ∀ v : Int, M_X11_count q S = some (v, S) → zP (M_X12_count q S) (fun r' _ => r' = v) → ∃ (r : Int) (S1 S2 : HS), M_X11_count q S = some (r, S1) ∧ WR shF S1 ∧ M_X12_count q S1 = some (r, S2) ∧ Inv S2 := fun v e1 e2 => zfin (m2 := fun T => M_X12_count q T) hI e1 w2 (by decide) (by decide) e2
  unfold M_X12_count M_X11_count at go
  simp only [zP_zs] at go
  unfold M_X12_count M_X11_count
  by_cases h0 : q = 0
  · refine go (S 3 3) ?_ ?_
    · rw [if_pos h0]
    · rw [if_pos h0, zP_ret]
      exact iP.2.1
  by_cases h1 : q = 1
  · refine go (S 7 11) ?_ ?_
    · rw [if_neg h0, if_pos h1]
    · rw [if_neg h0, if_pos h1, zP_ret]
      exact iR.1.1
  by_cases h2 : q = 2
  · refine go (S 17 9) ?_ ?_
    · rw [if_neg h0, if_neg h1, if_pos h2]
    · rw [if_neg h0, if_neg h1, if_pos h2, zP_zb]
      refine zP_mono (m_findRegions (S := up S 51 0 0) iP.1) (fun b T hT => ?_)
      rw [zP_ret, hT.2, iE.2]
      unfold rcn
      refine zsum_congr (fun c c0 c1 => ?_)
      show (if T 75 c = c then (1 : Int) else 0) = if S 18 c = c then 1 else 0
      rw [gReg_eq (h := S 2) (p := S 4) hT.1 iE.1 c0 c1]
  by_cases h3 : q = 3
  · refine go (S 17 10) ?_ ?_
    · rw [if_neg h0, if_neg h1, if_neg h2, if_pos h3]
    · rw [if_neg h0, if_neg h1, if_neg h2, if_pos h3, zP_zb, h3]
      refine zP_mono (m_cells3 iU) (fun b T hT => ?_)
      rw [zP_ret, hT]
      exact iK.2.2.1.symm
  by_cases h4 : q = 4
  · refine go (zsum (gPr S) 192) ?_ ?_
    · rw [if_neg h0, if_neg h1, if_neg h2, if_neg h3, if_pos h4, e_unlikePairs hI.2, zb_some]
    · rw [if_neg h0, if_neg h1, if_neg h2, if_neg h3, if_pos h4, zP_zb, h4]
      refine zP_mono (m_cells4 iU) (fun b T hT => ?_)
      rw [zP_ret, hT]
      rfl
  by_cases h5 : q = 5
  · refine go (zsum (fun c => max 0 (S 2 c)) 192) ?_ ?_
    · rw [if_neg h0, if_neg h1, if_neg h2, if_neg h3, if_neg h4, if_pos h5, e_allHairs hI.2, zb_some]
    · rw [if_neg h0, if_neg h1, if_neg h2, if_neg h3, if_neg h4, if_pos h5, zP_zb, h5]
      refine zP_mono (m_cells5 iU) (fun b T hT => ?_)
      rw [zP_ret, hT]
      rfl
  by_cases h6 : q = 6
  · refine go (zsum (gLw S) (S 7 11).toNat) ?_ ?_
    · rw [if_neg h0, if_neg h1, if_neg h2, if_neg h3, if_neg h4, if_neg h5, if_pos h6, e_allWeights hI.2.s, zb_some]
    · rw [if_neg h0, if_neg h1, if_neg h2, if_neg h3, if_neg h4, if_neg h5, if_pos h6, zP_zb]
      refine zP_mono (m_allWeights iU.s) (fun b T hT => ?_)
      rw [zP_ret, hT]
      rfl
  by_cases h7 : q = 7
  · refine go (S 7 12) ?_ ?_
    · rw [if_neg h0, if_neg h1, if_neg h2, if_neg h3, if_neg h4, if_neg h5, if_neg h6, if_pos h7]
    · rw [if_neg h0, if_neg h1, if_neg h2, if_neg h3, if_neg h4, if_neg h5, if_neg h6, if_pos h7, zP_ret]
      exact iM.2.1
  by_cases h8 : q = 8
  · refine go (S 45 6) ?_ ?_
    · rw [if_neg h0, if_neg h1, if_neg h2, if_neg h3, if_neg h4, if_neg h5, if_neg h6, if_neg h7, if_pos h8]
    · rw [if_neg h0, if_neg h1, if_neg h2, if_neg h3, if_neg h4, if_neg h5, if_neg h6, if_neg h7, if_pos h8, zP_ret]
      exact iG.1.1
  by_cases h9 : q = 9
  · refine go (S 1 2) ?_ ?_
    · rw [if_neg h0, if_neg h1, if_neg h2, if_neg h3, if_neg h4, if_neg h5, if_neg h6, if_neg h7, if_neg h8, if_pos h9]
    · rw [if_neg h0, if_neg h1, if_neg h2, if_neg h3, if_neg h4, if_neg h5, if_neg h6, if_neg h7, if_neg h8, if_pos h9, zP_ret]
      exact iL.2.2.2.1
  by_cases h10 : q = 10
  · refine go (S 1 1) ?_ ?_
    · rw [if_neg h0, if_neg h1, if_neg h2, if_neg h3, if_neg h4, if_neg h5, if_neg h6, if_neg h7, if_neg h8, if_neg h9, if_pos h10]
    · rw [if_neg h0, if_neg h1, if_neg h2, if_neg h3, if_neg h4, if_neg h5, if_neg h6, if_neg h7, if_neg h8, if_neg h9, if_pos h10, zP_ret]
      exact iL.1
  by_cases h11 : q = 11
  · refine go (S 40 1) ?_ ?_
    · rw [if_neg h0, if_neg h1, if_neg h2, if_neg h3, if_neg h4, if_neg h5, if_neg h6, if_neg h7, if_neg h8, if_neg h9, if_neg h10, if_pos h11]
    · rw [if_neg h0, if_neg h1, if_neg h2, if_neg h3, if_neg h4, if_neg h5, if_neg h6, if_neg h7, if_neg h8, if_neg h9, if_neg h10, if_pos h11, zP_ret]
      exact iT.1
  by_cases h12 : q = 12
  · refine go (S 23 4) ?_ ?_
    · rw [if_neg h0, if_neg h1, if_neg h2, if_neg h3, if_neg h4, if_neg h5, if_neg h6, if_neg h7, if_neg h8, if_neg h9, if_neg h10, if_neg h11, if_pos h12]
    · rw [if_neg h0, if_neg h1, if_neg h2, if_neg h3, if_neg h4, if_neg h5, if_neg h6, if_neg h7, if_neg h8, if_neg h9, if_neg h10, if_neg h11, if_pos h12, zP_ret]
      exact iA.1.1
  · refine go (-1) ?_ ?_
    · rw [if_neg h0, if_neg h1, if_neg h2, if_neg h3, if_neg h4, if_neg h5, if_neg h6, if_neg h7, if_neg h8, if_neg h9, if_neg h10, if_neg h11, if_neg h12]
    · rw [if_neg h0, if_neg h1, if_neg h2, if_neg h3, if_neg h4, if_neg h5, if_neg h6, if_neg h7, if_neg h8, if_neg h9, if_neg h10, if_neg h11, if_neg h12, zP_ret]
end CO
