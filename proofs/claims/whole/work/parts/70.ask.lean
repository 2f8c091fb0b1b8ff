/-! strand, pull, even, work, holds, isOut, redo -/
theorem zrow {A : List Nat} {O : List (Nat × Int)} {B : Int → Prop} {S : HS} {q : Int} {K1 K2 : HS → zO2} (hI : Inv S) (h : 0 ≤ q → q < S 7 11 → ∃ v : Int, K1 S = some (v, S) ∧ zP (K2 (up S 51 0 0)) (fun b _ => b = v)) (w2 : zW A O B S (zs (up S 51 0 0) fun S1 => zb (M_X12_isRow q S1) fun r2 S3 => if r2 = 0 then some (-1, S3) else K2 S3)) (hA : (A.all fun k => !(cArr.contains k) && cFld.all fun q => q.1 != k) = true) (hO : (O.all fun q => !(isCor q.1 q.2)) = true) : ∃ (r : Int) (S1 S2 : HS), (zb (M_X6_has q S) fun r1 S2 => if r1 = 0 then some (-1, S2) else K1 S2) = some (r, S1) ∧ WR shF S1 ∧ (zs (up S1 51 0 0) fun S1 => zb (M_X12_isRow q S1) fun r2 S3 => if r2 = 0 then some (-1, S3) else K2 S3) = some (r, S2) ∧ Inv S2 := by
  have iR := hI.2.2.2.2.2.1
  have h24 := iR.c.1.2.1
  have e27 : up S 51 0 0 51 27 = S 7 11 := iR.1.1
  by_cases g : 0 ≤ q ∧ q < S 7 11
  · obtain ⟨v, e1, e2⟩ := h g.1 g.2
    refine zfin (m2 := fun T => zs (up T 51 0 0) fun S1 => zb (M_X12_isRow q S1) fun r2 S3 => if r2 = 0 then some (-1, S3) else K2 S3) (r := v) hI ?_ w2 hA hO ?_
    · rw [e_has, zb_some, zif1 (show 0 ≤ q ∧ q < S 7 11 ∧ q < 24 by omega), if_neg (by decide)]
      exact e1
    · show zP (zs (up S 51 0 0) fun S1 => zb (M_X12_isRow q S1) fun r2 S3 => if r2 = 0 then some (-1, S3) else K2 S3) _
      rw [zs_in, m_isRow, zb_some, e27, zif1 g, if_neg (by decide)]
      exact e2
  · refine zfin (m2 := fun T => zs (up T 51 0 0) fun S1 => zb (M_X12_isRow q S1) fun r2 S3 => if r2 = 0 then some (-1, S3) else K2 S3) (r := -1) hI ?_ w2 hA hO ?_
    · rw [e_has, zb_some, zif0 (show ¬ (0 ≤ q ∧ q < S 7 11 ∧ q < 24) by omega), if_pos rfl]
    · show zP (zs (up S 51 0 0) fun S1 => zb (M_X12_isRow q S1) fun r2 S3 => if r2 = 0 then some (-1, S3) else K2 S3) _
      rw [zs_in, m_isRow, zb_some, e27, zif0 g, if_pos rfl, zP_ret]
section AS
variable {S : HS}
theorem e_greatestPull (hI : iSum S) {q : Int} (q0 : 0 ≤ q) (q1 : q < S 7 11) : M_X0_greatestPull q S = some (ym0 (fun k => gPu S (cel S q k)) (S 10 q).toNat, S) := by
  have hR := hI.2.2.2.2.1.c
  have hq := hR.2.1 q q0 q1
  refine zP_eq ?_
  unfold M_X0_greatestPull
  refine zloop2 (b := S 10 q) (fun b k T => (0 ≤ k ∧ k ≤ S 10 q) ∧ T = S ∧ b = ym0 (fun k => gPu S (cel S q k)) k.toNat) (fun n b k T hJ hk => ?_) (fun n b k T hJ hk ih => ?_) _ _ _ _ ⟨⟨Int.le_refl _, by omega⟩, rfl, rfl⟩ (zbig (by omega))
  · obtain ⟨a, rfl, e⟩ := hJ
    rw [L_X0_greatestPull_4.eq_2, e_sizeIn hR, zb_some, if_pos (show 0 ≤ q ∧ q < T 7 11 from ⟨q0, q1⟩), if_pos hk, zP_ret]
    exact ⟨by rw [e, show k = T 10 q by omega], rfl⟩
  · obtain ⟨a, rfl, e⟩ := hJ
    rw [L_X0_greatestPull_4.eq_2, e_sizeIn hR, zb_some, if_pos (show 0 ≤ q ∧ q < T 7 11 from ⟨q0, q1⟩), if_neg (by omega), e_cellIn1 hR q0 q1 a.1 hk, zb_some, e_pullAt hI q0 q1 a.1 hk, zb_some, zl_in (by omega)]
    exact ih _ _ ⟨by omega, rfl, by rw [ym0_s a.1, e]⟩
theorem m_greatestPull (hI : iSum S) {q : Int} (q0 : 0 ≤ q) (q1 : q < S 7 11) : zP (zb (M_X12_braids q S) fun _ T => L_X12_pull_24 q zBig 0 0 T) (fun b _ => b = ym0 (fun k => gPu S (cel S q k)) (S 10 q).toNat) := by
  have hR := hI.2.2.2.2.1.c
  have m0 := hI.2.2.2.2.1.m
  have hq := hR.2.1 q q0 q1
  have h24 := hR.1.2.1
  rw [zP_zb]
  refine zP_mono (m_braids hI q0 q1) (fun _ U hU => ?_)
  have u69 : U 69 q = S 10 q := (congrFun (hU.1 69 (by decide)) q).trans (m0.2.1 q q0 q1)
  refine zloop2 (b := S 10 q) (fun b k T => (0 ≤ k ∧ k ≤ S 10 q) ∧ T = U ∧ b = ym0 (fun k => gPu S (cel S q k)) k.toNat) (fun n b k T hJ hk => ?_) (fun n b k T hJ hk ih => ?_) _ _ _ _ ⟨⟨Int.le_refl _, by omega⟩, rfl, rfl⟩ (zbig (by omega))
  · obtain ⟨a, rfl, e⟩ := hJ
    rw [L_X12_pull_24.eq_2, zg_in (by omega), if_pos (by omega), zP_ret, e, show k = S 10 q by omega]
  · obtain ⟨a, rfl, e⟩ := hJ
    have p := m_pullAt hI q0 q1 a.1 hk hU
    rw [L_X12_pull_24.eq_2, zg_in (by omega), if_neg (by omega), p, zb_some]
    unfold J_X12_pull_54
    by_cases g : gPu S (cel S q k) ≤ b
    · rw [if_pos g, zl_in (by omega)]
      exact ih _ _ ⟨by omega, rfl, by rw [ym0_s a.1, ← e]; omega⟩
    · rw [if_neg g, p, zb_some, zl_in (by omega)]
      exact ih _ _ ⟨by omega, rfl, by rw [ym0_s a.1, ← e]; omega⟩
theorem ok_11 (hI : Inv S) : OK_11 Inv S := by
  intro q hq
  refine zrow (K1 := fun S2 => zb (M_X0_greatestPull q S2) fun r4 S5 => some (r4, S5)) (K2 := fun S3 => zb (M_X12_braids q S3) fun _ S6 => L_X12_pull_24 q zBig 0 0 S6) hI (fun q0 q1 => ⟨ym0 (fun k => gPu S (cel S q k)) (S 10 q).toNat, ?_, ?_⟩) (W_M_X12_pull hq hI.1) (by decide) (by decide)
  · show zb (M_X0_greatestPull q S) (fun r4 S5 => some (r4, S5)) = _
    rw [e_greatestPull hI.2.s q0 q1, zb_some]
  · exact m_greatestPull (iSum_thr hI.2.s 0) q0 q1
theorem e_unevenness (hI : iSum S) {q : Int} (q0 : 0 ≤ q) (q1 : q < S 7 11) : M_X0_unevenness q S = some (ymx (fun k => S 21 (cel S q k)) (S 10 q - 1).toNat - ymn (fun k => S 21 (cel S q k)) (S 10 q - 1).toNat, S) := by
  have hR := hI.2.2.2.2.1.c
  have hq := hR.2.1 q q0 q1
  have c0 := cel_r hR q0 q1 (Int.le_refl 0) (by omega)
  refine zP_eq ?_
  unfold M_X0_unevenness
  rw [e_cellIn1 hR q0 q1 (Int.le_refl 0) (by omega), zb_some, e_hairsBy, zb_some, if_pos c0]
  refine zloop3 (b := S 10 q) (fun a b k T => (1 ≤ k ∧ k ≤ S 10 q) ∧ T = S ∧ a = ymn (fun k => S 21 (cel S q k)) (k - 1).toNat ∧ b = ymx (fun k => S 21 (cel S q k)) (k - 1).toNat) (fun n a b k T hJ hk => ?_) (fun n a b k T hJ hk ih => ?_) _ _ _ _ _ ⟨⟨Int.le_refl _, by omega⟩, rfl, rfl, rfl⟩ (zbig (by omega))
  · obtain ⟨hk0, rfl, e, e'⟩ := hJ
    have ek : k = T 10 q := by omega
    have b1 := ymn_r (f := fun k => T 21 (cel T q k)) (n := (T 10 q - 1).toNat) (a := 0) (b := 19008) (fun i i0 i1 => own_r hI q0 q1 i0 (by omega))
    have b2 := ymx_r (f := fun k => T 21 (cel T q k)) (n := (T 10 q - 1).toNat) (a := 0) (b := 19008) (fun i i0 i1 => own_r hI q0 q1 i0 (by omega))
    rw [ek] at e e'
    rw [L_X0_unevenness_22.eq_2, e_sizeIn hR, zb_some, if_pos (show 0 ≤ q ∧ q < T 7 11 from ⟨q0, q1⟩), if_pos hk, e, e', zl_in (by omega), zP_ret]
    exact ⟨rfl, rfl⟩
  · obtain ⟨hk0, rfl, e, e'⟩ := hJ
    have cr := cel_r hR q0 q1 (show 0 ≤ k by omega) hk
    rw [L_X0_unevenness_22.eq_2, e_sizeIn hR, zb_some, if_pos (show 0 ≤ q ∧ q < T 7 11 from ⟨q0, q1⟩), if_neg (by omega), e_cellIn1 hR q0 q1 (by omega) hk, zb_some, e_hairsBy, zb_some, if_pos cr, zl_in (by omega)]
    refine ih _ _ _ ⟨by omega, rfl, ?_, ?_⟩
    · rw [show k + 1 - 1 = k by omega, ymn_s hk0.1, e]
    · rw [show k + 1 - 1 = k by omega, ymx_s hk0.1, e']
theorem m_unevenness (hI : iSum S) {q : Int} (q0 : 0 ≤ q) (q1 : q < S 7 11) : zP (zb (M_X12_findTotals q S) fun _ S6 => L_X12_even_37 (fun e2 e3 S16 => zl (e2 - e3) fun x17 => some (x17, S16)) q zBig (S6 83 0) (S6 83 0) 1 S6) (fun b _ => b = ymx (fun k => S 21 (cel S q k)) (S 10 q - 1).toNat - ymn (fun k => S 21 (cel S q k)) (S 10 q - 1).toNat) := by
  have hR := hI.2.2.2.2.1.c
  have m0 := hI.2.2.2.2.1.m
  have hq := hR.2.1 q q0 q1
  have h24 := hR.1.2.1
  rw [zP_zb]
  refine zP_mono (m_totals hI q0 q1) (fun _ U hU => ?_)
  have u69 : U 69 q = S 10 q := (congrFun (hU.1 69 (by decide)) q).trans (m0.2.1 q q0 q1)
  have e0 := hU.2 0 (by omega) (by omega)
  refine zloop3 (b := S 10 q) (fun a b k T => (1 ≤ k ∧ k ≤ S 10 q) ∧ T = U ∧ b = ymn (fun k => S 21 (cel S q k)) (k - 1).toNat ∧ a = ymx (fun k => S 21 (cel S q k)) (k - 1).toNat) (fun n a b k T hJ hk => ?_) (fun n a b k T hJ hk ih => ?_) _ _ _ _ _ ⟨⟨Int.le_refl _, by omega⟩, rfl, e0, e0⟩ (zbig (by omega))
  · obtain ⟨hk0, rfl, e, e'⟩ := hJ
    have ek : k = S 10 q := by omega
    have b1 := ymn_r (f := fun k => S 21 (cel S q k)) (n := (S 10 q - 1).toNat) (a := 0) (b := 19008) (fun i i0 i1 => own_r hI q0 q1 i0 (by omega))
    have b2 := ymx_r (f := fun k => S 21 (cel S q k)) (n := (S 10 q - 1).toNat) (a := 0) (b := 19008) (fun i i0 i1 => own_r hI q0 q1 i0 (by omega))
    rw [ek] at e e'
    rw [L_X12_even_37.eq_2, zg_in (by omega), if_pos (by omega), e, e', zl_in (by omega), zP_ret]
  · obtain ⟨hk0, rfl, e, e'⟩ := hJ
    have uk := hU.2 k (by omega) hk
    rw [L_X12_even_37.eq_2, zg_in (by omega), if_neg (by omega), zg_in (by omega), uk]
    unfold J_X12_even_70
    by_cases g : S 21 (cel S q k) ≤ a
    · rw [if_pos g, zg_in (by omega), m_least, zb_some, zl_in (by omega)]
      refine ih _ _ _ ⟨by omega, rfl, ?_, ?_⟩
      · rw [show k + 1 - 1 = k by omega, ymn_s hk0.1, e, uk]
      · rw [show k + 1 - 1 = k by omega, ymx_s hk0.1, ← e']
        omega
    · rw [if_neg g, zg_in (by omega), zg_in (by omega), m_least, zb_some, zl_in (by omega)]
      refine ih _ _ _ ⟨by omega, rfl, ?_, ?_⟩
      · rw [show k + 1 - 1 = k by omega, ymn_s hk0.1, e, uk]
      · rw [show k + 1 - 1 = k by omega, ymx_s hk0.1, ← e']
        omega
theorem ok_12 (hI : Inv S) : OK_12 Inv S := by
  intro q hq
  refine zrow (K1 := fun S2 => zb (M_X0_unevenness q S2) fun r4 S5 => some (r4, S5)) (K2 := fun S3 => zb (M_X12_findTotals q S3) fun _ S6 => L_X12_even_37 (fun e2 e3 S16 => zl (e2 - e3) fun x17 => some (x17, S16)) q zBig (S6 83 0) (S6 83 0) 1 S6) hI (fun q0 q1 => ⟨ymx (fun k => S 21 (cel S q k)) (S 10 q - 1).toNat - ymn (fun k => S 21 (cel S q k)) (S 10 q - 1).toNat, ?_, ?_⟩) (W_M_X12_even hq hI.1) (by decide) (by decide)
  · show zb (M_X0_unevenness q S) (fun r4 S5 => some (r4, S5)) = _
    rw [e_unevenness hI.2.s q0 q1, zb_some]
  · exact m_unevenness (iSum_thr hI.2.s 0) q0 q1
theorem e_lastWeights (hI : iSum S) {q : Int} (q0 : 0 ≤ q) (q1 : q < S 7 11) : M_X0_lastWeights q S = some (gWs S (cel S q (S 10 q - 1)), S) := by
  have hR := hI.2.2.2.2.1.c
  have hq := hR.2.1 q q0 q1
  have cr := cel_r hR q0 q1 (show 0 ≤ S 10 q - 1 by omega) (by omega)
  have b := gW_r hI q0 q1 (show 0 ≤ S 10 q - 1 by omega) (by omega)
  unfold M_X0_lastWeights gWs
  rw [e_lastCell hR q0 q1, zb_some, e_weightAt cr.1 cr.2, zb_some, e_weightAt cr.1 cr.2, zb_some, e_weightAt cr.1 cr.2, zb_some, if_pos rfl, if_neg (by decide), if_pos rfl, if_neg (by decide), if_neg (by decide), zl_in (by omega)]
theorem m_lastWeights (hI : iSum S) {q : Int} (q0 : 0 ≤ q) (q1 : q < S 7 11) : zP (M_X12_lastWeights q S) (fun b T => b = gWs S (cel S q (S 10 q - 1)) ∧ rSame [77, 78, 83, 84, 85, 86, 87, 88] S T) := by
  have hR := hI.2.2.2.2.1.c
  have m0 := hI.2.2.2.2.1.m
  have hq := hR.2.1 q q0 q1
  have h24 := hR.1.2.1
  have b := gW_r hI q0 q1 (show 0 ≤ S 10 q - 1 by omega) (by omega)
  unfold M_X12_lastWeights
  rw [zP_zb]
  refine zP_mono (m_braids hI q0 q1) (fun _ U hU => ?_)
  have u69 : U 69 q = S 10 q := (congrFun (hU.1 69 (by decide)) q).trans (m0.2.1 q q0 q1)
  have w := hU.2.2.1 (S 10 q - 1) (by omega) (by omega)
  rw [zg_in (by omega), u69, zl_in (by omega), zg_in (by omega), zg_in (by omega), zg_in (by omega), w.1, w.2.1, w.2.2, zl_in (by omega), zP_ret]
  exact ⟨rfl, hU.1⟩
theorem m_timesAdded (hI : iSum S) {q : Int} (q0 : 0 ≤ q) (q1 : q < S 7 11) : M_X12_timesAdded q S = some (S 13 q, S) ∧ 0 ≤ S 13 q ∧ S 13 q ≤ 60 := by
  have iA := hI.2.2.2.2.2.2.1
  have h0 := iA.1
  have bd : ∀ v : Int, 0 ≤ v → v ≤ S 23 4 → 0 ≤ zsum (fun i => if S 24 i = q then 1 else 0) v.toNat ∧ zsum (fun i => if S 24 i = q then 1 else 0) v.toNat ≤ 60 := by
    intro v v0 v1
    have := zsum_bd (f := fun i => if S 24 i = q then (1 : Int) else 0) (n := v.toNat) (c := 1) (fun i i0 i1 => by
      show 0 ≤ (if S 24 i = q then (1 : Int) else 0) ∧ (if S 24 i = q then (1 : Int) else 0) ≤ 1
      split <;> omega)
    omega
  have e13 := iA.2.2.2 q q0 q1
  refine ⟨zP_eq ?_, by rw [e13]; exact bd _ h0.2.1 (Int.le_refl _)⟩
  unfold M_X12_timesAdded
  refine zloop2 (b := S 23 4) (fun b v T => (0 ≤ v ∧ v ≤ S 23 4) ∧ T = S ∧ b = zsum (fun i => if S 24 i = q then 1 else 0) v.toNat) (fun n b v T hJ hv => ?_) (fun n b v T hJ hv ih => ?_) _ _ _ _ ⟨⟨Int.le_refl _, h0.2.1⟩, rfl, rfl⟩ (zbig (by omega))
  · obtain ⟨a, rfl, e⟩ := hJ
    rw [L_X12_timesAdded_4.eq_2, if_pos (by omega), zP_ret, e, e13, show v = T 23 4 by omega]
    exact ⟨rfl, rfl⟩
  · obtain ⟨a, rfl, e⟩ := hJ
    have z := iA.2.1 v a.1 hv
    have b0 := bd v a.1 a.2
    have s : zsum (fun i => if T 24 i = q then (1 : Int) else 0) (v + 1).toNat = b + if T 24 v = q then 1 else 0 := by
      rw [show (v + 1).toNat = v.toNat + 1 by omega, zsum_s, ← e]
      show b + (if T 24 (v.toNat : Int) = q then (1 : Int) else 0) = _
      rw [Int.toNat_of_nonneg a.1]
    rw [L_X12_timesAdded_4.eq_2, if_neg (by omega), zg_in (by omega), z.1.1]
    unfold J_X12_timesAdded_28
    by_cases g : T 24 v = q
    · rw [if_pos g, zl_in (by omega), zl_in (by omega)]
      exact ih _ _ ⟨by omega, rfl, by rw [s, if_pos g]⟩
    · rw [if_neg g, zl_in (by omega), zl_in (by omega)]
      exact ih _ _ ⟨by omega, rfl, by rw [s, if_neg g]⟩
def gMi (S : HS) (q : Int) : Int := 2 * S 10 q + gWs S (cel S q (S 10 q - 1)) / 10 + 5 * S 13 q
theorem gMi_r (hI : iSum S) {q : Int} (q0 : 0 ≤ q) (q1 : q < S 7 11) : 0 ≤ gMi S q ∧ gMi S q ≤ 2000000 := by
  have hq := hI.2.2.2.2.1.c.2.1 q q0 q1
  have b := gW_r hI q0 q1 (show 0 ≤ S 10 q - 1 by omega) (by omega)
  have t := (m_timesAdded hI q0 q1).2
  unfold gMi gWs
  omega
theorem e_minutes (hI : iSum S) {q : Int} (q0 : 0 ≤ q) (q1 : q < S 7 11) : M_X0_minutes q S = some (gMi S q, S) := by
  have hR := hI.2.2.2.2.1.c
  have hq := hR.2.1 q q0 q1
  have b := gW_r hI q0 q1 (show 0 ≤ S 10 q - 1 by omega) (by omega)
  have r := gMi_r hI q0 q1
  unfold M_X0_minutes
  unfold gMi gWs at r
  rw [e_sizeIn hR, zb_some, e_lastWeights hI q0 q1, zb_some, zg_in (by unfold gWs; omega), e_timesAddedTo hR, zb_some, if_pos (show 0 ≤ q ∧ q < S 7 11 from ⟨q0, q1⟩), if_pos (show 0 ≤ q ∧ q < S 7 11 from ⟨q0, q1⟩), zl_in (by unfold gWs; omega)]
  rfl
theorem m_workOf (hI : iSum S) {q : Int} (q0 : 0 ≤ q) (q1 : q < S 7 11) : zP (M_X12_workOf q S) (fun b T => b = gMi S q ∧ rSame [77, 78, 83, 84, 85, 86, 87, 88] S T) := by
  have hR := hI.2.2.2.2.1.c
  have m0 := hI.2.2.2.2.1.m
  have hq := hR.2.1 q q0 q1
  have h24 := hR.1.2.1
  have b := gW_r hI q0 q1 (show 0 ≤ S 10 q - 1 by omega) (by omega)
  have r := gMi_r hI q0 q1
  unfold M_X12_workOf
  rw [zg_in (by omega), zP_zb]
  refine zP_mono (m_lastWeights hI q0 q1) (fun v U hU => ?_)
  obtain ⟨rfl, hs⟩ := hU
  have IU : iSum U := rSame.all hI hs (by decide)
  have u7 : U 7 = S 7 := hs 7 (by decide)
  have u13 : U 13 = S 13 := hs 13 (by decide)
  unfold gMi gWs at r
  rw [zg_in (by unfold gWs; omega), (m_timesAdded IU q0 (by rw [u7]; exact q1)).1, zb_some, u13, m0.2.1 q q0 q1, zl_in (by unfold gWs; omega), zP_ret]
  exact ⟨rfl, hs⟩
theorem ok_16 (hI : Inv S) : OK_16 Inv S := by
  intro q hq
  refine zrow (K1 := fun S2 => zb (M_X0_minutes q S2) fun r4 S5 => some (r4, S5)) (K2 := fun S3 => zb (M_X12_workOf q S3) fun r5 S6 => some (r5, S6)) hI (fun q0 q1 => ⟨gMi S q, ?_, ?_⟩) (W_M_X12_work hq hI.1) (by decide) (by decide)
  · show zb (M_X0_minutes q S) (fun r4 S5 => some (r4, S5)) = _
    rw [e_minutes hI.2.s q0 q1, zb_some]
  · show zP (zb (M_X12_workOf q (up S 51 0 0)) fun r5 S6 => some (r5, S6)) _
    rw [zP_zb]
    refine zP_mono (m_workOf (iSum_thr hI.2.s 0) q0 q1) (fun b T hT => ?_)
    rw [zP_ret]
    exact hT.1
def gHo (S : HS) (q : Int) : Int := min 8 (ymn (fun k => gLo S (cel S q k)) (S 10 q - 1).toNat / 4 + 1)
theorem gHo_r (hI : iSum S) {q : Int} (q0 : 0 ≤ q) (q1 : q < S 7 11) : 1 ≤ gHo S q ∧ gHo S q ≤ 8 ∧ 0 ≤ ymn (fun k => gLo S (cel S q k)) (S 10 q - 1).toNat ∧ ymn (fun k => gLo S (cel S q k)) (S 10 q - 1).toNat ≤ 4800000 := by
  have hq := hI.2.2.2.2.1.c.2.1 q q0 q1
  have b1 := ymn_r (f := fun k => gLo S (cel S q k)) (n := (S 10 q - 1).toNat) (a := 0) (b := 4800000) (fun i i0 i1 => by
    have := gLo_r hI q0 q1 i0 (show i < S 10 q by omega)
    exact ⟨by omega, by omega⟩)
  unfold gHo
  omega
theorem e_weeksHeld (hI : iSum S) {q : Int} (q0 : 0 ≤ q) (q1 : q < S 7 11) : M_X0_weeksHeld q S = some (gHo S q, S) := by
  have hR := hI.2.2.2.2.1.c
  have hq := hR.2.1 q q0 q1
  have c0 := cel_r hR q0 q1 (Int.le_refl 0) (by omega)
  have hr := gHo_r hI q0 q1
  refine zP_eq ?_
  unfold M_X0_weeksHeld
  rw [e_cellIn1 hR q0 q1 (Int.le_refl 0) (by omega), zb_some, e_leastAt c0.1 c0.2, zb_some]
  refine zloop2 (b := S 10 q) (fun b k T => (1 ≤ k ∧ k ≤ S 10 q) ∧ T = S ∧ b = ymn (fun k => gLo S (cel S q k)) (k - 1).toNat) (fun n b k T hJ hk => ?_) (fun n b k T hJ hk ih => ?_) _ _ _ _ ⟨⟨Int.le_refl _, by omega⟩, rfl, rfl⟩ (zbig (by omega))
  · obtain ⟨hk0, rfl, e⟩ := hJ
    rw [show k = T 10 q by omega] at e
    rw [L_X0_weeksHeld_16.eq_2, e_sizeIn hR, zb_some, if_pos (show 0 ≤ q ∧ q < T 7 11 from ⟨q0, q1⟩), if_pos hk, e, zg_in (by omega), zl_in (by omega), zP_ret]
    exact ⟨rfl, rfl⟩
  · obtain ⟨hk0, rfl, e⟩ := hJ
    have cr := cel_r hR q0 q1 (show 0 ≤ k by omega) hk
    rw [L_X0_weeksHeld_16.eq_2, e_sizeIn hR, zb_some, if_pos (show 0 ≤ q ∧ q < T 7 11 from ⟨q0, q1⟩), if_neg (by omega), e_cellIn1 hR q0 q1 (by omega) hk, zb_some, e_leastAt cr.1 cr.2, zb_some, zl_in (by omega)]
    exact ih _ _ ⟨by omega, rfl, by rw [show k + 1 - 1 = k by omega, ymn_s hk0.1, e]⟩
theorem m_holdsFor (hI : iSum S) {q : Int} (q0 : 0 ≤ q) (q1 : q < S 7 11) : zP (M_X12_holdsFor q S) (fun b T => b = gHo S q ∧ rSame [77, 78, 83, 84, 85, 86, 87, 88] S T) := by
  have hR := hI.2.2.2.2.1.c
  have m0 := hI.2.2.2.2.1.m
  have hq := hR.2.1 q q0 q1
  have h24 := hR.1.2.1
  have hr := gHo_r hI q0 q1
  unfold M_X12_holdsFor
  rw [zP_zb]
  refine zP_mono (m_braids hI q0 q1) (fun _ U hU => ?_)
  have u69 : U 69 q = S 10 q := (congrFun (hU.1 69 (by decide)) q).trans (m0.2.1 q q0 q1)
  rw [(hU.hi (Int.le_refl 0) (by omega) (by omega)).2, zb_some]
  refine zloop2 (b := S 10 q) (fun b k T => (1 ≤ k ∧ k ≤ S 10 q) ∧ T = U ∧ b = ymn (fun k => gLo S (cel S q k)) (k - 1).toNat) (fun n b k T hJ hk => ?_) (fun n b k T hJ hk ih => ?_) _ _ _ _ ⟨⟨Int.le_refl _, by omega⟩, rfl, rfl⟩ (zbig (by omega))
  · obtain ⟨hk0, rfl, e⟩ := hJ
    rw [show k = S 10 q by omega] at e
    rw [L_X12_holdsFor_13.eq_2, zg_in (by omega), if_pos (by omega), e, zg_in (by omega), zl_in (by omega), m_least, zb_some, zP_ret]
    exact ⟨rfl, hU.1⟩
  · obtain ⟨hk0, rfl, e⟩ := hJ
    rw [L_X12_holdsFor_13.eq_2, zg_in (by omega), if_neg (by omega), (hU.hi (show 0 ≤ k by omega) hk (by omega)).2, zb_some, m_least, zb_some, zl_in (by omega)]
    exact ih _ _ ⟨by omega, rfl, by rw [show k + 1 - 1 = k by omega, ymn_s hk0.1, e]⟩
theorem ok_22 (hI : Inv S) : OK_22 Inv S := by
  intro q hq
  refine zrow (K1 := fun S2 => zb (M_X0_weeksHeld q S2) fun r4 S5 => some (r4, S5)) (K2 := fun S3 => zb (M_X12_holdsFor q S3) fun r5 S6 => some (r5, S6)) hI (fun q0 q1 => ⟨gHo S q, ?_, ?_⟩) (W_M_X12_holds hq hI.1) (by decide) (by decide)
  · show zb (M_X0_weeksHeld q S) (fun r4 S5 => some (r4, S5)) = _
    rw [e_weeksHeld hI.2.s q0 q1, zb_some]
  · show zP (zb (M_X12_holdsFor q (up S 51 0 0)) fun r5 S6 => some (r5, S6)) _
    rw [zP_zb]
    refine zP_mono (m_holdsFor (iSum_thr hI.2.s 0) q0 q1) (fun b T hT => ?_)
    rw [zP_ret]
    exact hT.1
def gOu (S : HS) (w q : Int) : Int := if w = -1 then 0 else if S 1 2 - w < gHo S q then 0 else 1
theorem e_isGrownOut (hI : iSum S) {q : Int} (q0 : 0 ≤ q) (q1 : q < S 7 11) (hw : -1 ≤ S 15 q ∧ S 15 q ≤ S 1 2) : M_X11_isGrownOut q S = some (gOu S (S 15 q) q, S) := by
  have hR := hI.2.2.2.2.1.c
  obtain ⟨l1, l2, l3, l4, l5, l6⟩ := hI.1
  unfold M_X11_isGrownOut gOu
  rw [e_weekOf hR, zb_some, if_pos (show 0 ≤ q ∧ q < S 7 11 from ⟨q0, q1⟩), e_weeksHeld hI q0 q1, zb_some]
  split
  · rfl
  · rw [zl_in (by omega)]
    split <;> rfl
theorem m_isOutNow (hI : iSum S) {q : Int} (q0 : 0 ≤ q) (q1 : q < S 7 11) (hw : -1 ≤ S 71 q ∧ S 71 q ≤ S 1 2) : zP (M_X12_isOutNow q S) (fun b T => b = gOu S (S 71 q) q ∧ rSame [77, 78, 83, 84, 85, 86, 87, 88] S T) := by
  have h24 := hI.2.2.2.2.1.c.1.2.1
  obtain ⟨l1, l2, l3, l4, l5, l6⟩ := hI.1
  unfold M_X12_isOutNow gOu
  rw [zg_in (by omega)]
  by_cases g : S 71 q = -1
  · rw [if_pos (by omega), if_pos g, zP_ret]
    exact ⟨rfl, fun _ _ => rfl⟩
  · rw [if_neg (by omega), if_neg g, zg_in (by omega), zP_zb]
    refine zP_mono (m_holdsFor hI q0 q1) (fun b T hT => ?_)
    rw [l4, zl_in (by omega), hT.1]
    split
    · rw [zP_ret]
      exact ⟨rfl, hT.2⟩
    · rw [zP_ret]
      exact ⟨rfl, hT.2⟩
theorem ok_23 (hI : Inv S) : OK_23 Inv S := by
  intro q hq
  refine zrow (K1 := fun S2 => zb (M_X11_isGrownOut q S2) fun r4 S5 => if r4 = 0 then some (0, S5) else some (1, S5)) (K2 := fun S3 => zb (M_X12_isOutNow q S3) fun r5 S6 => if r5 = 0 then some (0, S6) else some (1, S6)) hI (fun q0 q1 => ⟨if gOu S (S 15 q) q = 0 then 0 else 1, ?_, ?_⟩) (W_M_X12_isOut hq hI.1) (by decide) (by decide)
  · have iM := hI.2.2.2.2.2.2.1.1 q q0 q1
    show zb (M_X11_isGrownOut q S) (fun r4 S5 => if r4 = 0 then some (0, S5) else some (1, S5)) = _
    rw [e_isGrownOut hI.2.s q0 q1 (by omega), zb_some]
    split <;> rfl
  · have iM := hI.2.2.2.2.2.2.1.1 q q0 q1
    show zP (zb (M_X12_isOutNow q (up S 51 0 0)) fun r5 S6 => if r5 = 0 then some (0, S6) else some (1, S6)) _
    rw [zP_zb]
    refine zP_mono (m_isOutNow (iSum_thr hI.2.s 0) q0 q1 (by show -1 ≤ S 71 q ∧ S 71 q ≤ S 1 2; omega)) (fun b T hT => ?_)
    have e : b = gOu S (S 71 q) q := hT.1
    rw [e, iM.1]
    split <;> rw [zP_ret]
theorem rsame_up2 {L : List Nat} {S T : HS} {k : Nat} {i v : Int} (h : rSame L S T) : rSame L (up S k i v) (up T k i v) := by
  intro x hx
  funext j
  rw [up_at, up_at, h x hx]
theorem e_has1 {q : Int} (hR : cRow S) (q0 : 0 ≤ q) (q1 : q < S 7 11) : M_X6_has q S = some (1, S) := by
  have h24 := hR.1.2.1
  rw [e_has, zif1 (by omega)]
set_option maxHeartbeats 1000000 in
theorem ok_24 (hI : Inv S) : OK_24 Inv S := by
  intro q hq
  obtain ⟨hW, iL, iT, iW, iP, iR, iM, iA, iG, iC, iE, iK, iB⟩ := id hI
  have iR := hI.2.2.2.2.2.1
  have h24 := iR.c.1.2.1
  have iS := hI.2.s
  refine zcallQ hW (W_M_X11_redo hq hW) (fun T w => W_M_X12_redo hq w) ?_
  have k0 : iAll (up S 51 0 0) := iAll_thr hI.2 0
  have e27 : ∀ T : HS, T 51 27 = S 7 11 → M_X12_isRow q T = some (if 0 ≤ q ∧ q < S 7 11 then 1 else 0, T) := fun T e => by rw [m_isRow, e]
  by_cases g : 0 ≤ q ∧ q < S 7 11
  · obtain ⟨q0, q1⟩ := g
    have m := iM.1 q q0 q1
    have keep : zP (M_X12_redo q S) (fun r' U => r' = 0 ∧ iAll U) ∨ (S 14 q = -1 ∧ gOu S (S 15 q) q ≠ 0) := by
      by_cases t : S 14 q = -1 ∧ gOu S (S 15 q) q ≠ 0
      · exact Or.inr t
      · refine Or.inl ?_
        unfold M_X12_redo
        rw [zs_in, e27 (up S 51 0 0) iR.1.1, zb_some, zif1 ⟨q0, q1⟩, if_neg (by decide), zg_in (by omega)]
        show zP (if 0 ≤ S 72 q then _ else _) _
        by_cases t2 : S 14 q = -1
        · rw [if_neg (by omega), zP_zb]
          refine zP_mono (m_isOutNow k0.s q0 q1 (by show -1 ≤ S 71 q ∧ S 71 q ≤ S 1 2; omega)) (fun b T hT => ?_)
          have e : b = gOu S (S 71 q) q := hT.1
          rw [m.1] at e
          have z : gOu S (S 15 q) q = 0 := by
            by_cases y : gOu S (S 15 q) q = 0
            · exact y
            · exact absurd ⟨t2, y⟩ t
          rw [if_pos (by rw [e]; exact z), zP_ret]
          exact ⟨rfl, rSame.alla k0 hT.2 (by decide)⟩
        · rw [if_pos (by omega), zP_ret]
          exact ⟨rfl, k0⟩
    unfold M_X11_redo
    rw [e_has1 iR.c q0 q1, zb_some, if_neg (by decide), e_isGrownOut iS q0 q1 (by omega), zb_some]
    unfold M_X6_isTied
    rw [e_knotWith iR.c, zb_some, if_pos (show 0 ≤ q ∧ q < S 7 11 from ⟨q0, q1⟩)]
    by_cases t : gOu S (S 15 q) q = 0
    · rw [if_pos t, zP_ret]
      intro _
      rcases keep with x | x
      · exact x
      · exact absurd t x.2
    · rw [if_neg t]
      by_cases t2 : S 14 q = -1
      · rw [if_pos t2, zb_some, if_pos rfl]
        unfold M_X6_putWeek
        rw [e_has1 iR.c q0 q1, zb_some, if_neg (by decide), zg_in (by omega), zs_in, zb_some, zP_ret]
        intro _
        unfold M_X12_redo
        rw [zs_in, e27 (up (up S 15 q (S 1 2)) 51 0 0) iR.1.1, zb_some, zif1 ⟨q0, q1⟩, if_neg (by decide), zg_in (by omega)]
        show zP (if 0 ≤ S 72 q then _ else _) _
        have kS : iSum (up (up S 15 q (S 1 2)) 51 0 0) := ⟨iL, iT, iW, iP, iR, trivial, iA, iG, iC, iE, iK, iB⟩
        rw [if_neg (by omega), zP_zb]
        refine zP_mono (m_isOutNow kS q0 q1 (by show -1 ≤ S 71 q ∧ S 71 q ≤ S 1 2; omega)) (fun b T hT => ?_)
        have e : b = gOu S (S 71 q) q := hT.1
        rw [m.1] at e
        rw [if_neg (by rw [e]; exact t), zg_in (by omega), zs_in, zP_ret]
        refine ⟨rfl, ?_⟩
        have t38 : T 51 38 = S 1 2 := (congrFun (hT.2 51 (by decide)) 38).trans iL.2.2.2.1
        rw [t38]
        have kA : iAll (up (up (up S 15 q (S 1 2)) 51 0 0) 71 q (S 1 2)) := by
          refine ⟨iL, iT, iW, iP, iR, ⟨fun r r0 r1 => ?_, iM.2⟩, iA, iG, iC, iE, iK, iB⟩
          have y := iM.1 r r0 r1
          have l5 := iL.2.2.2.2
          show up (up (up S 15 q (S 1 2)) 51 0 0) 71 q (S 1 2) 71 r = up (up (up S 15 q (S 1 2)) 51 0 0) 71 q (S 1 2) 15 r ∧ -1 ≤ up (up (up S 15 q (S 1 2)) 51 0 0) 71 q (S 1 2) 15 r ∧ up (up (up S 15 q (S 1 2)) 51 0 0) 71 q (S 1 2) 15 r ≤ S 1 2 ∧ S 72 r = S 14 r ∧ -1 ≤ S 14 r ∧ S 14 r < S 7 12
          rw [up_same, up_cell _ (by decide), up_cell _ (by decide), up_cell _ (by decide), up_cell _ (by decide), up_same]
          by_cases z : r = q
          · rw [if_pos z, if_pos z]
            omega
          · rw [if_neg z, if_neg z]
            exact y
        exact rSame.alla kA (rsame_up2 hT.2) (by decide)
      · rw [if_neg t2, zb_some, if_neg (by decide), zP_ret]
        intro _
        rcases keep with x | x
        · exact x
        · exact absurd x.1 t2
  · unfold M_X11_redo
    rw [e_has, zb_some, zif0 (by omega), if_pos rfl, zP_ret]
    intro _
    unfold M_X12_redo
    rw [zs_in, e27 (up S 51 0 0) iR.1.1, zb_some, zif0 g, if_pos rfl, zP_ret]
    exact ⟨rfl, k0⟩
end AS
